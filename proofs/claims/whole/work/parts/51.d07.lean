theorem dX11_home_172 : decode cX11_home 172 = .ok (.imul, 1) := by decide +kernel
theorem dX11_home_173 : decode cX11_home 173 = .ok (.iload_n 2, 1) := by decide +kernel
theorem dX11_home_174 : decode cX11_home 174 = .ok (.iadd, 1) := by decide +kernel
theorem dX11_home_175 : decode cX11_home 175 = .ok (.iconst 5, 1) := by decide +kernel
theorem dX11_home_176 : decode cX11_home 176 = .ok (.isub, 1) := by decide +kernel
theorem dX11_home_177 : decode cX11_home 177 = .ok (.iaload, 1) := by decide +kernel
theorem dX11_home_178 : decode cX11_home 178 = .ok (.ireturn, 1) := by decide +kernel
theorem dX11_waiting_0 : decode cX11_waiting 0 = .ok (.aload_n 0, 1) := by decide +kernel
theorem dX11_waiting_1 : decode cX11_waiting 1 = .ok (.iconst 0, 1) := by decide +kernel
theorem dX11_waiting_2 : decode cX11_waiting 2 = .ok (.putfield 306, 3) := by decide +kernel
theorem dX11_waiting_5 : decode cX11_waiting 5 = .ok (.iload_n 1, 1) := by decide +kernel
theorem dX11_waiting_6 : decode cX11_waiting 6 = .ok (.ifCond .lt 13, 3) := by decide +kernel
theorem dX11_waiting_9 : decode cX11_waiting 9 = .ok (.iload_n 1, 1) := by decide +kernel
theorem dX11_waiting_10 : decode cX11_waiting 10 = .ok (.aload_n 0, 1) := by decide +kernel
theorem dX11_waiting_11 : decode cX11_waiting 11 = .ok (.getfield 47, 3) := by decide +kernel
theorem dX11_waiting_14 : decode cX11_waiting 14 = .ok (.iconst 4, 1) := by decide +kernel
theorem dX11_waiting_15 : decode cX11_waiting 15 = .ok (.iaload, 1) := by decide +kernel
theorem dX11_waiting_16 : decode cX11_waiting 16 = .ok (.if_icmp .lt 5, 3) := by decide +kernel
theorem dX11_waiting_19 : decode cX11_waiting 19 = .ok (.iconst (-1), 1) := by decide +kernel
theorem dX11_waiting_20 : decode cX11_waiting 20 = .ok (.ireturn, 1) := by decide +kernel
theorem dX11_waiting_21 : decode cX11_waiting 21 = .ok (.iconst 0, 1) := by decide +kernel
theorem dX11_waiting_22 : decode cX11_waiting 22 = .ok (.istore_n 2, 1) := by decide +kernel
theorem dX11_waiting_23 : decode cX11_waiting 23 = .ok (.iconst 0, 1) := by decide +kernel
theorem dX11_waiting_24 : decode cX11_waiting 24 = .ok (.istore_n 3, 1) := by decide +kernel
theorem dX11_waiting_25 : decode cX11_waiting 25 = .ok (.iload_n 3, 1) := by decide +kernel
theorem dX11_waiting_26 : decode cX11_waiting 26 = .ok (.aload_n 0, 1) := by decide +kernel
theorem dX11_waiting_27 : decode cX11_waiting 27 = .ok (.getfield 313, 3) := by decide +kernel
theorem dX11_waiting_30 : decode cX11_waiting 30 = .ok (.if_icmp .ge 37, 3) := by decide +kernel
theorem dX11_waiting_33 : decode cX11_waiting 33 = .ok (.iload_n 2, 1) := by decide +kernel
theorem dX11_waiting_34 : decode cX11_waiting 34 = .ok (.aload_n 0, 1) := by decide +kernel
theorem dX11_waiting_35 : decode cX11_waiting 35 = .ok (.getfield 141, 3) := by decide +kernel
theorem dX11_waiting_38 : decode cX11_waiting 38 = .ok (.bipush 7, 2) := by decide +kernel
theorem dX11_waiting_40 : decode cX11_waiting 40 = .ok (.iload_n 3, 1) := by decide +kernel
theorem dX11_waiting_41 : decode cX11_waiting 41 = .ok (.imul, 1) := by decide +kernel
theorem dX11_waiting_42 : decode cX11_waiting 42 = .ok (.iaload, 1) := by decide +kernel
theorem dX11_waiting_43 : decode cX11_waiting 43 = .ok (.aload_n 0, 1) := by decide +kernel
theorem dX11_waiting_44 : decode cX11_waiting 44 = .ok (.getfield 47, 3) := by decide +kernel
theorem dX11_waiting_47 : decode cX11_waiting 47 = .ok (.iconst 4, 1) := by decide +kernel
theorem dX11_waiting_48 : decode cX11_waiting 48 = .ok (.iaload, 1) := by decide +kernel
theorem dX11_waiting_49 : decode cX11_waiting 49 = .ok (.irem, 1) := by decide +kernel
theorem dX11_waiting_50 : decode cX11_waiting 50 = .ok (.iload_n 1, 1) := by decide +kernel
theorem dX11_waiting_51 : decode cX11_waiting 51 = .ok (.if_icmp .ne 7, 3) := by decide +kernel
theorem dX11_waiting_54 : decode cX11_waiting 54 = .ok (.iconst 1, 1) := by decide +kernel
theorem dX11_waiting_55 : decode cX11_waiting 55 = .ok (.goto 4, 3) := by decide +kernel
theorem dX11_waiting_58 : decode cX11_waiting 58 = .ok (.iconst 0, 1) := by decide +kernel
theorem dX11_waiting_59 : decode cX11_waiting 59 = .ok (.iadd, 1) := by decide +kernel
theorem dX11_waiting_60 : decode cX11_waiting 60 = .ok (.istore_n 2, 1) := by decide +kernel
theorem dX11_waiting_61 : decode cX11_waiting 61 = .ok (.iinc 3 1, 3) := by decide +kernel
theorem dX11_waiting_64 : decode cX11_waiting 64 = .ok (.goto (-39), 3) := by decide +kernel
theorem dX11_waiting_67 : decode cX11_waiting 67 = .ok (.iload_n 2, 1) := by decide +kernel
theorem dX11_waiting_68 : decode cX11_waiting 68 = .ok (.ireturn, 1) := by decide +kernel
theorem dX11_memory_0 : decode cX11_memory 0 = .ok (.aload_n 0, 1) := by decide +kernel
theorem dX11_memory_1 : decode cX11_memory 1 = .ok (.iload_n 1, 1) := by decide +kernel
theorem dX11_memory_2 : decode cX11_memory 2 = .ok (.invokestatic 702, 3) := by decide +kernel
theorem dX11_memory_5 : decode cX11_memory 5 = .ok (.ifCond .eq 7, 3) := by decide +kernel
theorem dX11_memory_8 : decode cX11_memory 8 = .ok (.iconst 0, 1) := by decide +kernel
theorem dX11_memory_9 : decode cX11_memory 9 = .ok (.goto 4, 3) := by decide +kernel
theorem dX11_memory_12 : decode cX11_memory 12 = .ok (.iconst 1, 1) := by decide +kernel
theorem dX11_memory_13 : decode cX11_memory 13 = .ok (.putfield 306, 3) := by decide +kernel
theorem dX11_memory_16 : decode cX11_memory 16 = .ok (.aload_n 0, 1) := by decide +kernel
theorem dX11_memory_17 : decode cX11_memory 17 = .ok (.getfield 306, 3) := by decide +kernel
theorem dX11_memory_20 : decode cX11_memory 20 = .ok (.ifCond .eq 7, 3) := by decide +kernel
theorem dX11_memory_23 : decode cX11_memory 23 = .ok (.iconst 0, 1) := by decide +kernel
theorem dX11_memory_24 : decode cX11_memory 24 = .ok (.goto 11, 3) := by decide +kernel
theorem dX11_memory_27 : decode cX11_memory 27 = .ok (.aload_n 0, 1) := by decide +kernel
theorem dX11_memory_28 : decode cX11_memory 28 = .ok (.getfield 56, 3) := by decide +kernel
theorem dX11_memory_31 : decode cX11_memory 31 = .ok (.iload_n 1, 1) := by decide +kernel
theorem dX11_memory_32 : decode cX11_memory 32 = .ok (.iconst 4, 1) := by decide +kernel
theorem dX11_memory_33 : decode cX11_memory 33 = .ok (.idiv, 1) := by decide +kernel
theorem dX11_memory_34 : decode cX11_memory 34 = .ok (.iaload, 1) := by decide +kernel
theorem dX11_memory_35 : decode cX11_memory 35 = .ok (.ireturn, 1) := by decide +kernel
theorem dX11_word_0 : decode cX11_word 0 = .ok (.aload_n 0, 1) := by decide +kernel
theorem dX11_word_1 : decode cX11_word 1 = .ok (.iload_n 1, 1) := by decide +kernel
theorem dX11_word_2 : decode cX11_word 2 = .ok (.invokestatic 702, 3) := by decide +kernel
theorem dX11_word_5 : decode cX11_word 5 = .ok (.ifCond .eq 7, 3) := by decide +kernel
theorem dX11_word_8 : decode cX11_word 8 = .ok (.iconst 0, 1) := by decide +kernel
theorem dX11_word_9 : decode cX11_word 9 = .ok (.goto 4, 3) := by decide +kernel
theorem dX11_word_12 : decode cX11_word 12 = .ok (.iconst 1, 1) := by decide +kernel
theorem dX11_word_13 : decode cX11_word 13 = .ok (.putfield 306, 3) := by decide +kernel
theorem dX11_word_16 : decode cX11_word 16 = .ok (.aload_n 0, 1) := by decide +kernel
theorem dX11_word_17 : decode cX11_word 17 = .ok (.getfield 306, 3) := by decide +kernel
theorem dX11_word_20 : decode cX11_word 20 = .ok (.ifCond .eq 7, 3) := by decide +kernel
theorem dX11_word_23 : decode cX11_word 23 = .ok (.iconst 0, 1) := by decide +kernel
theorem dX11_word_24 : decode cX11_word 24 = .ok (.goto 11, 3) := by decide +kernel
theorem dX11_word_27 : decode cX11_word 27 = .ok (.aload_n 0, 1) := by decide +kernel
theorem dX11_word_28 : decode cX11_word 28 = .ok (.getfield 53, 3) := by decide +kernel
theorem dX11_word_31 : decode cX11_word 31 = .ok (.iload_n 1, 1) := by decide +kernel
theorem dX11_word_32 : decode cX11_word 32 = .ok (.iconst 4, 1) := by decide +kernel
theorem dX11_word_33 : decode cX11_word 33 = .ok (.idiv, 1) := by decide +kernel
theorem dX11_word_34 : decode cX11_word 34 = .ok (.iaload, 1) := by decide +kernel
theorem dX11_word_35 : decode cX11_word 35 = .ok (.ireturn, 1) := by decide +kernel
theorem dX11_message_0 : decode cX11_message 0 = .ok (.iload_n 1, 1) := by decide +kernel
theorem dX11_message_1 : decode cX11_message 1 = .ok (.ifCond .lt 21, 3) := by decide +kernel
theorem dX11_message_4 : decode cX11_message 4 = .ok (.iload_n 1, 1) := by decide +kernel
theorem dX11_message_5 : decode cX11_message 5 = .ok (.aload_n 0, 1) := by decide +kernel
theorem dX11_message_6 : decode cX11_message 6 = .ok (.getfield 316, 3) := by decide +kernel
theorem dX11_message_9 : decode cX11_message 9 = .ok (.if_icmp .ge 13, 3) := by decide +kernel
theorem dX11_message_12 : decode cX11_message 12 = .ok (.iload_n 2, 1) := by decide +kernel
theorem dX11_message_13 : decode cX11_message 13 = .ok (.ifCond .lt 9, 3) := by decide +kernel
theorem dX11_message_16 : decode cX11_message 16 = .ok (.iload_n 2, 1) := by decide +kernel
theorem dX11_message_17 : decode cX11_message 17 = .ok (.bipush 9, 2) := by decide +kernel
theorem dX11_message_19 : decode cX11_message 19 = .ok (.if_icmp .le 9, 3) := by decide +kernel
theorem dX11_message_22 : decode cX11_message 22 = .ok (.aload_n 0, 1) := by decide +kernel
theorem dX11_message_23 : decode cX11_message 23 = .ok (.iconst 1, 1) := by decide +kernel
theorem dX11_message_24 : decode cX11_message 24 = .ok (.invokevirtual 525, 3) := by decide +kernel
theorem dX11_message_27 : decode cX11_message 27 = .ok (.ireturn, 1) := by decide +kernel
theorem dX11_message_28 : decode cX11_message 28 = .ok (.aload_n 0, 1) := by decide +kernel
theorem dX11_message_29 : decode cX11_message 29 = .ok (.iconst 0, 1) := by decide +kernel
theorem dX11_message_30 : decode cX11_message 30 = .ok (.putfield 306, 3) := by decide +kernel
theorem dX11_message_33 : decode cX11_message 33 = .ok (.iload_n 2, 1) := by decide +kernel
theorem dX11_message_34 : decode cX11_message 34 = .ok (.bipush 9, 2) := by decide +kernel
theorem dX11_message_36 : decode cX11_message 36 = .ok (.if_icmp .ne 18, 3) := by decide +kernel
theorem dX11_message_39 : decode cX11_message 39 = .ok (.aload_n 0, 1) := by decide +kernel
theorem dX11_message_40 : decode cX11_message 40 = .ok (.getfield 145, 3) := by decide +kernel
theorem dX11_message_43 : decode cX11_message 43 = .ok (.bipush 9, 2) := by decide +kernel
theorem dX11_message_45 : decode cX11_message 45 = .ok (.iload_n 1, 1) := by decide +kernel
theorem dX11_message_46 : decode cX11_message 46 = .ok (.imul, 1) := by decide +kernel
theorem dX11_message_47 : decode cX11_message 47 = .ok (.iaload, 1) := by decide +kernel
theorem dX11_message_48 : decode cX11_message 48 = .ok (.invokestatic 687, 3) := by decide +kernel
theorem dX11_message_51 : decode cX11_message 51 = .ok (.goto 14, 3) := by decide +kernel
theorem dX11_message_54 : decode cX11_message 54 = .ok (.aload_n 0, 1) := by decide +kernel
theorem dX11_message_55 : decode cX11_message 55 = .ok (.getfield 145, 3) := by decide +kernel
theorem dX11_message_58 : decode cX11_message 58 = .ok (.bipush 9, 2) := by decide +kernel
theorem dX11_message_60 : decode cX11_message 60 = .ok (.iload_n 1, 1) := by decide +kernel
theorem dX11_message_61 : decode cX11_message 61 = .ok (.imul, 1) := by decide +kernel
theorem dX11_message_62 : decode cX11_message 62 = .ok (.iload_n 2, 1) := by decide +kernel
theorem dX11_message_63 : decode cX11_message 63 = .ok (.iadd, 1) := by decide +kernel
theorem dX11_message_64 : decode cX11_message 64 = .ok (.iaload, 1) := by decide +kernel
theorem dX11_message_65 : decode cX11_message 65 = .ok (.ireturn, 1) := by decide +kernel
theorem dX11_total_0 : decode cX11_total 0 = .ok (.aload_n 0, 1) := by decide +kernel
theorem dX11_total_1 : decode cX11_total 1 = .ok (.iconst 0, 1) := by decide +kernel
theorem dX11_total_2 : decode cX11_total 2 = .ok (.putfield 306, 3) := by decide +kernel
theorem dX11_total_5 : decode cX11_total 5 = .ok (.iconst 0, 1) := by decide +kernel
theorem dX11_total_6 : decode cX11_total 6 = .ok (.istore_n 2, 1) := by decide +kernel
theorem dX11_total_7 : decode cX11_total 7 = .ok (.iconst 0, 1) := by decide +kernel
theorem dX11_total_8 : decode cX11_total 8 = .ok (.istore_n 3, 1) := by decide +kernel
theorem dX11_total_9 : decode cX11_total 9 = .ok (.iload_n 3, 1) := by decide +kernel
theorem dX11_total_10 : decode cX11_total 10 = .ok (.sipush 512, 3) := by decide +kernel
theorem dX11_total_13 : decode cX11_total 13 = .ok (.if_icmp .ge 27, 3) := by decide +kernel
theorem dX11_total_16 : decode cX11_total 16 = .ok (.iload_n 2, 1) := by decide +kernel
theorem dX11_total_17 : decode cX11_total 17 = .ok (.aload_n 0, 1) := by decide +kernel
theorem dX11_total_18 : decode cX11_total 18 = .ok (.getfield 114, 3) := by decide +kernel
theorem dX11_total_21 : decode cX11_total 21 = .ok (.iload_n 3, 1) := by decide +kernel
theorem dX11_total_22 : decode cX11_total 22 = .ok (.iaload, 1) := by decide +kernel
theorem dX11_total_23 : decode cX11_total 23 = .ok (.iconst (-1), 1) := by decide +kernel
theorem dX11_total_24 : decode cX11_total 24 = .ok (.if_icmp .eq 7, 3) := by decide +kernel
theorem dX11_total_27 : decode cX11_total 27 = .ok (.iconst 1, 1) := by decide +kernel
theorem dX11_total_28 : decode cX11_total 28 = .ok (.goto 4, 3) := by decide +kernel
theorem dX11_total_31 : decode cX11_total 31 = .ok (.iconst 0, 1) := by decide +kernel
theorem dX11_total_32 : decode cX11_total 32 = .ok (.iadd, 1) := by decide +kernel
theorem dX11_total_33 : decode cX11_total 33 = .ok (.istore_n 2, 1) := by decide +kernel
theorem dX11_total_34 : decode cX11_total 34 = .ok (.iinc 3 1, 3) := by decide +kernel
theorem dX11_total_37 : decode cX11_total 37 = .ok (.goto (-28), 3) := by decide +kernel
theorem dX11_total_40 : decode cX11_total 40 = .ok (.iload_n 1, 1) := by decide +kernel
theorem dX11_total_41 : decode cX11_total 41 = .ok (.tableswitch 132 0 13 #[71, 78, 83, 88, 93, 98, 103, 105, 112, 112, 112, 112, 122, 127], 71) := by decide +kernel
theorem dX11_total_112 : decode cX11_total 112 = .ok (.aload_n 0, 1) := by decide +kernel
theorem dX11_total_113 : decode cX11_total 113 = .ok (.getfield 47, 3) := by decide +kernel
theorem dX11_total_116 : decode cX11_total 116 = .ok (.iconst 0, 1) := by decide +kernel
theorem dX11_total_117 : decode cX11_total 117 = .ok (.iaload, 1) := by decide +kernel
theorem dX11_total_118 : decode cX11_total 118 = .ok (.ireturn, 1) := by decide +kernel
theorem dX11_total_119 : decode cX11_total 119 = .ok (.aload_n 0, 1) := by decide +kernel
theorem dX11_total_120 : decode cX11_total 120 = .ok (.getfield 316, 3) := by decide +kernel
theorem dX11_total_123 : decode cX11_total 123 = .ok (.ireturn, 1) := by decide +kernel
theorem dX11_total_124 : decode cX11_total 124 = .ok (.aload_n 0, 1) := by decide +kernel
theorem dX11_total_125 : decode cX11_total 125 = .ok (.getfield 319, 3) := by decide +kernel
theorem dX11_total_128 : decode cX11_total 128 = .ok (.ireturn, 1) := by decide +kernel
theorem dX11_total_129 : decode cX11_total 129 = .ok (.aload_n 0, 1) := by decide +kernel
theorem dX11_total_130 : decode cX11_total 130 = .ok (.getfield 322, 3) := by decide +kernel
theorem dX11_total_133 : decode cX11_total 133 = .ok (.ireturn, 1) := by decide +kernel
theorem dX11_total_134 : decode cX11_total 134 = .ok (.aload_n 0, 1) := by decide +kernel
theorem dX11_total_135 : decode cX11_total 135 = .ok (.getfield 325, 3) := by decide +kernel
theorem dX11_total_138 : decode cX11_total 138 = .ok (.ireturn, 1) := by decide +kernel
theorem dX11_total_139 : decode cX11_total 139 = .ok (.aload_n 0, 1) := by decide +kernel
theorem dX11_total_140 : decode cX11_total 140 = .ok (.getfield 328, 3) := by decide +kernel
theorem dX11_total_143 : decode cX11_total 143 = .ok (.ireturn, 1) := by decide +kernel
theorem dX11_total_144 : decode cX11_total 144 = .ok (.iload_n 2, 1) := by decide +kernel
theorem dX11_total_145 : decode cX11_total 145 = .ok (.ireturn, 1) := by decide +kernel
theorem dX11_total_146 : decode cX11_total 146 = .ok (.aload_n 0, 1) := by decide +kernel
theorem dX11_total_147 : decode cX11_total 147 = .ok (.getfield 47, 3) := by decide +kernel
theorem dX11_total_150 : decode cX11_total 150 = .ok (.iconst 1, 1) := by decide +kernel
theorem dX11_total_151 : decode cX11_total 151 = .ok (.iaload, 1) := by decide +kernel
theorem dX11_total_152 : decode cX11_total 152 = .ok (.ireturn, 1) := by decide +kernel
theorem dX11_total_153 : decode cX11_total 153 = .ok (.aload_n 0, 1) := by decide +kernel
theorem dX11_total_154 : decode cX11_total 154 = .ok (.getfield 47, 3) := by decide +kernel
theorem dX11_total_157 : decode cX11_total 157 = .ok (.iload_n 1, 1) := by decide +kernel
theorem dX11_total_158 : decode cX11_total 158 = .ok (.bipush 6, 2) := by decide +kernel
theorem dX11_total_160 : decode cX11_total 160 = .ok (.isub, 1) := by decide +kernel
theorem dX11_total_161 : decode cX11_total 161 = .ok (.iaload, 1) := by decide +kernel
theorem dX11_total_162 : decode cX11_total 162 = .ok (.ireturn, 1) := by decide +kernel
theorem dX11_total_163 : decode cX11_total 163 = .ok (.aload_n 0, 1) := by decide +kernel
theorem dX11_total_164 : decode cX11_total 164 = .ok (.getfield 331, 3) := by decide +kernel
theorem dX11_total_167 : decode cX11_total 167 = .ok (.ireturn, 1) := by decide +kernel
theorem dX11_total_168 : decode cX11_total 168 = .ok (.aload_n 0, 1) := by decide +kernel
theorem dX11_total_169 : decode cX11_total 169 = .ok (.getfield 334, 3) := by decide +kernel
theorem dX11_total_172 : decode cX11_total 172 = .ok (.ireturn, 1) := by decide +kernel
theorem dX11_total_173 : decode cX11_total 173 = .ok (.iconst (-1), 1) := by decide +kernel
theorem dX11_total_174 : decode cX11_total 174 = .ok (.ireturn, 1) := by decide +kernel
theorem dJ0_length_8abf5_0 : decode cJ0_length_8abf5 0 = .ok (.aload_n 0, 1) := by decide +kernel
theorem dJ0_length_8abf5_1 : decode cJ0_length_8abf5 1 = .ok (.getfield 9, 3) := by decide +kernel
theorem dJ0_length_8abf5_4 : decode cJ0_length_8abf5 4 = .ok (.arraylength, 1) := by decide +kernel
theorem dJ0_length_8abf5_5 : decode cJ0_length_8abf5 5 = .ok (.aload_n 0, 1) := by decide +kernel
theorem dJ0_length_8abf5_6 : decode cJ0_length_8abf5 6 = .ok (.invokevirtual 335, 3) := by decide +kernel
theorem dJ0_length_8abf5_9 : decode cJ0_length_8abf5 9 = .ok (.ishr, 1) := by decide +kernel
theorem dJ0_length_8abf5_10 : decode cJ0_length_8abf5 10 = .ok (.ireturn, 1) := by decide +kernel
theorem dJ0_charAt_5068e_0 : decode cJ0_charAt_5068e 0 = .ok (.aload_n 0, 1) := by decide +kernel
theorem dJ0_charAt_5068e_1 : decode cJ0_charAt_5068e 1 = .ok (.invokevirtual 492, 3) := by decide +kernel
theorem dJ0_charAt_5068e_4 : decode cJ0_charAt_5068e 4 = .ok (.ifCond .eq 12, 3) := by decide +kernel
theorem dJ0_charAt_5068e_7 : decode cJ0_charAt_5068e 7 = .ok (.aload_n 0, 1) := by decide +kernel
theorem dJ0_charAt_5068e_8 : decode cJ0_charAt_5068e 8 = .ok (.getfield 9, 3) := by decide +kernel
theorem dJ0_charAt_5068e_11 : decode cJ0_charAt_5068e 11 = .ok (.iload_n 1, 1) := by decide +kernel
theorem dJ0_charAt_5068e_12 : decode cJ0_charAt_5068e 12 = .ok (.invokestatic 495, 3) := by decide +kernel
theorem dJ0_charAt_5068e_15 : decode cJ0_charAt_5068e 15 = .ok (.ireturn, 1) := by decide +kernel
theorem dJ0_charAt_5068e_16 : decode cJ0_charAt_5068e 16 = .ok (.aload_n 0, 1) := by decide +kernel
theorem dJ0_charAt_5068e_17 : decode cJ0_charAt_5068e 17 = .ok (.getfield 9, 3) := by decide +kernel
theorem dJ0_charAt_5068e_20 : decode cJ0_charAt_5068e 20 = .ok (.iload_n 1, 1) := by decide +kernel
theorem dJ0_charAt_5068e_21 : decode cJ0_charAt_5068e 21 = .ok (.invokestatic 498, 3) := by decide +kernel
theorem dJ0_charAt_5068e_24 : decode cJ0_charAt_5068e 24 = .ok (.ireturn, 1) := by decide +kernel
theorem dJ0_coder_7d493_0 : decode cJ0_coder_7d493 0 = .ok (.getstatic 38, 3) := by decide +kernel
theorem dJ0_coder_7d493_3 : decode cJ0_coder_7d493 3 = .ok (.ifCond .eq 10, 3) := by decide +kernel
theorem dJ0_coder_7d493_6 : decode cJ0_coder_7d493 6 = .ok (.aload_n 0, 1) := by decide +kernel
theorem dJ0_coder_7d493_7 : decode cJ0_coder_7d493 7 = .ok (.getfield 15, 3) := by decide +kernel
theorem dJ0_coder_7d493_10 : decode cJ0_coder_7d493 10 = .ok (.goto 4, 3) := by decide +kernel
theorem dJ0_coder_7d493_13 : decode cJ0_coder_7d493 13 = .ok (.iconst 1, 1) := by decide +kernel
theorem dJ0_coder_7d493_14 : decode cJ0_coder_7d493 14 = .ok (.ireturn, 1) := by decide +kernel
theorem dJ0_isLatin1_aae02_0 : decode cJ0_isLatin1_aae02 0 = .ok (.getstatic 38, 3) := by decide +kernel
theorem dJ0_isLatin1_aae02_3 : decode cJ0_isLatin1_aae02 3 = .ok (.ifCond .eq 14, 3) := by decide +kernel
theorem dJ0_isLatin1_aae02_6 : decode cJ0_isLatin1_aae02 6 = .ok (.aload_n 0, 1) := by decide +kernel
theorem dJ0_isLatin1_aae02_7 : decode cJ0_isLatin1_aae02 7 = .ok (.getfield 15, 3) := by decide +kernel
theorem dJ0_isLatin1_aae02_10 : decode cJ0_isLatin1_aae02 10 = .ok (.ifCond .ne 7, 3) := by decide +kernel
theorem dJ0_isLatin1_aae02_13 : decode cJ0_isLatin1_aae02 13 = .ok (.iconst 1, 1) := by decide +kernel
theorem dJ0_isLatin1_aae02_14 : decode cJ0_isLatin1_aae02 14 = .ok (.goto 4, 3) := by decide +kernel
theorem dJ0_isLatin1_aae02_17 : decode cJ0_isLatin1_aae02 17 = .ok (.iconst 0, 1) := by decide +kernel
theorem dJ0_isLatin1_aae02_18 : decode cJ0_isLatin1_aae02 18 = .ok (.ireturn, 1) := by decide +kernel
theorem dJ0_checkIndex_df160_0 : decode cJ0_checkIndex_df160 0 = .ok (.iload_n 0, 1) := by decide +kernel
theorem dJ0_checkIndex_df160_1 : decode cJ0_checkIndex_df160 1 = .ok (.iload_n 1, 1) := by decide +kernel
theorem dJ0_checkIndex_df160_2 : decode cJ0_checkIndex_df160 2 = .ok (.getstatic 1053, 3) := by decide +kernel
theorem dJ0_checkIndex_df160_5 : decode cJ0_checkIndex_df160 5 = .ok (.invokestatic 1059, 3) := by decide +kernel
theorem dJ0_checkIndex_df160_8 : decode cJ0_checkIndex_df160 8 = .ok (.pop, 1) := by decide +kernel
theorem dJ0_checkIndex_df160_9 : decode cJ0_checkIndex_df160 9 = .ok (.return_, 1) := by decide +kernel
theorem dJ1_charAt_3b067_0 : decode cJ1_charAt_3b067 0 = .ok (.iload_n 1, 1) := by decide +kernel
theorem dJ1_charAt_3b067_1 : decode cJ1_charAt_3b067 1 = .ok (.aload_n 0, 1) := by decide +kernel
theorem dJ1_charAt_3b067_2 : decode cJ1_charAt_3b067 2 = .ok (.arraylength, 1) := by decide +kernel
theorem dJ1_charAt_3b067_3 : decode cJ1_charAt_3b067 3 = .ok (.invokestatic 9, 3) := by decide +kernel
theorem dJ1_charAt_3b067_6 : decode cJ1_charAt_3b067 6 = .ok (.aload_n 0, 1) := by decide +kernel
theorem dJ1_charAt_3b067_7 : decode cJ1_charAt_3b067 7 = .ok (.iload_n 1, 1) := by decide +kernel
theorem dJ1_charAt_3b067_8 : decode cJ1_charAt_3b067 8 = .ok (.baload, 1) := by decide +kernel
theorem dJ1_charAt_3b067_9 : decode cJ1_charAt_3b067 9 = .ok (.sipush 255, 3) := by decide +kernel
theorem dJ1_charAt_3b067_12 : decode cJ1_charAt_3b067 12 = .ok (.iand, 1) := by decide +kernel
theorem dJ1_charAt_3b067_13 : decode cJ1_charAt_3b067 13 = .ok (.i2c, 1) := by decide +kernel
theorem dJ1_charAt_3b067_14 : decode cJ1_charAt_3b067 14 = .ok (.ireturn, 1) := by decide +kernel
theorem dJ7_fill_53178_0 : decode cJ7_fill_53178 0 = .ok (.iconst 0, 1) := by decide +kernel
theorem dJ7_fill_53178_1 : decode cJ7_fill_53178 1 = .ok (.istore_n 2, 1) := by decide +kernel
theorem dJ7_fill_53178_2 : decode cJ7_fill_53178 2 = .ok (.aload_n 0, 1) := by decide +kernel
theorem dJ7_fill_53178_3 : decode cJ7_fill_53178 3 = .ok (.arraylength, 1) := by decide +kernel
theorem dJ7_fill_53178_4 : decode cJ7_fill_53178 4 = .ok (.istore_n 3, 1) := by decide +kernel
theorem dJ7_fill_53178_5 : decode cJ7_fill_53178 5 = .ok (.iload_n 2, 1) := by decide +kernel
theorem dJ7_fill_53178_6 : decode cJ7_fill_53178 6 = .ok (.iload_n 3, 1) := by decide +kernel
theorem dJ7_fill_53178_7 : decode cJ7_fill_53178 7 = .ok (.if_icmp .ge 13, 3) := by decide +kernel
theorem dJ7_fill_53178_10 : decode cJ7_fill_53178 10 = .ok (.aload_n 0, 1) := by decide +kernel
theorem dJ7_fill_53178_11 : decode cJ7_fill_53178 11 = .ok (.iload_n 2, 1) := by decide +kernel
theorem dJ7_fill_53178_12 : decode cJ7_fill_53178 12 = .ok (.iload_n 1, 1) := by decide +kernel
theorem dJ7_fill_53178_13 : decode cJ7_fill_53178 13 = .ok (.iastore, 1) := by decide +kernel
theorem dJ7_fill_53178_14 : decode cJ7_fill_53178 14 = .ok (.iinc 2 1, 3) := by decide +kernel
theorem dJ7_fill_53178_17 : decode cJ7_fill_53178 17 = .ok (.goto (-12), 3) := by decide +kernel
theorem dJ7_fill_53178_20 : decode cJ7_fill_53178 20 = .ok (.return_, 1) := by decide +kernel
theorem dJ7_copyOf_59c91_0 : decode cJ7_copyOf_59c91 0 = .ok (.iload_n 1, 1) := by decide +kernel
theorem dJ7_copyOf_59c91_1 : decode cJ7_copyOf_59c91 1 = .ok (.aload_n 0, 1) := by decide +kernel
theorem dJ7_copyOf_59c91_2 : decode cJ7_copyOf_59c91 2 = .ok (.arraylength, 1) := by decide +kernel
theorem dJ7_copyOf_59c91_3 : decode cJ7_copyOf_59c91 3 = .ok (.if_icmp .ne 11, 3) := by decide +kernel
theorem dJ7_copyOf_59c91_6 : decode cJ7_copyOf_59c91 6 = .ok (.aload_n 0, 1) := by decide +kernel
theorem dJ7_copyOf_59c91_7 : decode cJ7_copyOf_59c91 7 = .ok (.invokevirtual 316, 3) := by decide +kernel
theorem dJ7_copyOf_59c91_10 : decode cJ7_copyOf_59c91 10 = .ok (.checkcast 317, 3) := by decide +kernel
theorem dJ7_copyOf_59c91_13 : decode cJ7_copyOf_59c91 13 = .ok (.areturn, 1) := by decide +kernel
theorem dJ7_copyOf_59c91_14 : decode cJ7_copyOf_59c91 14 = .ok (.iload_n 1, 1) := by decide +kernel
theorem dJ7_copyOf_59c91_15 : decode cJ7_copyOf_59c91 15 = .ok (.newarray .int, 2) := by decide +kernel
theorem dJ7_copyOf_59c91_17 : decode cJ7_copyOf_59c91 17 = .ok (.astore_n 2, 1) := by decide +kernel
theorem dJ7_copyOf_59c91_18 : decode cJ7_copyOf_59c91 18 = .ok (.aload_n 0, 1) := by decide +kernel
theorem dJ7_copyOf_59c91_19 : decode cJ7_copyOf_59c91 19 = .ok (.iconst 0, 1) := by decide +kernel
theorem dJ7_copyOf_59c91_20 : decode cJ7_copyOf_59c91 20 = .ok (.aload_n 2, 1) := by decide +kernel
theorem dJ7_copyOf_59c91_21 : decode cJ7_copyOf_59c91 21 = .ok (.iconst 0, 1) := by decide +kernel
theorem dJ7_copyOf_59c91_22 : decode cJ7_copyOf_59c91 22 = .ok (.aload_n 0, 1) := by decide +kernel
theorem dJ7_copyOf_59c91_23 : decode cJ7_copyOf_59c91 23 = .ok (.arraylength, 1) := by decide +kernel
theorem dJ7_copyOf_59c91_24 : decode cJ7_copyOf_59c91 24 = .ok (.iload_n 1, 1) := by decide +kernel
theorem dJ7_copyOf_59c91_25 : decode cJ7_copyOf_59c91 25 = .ok (.invokestatic 304, 3) := by decide +kernel
theorem dJ7_copyOf_59c91_28 : decode cJ7_copyOf_59c91 28 = .ok (.invokestatic 150, 3) := by decide +kernel
theorem dJ7_copyOf_59c91_31 : decode cJ7_copyOf_59c91 31 = .ok (.aload_n 2, 1) := by decide +kernel
theorem dJ7_copyOf_59c91_32 : decode cJ7_copyOf_59c91 32 = .ok (.areturn, 1) := by decide +kernel
theorem dJ3_checkIndex_8e157_0 : decode cJ3_checkIndex_8e157 0 = .ok (.iload_n 0, 1) := by decide +kernel
theorem dJ3_checkIndex_8e157_1 : decode cJ3_checkIndex_8e157 1 = .ok (.ifCond .lt 8, 3) := by decide +kernel
theorem dJ3_checkIndex_8e157_4 : decode cJ3_checkIndex_8e157 4 = .ok (.iload_n 0, 1) := by decide +kernel
theorem dJ3_checkIndex_8e157_5 : decode cJ3_checkIndex_8e157 5 = .ok (.iload_n 1, 1) := by decide +kernel
theorem dJ3_checkIndex_8e157_6 : decode cJ3_checkIndex_8e157 6 = .ok (.if_icmp .lt 10, 3) := by decide +kernel
theorem dJ3_checkIndex_8e157_9 : decode cJ3_checkIndex_8e157 9 = .ok (.aload_n 2, 1) := by decide +kernel
theorem dJ3_checkIndex_8e157_10 : decode cJ3_checkIndex_8e157 10 = .ok (.iload_n 0, 1) := by decide +kernel
theorem dJ3_checkIndex_8e157_11 : decode cJ3_checkIndex_8e157 11 = .ok (.iload_n 1, 1) := by decide +kernel
theorem dJ3_checkIndex_8e157_12 : decode cJ3_checkIndex_8e157 12 = .ok (.invokestatic 95, 3) := by decide +kernel
theorem dJ3_checkIndex_8e157_15 : decode cJ3_checkIndex_8e157 15 = .ok (.athrow, 1) := by decide +kernel
theorem dJ3_checkIndex_8e157_16 : decode cJ3_checkIndex_8e157 16 = .ok (.iload_n 0, 1) := by decide +kernel
theorem dJ3_checkIndex_8e157_17 : decode cJ3_checkIndex_8e157 17 = .ok (.ireturn, 1) := by decide +kernel
