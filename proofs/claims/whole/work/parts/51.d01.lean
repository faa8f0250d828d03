theorem dX3_init_70 : decode cX3_init 70 = .ok (.return_, 1) := by decide +kernel
theorem dX3_begin_0 : decode cX3_begin 0 = .ok (.aload_n 0, 1) := by decide +kernel
theorem dX3_begin_1 : decode cX3_begin 1 = .ok (.getfield 9, 3) := by decide +kernel
theorem dX3_begin_4 : decode cX3_begin 4 = .ok (.iconst 0, 1) := by decide +kernel
theorem dX3_begin_5 : decode cX3_begin 5 = .ok (.invokestatic 51, 3) := by decide +kernel
theorem dX3_begin_8 : decode cX3_begin 8 = .ok (.aload_n 0, 1) := by decide +kernel
theorem dX3_begin_9 : decode cX3_begin 9 = .ok (.iload_n 1, 1) := by decide +kernel
theorem dX3_begin_10 : decode cX3_begin 10 = .ok (.putfield 57, 3) := by decide +kernel
theorem dX3_begin_13 : decode cX3_begin 13 = .ok (.aload_n 0, 1) := by decide +kernel
theorem dX3_begin_14 : decode cX3_begin 14 = .ok (.iconst 0, 1) := by decide +kernel
theorem dX3_begin_15 : decode cX3_begin 15 = .ok (.putfield 60, 3) := by decide +kernel
theorem dX3_begin_18 : decode cX3_begin 18 = .ok (.aload_n 0, 1) := by decide +kernel
theorem dX3_begin_19 : decode cX3_begin 19 = .ok (.getfield 18, 3) := by decide +kernel
theorem dX3_begin_22 : decode cX3_begin 22 = .ok (.iload_n 2, 1) := by decide +kernel
theorem dX3_begin_23 : decode cX3_begin 23 = .ok (.invokevirtual 63, 3) := by decide +kernel
theorem dX3_begin_26 : decode cX3_begin 26 = .ok (.aload_n 0, 1) := by decide +kernel
theorem dX3_begin_27 : decode cX3_begin 27 = .ok (.getfield 25, 3) := by decide +kernel
theorem dX3_begin_30 : decode cX3_begin 30 = .ok (.iload_n 3, 1) := by decide +kernel
theorem dX3_begin_31 : decode cX3_begin 31 = .ok (.iload 4, 2) := by decide +kernel
theorem dX3_begin_33 : decode cX3_begin 33 = .ok (.invokevirtual 66, 3) := by decide +kernel
theorem dX3_begin_36 : decode cX3_begin 36 = .ok (.aload_n 0, 1) := by decide +kernel
theorem dX3_begin_37 : decode cX3_begin 37 = .ok (.getfield 32, 3) := by decide +kernel
theorem dX3_begin_40 : decode cX3_begin 40 = .ok (.iconst 0, 1) := by decide +kernel
theorem dX3_begin_41 : decode cX3_begin 41 = .ok (.putfield 69, 3) := by decide +kernel
theorem dX3_begin_44 : decode cX3_begin 44 = .ok (.aload_n 0, 1) := by decide +kernel
theorem dX3_begin_45 : decode cX3_begin 45 = .ok (.iconst (-1), 1) := by decide +kernel
theorem dX3_begin_46 : decode cX3_begin 46 = .ok (.putfield 72, 3) := by decide +kernel
theorem dX3_begin_49 : decode cX3_begin 49 = .ok (.aload_n 0, 1) := by decide +kernel
theorem dX3_begin_50 : decode cX3_begin 50 = .ok (.iconst 0, 1) := by decide +kernel
theorem dX3_begin_51 : decode cX3_begin 51 = .ok (.putfield 75, 3) := by decide +kernel
theorem dX3_begin_54 : decode cX3_begin 54 = .ok (.aload_n 0, 1) := by decide +kernel
theorem dX3_begin_55 : decode cX3_begin 55 = .ok (.iconst (-1), 1) := by decide +kernel
theorem dX3_begin_56 : decode cX3_begin 56 = .ok (.putfield 79, 3) := by decide +kernel
theorem dX3_begin_59 : decode cX3_begin 59 = .ok (.aload_n 0, 1) := by decide +kernel
theorem dX3_begin_60 : decode cX3_begin 60 = .ok (.iconst 0, 1) := by decide +kernel
theorem dX3_begin_61 : decode cX3_begin 61 = .ok (.putfield 82, 3) := by decide +kernel
theorem dX3_begin_64 : decode cX3_begin 64 = .ok (.aload_n 0, 1) := by decide +kernel
theorem dX3_begin_65 : decode cX3_begin 65 = .ok (.iconst 0, 1) := by decide +kernel
theorem dX3_begin_66 : decode cX3_begin 66 = .ok (.putfield 85, 3) := by decide +kernel
theorem dX3_begin_69 : decode cX3_begin 69 = .ok (.aload_n 0, 1) := by decide +kernel
theorem dX3_begin_70 : decode cX3_begin 70 = .ok (.iconst 0, 1) := by decide +kernel
theorem dX3_begin_71 : decode cX3_begin 71 = .ok (.putfield 88, 3) := by decide +kernel
theorem dX3_begin_74 : decode cX3_begin 74 = .ok (.aload_n 0, 1) := by decide +kernel
theorem dX3_begin_75 : decode cX3_begin 75 = .ok (.iconst 0, 1) := by decide +kernel
theorem dX3_begin_76 : decode cX3_begin 76 = .ok (.putfield 91, 3) := by decide +kernel
theorem dX3_begin_79 : decode cX3_begin 79 = .ok (.return_, 1) := by decide +kernel
theorem dX3_growWaits_0 : decode cX3_growWaits 0 = .ok (.aload_n 0, 1) := by decide +kernel
theorem dX3_growWaits_1 : decode cX3_growWaits 1 = .ok (.getfield 60, 3) := by decide +kernel
theorem dX3_growWaits_4 : decode cX3_growWaits 4 = .ok (.ifCond .ne 28, 3) := by decide +kernel
theorem dX3_growWaits_7 : decode cX3_growWaits 7 = .ok (.aload_n 0, 1) := by decide +kernel
theorem dX3_growWaits_8 : decode cX3_growWaits 8 = .ok (.dup, 1) := by decide +kernel
theorem dX3_growWaits_9 : decode cX3_growWaits 9 = .ok (.getfield 85, 3) := by decide +kernel
theorem dX3_growWaits_12 : decode cX3_growWaits 12 = .ok (.iconst 1, 1) := by decide +kernel
theorem dX3_growWaits_13 : decode cX3_growWaits 13 = .ok (.iadd, 1) := by decide +kernel
theorem dX3_growWaits_14 : decode cX3_growWaits 14 = .ok (.putfield 85, 3) := by decide +kernel
theorem dX3_growWaits_17 : decode cX3_growWaits 17 = .ok (.aload_n 0, 1) := by decide +kernel
theorem dX3_growWaits_18 : decode cX3_growWaits 18 = .ok (.aload_n 0, 1) := by decide +kernel
theorem dX3_growWaits_19 : decode cX3_growWaits 19 = .ok (.getfield 88, 3) := by decide +kernel
theorem dX3_growWaits_22 : decode cX3_growWaits 22 = .ok (.aload_n 0, 1) := by decide +kernel
theorem dX3_growWaits_23 : decode cX3_growWaits 23 = .ok (.getfield 85, 3) := by decide +kernel
theorem dX3_growWaits_26 : decode cX3_growWaits 26 = .ok (.invokestatic 94, 3) := by decide +kernel
theorem dX3_growWaits_29 : decode cX3_growWaits 29 = .ok (.putfield 88, 3) := by decide +kernel
theorem dX3_growWaits_32 : decode cX3_growWaits 32 = .ok (.return_, 1) := by decide +kernel
theorem dX3_tells_0 : decode cX3_tells 0 = .ok (.iload_n 1, 1) := by decide +kernel
theorem dX3_tells_1 : decode cX3_tells 1 = .ok (.ifCond .lt 9, 3) := by decide +kernel
theorem dX3_tells_4 : decode cX3_tells 4 = .ok (.iload_n 1, 1) := by decide +kernel
theorem dX3_tells_5 : decode cX3_tells 5 = .ok (.bipush 40, 2) := by decide +kernel
theorem dX3_tells_7 : decode cX3_tells 7 = .ok (.if_icmp .le 25, 3) := by decide +kernel
theorem dX3_tells_10 : decode cX3_tells 10 = .ok (.iload_n 1, 1) := by decide +kernel
theorem dX3_tells_11 : decode cX3_tells 11 = .ok (.bipush 100, 2) := by decide +kernel
theorem dX3_tells_13 : decode cX3_tells 13 = .ok (.if_icmp .lt 23, 3) := by decide +kernel
theorem dX3_tells_16 : decode cX3_tells 16 = .ok (.iload_n 1, 1) := by decide +kernel
theorem dX3_tells_17 : decode cX3_tells 17 = .ok (.bipush 100, 2) := by decide +kernel
theorem dX3_tells_19 : decode cX3_tells 19 = .ok (.iconst 3, 1) := by decide +kernel
theorem dX3_tells_20 : decode cX3_tells 20 = .ok (.aload_n 0, 1) := by decide +kernel
theorem dX3_tells_21 : decode cX3_tells 21 = .ok (.getfield 18, 3) := by decide +kernel
theorem dX3_tells_24 : decode cX3_tells 24 = .ok (.getfield 100, 3) := by decide +kernel
theorem dX3_tells_27 : decode cX3_tells 27 = .ok (.imul, 1) := by decide +kernel
theorem dX3_tells_28 : decode cX3_tells 28 = .ok (.iadd, 1) := by decide +kernel
theorem dX3_tells_29 : decode cX3_tells 29 = .ok (.if_icmp .ge 7, 3) := by decide +kernel
theorem dX3_tells_32 : decode cX3_tells 32 = .ok (.iconst 1, 1) := by decide +kernel
theorem dX3_tells_33 : decode cX3_tells 33 = .ok (.goto 4, 3) := by decide +kernel
theorem dX3_tells_36 : decode cX3_tells 36 = .ok (.iconst 0, 1) := by decide +kernel
theorem dX3_tells_37 : decode cX3_tells 37 = .ok (.ireturn, 1) := by decide +kernel
theorem dX3_tell_0 : decode cX3_tell 0 = .ok (.iload_n 1, 1) := by decide +kernel
theorem dX3_tell_1 : decode cX3_tell 1 = .ok (.bipush 100, 2) := by decide +kernel
theorem dX3_tell_3 : decode cX3_tell 3 = .ok (.if_icmp .lt 23, 3) := by decide +kernel
theorem dX3_tell_6 : decode cX3_tell 6 = .ok (.aload_n 0, 1) := by decide +kernel
theorem dX3_tell_7 : decode cX3_tell 7 = .ok (.getfield 18, 3) := by decide +kernel
theorem dX3_tell_10 : decode cX3_tell 10 = .ok (.iload_n 1, 1) := by decide +kernel
theorem dX3_tell_11 : decode cX3_tell 11 = .ok (.bipush 100, 2) := by decide +kernel
theorem dX3_tell_13 : decode cX3_tell 13 = .ok (.isub, 1) := by decide +kernel
theorem dX3_tell_14 : decode cX3_tell 14 = .ok (.iconst 3, 1) := by decide +kernel
theorem dX3_tell_15 : decode cX3_tell 15 = .ok (.idiv, 1) := by decide +kernel
theorem dX3_tell_16 : decode cX3_tell 16 = .ok (.iload_n 1, 1) := by decide +kernel
theorem dX3_tell_17 : decode cX3_tell 17 = .ok (.bipush 100, 2) := by decide +kernel
theorem dX3_tell_19 : decode cX3_tell 19 = .ok (.isub, 1) := by decide +kernel
theorem dX3_tell_20 : decode cX3_tell 20 = .ok (.iconst 3, 1) := by decide +kernel
theorem dX3_tell_21 : decode cX3_tell 21 = .ok (.irem, 1) := by decide +kernel
theorem dX3_tell_22 : decode cX3_tell 22 = .ok (.invokevirtual 103, 3) := by decide +kernel
theorem dX3_tell_25 : decode cX3_tell 25 = .ok (.ireturn, 1) := by decide +kernel
theorem dX3_tell_26 : decode cX3_tell 26 = .ok (.iload_n 1, 1) := by decide +kernel
theorem dX3_tell_27 : decode cX3_tell 27 = .ok (.tableswitch 100 32 40 #[49, 54, 59, 67, 75, 80, 85, 90, 95], 49) := by decide +kernel
theorem dX3_tell_76 : decode cX3_tell 76 = .ok (.aload_n 0, 1) := by decide +kernel
theorem dX3_tell_77 : decode cX3_tell 77 = .ok (.getfield 57, 3) := by decide +kernel
theorem dX3_tell_80 : decode cX3_tell 80 = .ok (.ireturn, 1) := by decide +kernel
theorem dX3_tell_81 : decode cX3_tell 81 = .ok (.aload_n 0, 1) := by decide +kernel
theorem dX3_tell_82 : decode cX3_tell 82 = .ok (.getfield 60, 3) := by decide +kernel
theorem dX3_tell_85 : decode cX3_tell 85 = .ok (.ireturn, 1) := by decide +kernel
theorem dX3_tell_86 : decode cX3_tell 86 = .ok (.aload_n 0, 1) := by decide +kernel
theorem dX3_tell_87 : decode cX3_tell 87 = .ok (.getfield 18, 3) := by decide +kernel
theorem dX3_tell_90 : decode cX3_tell 90 = .ok (.getfield 100, 3) := by decide +kernel
theorem dX3_tell_93 : decode cX3_tell 93 = .ok (.ireturn, 1) := by decide +kernel
theorem dX3_tell_94 : decode cX3_tell 94 = .ok (.aload_n 0, 1) := by decide +kernel
theorem dX3_tell_95 : decode cX3_tell 95 = .ok (.getfield 32, 3) := by decide +kernel
theorem dX3_tell_98 : decode cX3_tell 98 = .ok (.getfield 69, 3) := by decide +kernel
theorem dX3_tell_101 : decode cX3_tell 101 = .ok (.ireturn, 1) := by decide +kernel
theorem dX3_tell_102 : decode cX3_tell 102 = .ok (.aload_n 0, 1) := by decide +kernel
theorem dX3_tell_103 : decode cX3_tell 103 = .ok (.getfield 79, 3) := by decide +kernel
theorem dX3_tell_106 : decode cX3_tell 106 = .ok (.ireturn, 1) := by decide +kernel
theorem dX3_tell_107 : decode cX3_tell 107 = .ok (.aload_n 0, 1) := by decide +kernel
theorem dX3_tell_108 : decode cX3_tell 108 = .ok (.getfield 72, 3) := by decide +kernel
theorem dX3_tell_111 : decode cX3_tell 111 = .ok (.ireturn, 1) := by decide +kernel
theorem dX3_tell_112 : decode cX3_tell 112 = .ok (.aload_n 0, 1) := by decide +kernel
theorem dX3_tell_113 : decode cX3_tell 113 = .ok (.getfield 82, 3) := by decide +kernel
theorem dX3_tell_116 : decode cX3_tell 116 = .ok (.ireturn, 1) := by decide +kernel
theorem dX3_tell_117 : decode cX3_tell 117 = .ok (.aload_n 0, 1) := by decide +kernel
theorem dX3_tell_118 : decode cX3_tell 118 = .ok (.getfield 85, 3) := by decide +kernel
theorem dX3_tell_121 : decode cX3_tell 121 = .ok (.ireturn, 1) := by decide +kernel
theorem dX3_tell_122 : decode cX3_tell 122 = .ok (.aload_n 0, 1) := by decide +kernel
theorem dX3_tell_123 : decode cX3_tell 123 = .ok (.getfield 88, 3) := by decide +kernel
theorem dX3_tell_126 : decode cX3_tell 126 = .ok (.ireturn, 1) := by decide +kernel
theorem dX3_tell_127 : decode cX3_tell 127 = .ok (.aload_n 0, 1) := by decide +kernel
theorem dX3_tell_128 : decode cX3_tell 128 = .ok (.getfield 9, 3) := by decide +kernel
theorem dX3_tell_131 : decode cX3_tell 131 = .ok (.iload_n 1, 1) := by decide +kernel
theorem dX3_tell_132 : decode cX3_tell 132 = .ok (.bipush 31, 2) := by decide +kernel
theorem dX3_tell_134 : decode cX3_tell 134 = .ok (.iand, 1) := by decide +kernel
theorem dX3_tell_135 : decode cX3_tell 135 = .ok (.iaload, 1) := by decide +kernel
theorem dX3_tell_136 : decode cX3_tell 136 = .ok (.ireturn, 1) := by decide +kernel
theorem dX3_advance_0 : decode cX3_advance 0 = .ok (.aload_n 0, 1) := by decide +kernel
theorem dX3_advance_1 : decode cX3_advance 1 = .ok (.getfield 60, 3) := by decide +kernel
theorem dX3_advance_4 : decode cX3_advance 4 = .ok (.ifCond .eq 5, 3) := by decide +kernel
theorem dX3_advance_7 : decode cX3_advance 7 = .ok (.iconst 0, 1) := by decide +kernel
theorem dX3_advance_8 : decode cX3_advance 8 = .ok (.ireturn, 1) := by decide +kernel
theorem dX3_advance_9 : decode cX3_advance 9 = .ok (.aload_n 0, 1) := by decide +kernel
theorem dX3_advance_10 : decode cX3_advance 10 = .ok (.getfield 57, 3) := by decide +kernel
theorem dX3_advance_13 : decode cX3_advance 13 = .ok (.iconst 3, 1) := by decide +kernel
theorem dX3_advance_14 : decode cX3_advance 14 = .ok (.iand, 1) := by decide +kernel
theorem dX3_advance_15 : decode cX3_advance 15 = .ok (.ifCond .eq 10, 3) := by decide +kernel
theorem dX3_advance_18 : decode cX3_advance 18 = .ok (.aload_n 0, 1) := by decide +kernel
theorem dX3_advance_19 : decode cX3_advance 19 = .ok (.iconst 3, 1) := by decide +kernel
theorem dX3_advance_20 : decode cX3_advance 20 = .ok (.putfield 60, 3) := by decide +kernel
theorem dX3_advance_23 : decode cX3_advance 23 = .ok (.iconst 1, 1) := by decide +kernel
theorem dX3_advance_24 : decode cX3_advance 24 = .ok (.ireturn, 1) := by decide +kernel
theorem dX3_advance_25 : decode cX3_advance 25 = .ok (.aload_n 0, 1) := by decide +kernel
theorem dX3_advance_26 : decode cX3_advance 26 = .ok (.aload_n 0, 1) := by decide +kernel
theorem dX3_advance_27 : decode cX3_advance 27 = .ok (.getfield 57, 3) := by decide +kernel
theorem dX3_advance_30 : decode cX3_advance 30 = .ok (.bipush 15, 2) := by decide +kernel
theorem dX3_advance_32 : decode cX3_advance 32 = .ok (.invokevirtual 106, 3) := by decide +kernel
theorem dX3_advance_35 : decode cX3_advance 35 = .ok (.ifCond .ne 5, 3) := by decide +kernel
theorem dX3_advance_38 : decode cX3_advance 38 = .ok (.iconst 2, 1) := by decide +kernel
theorem dX3_advance_39 : decode cX3_advance 39 = .ok (.ireturn, 1) := by decide +kernel
theorem dX3_advance_40 : decode cX3_advance 40 = .ok (.aload_n 0, 1) := by decide +kernel
theorem dX3_advance_41 : decode cX3_advance 41 = .ok (.getfield 110, 3) := by decide +kernel
theorem dX3_advance_44 : decode cX3_advance 44 = .ok (.istore_n 1, 1) := by decide +kernel
theorem dX3_advance_45 : decode cX3_advance 45 = .ok (.aload_n 0, 1) := by decide +kernel
theorem dX3_advance_46 : decode cX3_advance 46 = .ok (.getfield 9, 3) := by decide +kernel
theorem dX3_advance_49 : decode cX3_advance 49 = .ok (.iload_n 1, 1) := by decide +kernel
theorem dX3_advance_50 : decode cX3_advance 50 = .ok (.bipush 15, 2) := by decide +kernel
theorem dX3_advance_52 : decode cX3_advance 52 = .ok (.iushr, 1) := by decide +kernel
theorem dX3_advance_53 : decode cX3_advance 53 = .ok (.bipush 31, 2) := by decide +kernel
theorem dX3_advance_55 : decode cX3_advance 55 = .ok (.iand, 1) := by decide +kernel
theorem dX3_advance_56 : decode cX3_advance 56 = .ok (.iaload, 1) := by decide +kernel
theorem dX3_advance_57 : decode cX3_advance 57 = .ok (.istore_n 2, 1) := by decide +kernel
theorem dX3_advance_58 : decode cX3_advance 58 = .ok (.aload_n 0, 1) := by decide +kernel
theorem dX3_advance_59 : decode cX3_advance 59 = .ok (.getfield 9, 3) := by decide +kernel
theorem dX3_advance_62 : decode cX3_advance 62 = .ok (.iload_n 1, 1) := by decide +kernel
theorem dX3_advance_63 : decode cX3_advance 63 = .ok (.bipush 20, 2) := by decide +kernel
theorem dX3_advance_65 : decode cX3_advance 65 = .ok (.iushr, 1) := by decide +kernel
theorem dX3_advance_66 : decode cX3_advance 66 = .ok (.bipush 31, 2) := by decide +kernel
theorem dX3_advance_68 : decode cX3_advance 68 = .ok (.iand, 1) := by decide +kernel
theorem dX3_advance_69 : decode cX3_advance 69 = .ok (.iaload, 1) := by decide +kernel
theorem dX3_advance_70 : decode cX3_advance 70 = .ok (.istore_n 3, 1) := by decide +kernel
theorem dX3_advance_71 : decode cX3_advance 71 = .ok (.iload_n 1, 1) := by decide +kernel
theorem dX3_advance_72 : decode cX3_advance 72 = .ok (.bipush 127, 2) := by decide +kernel
theorem dX3_advance_74 : decode cX3_advance 74 = .ok (.iand, 1) := by decide +kernel
theorem dX3_advance_75 : decode cX3_advance 75 = .ok (.lookupswitch 304 #[(3, 178), (15, 298), (19, 211), (23, 108), (35, 194), (47, 270), (51, 242), (55, 97), (99, 170), (103, 139), (111, 124)], 97) := by decide +kernel
theorem dX3_advance_172 : decode cX3_advance 172 = .ok (.aload_n 0, 1) := by decide +kernel
theorem dX3_advance_173 : decode cX3_advance 173 = .ok (.iload_n 1, 1) := by decide +kernel
theorem dX3_advance_174 : decode cX3_advance 174 = .ok (.iload_n 1, 1) := by decide +kernel
theorem dX3_advance_175 : decode cX3_advance 175 = .ok (.sipush (-4096), 3) := by decide +kernel
theorem dX3_advance_178 : decode cX3_advance 178 = .ok (.iand, 1) := by decide +kernel
theorem dX3_advance_179 : decode cX3_advance 179 = .ok (.invokevirtual 113, 3) := by decide +kernel
theorem dX3_advance_182 : decode cX3_advance 182 = .ok (.ireturn, 1) := by decide +kernel
theorem dX3_advance_183 : decode cX3_advance 183 = .ok (.aload_n 0, 1) := by decide +kernel
theorem dX3_advance_184 : decode cX3_advance 184 = .ok (.iload_n 1, 1) := by decide +kernel
theorem dX3_advance_185 : decode cX3_advance 185 = .ok (.aload_n 0, 1) := by decide +kernel
theorem dX3_advance_186 : decode cX3_advance 186 = .ok (.getfield 57, 3) := by decide +kernel
theorem dX3_advance_189 : decode cX3_advance 189 = .ok (.iload_n 1, 1) := by decide +kernel
theorem dX3_advance_190 : decode cX3_advance 190 = .ok (.sipush (-4096), 3) := by decide +kernel
theorem dX3_advance_193 : decode cX3_advance 193 = .ok (.iand, 1) := by decide +kernel
theorem dX3_advance_194 : decode cX3_advance 194 = .ok (.iadd, 1) := by decide +kernel
theorem dX3_advance_195 : decode cX3_advance 195 = .ok (.invokevirtual 113, 3) := by decide +kernel
theorem dX3_advance_198 : decode cX3_advance 198 = .ok (.ireturn, 1) := by decide +kernel
theorem dX3_advance_199 : decode cX3_advance 199 = .ok (.aload_n 0, 1) := by decide +kernel
theorem dX3_advance_200 : decode cX3_advance 200 = .ok (.iload_n 1, 1) := by decide +kernel
theorem dX3_advance_201 : decode cX3_advance 201 = .ok (.aload_n 0, 1) := by decide +kernel
theorem dX3_advance_202 : decode cX3_advance 202 = .ok (.getfield 57, 3) := by decide +kernel
theorem dX3_advance_205 : decode cX3_advance 205 = .ok (.iload_n 1, 1) := by decide +kernel
theorem dX3_advance_206 : decode cX3_advance 206 = .ok (.invokestatic 116, 3) := by decide +kernel
theorem dX3_advance_209 : decode cX3_advance 209 = .ok (.iadd, 1) := by decide +kernel
theorem dX3_advance_210 : decode cX3_advance 210 = .ok (.invokevirtual 122, 3) := by decide +kernel
theorem dX3_advance_213 : decode cX3_advance 213 = .ok (.ireturn, 1) := by decide +kernel
theorem dX3_advance_214 : decode cX3_advance 214 = .ok (.iload_n 1, 1) := by decide +kernel
theorem dX3_advance_215 : decode cX3_advance 215 = .ok (.invokestatic 125, 3) := by decide +kernel
theorem dX3_advance_218 : decode cX3_advance 218 = .ok (.ifCond .ne 20, 3) := by decide +kernel
theorem dX3_advance_221 : decode cX3_advance 221 = .ok (.aload_n 0, 1) := by decide +kernel
theorem dX3_advance_222 : decode cX3_advance 222 = .ok (.iload_n 1, 1) := by decide +kernel
theorem dX3_advance_223 : decode cX3_advance 223 = .ok (.iload_n 2, 1) := by decide +kernel
theorem dX3_advance_224 : decode cX3_advance 224 = .ok (.iload_n 1, 1) := by decide +kernel
theorem dX3_advance_225 : decode cX3_advance 225 = .ok (.bipush 20, 2) := by decide +kernel
theorem dX3_advance_227 : decode cX3_advance 227 = .ok (.ishr, 1) := by decide +kernel
theorem dX3_advance_228 : decode cX3_advance 228 = .ok (.iadd, 1) := by decide +kernel
theorem dX3_advance_229 : decode cX3_advance 229 = .ok (.bipush (-2), 2) := by decide +kernel
theorem dX3_advance_231 : decode cX3_advance 231 = .ok (.iand, 1) := by decide +kernel
theorem dX3_advance_232 : decode cX3_advance 232 = .ok (.invokevirtual 122, 3) := by decide +kernel
theorem dX3_advance_235 : decode cX3_advance 235 = .ok (.goto 9, 3) := by decide +kernel
theorem dX3_advance_238 : decode cX3_advance 238 = .ok (.aload_n 0, 1) := by decide +kernel
theorem dX3_advance_239 : decode cX3_advance 239 = .ok (.iload_n 1, 1) := by decide +kernel
theorem dX3_advance_240 : decode cX3_advance 240 = .ok (.iconst 2, 1) := by decide +kernel
theorem dX3_advance_241 : decode cX3_advance 241 = .ok (.invokevirtual 128, 3) := by decide +kernel
theorem dX3_advance_244 : decode cX3_advance 244 = .ok (.ireturn, 1) := by decide +kernel
theorem dX3_advance_245 : decode cX3_advance 245 = .ok (.aload_n 0, 1) := by decide +kernel
theorem dX3_advance_246 : decode cX3_advance 246 = .ok (.iload_n 1, 1) := by decide +kernel
theorem dX3_advance_247 : decode cX3_advance 247 = .ok (.iload_n 2, 1) := by decide +kernel
theorem dX3_advance_248 : decode cX3_advance 248 = .ok (.iload_n 3, 1) := by decide +kernel
theorem dX3_advance_249 : decode cX3_advance 249 = .ok (.invokevirtual 131, 3) := by decide +kernel
theorem dX3_advance_252 : decode cX3_advance 252 = .ok (.ireturn, 1) := by decide +kernel
theorem dX3_advance_253 : decode cX3_advance 253 = .ok (.aload_n 0, 1) := by decide +kernel
theorem dX3_advance_254 : decode cX3_advance 254 = .ok (.iload_n 1, 1) := by decide +kernel
theorem dX3_advance_255 : decode cX3_advance 255 = .ok (.iload_n 2, 1) := by decide +kernel
theorem dX3_advance_256 : decode cX3_advance 256 = .ok (.iload_n 1, 1) := by decide +kernel
theorem dX3_advance_257 : decode cX3_advance 257 = .ok (.bipush 20, 2) := by decide +kernel
theorem dX3_advance_259 : decode cX3_advance 259 = .ok (.ishr, 1) := by decide +kernel
theorem dX3_advance_260 : decode cX3_advance 260 = .ok (.iadd, 1) := by decide +kernel
theorem dX3_advance_261 : decode cX3_advance 261 = .ok (.sipush 8191, 3) := by decide +kernel
theorem dX3_advance_264 : decode cX3_advance 264 = .ok (.iand, 1) := by decide +kernel
theorem dX3_advance_265 : decode cX3_advance 265 = .ok (.invokevirtual 135, 3) := by decide +kernel
theorem dX3_advance_268 : decode cX3_advance 268 = .ok (.ireturn, 1) := by decide +kernel
theorem dX3_advance_269 : decode cX3_advance 269 = .ok (.aload_n 0, 1) := by decide +kernel
theorem dX3_advance_270 : decode cX3_advance 270 = .ok (.iload_n 1, 1) := by decide +kernel
theorem dX3_advance_271 : decode cX3_advance 271 = .ok (.iload_n 2, 1) := by decide +kernel
theorem dX3_advance_272 : decode cX3_advance 272 = .ok (.iload_n 1, 1) := by decide +kernel
theorem dX3_advance_273 : decode cX3_advance 273 = .ok (.invokestatic 138, 3) := by decide +kernel
theorem dX3_advance_276 : decode cX3_advance 276 = .ok (.iadd, 1) := by decide +kernel
theorem dX3_advance_277 : decode cX3_advance 277 = .ok (.sipush 8191, 3) := by decide +kernel
theorem dX3_advance_280 : decode cX3_advance 280 = .ok (.iand, 1) := by decide +kernel
theorem dX3_advance_281 : decode cX3_advance 281 = .ok (.iload_n 3, 1) := by decide +kernel
theorem dX3_advance_282 : decode cX3_advance 282 = .ok (.invokevirtual 141, 3) := by decide +kernel
theorem dX3_advance_285 : decode cX3_advance 285 = .ok (.ireturn, 1) := by decide +kernel
theorem dX3_advance_286 : decode cX3_advance 286 = .ok (.iload_n 1, 1) := by decide +kernel
theorem dX3_advance_287 : decode cX3_advance 287 = .ok (.invokestatic 144, 3) := by decide +kernel
theorem dX3_advance_290 : decode cX3_advance 290 = .ok (.ifCond .eq 20, 3) := by decide +kernel
theorem dX3_advance_293 : decode cX3_advance 293 = .ok (.aload_n 0, 1) := by decide +kernel
theorem dX3_advance_294 : decode cX3_advance 294 = .ok (.iload_n 1, 1) := by decide +kernel
theorem dX3_advance_295 : decode cX3_advance 295 = .ok (.iload_n 1, 1) := by decide +kernel
theorem dX3_advance_296 : decode cX3_advance 296 = .ok (.iload_n 2, 1) := by decide +kernel
theorem dX3_advance_297 : decode cX3_advance 297 = .ok (.iload_n 1, 1) := by decide +kernel
theorem dX3_advance_298 : decode cX3_advance 298 = .ok (.bipush 20, 2) := by decide +kernel
theorem dX3_advance_300 : decode cX3_advance 300 = .ok (.ishr, 1) := by decide +kernel
theorem dX3_advance_301 : decode cX3_advance 301 = .ok (.invokestatic 148, 3) := by decide +kernel
theorem dX3_advance_304 : decode cX3_advance 304 = .ok (.invokevirtual 113, 3) := by decide +kernel
theorem dX3_advance_307 : decode cX3_advance 307 = .ok (.goto 9, 3) := by decide +kernel
theorem dX3_advance_310 : decode cX3_advance 310 = .ok (.aload_n 0, 1) := by decide +kernel
theorem dX3_advance_311 : decode cX3_advance 311 = .ok (.iload_n 1, 1) := by decide +kernel
theorem dX3_advance_312 : decode cX3_advance 312 = .ok (.iconst 2, 1) := by decide +kernel
theorem dX3_advance_313 : decode cX3_advance 313 = .ok (.invokevirtual 128, 3) := by decide +kernel
theorem dX3_advance_316 : decode cX3_advance 316 = .ok (.ireturn, 1) := by decide +kernel
theorem dX3_advance_317 : decode cX3_advance 317 = .ok (.iload_n 1, 1) := by decide +kernel
theorem dX3_advance_318 : decode cX3_advance 318 = .ok (.invokestatic 151, 3) := by decide +kernel
theorem dX3_advance_321 : decode cX3_advance 321 = .ok (.ifCond .eq 17, 3) := by decide +kernel
theorem dX3_advance_324 : decode cX3_advance 324 = .ok (.aload_n 0, 1) := by decide +kernel
theorem dX3_advance_325 : decode cX3_advance 325 = .ok (.iload_n 1, 1) := by decide +kernel
theorem dX3_advance_326 : decode cX3_advance 326 = .ok (.iload_n 1, 1) := by decide +kernel
theorem dX3_advance_327 : decode cX3_advance 327 = .ok (.iload_n 2, 1) := by decide +kernel
theorem dX3_advance_328 : decode cX3_advance 328 = .ok (.iload_n 3, 1) := by decide +kernel
theorem dX3_advance_329 : decode cX3_advance 329 = .ok (.invokestatic 148, 3) := by decide +kernel
theorem dX3_advance_332 : decode cX3_advance 332 = .ok (.invokevirtual 113, 3) := by decide +kernel
theorem dX3_advance_335 : decode cX3_advance 335 = .ok (.goto 9, 3) := by decide +kernel
theorem dX3_advance_338 : decode cX3_advance 338 = .ok (.aload_n 0, 1) := by decide +kernel
theorem dX3_advance_339 : decode cX3_advance 339 = .ok (.iload_n 1, 1) := by decide +kernel
theorem dX3_advance_340 : decode cX3_advance 340 = .ok (.iconst 2, 1) := by decide +kernel
theorem dX3_advance_341 : decode cX3_advance 341 = .ok (.invokevirtual 128, 3) := by decide +kernel
theorem dX3_advance_344 : decode cX3_advance 344 = .ok (.ireturn, 1) := by decide +kernel
theorem dX3_advance_345 : decode cX3_advance 345 = .ok (.iload_n 1, 1) := by decide +kernel
theorem dX3_advance_346 : decode cX3_advance 346 = .ok (.invokestatic 154, 3) := by decide +kernel
theorem dX3_advance_349 : decode cX3_advance 349 = .ok (.ifCond .eq 17, 3) := by decide +kernel
theorem dX3_advance_352 : decode cX3_advance 352 = .ok (.aload_n 0, 1) := by decide +kernel
theorem dX3_advance_353 : decode cX3_advance 353 = .ok (.iload_n 1, 1) := by decide +kernel
theorem dX3_advance_354 : decode cX3_advance 354 = .ok (.iload_n 2, 1) := by decide +kernel
theorem dX3_advance_355 : decode cX3_advance 355 = .ok (.sipush 8191, 3) := by decide +kernel
theorem dX3_advance_358 : decode cX3_advance 358 = .ok (.iand, 1) := by decide +kernel
theorem dX3_advance_359 : decode cX3_advance 359 = .ok (.iload_n 3, 1) := by decide +kernel
theorem dX3_advance_360 : decode cX3_advance 360 = .ok (.invokevirtual 157, 3) := by decide +kernel
theorem dX3_advance_363 : decode cX3_advance 363 = .ok (.goto 9, 3) := by decide +kernel
theorem dX3_advance_366 : decode cX3_advance 366 = .ok (.aload_n 0, 1) := by decide +kernel
theorem dX3_advance_367 : decode cX3_advance 367 = .ok (.iload_n 1, 1) := by decide +kernel
theorem dX3_advance_368 : decode cX3_advance 368 = .ok (.iconst 2, 1) := by decide +kernel
theorem dX3_advance_369 : decode cX3_advance 369 = .ok (.invokevirtual 128, 3) := by decide +kernel
theorem dX3_advance_372 : decode cX3_advance 372 = .ok (.ireturn, 1) := by decide +kernel
theorem dX3_advance_373 : decode cX3_advance 373 = .ok (.aload_n 0, 1) := by decide +kernel
theorem dX3_advance_374 : decode cX3_advance 374 = .ok (.iload_n 1, 1) := by decide +kernel
theorem dX3_advance_375 : decode cX3_advance 375 = .ok (.invokevirtual 160, 3) := by decide +kernel
theorem dX3_advance_378 : decode cX3_advance 378 = .ok (.ireturn, 1) := by decide +kernel
theorem dX3_advance_379 : decode cX3_advance 379 = .ok (.aload_n 0, 1) := by decide +kernel
theorem dX3_advance_380 : decode cX3_advance 380 = .ok (.iload_n 1, 1) := by decide +kernel
theorem dX3_advance_381 : decode cX3_advance 381 = .ok (.iload_n 1, 1) := by decide +kernel
theorem dX3_advance_382 : decode cX3_advance 382 = .ok (.bipush 115, 2) := by decide +kernel
theorem dX3_advance_384 : decode cX3_advance 384 = .ok (.if_icmp .eq 9, 3) := by decide +kernel
theorem dX3_advance_387 : decode cX3_advance 387 = .ok (.iload_n 1, 1) := by decide +kernel
theorem dX3_advance_388 : decode cX3_advance 388 = .ok (.ldc 163, 2) := by decide +kernel
theorem dX3_advance_390 : decode cX3_advance 390 = .ok (.if_icmp .ne 7, 3) := by decide +kernel
theorem dX3_advance_393 : decode cX3_advance 393 = .ok (.iconst 1, 1) := by decide +kernel
theorem dX3_advance_394 : decode cX3_advance 394 = .ok (.goto 4, 3) := by decide +kernel
theorem dX3_advance_397 : decode cX3_advance 397 = .ok (.iconst 2, 1) := by decide +kernel
theorem dX3_advance_398 : decode cX3_advance 398 = .ok (.invokevirtual 128, 3) := by decide +kernel
theorem dX3_advance_401 : decode cX3_advance 401 = .ok (.ireturn, 1) := by decide +kernel
theorem dX3_finish_0 : decode cX3_finish 0 = .ok (.iload_n 2, 1) := by decide +kernel
theorem dX3_finish_1 : decode cX3_finish 1 = .ok (.ifCond .eq 10, 3) := by decide +kernel
theorem dX3_finish_4 : decode cX3_finish 4 = .ok (.aload_n 0, 1) := by decide +kernel
theorem dX3_finish_5 : decode cX3_finish 5 = .ok (.getfield 9, 3) := by decide +kernel
theorem dX3_finish_8 : decode cX3_finish 8 = .ok (.iload_n 2, 1) := by decide +kernel
theorem dX3_finish_9 : decode cX3_finish 9 = .ok (.iload_n 3, 1) := by decide +kernel
theorem dX3_finish_10 : decode cX3_finish 10 = .ok (.iastore, 1) := by decide +kernel
theorem dX3_finish_11 : decode cX3_finish 11 = .ok (.aload_n 0, 1) := by decide +kernel
theorem dX3_finish_12 : decode cX3_finish 12 = .ok (.getfield 32, 3) := by decide +kernel
theorem dX3_finish_15 : decode cX3_finish 15 = .ok (.aload_n 0, 1) := by decide +kernel
theorem dX3_finish_16 : decode cX3_finish 16 = .ok (.getfield 57, 3) := by decide +kernel
theorem dX3_finish_19 : decode cX3_finish 19 = .ok (.iload_n 1, 1) := by decide +kernel
theorem dX3_finish_20 : decode cX3_finish 20 = .ok (.iload_n 2, 1) := by decide +kernel
theorem dX3_finish_21 : decode cX3_finish 21 = .ok (.aload_n 0, 1) := by decide +kernel
theorem dX3_finish_22 : decode cX3_finish 22 = .ok (.getfield 9, 3) := by decide +kernel
theorem dX3_finish_25 : decode cX3_finish 25 = .ok (.iload_n 2, 1) := by decide +kernel
theorem dX3_finish_26 : decode cX3_finish 26 = .ok (.iaload, 1) := by decide +kernel
theorem dX3_finish_27 : decode cX3_finish 27 = .ok (.iload 4, 2) := by decide +kernel
theorem dX3_finish_29 : decode cX3_finish 29 = .ok (.iload 5, 2) := by decide +kernel
theorem dX3_finish_31 : decode cX3_finish 31 = .ok (.iload 6, 2) := by decide +kernel
theorem dX3_finish_33 : decode cX3_finish 33 = .ok (.invokevirtual 164, 3) := by decide +kernel
theorem dX3_finish_36 : decode cX3_finish 36 = .ok (.aload_n 0, 1) := by decide +kernel
theorem dX3_finish_37 : decode cX3_finish 37 = .ok (.iload 7, 2) := by decide +kernel
theorem dX3_finish_39 : decode cX3_finish 39 = .ok (.sipush 8191, 3) := by decide +kernel
theorem dX3_finish_42 : decode cX3_finish 42 = .ok (.iand, 1) := by decide +kernel
theorem dX3_finish_43 : decode cX3_finish 43 = .ok (.putfield 57, 3) := by decide +kernel
theorem dX3_finish_46 : decode cX3_finish 46 = .ok (.aload_n 0, 1) := by decide +kernel
theorem dX3_finish_47 : decode cX3_finish 47 = .ok (.iconst 0, 1) := by decide +kernel
theorem dX3_finish_48 : decode cX3_finish 48 = .ok (.putfield 85, 3) := by decide +kernel
theorem dX3_finish_51 : decode cX3_finish 51 = .ok (.iconst 1, 1) := by decide +kernel
theorem dX3_finish_52 : decode cX3_finish 52 = .ok (.ireturn, 1) := by decide +kernel
theorem dX3_stopped_0 : decode cX3_stopped 0 = .ok (.aload_n 0, 1) := by decide +kernel
theorem dX3_stopped_1 : decode cX3_stopped 1 = .ok (.iload_n 2, 1) := by decide +kernel
theorem dX3_stopped_2 : decode cX3_stopped 2 = .ok (.putfield 60, 3) := by decide +kernel
theorem dX3_stopped_5 : decode cX3_stopped 5 = .ok (.aload_n 0, 1) := by decide +kernel
theorem dX3_stopped_6 : decode cX3_stopped 6 = .ok (.iload_n 1, 1) := by decide +kernel
theorem dX3_stopped_7 : decode cX3_stopped 7 = .ok (.iconst 0, 1) := by decide +kernel
theorem dX3_stopped_8 : decode cX3_stopped 8 = .ok (.iconst 0, 1) := by decide +kernel
theorem dX3_stopped_9 : decode cX3_stopped 9 = .ok (.iconst (-1), 1) := by decide +kernel
theorem dX3_stopped_10 : decode cX3_stopped 10 = .ok (.iconst 0, 1) := by decide +kernel
theorem dX3_stopped_11 : decode cX3_stopped 11 = .ok (.iconst 0, 1) := by decide +kernel
theorem dX3_stopped_12 : decode cX3_stopped 12 = .ok (.aload_n 0, 1) := by decide +kernel
theorem dX3_stopped_13 : decode cX3_stopped 13 = .ok (.getfield 57, 3) := by decide +kernel
theorem dX3_stopped_16 : decode cX3_stopped 16 = .ok (.invokevirtual 168, 3) := by decide +kernel
theorem dX3_stopped_19 : decode cX3_stopped 19 = .ok (.ireturn, 1) := by decide +kernel
theorem dX3_reckoned_0 : decode cX3_reckoned 0 = .ok (.aload_n 0, 1) := by decide +kernel
theorem dX3_reckoned_1 : decode cX3_reckoned 1 = .ok (.iload_n 1, 1) := by decide +kernel
theorem dX3_reckoned_2 : decode cX3_reckoned 2 = .ok (.iload_n 1, 1) := by decide +kernel
theorem dX3_reckoned_3 : decode cX3_reckoned 3 = .ok (.bipush 7, 2) := by decide +kernel
theorem dX3_reckoned_5 : decode cX3_reckoned 5 = .ok (.iushr, 1) := by decide +kernel
theorem dX3_reckoned_6 : decode cX3_reckoned 6 = .ok (.bipush 31, 2) := by decide +kernel
theorem dX3_reckoned_8 : decode cX3_reckoned 8 = .ok (.iand, 1) := by decide +kernel
theorem dX3_reckoned_9 : decode cX3_reckoned 9 = .ok (.iload_n 2, 1) := by decide +kernel
theorem dX3_reckoned_10 : decode cX3_reckoned 10 = .ok (.iconst (-1), 1) := by decide +kernel
theorem dX3_reckoned_11 : decode cX3_reckoned 11 = .ok (.iconst 0, 1) := by decide +kernel
theorem dX3_reckoned_12 : decode cX3_reckoned 12 = .ok (.iconst 0, 1) := by decide +kernel
theorem dX3_reckoned_13 : decode cX3_reckoned 13 = .ok (.aload_n 0, 1) := by decide +kernel
theorem dX3_reckoned_14 : decode cX3_reckoned 14 = .ok (.getfield 57, 3) := by decide +kernel
theorem dX3_reckoned_17 : decode cX3_reckoned 17 = .ok (.iconst 4, 1) := by decide +kernel
theorem dX3_reckoned_18 : decode cX3_reckoned 18 = .ok (.iadd, 1) := by decide +kernel
theorem dX3_reckoned_19 : decode cX3_reckoned 19 = .ok (.invokevirtual 168, 3) := by decide +kernel
theorem dX3_reckoned_22 : decode cX3_reckoned 22 = .ok (.ireturn, 1) := by decide +kernel
theorem dX3_jumped_0 : decode cX3_jumped 0 = .ok (.aload_n 0, 1) := by decide +kernel
theorem dX3_jumped_1 : decode cX3_jumped 1 = .ok (.iload_n 1, 1) := by decide +kernel
theorem dX3_jumped_2 : decode cX3_jumped 2 = .ok (.iload_n 1, 1) := by decide +kernel
theorem dX3_jumped_3 : decode cX3_jumped 3 = .ok (.bipush 7, 2) := by decide +kernel
theorem dX3_jumped_5 : decode cX3_jumped 5 = .ok (.iushr, 1) := by decide +kernel
theorem dX3_jumped_6 : decode cX3_jumped 6 = .ok (.bipush 31, 2) := by decide +kernel
theorem dX3_jumped_8 : decode cX3_jumped 8 = .ok (.iand, 1) := by decide +kernel
theorem dX3_jumped_9 : decode cX3_jumped 9 = .ok (.aload_n 0, 1) := by decide +kernel
theorem dX3_jumped_10 : decode cX3_jumped 10 = .ok (.getfield 57, 3) := by decide +kernel
theorem dX3_jumped_13 : decode cX3_jumped 13 = .ok (.iconst 4, 1) := by decide +kernel
theorem dX3_jumped_14 : decode cX3_jumped 14 = .ok (.iadd, 1) := by decide +kernel
theorem dX3_jumped_15 : decode cX3_jumped 15 = .ok (.iconst (-1), 1) := by decide +kernel
theorem dX3_jumped_16 : decode cX3_jumped 16 = .ok (.iconst 0, 1) := by decide +kernel
theorem dX3_jumped_17 : decode cX3_jumped 17 = .ok (.iconst 0, 1) := by decide +kernel
theorem dX3_jumped_18 : decode cX3_jumped 18 = .ok (.iload_n 2, 1) := by decide +kernel
theorem dX3_jumped_19 : decode cX3_jumped 19 = .ok (.invokevirtual 168, 3) := by decide +kernel
theorem dX3_jumped_22 : decode cX3_jumped 22 = .ok (.ireturn, 1) := by decide +kernel
theorem dX3_branched_0 : decode cX3_branched 0 = .ok (.iload_n 1, 1) := by decide +kernel
theorem dX3_branched_1 : decode cX3_branched 1 = .ok (.invokestatic 172, 3) := by decide +kernel
theorem dX3_branched_4 : decode cX3_branched 4 = .ok (.ifCond .ne 10, 3) := by decide +kernel
theorem dX3_branched_7 : decode cX3_branched 7 = .ok (.aload_n 0, 1) := by decide +kernel
theorem dX3_branched_8 : decode cX3_branched 8 = .ok (.iload_n 1, 1) := by decide +kernel
theorem dX3_branched_9 : decode cX3_branched 9 = .ok (.iconst 2, 1) := by decide +kernel
theorem dX3_branched_10 : decode cX3_branched 10 = .ok (.invokevirtual 128, 3) := by decide +kernel
theorem dX3_branched_13 : decode cX3_branched 13 = .ok (.ireturn, 1) := by decide +kernel
theorem dX3_branched_14 : decode cX3_branched 14 = .ok (.iload_n 1, 1) := by decide +kernel
theorem dX3_branched_15 : decode cX3_branched 15 = .ok (.iload_n 2, 1) := by decide +kernel
theorem dX3_branched_16 : decode cX3_branched 16 = .ok (.iload_n 3, 1) := by decide +kernel
theorem dX3_branched_17 : decode cX3_branched 17 = .ok (.invokestatic 175, 3) := by decide +kernel
theorem dX3_branched_20 : decode cX3_branched 20 = .ok (.ifCond .eq 10, 3) := by decide +kernel
theorem dX3_branched_23 : decode cX3_branched 23 = .ok (.iload_n 1, 1) := by decide +kernel
theorem dX3_branched_24 : decode cX3_branched 24 = .ok (.invokestatic 179, 3) := by decide +kernel
theorem dX3_branched_27 : decode cX3_branched 27 = .ok (.goto 4, 3) := by decide +kernel
theorem dX3_branched_30 : decode cX3_branched 30 = .ok (.iconst 4, 1) := by decide +kernel
theorem dX3_branched_31 : decode cX3_branched 31 = .ok (.istore 4, 2) := by decide +kernel
theorem dX3_branched_33 : decode cX3_branched 33 = .ok (.aload_n 0, 1) := by decide +kernel
theorem dX3_branched_34 : decode cX3_branched 34 = .ok (.iload_n 1, 1) := by decide +kernel
theorem dX3_branched_35 : decode cX3_branched 35 = .ok (.iconst 0, 1) := by decide +kernel
theorem dX3_branched_36 : decode cX3_branched 36 = .ok (.iconst 0, 1) := by decide +kernel
theorem dX3_branched_37 : decode cX3_branched 37 = .ok (.iconst (-1), 1) := by decide +kernel
theorem dX3_branched_38 : decode cX3_branched 38 = .ok (.iconst 0, 1) := by decide +kernel
theorem dX3_branched_39 : decode cX3_branched 39 = .ok (.iconst 0, 1) := by decide +kernel
theorem dX3_branched_40 : decode cX3_branched 40 = .ok (.aload_n 0, 1) := by decide +kernel
theorem dX3_branched_41 : decode cX3_branched 41 = .ok (.getfield 57, 3) := by decide +kernel
theorem dX3_branched_44 : decode cX3_branched 44 = .ok (.iload 4, 2) := by decide +kernel
theorem dX3_branched_46 : decode cX3_branched 46 = .ok (.iadd, 1) := by decide +kernel
theorem dX3_branched_47 : decode cX3_branched 47 = .ok (.invokevirtual 168, 3) := by decide +kernel
theorem dX3_branched_50 : decode cX3_branched 50 = .ok (.ireturn, 1) := by decide +kernel
theorem dX3_fenced_0 : decode cX3_fenced 0 = .ok (.iload_n 1, 1) := by decide +kernel
theorem dX3_fenced_1 : decode cX3_fenced 1 = .ok (.invokestatic 125, 3) := by decide +kernel
theorem dX3_fenced_4 : decode cX3_fenced 4 = .ok (.ifCond .eq 10, 3) := by decide +kernel
theorem dX3_fenced_7 : decode cX3_fenced 7 = .ok (.aload_n 0, 1) := by decide +kernel
theorem dX3_fenced_8 : decode cX3_fenced 8 = .ok (.iload_n 1, 1) := by decide +kernel
theorem dX3_fenced_9 : decode cX3_fenced 9 = .ok (.iconst 2, 1) := by decide +kernel
theorem dX3_fenced_10 : decode cX3_fenced 10 = .ok (.invokevirtual 128, 3) := by decide +kernel
theorem dX3_fenced_13 : decode cX3_fenced 13 = .ok (.ireturn, 1) := by decide +kernel
theorem dX3_fenced_14 : decode cX3_fenced 14 = .ok (.aload_n 0, 1) := by decide +kernel
theorem dX3_fenced_15 : decode cX3_fenced 15 = .ok (.getfield 18, 3) := by decide +kernel
theorem dX3_fenced_18 : decode cX3_fenced 18 = .ok (.getfield 100, 3) := by decide +kernel
theorem dX3_fenced_21 : decode cX3_fenced 21 = .ok (.ifCond .le 7, 3) := by decide +kernel
theorem dX3_fenced_24 : decode cX3_fenced 24 = .ok (.iconst 5, 1) := by decide +kernel
theorem dX3_fenced_25 : decode cX3_fenced 25 = .ok (.goto 19, 3) := by decide +kernel
theorem dX3_fenced_28 : decode cX3_fenced 28 = .ok (.aload_n 0, 1) := by decide +kernel
theorem dX3_fenced_29 : decode cX3_fenced 29 = .ok (.iload_n 1, 1) := by decide +kernel
theorem dX3_fenced_30 : decode cX3_fenced 30 = .ok (.iconst 0, 1) := by decide +kernel
theorem dX3_fenced_31 : decode cX3_fenced 31 = .ok (.iconst 0, 1) := by decide +kernel
theorem dX3_fenced_32 : decode cX3_fenced 32 = .ok (.iconst (-1), 1) := by decide +kernel
theorem dX3_fenced_33 : decode cX3_fenced 33 = .ok (.iconst 0, 1) := by decide +kernel
theorem dX3_fenced_34 : decode cX3_fenced 34 = .ok (.iconst 0, 1) := by decide +kernel
theorem dX3_fenced_35 : decode cX3_fenced 35 = .ok (.aload_n 0, 1) := by decide +kernel
theorem dX3_fenced_36 : decode cX3_fenced 36 = .ok (.getfield 57, 3) := by decide +kernel
theorem dX3_fenced_39 : decode cX3_fenced 39 = .ok (.iconst 4, 1) := by decide +kernel
theorem dX3_fenced_40 : decode cX3_fenced 40 = .ok (.iadd, 1) := by decide +kernel
theorem dX3_fenced_41 : decode cX3_fenced 41 = .ok (.invokevirtual 168, 3) := by decide +kernel
theorem dX3_fenced_44 : decode cX3_fenced 44 = .ok (.ireturn, 1) := by decide +kernel
theorem dX3_loaded_0 : decode cX3_loaded 0 = .ok (.iload_n 1, 1) := by decide +kernel
theorem dX3_loaded_1 : decode cX3_loaded 1 = .ok (.invokestatic 125, 3) := by decide +kernel
theorem dX3_loaded_4 : decode cX3_loaded 4 = .ok (.istore_n 3, 1) := by decide +kernel
theorem dX3_loaded_5 : decode cX3_loaded 5 = .ok (.iload_n 3, 1) := by decide +kernel
theorem dX3_loaded_6 : decode cX3_loaded 6 = .ok (.iconst 3, 1) := by decide +kernel
theorem dX3_loaded_7 : decode cX3_loaded 7 = .ok (.if_icmp .eq 8, 3) := by decide +kernel
theorem dX3_loaded_10 : decode cX3_loaded 10 = .ok (.iload_n 3, 1) := by decide +kernel
theorem dX3_loaded_11 : decode cX3_loaded 11 = .ok (.iconst 5, 1) := by decide +kernel
theorem dX3_loaded_12 : decode cX3_loaded 12 = .ok (.if_icmp .le 10, 3) := by decide +kernel
theorem dX3_loaded_15 : decode cX3_loaded 15 = .ok (.aload_n 0, 1) := by decide +kernel
theorem dX3_loaded_16 : decode cX3_loaded 16 = .ok (.iload_n 1, 1) := by decide +kernel
theorem dX3_loaded_17 : decode cX3_loaded 17 = .ok (.iconst 2, 1) := by decide +kernel
theorem dX3_loaded_18 : decode cX3_loaded 18 = .ok (.invokevirtual 128, 3) := by decide +kernel
theorem dX3_loaded_21 : decode cX3_loaded 21 = .ok (.ireturn, 1) := by decide +kernel
theorem dX3_loaded_22 : decode cX3_loaded 22 = .ok (.iconst 1, 1) := by decide +kernel
theorem dX3_loaded_23 : decode cX3_loaded 23 = .ok (.iload_n 3, 1) := by decide +kernel
theorem dX3_loaded_24 : decode cX3_loaded 24 = .ok (.iconst 3, 1) := by decide +kernel
theorem dX3_loaded_25 : decode cX3_loaded 25 = .ok (.iand, 1) := by decide +kernel
theorem dX3_loaded_26 : decode cX3_loaded 26 = .ok (.ishl, 1) := by decide +kernel
theorem dX3_loaded_27 : decode cX3_loaded 27 = .ok (.istore 4, 2) := by decide +kernel
theorem dX3_loaded_29 : decode cX3_loaded 29 = .ok (.iload_n 2, 1) := by decide +kernel
theorem dX3_loaded_30 : decode cX3_loaded 30 = .ok (.iload 4, 2) := by decide +kernel
theorem dX3_loaded_32 : decode cX3_loaded 32 = .ok (.iconst 1, 1) := by decide +kernel
theorem dX3_loaded_33 : decode cX3_loaded 33 = .ok (.isub, 1) := by decide +kernel
theorem dX3_loaded_34 : decode cX3_loaded 34 = .ok (.iand, 1) := by decide +kernel
theorem dX3_loaded_35 : decode cX3_loaded 35 = .ok (.ifCond .eq 10, 3) := by decide +kernel
theorem dX3_loaded_38 : decode cX3_loaded 38 = .ok (.aload_n 0, 1) := by decide +kernel
theorem dX3_loaded_39 : decode cX3_loaded 39 = .ok (.iload_n 1, 1) := by decide +kernel
theorem dX3_loaded_40 : decode cX3_loaded 40 = .ok (.iconst 4, 1) := by decide +kernel
theorem dX3_loaded_41 : decode cX3_loaded 41 = .ok (.invokevirtual 128, 3) := by decide +kernel
theorem dX3_loaded_44 : decode cX3_loaded 44 = .ok (.ireturn, 1) := by decide +kernel
theorem dX3_loaded_45 : decode cX3_loaded 45 = .ok (.iload_n 2, 1) := by decide +kernel
theorem dX3_loaded_46 : decode cX3_loaded 46 = .ok (.iconst 3, 1) := by decide +kernel
theorem dX3_loaded_47 : decode cX3_loaded 47 = .ok (.iand, 1) := by decide +kernel
theorem dX3_loaded_48 : decode cX3_loaded 48 = .ok (.istore 5, 2) := by decide +kernel
theorem dX3_loaded_50 : decode cX3_loaded 50 = .ok (.aload_n 0, 1) := by decide +kernel
theorem dX3_loaded_51 : decode cX3_loaded 51 = .ok (.iload_n 2, 1) := by decide +kernel
theorem dX3_loaded_52 : decode cX3_loaded 52 = .ok (.iload 5, 2) := by decide +kernel
theorem dX3_loaded_54 : decode cX3_loaded 54 = .ok (.isub, 1) := by decide +kernel
theorem dX3_loaded_55 : decode cX3_loaded 55 = .ok (.iconst 1, 1) := by decide +kernel
theorem dX3_loaded_56 : decode cX3_loaded 56 = .ok (.iload 4, 2) := by decide +kernel
theorem dX3_loaded_58 : decode cX3_loaded 58 = .ok (.ishl, 1) := by decide +kernel
theorem dX3_loaded_59 : decode cX3_loaded 59 = .ok (.iconst 1, 1) := by decide +kernel
theorem dX3_loaded_60 : decode cX3_loaded 60 = .ok (.isub, 1) := by decide +kernel
theorem dX3_loaded_61 : decode cX3_loaded 61 = .ok (.iload 5, 2) := by decide +kernel
theorem dX3_loaded_63 : decode cX3_loaded 63 = .ok (.ishl, 1) := by decide +kernel
theorem dX3_loaded_64 : decode cX3_loaded 64 = .ok (.invokevirtual 106, 3) := by decide +kernel
theorem dX3_loaded_67 : decode cX3_loaded 67 = .ok (.ifCond .ne 5, 3) := by decide +kernel
theorem dX3_loaded_70 : decode cX3_loaded 70 = .ok (.iconst 3, 1) := by decide +kernel
theorem dX3_loaded_71 : decode cX3_loaded 71 = .ok (.ireturn, 1) := by decide +kernel
theorem dX3_loaded_72 : decode cX3_loaded 72 = .ok (.aload_n 0, 1) := by decide +kernel
theorem dX3_loaded_73 : decode cX3_loaded 73 = .ok (.getfield 110, 3) := by decide +kernel
theorem dX3_loaded_76 : decode cX3_loaded 76 = .ok (.bipush 8, 2) := by decide +kernel
theorem dX3_loaded_78 : decode cX3_loaded 78 = .ok (.iload 5, 2) := by decide +kernel
theorem dX3_loaded_80 : decode cX3_loaded 80 = .ok (.imul, 1) := by decide +kernel
theorem dX3_loaded_81 : decode cX3_loaded 81 = .ok (.iushr, 1) := by decide +kernel
theorem dX3_loaded_82 : decode cX3_loaded 82 = .ok (.iload_n 3, 1) := by decide +kernel
theorem dX3_loaded_83 : decode cX3_loaded 83 = .ok (.invokestatic 182, 3) := by decide +kernel
theorem dX3_loaded_86 : decode cX3_loaded 86 = .ok (.istore 6, 2) := by decide +kernel
theorem dX3_loaded_88 : decode cX3_loaded 88 = .ok (.aload_n 0, 1) := by decide +kernel
theorem dX3_loaded_89 : decode cX3_loaded 89 = .ok (.iload_n 1, 1) := by decide +kernel
theorem dX3_loaded_90 : decode cX3_loaded 90 = .ok (.iload_n 1, 1) := by decide +kernel
theorem dX3_loaded_91 : decode cX3_loaded 91 = .ok (.bipush 7, 2) := by decide +kernel
theorem dX3_loaded_93 : decode cX3_loaded 93 = .ok (.iushr, 1) := by decide +kernel
theorem dX3_loaded_94 : decode cX3_loaded 94 = .ok (.bipush 31, 2) := by decide +kernel
theorem dX3_loaded_96 : decode cX3_loaded 96 = .ok (.iand, 1) := by decide +kernel
theorem dX3_loaded_97 : decode cX3_loaded 97 = .ok (.iload 6, 2) := by decide +kernel
theorem dX3_loaded_99 : decode cX3_loaded 99 = .ok (.iload_n 2, 1) := by decide +kernel
theorem dX3_loaded_100 : decode cX3_loaded 100 = .ok (.iload 6, 2) := by decide +kernel
theorem dX3_loaded_102 : decode cX3_loaded 102 = .ok (.iconst 0, 1) := by decide +kernel
theorem dX3_loaded_103 : decode cX3_loaded 103 = .ok (.aload_n 0, 1) := by decide +kernel
theorem dX3_loaded_104 : decode cX3_loaded 104 = .ok (.getfield 57, 3) := by decide +kernel
theorem dX3_loaded_107 : decode cX3_loaded 107 = .ok (.iconst 4, 1) := by decide +kernel
theorem dX3_loaded_108 : decode cX3_loaded 108 = .ok (.iadd, 1) := by decide +kernel
theorem dX3_loaded_109 : decode cX3_loaded 109 = .ok (.invokevirtual 168, 3) := by decide +kernel
theorem dX3_loaded_112 : decode cX3_loaded 112 = .ok (.ireturn, 1) := by decide +kernel
theorem dX3_stored_0 : decode cX3_stored 0 = .ok (.iload_n 1, 1) := by decide +kernel
theorem dX3_stored_1 : decode cX3_stored 1 = .ok (.invokestatic 125, 3) := by decide +kernel
theorem dX3_stored_4 : decode cX3_stored 4 = .ok (.istore 4, 2) := by decide +kernel
theorem dX3_stored_6 : decode cX3_stored 6 = .ok (.iload 4, 2) := by decide +kernel
theorem dX3_stored_8 : decode cX3_stored 8 = .ok (.iconst 2, 1) := by decide +kernel
theorem dX3_stored_9 : decode cX3_stored 9 = .ok (.if_icmp .le 10, 3) := by decide +kernel
theorem dX3_stored_12 : decode cX3_stored 12 = .ok (.aload_n 0, 1) := by decide +kernel
theorem dX3_stored_13 : decode cX3_stored 13 = .ok (.iload_n 1, 1) := by decide +kernel
theorem dX3_stored_14 : decode cX3_stored 14 = .ok (.iconst 2, 1) := by decide +kernel
theorem dX3_stored_15 : decode cX3_stored 15 = .ok (.invokevirtual 128, 3) := by decide +kernel
theorem dX3_stored_18 : decode cX3_stored 18 = .ok (.ireturn, 1) := by decide +kernel
theorem dX3_stored_19 : decode cX3_stored 19 = .ok (.iconst 1, 1) := by decide +kernel
theorem dX3_stored_20 : decode cX3_stored 20 = .ok (.iload 4, 2) := by decide +kernel
theorem dX3_stored_22 : decode cX3_stored 22 = .ok (.ishl, 1) := by decide +kernel
theorem dX3_stored_23 : decode cX3_stored 23 = .ok (.istore 5, 2) := by decide +kernel
theorem dX3_stored_25 : decode cX3_stored 25 = .ok (.iload_n 2, 1) := by decide +kernel
theorem dX3_stored_26 : decode cX3_stored 26 = .ok (.iload 5, 2) := by decide +kernel
theorem dX3_stored_28 : decode cX3_stored 28 = .ok (.iconst 1, 1) := by decide +kernel
theorem dX3_stored_29 : decode cX3_stored 29 = .ok (.isub, 1) := by decide +kernel
theorem dX3_stored_30 : decode cX3_stored 30 = .ok (.iand, 1) := by decide +kernel
theorem dX3_stored_31 : decode cX3_stored 31 = .ok (.ifCond .eq 10, 3) := by decide +kernel
theorem dX3_stored_34 : decode cX3_stored 34 = .ok (.aload_n 0, 1) := by decide +kernel
theorem dX3_stored_35 : decode cX3_stored 35 = .ok (.iload_n 1, 1) := by decide +kernel
theorem dX3_stored_36 : decode cX3_stored 36 = .ok (.iconst 4, 1) := by decide +kernel
theorem dX3_stored_37 : decode cX3_stored 37 = .ok (.invokevirtual 128, 3) := by decide +kernel
theorem dX3_stored_40 : decode cX3_stored 40 = .ok (.ireturn, 1) := by decide +kernel
theorem dX3_stored_41 : decode cX3_stored 41 = .ok (.aload_n 0, 1) := by decide +kernel
theorem dX3_stored_42 : decode cX3_stored 42 = .ok (.getfield 18, 3) := by decide +kernel
theorem dX3_stored_45 : decode cX3_stored 45 = .ok (.invokevirtual 185, 3) := by decide +kernel
theorem dX3_stored_48 : decode cX3_stored 48 = .ok (.ifCond .eq 5, 3) := by decide +kernel
theorem dX3_stored_51 : decode cX3_stored 51 = .ok (.iconst 4, 1) := by decide +kernel
theorem dX3_stored_52 : decode cX3_stored 52 = .ok (.ireturn, 1) := by decide +kernel
theorem dX3_stored_53 : decode cX3_stored 53 = .ok (.iload_n 2, 1) := by decide +kernel
theorem dX3_stored_54 : decode cX3_stored 54 = .ok (.iconst 3, 1) := by decide +kernel
theorem dX3_stored_55 : decode cX3_stored 55 = .ok (.iand, 1) := by decide +kernel
theorem dX3_stored_56 : decode cX3_stored 56 = .ok (.istore 6, 2) := by decide +kernel
theorem dX3_stored_58 : decode cX3_stored 58 = .ok (.iconst 1, 1) := by decide +kernel
theorem dX3_stored_59 : decode cX3_stored 59 = .ok (.iload 5, 2) := by decide +kernel
theorem dX3_stored_61 : decode cX3_stored 61 = .ok (.ishl, 1) := by decide +kernel
theorem dX3_stored_62 : decode cX3_stored 62 = .ok (.iconst 1, 1) := by decide +kernel
theorem dX3_stored_63 : decode cX3_stored 63 = .ok (.isub, 1) := by decide +kernel
theorem dX3_stored_64 : decode cX3_stored 64 = .ok (.istore 7, 2) := by decide +kernel
theorem dX3_stored_66 : decode cX3_stored 66 = .ok (.iload_n 3, 1) := by decide +kernel
theorem dX3_stored_67 : decode cX3_stored 67 = .ok (.getstatic 189, 3) := by decide +kernel
theorem dX3_stored_70 : decode cX3_stored 70 = .ok (.iload 7, 2) := by decide +kernel
theorem dX3_stored_72 : decode cX3_stored 72 = .ok (.iaload, 1) := by decide +kernel
theorem dX3_stored_73 : decode cX3_stored 73 = .ok (.iand, 1) := by decide +kernel
theorem dX3_stored_74 : decode cX3_stored 74 = .ok (.istore 8, 2) := by decide +kernel
theorem dX3_stored_76 : decode cX3_stored 76 = .ok (.aload_n 0, 1) := by decide +kernel
theorem dX3_stored_77 : decode cX3_stored 77 = .ok (.getfield 18, 3) := by decide +kernel
theorem dX3_stored_80 : decode cX3_stored 80 = .ok (.iload_n 2, 1) := by decide +kernel
theorem dX3_stored_81 : decode cX3_stored 81 = .ok (.iload 6, 2) := by decide +kernel
theorem dX3_stored_83 : decode cX3_stored 83 = .ok (.isub, 1) := by decide +kernel
theorem dX3_stored_84 : decode cX3_stored 84 = .ok (.iload 7, 2) := by decide +kernel
theorem dX3_stored_86 : decode cX3_stored 86 = .ok (.iload 6, 2) := by decide +kernel
theorem dX3_stored_88 : decode cX3_stored 88 = .ok (.ishl, 1) := by decide +kernel
theorem dX3_stored_89 : decode cX3_stored 89 = .ok (.iload 8, 2) := by decide +kernel
theorem dX3_stored_91 : decode cX3_stored 91 = .ok (.bipush 8, 2) := by decide +kernel
theorem dX3_stored_93 : decode cX3_stored 93 = .ok (.iload 6, 2) := by decide +kernel
theorem dX3_stored_95 : decode cX3_stored 95 = .ok (.imul, 1) := by decide +kernel
theorem dX3_stored_96 : decode cX3_stored 96 = .ok (.ishl, 1) := by decide +kernel
theorem dX3_stored_97 : decode cX3_stored 97 = .ok (.invokevirtual 192, 3) := by decide +kernel
theorem dX3_stored_100 : decode cX3_stored 100 = .ok (.aload_n 0, 1) := by decide +kernel
theorem dX3_stored_101 : decode cX3_stored 101 = .ok (.iload_n 1, 1) := by decide +kernel
theorem dX3_stored_102 : decode cX3_stored 102 = .ok (.iconst 0, 1) := by decide +kernel
theorem dX3_stored_103 : decode cX3_stored 103 = .ok (.iconst 0, 1) := by decide +kernel
theorem dX3_stored_104 : decode cX3_stored 104 = .ok (.iload_n 2, 1) := by decide +kernel
theorem dX3_stored_105 : decode cX3_stored 105 = .ok (.iconst 0, 1) := by decide +kernel
theorem dX3_stored_106 : decode cX3_stored 106 = .ok (.iload 8, 2) := by decide +kernel
theorem dX3_stored_108 : decode cX3_stored 108 = .ok (.aload_n 0, 1) := by decide +kernel
theorem dX3_stored_109 : decode cX3_stored 109 = .ok (.getfield 57, 3) := by decide +kernel
theorem dX3_stored_112 : decode cX3_stored 112 = .ok (.iconst 4, 1) := by decide +kernel
theorem dX3_stored_113 : decode cX3_stored 113 = .ok (.iadd, 1) := by decide +kernel
theorem dX3_stored_114 : decode cX3_stored 114 = .ok (.invokevirtual 168, 3) := by decide +kernel
theorem dX3_stored_117 : decode cX3_stored 117 = .ok (.ireturn, 1) := by decide +kernel
theorem dX3_swapped_0 : decode cX3_swapped 0 = .ok (.iload_n 2, 1) := by decide +kernel
theorem dX3_swapped_1 : decode cX3_swapped 1 = .ok (.iconst 3, 1) := by decide +kernel
theorem dX3_swapped_2 : decode cX3_swapped 2 = .ok (.iand, 1) := by decide +kernel
theorem dX3_swapped_3 : decode cX3_swapped 3 = .ok (.ifCond .eq 10, 3) := by decide +kernel
theorem dX3_swapped_6 : decode cX3_swapped 6 = .ok (.aload_n 0, 1) := by decide +kernel
theorem dX3_swapped_7 : decode cX3_swapped 7 = .ok (.iload_n 1, 1) := by decide +kernel
theorem dX3_swapped_8 : decode cX3_swapped 8 = .ok (.iconst 4, 1) := by decide +kernel
theorem dX3_swapped_9 : decode cX3_swapped 9 = .ok (.invokevirtual 128, 3) := by decide +kernel
theorem dX3_swapped_12 : decode cX3_swapped 12 = .ok (.ireturn, 1) := by decide +kernel
theorem dX3_swapped_13 : decode cX3_swapped 13 = .ok (.aload_n 0, 1) := by decide +kernel
theorem dX3_swapped_14 : decode cX3_swapped 14 = .ok (.getfield 18, 3) := by decide +kernel
theorem dX3_swapped_17 : decode cX3_swapped 17 = .ok (.getfield 100, 3) := by decide +kernel
theorem dX3_swapped_20 : decode cX3_swapped 20 = .ok (.ifCond .le 5, 3) := by decide +kernel
theorem dX3_swapped_23 : decode cX3_swapped 23 = .ok (.iconst 5, 1) := by decide +kernel
theorem dX3_swapped_24 : decode cX3_swapped 24 = .ok (.ireturn, 1) := by decide +kernel
theorem dX3_swapped_25 : decode cX3_swapped 25 = .ok (.aload_n 0, 1) := by decide +kernel
theorem dX3_swapped_26 : decode cX3_swapped 26 = .ok (.iload_n 2, 1) := by decide +kernel
theorem dX3_swapped_27 : decode cX3_swapped 27 = .ok (.invokevirtual 196, 3) := by decide +kernel
theorem dX3_swapped_30 : decode cX3_swapped 30 = .ok (.istore 4, 2) := by decide +kernel
theorem dX3_swapped_32 : decode cX3_swapped 32 = .ok (.iload 4, 2) := by decide +kernel
theorem dX3_swapped_34 : decode cX3_swapped 34 = .ok (.ifCond .ge 6, 3) := by decide +kernel
theorem dX3_swapped_37 : decode cX3_swapped 37 = .ok (.bipush 6, 2) := by decide +kernel
theorem dX3_swapped_39 : decode cX3_swapped 39 = .ok (.ireturn, 1) := by decide +kernel
theorem dX3_swapped_40 : decode cX3_swapped 40 = .ok (.aload_n 0, 1) := by decide +kernel
theorem dX3_swapped_41 : decode cX3_swapped 41 = .ok (.getfield 25, 3) := by decide +kernel
theorem dX3_swapped_44 : decode cX3_swapped 44 = .ok (.getfield 199, 3) := by decide +kernel
theorem dX3_swapped_47 : decode cX3_swapped 47 = .ok (.iload 4, 2) := by decide +kernel
theorem dX3_swapped_49 : decode cX3_swapped 49 = .ok (.iaload, 1) := by decide +kernel
theorem dX3_swapped_50 : decode cX3_swapped 50 = .ok (.istore 5, 2) := by decide +kernel
theorem dX3_swapped_52 : decode cX3_swapped 52 = .ok (.iload_n 1, 1) := by decide +kernel
theorem dX3_swapped_53 : decode cX3_swapped 53 = .ok (.iload 5, 2) := by decide +kernel
theorem dX3_swapped_55 : decode cX3_swapped 55 = .ok (.iload_n 3, 1) := by decide +kernel
theorem dX3_swapped_56 : decode cX3_swapped 56 = .ok (.invokestatic 202, 3) := by decide +kernel
theorem dX3_swapped_59 : decode cX3_swapped 59 = .ok (.istore 6, 2) := by decide +kernel
theorem dX3_swapped_61 : decode cX3_swapped 61 = .ok (.aload_n 0, 1) := by decide +kernel
theorem dX3_swapped_62 : decode cX3_swapped 62 = .ok (.getfield 25, 3) := by decide +kernel
theorem dX3_swapped_65 : decode cX3_swapped 65 = .ok (.getfield 199, 3) := by decide +kernel
theorem dX3_swapped_68 : decode cX3_swapped 68 = .ok (.iload 4, 2) := by decide +kernel
theorem dX3_swapped_70 : decode cX3_swapped 70 = .ok (.iload 6, 2) := by decide +kernel
theorem dX3_swapped_72 : decode cX3_swapped 72 = .ok (.iastore, 1) := by decide +kernel
theorem dX3_swapped_73 : decode cX3_swapped 73 = .ok (.aload_n 0, 1) := by decide +kernel
theorem dX3_swapped_74 : decode cX3_swapped 74 = .ok (.iload_n 1, 1) := by decide +kernel
theorem dX3_swapped_75 : decode cX3_swapped 75 = .ok (.iload_n 1, 1) := by decide +kernel
theorem dX3_swapped_76 : decode cX3_swapped 76 = .ok (.bipush 7, 2) := by decide +kernel
theorem dX3_swapped_78 : decode cX3_swapped 78 = .ok (.iushr, 1) := by decide +kernel
theorem dX3_swapped_79 : decode cX3_swapped 79 = .ok (.bipush 31, 2) := by decide +kernel
theorem dX3_swapped_81 : decode cX3_swapped 81 = .ok (.iand, 1) := by decide +kernel
theorem dX3_swapped_82 : decode cX3_swapped 82 = .ok (.iload 5, 2) := by decide +kernel
theorem dX3_swapped_84 : decode cX3_swapped 84 = .ok (.iload_n 2, 1) := by decide +kernel
theorem dX3_swapped_85 : decode cX3_swapped 85 = .ok (.iload 5, 2) := by decide +kernel
theorem dX3_swapped_87 : decode cX3_swapped 87 = .ok (.iload 6, 2) := by decide +kernel
theorem dX3_swapped_89 : decode cX3_swapped 89 = .ok (.aload_n 0, 1) := by decide +kernel
theorem dX3_swapped_90 : decode cX3_swapped 90 = .ok (.getfield 57, 3) := by decide +kernel
theorem dX3_swapped_93 : decode cX3_swapped 93 = .ok (.iconst 4, 1) := by decide +kernel
theorem dX3_swapped_94 : decode cX3_swapped 94 = .ok (.iadd, 1) := by decide +kernel
theorem dX3_swapped_95 : decode cX3_swapped 95 = .ok (.invokevirtual 168, 3) := by decide +kernel
theorem dX3_swapped_98 : decode cX3_swapped 98 = .ok (.ireturn, 1) := by decide +kernel
theorem dX3_settle_0 : decode cX3_settle 0 = .ok (.aload_n 0, 1) := by decide +kernel
theorem dX3_settle_1 : decode cX3_settle 1 = .ok (.getfield 18, 3) := by decide +kernel
theorem dX3_settle_4 : decode cX3_settle 4 = .ok (.getfield 100, 3) := by decide +kernel
theorem dX3_settle_7 : decode cX3_settle 7 = .ok (.ifCond .ne 5, 3) := by decide +kernel
theorem dX3_settle_10 : decode cX3_settle 10 = .ok (.iconst 0, 1) := by decide +kernel
theorem dX3_settle_11 : decode cX3_settle 11 = .ok (.ireturn, 1) := by decide +kernel
theorem dX3_settle_12 : decode cX3_settle 12 = .ok (.aload_n 0, 1) := by decide +kernel
theorem dX3_settle_13 : decode cX3_settle 13 = .ok (.aload_n 0, 1) := by decide +kernel
theorem dX3_settle_14 : decode cX3_settle 14 = .ok (.getfield 18, 3) := by decide +kernel
theorem dX3_settle_17 : decode cX3_settle 17 = .ok (.iconst 0, 1) := by decide +kernel
theorem dX3_settle_18 : decode cX3_settle 18 = .ok (.iconst 0, 1) := by decide +kernel
theorem dX3_settle_19 : decode cX3_settle 19 = .ok (.invokevirtual 103, 3) := by decide +kernel
theorem dX3_settle_22 : decode cX3_settle 22 = .ok (.invokevirtual 196, 3) := by decide +kernel
theorem dX3_settle_25 : decode cX3_settle 25 = .ok (.istore_n 1, 1) := by decide +kernel
theorem dX3_settle_26 : decode cX3_settle 26 = .ok (.iload_n 1, 1) := by decide +kernel
theorem dX3_settle_27 : decode cX3_settle 27 = .ok (.ifCond .ge 5, 3) := by decide +kernel
theorem dX3_settle_30 : decode cX3_settle 30 = .ok (.iconst 2, 1) := by decide +kernel
theorem dX3_settle_31 : decode cX3_settle 31 = .ok (.ireturn, 1) := by decide +kernel
theorem dX3_settle_32 : decode cX3_settle 32 = .ok (.getstatic 189, 3) := by decide +kernel
theorem dX3_settle_35 : decode cX3_settle 35 = .ok (.aload_n 0, 1) := by decide +kernel
theorem dX3_settle_36 : decode cX3_settle 36 = .ok (.getfield 18, 3) := by decide +kernel
theorem dX3_settle_39 : decode cX3_settle 39 = .ok (.iconst 0, 1) := by decide +kernel
theorem dX3_settle_40 : decode cX3_settle 40 = .ok (.iconst 1, 1) := by decide +kernel
theorem dX3_settle_41 : decode cX3_settle 41 = .ok (.invokevirtual 103, 3) := by decide +kernel
theorem dX3_settle_44 : decode cX3_settle 44 = .ok (.bipush 15, 2) := by decide +kernel
theorem dX3_settle_46 : decode cX3_settle 46 = .ok (.iand, 1) := by decide +kernel
theorem dX3_settle_47 : decode cX3_settle 47 = .ok (.iaload, 1) := by decide +kernel
theorem dX3_settle_48 : decode cX3_settle 48 = .ok (.istore_n 2, 1) := by decide +kernel
theorem dX3_settle_49 : decode cX3_settle 49 = .ok (.aload_n 0, 1) := by decide +kernel
theorem dX3_settle_50 : decode cX3_settle 50 = .ok (.getfield 25, 3) := by decide +kernel
theorem dX3_settle_53 : decode cX3_settle 53 = .ok (.getfield 199, 3) := by decide +kernel
theorem dX3_settle_56 : decode cX3_settle 56 = .ok (.iload_n 1, 1) := by decide +kernel
theorem dX3_settle_57 : decode cX3_settle 57 = .ok (.aload_n 0, 1) := by decide +kernel
theorem dX3_settle_58 : decode cX3_settle 58 = .ok (.getfield 25, 3) := by decide +kernel
theorem dX3_settle_61 : decode cX3_settle 61 = .ok (.getfield 199, 3) := by decide +kernel
theorem dX3_settle_64 : decode cX3_settle 64 = .ok (.iload_n 1, 1) := by decide +kernel
theorem dX3_settle_65 : decode cX3_settle 65 = .ok (.iaload, 1) := by decide +kernel
theorem dX3_settle_66 : decode cX3_settle 66 = .ok (.iload_n 2, 1) := by decide +kernel
theorem dX3_settle_67 : decode cX3_settle 67 = .ok (.iconst (-1), 1) := by decide +kernel
theorem dX3_settle_68 : decode cX3_settle 68 = .ok (.ixor, 1) := by decide +kernel
theorem dX3_settle_69 : decode cX3_settle 69 = .ok (.iand, 1) := by decide +kernel
theorem dX3_settle_70 : decode cX3_settle 70 = .ok (.aload_n 0, 1) := by decide +kernel
theorem dX3_settle_71 : decode cX3_settle 71 = .ok (.getfield 18, 3) := by decide +kernel
theorem dX3_settle_74 : decode cX3_settle 74 = .ok (.iconst 0, 1) := by decide +kernel
theorem dX3_settle_75 : decode cX3_settle 75 = .ok (.iconst 2, 1) := by decide +kernel
theorem dX3_settle_76 : decode cX3_settle 76 = .ok (.invokevirtual 103, 3) := by decide +kernel
theorem dX3_settle_79 : decode cX3_settle 79 = .ok (.ior, 1) := by decide +kernel
theorem dX3_settle_80 : decode cX3_settle 80 = .ok (.iastore, 1) := by decide +kernel
theorem dX3_settle_81 : decode cX3_settle 81 = .ok (.aload_n 0, 1) := by decide +kernel
theorem dX3_settle_82 : decode cX3_settle 82 = .ok (.getfield 18, 3) := by decide +kernel
theorem dX3_settle_85 : decode cX3_settle 85 = .ok (.invokevirtual 205, 3) := by decide +kernel
theorem dX3_settle_88 : decode cX3_settle 88 = .ok (.iconst 1, 1) := by decide +kernel
theorem dX3_settle_89 : decode cX3_settle 89 = .ok (.ireturn, 1) := by decide +kernel
theorem dX3_reads_0 : decode cX3_reads 0 = .ok (.iconst 0, 1) := by decide +kernel
theorem dX3_reads_1 : decode cX3_reads 1 = .ok (.istore_n 3, 1) := by decide +kernel
theorem dX3_reads_2 : decode cX3_reads 2 = .ok (.iload_n 2, 1) := by decide +kernel
theorem dX3_reads_3 : decode cX3_reads 3 = .ok (.aload_n 0, 1) := by decide +kernel
theorem dX3_reads_4 : decode cX3_reads 4 = .ok (.getfield 18, 3) := by decide +kernel
theorem dX3_reads_7 : decode cX3_reads 7 = .ok (.iload_n 1, 1) := by decide +kernel
theorem dX3_reads_8 : decode cX3_reads 8 = .ok (.invokevirtual 208, 3) := by decide +kernel
theorem dX3_reads_11 : decode cX3_reads 11 = .ok (.iconst (-1), 1) := by decide +kernel
theorem dX3_reads_12 : decode cX3_reads 12 = .ok (.ixor, 1) := by decide +kernel
theorem dX3_reads_13 : decode cX3_reads 13 = .ok (.iand, 1) := by decide +kernel
theorem dX3_reads_14 : decode cX3_reads 14 = .ok (.ifCond .eq 54, 3) := by decide +kernel
theorem dX3_reads_17 : decode cX3_reads 17 = .ok (.aload_n 0, 1) := by decide +kernel
theorem dX3_reads_18 : decode cX3_reads 18 = .ok (.getfield 25, 3) := by decide +kernel
theorem dX3_reads_21 : decode cX3_reads 21 = .ok (.iload_n 1, 1) := by decide +kernel
theorem dX3_reads_22 : decode cX3_reads 22 = .ok (.iconst 4, 1) := by decide +kernel
theorem dX3_reads_23 : decode cX3_reads 23 = .ok (.ishr, 1) := by decide +kernel
theorem dX3_reads_24 : decode cX3_reads 24 = .ok (.invokevirtual 211, 3) := by decide +kernel
theorem dX3_reads_27 : decode cX3_reads 27 = .ok (.istore 4, 2) := by decide +kernel
theorem dX3_reads_29 : decode cX3_reads 29 = .ok (.iload 4, 2) := by decide +kernel
theorem dX3_reads_31 : decode cX3_reads 31 = .ok (.ifCond .ge 13, 3) := by decide +kernel
theorem dX3_reads_34 : decode cX3_reads 34 = .ok (.aload_n 0, 1) := by decide +kernel
theorem dX3_reads_35 : decode cX3_reads 35 = .ok (.iload_n 1, 1) := by decide +kernel
theorem dX3_reads_36 : decode cX3_reads 36 = .ok (.iconst 4, 1) := by decide +kernel
theorem dX3_reads_37 : decode cX3_reads 37 = .ok (.ishr, 1) := by decide +kernel
theorem dX3_reads_38 : decode cX3_reads 38 = .ok (.iconst 0, 1) := by decide +kernel
theorem dX3_reads_39 : decode cX3_reads 39 = .ok (.invokevirtual 214, 3) := by decide +kernel
theorem dX3_reads_42 : decode cX3_reads 42 = .ok (.iconst 0, 1) := by decide +kernel
theorem dX3_reads_43 : decode cX3_reads 43 = .ok (.ireturn, 1) := by decide +kernel
theorem dX3_reads_44 : decode cX3_reads 44 = .ok (.aload_n 0, 1) := by decide +kernel
theorem dX3_reads_45 : decode cX3_reads 45 = .ok (.getfield 25, 3) := by decide +kernel
theorem dX3_reads_48 : decode cX3_reads 48 = .ok (.iload 4, 2) := by decide +kernel
theorem dX3_reads_50 : decode cX3_reads 50 = .ok (.invokevirtual 217, 3) := by decide +kernel
theorem dX3_reads_53 : decode cX3_reads 53 = .ok (.aload_n 0, 1) := by decide +kernel
theorem dX3_reads_54 : decode cX3_reads 54 = .ok (.getfield 25, 3) := by decide +kernel
theorem dX3_reads_57 : decode cX3_reads 57 = .ok (.getfield 199, 3) := by decide +kernel
theorem dX3_reads_60 : decode cX3_reads 60 = .ok (.iload 4, 2) := by decide +kernel
theorem dX3_reads_62 : decode cX3_reads 62 = .ok (.iload_n 1, 1) := by decide +kernel
theorem dX3_reads_63 : decode cX3_reads 63 = .ok (.invokestatic 220, 3) := by decide +kernel
theorem dX3_reads_66 : decode cX3_reads 66 = .ok (.iaload, 1) := by decide +kernel
theorem dX3_reads_67 : decode cX3_reads 67 = .ok (.istore_n 3, 1) := by decide +kernel
theorem dX3_reads_68 : decode cX3_reads 68 = .ok (.aload_n 0, 1) := by decide +kernel
theorem dX3_reads_69 : decode cX3_reads 69 = .ok (.aload_n 0, 1) := by decide +kernel
theorem dX3_reads_70 : decode cX3_reads 70 = .ok (.getfield 18, 3) := by decide +kernel
theorem dX3_reads_73 : decode cX3_reads 73 = .ok (.iload_n 1, 1) := by decide +kernel
theorem dX3_reads_74 : decode cX3_reads 74 = .ok (.iload_n 3, 1) := by decide +kernel
theorem dX3_reads_75 : decode cX3_reads 75 = .ok (.invokevirtual 223, 3) := by decide +kernel
theorem dX3_reads_78 : decode cX3_reads 78 = .ok (.putfield 110, 3) := by decide +kernel
theorem dX3_reads_81 : decode cX3_reads 81 = .ok (.iconst 1, 1) := by decide +kernel
theorem dX3_reads_82 : decode cX3_reads 82 = .ok (.ireturn, 1) := by decide +kernel
theorem dX3_wordToChange_0 : decode cX3_wordToChange 0 = .ok (.aload_n 0, 1) := by decide +kernel
theorem dX3_wordToChange_1 : decode cX3_wordToChange 1 = .ok (.getfield 25, 3) := by decide +kernel
theorem dX3_wordToChange_4 : decode cX3_wordToChange 4 = .ok (.iload_n 1, 1) := by decide +kernel
theorem dX3_wordToChange_5 : decode cX3_wordToChange 5 = .ok (.iconst 4, 1) := by decide +kernel
theorem dX3_wordToChange_6 : decode cX3_wordToChange 6 = .ok (.ishr, 1) := by decide +kernel
theorem dX3_wordToChange_7 : decode cX3_wordToChange 7 = .ok (.invokevirtual 211, 3) := by decide +kernel
theorem dX3_wordToChange_10 : decode cX3_wordToChange 10 = .ok (.istore_n 2, 1) := by decide +kernel
theorem dX3_wordToChange_11 : decode cX3_wordToChange 11 = .ok (.iload_n 2, 1) := by decide +kernel
theorem dX3_wordToChange_12 : decode cX3_wordToChange 12 = .ok (.ifCond .lt 16, 3) := by decide +kernel
theorem dX3_wordToChange_15 : decode cX3_wordToChange 15 = .ok (.aload_n 0, 1) := by decide +kernel
theorem dX3_wordToChange_16 : decode cX3_wordToChange 16 = .ok (.getfield 25, 3) := by decide +kernel
theorem dX3_wordToChange_19 : decode cX3_wordToChange 19 = .ok (.getfield 226, 3) := by decide +kernel
theorem dX3_wordToChange_22 : decode cX3_wordToChange 22 = .ok (.iload_n 2, 1) := by decide +kernel
theorem dX3_wordToChange_23 : decode cX3_wordToChange 23 = .ok (.iaload, 1) := by decide +kernel
theorem dX3_wordToChange_24 : decode cX3_wordToChange 24 = .ok (.iconst 2, 1) := by decide +kernel
theorem dX3_wordToChange_25 : decode cX3_wordToChange 25 = .ok (.if_icmp .ge 13, 3) := by decide +kernel
theorem dX3_wordToChange_28 : decode cX3_wordToChange 28 = .ok (.aload_n 0, 1) := by decide +kernel
theorem dX3_wordToChange_29 : decode cX3_wordToChange 29 = .ok (.iload_n 1, 1) := by decide +kernel
theorem dX3_wordToChange_30 : decode cX3_wordToChange 30 = .ok (.iconst 4, 1) := by decide +kernel
theorem dX3_wordToChange_31 : decode cX3_wordToChange 31 = .ok (.ishr, 1) := by decide +kernel
theorem dX3_wordToChange_32 : decode cX3_wordToChange 32 = .ok (.iconst 1, 1) := by decide +kernel
theorem dX3_wordToChange_33 : decode cX3_wordToChange 33 = .ok (.invokevirtual 214, 3) := by decide +kernel
theorem dX3_wordToChange_36 : decode cX3_wordToChange 36 = .ok (.iconst (-1), 1) := by decide +kernel
theorem dX3_wordToChange_37 : decode cX3_wordToChange 37 = .ok (.ireturn, 1) := by decide +kernel
theorem dX3_wordToChange_38 : decode cX3_wordToChange 38 = .ok (.aload_n 0, 1) := by decide +kernel
theorem dX3_wordToChange_39 : decode cX3_wordToChange 39 = .ok (.getfield 25, 3) := by decide +kernel
theorem dX3_wordToChange_42 : decode cX3_wordToChange 42 = .ok (.iload_n 2, 1) := by decide +kernel
theorem dX3_wordToChange_43 : decode cX3_wordToChange 43 = .ok (.invokevirtual 217, 3) := by decide +kernel
theorem dX3_wordToChange_46 : decode cX3_wordToChange 46 = .ok (.aload_n 0, 1) := by decide +kernel
theorem dX3_wordToChange_47 : decode cX3_wordToChange 47 = .ok (.getfield 25, 3) := by decide +kernel
theorem dX3_wordToChange_50 : decode cX3_wordToChange 50 = .ok (.getfield 226, 3) := by decide +kernel
theorem dX3_wordToChange_53 : decode cX3_wordToChange 53 = .ok (.iload_n 2, 1) := by decide +kernel
theorem dX3_wordToChange_54 : decode cX3_wordToChange 54 = .ok (.iconst 3, 1) := by decide +kernel
theorem dX3_wordToChange_55 : decode cX3_wordToChange 55 = .ok (.iastore, 1) := by decide +kernel
theorem dX3_wordToChange_56 : decode cX3_wordToChange 56 = .ok (.aload_n 0, 1) := by decide +kernel
theorem dX3_wordToChange_57 : decode cX3_wordToChange 57 = .ok (.dup, 1) := by decide +kernel
theorem dX3_wordToChange_58 : decode cX3_wordToChange 58 = .ok (.getfield 91, 3) := by decide +kernel
theorem dX3_wordToChange_61 : decode cX3_wordToChange 61 = .ok (.iconst 1, 1) := by decide +kernel
theorem dX3_wordToChange_62 : decode cX3_wordToChange 62 = .ok (.iadd, 1) := by decide +kernel
theorem dX3_wordToChange_63 : decode cX3_wordToChange 63 = .ok (.putfield 91, 3) := by decide +kernel
theorem dX3_wordToChange_66 : decode cX3_wordToChange 66 = .ok (.iload_n 2, 1) := by decide +kernel
theorem dX3_wordToChange_67 : decode cX3_wordToChange 67 = .ok (.iload_n 1, 1) := by decide +kernel
theorem dX3_wordToChange_68 : decode cX3_wordToChange 68 = .ok (.invokestatic 220, 3) := by decide +kernel
theorem dX3_wordToChange_71 : decode cX3_wordToChange 71 = .ok (.ireturn, 1) := by decide +kernel
theorem dX3_miss_0 : decode cX3_miss 0 = .ok (.aload_n 0, 1) := by decide +kernel
theorem dX3_miss_1 : decode cX3_miss 1 = .ok (.getfield 79, 3) := by decide +kernel
theorem dX3_miss_4 : decode cX3_miss 4 = .ok (.iconst (-1), 1) := by decide +kernel
theorem dX3_miss_5 : decode cX3_miss 5 = .ok (.if_icmp .ne 11, 3) := by decide +kernel
theorem dX3_miss_8 : decode cX3_miss 8 = .ok (.aload_n 0, 1) := by decide +kernel
theorem dX3_miss_9 : decode cX3_miss 9 = .ok (.getfield 72, 3) := by decide +kernel
theorem dX3_miss_12 : decode cX3_miss 12 = .ok (.iload_n 1, 1) := by decide +kernel
theorem dX3_miss_13 : decode cX3_miss 13 = .ok (.if_icmp .ne 4, 3) := by decide +kernel
theorem dX3_miss_16 : decode cX3_miss 16 = .ok (.return_, 1) := by decide +kernel
theorem dX3_miss_17 : decode cX3_miss 17 = .ok (.aload_n 0, 1) := by decide +kernel
theorem dX3_miss_18 : decode cX3_miss 18 = .ok (.getfield 25, 3) := by decide +kernel
theorem dX3_miss_21 : decode cX3_miss 21 = .ok (.iload_n 1, 1) := by decide +kernel
theorem dX3_miss_22 : decode cX3_miss 22 = .ok (.invokevirtual 211, 3) := by decide +kernel
theorem dX3_miss_25 : decode cX3_miss 25 = .ok (.ifCond .ge 12, 3) := by decide +kernel
theorem dX3_miss_28 : decode cX3_miss 28 = .ok (.aload_n 0, 1) := by decide +kernel
theorem dX3_miss_29 : decode cX3_miss 29 = .ok (.iload_n 1, 1) := by decide +kernel
theorem dX3_miss_30 : decode cX3_miss 30 = .ok (.invokevirtual 229, 3) := by decide +kernel
theorem dX3_miss_33 : decode cX3_miss 33 = .ok (.ifCond .ne 4, 3) := by decide +kernel
theorem dX3_miss_36 : decode cX3_miss 36 = .ok (.return_, 1) := by decide +kernel
theorem dX3_miss_37 : decode cX3_miss 37 = .ok (.aload_n 0, 1) := by decide +kernel
theorem dX3_miss_38 : decode cX3_miss 38 = .ok (.iload_n 1, 1) := by decide +kernel
theorem dX3_miss_39 : decode cX3_miss 39 = .ok (.putfield 79, 3) := by decide +kernel
theorem dX3_miss_42 : decode cX3_miss 42 = .ok (.aload_n 0, 1) := by decide +kernel
theorem dX3_miss_43 : decode cX3_miss 43 = .ok (.dup, 1) := by decide +kernel
theorem dX3_miss_44 : decode cX3_miss 44 = .ok (.getfield 82, 3) := by decide +kernel
theorem dX3_miss_47 : decode cX3_miss 47 = .ok (.iconst 1, 1) := by decide +kernel
theorem dX3_miss_48 : decode cX3_miss 48 = .ok (.iadd, 1) := by decide +kernel
theorem dX3_miss_49 : decode cX3_miss 49 = .ok (.putfield 82, 3) := by decide +kernel
theorem dX3_miss_52 : decode cX3_miss 52 = .ok (.aload_n 0, 1) := by decide +kernel
theorem dX3_miss_53 : decode cX3_miss 53 = .ok (.getfield 43, 3) := by decide +kernel
theorem dX3_miss_56 : decode cX3_miss 56 = .ok (.iload_n 2, 1) := by decide +kernel
theorem dX3_miss_57 : decode cX3_miss 57 = .ok (.aload_n 0, 1) := by decide +kernel
theorem dX3_miss_58 : decode cX3_miss 58 = .ok (.getfield 39, 3) := by decide +kernel
theorem dX3_miss_61 : decode cX3_miss 61 = .ok (.bipush 16, 2) := by decide +kernel
theorem dX3_miss_63 : decode cX3_miss 63 = .ok (.iload_n 1, 1) := by decide +kernel
theorem dX3_miss_64 : decode cX3_miss 64 = .ok (.aconst_null, 1) := by decide +kernel
theorem dX3_miss_65 : decode cX3_miss 65 = .ok (.iconst 0, 1) := by decide +kernel
theorem dX3_miss_66 : decode cX3_miss 66 = .ok (.invokevirtual 232, 3) := by decide +kernel
theorem dX3_miss_69 : decode cX3_miss 69 = .ok (.return_, 1) := by decide +kernel
theorem dX3_makeRoom_0 : decode cX3_makeRoom 0 = .ok (.aload_n 0, 1) := by decide +kernel
theorem dX3_makeRoom_1 : decode cX3_makeRoom 1 = .ok (.getfield 25, 3) := by decide +kernel
theorem dX3_makeRoom_4 : decode cX3_makeRoom 4 = .ok (.iload_n 1, 1) := by decide +kernel
theorem dX3_makeRoom_5 : decode cX3_makeRoom 5 = .ok (.invokevirtual 238, 3) := by decide +kernel
theorem dX3_makeRoom_8 : decode cX3_makeRoom 8 = .ok (.istore_n 2, 1) := by decide +kernel
theorem dX3_makeRoom_9 : decode cX3_makeRoom 9 = .ok (.aload_n 0, 1) := by decide +kernel
theorem dX3_makeRoom_10 : decode cX3_makeRoom 10 = .ok (.getfield 25, 3) := by decide +kernel
theorem dX3_makeRoom_13 : decode cX3_makeRoom 13 = .ok (.getfield 226, 3) := by decide +kernel
theorem dX3_makeRoom_16 : decode cX3_makeRoom 16 = .ok (.iload_n 2, 1) := by decide +kernel
theorem dX3_makeRoom_17 : decode cX3_makeRoom 17 = .ok (.iaload, 1) := by decide +kernel
theorem dX3_makeRoom_18 : decode cX3_makeRoom 18 = .ok (.iconst 2, 1) := by decide +kernel
theorem dX3_makeRoom_19 : decode cX3_makeRoom 19 = .ok (.if_icmp .lt 73, 3) := by decide +kernel
theorem dX3_makeRoom_22 : decode cX3_makeRoom 22 = .ok (.aload_n 0, 1) := by decide +kernel
theorem dX3_makeRoom_23 : decode cX3_makeRoom 23 = .ok (.getfield 72, 3) := by decide +kernel
theorem dX3_makeRoom_26 : decode cX3_makeRoom 26 = .ok (.iconst (-1), 1) := by decide +kernel
theorem dX3_makeRoom_27 : decode cX3_makeRoom 27 = .ok (.if_icmp .eq 5, 3) := by decide +kernel
theorem dX3_makeRoom_30 : decode cX3_makeRoom 30 = .ok (.iconst 0, 1) := by decide +kernel
theorem dX3_makeRoom_31 : decode cX3_makeRoom 31 = .ok (.ireturn, 1) := by decide +kernel
theorem dX3_makeRoom_32 : decode cX3_makeRoom 32 = .ok (.aload_n 0, 1) := by decide +kernel
theorem dX3_makeRoom_33 : decode cX3_makeRoom 33 = .ok (.aload_n 0, 1) := by decide +kernel
theorem dX3_makeRoom_34 : decode cX3_makeRoom 34 = .ok (.getfield 25, 3) := by decide +kernel
theorem dX3_makeRoom_37 : decode cX3_makeRoom 37 = .ok (.getfield 241, 3) := by decide +kernel
theorem dX3_makeRoom_40 : decode cX3_makeRoom 40 = .ok (.iload_n 2, 1) := by decide +kernel
theorem dX3_makeRoom_41 : decode cX3_makeRoom 41 = .ok (.iaload, 1) := by decide +kernel
theorem dX3_makeRoom_42 : decode cX3_makeRoom 42 = .ok (.putfield 72, 3) := by decide +kernel
theorem dX3_makeRoom_45 : decode cX3_makeRoom 45 = .ok (.aload_n 0, 1) := by decide +kernel
theorem dX3_makeRoom_46 : decode cX3_makeRoom 46 = .ok (.iconst 0, 1) := by decide +kernel
theorem dX3_makeRoom_47 : decode cX3_makeRoom 47 = .ok (.putfield 75, 3) := by decide +kernel
theorem dX3_makeRoom_50 : decode cX3_makeRoom 50 = .ok (.aload_n 0, 1) := by decide +kernel
theorem dX3_makeRoom_51 : decode cX3_makeRoom 51 = .ok (.getfield 25, 3) := by decide +kernel
theorem dX3_makeRoom_54 : decode cX3_makeRoom 54 = .ok (.getfield 199, 3) := by decide +kernel
theorem dX3_makeRoom_57 : decode cX3_makeRoom 57 = .ok (.iload_n 2, 1) := by decide +kernel
theorem dX3_makeRoom_58 : decode cX3_makeRoom 58 = .ok (.iconst 4, 1) := by decide +kernel
theorem dX3_makeRoom_59 : decode cX3_makeRoom 59 = .ok (.imul, 1) := by decide +kernel
theorem dX3_makeRoom_60 : decode cX3_makeRoom 60 = .ok (.aload_n 0, 1) := by decide +kernel
theorem dX3_makeRoom_61 : decode cX3_makeRoom 61 = .ok (.getfield 36, 3) := by decide +kernel
theorem dX3_makeRoom_64 : decode cX3_makeRoom 64 = .ok (.iconst 0, 1) := by decide +kernel
theorem dX3_makeRoom_65 : decode cX3_makeRoom 65 = .ok (.iconst 4, 1) := by decide +kernel
theorem dX3_makeRoom_66 : decode cX3_makeRoom 66 = .ok (.invokestatic 244, 3) := by decide +kernel
theorem dX3_makeRoom_69 : decode cX3_makeRoom 69 = .ok (.aload_n 0, 1) := by decide +kernel
theorem dX3_makeRoom_70 : decode cX3_makeRoom 70 = .ok (.getfield 43, 3) := by decide +kernel
theorem dX3_makeRoom_73 : decode cX3_makeRoom 73 = .ok (.iconst 2, 1) := by decide +kernel
theorem dX3_makeRoom_74 : decode cX3_makeRoom 74 = .ok (.aload_n 0, 1) := by decide +kernel
theorem dX3_makeRoom_75 : decode cX3_makeRoom 75 = .ok (.getfield 39, 3) := by decide +kernel
theorem dX3_makeRoom_78 : decode cX3_makeRoom 78 = .ok (.bipush 16, 2) := by decide +kernel
theorem dX3_makeRoom_80 : decode cX3_makeRoom 80 = .ok (.aload_n 0, 1) := by decide +kernel
theorem dX3_makeRoom_81 : decode cX3_makeRoom 81 = .ok (.getfield 72, 3) := by decide +kernel
theorem dX3_makeRoom_84 : decode cX3_makeRoom 84 = .ok (.aload_n 0, 1) := by decide +kernel
theorem dX3_makeRoom_85 : decode cX3_makeRoom 85 = .ok (.getfield 36, 3) := by decide +kernel
theorem dX3_makeRoom_88 : decode cX3_makeRoom 88 = .ok (.iconst 0, 1) := by decide +kernel
theorem dX3_makeRoom_89 : decode cX3_makeRoom 89 = .ok (.invokevirtual 232, 3) := by decide +kernel
theorem dX3_makeRoom_92 : decode cX3_makeRoom 92 = .ok (.aload_n 0, 1) := by decide +kernel
theorem dX3_makeRoom_93 : decode cX3_makeRoom 93 = .ok (.getfield 25, 3) := by decide +kernel
theorem dX3_makeRoom_96 : decode cX3_makeRoom 96 = .ok (.getfield 226, 3) := by decide +kernel
theorem dX3_makeRoom_99 : decode cX3_makeRoom 99 = .ok (.iload_n 2, 1) := by decide +kernel
theorem dX3_makeRoom_100 : decode cX3_makeRoom 100 = .ok (.iconst 0, 1) := by decide +kernel
theorem dX3_makeRoom_101 : decode cX3_makeRoom 101 = .ok (.iastore, 1) := by decide +kernel
theorem dX3_makeRoom_102 : decode cX3_makeRoom 102 = .ok (.iconst 1, 1) := by decide +kernel
theorem dX3_makeRoom_103 : decode cX3_makeRoom 103 = .ok (.ireturn, 1) := by decide +kernel
theorem dX3_receive_0 : decode cX3_receive 0 = .ok (.aload_n 1, 1) := by decide +kernel
theorem dX3_receive_1 : decode cX3_receive 1 = .ok (.iconst 3, 1) := by decide +kernel
theorem dX3_receive_2 : decode cX3_receive 2 = .ok (.iaload, 1) := by decide +kernel
theorem dX3_receive_3 : decode cX3_receive 3 = .ok (.istore_n 2, 1) := by decide +kernel
theorem dX3_receive_4 : decode cX3_receive 4 = .ok (.aload_n 1, 1) := by decide +kernel
theorem dX3_receive_5 : decode cX3_receive 5 = .ok (.iconst 0, 1) := by decide +kernel
theorem dX3_receive_6 : decode cX3_receive 6 = .ok (.iaload, 1) := by decide +kernel
theorem dX3_receive_7 : decode cX3_receive 7 = .ok (.lookupswitch 59 #[(3, 33), (4, 42), (9, 51)], 33) := by decide +kernel
theorem dX3_receive_40 : decode cX3_receive 40 = .ok (.aload_n 0, 1) := by decide +kernel
theorem dX3_receive_41 : decode cX3_receive 41 = .ok (.iload_n 2, 1) := by decide +kernel
theorem dX3_receive_42 : decode cX3_receive 42 = .ok (.iconst 0, 1) := by decide +kernel
theorem dX3_receive_43 : decode cX3_receive 43 = .ok (.invokevirtual 250, 3) := by decide +kernel
theorem dX3_receive_46 : decode cX3_receive 46 = .ok (.goto 61, 3) := by decide +kernel
theorem dX3_receive_49 : decode cX3_receive 49 = .ok (.aload_n 0, 1) := by decide +kernel
theorem dX3_receive_50 : decode cX3_receive 50 = .ok (.iload_n 2, 1) := by decide +kernel
theorem dX3_receive_51 : decode cX3_receive 51 = .ok (.iconst 1, 1) := by decide +kernel
theorem dX3_receive_52 : decode cX3_receive 52 = .ok (.invokevirtual 250, 3) := by decide +kernel
theorem dX3_receive_55 : decode cX3_receive 55 = .ok (.goto 52, 3) := by decide +kernel
theorem dX3_receive_58 : decode cX3_receive 58 = .ok (.aload_n 0, 1) := by decide +kernel
theorem dX3_receive_59 : decode cX3_receive 59 = .ok (.iconst (-1), 1) := by decide +kernel
theorem dX3_receive_60 : decode cX3_receive 60 = .ok (.putfield 72, 3) := by decide +kernel
theorem dX3_receive_63 : decode cX3_receive 63 = .ok (.goto 44, 3) := by decide +kernel
theorem dX3_receive_66 : decode cX3_receive 66 = .ok (.aload_n 0, 1) := by decide +kernel
theorem dX3_receive_67 : decode cX3_receive 67 = .ok (.getfield 25, 3) := by decide +kernel
theorem dX3_receive_70 : decode cX3_receive 70 = .ok (.iload_n 2, 1) := by decide +kernel
theorem dX3_receive_71 : decode cX3_receive 71 = .ok (.aload_n 1, 1) := by decide +kernel
theorem dX3_receive_72 : decode cX3_receive 72 = .ok (.iconst 0, 1) := by decide +kernel
theorem dX3_receive_73 : decode cX3_receive 73 = .ok (.iaload, 1) := by decide +kernel
theorem dX3_receive_74 : decode cX3_receive 74 = .ok (.bipush 6, 2) := by decide +kernel
theorem dX3_receive_76 : decode cX3_receive 76 = .ok (.isub, 1) := by decide +kernel
theorem dX3_receive_77 : decode cX3_receive 77 = .ok (.iconst 1, 1) := by decide +kernel
theorem dX3_receive_78 : decode cX3_receive 78 = .ok (.iadd, 1) := by decide +kernel
theorem dX3_receive_79 : decode cX3_receive 79 = .ok (.aload_n 1, 1) := by decide +kernel
theorem dX3_receive_80 : decode cX3_receive 80 = .ok (.iconst 5, 1) := by decide +kernel
theorem dX3_receive_81 : decode cX3_receive 81 = .ok (.invokevirtual 253, 3) := by decide +kernel
theorem dX3_receive_84 : decode cX3_receive 84 = .ok (.aload_n 0, 1) := by decide +kernel
theorem dX3_receive_85 : decode cX3_receive 85 = .ok (.iconst (-1), 1) := by decide +kernel
theorem dX3_receive_86 : decode cX3_receive 86 = .ok (.putfield 79, 3) := by decide +kernel
theorem dX3_receive_89 : decode cX3_receive 89 = .ok (.aload_n 0, 1) := by decide +kernel
theorem dX3_receive_90 : decode cX3_receive 90 = .ok (.getfield 43, 3) := by decide +kernel
theorem dX3_receive_93 : decode cX3_receive 93 = .ok (.bipush 10, 2) := by decide +kernel
theorem dX3_receive_95 : decode cX3_receive 95 = .ok (.aload_n 0, 1) := by decide +kernel
theorem dX3_receive_96 : decode cX3_receive 96 = .ok (.getfield 39, 3) := by decide +kernel
theorem dX3_receive_99 : decode cX3_receive 99 = .ok (.bipush 16, 2) := by decide +kernel
theorem dX3_receive_101 : decode cX3_receive 101 = .ok (.iload_n 2, 1) := by decide +kernel
theorem dX3_receive_102 : decode cX3_receive 102 = .ok (.aconst_null, 1) := by decide +kernel
theorem dX3_receive_103 : decode cX3_receive 103 = .ok (.iconst 0, 1) := by decide +kernel
theorem dX3_receive_104 : decode cX3_receive 104 = .ok (.invokevirtual 232, 3) := by decide +kernel
theorem dX3_receive_107 : decode cX3_receive 107 = .ok (.return_, 1) := by decide +kernel
theorem dX3_answer_0 : decode cX3_answer 0 = .ok (.aload_n 0, 1) := by decide +kernel
theorem dX3_answer_1 : decode cX3_answer 1 = .ok (.getfield 25, 3) := by decide +kernel
theorem dX3_answer_4 : decode cX3_answer 4 = .ok (.iload_n 1, 1) := by decide +kernel
theorem dX3_answer_5 : decode cX3_answer 5 = .ok (.invokevirtual 211, 3) := by decide +kernel
theorem dX3_answer_8 : decode cX3_answer 8 = .ok (.istore_n 3, 1) := by decide +kernel
theorem dX3_answer_9 : decode cX3_answer 9 = .ok (.aload_n 0, 1) := by decide +kernel
theorem dX3_answer_10 : decode cX3_answer 10 = .ok (.getfield 72, 3) := by decide +kernel
theorem dX3_answer_13 : decode cX3_answer 13 = .ok (.iload_n 1, 1) := by decide +kernel
theorem dX3_answer_14 : decode cX3_answer 14 = .ok (.if_icmp .ne 7, 3) := by decide +kernel
theorem dX3_answer_17 : decode cX3_answer 17 = .ok (.iconst 1, 1) := by decide +kernel
theorem dX3_answer_18 : decode cX3_answer 18 = .ok (.goto 4, 3) := by decide +kernel
theorem dX3_answer_21 : decode cX3_answer 21 = .ok (.iconst 0, 1) := by decide +kernel
theorem dX3_answer_22 : decode cX3_answer 22 = .ok (.istore 4, 2) := by decide +kernel
theorem dX3_answer_24 : decode cX3_answer 24 = .ok (.iload_n 3, 1) := by decide +kernel
theorem dX3_answer_25 : decode cX3_answer 25 = .ok (.ifCond .lt 44, 3) := by decide +kernel
theorem dX3_answer_28 : decode cX3_answer 28 = .ok (.aload_n 0, 1) := by decide +kernel
theorem dX3_answer_29 : decode cX3_answer 29 = .ok (.getfield 25, 3) := by decide +kernel
theorem dX3_answer_32 : decode cX3_answer 32 = .ok (.getfield 226, 3) := by decide +kernel
theorem dX3_answer_35 : decode cX3_answer 35 = .ok (.iload_n 3, 1) := by decide +kernel
theorem dX3_answer_36 : decode cX3_answer 36 = .ok (.iaload, 1) := by decide +kernel
theorem dX3_answer_37 : decode cX3_answer 37 = .ok (.iconst 2, 1) := by decide +kernel
theorem dX3_answer_38 : decode cX3_answer 38 = .ok (.if_icmp .lt 31, 3) := by decide +kernel
theorem dX3_answer_41 : decode cX3_answer 41 = .ok (.aload_n 0, 1) := by decide +kernel
theorem dX3_answer_42 : decode cX3_answer 42 = .ok (.getfield 43, 3) := by decide +kernel
theorem dX3_answer_45 : decode cX3_answer 45 = .ok (.iconst 5, 1) := by decide +kernel
theorem dX3_answer_46 : decode cX3_answer 46 = .ok (.aload_n 0, 1) := by decide +kernel
theorem dX3_answer_47 : decode cX3_answer 47 = .ok (.getfield 39, 3) := by decide +kernel
theorem dX3_answer_50 : decode cX3_answer 50 = .ok (.bipush 16, 2) := by decide +kernel
theorem dX3_answer_52 : decode cX3_answer 52 = .ok (.iload_n 1, 1) := by decide +kernel
theorem dX3_answer_53 : decode cX3_answer 53 = .ok (.aload_n 0, 1) := by decide +kernel
theorem dX3_answer_54 : decode cX3_answer 54 = .ok (.getfield 25, 3) := by decide +kernel
theorem dX3_answer_57 : decode cX3_answer 57 = .ok (.getfield 199, 3) := by decide +kernel
theorem dX3_answer_60 : decode cX3_answer 60 = .ok (.iload_n 3, 1) := by decide +kernel
theorem dX3_answer_61 : decode cX3_answer 61 = .ok (.iconst 4, 1) := by decide +kernel
theorem dX3_answer_62 : decode cX3_answer 62 = .ok (.imul, 1) := by decide +kernel
theorem dX3_answer_63 : decode cX3_answer 63 = .ok (.invokevirtual 232, 3) := by decide +kernel
theorem dX3_answer_66 : decode cX3_answer 66 = .ok (.goto 39, 3) := by decide +kernel
theorem dX3_answer_69 : decode cX3_answer 69 = .ok (.aload_n 0, 1) := by decide +kernel
theorem dX3_answer_70 : decode cX3_answer 70 = .ok (.getfield 43, 3) := by decide +kernel
theorem dX3_answer_73 : decode cX3_answer 73 = .ok (.iconst 5, 1) := by decide +kernel
theorem dX3_answer_74 : decode cX3_answer 74 = .ok (.aload_n 0, 1) := by decide +kernel
theorem dX3_answer_75 : decode cX3_answer 75 = .ok (.getfield 39, 3) := by decide +kernel
theorem dX3_answer_78 : decode cX3_answer 78 = .ok (.bipush 16, 2) := by decide +kernel
theorem dX3_answer_80 : decode cX3_answer 80 = .ok (.iload_n 1, 1) := by decide +kernel
theorem dX3_answer_81 : decode cX3_answer 81 = .ok (.iload 4, 2) := by decide +kernel
theorem dX3_answer_83 : decode cX3_answer 83 = .ok (.ifCond .eq 17, 3) := by decide +kernel
theorem dX3_answer_86 : decode cX3_answer 86 = .ok (.aload_n 0, 1) := by decide +kernel
theorem dX3_answer_87 : decode cX3_answer 87 = .ok (.getfield 75, 3) := by decide +kernel
theorem dX3_answer_90 : decode cX3_answer 90 = .ok (.ifCond .ne 10, 3) := by decide +kernel
theorem dX3_answer_93 : decode cX3_answer 93 = .ok (.aload_n 0, 1) := by decide +kernel
theorem dX3_answer_94 : decode cX3_answer 94 = .ok (.getfield 36, 3) := by decide +kernel
theorem dX3_answer_97 : decode cX3_answer 97 = .ok (.goto 4, 3) := by decide +kernel
theorem dX3_answer_100 : decode cX3_answer 100 = .ok (.aconst_null, 1) := by decide +kernel
theorem dX3_answer_101 : decode cX3_answer 101 = .ok (.iconst 0, 1) := by decide +kernel
theorem dX3_answer_102 : decode cX3_answer 102 = .ok (.invokevirtual 232, 3) := by decide +kernel
theorem dX3_answer_105 : decode cX3_answer 105 = .ok (.iload_n 3, 1) := by decide +kernel
theorem dX3_answer_106 : decode cX3_answer 106 = .ok (.ifCond .lt 25, 3) := by decide +kernel
theorem dX3_answer_109 : decode cX3_answer 109 = .ok (.aload_n 0, 1) := by decide +kernel
theorem dX3_answer_110 : decode cX3_answer 110 = .ok (.getfield 25, 3) := by decide +kernel
theorem dX3_answer_113 : decode cX3_answer 113 = .ok (.getfield 226, 3) := by decide +kernel
theorem dX3_answer_116 : decode cX3_answer 116 = .ok (.iload_n 3, 1) := by decide +kernel
theorem dX3_answer_117 : decode cX3_answer 117 = .ok (.aload_n 0, 1) := by decide +kernel
theorem dX3_answer_118 : decode cX3_answer 118 = .ok (.getfield 25, 3) := by decide +kernel
theorem dX3_answer_121 : decode cX3_answer 121 = .ok (.getfield 226, 3) := by decide +kernel
theorem dX3_answer_124 : decode cX3_answer 124 = .ok (.iload_n 3, 1) := by decide +kernel
theorem dX3_answer_125 : decode cX3_answer 125 = .ok (.iaload, 1) := by decide +kernel
theorem dX3_answer_126 : decode cX3_answer 126 = .ok (.iload_n 2, 1) := by decide +kernel
theorem dX3_answer_127 : decode cX3_answer 127 = .ok (.invokestatic 257, 3) := by decide +kernel
theorem dX3_answer_130 : decode cX3_answer 130 = .ok (.iastore, 1) := by decide +kernel
theorem dX3_answer_131 : decode cX3_answer 131 = .ok (.iload 4, 2) := by decide +kernel
theorem dX3_answer_133 : decode cX3_answer 133 = .ok (.ifCond .eq 8, 3) := by decide +kernel
theorem dX3_answer_136 : decode cX3_answer 136 = .ok (.aload_n 0, 1) := by decide +kernel
theorem dX3_answer_137 : decode cX3_answer 137 = .ok (.iconst 1, 1) := by decide +kernel
theorem dX3_answer_138 : decode cX3_answer 138 = .ok (.putfield 75, 3) := by decide +kernel
theorem dX3_answer_141 : decode cX3_answer 141 = .ok (.return_, 1) := by decide +kernel
theorem dX4_init_0 : decode cX4_init 0 = .ok (.aload_n 0, 1) := by decide +kernel
theorem dX4_init_1 : decode cX4_init 1 = .ok (.invokespecial 3, 3) := by decide +kernel
theorem dX4_init_4 : decode cX4_init 4 = .ok (.aload_n 0, 1) := by decide +kernel
theorem dX4_init_5 : decode cX4_init 5 = .ok (.sipush 2048, 3) := by decide +kernel
theorem dX4_init_8 : decode cX4_init 8 = .ok (.newarray .int, 2) := by decide +kernel
theorem dX4_init_10 : decode cX4_init 10 = .ok (.putfield 9, 3) := by decide +kernel
theorem dX4_init_13 : decode cX4_init 13 = .ok (.aload_n 0, 1) := by decide +kernel
theorem dX4_init_14 : decode cX4_init 14 = .ok (.sipush 512, 3) := by decide +kernel
theorem dX4_init_17 : decode cX4_init 17 = .ok (.newarray .int, 2) := by decide +kernel
theorem dX4_init_19 : decode cX4_init 19 = .ok (.putfield 15, 3) := by decide +kernel
theorem dX4_init_22 : decode cX4_init 22 = .ok (.aload_n 0, 1) := by decide +kernel
theorem dX4_init_23 : decode cX4_init 23 = .ok (.sipush 512, 3) := by decide +kernel
theorem dX4_init_26 : decode cX4_init 26 = .ok (.newarray .int, 2) := by decide +kernel
theorem dX4_init_28 : decode cX4_init 28 = .ok (.putfield 18, 3) := by decide +kernel
theorem dX4_init_31 : decode cX4_init 31 = .ok (.aload_n 0, 1) := by decide +kernel
theorem dX4_init_32 : decode cX4_init 32 = .ok (.sipush 512, 3) := by decide +kernel
theorem dX4_init_35 : decode cX4_init 35 = .ok (.newarray .int, 2) := by decide +kernel
theorem dX4_init_37 : decode cX4_init 37 = .ok (.putfield 21, 3) := by decide +kernel
theorem dX4_init_40 : decode cX4_init 40 = .ok (.aload_n 0, 1) := by decide +kernel
theorem dX4_init_41 : decode cX4_init 41 = .ok (.sipush 512, 3) := by decide +kernel
theorem dX4_init_44 : decode cX4_init 44 = .ok (.newarray .int, 2) := by decide +kernel
theorem dX4_init_46 : decode cX4_init 46 = .ok (.putfield 24, 3) := by decide +kernel
theorem dX4_init_49 : decode cX4_init 49 = .ok (.aload_n 0, 1) := by decide +kernel
theorem dX4_init_50 : decode cX4_init 50 = .ok (.sipush 512, 3) := by decide +kernel
theorem dX4_init_53 : decode cX4_init 53 = .ok (.newarray .int, 2) := by decide +kernel
theorem dX4_init_55 : decode cX4_init 55 = .ok (.putfield 27, 3) := by decide +kernel
theorem dX4_init_58 : decode cX4_init 58 = .ok (.aload_n 0, 1) := by decide +kernel
theorem dX4_init_59 : decode cX4_init 59 = .ok (.sipush 512, 3) := by decide +kernel
theorem dX4_init_62 : decode cX4_init 62 = .ok (.newarray .int, 2) := by decide +kernel
theorem dX4_init_64 : decode cX4_init 64 = .ok (.putfield 30, 3) := by decide +kernel
theorem dX4_init_67 : decode cX4_init 67 = .ok (.aload_n 0, 1) := by decide +kernel
theorem dX4_init_68 : decode cX4_init 68 = .ok (.sipush 512, 3) := by decide +kernel
theorem dX4_init_71 : decode cX4_init 71 = .ok (.newarray .boolean, 2) := by decide +kernel
theorem dX4_init_73 : decode cX4_init 73 = .ok (.putfield 33, 3) := by decide +kernel
theorem dX4_init_76 : decode cX4_init 76 = .ok (.aload_n 0, 1) := by decide +kernel
theorem dX4_init_77 : decode cX4_init 77 = .ok (.sipush 512, 3) := by decide +kernel
theorem dX4_init_80 : decode cX4_init 80 = .ok (.newarray .int, 2) := by decide +kernel
theorem dX4_init_82 : decode cX4_init 82 = .ok (.putfield 37, 3) := by decide +kernel
theorem dX4_init_85 : decode cX4_init 85 = .ok (.aload_n 0, 1) := by decide +kernel
theorem dX4_init_86 : decode cX4_init 86 = .ok (.sipush 2048, 3) := by decide +kernel
theorem dX4_init_89 : decode cX4_init 89 = .ok (.newarray .int, 2) := by decide +kernel
theorem dX4_init_91 : decode cX4_init 91 = .ok (.putfield 40, 3) := by decide +kernel
theorem dX4_init_94 : decode cX4_init 94 = .ok (.aload_n 0, 1) := by decide +kernel
theorem dX4_init_95 : decode cX4_init 95 = .ok (.sipush 288, 3) := by decide +kernel
theorem dX4_init_98 : decode cX4_init 98 = .ok (.newarray .int, 2) := by decide +kernel
theorem dX4_init_100 : decode cX4_init 100 = .ok (.putfield 45, 3) := by decide +kernel
theorem dX4_init_103 : decode cX4_init 103 = .ok (.aload_n 0, 1) := by decide +kernel
theorem dX4_init_104 : decode cX4_init 104 = .ok (.aload_n 1, 1) := by decide +kernel
theorem dX4_init_105 : decode cX4_init 105 = .ok (.putfield 48, 3) := by decide +kernel
theorem dX4_init_108 : decode cX4_init 108 = .ok (.aload_n 0, 1) := by decide +kernel
theorem dX4_init_109 : decode cX4_init 109 = .ok (.iconst 1, 1) := by decide +kernel
theorem dX4_init_110 : decode cX4_init 110 = .ok (.iconst 1, 1) := by decide +kernel
theorem dX4_init_111 : decode cX4_init 111 = .ok (.invokevirtual 52, 3) := by decide +kernel
theorem dX4_init_114 : decode cX4_init 114 = .ok (.return_, 1) := by decide +kernel
theorem dX4_begin_0 : decode cX4_begin 0 = .ok (.aload_n 0, 1) := by decide +kernel
theorem dX4_begin_1 : decode cX4_begin 1 = .ok (.iload_n 1, 1) := by decide +kernel
theorem dX4_begin_2 : decode cX4_begin 2 = .ok (.putfield 56, 3) := by decide +kernel
theorem dX4_begin_5 : decode cX4_begin 5 = .ok (.aload_n 0, 1) := by decide +kernel
theorem dX4_begin_6 : decode cX4_begin 6 = .ok (.iload_n 2, 1) := by decide +kernel
theorem dX4_begin_7 : decode cX4_begin 7 = .ok (.putfield 60, 3) := by decide +kernel
theorem dX4_begin_10 : decode cX4_begin 10 = .ok (.aload_n 0, 1) := by decide +kernel
theorem dX4_begin_11 : decode cX4_begin 11 = .ok (.getfield 9, 3) := by decide +kernel
theorem dX4_begin_14 : decode cX4_begin 14 = .ok (.iconst 0, 1) := by decide +kernel
theorem dX4_begin_15 : decode cX4_begin 15 = .ok (.invokestatic 63, 3) := by decide +kernel
theorem dX4_begin_18 : decode cX4_begin 18 = .ok (.aload_n 0, 1) := by decide +kernel
theorem dX4_begin_19 : decode cX4_begin 19 = .ok (.getfield 15, 3) := by decide +kernel
theorem dX4_begin_22 : decode cX4_begin 22 = .ok (.iconst (-1), 1) := by decide +kernel
theorem dX4_begin_23 : decode cX4_begin 23 = .ok (.invokestatic 63, 3) := by decide +kernel
theorem dX4_begin_26 : decode cX4_begin 26 = .ok (.aload_n 0, 1) := by decide +kernel
theorem dX4_begin_27 : decode cX4_begin 27 = .ok (.getfield 24, 3) := by decide +kernel
theorem dX4_begin_30 : decode cX4_begin 30 = .ok (.iconst (-1), 1) := by decide +kernel
theorem dX4_begin_31 : decode cX4_begin 31 = .ok (.invokestatic 63, 3) := by decide +kernel
theorem dX4_begin_34 : decode cX4_begin 34 = .ok (.aload_n 0, 1) := by decide +kernel
theorem dX4_begin_35 : decode cX4_begin 35 = .ok (.iconst 0, 1) := by decide +kernel
theorem dX4_begin_36 : decode cX4_begin 36 = .ok (.putfield 69, 3) := by decide +kernel
theorem dX4_begin_39 : decode cX4_begin 39 = .ok (.aload_n 0, 1) := by decide +kernel
theorem dX4_begin_40 : decode cX4_begin 40 = .ok (.iconst 0, 1) := by decide +kernel
theorem dX4_begin_41 : decode cX4_begin 41 = .ok (.putfield 72, 3) := by decide +kernel
theorem dX4_begin_44 : decode cX4_begin 44 = .ok (.aload_n 0, 1) := by decide +kernel
theorem dX4_begin_45 : decode cX4_begin 45 = .ok (.iconst 0, 1) := by decide +kernel
theorem dX4_begin_46 : decode cX4_begin 46 = .ok (.putfield 75, 3) := by decide +kernel
theorem dX4_begin_49 : decode cX4_begin 49 = .ok (.return_, 1) := by decide +kernel
theorem dX4_find_0 : decode cX4_find 0 = .ok (.iload_n 1, 1) := by decide +kernel
theorem dX4_find_1 : decode cX4_find 1 = .ok (.aload_n 0, 1) := by decide +kernel
theorem dX4_find_2 : decode cX4_find 2 = .ok (.getfield 56, 3) := by decide +kernel
theorem dX4_find_5 : decode cX4_find 5 = .ok (.iconst 1, 1) := by decide +kernel
theorem dX4_find_6 : decode cX4_find 6 = .ok (.isub, 1) := by decide +kernel
theorem dX4_find_7 : decode cX4_find 7 = .ok (.iand, 1) := by decide +kernel
theorem dX4_find_8 : decode cX4_find 8 = .ok (.aload_n 0, 1) := by decide +kernel
theorem dX4_find_9 : decode cX4_find 9 = .ok (.getfield 60, 3) := by decide +kernel
theorem dX4_find_12 : decode cX4_find 12 = .ok (.imul, 1) := by decide +kernel
theorem dX4_find_13 : decode cX4_find 13 = .ok (.istore_n 2, 1) := by decide +kernel
theorem dX4_find_14 : decode cX4_find 14 = .ok (.iload_n 2, 1) := by decide +kernel
theorem dX4_find_15 : decode cX4_find 15 = .ok (.istore_n 3, 1) := by decide +kernel
theorem dX4_find_16 : decode cX4_find 16 = .ok (.iload_n 3, 1) := by decide +kernel
theorem dX4_find_17 : decode cX4_find 17 = .ok (.iload_n 2, 1) := by decide +kernel
theorem dX4_find_18 : decode cX4_find 18 = .ok (.aload_n 0, 1) := by decide +kernel
theorem dX4_find_19 : decode cX4_find 19 = .ok (.getfield 60, 3) := by decide +kernel
theorem dX4_find_22 : decode cX4_find 22 = .ok (.iadd, 1) := by decide +kernel
theorem dX4_find_23 : decode cX4_find 23 = .ok (.if_icmp .ge 21, 3) := by decide +kernel
theorem dX4_find_26 : decode cX4_find 26 = .ok (.aload_n 0, 1) := by decide +kernel
theorem dX4_find_27 : decode cX4_find 27 = .ok (.getfield 15, 3) := by decide +kernel
theorem dX4_find_30 : decode cX4_find 30 = .ok (.iload_n 3, 1) := by decide +kernel
theorem dX4_find_31 : decode cX4_find 31 = .ok (.iaload, 1) := by decide +kernel
theorem dX4_find_32 : decode cX4_find 32 = .ok (.iload_n 1, 1) := by decide +kernel
theorem dX4_find_33 : decode cX4_find 33 = .ok (.if_icmp .ne 5, 3) := by decide +kernel
theorem dX4_find_36 : decode cX4_find 36 = .ok (.iload_n 3, 1) := by decide +kernel
theorem dX4_find_37 : decode cX4_find 37 = .ok (.ireturn, 1) := by decide +kernel
theorem dX4_find_38 : decode cX4_find 38 = .ok (.iinc 3 1, 3) := by decide +kernel
theorem dX4_find_41 : decode cX4_find 41 = .ok (.goto (-25), 3) := by decide +kernel
theorem dX4_find_44 : decode cX4_find 44 = .ok (.iconst (-1), 1) := by decide +kernel
theorem dX4_find_45 : decode cX4_find 45 = .ok (.ireturn, 1) := by decide +kernel
theorem dX4_tell_0 : decode cX4_tell 0 = .ok (.iload_n 2, 1) := by decide +kernel
theorem dX4_tell_1 : decode cX4_tell 1 = .ok (.tableswitch 119 0 9 #[55, 62, 69, 76, 83, 119, 119, 119, 119, 98], 55) := by decide +kernel
theorem dX4_tell_56 : decode cX4_tell 56 = .ok (.aload_n 0, 1) := by decide +kernel
theorem dX4_tell_57 : decode cX4_tell 57 = .ok (.getfield 18, 3) := by decide +kernel
theorem dX4_tell_60 : decode cX4_tell 60 = .ok (.iload_n 1, 1) := by decide +kernel
theorem dX4_tell_61 : decode cX4_tell 61 = .ok (.iaload, 1) := by decide +kernel
theorem dX4_tell_62 : decode cX4_tell 62 = .ok (.ireturn, 1) := by decide +kernel
theorem dX4_tell_63 : decode cX4_tell 63 = .ok (.aload_n 0, 1) := by decide +kernel
theorem dX4_tell_64 : decode cX4_tell 64 = .ok (.getfield 21, 3) := by decide +kernel
theorem dX4_tell_67 : decode cX4_tell 67 = .ok (.iload_n 1, 1) := by decide +kernel
theorem dX4_tell_68 : decode cX4_tell 68 = .ok (.iaload, 1) := by decide +kernel
theorem dX4_tell_69 : decode cX4_tell 69 = .ok (.ireturn, 1) := by decide +kernel
theorem dX4_tell_70 : decode cX4_tell 70 = .ok (.aload_n 0, 1) := by decide +kernel
theorem dX4_tell_71 : decode cX4_tell 71 = .ok (.getfield 24, 3) := by decide +kernel
theorem dX4_tell_74 : decode cX4_tell 74 = .ok (.iload_n 1, 1) := by decide +kernel
theorem dX4_tell_75 : decode cX4_tell 75 = .ok (.iaload, 1) := by decide +kernel
theorem dX4_tell_76 : decode cX4_tell 76 = .ok (.ireturn, 1) := by decide +kernel
theorem dX4_tell_77 : decode cX4_tell 77 = .ok (.aload_n 0, 1) := by decide +kernel
theorem dX4_tell_78 : decode cX4_tell 78 = .ok (.getfield 30, 3) := by decide +kernel
theorem dX4_tell_81 : decode cX4_tell 81 = .ok (.iload_n 1, 1) := by decide +kernel
theorem dX4_tell_82 : decode cX4_tell 82 = .ok (.iaload, 1) := by decide +kernel
theorem dX4_tell_83 : decode cX4_tell 83 = .ok (.ireturn, 1) := by decide +kernel
theorem dX4_tell_84 : decode cX4_tell 84 = .ok (.aload_n 0, 1) := by decide +kernel
theorem dX4_tell_85 : decode cX4_tell 85 = .ok (.getfield 33, 3) := by decide +kernel
theorem dX4_tell_88 : decode cX4_tell 88 = .ok (.iload_n 1, 1) := by decide +kernel
theorem dX4_tell_89 : decode cX4_tell 89 = .ok (.baload, 1) := by decide +kernel
theorem dX4_tell_90 : decode cX4_tell 90 = .ok (.ifCond .eq 7, 3) := by decide +kernel
theorem dX4_tell_93 : decode cX4_tell 93 = .ok (.iconst 1, 1) := by decide +kernel
theorem dX4_tell_94 : decode cX4_tell 94 = .ok (.goto 4, 3) := by decide +kernel
theorem dX4_tell_97 : decode cX4_tell 97 = .ok (.iconst 0, 1) := by decide +kernel
theorem dX4_tell_98 : decode cX4_tell 98 = .ok (.ireturn, 1) := by decide +kernel
theorem dX4_tell_99 : decode cX4_tell 99 = .ok (.iload_n 1, 1) := by decide +kernel
theorem dX4_tell_100 : decode cX4_tell 100 = .ok (.aload_n 0, 1) := by decide +kernel
theorem dX4_tell_101 : decode cX4_tell 101 = .ok (.getfield 15, 3) := by decide +kernel
theorem dX4_tell_104 : decode cX4_tell 104 = .ok (.iload_n 1, 1) := by decide +kernel
theorem dX4_tell_105 : decode cX4_tell 105 = .ok (.iaload, 1) := by decide +kernel
theorem dX4_tell_106 : decode cX4_tell 106 = .ok (.aload_n 0, 1) := by decide +kernel
theorem dX4_tell_107 : decode cX4_tell 107 = .ok (.getfield 56, 3) := by decide +kernel
theorem dX4_tell_110 : decode cX4_tell 110 = .ok (.iconst 1, 1) := by decide +kernel
theorem dX4_tell_111 : decode cX4_tell 111 = .ok (.isub, 1) := by decide +kernel
theorem dX4_tell_112 : decode cX4_tell 112 = .ok (.iand, 1) := by decide +kernel
theorem dX4_tell_113 : decode cX4_tell 113 = .ok (.aload_n 0, 1) := by decide +kernel
theorem dX4_tell_114 : decode cX4_tell 114 = .ok (.getfield 60, 3) := by decide +kernel
theorem dX4_tell_117 : decode cX4_tell 117 = .ok (.imul, 1) := by decide +kernel
theorem dX4_tell_118 : decode cX4_tell 118 = .ok (.isub, 1) := by decide +kernel
theorem dX4_tell_119 : decode cX4_tell 119 = .ok (.ireturn, 1) := by decide +kernel
theorem dX4_tell_120 : decode cX4_tell 120 = .ok (.aload_n 0, 1) := by decide +kernel
theorem dX4_tell_121 : decode cX4_tell 121 = .ok (.getfield 40, 3) := by decide +kernel
theorem dX4_tell_124 : decode cX4_tell 124 = .ok (.iload_n 1, 1) := by decide +kernel
theorem dX4_tell_125 : decode cX4_tell 125 = .ok (.iconst 4, 1) := by decide +kernel
theorem dX4_tell_126 : decode cX4_tell 126 = .ok (.imul, 1) := by decide +kernel
theorem dX4_tell_127 : decode cX4_tell 127 = .ok (.iload_n 2, 1) := by decide +kernel
theorem dX4_tell_128 : decode cX4_tell 128 = .ok (.iconst 5, 1) := by decide +kernel
theorem dX4_tell_129 : decode cX4_tell 129 = .ok (.isub, 1) := by decide +kernel
theorem dX4_tell_130 : decode cX4_tell 130 = .ok (.iconst 3, 1) := by decide +kernel
theorem dX4_tell_131 : decode cX4_tell 131 = .ok (.iand, 1) := by decide +kernel
theorem dX4_tell_132 : decode cX4_tell 132 = .ok (.iadd, 1) := by decide +kernel
theorem dX4_tell_133 : decode cX4_tell 133 = .ok (.iaload, 1) := by decide +kernel
theorem dX4_tell_134 : decode cX4_tell 134 = .ok (.ireturn, 1) := by decide +kernel
theorem dX4_countAt_0 : decode cX4_countAt 0 = .ok (.iconst 0, 1) := by decide +kernel
theorem dX4_countAt_1 : decode cX4_countAt 1 = .ok (.istore_n 2, 1) := by decide +kernel
theorem dX4_countAt_2 : decode cX4_countAt 2 = .ok (.iconst 0, 1) := by decide +kernel
theorem dX4_countAt_3 : decode cX4_countAt 3 = .ok (.istore_n 3, 1) := by decide +kernel
theorem dX4_countAt_4 : decode cX4_countAt 4 = .ok (.iload_n 3, 1) := by decide +kernel
theorem dX4_countAt_5 : decode cX4_countAt 5 = .ok (.aload_n 0, 1) := by decide +kernel
theorem dX4_countAt_6 : decode cX4_countAt 6 = .ok (.getfield 69, 3) := by decide +kernel
theorem dX4_countAt_9 : decode cX4_countAt 9 = .ok (.if_icmp .ge 34, 3) := by decide +kernel
theorem dX4_countAt_12 : decode cX4_countAt 12 = .ok (.aload_n 0, 1) := by decide +kernel
theorem dX4_countAt_13 : decode cX4_countAt 13 = .ok (.getfield 45, 3) := by decide +kernel
theorem dX4_countAt_16 : decode cX4_countAt 16 = .ok (.iload_n 3, 1) := by decide +kernel
theorem dX4_countAt_17 : decode cX4_countAt 17 = .ok (.bipush 9, 2) := by decide +kernel
theorem dX4_countAt_19 : decode cX4_countAt 19 = .ok (.imul, 1) := by decide +kernel
theorem dX4_countAt_20 : decode cX4_countAt 20 = .ok (.iconst 3, 1) := by decide +kernel
theorem dX4_countAt_21 : decode cX4_countAt 21 = .ok (.iadd, 1) := by decide +kernel
theorem dX4_countAt_22 : decode cX4_countAt 22 = .ok (.iaload, 1) := by decide +kernel
theorem dX4_countAt_23 : decode cX4_countAt 23 = .ok (.aload_n 0, 1) := by decide +kernel
theorem dX4_countAt_24 : decode cX4_countAt 24 = .ok (.getfield 56, 3) := by decide +kernel
theorem dX4_countAt_27 : decode cX4_countAt 27 = .ok (.iconst 1, 1) := by decide +kernel
theorem dX4_countAt_28 : decode cX4_countAt 28 = .ok (.isub, 1) := by decide +kernel
theorem dX4_countAt_29 : decode cX4_countAt 29 = .ok (.iand, 1) := by decide +kernel
theorem dX4_countAt_30 : decode cX4_countAt 30 = .ok (.iload_n 1, 1) := by decide +kernel
theorem dX4_countAt_31 : decode cX4_countAt 31 = .ok (.if_icmp .ne 6, 3) := by decide +kernel
theorem dX4_countAt_34 : decode cX4_countAt 34 = .ok (.iinc 2 1, 3) := by decide +kernel
theorem dX4_countAt_37 : decode cX4_countAt 37 = .ok (.iinc 3 1, 3) := by decide +kernel
theorem dX4_countAt_40 : decode cX4_countAt 40 = .ok (.goto (-36), 3) := by decide +kernel
theorem dX4_countAt_43 : decode cX4_countAt 43 = .ok (.iload_n 2, 1) := by decide +kernel
theorem dX4_countAt_44 : decode cX4_countAt 44 = .ok (.ireturn, 1) := by decide +kernel
theorem dX4_countLines_0 : decode cX4_countLines 0 = .ok (.iconst 0, 1) := by decide +kernel
theorem dX4_countLines_1 : decode cX4_countLines 1 = .ok (.istore_n 1, 1) := by decide +kernel
theorem dX4_countLines_2 : decode cX4_countLines 2 = .ok (.iconst 0, 1) := by decide +kernel
theorem dX4_countLines_3 : decode cX4_countLines 3 = .ok (.istore_n 2, 1) := by decide +kernel
theorem dX4_countLines_4 : decode cX4_countLines 4 = .ok (.iload_n 2, 1) := by decide +kernel
theorem dX4_countLines_5 : decode cX4_countLines 5 = .ok (.aload_n 0, 1) := by decide +kernel
theorem dX4_countLines_6 : decode cX4_countLines 6 = .ok (.getfield 56, 3) := by decide +kernel
theorem dX4_countLines_9 : decode cX4_countLines 9 = .ok (.aload_n 0, 1) := by decide +kernel
theorem dX4_countLines_10 : decode cX4_countLines 10 = .ok (.getfield 60, 3) := by decide +kernel
theorem dX4_countLines_13 : decode cX4_countLines 13 = .ok (.imul, 1) := by decide +kernel
theorem dX4_countLines_14 : decode cX4_countLines 14 = .ok (.if_icmp .ge 22, 3) := by decide +kernel
theorem dX4_countLines_17 : decode cX4_countLines 17 = .ok (.aload_n 0, 1) := by decide +kernel
theorem dX4_countLines_18 : decode cX4_countLines 18 = .ok (.getfield 15, 3) := by decide +kernel
theorem dX4_countLines_21 : decode cX4_countLines 21 = .ok (.iload_n 2, 1) := by decide +kernel
theorem dX4_countLines_22 : decode cX4_countLines 22 = .ok (.iaload, 1) := by decide +kernel
theorem dX4_countLines_23 : decode cX4_countLines 23 = .ok (.iconst (-1), 1) := by decide +kernel
theorem dX4_countLines_24 : decode cX4_countLines 24 = .ok (.if_icmp .eq 6, 3) := by decide +kernel
theorem dX4_countLines_27 : decode cX4_countLines 27 = .ok (.iinc 1 1, 3) := by decide +kernel
theorem dX4_countLines_30 : decode cX4_countLines 30 = .ok (.iinc 2 1, 3) := by decide +kernel
theorem dX4_countLines_33 : decode cX4_countLines 33 = .ok (.goto (-29), 3) := by decide +kernel
theorem dX4_countLines_36 : decode cX4_countLines 36 = .ok (.iload_n 1, 1) := by decide +kernel
theorem dX4_countLines_37 : decode cX4_countLines 37 = .ok (.ireturn, 1) := by decide +kernel
theorem dX4_receive_0 : decode cX4_receive 0 = .ok (.aload_n 1, 1) := by decide +kernel
theorem dX4_receive_1 : decode cX4_receive 1 = .ok (.iconst 3, 1) := by decide +kernel
theorem dX4_receive_2 : decode cX4_receive 2 = .ok (.iaload, 1) := by decide +kernel
theorem dX4_receive_3 : decode cX4_receive 3 = .ok (.istore_n 2, 1) := by decide +kernel
theorem dX4_receive_4 : decode cX4_receive 4 = .ok (.aload_n 1, 1) := by decide +kernel
theorem dX4_receive_5 : decode cX4_receive 5 = .ok (.iconst 0, 1) := by decide +kernel
theorem dX4_receive_6 : decode cX4_receive 6 = .ok (.iaload, 1) := by decide +kernel
theorem dX4_receive_7 : decode cX4_receive 7 = .ok (.istore_n 3, 1) := by decide +kernel
theorem dX4_receive_8 : decode cX4_receive 8 = .ok (.iconst 1, 1) := by decide +kernel
theorem dX4_receive_9 : decode cX4_receive 9 = .ok (.istore 4, 2) := by decide +kernel
theorem dX4_receive_11 : decode cX4_receive 11 = .ok (.iload_n 3, 1) := by decide +kernel
theorem dX4_receive_12 : decode cX4_receive 12 = .ok (.iconst 5, 1) := by decide +kernel
theorem dX4_receive_13 : decode cX4_receive 13 = .ok (.if_icmp .ne 13, 3) := by decide +kernel
theorem dX4_receive_16 : decode cX4_receive 16 = .ok (.aload_n 0, 1) := by decide +kernel
theorem dX4_receive_17 : decode cX4_receive 17 = .ok (.aload_n 1, 1) := by decide +kernel
theorem dX4_receive_18 : decode cX4_receive 18 = .ok (.invokevirtual 78, 3) := by decide +kernel
theorem dX4_receive_21 : decode cX4_receive 21 = .ok (.istore 4, 2) := by decide +kernel
theorem dX4_receive_23 : decode cX4_receive 23 = .ok (.goto 54, 3) := by decide +kernel
theorem dX4_receive_26 : decode cX4_receive 26 = .ok (.iload_n 3, 1) := by decide +kernel
theorem dX4_receive_27 : decode cX4_receive 27 = .ok (.bipush 10, 2) := by decide +kernel
theorem dX4_receive_29 : decode cX4_receive 29 = .ok (.if_icmp .ne 11, 3) := by decide +kernel
theorem dX4_receive_32 : decode cX4_receive 32 = .ok (.aload_n 0, 1) := by decide +kernel
theorem dX4_receive_33 : decode cX4_receive 33 = .ok (.iload_n 2, 1) := by decide +kernel
theorem dX4_receive_34 : decode cX4_receive 34 = .ok (.invokevirtual 82, 3) := by decide +kernel
theorem dX4_receive_37 : decode cX4_receive 37 = .ok (.goto 40, 3) := by decide +kernel
theorem dX4_receive_40 : decode cX4_receive 40 = .ok (.aload_n 0, 1) := by decide +kernel
theorem dX4_receive_41 : decode cX4_receive 41 = .ok (.getfield 69, 3) := by decide +kernel
theorem dX4_receive_44 : decode cX4_receive 44 = .ok (.bipush 32, 2) := by decide +kernel
theorem dX4_receive_46 : decode cX4_receive 46 = .ok (.if_icmp .ge 31, 3) := by decide +kernel
theorem dX4_receive_49 : decode cX4_receive 49 = .ok (.aload_n 1, 1) := by decide +kernel
theorem dX4_receive_50 : decode cX4_receive 50 = .ok (.iconst 0, 1) := by decide +kernel
theorem dX4_receive_51 : decode cX4_receive 51 = .ok (.aload_n 0, 1) := by decide +kernel
theorem dX4_receive_52 : decode cX4_receive 52 = .ok (.getfield 45, 3) := by decide +kernel
theorem dX4_receive_55 : decode cX4_receive 55 = .ok (.aload_n 0, 1) := by decide +kernel
theorem dX4_receive_56 : decode cX4_receive 56 = .ok (.getfield 69, 3) := by decide +kernel
theorem dX4_receive_59 : decode cX4_receive 59 = .ok (.bipush 9, 2) := by decide +kernel
theorem dX4_receive_61 : decode cX4_receive 61 = .ok (.imul, 1) := by decide +kernel
theorem dX4_receive_62 : decode cX4_receive 62 = .ok (.bipush 9, 2) := by decide +kernel
theorem dX4_receive_64 : decode cX4_receive 64 = .ok (.invokestatic 86, 3) := by decide +kernel
theorem dX4_receive_67 : decode cX4_receive 67 = .ok (.aload_n 0, 1) := by decide +kernel
theorem dX4_receive_68 : decode cX4_receive 68 = .ok (.dup, 1) := by decide +kernel
theorem dX4_receive_69 : decode cX4_receive 69 = .ok (.getfield 69, 3) := by decide +kernel
theorem dX4_receive_72 : decode cX4_receive 72 = .ok (.iconst 1, 1) := by decide +kernel
theorem dX4_receive_73 : decode cX4_receive 73 = .ok (.iadd, 1) := by decide +kernel
theorem dX4_receive_74 : decode cX4_receive 74 = .ok (.putfield 69, 3) := by decide +kernel
theorem dX4_receive_77 : decode cX4_receive 77 = .ok (.bipush 32, 2) := by decide +kernel
theorem dX4_receive_79 : decode cX4_receive 79 = .ok (.istore 5, 2) := by decide +kernel
theorem dX4_receive_81 : decode cX4_receive 81 = .ok (.iload 4, 2) := by decide +kernel
theorem dX4_receive_83 : decode cX4_receive 83 = .ok (.ifCond .eq 63, 3) := by decide +kernel
theorem dX4_receive_86 : decode cX4_receive 86 = .ok (.iload 5, 2) := by decide +kernel
theorem dX4_receive_88 : decode cX4_receive 88 = .ok (.ifCond .le 58, 3) := by decide +kernel
theorem dX4_receive_91 : decode cX4_receive 91 = .ok (.aload_n 0, 1) := by decide +kernel
theorem dX4_receive_92 : decode cX4_receive 92 = .ok (.iload_n 2, 1) := by decide +kernel
theorem dX4_receive_93 : decode cX4_receive 93 = .ok (.aload_n 0, 1) := by decide +kernel
theorem dX4_receive_94 : decode cX4_receive 94 = .ok (.getfield 56, 3) := by decide +kernel
theorem dX4_receive_97 : decode cX4_receive 97 = .ok (.iconst 1, 1) := by decide +kernel
theorem dX4_receive_98 : decode cX4_receive 98 = .ok (.isub, 1) := by decide +kernel
theorem dX4_receive_99 : decode cX4_receive 99 = .ok (.iand, 1) := by decide +kernel
theorem dX4_receive_100 : decode cX4_receive 100 = .ok (.invokevirtual 92, 3) := by decide +kernel
theorem dX4_receive_103 : decode cX4_receive 103 = .ok (.istore 6, 2) := by decide +kernel
theorem dX4_receive_105 : decode cX4_receive 105 = .ok (.iload 6, 2) := by decide +kernel
theorem dX4_receive_107 : decode cX4_receive 107 = .ok (.ifCond .lt 19, 3) := by decide +kernel
theorem dX4_receive_110 : decode cX4_receive 110 = .ok (.aload_n 0, 1) := by decide +kernel
theorem dX4_receive_111 : decode cX4_receive 111 = .ok (.iload 6, 2) := by decide +kernel
theorem dX4_receive_113 : decode cX4_receive 113 = .ok (.bipush 9, 2) := by decide +kernel
theorem dX4_receive_115 : decode cX4_receive 115 = .ok (.imul, 1) := by decide +kernel
theorem dX4_receive_116 : decode cX4_receive 116 = .ok (.invokevirtual 96, 3) := by decide +kernel
theorem dX4_receive_119 : decode cX4_receive 119 = .ok (.ifCond .eq 7, 3) := by decide +kernel
theorem dX4_receive_122 : decode cX4_receive 122 = .ok (.iconst 1, 1) := by decide +kernel
theorem dX4_receive_123 : decode cX4_receive 123 = .ok (.goto 4, 3) := by decide +kernel
theorem dX4_receive_126 : decode cX4_receive 126 = .ok (.iconst 0, 1) := by decide +kernel
theorem dX4_receive_127 : decode cX4_receive 127 = .ok (.istore 4, 2) := by decide +kernel
theorem dX4_receive_129 : decode cX4_receive 129 = .ok (.iload 4, 2) := by decide +kernel
theorem dX4_receive_131 : decode cX4_receive 131 = .ok (.ifCond .eq 9, 3) := by decide +kernel
theorem dX4_receive_134 : decode cX4_receive 134 = .ok (.aload_n 0, 1) := by decide +kernel
theorem dX4_receive_135 : decode cX4_receive 135 = .ok (.iload 6, 2) := by decide +kernel
theorem dX4_receive_137 : decode cX4_receive 137 = .ok (.invokevirtual 100, 3) := by decide +kernel
theorem dX4_receive_140 : decode cX4_receive 140 = .ok (.iinc 5 (-1), 3) := by decide +kernel
theorem dX4_receive_143 : decode cX4_receive 143 = .ok (.goto (-62), 3) := by decide +kernel
theorem dX4_receive_146 : decode cX4_receive 146 = .ok (.return_, 1) := by decide +kernel
theorem dX4_firstAt_0 : decode cX4_firstAt 0 = .ok (.iconst 0, 1) := by decide +kernel
theorem dX4_firstAt_1 : decode cX4_firstAt 1 = .ok (.istore_n 2, 1) := by decide +kernel
theorem dX4_firstAt_2 : decode cX4_firstAt 2 = .ok (.iload_n 2, 1) := by decide +kernel
theorem dX4_firstAt_3 : decode cX4_firstAt 3 = .ok (.aload_n 0, 1) := by decide +kernel
theorem dX4_firstAt_4 : decode cX4_firstAt 4 = .ok (.getfield 69, 3) := by decide +kernel
theorem dX4_firstAt_7 : decode cX4_firstAt 7 = .ok (.if_icmp .ge 33, 3) := by decide +kernel
theorem dX4_firstAt_10 : decode cX4_firstAt 10 = .ok (.aload_n 0, 1) := by decide +kernel
theorem dX4_firstAt_11 : decode cX4_firstAt 11 = .ok (.getfield 45, 3) := by decide +kernel
theorem dX4_firstAt_14 : decode cX4_firstAt 14 = .ok (.iload_n 2, 1) := by decide +kernel
theorem dX4_firstAt_15 : decode cX4_firstAt 15 = .ok (.bipush 9, 2) := by decide +kernel
theorem dX4_firstAt_17 : decode cX4_firstAt 17 = .ok (.imul, 1) := by decide +kernel
theorem dX4_firstAt_18 : decode cX4_firstAt 18 = .ok (.iconst 3, 1) := by decide +kernel
theorem dX4_firstAt_19 : decode cX4_firstAt 19 = .ok (.iadd, 1) := by decide +kernel
theorem dX4_firstAt_20 : decode cX4_firstAt 20 = .ok (.iaload, 1) := by decide +kernel
theorem dX4_firstAt_21 : decode cX4_firstAt 21 = .ok (.aload_n 0, 1) := by decide +kernel
theorem dX4_firstAt_22 : decode cX4_firstAt 22 = .ok (.getfield 56, 3) := by decide +kernel
theorem dX4_firstAt_25 : decode cX4_firstAt 25 = .ok (.iconst 1, 1) := by decide +kernel
theorem dX4_firstAt_26 : decode cX4_firstAt 26 = .ok (.isub, 1) := by decide +kernel
theorem dX4_firstAt_27 : decode cX4_firstAt 27 = .ok (.iand, 1) := by decide +kernel
theorem dX4_firstAt_28 : decode cX4_firstAt 28 = .ok (.iload_n 1, 1) := by decide +kernel
theorem dX4_firstAt_29 : decode cX4_firstAt 29 = .ok (.if_icmp .ne 5, 3) := by decide +kernel
theorem dX4_firstAt_32 : decode cX4_firstAt 32 = .ok (.iload_n 2, 1) := by decide +kernel
theorem dX4_firstAt_33 : decode cX4_firstAt 33 = .ok (.ireturn, 1) := by decide +kernel
theorem dX4_firstAt_34 : decode cX4_firstAt 34 = .ok (.iinc 2 1, 3) := by decide +kernel
theorem dX4_firstAt_37 : decode cX4_firstAt 37 = .ok (.goto (-35), 3) := by decide +kernel
theorem dX4_firstAt_40 : decode cX4_firstAt 40 = .ok (.iconst (-1), 1) := by decide +kernel
theorem dX4_firstAt_41 : decode cX4_firstAt 41 = .ok (.ireturn, 1) := by decide +kernel
theorem dX4_leaveQueue_0 : decode cX4_leaveQueue 0 = .ok (.bipush 9, 2) := by decide +kernel
theorem dX4_leaveQueue_2 : decode cX4_leaveQueue 2 = .ok (.istore_n 2, 1) := by decide +kernel
theorem dX4_leaveQueue_3 : decode cX4_leaveQueue 3 = .ok (.aload_n 0, 1) := by decide +kernel
theorem dX4_leaveQueue_4 : decode cX4_leaveQueue 4 = .ok (.getfield 45, 3) := by decide +kernel
theorem dX4_leaveQueue_7 : decode cX4_leaveQueue 7 = .ok (.iload_n 1, 1) := by decide +kernel
theorem dX4_leaveQueue_8 : decode cX4_leaveQueue 8 = .ok (.iconst 1, 1) := by decide +kernel
theorem dX4_leaveQueue_9 : decode cX4_leaveQueue 9 = .ok (.iadd, 1) := by decide +kernel
theorem dX4_leaveQueue_10 : decode cX4_leaveQueue 10 = .ok (.iload_n 2, 1) := by decide +kernel
theorem dX4_leaveQueue_11 : decode cX4_leaveQueue 11 = .ok (.imul, 1) := by decide +kernel
theorem dX4_leaveQueue_12 : decode cX4_leaveQueue 12 = .ok (.aload_n 0, 1) := by decide +kernel
theorem dX4_leaveQueue_13 : decode cX4_leaveQueue 13 = .ok (.getfield 45, 3) := by decide +kernel
theorem dX4_leaveQueue_16 : decode cX4_leaveQueue 16 = .ok (.iload_n 1, 1) := by decide +kernel
theorem dX4_leaveQueue_17 : decode cX4_leaveQueue 17 = .ok (.iload_n 2, 1) := by decide +kernel
theorem dX4_leaveQueue_18 : decode cX4_leaveQueue 18 = .ok (.imul, 1) := by decide +kernel
theorem dX4_leaveQueue_19 : decode cX4_leaveQueue 19 = .ok (.aload_n 0, 1) := by decide +kernel
theorem dX4_leaveQueue_20 : decode cX4_leaveQueue 20 = .ok (.getfield 69, 3) := by decide +kernel
theorem dX4_leaveQueue_23 : decode cX4_leaveQueue 23 = .ok (.iload_n 1, 1) := by decide +kernel
theorem dX4_leaveQueue_24 : decode cX4_leaveQueue 24 = .ok (.isub, 1) := by decide +kernel
theorem dX4_leaveQueue_25 : decode cX4_leaveQueue 25 = .ok (.iconst 1, 1) := by decide +kernel
theorem dX4_leaveQueue_26 : decode cX4_leaveQueue 26 = .ok (.isub, 1) := by decide +kernel
theorem dX4_leaveQueue_27 : decode cX4_leaveQueue 27 = .ok (.iload_n 2, 1) := by decide +kernel
theorem dX4_leaveQueue_28 : decode cX4_leaveQueue 28 = .ok (.imul, 1) := by decide +kernel
theorem dX4_leaveQueue_29 : decode cX4_leaveQueue 29 = .ok (.invokestatic 86, 3) := by decide +kernel
theorem dX4_leaveQueue_32 : decode cX4_leaveQueue 32 = .ok (.aload_n 0, 1) := by decide +kernel
theorem dX4_leaveQueue_33 : decode cX4_leaveQueue 33 = .ok (.dup, 1) := by decide +kernel
theorem dX4_leaveQueue_34 : decode cX4_leaveQueue 34 = .ok (.getfield 69, 3) := by decide +kernel
theorem dX4_leaveQueue_37 : decode cX4_leaveQueue 37 = .ok (.iconst 1, 1) := by decide +kernel
theorem dX4_leaveQueue_38 : decode cX4_leaveQueue 38 = .ok (.isub, 1) := by decide +kernel
theorem dX4_leaveQueue_39 : decode cX4_leaveQueue 39 = .ok (.putfield 69, 3) := by decide +kernel
theorem dX4_leaveQueue_42 : decode cX4_leaveQueue 42 = .ok (.return_, 1) := by decide +kernel
theorem dX4_endRequest_0 : decode cX4_endRequest 0 = .ok (.aload_n 0, 1) := by decide +kernel
theorem dX4_endRequest_1 : decode cX4_endRequest 1 = .ok (.iload_n 1, 1) := by decide +kernel
theorem dX4_endRequest_2 : decode cX4_endRequest 2 = .ok (.invokevirtual 103, 3) := by decide +kernel
theorem dX4_endRequest_5 : decode cX4_endRequest 5 = .ok (.istore_n 2, 1) := by decide +kernel
theorem dX4_endRequest_6 : decode cX4_endRequest 6 = .ok (.iload_n 2, 1) := by decide +kernel
theorem dX4_endRequest_7 : decode cX4_endRequest 7 = .ok (.ifCond .lt 10, 3) := by decide +kernel
theorem dX4_endRequest_10 : decode cX4_endRequest 10 = .ok (.aload_n 0, 1) := by decide +kernel
theorem dX4_endRequest_11 : decode cX4_endRequest 11 = .ok (.getfield 24, 3) := by decide +kernel
theorem dX4_endRequest_14 : decode cX4_endRequest 14 = .ok (.iload_n 2, 1) := by decide +kernel
theorem dX4_endRequest_15 : decode cX4_endRequest 15 = .ok (.iconst (-1), 1) := by decide +kernel
theorem dX4_endRequest_16 : decode cX4_endRequest 16 = .ok (.iastore, 1) := by decide +kernel
theorem dX4_endRequest_17 : decode cX4_endRequest 17 = .ok (.return_, 1) := by decide +kernel
theorem dX4_take_0 : decode cX4_take 0 = .ok (.aload_n 0, 1) := by decide +kernel
theorem dX4_take_1 : decode cX4_take 1 = .ok (.getfield 45, 3) := by decide +kernel
theorem dX4_take_4 : decode cX4_take 4 = .ok (.iload_n 1, 1) := by decide +kernel
theorem dX4_take_5 : decode cX4_take 5 = .ok (.iconst 3, 1) := by decide +kernel
theorem dX4_take_6 : decode cX4_take 6 = .ok (.iadd, 1) := by decide +kernel
theorem dX4_take_7 : decode cX4_take 7 = .ok (.iaload, 1) := by decide +kernel
theorem dX4_take_8 : decode cX4_take 8 = .ok (.istore_n 2, 1) := by decide +kernel
theorem dX4_take_9 : decode cX4_take 9 = .ok (.aload_n 0, 1) := by decide +kernel
theorem dX4_take_10 : decode cX4_take 10 = .ok (.getfield 45, 3) := by decide +kernel
theorem dX4_take_13 : decode cX4_take 13 = .ok (.iload_n 1, 1) := by decide +kernel
theorem dX4_take_14 : decode cX4_take 14 = .ok (.iconst 1, 1) := by decide +kernel
theorem dX4_take_15 : decode cX4_take 15 = .ok (.iadd, 1) := by decide +kernel
theorem dX4_take_16 : decode cX4_take 16 = .ok (.iaload, 1) := by decide +kernel
theorem dX4_take_17 : decode cX4_take 17 = .ok (.istore_n 3, 1) := by decide +kernel
theorem dX4_take_18 : decode cX4_take 18 = .ok (.aload_n 0, 1) := by decide +kernel
theorem dX4_take_19 : decode cX4_take 19 = .ok (.iload_n 2, 1) := by decide +kernel
theorem dX4_take_20 : decode cX4_take 20 = .ok (.invokevirtual 103, 3) := by decide +kernel
theorem dX4_take_23 : decode cX4_take 23 = .ok (.istore 4, 2) := by decide +kernel
theorem dX4_take_25 : decode cX4_take 25 = .ok (.iload 4, 2) := by decide +kernel
theorem dX4_take_27 : decode cX4_take 27 = .ok (.ifCond .lt 16, 3) := by decide +kernel
theorem dX4_take_30 : decode cX4_take 30 = .ok (.aload_n 0, 1) := by decide +kernel
theorem dX4_take_31 : decode cX4_take 31 = .ok (.getfield 24, 3) := by decide +kernel
theorem dX4_take_34 : decode cX4_take 34 = .ok (.iload 4, 2) := by decide +kernel
theorem dX4_take_36 : decode cX4_take 36 = .ok (.iaload, 1) := by decide +kernel
theorem dX4_take_37 : decode cX4_take 37 = .ok (.iconst (-1), 1) := by decide +kernel
theorem dX4_take_38 : decode cX4_take 38 = .ok (.if_icmp .eq 5, 3) := by decide +kernel
theorem dX4_take_41 : decode cX4_take 41 = .ok (.iconst 0, 1) := by decide +kernel
theorem dX4_take_42 : decode cX4_take 42 = .ok (.ireturn, 1) := by decide +kernel
theorem dX4_take_43 : decode cX4_take 43 = .ok (.aload_n 0, 1) := by decide +kernel
theorem dX4_take_44 : decode cX4_take 44 = .ok (.getfield 45, 3) := by decide +kernel
theorem dX4_take_47 : decode cX4_take 47 = .ok (.iload_n 1, 1) := by decide +kernel
theorem dX4_take_48 : decode cX4_take 48 = .ok (.iconst 0, 1) := by decide +kernel
theorem dX4_take_49 : decode cX4_take 49 = .ok (.iadd, 1) := by decide +kernel
theorem dX4_take_50 : decode cX4_take 50 = .ok (.iaload, 1) := by decide +kernel
theorem dX4_take_51 : decode cX4_take 51 = .ok (.iconst 2, 1) := by decide +kernel
theorem dX4_take_52 : decode cX4_take 52 = .ok (.if_icmp .ne 12, 3) := by decide +kernel
theorem dX4_take_55 : decode cX4_take 55 = .ok (.aload_n 0, 1) := by decide +kernel
theorem dX4_take_56 : decode cX4_take 56 = .ok (.iload 4, 2) := by decide +kernel
theorem dX4_take_58 : decode cX4_take 58 = .ok (.iload_n 1, 1) := by decide +kernel
theorem dX4_take_59 : decode cX4_take 59 = .ok (.invokevirtual 106, 3) := by decide +kernel
theorem dX4_take_62 : decode cX4_take 62 = .ok (.iconst 1, 1) := by decide +kernel
theorem dX4_take_63 : decode cX4_take 63 = .ok (.ireturn, 1) := by decide +kernel
theorem dX4_take_64 : decode cX4_take 64 = .ok (.iload 4, 2) := by decide +kernel
theorem dX4_take_66 : decode cX4_take 66 = .ok (.ifCond .ge 10, 3) := by decide +kernel
theorem dX4_take_69 : decode cX4_take 69 = .ok (.aload_n 0, 1) := by decide +kernel
theorem dX4_take_70 : decode cX4_take 70 = .ok (.iload_n 2, 1) := by decide +kernel
theorem dX4_take_71 : decode cX4_take 71 = .ok (.invokevirtual 109, 3) := by decide +kernel
theorem dX4_take_74 : decode cX4_take 74 = .ok (.istore 4, 2) := by decide +kernel
theorem dX4_take_76 : decode cX4_take 76 = .ok (.iload 4, 2) := by decide +kernel
theorem dX4_take_78 : decode cX4_take 78 = .ok (.ifCond .ge 5, 3) := by decide +kernel
theorem dX4_take_81 : decode cX4_take 81 = .ok (.iconst 0, 1) := by decide +kernel
theorem dX4_take_82 : decode cX4_take 82 = .ok (.ireturn, 1) := by decide +kernel
theorem dX4_take_83 : decode cX4_take 83 = .ok (.aload_n 0, 1) := by decide +kernel
theorem dX4_take_84 : decode cX4_take 84 = .ok (.dup, 1) := by decide +kernel
theorem dX4_take_85 : decode cX4_take 85 = .ok (.getfield 72, 3) := by decide +kernel
theorem dX4_take_88 : decode cX4_take 88 = .ok (.iconst 1, 1) := by decide +kernel
theorem dX4_take_89 : decode cX4_take 89 = .ok (.iadd, 1) := by decide +kernel
theorem dX4_take_90 : decode cX4_take 90 = .ok (.putfield 72, 3) := by decide +kernel
theorem dX4_take_93 : decode cX4_take 93 = .ok (.aload_n 0, 1) := by decide +kernel
theorem dX4_take_94 : decode cX4_take 94 = .ok (.getfield 37, 3) := by decide +kernel
theorem dX4_take_97 : decode cX4_take 97 = .ok (.iload 4, 2) := by decide +kernel
theorem dX4_take_99 : decode cX4_take 99 = .ok (.aload_n 0, 1) := by decide +kernel
theorem dX4_take_100 : decode cX4_take 100 = .ok (.getfield 72, 3) := by decide +kernel
theorem dX4_take_103 : decode cX4_take 103 = .ok (.iastore, 1) := by decide +kernel
theorem dX4_take_104 : decode cX4_take 104 = .ok (.aload_n 0, 1) := by decide +kernel
theorem dX4_take_105 : decode cX4_take 105 = .ok (.getfield 24, 3) := by decide +kernel
theorem dX4_take_108 : decode cX4_take 108 = .ok (.iload 4, 2) := by decide +kernel
theorem dX4_take_110 : decode cX4_take 110 = .ok (.iload_n 3, 1) := by decide +kernel
theorem dX4_take_111 : decode cX4_take 111 = .ok (.iastore, 1) := by decide +kernel
theorem dX4_take_112 : decode cX4_take 112 = .ok (.aload_n 0, 1) := by decide +kernel
theorem dX4_take_113 : decode cX4_take 113 = .ok (.getfield 27, 3) := by decide +kernel
theorem dX4_take_116 : decode cX4_take 116 = .ok (.iload 4, 2) := by decide +kernel
theorem dX4_take_118 : decode cX4_take 118 = .ok (.aload_n 0, 1) := by decide +kernel
theorem dX4_take_119 : decode cX4_take 119 = .ok (.getfield 45, 3) := by decide +kernel
theorem dX4_take_122 : decode cX4_take 122 = .ok (.iload_n 1, 1) := by decide +kernel
theorem dX4_take_123 : decode cX4_take 123 = .ok (.iconst 0, 1) := by decide +kernel
theorem dX4_take_124 : decode cX4_take 124 = .ok (.iadd, 1) := by decide +kernel
theorem dX4_take_125 : decode cX4_take 125 = .ok (.iaload, 1) := by decide +kernel
theorem dX4_take_126 : decode cX4_take 126 = .ok (.iastore, 1) := by decide +kernel
theorem dX4_take_127 : decode cX4_take 127 = .ok (.aload_n 0, 1) := by decide +kernel
theorem dX4_take_128 : decode cX4_take 128 = .ok (.getfield 30, 3) := by decide +kernel
theorem dX4_take_131 : decode cX4_take 131 = .ok (.iload 4, 2) := by decide +kernel
theorem dX4_take_133 : decode cX4_take 133 = .ok (.iconst 0, 1) := by decide +kernel
theorem dX4_take_134 : decode cX4_take 134 = .ok (.iastore, 1) := by decide +kernel
theorem dX4_take_135 : decode cX4_take 135 = .ok (.aload_n 0, 1) := by decide +kernel
theorem dX4_take_136 : decode cX4_take 136 = .ok (.getfield 27, 3) := by decide +kernel
theorem dX4_take_139 : decode cX4_take 139 = .ok (.iload 4, 2) := by decide +kernel
theorem dX4_take_141 : decode cX4_take 141 = .ok (.iaload, 1) := by decide +kernel
theorem dX4_take_142 : decode cX4_take 142 = .ok (.ifCond .ne 13, 3) := by decide +kernel
theorem dX4_take_145 : decode cX4_take 145 = .ok (.aload_n 0, 1) := by decide +kernel
theorem dX4_take_146 : decode cX4_take 146 = .ok (.iload 4, 2) := by decide +kernel
theorem dX4_take_148 : decode cX4_take 148 = .ok (.iload_n 3, 1) := by decide +kernel
theorem dX4_take_149 : decode cX4_take 149 = .ok (.invokevirtual 112, 3) := by decide +kernel
theorem dX4_take_152 : decode cX4_take 152 = .ok (.goto 27, 3) := by decide +kernel
theorem dX4_take_155 : decode cX4_take 155 = .ok (.aload_n 0, 1) := by decide +kernel
theorem dX4_take_156 : decode cX4_take 156 = .ok (.iload 4, 2) := by decide +kernel
theorem dX4_take_158 : decode cX4_take 158 = .ok (.iload_n 3, 1) := by decide +kernel
theorem dX4_take_159 : decode cX4_take 159 = .ok (.invokevirtual 115, 3) := by decide +kernel
theorem dX4_take_162 : decode cX4_take 162 = .ok (.aload_n 0, 1) := by decide +kernel
theorem dX4_take_163 : decode cX4_take 163 = .ok (.getfield 30, 3) := by decide +kernel
theorem dX4_take_166 : decode cX4_take 166 = .ok (.iload 4, 2) := by decide +kernel
theorem dX4_take_168 : decode cX4_take 168 = .ok (.iaload, 1) := by decide +kernel
theorem dX4_take_169 : decode cX4_take 169 = .ok (.ifCond .ne 10, 3) := by decide +kernel
theorem dX4_take_172 : decode cX4_take 172 = .ok (.aload_n 0, 1) := by decide +kernel
theorem dX4_take_173 : decode cX4_take 173 = .ok (.iload 4, 2) := by decide +kernel
theorem dX4_take_175 : decode cX4_take 175 = .ok (.iload_n 3, 1) := by decide +kernel
theorem dX4_take_176 : decode cX4_take 176 = .ok (.invokevirtual 118, 3) := by decide +kernel
theorem dX4_take_179 : decode cX4_take 179 = .ok (.iconst 1, 1) := by decide +kernel
theorem dX4_take_180 : decode cX4_take 180 = .ok (.ireturn, 1) := by decide +kernel
theorem dX4_takeBack_0 : decode cX4_takeBack 0 = .ok (.aload_n 0, 1) := by decide +kernel
theorem dX4_takeBack_1 : decode cX4_takeBack 1 = .ok (.getfield 45, 3) := by decide +kernel
theorem dX4_takeBack_4 : decode cX4_takeBack 4 = .ok (.iload_n 2, 1) := by decide +kernel
theorem dX4_takeBack_5 : decode cX4_takeBack 5 = .ok (.iconst 1, 1) := by decide +kernel
theorem dX4_takeBack_6 : decode cX4_takeBack 6 = .ok (.iadd, 1) := by decide +kernel
theorem dX4_takeBack_7 : decode cX4_takeBack 7 = .ok (.iaload, 1) := by decide +kernel
theorem dX4_takeBack_8 : decode cX4_takeBack 8 = .ok (.istore_n 3, 1) := by decide +kernel
theorem dX4_takeBack_9 : decode cX4_takeBack 9 = .ok (.iload_n 1, 1) := by decide +kernel
theorem dX4_takeBack_10 : decode cX4_takeBack 10 = .ok (.ifCond .lt 45, 3) := by decide +kernel
theorem dX4_takeBack_13 : decode cX4_takeBack 13 = .ok (.aload_n 0, 1) := by decide +kernel
theorem dX4_takeBack_14 : decode cX4_takeBack 14 = .ok (.getfield 18, 3) := by decide +kernel
theorem dX4_takeBack_17 : decode cX4_takeBack 17 = .ok (.iload_n 1, 1) := by decide +kernel
theorem dX4_takeBack_18 : decode cX4_takeBack 18 = .ok (.iaload, 1) := by decide +kernel
theorem dX4_takeBack_19 : decode cX4_takeBack 19 = .ok (.iload_n 3, 1) := by decide +kernel
theorem dX4_takeBack_20 : decode cX4_takeBack 20 = .ok (.if_icmp .ne 35, 3) := by decide +kernel
theorem dX4_takeBack_23 : decode cX4_takeBack 23 = .ok (.aload_n 0, 1) := by decide +kernel
theorem dX4_takeBack_24 : decode cX4_takeBack 24 = .ok (.getfield 45, 3) := by decide +kernel
theorem dX4_takeBack_27 : decode cX4_takeBack 27 = .ok (.iload_n 2, 1) := by decide +kernel
theorem dX4_takeBack_28 : decode cX4_takeBack 28 = .ok (.iconst 5, 1) := by decide +kernel
theorem dX4_takeBack_29 : decode cX4_takeBack 29 = .ok (.iadd, 1) := by decide +kernel
theorem dX4_takeBack_30 : decode cX4_takeBack 30 = .ok (.aload_n 0, 1) := by decide +kernel
theorem dX4_takeBack_31 : decode cX4_takeBack 31 = .ok (.getfield 40, 3) := by decide +kernel
theorem dX4_takeBack_34 : decode cX4_takeBack 34 = .ok (.iload_n 1, 1) := by decide +kernel
theorem dX4_takeBack_35 : decode cX4_takeBack 35 = .ok (.iconst 4, 1) := by decide +kernel
theorem dX4_takeBack_36 : decode cX4_takeBack 36 = .ok (.imul, 1) := by decide +kernel
theorem dX4_takeBack_37 : decode cX4_takeBack 37 = .ok (.iconst 4, 1) := by decide +kernel
theorem dX4_takeBack_38 : decode cX4_takeBack 38 = .ok (.invokestatic 86, 3) := by decide +kernel
theorem dX4_takeBack_41 : decode cX4_takeBack 41 = .ok (.aload_n 0, 1) := by decide +kernel
theorem dX4_takeBack_42 : decode cX4_takeBack 42 = .ok (.getfield 33, 3) := by decide +kernel
theorem dX4_takeBack_45 : decode cX4_takeBack 45 = .ok (.iload_n 1, 1) := by decide +kernel
theorem dX4_takeBack_46 : decode cX4_takeBack 46 = .ok (.iconst 1, 1) := by decide +kernel
theorem dX4_takeBack_47 : decode cX4_takeBack 47 = .ok (.bastore, 1) := by decide +kernel
theorem dX4_takeBack_48 : decode cX4_takeBack 48 = .ok (.aload_n 0, 1) := by decide +kernel
theorem dX4_takeBack_49 : decode cX4_takeBack 49 = .ok (.getfield 18, 3) := by decide +kernel
theorem dX4_takeBack_52 : decode cX4_takeBack 52 = .ok (.iload_n 1, 1) := by decide +kernel
theorem dX4_takeBack_53 : decode cX4_takeBack 53 = .ok (.iconst (-1), 1) := by decide +kernel
theorem dX4_takeBack_54 : decode cX4_takeBack 54 = .ok (.iastore, 1) := by decide +kernel
theorem dX4_takeBack_55 : decode cX4_takeBack 55 = .ok (.aload_n 0, 1) := by decide +kernel
theorem dX4_takeBack_56 : decode cX4_takeBack 56 = .ok (.getfield 48, 3) := by decide +kernel
theorem dX4_takeBack_59 : decode cX4_takeBack 59 = .ok (.bipush 9, 2) := by decide +kernel
theorem dX4_takeBack_61 : decode cX4_takeBack 61 = .ok (.bipush 16, 2) := by decide +kernel
theorem dX4_takeBack_63 : decode cX4_takeBack 63 = .ok (.iload_n 3, 1) := by decide +kernel
theorem dX4_takeBack_64 : decode cX4_takeBack 64 = .ok (.aload_n 0, 1) := by decide +kernel
theorem dX4_takeBack_65 : decode cX4_takeBack 65 = .ok (.getfield 45, 3) := by decide +kernel
theorem dX4_takeBack_68 : decode cX4_takeBack 68 = .ok (.iload_n 2, 1) := by decide +kernel
theorem dX4_takeBack_69 : decode cX4_takeBack 69 = .ok (.iconst 3, 1) := by decide +kernel
theorem dX4_takeBack_70 : decode cX4_takeBack 70 = .ok (.iadd, 1) := by decide +kernel
theorem dX4_takeBack_71 : decode cX4_takeBack 71 = .ok (.iaload, 1) := by decide +kernel
theorem dX4_takeBack_72 : decode cX4_takeBack 72 = .ok (.aconst_null, 1) := by decide +kernel
theorem dX4_takeBack_73 : decode cX4_takeBack 73 = .ok (.iconst 0, 1) := by decide +kernel
theorem dX4_takeBack_74 : decode cX4_takeBack 74 = .ok (.invokevirtual 121, 3) := by decide +kernel
theorem dX4_takeBack_77 : decode cX4_takeBack 77 = .ok (.return_, 1) := by decide +kernel
theorem dX4_makeRoom_0 : decode cX4_makeRoom 0 = .ok (.aload_n 0, 1) := by decide +kernel
theorem dX4_makeRoom_1 : decode cX4_makeRoom 1 = .ok (.iload_n 1, 1) := by decide +kernel
theorem dX4_makeRoom_2 : decode cX4_makeRoom 2 = .ok (.invokevirtual 125, 3) := by decide +kernel
theorem dX4_makeRoom_5 : decode cX4_makeRoom 5 = .ok (.istore_n 2, 1) := by decide +kernel
theorem dX4_makeRoom_6 : decode cX4_makeRoom 6 = .ok (.iload_n 2, 1) := by decide +kernel
theorem dX4_makeRoom_7 : decode cX4_makeRoom 7 = .ok (.ifCond .ge 5, 3) := by decide +kernel
theorem dX4_makeRoom_10 : decode cX4_makeRoom 10 = .ok (.iconst (-1), 1) := by decide +kernel
theorem dX4_makeRoom_11 : decode cX4_makeRoom 11 = .ok (.ireturn, 1) := by decide +kernel
theorem dX4_makeRoom_12 : decode cX4_makeRoom 12 = .ok (.aload_n 0, 1) := by decide +kernel
theorem dX4_makeRoom_13 : decode cX4_makeRoom 13 = .ok (.getfield 15, 3) := by decide +kernel
theorem dX4_makeRoom_16 : decode cX4_makeRoom 16 = .ok (.iload_n 2, 1) := by decide +kernel
theorem dX4_makeRoom_17 : decode cX4_makeRoom 17 = .ok (.iaload, 1) := by decide +kernel
theorem dX4_makeRoom_18 : decode cX4_makeRoom 18 = .ok (.iconst (-1), 1) := by decide +kernel
theorem dX4_makeRoom_19 : decode cX4_makeRoom 19 = .ok (.if_icmp .eq 55, 3) := by decide +kernel
theorem dX4_makeRoom_22 : decode cX4_makeRoom 22 = .ok (.aload_n 0, 1) := by decide +kernel
theorem dX4_makeRoom_23 : decode cX4_makeRoom 23 = .ok (.getfield 18, 3) := by decide +kernel
theorem dX4_makeRoom_26 : decode cX4_makeRoom 26 = .ok (.iload_n 2, 1) := by decide +kernel
theorem dX4_makeRoom_27 : decode cX4_makeRoom 27 = .ok (.iaload, 1) := by decide +kernel
theorem dX4_makeRoom_28 : decode cX4_makeRoom 28 = .ok (.iconst (-1), 1) := by decide +kernel
theorem dX4_makeRoom_29 : decode cX4_makeRoom 29 = .ok (.if_icmp .ne 12, 3) := by decide +kernel
theorem dX4_makeRoom_32 : decode cX4_makeRoom 32 = .ok (.aload_n 0, 1) := by decide +kernel
theorem dX4_makeRoom_33 : decode cX4_makeRoom 33 = .ok (.getfield 21, 3) := by decide +kernel
theorem dX4_makeRoom_36 : decode cX4_makeRoom 36 = .ok (.iload_n 2, 1) := by decide +kernel
theorem dX4_makeRoom_37 : decode cX4_makeRoom 37 = .ok (.iaload, 1) := by decide +kernel
theorem dX4_makeRoom_38 : decode cX4_makeRoom 38 = .ok (.ifCond .eq 36, 3) := by decide +kernel
theorem dX4_makeRoom_41 : decode cX4_makeRoom 41 = .ok (.aload_n 0, 1) := by decide +kernel
theorem dX4_makeRoom_42 : decode cX4_makeRoom 42 = .ok (.getfield 24, 3) := by decide +kernel
theorem dX4_makeRoom_45 : decode cX4_makeRoom 45 = .ok (.iload_n 2, 1) := by decide +kernel
theorem dX4_makeRoom_46 : decode cX4_makeRoom 46 = .ok (.bipush 16, 2) := by decide +kernel
theorem dX4_makeRoom_48 : decode cX4_makeRoom 48 = .ok (.iastore, 1) := by decide +kernel
theorem dX4_makeRoom_49 : decode cX4_makeRoom 49 = .ok (.aload_n 0, 1) := by decide +kernel
theorem dX4_makeRoom_50 : decode cX4_makeRoom 50 = .ok (.getfield 30, 3) := by decide +kernel
theorem dX4_makeRoom_53 : decode cX4_makeRoom 53 = .ok (.iload_n 2, 1) := by decide +kernel
theorem dX4_makeRoom_54 : decode cX4_makeRoom 54 = .ok (.iconst 0, 1) := by decide +kernel
theorem dX4_makeRoom_55 : decode cX4_makeRoom 55 = .ok (.iastore, 1) := by decide +kernel
theorem dX4_makeRoom_56 : decode cX4_makeRoom 56 = .ok (.aload_n 0, 1) := by decide +kernel
theorem dX4_makeRoom_57 : decode cX4_makeRoom 57 = .ok (.dup, 1) := by decide +kernel
theorem dX4_makeRoom_58 : decode cX4_makeRoom 58 = .ok (.getfield 75, 3) := by decide +kernel
theorem dX4_makeRoom_61 : decode cX4_makeRoom 61 = .ok (.iconst 1, 1) := by decide +kernel
theorem dX4_makeRoom_62 : decode cX4_makeRoom 62 = .ok (.iadd, 1) := by decide +kernel
theorem dX4_makeRoom_63 : decode cX4_makeRoom 63 = .ok (.putfield 75, 3) := by decide +kernel
theorem dX4_makeRoom_66 : decode cX4_makeRoom 66 = .ok (.aload_n 0, 1) := by decide +kernel
theorem dX4_makeRoom_67 : decode cX4_makeRoom 67 = .ok (.iload_n 2, 1) := by decide +kernel
theorem dX4_makeRoom_68 : decode cX4_makeRoom 68 = .ok (.iconst (-1), 1) := by decide +kernel
theorem dX4_makeRoom_69 : decode cX4_makeRoom 69 = .ok (.invokevirtual 115, 3) := by decide +kernel
theorem dX4_makeRoom_72 : decode cX4_makeRoom 72 = .ok (.iconst (-1), 1) := by decide +kernel
theorem dX4_makeRoom_73 : decode cX4_makeRoom 73 = .ok (.ireturn, 1) := by decide +kernel
theorem dX4_makeRoom_74 : decode cX4_makeRoom 74 = .ok (.aload_n 0, 1) := by decide +kernel
theorem dX4_makeRoom_75 : decode cX4_makeRoom 75 = .ok (.getfield 15, 3) := by decide +kernel
theorem dX4_makeRoom_78 : decode cX4_makeRoom 78 = .ok (.iload_n 2, 1) := by decide +kernel
theorem dX4_makeRoom_79 : decode cX4_makeRoom 79 = .ok (.iaload, 1) := by decide +kernel
theorem dX4_makeRoom_80 : decode cX4_makeRoom 80 = .ok (.iconst (-1), 1) := by decide +kernel
theorem dX4_makeRoom_81 : decode cX4_makeRoom 81 = .ok (.if_icmp .eq 8, 3) := by decide +kernel
theorem dX4_makeRoom_84 : decode cX4_makeRoom 84 = .ok (.aload_n 0, 1) := by decide +kernel
theorem dX4_makeRoom_85 : decode cX4_makeRoom 85 = .ok (.iload_n 2, 1) := by decide +kernel
theorem dX4_makeRoom_86 : decode cX4_makeRoom 86 = .ok (.invokevirtual 128, 3) := by decide +kernel
theorem dX4_makeRoom_89 : decode cX4_makeRoom 89 = .ok (.aload_n 0, 1) := by decide +kernel
theorem dX4_makeRoom_90 : decode cX4_makeRoom 90 = .ok (.getfield 15, 3) := by decide +kernel
theorem dX4_makeRoom_93 : decode cX4_makeRoom 93 = .ok (.iload_n 2, 1) := by decide +kernel
theorem dX4_makeRoom_94 : decode cX4_makeRoom 94 = .ok (.iload_n 1, 1) := by decide +kernel
theorem dX4_makeRoom_95 : decode cX4_makeRoom 95 = .ok (.iastore, 1) := by decide +kernel
theorem dX4_makeRoom_96 : decode cX4_makeRoom 96 = .ok (.aload_n 0, 1) := by decide +kernel
theorem dX4_makeRoom_97 : decode cX4_makeRoom 97 = .ok (.getfield 9, 3) := by decide +kernel
theorem dX4_makeRoom_100 : decode cX4_makeRoom 100 = .ok (.iload_n 1, 1) := by decide +kernel
theorem dX4_makeRoom_101 : decode cX4_makeRoom 101 = .ok (.iconst 4, 1) := by decide +kernel
theorem dX4_makeRoom_102 : decode cX4_makeRoom 102 = .ok (.imul, 1) := by decide +kernel
theorem dX4_makeRoom_103 : decode cX4_makeRoom 103 = .ok (.aload_n 0, 1) := by decide +kernel
theorem dX4_makeRoom_104 : decode cX4_makeRoom 104 = .ok (.getfield 40, 3) := by decide +kernel
theorem dX4_makeRoom_107 : decode cX4_makeRoom 107 = .ok (.iload_n 2, 1) := by decide +kernel
theorem dX4_makeRoom_108 : decode cX4_makeRoom 108 = .ok (.iconst 4, 1) := by decide +kernel
theorem dX4_makeRoom_109 : decode cX4_makeRoom 109 = .ok (.imul, 1) := by decide +kernel
theorem dX4_makeRoom_110 : decode cX4_makeRoom 110 = .ok (.iconst 4, 1) := by decide +kernel
theorem dX4_makeRoom_111 : decode cX4_makeRoom 111 = .ok (.invokestatic 86, 3) := by decide +kernel
theorem dX4_makeRoom_114 : decode cX4_makeRoom 114 = .ok (.aload_n 0, 1) := by decide +kernel
theorem dX4_makeRoom_115 : decode cX4_makeRoom 115 = .ok (.getfield 33, 3) := by decide +kernel
theorem dX4_makeRoom_118 : decode cX4_makeRoom 118 = .ok (.iload_n 2, 1) := by decide +kernel
theorem dX4_makeRoom_119 : decode cX4_makeRoom 119 = .ok (.iconst 0, 1) := by decide +kernel
theorem dX4_makeRoom_120 : decode cX4_makeRoom 120 = .ok (.bastore, 1) := by decide +kernel
theorem dX4_makeRoom_121 : decode cX4_makeRoom 121 = .ok (.aload_n 0, 1) := by decide +kernel
theorem dX4_makeRoom_122 : decode cX4_makeRoom 122 = .ok (.getfield 18, 3) := by decide +kernel
theorem dX4_makeRoom_125 : decode cX4_makeRoom 125 = .ok (.iload_n 2, 1) := by decide +kernel
theorem dX4_makeRoom_126 : decode cX4_makeRoom 126 = .ok (.iconst (-1), 1) := by decide +kernel
theorem dX4_makeRoom_127 : decode cX4_makeRoom 127 = .ok (.iastore, 1) := by decide +kernel
theorem dX4_makeRoom_128 : decode cX4_makeRoom 128 = .ok (.aload_n 0, 1) := by decide +kernel
theorem dX4_makeRoom_129 : decode cX4_makeRoom 129 = .ok (.getfield 21, 3) := by decide +kernel
theorem dX4_makeRoom_132 : decode cX4_makeRoom 132 = .ok (.iload_n 2, 1) := by decide +kernel
theorem dX4_makeRoom_133 : decode cX4_makeRoom 133 = .ok (.iconst 0, 1) := by decide +kernel
theorem dX4_makeRoom_134 : decode cX4_makeRoom 134 = .ok (.iastore, 1) := by decide +kernel
theorem dX4_makeRoom_135 : decode cX4_makeRoom 135 = .ok (.iload_n 2, 1) := by decide +kernel
theorem dX4_makeRoom_136 : decode cX4_makeRoom 136 = .ok (.ireturn, 1) := by decide +kernel
theorem dX4_wayToFree_0 : decode cX4_wayToFree 0 = .ok (.iload_n 1, 1) := by decide +kernel
theorem dX4_wayToFree_1 : decode cX4_wayToFree 1 = .ok (.aload_n 0, 1) := by decide +kernel
theorem dX4_wayToFree_2 : decode cX4_wayToFree 2 = .ok (.getfield 56, 3) := by decide +kernel
theorem dX4_wayToFree_5 : decode cX4_wayToFree 5 = .ok (.iconst 1, 1) := by decide +kernel
theorem dX4_wayToFree_6 : decode cX4_wayToFree 6 = .ok (.isub, 1) := by decide +kernel
theorem dX4_wayToFree_7 : decode cX4_wayToFree 7 = .ok (.iand, 1) := by decide +kernel
theorem dX4_wayToFree_8 : decode cX4_wayToFree 8 = .ok (.aload_n 0, 1) := by decide +kernel
theorem dX4_wayToFree_9 : decode cX4_wayToFree 9 = .ok (.getfield 60, 3) := by decide +kernel
theorem dX4_wayToFree_12 : decode cX4_wayToFree 12 = .ok (.imul, 1) := by decide +kernel
theorem dX4_wayToFree_13 : decode cX4_wayToFree 13 = .ok (.istore_n 2, 1) := by decide +kernel
theorem dX4_wayToFree_14 : decode cX4_wayToFree 14 = .ok (.iconst (-1), 1) := by decide +kernel
theorem dX4_wayToFree_15 : decode cX4_wayToFree 15 = .ok (.istore_n 3, 1) := by decide +kernel
theorem dX4_wayToFree_16 : decode cX4_wayToFree 16 = .ok (.iload_n 2, 1) := by decide +kernel
theorem dX4_wayToFree_17 : decode cX4_wayToFree 17 = .ok (.istore 4, 2) := by decide +kernel
theorem dX4_wayToFree_19 : decode cX4_wayToFree 19 = .ok (.iload 4, 2) := by decide +kernel
theorem dX4_wayToFree_21 : decode cX4_wayToFree 21 = .ok (.iload_n 2, 1) := by decide +kernel
theorem dX4_wayToFree_22 : decode cX4_wayToFree 22 = .ok (.aload_n 0, 1) := by decide +kernel
theorem dX4_wayToFree_23 : decode cX4_wayToFree 23 = .ok (.getfield 60, 3) := by decide +kernel
theorem dX4_wayToFree_26 : decode cX4_wayToFree 26 = .ok (.iadd, 1) := by decide +kernel
theorem dX4_wayToFree_27 : decode cX4_wayToFree 27 = .ok (.if_icmp .ge 57, 3) := by decide +kernel
theorem dX4_wayToFree_30 : decode cX4_wayToFree 30 = .ok (.aload_n 0, 1) := by decide +kernel
theorem dX4_wayToFree_31 : decode cX4_wayToFree 31 = .ok (.getfield 15, 3) := by decide +kernel
theorem dX4_wayToFree_34 : decode cX4_wayToFree 34 = .ok (.iload 4, 2) := by decide +kernel
theorem dX4_wayToFree_36 : decode cX4_wayToFree 36 = .ok (.iaload, 1) := by decide +kernel
theorem dX4_wayToFree_37 : decode cX4_wayToFree 37 = .ok (.iconst (-1), 1) := by decide +kernel
theorem dX4_wayToFree_38 : decode cX4_wayToFree 38 = .ok (.if_icmp .ne 6, 3) := by decide +kernel
theorem dX4_wayToFree_41 : decode cX4_wayToFree 41 = .ok (.iload 4, 2) := by decide +kernel
theorem dX4_wayToFree_43 : decode cX4_wayToFree 43 = .ok (.ireturn, 1) := by decide +kernel
theorem dX4_wayToFree_44 : decode cX4_wayToFree 44 = .ok (.aload_n 0, 1) := by decide +kernel
theorem dX4_wayToFree_45 : decode cX4_wayToFree 45 = .ok (.getfield 24, 3) := by decide +kernel
theorem dX4_wayToFree_48 : decode cX4_wayToFree 48 = .ok (.iload 4, 2) := by decide +kernel
theorem dX4_wayToFree_50 : decode cX4_wayToFree 50 = .ok (.iaload, 1) := by decide +kernel
theorem dX4_wayToFree_51 : decode cX4_wayToFree 51 = .ok (.iconst (-1), 1) := by decide +kernel
theorem dX4_wayToFree_52 : decode cX4_wayToFree 52 = .ok (.if_icmp .ne 26, 3) := by decide +kernel
theorem dX4_wayToFree_55 : decode cX4_wayToFree 55 = .ok (.iload_n 3, 1) := by decide +kernel
theorem dX4_wayToFree_56 : decode cX4_wayToFree 56 = .ok (.ifCond .lt 19, 3) := by decide +kernel
theorem dX4_wayToFree_59 : decode cX4_wayToFree 59 = .ok (.aload_n 0, 1) := by decide +kernel
theorem dX4_wayToFree_60 : decode cX4_wayToFree 60 = .ok (.getfield 37, 3) := by decide +kernel
theorem dX4_wayToFree_63 : decode cX4_wayToFree 63 = .ok (.iload 4, 2) := by decide +kernel
