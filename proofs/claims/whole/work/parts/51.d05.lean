theorem dX11_withWords_15 : decode cX11_withWords 15 = .ok (.getfield 148, 3) := by decide +kernel
theorem dX11_withWords_18 : decode cX11_withWords 18 = .ok (.iconst 5, 1) := by decide +kernel
theorem dX11_withWords_19 : decode cX11_withWords 19 = .ok (.iload_n 2, 1) := by decide +kernel
theorem dX11_withWords_20 : decode cX11_withWords 20 = .ok (.iadd, 1) := by decide +kernel
theorem dX11_withWords_21 : decode cX11_withWords 21 = .ok (.aload_n 0, 1) := by decide +kernel
theorem dX11_withWords_22 : decode cX11_withWords 22 = .ok (.getfield 53, 3) := by decide +kernel
theorem dX11_withWords_25 : decode cX11_withWords 25 = .ok (.iconst 4, 1) := by decide +kernel
theorem dX11_withWords_26 : decode cX11_withWords 26 = .ok (.iload_n 1, 1) := by decide +kernel
theorem dX11_withWords_27 : decode cX11_withWords 27 = .ok (.imul, 1) := by decide +kernel
theorem dX11_withWords_28 : decode cX11_withWords 28 = .ok (.iload_n 2, 1) := by decide +kernel
theorem dX11_withWords_29 : decode cX11_withWords 29 = .ok (.iadd, 1) := by decide +kernel
theorem dX11_withWords_30 : decode cX11_withWords 30 = .ok (.iaload, 1) := by decide +kernel
theorem dX11_withWords_31 : decode cX11_withWords 31 = .ok (.iastore, 1) := by decide +kernel
theorem dX11_withWords_32 : decode cX11_withWords 32 = .ok (.iinc 2 1, 3) := by decide +kernel
theorem dX11_withWords_35 : decode cX11_withWords 35 = .ok (.goto (-26), 3) := by decide +kernel
theorem dX11_withWords_38 : decode cX11_withWords 38 = .ok (.return_, 1) := by decide +kernel
theorem dX11_post_0 : decode cX11_post 0 = .ok (.iconst 0, 1) := by decide +kernel
theorem dX11_post_1 : decode cX11_post 1 = .ok (.istore_n 1, 1) := by decide +kernel
theorem dX11_post_2 : decode cX11_post 2 = .ok (.iload_n 1, 1) := by decide +kernel
theorem dX11_post_3 : decode cX11_post 3 = .ok (.bipush 9, 2) := by decide +kernel
theorem dX11_post_5 : decode cX11_post 5 = .ok (.if_icmp .ge 29, 3) := by decide +kernel
theorem dX11_post_8 : decode cX11_post 8 = .ok (.aload_n 0, 1) := by decide +kernel
theorem dX11_post_9 : decode cX11_post 9 = .ok (.getfield 145, 3) := by decide +kernel
theorem dX11_post_12 : decode cX11_post 12 = .ok (.bipush 9, 2) := by decide +kernel
theorem dX11_post_14 : decode cX11_post 14 = .ok (.aload_n 0, 1) := by decide +kernel
theorem dX11_post_15 : decode cX11_post 15 = .ok (.getfield 316, 3) := by decide +kernel
theorem dX11_post_18 : decode cX11_post 18 = .ok (.imul, 1) := by decide +kernel
theorem dX11_post_19 : decode cX11_post 19 = .ok (.iload_n 1, 1) := by decide +kernel
theorem dX11_post_20 : decode cX11_post 20 = .ok (.iadd, 1) := by decide +kernel
theorem dX11_post_21 : decode cX11_post 21 = .ok (.aload_n 0, 1) := by decide +kernel
theorem dX11_post_22 : decode cX11_post 22 = .ok (.getfield 148, 3) := by decide +kernel
theorem dX11_post_25 : decode cX11_post 25 = .ok (.iload_n 1, 1) := by decide +kernel
theorem dX11_post_26 : decode cX11_post 26 = .ok (.iaload, 1) := by decide +kernel
theorem dX11_post_27 : decode cX11_post 27 = .ok (.iastore, 1) := by decide +kernel
theorem dX11_post_28 : decode cX11_post 28 = .ok (.iinc 1 1, 3) := by decide +kernel
theorem dX11_post_31 : decode cX11_post 31 = .ok (.goto (-29), 3) := by decide +kernel
theorem dX11_post_34 : decode cX11_post 34 = .ok (.aload_n 0, 1) := by decide +kernel
theorem dX11_post_35 : decode cX11_post 35 = .ok (.dup, 1) := by decide +kernel
theorem dX11_post_36 : decode cX11_post 36 = .ok (.getfield 316, 3) := by decide +kernel
theorem dX11_post_39 : decode cX11_post 39 = .ok (.iconst 1, 1) := by decide +kernel
theorem dX11_post_40 : decode cX11_post 40 = .ok (.iadd, 1) := by decide +kernel
theorem dX11_post_41 : decode cX11_post 41 = .ok (.putfield 316, 3) := by decide +kernel
theorem dX11_post_44 : decode cX11_post 44 = .ok (.return_, 1) := by decide +kernel
theorem dX11_send_0 : decode cX11_send 0 = .ok (.aload_n 0, 1) := by decide +kernel
theorem dX11_send_1 : decode cX11_send 1 = .ok (.iload_n 1, 1) := by decide +kernel
theorem dX11_send_2 : decode cX11_send 2 = .ok (.iload_n 2, 1) := by decide +kernel
theorem dX11_send_3 : decode cX11_send 3 = .ok (.iload_n 3, 1) := by decide +kernel
theorem dX11_send_4 : decode cX11_send 4 = .ok (.iload 4, 2) := by decide +kernel
theorem dX11_send_6 : decode cX11_send 6 = .ok (.invokevirtual 532, 3) := by decide +kernel
theorem dX11_send_9 : decode cX11_send 9 = .ok (.aload_n 0, 1) := by decide +kernel
theorem dX11_send_10 : decode cX11_send 10 = .ok (.invokevirtual 536, 3) := by decide +kernel
theorem dX11_send_13 : decode cX11_send 13 = .ok (.return_, 1) := by decide +kernel
theorem dX11_miss_0 : decode cX11_miss 0 = .ok (.aload_n 0, 1) := by decide +kernel
theorem dX11_miss_1 : decode cX11_miss 1 = .ok (.getfield 86, 3) := by decide +kernel
theorem dX11_miss_4 : decode cX11_miss 4 = .ok (.iload_n 1, 1) := by decide +kernel
theorem dX11_miss_5 : decode cX11_miss 5 = .ok (.iaload, 1) := by decide +kernel
theorem dX11_miss_6 : decode cX11_miss 6 = .ok (.iconst (-1), 1) := by decide +kernel
theorem dX11_miss_7 : decode cX11_miss 7 = .ok (.if_icmp .ne 13, 3) := by decide +kernel
theorem dX11_miss_10 : decode cX11_miss 10 = .ok (.aload_n 0, 1) := by decide +kernel
theorem dX11_miss_11 : decode cX11_miss 11 = .ok (.getfield 89, 3) := by decide +kernel
theorem dX11_miss_14 : decode cX11_miss 14 = .ok (.iload_n 1, 1) := by decide +kernel
theorem dX11_miss_15 : decode cX11_miss 15 = .ok (.iaload, 1) := by decide +kernel
theorem dX11_miss_16 : decode cX11_miss 16 = .ok (.iload_n 2, 1) := by decide +kernel
theorem dX11_miss_17 : decode cX11_miss 17 = .ok (.if_icmp .ne 4, 3) := by decide +kernel
theorem dX11_miss_20 : decode cX11_miss 20 = .ok (.return_, 1) := by decide +kernel
theorem dX11_miss_21 : decode cX11_miss 21 = .ok (.aload_n 0, 1) := by decide +kernel
theorem dX11_miss_22 : decode cX11_miss 22 = .ok (.iload_n 1, 1) := by decide +kernel
theorem dX11_miss_23 : decode cX11_miss 23 = .ok (.iload_n 2, 1) := by decide +kernel
theorem dX11_miss_24 : decode cX11_miss 24 = .ok (.invokevirtual 539, 3) := by decide +kernel
theorem dX11_miss_27 : decode cX11_miss 27 = .ok (.iconst (-1), 1) := by decide +kernel
theorem dX11_miss_28 : decode cX11_miss 28 = .ok (.if_icmp .ne 23, 3) := by decide +kernel
theorem dX11_miss_31 : decode cX11_miss 31 = .ok (.aload_n 0, 1) := by decide +kernel
theorem dX11_miss_32 : decode cX11_miss 32 = .ok (.iload_n 1, 1) := by decide +kernel
theorem dX11_miss_33 : decode cX11_miss 33 = .ok (.iload_n 2, 1) := by decide +kernel
theorem dX11_miss_34 : decode cX11_miss 34 = .ok (.invokevirtual 542, 3) := by decide +kernel
theorem dX11_miss_37 : decode cX11_miss 37 = .ok (.iconst (-1), 1) := by decide +kernel
theorem dX11_miss_38 : decode cX11_miss 38 = .ok (.if_icmp .ne 13, 3) := by decide +kernel
theorem dX11_miss_41 : decode cX11_miss 41 = .ok (.aload_n 0, 1) := by decide +kernel
theorem dX11_miss_42 : decode cX11_miss 42 = .ok (.iload_n 1, 1) := by decide +kernel
theorem dX11_miss_43 : decode cX11_miss 43 = .ok (.iload_n 2, 1) := by decide +kernel
theorem dX11_miss_44 : decode cX11_miss 44 = .ok (.invokevirtual 545, 3) := by decide +kernel
theorem dX11_miss_47 : decode cX11_miss 47 = .ok (.ifCond .ne 4, 3) := by decide +kernel
theorem dX11_miss_50 : decode cX11_miss 50 = .ok (.return_, 1) := by decide +kernel
theorem dX11_miss_51 : decode cX11_miss 51 = .ok (.aload_n 0, 1) := by decide +kernel
theorem dX11_miss_52 : decode cX11_miss 52 = .ok (.iload_n 3, 1) := by decide +kernel
theorem dX11_miss_53 : decode cX11_miss 53 = .ok (.iconst 1, 1) := by decide +kernel
theorem dX11_miss_54 : decode cX11_miss 54 = .ok (.if_icmp .ne 7, 3) := by decide +kernel
theorem dX11_miss_57 : decode cX11_miss 57 = .ok (.iconst 0, 1) := by decide +kernel
theorem dX11_miss_58 : decode cX11_miss 58 = .ok (.goto 4, 3) := by decide +kernel
theorem dX11_miss_61 : decode cX11_miss 61 = .ok (.iconst 1, 1) := by decide +kernel
theorem dX11_miss_62 : decode cX11_miss 62 = .ok (.iload_n 1, 1) := by decide +kernel
theorem dX11_miss_63 : decode cX11_miss 63 = .ok (.bipush 16, 2) := by decide +kernel
theorem dX11_miss_65 : decode cX11_miss 65 = .ok (.iload_n 2, 1) := by decide +kernel
theorem dX11_miss_66 : decode cX11_miss 66 = .ok (.invokevirtual 548, 3) := by decide +kernel
theorem dX11_miss_69 : decode cX11_miss 69 = .ok (.aload_n 0, 1) := by decide +kernel
theorem dX11_miss_70 : decode cX11_miss 70 = .ok (.getfield 86, 3) := by decide +kernel
theorem dX11_miss_73 : decode cX11_miss 73 = .ok (.iload_n 1, 1) := by decide +kernel
theorem dX11_miss_74 : decode cX11_miss 74 = .ok (.iload_n 2, 1) := by decide +kernel
theorem dX11_miss_75 : decode cX11_miss 75 = .ok (.iastore, 1) := by decide +kernel
theorem dX11_miss_76 : decode cX11_miss 76 = .ok (.aload_n 0, 1) := by decide +kernel
theorem dX11_miss_77 : decode cX11_miss 77 = .ok (.getfield 71, 3) := by decide +kernel
theorem dX11_miss_80 : decode cX11_miss 80 = .ok (.iload_n 1, 1) := by decide +kernel
theorem dX11_miss_81 : decode cX11_miss 81 = .ok (.dup2, 1) := by decide +kernel
theorem dX11_miss_82 : decode cX11_miss 82 = .ok (.iaload, 1) := by decide +kernel
theorem dX11_miss_83 : decode cX11_miss 83 = .ok (.iconst 1, 1) := by decide +kernel
theorem dX11_miss_84 : decode cX11_miss 84 = .ok (.iadd, 1) := by decide +kernel
theorem dX11_miss_85 : decode cX11_miss 85 = .ok (.iastore, 1) := by decide +kernel
theorem dX11_miss_86 : decode cX11_miss 86 = .ok (.return_, 1) := by decide +kernel
theorem dX11_leave_0 : decode cX11_leave 0 = .ok (.aload_n 0, 1) := by decide +kernel
theorem dX11_leave_1 : decode cX11_leave 1 = .ok (.iload_n 1, 1) := by decide +kernel
theorem dX11_leave_2 : decode cX11_leave 2 = .ok (.iload_n 2, 1) := by decide +kernel
theorem dX11_leave_3 : decode cX11_leave 3 = .ok (.invokevirtual 528, 3) := by decide +kernel
theorem dX11_leave_6 : decode cX11_leave 6 = .ok (.istore_n 3, 1) := by decide +kernel
theorem dX11_leave_7 : decode cX11_leave 7 = .ok (.iload_n 3, 1) := by decide +kernel
theorem dX11_leave_8 : decode cX11_leave 8 = .ok (.iconst 1, 1) := by decide +kernel
theorem dX11_leave_9 : decode cX11_leave 9 = .ok (.iadd, 1) := by decide +kernel
theorem dX11_leave_10 : decode cX11_leave 10 = .ok (.istore 4, 2) := by decide +kernel
theorem dX11_leave_12 : decode cX11_leave 12 = .ok (.iload 4, 2) := by decide +kernel
theorem dX11_leave_14 : decode cX11_leave 14 = .ok (.aload_n 0, 1) := by decide +kernel
theorem dX11_leave_15 : decode cX11_leave 15 = .ok (.iload_n 1, 1) := by decide +kernel
theorem dX11_leave_16 : decode cX11_leave 16 = .ok (.iload_n 2, 1) := by decide +kernel
theorem dX11_leave_17 : decode cX11_leave 17 = .ok (.invokevirtual 528, 3) := by decide +kernel
theorem dX11_leave_20 : decode cX11_leave 20 = .ok (.aload_n 0, 1) := by decide +kernel
theorem dX11_leave_21 : decode cX11_leave 21 = .ok (.getfield 47, 3) := by decide +kernel
theorem dX11_leave_24 : decode cX11_leave 24 = .ok (.iconst 3, 1) := by decide +kernel
theorem dX11_leave_25 : decode cX11_leave 25 = .ok (.iaload, 1) := by decide +kernel
theorem dX11_leave_26 : decode cX11_leave 26 = .ok (.iadd, 1) := by decide +kernel
theorem dX11_leave_27 : decode cX11_leave 27 = .ok (.if_icmp .ge 32, 3) := by decide +kernel
theorem dX11_leave_30 : decode cX11_leave 30 = .ok (.aload_n 0, 1) := by decide +kernel
theorem dX11_leave_31 : decode cX11_leave 31 = .ok (.getfield 111, 3) := by decide +kernel
theorem dX11_leave_34 : decode cX11_leave 34 = .ok (.iload 4, 2) := by decide +kernel
theorem dX11_leave_36 : decode cX11_leave 36 = .ok (.iaload, 1) := by decide +kernel
theorem dX11_leave_37 : decode cX11_leave 37 = .ok (.aload_n 0, 1) := by decide +kernel
theorem dX11_leave_38 : decode cX11_leave 38 = .ok (.getfield 111, 3) := by decide +kernel
theorem dX11_leave_41 : decode cX11_leave 41 = .ok (.iload_n 3, 1) := by decide +kernel
theorem dX11_leave_42 : decode cX11_leave 42 = .ok (.iaload, 1) := by decide +kernel
theorem dX11_leave_43 : decode cX11_leave 43 = .ok (.if_icmp .ge 8, 3) := by decide +kernel
theorem dX11_leave_46 : decode cX11_leave 46 = .ok (.iload 4, 2) := by decide +kernel
theorem dX11_leave_48 : decode cX11_leave 48 = .ok (.goto 4, 3) := by decide +kernel
theorem dX11_leave_51 : decode cX11_leave 51 = .ok (.iload_n 3, 1) := by decide +kernel
theorem dX11_leave_52 : decode cX11_leave 52 = .ok (.istore_n 3, 1) := by decide +kernel
theorem dX11_leave_53 : decode cX11_leave 53 = .ok (.iinc 4 1, 3) := by decide +kernel
theorem dX11_leave_56 : decode cX11_leave 56 = .ok (.goto (-44), 3) := by decide +kernel
theorem dX11_leave_59 : decode cX11_leave 59 = .ok (.aload_n 0, 1) := by decide +kernel
theorem dX11_leave_60 : decode cX11_leave 60 = .ok (.getfield 108, 3) := by decide +kernel
theorem dX11_leave_63 : decode cX11_leave 63 = .ok (.iload_n 3, 1) := by decide +kernel
theorem dX11_leave_64 : decode cX11_leave 64 = .ok (.iaload, 1) := by decide +kernel
theorem dX11_leave_65 : decode cX11_leave 65 = .ok (.iconst 1, 1) := by decide +kernel
theorem dX11_leave_66 : decode cX11_leave 66 = .ok (.if_icmp .le 62, 3) := by decide +kernel
theorem dX11_leave_69 : decode cX11_leave 69 = .ok (.aload_n 0, 1) := by decide +kernel
theorem dX11_leave_70 : decode cX11_leave 70 = .ok (.getfield 89, 3) := by decide +kernel
theorem dX11_leave_73 : decode cX11_leave 73 = .ok (.iload_n 1, 1) := by decide +kernel
theorem dX11_leave_74 : decode cX11_leave 74 = .ok (.iaload, 1) := by decide +kernel
theorem dX11_leave_75 : decode cX11_leave 75 = .ok (.iconst (-1), 1) := by decide +kernel
theorem dX11_leave_76 : decode cX11_leave 76 = .ok (.if_icmp .eq 5, 3) := by decide +kernel
theorem dX11_leave_79 : decode cX11_leave 79 = .ok (.iconst 0, 1) := by decide +kernel
theorem dX11_leave_80 : decode cX11_leave 80 = .ok (.ireturn, 1) := by decide +kernel
theorem dX11_leave_81 : decode cX11_leave 81 = .ok (.aload_n 0, 1) := by decide +kernel
theorem dX11_leave_82 : decode cX11_leave 82 = .ok (.getfield 89, 3) := by decide +kernel
theorem dX11_leave_85 : decode cX11_leave 85 = .ok (.iload_n 1, 1) := by decide +kernel
theorem dX11_leave_86 : decode cX11_leave 86 = .ok (.aload_n 0, 1) := by decide +kernel
theorem dX11_leave_87 : decode cX11_leave 87 = .ok (.getfield 105, 3) := by decide +kernel
theorem dX11_leave_90 : decode cX11_leave 90 = .ok (.iload_n 3, 1) := by decide +kernel
theorem dX11_leave_91 : decode cX11_leave 91 = .ok (.iaload, 1) := by decide +kernel
theorem dX11_leave_92 : decode cX11_leave 92 = .ok (.iastore, 1) := by decide +kernel
theorem dX11_leave_93 : decode cX11_leave 93 = .ok (.aload_n 0, 1) := by decide +kernel
theorem dX11_leave_94 : decode cX11_leave 94 = .ok (.getfield 92, 3) := by decide +kernel
theorem dX11_leave_97 : decode cX11_leave 97 = .ok (.iload_n 1, 1) := by decide +kernel
theorem dX11_leave_98 : decode cX11_leave 98 = .ok (.iconst 0, 1) := by decide +kernel
theorem dX11_leave_99 : decode cX11_leave 99 = .ok (.bastore, 1) := by decide +kernel
theorem dX11_leave_100 : decode cX11_leave 100 = .ok (.aload_n 0, 1) := by decide +kernel
theorem dX11_leave_101 : decode cX11_leave 101 = .ok (.iconst 2, 1) := by decide +kernel
theorem dX11_leave_102 : decode cX11_leave 102 = .ok (.iload_n 1, 1) := by decide +kernel
theorem dX11_leave_103 : decode cX11_leave 103 = .ok (.bipush 16, 2) := by decide +kernel
theorem dX11_leave_105 : decode cX11_leave 105 = .ok (.aload_n 0, 1) := by decide +kernel
theorem dX11_leave_106 : decode cX11_leave 106 = .ok (.getfield 105, 3) := by decide +kernel
theorem dX11_leave_109 : decode cX11_leave 109 = .ok (.iload_n 3, 1) := by decide +kernel
theorem dX11_leave_110 : decode cX11_leave 110 = .ok (.iaload, 1) := by decide +kernel
theorem dX11_leave_111 : decode cX11_leave 111 = .ok (.invokevirtual 532, 3) := by decide +kernel
theorem dX11_leave_114 : decode cX11_leave 114 = .ok (.aload_n 0, 1) := by decide +kernel
theorem dX11_leave_115 : decode cX11_leave 115 = .ok (.aload_n 0, 1) := by decide +kernel
theorem dX11_leave_116 : decode cX11_leave 116 = .ok (.getfield 105, 3) := by decide +kernel
theorem dX11_leave_119 : decode cX11_leave 119 = .ok (.iload_n 3, 1) := by decide +kernel
theorem dX11_leave_120 : decode cX11_leave 120 = .ok (.iaload, 1) := by decide +kernel
theorem dX11_leave_121 : decode cX11_leave 121 = .ok (.invokevirtual 551, 3) := by decide +kernel
theorem dX11_leave_124 : decode cX11_leave 124 = .ok (.aload_n 0, 1) := by decide +kernel
theorem dX11_leave_125 : decode cX11_leave 125 = .ok (.invokevirtual 536, 3) := by decide +kernel
theorem dX11_leave_128 : decode cX11_leave 128 = .ok (.aload_n 0, 1) := by decide +kernel
theorem dX11_leave_129 : decode cX11_leave 129 = .ok (.getfield 108, 3) := by decide +kernel
theorem dX11_leave_132 : decode cX11_leave 132 = .ok (.iload_n 3, 1) := by decide +kernel
theorem dX11_leave_133 : decode cX11_leave 133 = .ok (.iconst 0, 1) := by decide +kernel
theorem dX11_leave_134 : decode cX11_leave 134 = .ok (.iastore, 1) := by decide +kernel
theorem dX11_leave_135 : decode cX11_leave 135 = .ok (.iconst 1, 1) := by decide +kernel
theorem dX11_leave_136 : decode cX11_leave 136 = .ok (.ireturn, 1) := by decide +kernel
theorem dX11_maskOf_0 : decode cX11_maskOf 0 = .ok (.iconst 0, 1) := by decide +kernel
theorem dX11_maskOf_1 : decode cX11_maskOf 1 = .ok (.istore_n 1, 1) := by decide +kernel
theorem dX11_maskOf_2 : decode cX11_maskOf 2 = .ok (.iconst 0, 1) := by decide +kernel
theorem dX11_maskOf_3 : decode cX11_maskOf 3 = .ok (.istore_n 2, 1) := by decide +kernel
theorem dX11_maskOf_4 : decode cX11_maskOf 4 = .ok (.iload_n 2, 1) := by decide +kernel
theorem dX11_maskOf_5 : decode cX11_maskOf 5 = .ok (.iconst 4, 1) := by decide +kernel
theorem dX11_maskOf_6 : decode cX11_maskOf 6 = .ok (.if_icmp .ge 33, 3) := by decide +kernel
theorem dX11_maskOf_9 : decode cX11_maskOf 9 = .ok (.iload_n 1, 1) := by decide +kernel
theorem dX11_maskOf_10 : decode cX11_maskOf 10 = .ok (.iload_n 0, 1) := by decide +kernel
theorem dX11_maskOf_11 : decode cX11_maskOf 11 = .ok (.iload_n 2, 1) := by decide +kernel
theorem dX11_maskOf_12 : decode cX11_maskOf 12 = .ok (.ishr, 1) := by decide +kernel
theorem dX11_maskOf_13 : decode cX11_maskOf 13 = .ok (.iconst 1, 1) := by decide +kernel
theorem dX11_maskOf_14 : decode cX11_maskOf 14 = .ok (.iand, 1) := by decide +kernel
theorem dX11_maskOf_15 : decode cX11_maskOf 15 = .ok (.iconst 1, 1) := by decide +kernel
theorem dX11_maskOf_16 : decode cX11_maskOf 16 = .ok (.if_icmp .ne 14, 3) := by decide +kernel
theorem dX11_maskOf_19 : decode cX11_maskOf 19 = .ok (.sipush 255, 3) := by decide +kernel
theorem dX11_maskOf_22 : decode cX11_maskOf 22 = .ok (.bipush 8, 2) := by decide +kernel
theorem dX11_maskOf_24 : decode cX11_maskOf 24 = .ok (.iload_n 2, 1) := by decide +kernel
theorem dX11_maskOf_25 : decode cX11_maskOf 25 = .ok (.imul, 1) := by decide +kernel
theorem dX11_maskOf_26 : decode cX11_maskOf 26 = .ok (.ishl, 1) := by decide +kernel
theorem dX11_maskOf_27 : decode cX11_maskOf 27 = .ok (.goto 4, 3) := by decide +kernel
theorem dX11_maskOf_30 : decode cX11_maskOf 30 = .ok (.iconst 0, 1) := by decide +kernel
theorem dX11_maskOf_31 : decode cX11_maskOf 31 = .ok (.ior, 1) := by decide +kernel
theorem dX11_maskOf_32 : decode cX11_maskOf 32 = .ok (.istore_n 1, 1) := by decide +kernel
theorem dX11_maskOf_33 : decode cX11_maskOf 33 = .ok (.iinc 2 1, 3) := by decide +kernel
theorem dX11_maskOf_36 : decode cX11_maskOf 36 = .ok (.goto (-32), 3) := by decide +kernel
theorem dX11_maskOf_39 : decode cX11_maskOf 39 = .ok (.iload_n 1, 1) := by decide +kernel
theorem dX11_maskOf_40 : decode cX11_maskOf 40 = .ok (.ireturn, 1) := by decide +kernel
theorem dX11_reads_0 : decode cX11_reads 0 = .ok (.iload_n 2, 1) := by decide +kernel
theorem dX11_reads_1 : decode cX11_reads 1 = .ok (.bipush (-4), 2) := by decide +kernel
theorem dX11_reads_3 : decode cX11_reads 3 = .ok (.iand, 1) := by decide +kernel
theorem dX11_reads_4 : decode cX11_reads 4 = .ok (.istore 4, 2) := by decide +kernel
theorem dX11_reads_6 : decode cX11_reads 6 = .ok (.iload_n 3, 1) := by decide +kernel
theorem dX11_reads_7 : decode cX11_reads 7 = .ok (.istore 5, 2) := by decide +kernel
theorem dX11_reads_9 : decode cX11_reads 9 = .ok (.aload_n 0, 1) := by decide +kernel
theorem dX11_reads_10 : decode cX11_reads 10 = .ok (.iconst 0, 1) := by decide +kernel
theorem dX11_reads_11 : decode cX11_reads 11 = .ok (.putfield 554, 3) := by decide +kernel
theorem dX11_reads_14 : decode cX11_reads 14 = .ok (.aload_n 0, 1) := by decide +kernel
theorem dX11_reads_15 : decode cX11_reads 15 = .ok (.getfield 74, 3) := by decide +kernel
theorem dX11_reads_18 : decode cX11_reads 18 = .ok (.iload_n 1, 1) := by decide +kernel
theorem dX11_reads_19 : decode cX11_reads 19 = .ok (.iaload, 1) := by decide +kernel
theorem dX11_reads_20 : decode cX11_reads 20 = .ok (.iconst 1, 1) := by decide +kernel
theorem dX11_reads_21 : decode cX11_reads 21 = .ok (.isub, 1) := by decide +kernel
theorem dX11_reads_22 : decode cX11_reads 22 = .ok (.istore 6, 2) := by decide +kernel
theorem dX11_reads_24 : decode cX11_reads 24 = .ok (.iload 6, 2) := by decide +kernel
theorem dX11_reads_26 : decode cX11_reads 26 = .ok (.ifCond .lt 76, 3) := by decide +kernel
theorem dX11_reads_29 : decode cX11_reads 29 = .ok (.bipush 16, 2) := by decide +kernel
theorem dX11_reads_31 : decode cX11_reads 31 = .ok (.iload_n 1, 1) := by decide +kernel
theorem dX11_reads_32 : decode cX11_reads 32 = .ok (.imul, 1) := by decide +kernel
theorem dX11_reads_33 : decode cX11_reads 33 = .ok (.iload 6, 2) := by decide +kernel
theorem dX11_reads_35 : decode cX11_reads 35 = .ok (.iadd, 1) := by decide +kernel
theorem dX11_reads_36 : decode cX11_reads 36 = .ok (.istore 7, 2) := by decide +kernel
theorem dX11_reads_38 : decode cX11_reads 38 = .ok (.aload_n 0, 1) := by decide +kernel
theorem dX11_reads_39 : decode cX11_reads 39 = .ok (.getfield 77, 3) := by decide +kernel
theorem dX11_reads_42 : decode cX11_reads 42 = .ok (.iload 7, 2) := by decide +kernel
theorem dX11_reads_44 : decode cX11_reads 44 = .ok (.iaload, 1) := by decide +kernel
theorem dX11_reads_45 : decode cX11_reads 45 = .ok (.iload 4, 2) := by decide +kernel
theorem dX11_reads_47 : decode cX11_reads 47 = .ok (.if_icmp .eq 6, 3) := by decide +kernel
theorem dX11_reads_50 : decode cX11_reads 50 = .ok (.goto 46, 3) := by decide +kernel
theorem dX11_reads_53 : decode cX11_reads 53 = .ok (.iload 5, 2) := by decide +kernel
theorem dX11_reads_55 : decode cX11_reads 55 = .ok (.aload_n 0, 1) := by decide +kernel
theorem dX11_reads_56 : decode cX11_reads 56 = .ok (.getfield 80, 3) := by decide +kernel
theorem dX11_reads_59 : decode cX11_reads 59 = .ok (.iload 7, 2) := by decide +kernel
theorem dX11_reads_61 : decode cX11_reads 61 = .ok (.iaload, 1) := by decide +kernel
theorem dX11_reads_62 : decode cX11_reads 62 = .ok (.iand, 1) := by decide +kernel
theorem dX11_reads_63 : decode cX11_reads 63 = .ok (.istore 8, 2) := by decide +kernel
theorem dX11_reads_65 : decode cX11_reads 65 = .ok (.aload_n 0, 1) := by decide +kernel
theorem dX11_reads_66 : decode cX11_reads 66 = .ok (.dup, 1) := by decide +kernel
theorem dX11_reads_67 : decode cX11_reads 67 = .ok (.getfield 554, 3) := by decide +kernel
theorem dX11_reads_70 : decode cX11_reads 70 = .ok (.aload_n 0, 1) := by decide +kernel
theorem dX11_reads_71 : decode cX11_reads 71 = .ok (.getfield 83, 3) := by decide +kernel
theorem dX11_reads_74 : decode cX11_reads 74 = .ok (.iload 7, 2) := by decide +kernel
theorem dX11_reads_76 : decode cX11_reads 76 = .ok (.iaload, 1) := by decide +kernel
theorem dX11_reads_77 : decode cX11_reads 77 = .ok (.iload 8, 2) := by decide +kernel
theorem dX11_reads_79 : decode cX11_reads 79 = .ok (.invokestatic 557, 3) := by decide +kernel
theorem dX11_reads_82 : decode cX11_reads 82 = .ok (.iand, 1) := by decide +kernel
theorem dX11_reads_83 : decode cX11_reads 83 = .ok (.ior, 1) := by decide +kernel
theorem dX11_reads_84 : decode cX11_reads 84 = .ok (.putfield 554, 3) := by decide +kernel
theorem dX11_reads_87 : decode cX11_reads 87 = .ok (.iload 5, 2) := by decide +kernel
theorem dX11_reads_89 : decode cX11_reads 89 = .ok (.iload 8, 2) := by decide +kernel
theorem dX11_reads_91 : decode cX11_reads 91 = .ok (.iconst (-1), 1) := by decide +kernel
theorem dX11_reads_92 : decode cX11_reads 92 = .ok (.ixor, 1) := by decide +kernel
theorem dX11_reads_93 : decode cX11_reads 93 = .ok (.iand, 1) := by decide +kernel
theorem dX11_reads_94 : decode cX11_reads 94 = .ok (.istore 5, 2) := by decide +kernel
theorem dX11_reads_96 : decode cX11_reads 96 = .ok (.iinc 6 (-1), 3) := by decide +kernel
theorem dX11_reads_99 : decode cX11_reads 99 = .ok (.goto (-75), 3) := by decide +kernel
theorem dX11_reads_102 : decode cX11_reads 102 = .ok (.iload 5, 2) := by decide +kernel
theorem dX11_reads_104 : decode cX11_reads 104 = .ok (.ifCond .ne 5, 3) := by decide +kernel
theorem dX11_reads_107 : decode cX11_reads 107 = .ok (.iconst 1, 1) := by decide +kernel
theorem dX11_reads_108 : decode cX11_reads 108 = .ok (.ireturn, 1) := by decide +kernel
theorem dX11_reads_109 : decode cX11_reads 109 = .ok (.aload_n 0, 1) := by decide +kernel
theorem dX11_reads_110 : decode cX11_reads 110 = .ok (.iload_n 1, 1) := by decide +kernel
theorem dX11_reads_111 : decode cX11_reads 111 = .ok (.iload 4, 2) := by decide +kernel
theorem dX11_reads_113 : decode cX11_reads 113 = .ok (.bipush 16, 2) := by decide +kernel
theorem dX11_reads_115 : decode cX11_reads 115 = .ok (.idiv, 1) := by decide +kernel
theorem dX11_reads_116 : decode cX11_reads 116 = .ok (.invokevirtual 539, 3) := by decide +kernel
theorem dX11_reads_119 : decode cX11_reads 119 = .ok (.istore 6, 2) := by decide +kernel
theorem dX11_reads_121 : decode cX11_reads 121 = .ok (.iload 6, 2) := by decide +kernel
theorem dX11_reads_123 : decode cX11_reads 123 = .ok (.iconst (-1), 1) := by decide +kernel
theorem dX11_reads_124 : decode cX11_reads 124 = .ok (.if_icmp .ne 16, 3) := by decide +kernel
theorem dX11_reads_127 : decode cX11_reads 127 = .ok (.aload_n 0, 1) := by decide +kernel
theorem dX11_reads_128 : decode cX11_reads 128 = .ok (.iload_n 1, 1) := by decide +kernel
theorem dX11_reads_129 : decode cX11_reads 129 = .ok (.iload 4, 2) := by decide +kernel
theorem dX11_reads_131 : decode cX11_reads 131 = .ok (.bipush 16, 2) := by decide +kernel
theorem dX11_reads_133 : decode cX11_reads 133 = .ok (.idiv, 1) := by decide +kernel
theorem dX11_reads_134 : decode cX11_reads 134 = .ok (.iconst 1, 1) := by decide +kernel
theorem dX11_reads_135 : decode cX11_reads 135 = .ok (.invokevirtual 560, 3) := by decide +kernel
theorem dX11_reads_138 : decode cX11_reads 138 = .ok (.iconst 0, 1) := by decide +kernel
theorem dX11_reads_139 : decode cX11_reads 139 = .ok (.ireturn, 1) := by decide +kernel
theorem dX11_reads_140 : decode cX11_reads 140 = .ok (.aload_n 0, 1) := by decide +kernel
theorem dX11_reads_141 : decode cX11_reads 141 = .ok (.iload 6, 2) := by decide +kernel
theorem dX11_reads_143 : decode cX11_reads 143 = .ok (.invokevirtual 564, 3) := by decide +kernel
theorem dX11_reads_146 : decode cX11_reads 146 = .ok (.aload_n 0, 1) := by decide +kernel
theorem dX11_reads_147 : decode cX11_reads 147 = .ok (.dup, 1) := by decide +kernel
theorem dX11_reads_148 : decode cX11_reads 148 = .ok (.getfield 554, 3) := by decide +kernel
theorem dX11_reads_151 : decode cX11_reads 151 = .ok (.aload_n 0, 1) := by decide +kernel
theorem dX11_reads_152 : decode cX11_reads 152 = .ok (.getfield 53, 3) := by decide +kernel
theorem dX11_reads_155 : decode cX11_reads 155 = .ok (.iload 4, 2) := by decide +kernel
theorem dX11_reads_157 : decode cX11_reads 157 = .ok (.iconst 4, 1) := by decide +kernel
theorem dX11_reads_158 : decode cX11_reads 158 = .ok (.idiv, 1) := by decide +kernel
theorem dX11_reads_159 : decode cX11_reads 159 = .ok (.iaload, 1) := by decide +kernel
theorem dX11_reads_160 : decode cX11_reads 160 = .ok (.iload 5, 2) := by decide +kernel
theorem dX11_reads_162 : decode cX11_reads 162 = .ok (.invokestatic 557, 3) := by decide +kernel
theorem dX11_reads_165 : decode cX11_reads 165 = .ok (.iand, 1) := by decide +kernel
theorem dX11_reads_166 : decode cX11_reads 166 = .ok (.ior, 1) := by decide +kernel
theorem dX11_reads_167 : decode cX11_reads 167 = .ok (.putfield 554, 3) := by decide +kernel
theorem dX11_reads_170 : decode cX11_reads 170 = .ok (.iconst 1, 1) := by decide +kernel
theorem dX11_reads_171 : decode cX11_reads 171 = .ok (.ireturn, 1) := by decide +kernel
theorem dX11_changes_0 : decode cX11_changes 0 = .ok (.aload_n 0, 1) := by decide +kernel
theorem dX11_changes_1 : decode cX11_changes 1 = .ok (.iload_n 1, 1) := by decide +kernel
theorem dX11_changes_2 : decode cX11_changes 2 = .ok (.iload_n 2, 1) := by decide +kernel
theorem dX11_changes_3 : decode cX11_changes 3 = .ok (.bipush 16, 2) := by decide +kernel
theorem dX11_changes_5 : decode cX11_changes 5 = .ok (.idiv, 1) := by decide +kernel
theorem dX11_changes_6 : decode cX11_changes 6 = .ok (.invokevirtual 539, 3) := by decide +kernel
theorem dX11_changes_9 : decode cX11_changes 9 = .ok (.istore_n 3, 1) := by decide +kernel
theorem dX11_changes_10 : decode cX11_changes 10 = .ok (.iload_n 3, 1) := by decide +kernel
theorem dX11_changes_11 : decode cX11_changes 11 = .ok (.iconst (-1), 1) := by decide +kernel
theorem dX11_changes_12 : decode cX11_changes 12 = .ok (.if_icmp .eq 13, 3) := by decide +kernel
theorem dX11_changes_15 : decode cX11_changes 15 = .ok (.aload_n 0, 1) := by decide +kernel
theorem dX11_changes_16 : decode cX11_changes 16 = .ok (.getfield 108, 3) := by decide +kernel
theorem dX11_changes_19 : decode cX11_changes 19 = .ok (.iload_n 3, 1) := by decide +kernel
theorem dX11_changes_20 : decode cX11_changes 20 = .ok (.iaload, 1) := by decide +kernel
theorem dX11_changes_21 : decode cX11_changes 21 = .ok (.iconst 2, 1) := by decide +kernel
theorem dX11_changes_22 : decode cX11_changes 22 = .ok (.if_icmp .ge 15, 3) := by decide +kernel
theorem dX11_changes_25 : decode cX11_changes 25 = .ok (.aload_n 0, 1) := by decide +kernel
theorem dX11_changes_26 : decode cX11_changes 26 = .ok (.iload_n 1, 1) := by decide +kernel
theorem dX11_changes_27 : decode cX11_changes 27 = .ok (.iload_n 2, 1) := by decide +kernel
theorem dX11_changes_28 : decode cX11_changes 28 = .ok (.bipush 16, 2) := by decide +kernel
theorem dX11_changes_30 : decode cX11_changes 30 = .ok (.idiv, 1) := by decide +kernel
theorem dX11_changes_31 : decode cX11_changes 31 = .ok (.iconst 3, 1) := by decide +kernel
theorem dX11_changes_32 : decode cX11_changes 32 = .ok (.invokevirtual 560, 3) := by decide +kernel
theorem dX11_changes_35 : decode cX11_changes 35 = .ok (.iconst 0, 1) := by decide +kernel
theorem dX11_changes_36 : decode cX11_changes 36 = .ok (.ireturn, 1) := by decide +kernel
theorem dX11_changes_37 : decode cX11_changes 37 = .ok (.aload_n 0, 1) := by decide +kernel
theorem dX11_changes_38 : decode cX11_changes 38 = .ok (.iload_n 3, 1) := by decide +kernel
theorem dX11_changes_39 : decode cX11_changes 39 = .ok (.invokevirtual 564, 3) := by decide +kernel
theorem dX11_changes_42 : decode cX11_changes 42 = .ok (.aload_n 0, 1) := by decide +kernel
theorem dX11_changes_43 : decode cX11_changes 43 = .ok (.getfield 108, 3) := by decide +kernel
theorem dX11_changes_46 : decode cX11_changes 46 = .ok (.iload_n 3, 1) := by decide +kernel
theorem dX11_changes_47 : decode cX11_changes 47 = .ok (.iconst 3, 1) := by decide +kernel
theorem dX11_changes_48 : decode cX11_changes 48 = .ok (.iastore, 1) := by decide +kernel
theorem dX11_changes_49 : decode cX11_changes 49 = .ok (.aload_n 0, 1) := by decide +kernel
theorem dX11_changes_50 : decode cX11_changes 50 = .ok (.dup, 1) := by decide +kernel
theorem dX11_changes_51 : decode cX11_changes 51 = .ok (.getfield 325, 3) := by decide +kernel
theorem dX11_changes_54 : decode cX11_changes 54 = .ok (.iconst 1, 1) := by decide +kernel
theorem dX11_changes_55 : decode cX11_changes 55 = .ok (.iadd, 1) := by decide +kernel
theorem dX11_changes_56 : decode cX11_changes 56 = .ok (.putfield 325, 3) := by decide +kernel
theorem dX11_changes_59 : decode cX11_changes 59 = .ok (.iconst 1, 1) := by decide +kernel
theorem dX11_changes_60 : decode cX11_changes 60 = .ok (.ireturn, 1) := by decide +kernel
theorem dX11_reg_0 : decode cX11_reg 0 = .ok (.aload_n 0, 1) := by decide +kernel
theorem dX11_reg_1 : decode cX11_reg 1 = .ok (.getfield 59, 3) := by decide +kernel
theorem dX11_reg_4 : decode cX11_reg 4 = .ok (.bipush 32, 2) := by decide +kernel
theorem dX11_reg_6 : decode cX11_reg 6 = .ok (.iload_n 1, 1) := by decide +kernel
theorem dX11_reg_7 : decode cX11_reg 7 = .ok (.imul, 1) := by decide +kernel
theorem dX11_reg_8 : decode cX11_reg 8 = .ok (.iload_n 2, 1) := by decide +kernel
theorem dX11_reg_9 : decode cX11_reg 9 = .ok (.iadd, 1) := by decide +kernel
theorem dX11_reg_10 : decode cX11_reg 10 = .ok (.iaload, 1) := by decide +kernel
theorem dX11_reg_11 : decode cX11_reg 11 = .ok (.ireturn, 1) := by decide +kernel
theorem dX11_setReg_0 : decode cX11_setReg 0 = .ok (.iload_n 2, 1) := by decide +kernel
theorem dX11_setReg_1 : decode cX11_setReg 1 = .ok (.ifCond .le 15, 3) := by decide +kernel
theorem dX11_setReg_4 : decode cX11_setReg 4 = .ok (.aload_n 0, 1) := by decide +kernel
theorem dX11_setReg_5 : decode cX11_setReg 5 = .ok (.getfield 59, 3) := by decide +kernel
theorem dX11_setReg_8 : decode cX11_setReg 8 = .ok (.bipush 32, 2) := by decide +kernel
theorem dX11_setReg_10 : decode cX11_setReg 10 = .ok (.iload_n 1, 1) := by decide +kernel
theorem dX11_setReg_11 : decode cX11_setReg 11 = .ok (.imul, 1) := by decide +kernel
theorem dX11_setReg_12 : decode cX11_setReg 12 = .ok (.iload_n 2, 1) := by decide +kernel
theorem dX11_setReg_13 : decode cX11_setReg 13 = .ok (.iadd, 1) := by decide +kernel
theorem dX11_setReg_14 : decode cX11_setReg 14 = .ok (.iload_n 3, 1) := by decide +kernel
theorem dX11_setReg_15 : decode cX11_setReg 15 = .ok (.iastore, 1) := by decide +kernel
theorem dX11_setReg_16 : decode cX11_setReg 16 = .ok (.return_, 1) := by decide +kernel
theorem dX11_retire_0 : decode cX11_retire 0 = .ok (.bipush 7, 2) := by decide +kernel
theorem dX11_retire_2 : decode cX11_retire 2 = .ok (.bipush 32, 2) := by decide +kernel
theorem dX11_retire_4 : decode cX11_retire 4 = .ok (.iload_n 1, 1) := by decide +kernel
theorem dX11_retire_5 : decode cX11_retire 5 = .ok (.imul, 1) := by decide +kernel
theorem dX11_retire_6 : decode cX11_retire 6 = .ok (.aload_n 0, 1) := by decide +kernel
theorem dX11_retire_7 : decode cX11_retire 7 = .ok (.getfield 68, 3) := by decide +kernel
theorem dX11_retire_10 : decode cX11_retire 10 = .ok (.iload_n 1, 1) := by decide +kernel
theorem dX11_retire_11 : decode cX11_retire 11 = .ok (.iaload, 1) := by decide +kernel
theorem dX11_retire_12 : decode cX11_retire 12 = .ok (.bipush 32, 2) := by decide +kernel
theorem dX11_retire_14 : decode cX11_retire 14 = .ok (.irem, 1) := by decide +kernel
theorem dX11_retire_15 : decode cX11_retire 15 = .ok (.iadd, 1) := by decide +kernel
theorem dX11_retire_16 : decode cX11_retire 16 = .ok (.imul, 1) := by decide +kernel
theorem dX11_retire_17 : decode cX11_retire 17 = .ok (.istore_n 3, 1) := by decide +kernel
theorem dX11_retire_18 : decode cX11_retire 18 = .ok (.aload_n 0, 1) := by decide +kernel
theorem dX11_retire_19 : decode cX11_retire 19 = .ok (.getfield 102, 3) := by decide +kernel
theorem dX11_retire_22 : decode cX11_retire 22 = .ok (.iload_n 3, 1) := by decide +kernel
theorem dX11_retire_23 : decode cX11_retire 23 = .ok (.aload_n 0, 1) := by decide +kernel
theorem dX11_retire_24 : decode cX11_retire 24 = .ok (.getfield 62, 3) := by decide +kernel
theorem dX11_retire_27 : decode cX11_retire 27 = .ok (.iload_n 1, 1) := by decide +kernel
theorem dX11_retire_28 : decode cX11_retire 28 = .ok (.iaload, 1) := by decide +kernel
theorem dX11_retire_29 : decode cX11_retire 29 = .ok (.iastore, 1) := by decide +kernel
theorem dX11_retire_30 : decode cX11_retire 30 = .ok (.aload_n 0, 1) := by decide +kernel
theorem dX11_retire_31 : decode cX11_retire 31 = .ok (.getfield 102, 3) := by decide +kernel
theorem dX11_retire_34 : decode cX11_retire 34 = .ok (.iload_n 3, 1) := by decide +kernel
theorem dX11_retire_35 : decode cX11_retire 35 = .ok (.iconst 1, 1) := by decide +kernel
theorem dX11_retire_36 : decode cX11_retire 36 = .ok (.iadd, 1) := by decide +kernel
theorem dX11_retire_37 : decode cX11_retire 37 = .ok (.aload_n 0, 1) := by decide +kernel
theorem dX11_retire_38 : decode cX11_retire 38 = .ok (.getfield 567, 3) := by decide +kernel
theorem dX11_retire_41 : decode cX11_retire 41 = .ok (.iastore, 1) := by decide +kernel
theorem dX11_retire_42 : decode cX11_retire 42 = .ok (.aload_n 0, 1) := by decide +kernel
theorem dX11_retire_43 : decode cX11_retire 43 = .ok (.getfield 102, 3) := by decide +kernel
theorem dX11_retire_46 : decode cX11_retire 46 = .ok (.iload_n 3, 1) := by decide +kernel
theorem dX11_retire_47 : decode cX11_retire 47 = .ok (.iconst 2, 1) := by decide +kernel
theorem dX11_retire_48 : decode cX11_retire 48 = .ok (.iadd, 1) := by decide +kernel
theorem dX11_retire_49 : decode cX11_retire 49 = .ok (.aload_n 0, 1) := by decide +kernel
theorem dX11_retire_50 : decode cX11_retire 50 = .ok (.getfield 570, 3) := by decide +kernel
theorem dX11_retire_53 : decode cX11_retire 53 = .ok (.iastore, 1) := by decide +kernel
theorem dX11_retire_54 : decode cX11_retire 54 = .ok (.aload_n 0, 1) := by decide +kernel
theorem dX11_retire_55 : decode cX11_retire 55 = .ok (.getfield 102, 3) := by decide +kernel
theorem dX11_retire_58 : decode cX11_retire 58 = .ok (.iload_n 3, 1) := by decide +kernel
theorem dX11_retire_59 : decode cX11_retire 59 = .ok (.iconst 3, 1) := by decide +kernel
theorem dX11_retire_60 : decode cX11_retire 60 = .ok (.iadd, 1) := by decide +kernel
theorem dX11_retire_61 : decode cX11_retire 61 = .ok (.aload_n 0, 1) := by decide +kernel
theorem dX11_retire_62 : decode cX11_retire 62 = .ok (.iload_n 1, 1) := by decide +kernel
theorem dX11_retire_63 : decode cX11_retire 63 = .ok (.aload_n 0, 1) := by decide +kernel
theorem dX11_retire_64 : decode cX11_retire 64 = .ok (.getfield 570, 3) := by decide +kernel
theorem dX11_retire_67 : decode cX11_retire 67 = .ok (.invokevirtual 573, 3) := by decide +kernel
theorem dX11_retire_70 : decode cX11_retire 70 = .ok (.iastore, 1) := by decide +kernel
theorem dX11_retire_71 : decode cX11_retire 71 = .ok (.aload_n 0, 1) := by decide +kernel
theorem dX11_retire_72 : decode cX11_retire 72 = .ok (.getfield 102, 3) := by decide +kernel
theorem dX11_retire_75 : decode cX11_retire 75 = .ok (.iload_n 3, 1) := by decide +kernel
theorem dX11_retire_76 : decode cX11_retire 76 = .ok (.iconst 4, 1) := by decide +kernel
theorem dX11_retire_77 : decode cX11_retire 77 = .ok (.iadd, 1) := by decide +kernel
theorem dX11_retire_78 : decode cX11_retire 78 = .ok (.aload_n 0, 1) := by decide +kernel
theorem dX11_retire_79 : decode cX11_retire 79 = .ok (.getfield 576, 3) := by decide +kernel
theorem dX11_retire_82 : decode cX11_retire 82 = .ok (.iastore, 1) := by decide +kernel
theorem dX11_retire_83 : decode cX11_retire 83 = .ok (.aload_n 0, 1) := by decide +kernel
theorem dX11_retire_84 : decode cX11_retire 84 = .ok (.getfield 102, 3) := by decide +kernel
theorem dX11_retire_87 : decode cX11_retire 87 = .ok (.iload_n 3, 1) := by decide +kernel
theorem dX11_retire_88 : decode cX11_retire 88 = .ok (.iconst 5, 1) := by decide +kernel
theorem dX11_retire_89 : decode cX11_retire 89 = .ok (.iadd, 1) := by decide +kernel
theorem dX11_retire_90 : decode cX11_retire 90 = .ok (.aload_n 0, 1) := by decide +kernel
theorem dX11_retire_91 : decode cX11_retire 91 = .ok (.getfield 579, 3) := by decide +kernel
theorem dX11_retire_94 : decode cX11_retire 94 = .ok (.iastore, 1) := by decide +kernel
theorem dX11_retire_95 : decode cX11_retire 95 = .ok (.aload_n 0, 1) := by decide +kernel
theorem dX11_retire_96 : decode cX11_retire 96 = .ok (.getfield 102, 3) := by decide +kernel
theorem dX11_retire_99 : decode cX11_retire 99 = .ok (.iload_n 3, 1) := by decide +kernel
theorem dX11_retire_100 : decode cX11_retire 100 = .ok (.bipush 6, 2) := by decide +kernel
theorem dX11_retire_102 : decode cX11_retire 102 = .ok (.iadd, 1) := by decide +kernel
theorem dX11_retire_103 : decode cX11_retire 103 = .ok (.aload_n 0, 1) := by decide +kernel
theorem dX11_retire_104 : decode cX11_retire 104 = .ok (.getfield 582, 3) := by decide +kernel
theorem dX11_retire_107 : decode cX11_retire 107 = .ok (.iastore, 1) := by decide +kernel
theorem dX11_retire_108 : decode cX11_retire 108 = .ok (.aload_n 0, 1) := by decide +kernel
theorem dX11_retire_109 : decode cX11_retire 109 = .ok (.getfield 62, 3) := by decide +kernel
theorem dX11_retire_112 : decode cX11_retire 112 = .ok (.iload_n 1, 1) := by decide +kernel
theorem dX11_retire_113 : decode cX11_retire 113 = .ok (.iload_n 2, 1) := by decide +kernel
theorem dX11_retire_114 : decode cX11_retire 114 = .ok (.sipush 8191, 3) := by decide +kernel
theorem dX11_retire_117 : decode cX11_retire 117 = .ok (.iand, 1) := by decide +kernel
theorem dX11_retire_118 : decode cX11_retire 118 = .ok (.iastore, 1) := by decide +kernel
theorem dX11_retire_119 : decode cX11_retire 119 = .ok (.aload_n 0, 1) := by decide +kernel
theorem dX11_retire_120 : decode cX11_retire 120 = .ok (.getfield 68, 3) := by decide +kernel
theorem dX11_retire_123 : decode cX11_retire 123 = .ok (.iload_n 1, 1) := by decide +kernel
theorem dX11_retire_124 : decode cX11_retire 124 = .ok (.dup2, 1) := by decide +kernel
theorem dX11_retire_125 : decode cX11_retire 125 = .ok (.iaload, 1) := by decide +kernel
theorem dX11_retire_126 : decode cX11_retire 126 = .ok (.iconst 1, 1) := by decide +kernel
theorem dX11_retire_127 : decode cX11_retire 127 = .ok (.iadd, 1) := by decide +kernel
theorem dX11_retire_128 : decode cX11_retire 128 = .ok (.iastore, 1) := by decide +kernel
theorem dX11_retire_129 : decode cX11_retire 129 = .ok (.aload_n 0, 1) := by decide +kernel
theorem dX11_retire_130 : decode cX11_retire 130 = .ok (.getfield 96, 3) := by decide +kernel
theorem dX11_retire_133 : decode cX11_retire 133 = .ok (.iload_n 1, 1) := by decide +kernel
theorem dX11_retire_134 : decode cX11_retire 134 = .ok (.iconst 0, 1) := by decide +kernel
theorem dX11_retire_135 : decode cX11_retire 135 = .ok (.iastore, 1) := by decide +kernel
theorem dX11_retire_136 : decode cX11_retire 136 = .ok (.aload_n 0, 1) := by decide +kernel
theorem dX11_retire_137 : decode cX11_retire 137 = .ok (.dup, 1) := by decide +kernel
theorem dX11_retire_138 : decode cX11_retire 138 = .ok (.getfield 319, 3) := by decide +kernel
theorem dX11_retire_141 : decode cX11_retire 141 = .ok (.iconst 1, 1) := by decide +kernel
theorem dX11_retire_142 : decode cX11_retire 142 = .ok (.iadd, 1) := by decide +kernel
theorem dX11_retire_143 : decode cX11_retire 143 = .ok (.putfield 319, 3) := by decide +kernel
theorem dX11_retire_146 : decode cX11_retire 146 = .ok (.iconst 1, 1) := by decide +kernel
theorem dX11_retire_147 : decode cX11_retire 147 = .ok (.ireturn, 1) := by decide +kernel
theorem dX11_stops_0 : decode cX11_stops 0 = .ok (.aload_n 0, 1) := by decide +kernel
theorem dX11_stops_1 : decode cX11_stops 1 = .ok (.getfield 65, 3) := by decide +kernel
theorem dX11_stops_4 : decode cX11_stops 4 = .ok (.iload_n 1, 1) := by decide +kernel
theorem dX11_stops_5 : decode cX11_stops 5 = .ok (.iload_n 2, 1) := by decide +kernel
theorem dX11_stops_6 : decode cX11_stops 6 = .ok (.iastore, 1) := by decide +kernel
theorem dX11_stops_7 : decode cX11_stops 7 = .ok (.aload_n 0, 1) := by decide +kernel
theorem dX11_stops_8 : decode cX11_stops 8 = .ok (.iconst 0, 1) := by decide +kernel
theorem dX11_stops_9 : decode cX11_stops 9 = .ok (.putfield 570, 3) := by decide +kernel
theorem dX11_stops_12 : decode cX11_stops 12 = .ok (.aload_n 0, 1) := by decide +kernel
theorem dX11_stops_13 : decode cX11_stops 13 = .ok (.iconst (-1), 1) := by decide +kernel
theorem dX11_stops_14 : decode cX11_stops 14 = .ok (.putfield 576, 3) := by decide +kernel
theorem dX11_stops_17 : decode cX11_stops 17 = .ok (.aload_n 0, 1) := by decide +kernel
theorem dX11_stops_18 : decode cX11_stops 18 = .ok (.iload_n 1, 1) := by decide +kernel
theorem dX11_stops_19 : decode cX11_stops 19 = .ok (.aload_n 0, 1) := by decide +kernel
theorem dX11_stops_20 : decode cX11_stops 20 = .ok (.getfield 62, 3) := by decide +kernel
theorem dX11_stops_23 : decode cX11_stops 23 = .ok (.iload_n 1, 1) := by decide +kernel
theorem dX11_stops_24 : decode cX11_stops 24 = .ok (.iaload, 1) := by decide +kernel
theorem dX11_stops_25 : decode cX11_stops 25 = .ok (.invokevirtual 585, 3) := by decide +kernel
theorem dX11_stops_28 : decode cX11_stops 28 = .ok (.ireturn, 1) := by decide +kernel
theorem dX11_isLessPlain_0 : decode cX11_isLessPlain 0 = .ok (.iload_n 0, 1) := by decide +kernel
theorem dX11_isLessPlain_1 : decode cX11_isLessPlain 1 = .ok (.ldc_w 588, 3) := by decide +kernel
theorem dX11_isLessPlain_4 : decode cX11_isLessPlain 4 = .ok (.ixor, 1) := by decide +kernel
theorem dX11_isLessPlain_5 : decode cX11_isLessPlain 5 = .ok (.iload_n 1, 1) := by decide +kernel
theorem dX11_isLessPlain_6 : decode cX11_isLessPlain 6 = .ok (.ldc_w 588, 3) := by decide +kernel
theorem dX11_isLessPlain_9 : decode cX11_isLessPlain 9 = .ok (.ixor, 1) := by decide +kernel
theorem dX11_isLessPlain_10 : decode cX11_isLessPlain 10 = .ok (.if_icmp .ge 7, 3) := by decide +kernel
theorem dX11_isLessPlain_13 : decode cX11_isLessPlain 13 = .ok (.iconst 1, 1) := by decide +kernel
theorem dX11_isLessPlain_14 : decode cX11_isLessPlain 14 = .ok (.goto 4, 3) := by decide +kernel
theorem dX11_isLessPlain_17 : decode cX11_isLessPlain 17 = .ok (.iconst 0, 1) := by decide +kernel
theorem dX11_isLessPlain_18 : decode cX11_isLessPlain 18 = .ok (.ireturn, 1) := by decide +kernel
theorem dX11_stepOf_0 : decode cX11_stepOf 0 = .ok (.aload_n 0, 1) := by decide +kernel
theorem dX11_stepOf_1 : decode cX11_stepOf 1 = .ok (.getfield 65, 3) := by decide +kernel
theorem dX11_stepOf_4 : decode cX11_stepOf 4 = .ok (.iload_n 1, 1) := by decide +kernel
theorem dX11_stepOf_5 : decode cX11_stepOf 5 = .ok (.iaload, 1) := by decide +kernel
theorem dX11_stepOf_6 : decode cX11_stepOf 6 = .ok (.ifCond .le 5, 3) := by decide +kernel
theorem dX11_stepOf_9 : decode cX11_stepOf 9 = .ok (.iconst 0, 1) := by decide +kernel
theorem dX11_stepOf_10 : decode cX11_stepOf 10 = .ok (.ireturn, 1) := by decide +kernel
theorem dX11_stepOf_11 : decode cX11_stepOf 11 = .ok (.aload_n 0, 1) := by decide +kernel
theorem dX11_stepOf_12 : decode cX11_stepOf 12 = .ok (.getfield 62, 3) := by decide +kernel
theorem dX11_stepOf_15 : decode cX11_stepOf 15 = .ok (.iload_n 1, 1) := by decide +kernel
theorem dX11_stepOf_16 : decode cX11_stepOf 16 = .ok (.iaload, 1) := by decide +kernel
theorem dX11_stepOf_17 : decode cX11_stepOf 17 = .ok (.iconst 4, 1) := by decide +kernel
theorem dX11_stepOf_18 : decode cX11_stepOf 18 = .ok (.irem, 1) := by decide +kernel
theorem dX11_stepOf_19 : decode cX11_stepOf 19 = .ok (.ifCond .eq 12, 3) := by decide +kernel
theorem dX11_stepOf_22 : decode cX11_stepOf 22 = .ok (.aload_n 0, 1) := by decide +kernel
theorem dX11_stepOf_23 : decode cX11_stepOf 23 = .ok (.getfield 65, 3) := by decide +kernel
theorem dX11_stepOf_26 : decode cX11_stepOf 26 = .ok (.iload_n 1, 1) := by decide +kernel
theorem dX11_stepOf_27 : decode cX11_stepOf 27 = .ok (.iconst 3, 1) := by decide +kernel
theorem dX11_stepOf_28 : decode cX11_stepOf 28 = .ok (.iastore, 1) := by decide +kernel
theorem dX11_stepOf_29 : decode cX11_stepOf 29 = .ok (.iconst 1, 1) := by decide +kernel
theorem dX11_stepOf_30 : decode cX11_stepOf 30 = .ok (.ireturn, 1) := by decide +kernel
theorem dX11_stepOf_31 : decode cX11_stepOf 31 = .ok (.aload_n 0, 1) := by decide +kernel
theorem dX11_stepOf_32 : decode cX11_stepOf 32 = .ok (.iload_n 1, 1) := by decide +kernel
theorem dX11_stepOf_33 : decode cX11_stepOf 33 = .ok (.aload_n 0, 1) := by decide +kernel
theorem dX11_stepOf_34 : decode cX11_stepOf 34 = .ok (.getfield 62, 3) := by decide +kernel
theorem dX11_stepOf_37 : decode cX11_stepOf 37 = .ok (.iload_n 1, 1) := by decide +kernel
theorem dX11_stepOf_38 : decode cX11_stepOf 38 = .ok (.iaload, 1) := by decide +kernel
theorem dX11_stepOf_39 : decode cX11_stepOf 39 = .ok (.bipush 15, 2) := by decide +kernel
theorem dX11_stepOf_41 : decode cX11_stepOf 41 = .ok (.invokevirtual 589, 3) := by decide +kernel
theorem dX11_stepOf_44 : decode cX11_stepOf 44 = .ok (.ifCond .ne 5, 3) := by decide +kernel
theorem dX11_stepOf_47 : decode cX11_stepOf 47 = .ok (.iconst 2, 1) := by decide +kernel
theorem dX11_stepOf_48 : decode cX11_stepOf 48 = .ok (.ireturn, 1) := by decide +kernel
theorem dX11_stepOf_49 : decode cX11_stepOf 49 = .ok (.aload_n 0, 1) := by decide +kernel
theorem dX11_stepOf_50 : decode cX11_stepOf 50 = .ok (.getfield 554, 3) := by decide +kernel
theorem dX11_stepOf_53 : decode cX11_stepOf 53 = .ok (.istore_n 2, 1) := by decide +kernel
theorem dX11_stepOf_54 : decode cX11_stepOf 54 = .ok (.iload_n 2, 1) := by decide +kernel
theorem dX11_stepOf_55 : decode cX11_stepOf 55 = .ok (.bipush 12, 2) := by decide +kernel
theorem dX11_stepOf_57 : decode cX11_stepOf 57 = .ok (.ishr, 1) := by decide +kernel
theorem dX11_stepOf_58 : decode cX11_stepOf 58 = .ok (.bipush 7, 2) := by decide +kernel
theorem dX11_stepOf_60 : decode cX11_stepOf 60 = .ok (.iand, 1) := by decide +kernel
theorem dX11_stepOf_61 : decode cX11_stepOf 61 = .ok (.istore_n 3, 1) := by decide +kernel
theorem dX11_stepOf_62 : decode cX11_stepOf 62 = .ok (.iload_n 2, 1) := by decide +kernel
theorem dX11_stepOf_63 : decode cX11_stepOf 63 = .ok (.bipush 7, 2) := by decide +kernel
theorem dX11_stepOf_65 : decode cX11_stepOf 65 = .ok (.ishr, 1) := by decide +kernel
theorem dX11_stepOf_66 : decode cX11_stepOf 66 = .ok (.bipush 31, 2) := by decide +kernel
theorem dX11_stepOf_68 : decode cX11_stepOf 68 = .ok (.iand, 1) := by decide +kernel
theorem dX11_stepOf_69 : decode cX11_stepOf 69 = .ok (.istore 4, 2) := by decide +kernel
theorem dX11_stepOf_71 : decode cX11_stepOf 71 = .ok (.aload_n 0, 1) := by decide +kernel
theorem dX11_stepOf_72 : decode cX11_stepOf 72 = .ok (.iload_n 2, 1) := by decide +kernel
theorem dX11_stepOf_73 : decode cX11_stepOf 73 = .ok (.putfield 567, 3) := by decide +kernel
theorem dX11_stepOf_76 : decode cX11_stepOf 76 = .ok (.aload_n 0, 1) := by decide +kernel
theorem dX11_stepOf_77 : decode cX11_stepOf 77 = .ok (.iload 4, 2) := by decide +kernel
theorem dX11_stepOf_79 : decode cX11_stepOf 79 = .ok (.putfield 570, 3) := by decide +kernel
theorem dX11_stepOf_82 : decode cX11_stepOf 82 = .ok (.aload_n 0, 1) := by decide +kernel
theorem dX11_stepOf_83 : decode cX11_stepOf 83 = .ok (.iconst (-1), 1) := by decide +kernel
theorem dX11_stepOf_84 : decode cX11_stepOf 84 = .ok (.putfield 576, 3) := by decide +kernel
theorem dX11_stepOf_87 : decode cX11_stepOf 87 = .ok (.aload_n 0, 1) := by decide +kernel
theorem dX11_stepOf_88 : decode cX11_stepOf 88 = .ok (.iconst 0, 1) := by decide +kernel
theorem dX11_stepOf_89 : decode cX11_stepOf 89 = .ok (.putfield 579, 3) := by decide +kernel
theorem dX11_stepOf_92 : decode cX11_stepOf 92 = .ok (.aload_n 0, 1) := by decide +kernel
theorem dX11_stepOf_93 : decode cX11_stepOf 93 = .ok (.iconst 0, 1) := by decide +kernel
theorem dX11_stepOf_94 : decode cX11_stepOf 94 = .ok (.putfield 582, 3) := by decide +kernel
theorem dX11_stepOf_97 : decode cX11_stepOf 97 = .ok (.aload_n 0, 1) := by decide +kernel
theorem dX11_stepOf_98 : decode cX11_stepOf 98 = .ok (.iload_n 1, 1) := by decide +kernel
theorem dX11_stepOf_99 : decode cX11_stepOf 99 = .ok (.iload_n 2, 1) := by decide +kernel
theorem dX11_stepOf_100 : decode cX11_stepOf 100 = .ok (.bipush 15, 2) := by decide +kernel
theorem dX11_stepOf_102 : decode cX11_stepOf 102 = .ok (.ishr, 1) := by decide +kernel
theorem dX11_stepOf_103 : decode cX11_stepOf 103 = .ok (.bipush 31, 2) := by decide +kernel
theorem dX11_stepOf_105 : decode cX11_stepOf 105 = .ok (.iand, 1) := by decide +kernel
theorem dX11_stepOf_106 : decode cX11_stepOf 106 = .ok (.invokevirtual 573, 3) := by decide +kernel
theorem dX11_stepOf_109 : decode cX11_stepOf 109 = .ok (.istore 5, 2) := by decide +kernel
theorem dX11_stepOf_111 : decode cX11_stepOf 111 = .ok (.aload_n 0, 1) := by decide +kernel
theorem dX11_stepOf_112 : decode cX11_stepOf 112 = .ok (.iload_n 1, 1) := by decide +kernel
theorem dX11_stepOf_113 : decode cX11_stepOf 113 = .ok (.iload_n 2, 1) := by decide +kernel
theorem dX11_stepOf_114 : decode cX11_stepOf 114 = .ok (.bipush 20, 2) := by decide +kernel
theorem dX11_stepOf_116 : decode cX11_stepOf 116 = .ok (.ishr, 1) := by decide +kernel
theorem dX11_stepOf_117 : decode cX11_stepOf 117 = .ok (.bipush 31, 2) := by decide +kernel
theorem dX11_stepOf_119 : decode cX11_stepOf 119 = .ok (.iand, 1) := by decide +kernel
theorem dX11_stepOf_120 : decode cX11_stepOf 120 = .ok (.invokevirtual 573, 3) := by decide +kernel
theorem dX11_stepOf_123 : decode cX11_stepOf 123 = .ok (.istore 6, 2) := by decide +kernel
theorem dX11_stepOf_125 : decode cX11_stepOf 125 = .ok (.aload_n 0, 1) := by decide +kernel
theorem dX11_stepOf_126 : decode cX11_stepOf 126 = .ok (.getfield 62, 3) := by decide +kernel
theorem dX11_stepOf_129 : decode cX11_stepOf 129 = .ok (.iload_n 1, 1) := by decide +kernel
theorem dX11_stepOf_130 : decode cX11_stepOf 130 = .ok (.iaload, 1) := by decide +kernel
theorem dX11_stepOf_131 : decode cX11_stepOf 131 = .ok (.istore 7, 2) := by decide +kernel
theorem dX11_stepOf_133 : decode cX11_stepOf 133 = .ok (.iload_n 2, 1) := by decide +kernel
theorem dX11_stepOf_134 : decode cX11_stepOf 134 = .ok (.bipush 127, 2) := by decide +kernel
theorem dX11_stepOf_136 : decode cX11_stepOf 136 = .ok (.iand, 1) := by decide +kernel
theorem dX11_stepOf_137 : decode cX11_stepOf 137 = .ok (.lookupswitch 374 #[(3, 250), (15, 320), (19, 292), (23, 122), (35, 266), (47, 306), (51, 292), (55, 107), (99, 238), (103, 200), (111, 140), (115, 350)], 107) := by decide +kernel
theorem dX11_stepOf_244 : decode cX11_stepOf 244 = .ok (.aload_n 0, 1) := by decide +kernel
theorem dX11_stepOf_245 : decode cX11_stepOf 245 = .ok (.iload_n 1, 1) := by decide +kernel
theorem dX11_stepOf_246 : decode cX11_stepOf 246 = .ok (.iload 4, 2) := by decide +kernel
theorem dX11_stepOf_248 : decode cX11_stepOf 248 = .ok (.iload_n 2, 1) := by decide +kernel
theorem dX11_stepOf_249 : decode cX11_stepOf 249 = .ok (.sipush (-4096), 3) := by decide +kernel
theorem dX11_stepOf_252 : decode cX11_stepOf 252 = .ok (.iand, 1) := by decide +kernel
theorem dX11_stepOf_253 : decode cX11_stepOf 253 = .ok (.invokevirtual 593, 3) := by decide +kernel
theorem dX11_stepOf_256 : decode cX11_stepOf 256 = .ok (.goto 262, 3) := by decide +kernel
theorem dX11_stepOf_259 : decode cX11_stepOf 259 = .ok (.aload_n 0, 1) := by decide +kernel
theorem dX11_stepOf_260 : decode cX11_stepOf 260 = .ok (.iload_n 1, 1) := by decide +kernel
theorem dX11_stepOf_261 : decode cX11_stepOf 261 = .ok (.iload 4, 2) := by decide +kernel
theorem dX11_stepOf_263 : decode cX11_stepOf 263 = .ok (.iload 7, 2) := by decide +kernel
theorem dX11_stepOf_265 : decode cX11_stepOf 265 = .ok (.iload_n 2, 1) := by decide +kernel
theorem dX11_stepOf_266 : decode cX11_stepOf 266 = .ok (.sipush (-4096), 3) := by decide +kernel
theorem dX11_stepOf_269 : decode cX11_stepOf 269 = .ok (.iand, 1) := by decide +kernel
theorem dX11_stepOf_270 : decode cX11_stepOf 270 = .ok (.iadd, 1) := by decide +kernel
theorem dX11_stepOf_271 : decode cX11_stepOf 271 = .ok (.invokevirtual 593, 3) := by decide +kernel
theorem dX11_stepOf_274 : decode cX11_stepOf 274 = .ok (.goto 244, 3) := by decide +kernel
theorem dX11_stepOf_277 : decode cX11_stepOf 277 = .ok (.aload_n 0, 1) := by decide +kernel
theorem dX11_stepOf_278 : decode cX11_stepOf 278 = .ok (.iload_n 1, 1) := by decide +kernel
theorem dX11_stepOf_279 : decode cX11_stepOf 279 = .ok (.iload 4, 2) := by decide +kernel
theorem dX11_stepOf_281 : decode cX11_stepOf 281 = .ok (.iload 7, 2) := by decide +kernel
theorem dX11_stepOf_283 : decode cX11_stepOf 283 = .ok (.iconst 4, 1) := by decide +kernel
theorem dX11_stepOf_284 : decode cX11_stepOf 284 = .ok (.iadd, 1) := by decide +kernel
theorem dX11_stepOf_285 : decode cX11_stepOf 285 = .ok (.invokevirtual 593, 3) := by decide +kernel
theorem dX11_stepOf_288 : decode cX11_stepOf 288 = .ok (.aload_n 0, 1) := by decide +kernel
theorem dX11_stepOf_289 : decode cX11_stepOf 289 = .ok (.iload_n 1, 1) := by decide +kernel
theorem dX11_stepOf_290 : decode cX11_stepOf 290 = .ok (.iload 7, 2) := by decide +kernel
theorem dX11_stepOf_292 : decode cX11_stepOf 292 = .ok (.iload_n 2, 1) := by decide +kernel
theorem dX11_stepOf_293 : decode cX11_stepOf 293 = .ok (.bipush 31, 2) := by decide +kernel
theorem dX11_stepOf_295 : decode cX11_stepOf 295 = .ok (.ishr, 1) := by decide +kernel
theorem dX11_stepOf_296 : decode cX11_stepOf 296 = .ok (.bipush 20, 2) := by decide +kernel
theorem dX11_stepOf_298 : decode cX11_stepOf 298 = .ok (.ishl, 1) := by decide +kernel
theorem dX11_stepOf_299 : decode cX11_stepOf 299 = .ok (.iload_n 2, 1) := by decide +kernel
theorem dX11_stepOf_300 : decode cX11_stepOf 300 = .ok (.bipush 12, 2) := by decide +kernel
theorem dX11_stepOf_302 : decode cX11_stepOf 302 = .ok (.ishr, 1) := by decide +kernel
theorem dX11_stepOf_303 : decode cX11_stepOf 303 = .ok (.sipush 255, 3) := by decide +kernel
theorem dX11_stepOf_306 : decode cX11_stepOf 306 = .ok (.iand, 1) := by decide +kernel
theorem dX11_stepOf_307 : decode cX11_stepOf 307 = .ok (.bipush 12, 2) := by decide +kernel
theorem dX11_stepOf_309 : decode cX11_stepOf 309 = .ok (.ishl, 1) := by decide +kernel
theorem dX11_stepOf_310 : decode cX11_stepOf 310 = .ok (.ior, 1) := by decide +kernel
theorem dX11_stepOf_311 : decode cX11_stepOf 311 = .ok (.iload_n 2, 1) := by decide +kernel
theorem dX11_stepOf_312 : decode cX11_stepOf 312 = .ok (.bipush 20, 2) := by decide +kernel
theorem dX11_stepOf_314 : decode cX11_stepOf 314 = .ok (.ishr, 1) := by decide +kernel
theorem dX11_stepOf_315 : decode cX11_stepOf 315 = .ok (.iconst 1, 1) := by decide +kernel
theorem dX11_stepOf_316 : decode cX11_stepOf 316 = .ok (.iand, 1) := by decide +kernel
theorem dX11_stepOf_317 : decode cX11_stepOf 317 = .ok (.bipush 11, 2) := by decide +kernel
theorem dX11_stepOf_319 : decode cX11_stepOf 319 = .ok (.ishl, 1) := by decide +kernel
theorem dX11_stepOf_320 : decode cX11_stepOf 320 = .ok (.ior, 1) := by decide +kernel
theorem dX11_stepOf_321 : decode cX11_stepOf 321 = .ok (.iload_n 2, 1) := by decide +kernel
theorem dX11_stepOf_322 : decode cX11_stepOf 322 = .ok (.bipush 21, 2) := by decide +kernel
theorem dX11_stepOf_324 : decode cX11_stepOf 324 = .ok (.ishr, 1) := by decide +kernel
theorem dX11_stepOf_325 : decode cX11_stepOf 325 = .ok (.sipush 1023, 3) := by decide +kernel
theorem dX11_stepOf_328 : decode cX11_stepOf 328 = .ok (.iand, 1) := by decide +kernel
theorem dX11_stepOf_329 : decode cX11_stepOf 329 = .ok (.iconst 1, 1) := by decide +kernel
theorem dX11_stepOf_330 : decode cX11_stepOf 330 = .ok (.ishl, 1) := by decide +kernel
theorem dX11_stepOf_331 : decode cX11_stepOf 331 = .ok (.ior, 1) := by decide +kernel
theorem dX11_stepOf_332 : decode cX11_stepOf 332 = .ok (.iadd, 1) := by decide +kernel
theorem dX11_stepOf_333 : decode cX11_stepOf 333 = .ok (.invokevirtual 585, 3) := by decide +kernel
theorem dX11_stepOf_336 : decode cX11_stepOf 336 = .ok (.ireturn, 1) := by decide +kernel
theorem dX11_stepOf_337 : decode cX11_stepOf 337 = .ok (.iload_n 3, 1) := by decide +kernel
theorem dX11_stepOf_338 : decode cX11_stepOf 338 = .ok (.ifCond .eq 10, 3) := by decide +kernel
theorem dX11_stepOf_341 : decode cX11_stepOf 341 = .ok (.aload_n 0, 1) := by decide +kernel
theorem dX11_stepOf_342 : decode cX11_stepOf 342 = .ok (.iload_n 1, 1) := by decide +kernel
theorem dX11_stepOf_343 : decode cX11_stepOf 343 = .ok (.iconst 2, 1) := by decide +kernel
theorem dX11_stepOf_344 : decode cX11_stepOf 344 = .ok (.invokevirtual 596, 3) := by decide +kernel
theorem dX11_stepOf_347 : decode cX11_stepOf 347 = .ok (.ireturn, 1) := by decide +kernel
theorem dX11_stepOf_348 : decode cX11_stepOf 348 = .ok (.aload_n 0, 1) := by decide +kernel
theorem dX11_stepOf_349 : decode cX11_stepOf 349 = .ok (.iload_n 1, 1) := by decide +kernel
theorem dX11_stepOf_350 : decode cX11_stepOf 350 = .ok (.iload 4, 2) := by decide +kernel
theorem dX11_stepOf_352 : decode cX11_stepOf 352 = .ok (.iload 7, 2) := by decide +kernel
theorem dX11_stepOf_354 : decode cX11_stepOf 354 = .ok (.iconst 4, 1) := by decide +kernel
theorem dX11_stepOf_355 : decode cX11_stepOf 355 = .ok (.iadd, 1) := by decide +kernel
theorem dX11_stepOf_356 : decode cX11_stepOf 356 = .ok (.invokevirtual 593, 3) := by decide +kernel
theorem dX11_stepOf_359 : decode cX11_stepOf 359 = .ok (.aload_n 0, 1) := by decide +kernel
theorem dX11_stepOf_360 : decode cX11_stepOf 360 = .ok (.iload_n 1, 1) := by decide +kernel
theorem dX11_stepOf_361 : decode cX11_stepOf 361 = .ok (.iload 5, 2) := by decide +kernel
theorem dX11_stepOf_363 : decode cX11_stepOf 363 = .ok (.iload_n 2, 1) := by decide +kernel
theorem dX11_stepOf_364 : decode cX11_stepOf 364 = .ok (.bipush 20, 2) := by decide +kernel
theorem dX11_stepOf_366 : decode cX11_stepOf 366 = .ok (.ishr, 1) := by decide +kernel
theorem dX11_stepOf_367 : decode cX11_stepOf 367 = .ok (.iadd, 1) := by decide +kernel
theorem dX11_stepOf_368 : decode cX11_stepOf 368 = .ok (.bipush (-2), 2) := by decide +kernel
theorem dX11_stepOf_370 : decode cX11_stepOf 370 = .ok (.iand, 1) := by decide +kernel
theorem dX11_stepOf_371 : decode cX11_stepOf 371 = .ok (.invokevirtual 585, 3) := by decide +kernel
theorem dX11_stepOf_374 : decode cX11_stepOf 374 = .ok (.ireturn, 1) := by decide +kernel
theorem dX11_stepOf_375 : decode cX11_stepOf 375 = .ok (.aload_n 0, 1) := by decide +kernel
theorem dX11_stepOf_376 : decode cX11_stepOf 376 = .ok (.iload_n 1, 1) := by decide +kernel
theorem dX11_stepOf_377 : decode cX11_stepOf 377 = .ok (.iload_n 2, 1) := by decide +kernel
theorem dX11_stepOf_378 : decode cX11_stepOf 378 = .ok (.iload_n 3, 1) := by decide +kernel
theorem dX11_stepOf_379 : decode cX11_stepOf 379 = .ok (.iload 5, 2) := by decide +kernel
theorem dX11_stepOf_381 : decode cX11_stepOf 381 = .ok (.iload 6, 2) := by decide +kernel
theorem dX11_stepOf_383 : decode cX11_stepOf 383 = .ok (.invokevirtual 599, 3) := by decide +kernel
theorem dX11_stepOf_386 : decode cX11_stepOf 386 = .ok (.ireturn, 1) := by decide +kernel
theorem dX11_stepOf_387 : decode cX11_stepOf 387 = .ok (.aload_n 0, 1) := by decide +kernel
theorem dX11_stepOf_388 : decode cX11_stepOf 388 = .ok (.iload_n 1, 1) := by decide +kernel
theorem dX11_stepOf_389 : decode cX11_stepOf 389 = .ok (.iload_n 3, 1) := by decide +kernel
theorem dX11_stepOf_390 : decode cX11_stepOf 390 = .ok (.iload 4, 2) := by decide +kernel
theorem dX11_stepOf_392 : decode cX11_stepOf 392 = .ok (.iload 5, 2) := by decide +kernel
theorem dX11_stepOf_394 : decode cX11_stepOf 394 = .ok (.iload_n 2, 1) := by decide +kernel
theorem dX11_stepOf_395 : decode cX11_stepOf 395 = .ok (.bipush 20, 2) := by decide +kernel
theorem dX11_stepOf_397 : decode cX11_stepOf 397 = .ok (.ishr, 1) := by decide +kernel
theorem dX11_stepOf_398 : decode cX11_stepOf 398 = .ok (.iadd, 1) := by decide +kernel
theorem dX11_stepOf_399 : decode cX11_stepOf 399 = .ok (.invokevirtual 603, 3) := by decide +kernel
theorem dX11_stepOf_402 : decode cX11_stepOf 402 = .ok (.ireturn, 1) := by decide +kernel
theorem dX11_stepOf_403 : decode cX11_stepOf 403 = .ok (.aload_n 0, 1) := by decide +kernel
theorem dX11_stepOf_404 : decode cX11_stepOf 404 = .ok (.iload_n 1, 1) := by decide +kernel
theorem dX11_stepOf_405 : decode cX11_stepOf 405 = .ok (.iload_n 3, 1) := by decide +kernel
theorem dX11_stepOf_406 : decode cX11_stepOf 406 = .ok (.iload 5, 2) := by decide +kernel
theorem dX11_stepOf_408 : decode cX11_stepOf 408 = .ok (.iload_n 2, 1) := by decide +kernel
theorem dX11_stepOf_409 : decode cX11_stepOf 409 = .ok (.bipush 25, 2) := by decide +kernel
theorem dX11_stepOf_411 : decode cX11_stepOf 411 = .ok (.ishr, 1) := by decide +kernel
theorem dX11_stepOf_412 : decode cX11_stepOf 412 = .ok (.iconst 5, 1) := by decide +kernel
theorem dX11_stepOf_413 : decode cX11_stepOf 413 = .ok (.ishl, 1) := by decide +kernel
theorem dX11_stepOf_414 : decode cX11_stepOf 414 = .ok (.iload_n 2, 1) := by decide +kernel
theorem dX11_stepOf_415 : decode cX11_stepOf 415 = .ok (.bipush 7, 2) := by decide +kernel
theorem dX11_stepOf_417 : decode cX11_stepOf 417 = .ok (.ishr, 1) := by decide +kernel
theorem dX11_stepOf_418 : decode cX11_stepOf 418 = .ok (.bipush 31, 2) := by decide +kernel
theorem dX11_stepOf_420 : decode cX11_stepOf 420 = .ok (.iand, 1) := by decide +kernel
theorem dX11_stepOf_421 : decode cX11_stepOf 421 = .ok (.ior, 1) := by decide +kernel
theorem dX11_stepOf_422 : decode cX11_stepOf 422 = .ok (.iadd, 1) := by decide +kernel
theorem dX11_stepOf_423 : decode cX11_stepOf 423 = .ok (.iload 6, 2) := by decide +kernel
theorem dX11_stepOf_425 : decode cX11_stepOf 425 = .ok (.invokevirtual 607, 3) := by decide +kernel
theorem dX11_stepOf_428 : decode cX11_stepOf 428 = .ok (.ireturn, 1) := by decide +kernel
theorem dX11_stepOf_429 : decode cX11_stepOf 429 = .ok (.aload_n 0, 1) := by decide +kernel
theorem dX11_stepOf_430 : decode cX11_stepOf 430 = .ok (.iload_n 1, 1) := by decide +kernel
theorem dX11_stepOf_431 : decode cX11_stepOf 431 = .ok (.iload_n 2, 1) := by decide +kernel
theorem dX11_stepOf_432 : decode cX11_stepOf 432 = .ok (.iload_n 3, 1) := by decide +kernel
theorem dX11_stepOf_433 : decode cX11_stepOf 433 = .ok (.iload 4, 2) := by decide +kernel
theorem dX11_stepOf_435 : decode cX11_stepOf 435 = .ok (.iload 5, 2) := by decide +kernel
theorem dX11_stepOf_437 : decode cX11_stepOf 437 = .ok (.iload 6, 2) := by decide +kernel
theorem dX11_stepOf_439 : decode cX11_stepOf 439 = .ok (.invokevirtual 610, 3) := by decide +kernel
theorem dX11_stepOf_442 : decode cX11_stepOf 442 = .ok (.ireturn, 1) := by decide +kernel
theorem dX11_stepOf_443 : decode cX11_stepOf 443 = .ok (.aload_n 0, 1) := by decide +kernel
theorem dX11_stepOf_444 : decode cX11_stepOf 444 = .ok (.iload_n 1, 1) := by decide +kernel
theorem dX11_stepOf_445 : decode cX11_stepOf 445 = .ok (.iload_n 2, 1) := by decide +kernel
theorem dX11_stepOf_446 : decode cX11_stepOf 446 = .ok (.iload_n 3, 1) := by decide +kernel
theorem dX11_stepOf_447 : decode cX11_stepOf 447 = .ok (.iload 4, 2) := by decide +kernel
theorem dX11_stepOf_449 : decode cX11_stepOf 449 = .ok (.iload 5, 2) := by decide +kernel
theorem dX11_stepOf_451 : decode cX11_stepOf 451 = .ok (.iload 6, 2) := by decide +kernel
theorem dX11_stepOf_453 : decode cX11_stepOf 453 = .ok (.invokevirtual 614, 3) := by decide +kernel
theorem dX11_stepOf_456 : decode cX11_stepOf 456 = .ok (.ireturn, 1) := by decide +kernel
theorem dX11_stepOf_457 : decode cX11_stepOf 457 = .ok (.iload_n 3, 1) := by decide +kernel
theorem dX11_stepOf_458 : decode cX11_stepOf 458 = .ok (.ifCond .eq 10, 3) := by decide +kernel
theorem dX11_stepOf_461 : decode cX11_stepOf 461 = .ok (.aload_n 0, 1) := by decide +kernel
theorem dX11_stepOf_462 : decode cX11_stepOf 462 = .ok (.iload_n 1, 1) := by decide +kernel
theorem dX11_stepOf_463 : decode cX11_stepOf 463 = .ok (.iconst 2, 1) := by decide +kernel
theorem dX11_stepOf_464 : decode cX11_stepOf 464 = .ok (.invokevirtual 596, 3) := by decide +kernel
theorem dX11_stepOf_467 : decode cX11_stepOf 467 = .ok (.ireturn, 1) := by decide +kernel
theorem dX11_stepOf_468 : decode cX11_stepOf 468 = .ok (.aload_n 0, 1) := by decide +kernel
theorem dX11_stepOf_469 : decode cX11_stepOf 469 = .ok (.getfield 74, 3) := by decide +kernel
theorem dX11_stepOf_472 : decode cX11_stepOf 472 = .ok (.iload_n 1, 1) := by decide +kernel
theorem dX11_stepOf_473 : decode cX11_stepOf 473 = .ok (.iaload, 1) := by decide +kernel
theorem dX11_stepOf_474 : decode cX11_stepOf 474 = .ok (.ifCond .le 5, 3) := by decide +kernel
theorem dX11_stepOf_477 : decode cX11_stepOf 477 = .ok (.iconst 5, 1) := by decide +kernel
theorem dX11_stepOf_478 : decode cX11_stepOf 478 = .ok (.ireturn, 1) := by decide +kernel
theorem dX11_stepOf_479 : decode cX11_stepOf 479 = .ok (.aload_n 0, 1) := by decide +kernel
theorem dX11_stepOf_480 : decode cX11_stepOf 480 = .ok (.iconst 0, 1) := by decide +kernel
theorem dX11_stepOf_481 : decode cX11_stepOf 481 = .ok (.putfield 570, 3) := by decide +kernel
theorem dX11_stepOf_484 : decode cX11_stepOf 484 = .ok (.goto 34, 3) := by decide +kernel
theorem dX11_stepOf_487 : decode cX11_stepOf 487 = .ok (.aload_n 0, 1) := by decide +kernel
theorem dX11_stepOf_488 : decode cX11_stepOf 488 = .ok (.iload_n 1, 1) := by decide +kernel
theorem dX11_stepOf_489 : decode cX11_stepOf 489 = .ok (.iload_n 2, 1) := by decide +kernel
theorem dX11_stepOf_490 : decode cX11_stepOf 490 = .ok (.bipush 115, 2) := by decide +kernel
theorem dX11_stepOf_492 : decode cX11_stepOf 492 = .ok (.if_icmp .eq 10, 3) := by decide +kernel
theorem dX11_stepOf_495 : decode cX11_stepOf 495 = .ok (.iload_n 2, 1) := by decide +kernel
theorem dX11_stepOf_496 : decode cX11_stepOf 496 = .ok (.ldc_w 294, 3) := by decide +kernel
theorem dX11_stepOf_499 : decode cX11_stepOf 499 = .ok (.if_icmp .ne 7, 3) := by decide +kernel
theorem dX11_stepOf_502 : decode cX11_stepOf 502 = .ok (.iconst 1, 1) := by decide +kernel
theorem dX11_stepOf_503 : decode cX11_stepOf 503 = .ok (.goto 4, 3) := by decide +kernel
theorem dX11_stepOf_506 : decode cX11_stepOf 506 = .ok (.iconst 2, 1) := by decide +kernel
theorem dX11_stepOf_507 : decode cX11_stepOf 507 = .ok (.invokevirtual 596, 3) := by decide +kernel
theorem dX11_stepOf_510 : decode cX11_stepOf 510 = .ok (.ireturn, 1) := by decide +kernel
theorem dX11_stepOf_511 : decode cX11_stepOf 511 = .ok (.aload_n 0, 1) := by decide +kernel
theorem dX11_stepOf_512 : decode cX11_stepOf 512 = .ok (.iload_n 1, 1) := by decide +kernel
theorem dX11_stepOf_513 : decode cX11_stepOf 513 = .ok (.iconst 2, 1) := by decide +kernel
theorem dX11_stepOf_514 : decode cX11_stepOf 514 = .ok (.invokevirtual 596, 3) := by decide +kernel
theorem dX11_stepOf_517 : decode cX11_stepOf 517 = .ok (.ireturn, 1) := by decide +kernel
theorem dX11_stepOf_518 : decode cX11_stepOf 518 = .ok (.aload_n 0, 1) := by decide +kernel
theorem dX11_stepOf_519 : decode cX11_stepOf 519 = .ok (.iload_n 1, 1) := by decide +kernel
theorem dX11_stepOf_520 : decode cX11_stepOf 520 = .ok (.iload 7, 2) := by decide +kernel
theorem dX11_stepOf_522 : decode cX11_stepOf 522 = .ok (.iconst 4, 1) := by decide +kernel
theorem dX11_stepOf_523 : decode cX11_stepOf 523 = .ok (.iadd, 1) := by decide +kernel
theorem dX11_stepOf_524 : decode cX11_stepOf 524 = .ok (.invokevirtual 585, 3) := by decide +kernel
theorem dX11_stepOf_527 : decode cX11_stepOf 527 = .ok (.ireturn, 1) := by decide +kernel
theorem dX11_branch_0 : decode cX11_branch 0 = .ok (.iload_n 3, 1) := by decide +kernel
theorem dX11_branch_1 : decode cX11_branch 1 = .ok (.iconst 2, 1) := by decide +kernel
theorem dX11_branch_2 : decode cX11_branch 2 = .ok (.if_icmp .eq 8, 3) := by decide +kernel
theorem dX11_branch_5 : decode cX11_branch 5 = .ok (.iload_n 3, 1) := by decide +kernel
theorem dX11_branch_6 : decode cX11_branch 6 = .ok (.iconst 3, 1) := by decide +kernel
theorem dX11_branch_7 : decode cX11_branch 7 = .ok (.if_icmp .ne 10, 3) := by decide +kernel
theorem dX11_branch_10 : decode cX11_branch 10 = .ok (.aload_n 0, 1) := by decide +kernel
theorem dX11_branch_11 : decode cX11_branch 11 = .ok (.iload_n 1, 1) := by decide +kernel
theorem dX11_branch_12 : decode cX11_branch 12 = .ok (.iconst 2, 1) := by decide +kernel
theorem dX11_branch_13 : decode cX11_branch 13 = .ok (.invokevirtual 596, 3) := by decide +kernel
theorem dX11_branch_16 : decode cX11_branch 16 = .ok (.ireturn, 1) := by decide +kernel
theorem dX11_branch_17 : decode cX11_branch 17 = .ok (.iload_n 3, 1) := by decide +kernel
theorem dX11_branch_18 : decode cX11_branch 18 = .ok (.iconst 2, 1) := by decide +kernel
theorem dX11_branch_19 : decode cX11_branch 19 = .ok (.if_icmp .ge 18, 3) := by decide +kernel
theorem dX11_branch_22 : decode cX11_branch 22 = .ok (.iload 4, 2) := by decide +kernel
theorem dX11_branch_24 : decode cX11_branch 24 = .ok (.iload 5, 2) := by decide +kernel
theorem dX11_branch_26 : decode cX11_branch 26 = .ok (.if_icmp .ne 7, 3) := by decide +kernel
theorem dX11_branch_29 : decode cX11_branch 29 = .ok (.iconst 1, 1) := by decide +kernel
theorem dX11_branch_30 : decode cX11_branch 30 = .ok (.goto 35, 3) := by decide +kernel
theorem dX11_branch_33 : decode cX11_branch 33 = .ok (.iconst 0, 1) := by decide +kernel
theorem dX11_branch_34 : decode cX11_branch 34 = .ok (.goto 31, 3) := by decide +kernel
theorem dX11_branch_37 : decode cX11_branch 37 = .ok (.iload_n 3, 1) := by decide +kernel
theorem dX11_branch_38 : decode cX11_branch 38 = .ok (.bipush 6, 2) := by decide +kernel
theorem dX11_branch_40 : decode cX11_branch 40 = .ok (.if_icmp .ge 18, 3) := by decide +kernel
theorem dX11_branch_43 : decode cX11_branch 43 = .ok (.iload 4, 2) := by decide +kernel
theorem dX11_branch_45 : decode cX11_branch 45 = .ok (.iload 5, 2) := by decide +kernel
theorem dX11_branch_47 : decode cX11_branch 47 = .ok (.if_icmp .ge 7, 3) := by decide +kernel
theorem dX11_branch_50 : decode cX11_branch 50 = .ok (.iconst 1, 1) := by decide +kernel
theorem dX11_branch_51 : decode cX11_branch 51 = .ok (.goto 14, 3) := by decide +kernel
theorem dX11_branch_54 : decode cX11_branch 54 = .ok (.iconst 0, 1) := by decide +kernel
theorem dX11_branch_55 : decode cX11_branch 55 = .ok (.goto 10, 3) := by decide +kernel
theorem dX11_branch_58 : decode cX11_branch 58 = .ok (.iload 4, 2) := by decide +kernel
theorem dX11_branch_60 : decode cX11_branch 60 = .ok (.iload 5, 2) := by decide +kernel
theorem dX11_branch_62 : decode cX11_branch 62 = .ok (.invokestatic 617, 3) := by decide +kernel
theorem dX11_branch_65 : decode cX11_branch 65 = .ok (.istore 6, 2) := by decide +kernel
theorem dX11_branch_67 : decode cX11_branch 67 = .ok (.iload_n 3, 1) := by decide +kernel
theorem dX11_branch_68 : decode cX11_branch 68 = .ok (.iconst 2, 1) := by decide +kernel
theorem dX11_branch_69 : decode cX11_branch 69 = .ok (.irem, 1) := by decide +kernel
theorem dX11_branch_70 : decode cX11_branch 70 = .ok (.iconst 1, 1) := by decide +kernel
theorem dX11_branch_71 : decode cX11_branch 71 = .ok (.if_icmp .ne 15, 3) := by decide +kernel
theorem dX11_branch_74 : decode cX11_branch 74 = .ok (.iload 6, 2) := by decide +kernel
theorem dX11_branch_76 : decode cX11_branch 76 = .ok (.ifCond .ne 7, 3) := by decide +kernel
theorem dX11_branch_79 : decode cX11_branch 79 = .ok (.iconst 1, 1) := by decide +kernel
theorem dX11_branch_80 : decode cX11_branch 80 = .ok (.goto 4, 3) := by decide +kernel
theorem dX11_branch_83 : decode cX11_branch 83 = .ok (.iconst 0, 1) := by decide +kernel
theorem dX11_branch_84 : decode cX11_branch 84 = .ok (.istore 6, 2) := by decide +kernel
theorem dX11_branch_86 : decode cX11_branch 86 = .ok (.aload_n 0, 1) := by decide +kernel
theorem dX11_branch_87 : decode cX11_branch 87 = .ok (.iconst 0, 1) := by decide +kernel
theorem dX11_branch_88 : decode cX11_branch 88 = .ok (.putfield 570, 3) := by decide +kernel
theorem dX11_branch_91 : decode cX11_branch 91 = .ok (.iload_n 2, 1) := by decide +kernel
theorem dX11_branch_92 : decode cX11_branch 92 = .ok (.bipush 31, 2) := by decide +kernel
theorem dX11_branch_94 : decode cX11_branch 94 = .ok (.ishr, 1) := by decide +kernel
theorem dX11_branch_95 : decode cX11_branch 95 = .ok (.bipush 12, 2) := by decide +kernel
theorem dX11_branch_97 : decode cX11_branch 97 = .ok (.ishl, 1) := by decide +kernel
theorem dX11_branch_98 : decode cX11_branch 98 = .ok (.iload_n 2, 1) := by decide +kernel
theorem dX11_branch_99 : decode cX11_branch 99 = .ok (.bipush 7, 2) := by decide +kernel
theorem dX11_branch_101 : decode cX11_branch 101 = .ok (.ishr, 1) := by decide +kernel
theorem dX11_branch_102 : decode cX11_branch 102 = .ok (.iconst 1, 1) := by decide +kernel
theorem dX11_branch_103 : decode cX11_branch 103 = .ok (.iand, 1) := by decide +kernel
theorem dX11_branch_104 : decode cX11_branch 104 = .ok (.bipush 11, 2) := by decide +kernel
theorem dX11_branch_106 : decode cX11_branch 106 = .ok (.ishl, 1) := by decide +kernel
theorem dX11_branch_107 : decode cX11_branch 107 = .ok (.ior, 1) := by decide +kernel
theorem dX11_branch_108 : decode cX11_branch 108 = .ok (.iload_n 2, 1) := by decide +kernel
theorem dX11_branch_109 : decode cX11_branch 109 = .ok (.bipush 25, 2) := by decide +kernel
theorem dX11_branch_111 : decode cX11_branch 111 = .ok (.ishr, 1) := by decide +kernel
theorem dX11_branch_112 : decode cX11_branch 112 = .ok (.bipush 63, 2) := by decide +kernel
theorem dX11_branch_114 : decode cX11_branch 114 = .ok (.iand, 1) := by decide +kernel
theorem dX11_branch_115 : decode cX11_branch 115 = .ok (.iconst 5, 1) := by decide +kernel
theorem dX11_branch_116 : decode cX11_branch 116 = .ok (.ishl, 1) := by decide +kernel
theorem dX11_branch_117 : decode cX11_branch 117 = .ok (.ior, 1) := by decide +kernel
theorem dX11_branch_118 : decode cX11_branch 118 = .ok (.iload_n 2, 1) := by decide +kernel
theorem dX11_branch_119 : decode cX11_branch 119 = .ok (.bipush 8, 2) := by decide +kernel
theorem dX11_branch_121 : decode cX11_branch 121 = .ok (.ishr, 1) := by decide +kernel
theorem dX11_branch_122 : decode cX11_branch 122 = .ok (.bipush 15, 2) := by decide +kernel
theorem dX11_branch_124 : decode cX11_branch 124 = .ok (.iand, 1) := by decide +kernel
theorem dX11_branch_125 : decode cX11_branch 125 = .ok (.iconst 1, 1) := by decide +kernel
theorem dX11_branch_126 : decode cX11_branch 126 = .ok (.ishl, 1) := by decide +kernel
theorem dX11_branch_127 : decode cX11_branch 127 = .ok (.ior, 1) := by decide +kernel
theorem dX11_branch_128 : decode cX11_branch 128 = .ok (.istore 7, 2) := by decide +kernel
theorem dX11_branch_130 : decode cX11_branch 130 = .ok (.aload_n 0, 1) := by decide +kernel
theorem dX11_branch_131 : decode cX11_branch 131 = .ok (.iload_n 1, 1) := by decide +kernel
theorem dX11_branch_132 : decode cX11_branch 132 = .ok (.aload_n 0, 1) := by decide +kernel
theorem dX11_branch_133 : decode cX11_branch 133 = .ok (.getfield 62, 3) := by decide +kernel
theorem dX11_branch_136 : decode cX11_branch 136 = .ok (.iload_n 1, 1) := by decide +kernel
theorem dX11_branch_137 : decode cX11_branch 137 = .ok (.iaload, 1) := by decide +kernel
theorem dX11_branch_138 : decode cX11_branch 138 = .ok (.iload 6, 2) := by decide +kernel
theorem dX11_branch_140 : decode cX11_branch 140 = .ok (.ifCond .eq 8, 3) := by decide +kernel
theorem dX11_branch_143 : decode cX11_branch 143 = .ok (.iload 7, 2) := by decide +kernel
theorem dX11_branch_145 : decode cX11_branch 145 = .ok (.goto 4, 3) := by decide +kernel
theorem dX11_branch_148 : decode cX11_branch 148 = .ok (.iconst 4, 1) := by decide +kernel
theorem dX11_branch_149 : decode cX11_branch 149 = .ok (.iadd, 1) := by decide +kernel
theorem dX11_branch_150 : decode cX11_branch 150 = .ok (.invokevirtual 585, 3) := by decide +kernel
theorem dX11_branch_153 : decode cX11_branch 153 = .ok (.ireturn, 1) := by decide +kernel
theorem dX11_load_0 : decode cX11_load 0 = .ok (.iload_n 2, 1) := by decide +kernel
theorem dX11_load_1 : decode cX11_load 1 = .ok (.iconst 3, 1) := by decide +kernel
theorem dX11_load_2 : decode cX11_load 2 = .ok (.if_icmp .eq 8, 3) := by decide +kernel
theorem dX11_load_5 : decode cX11_load 5 = .ok (.iload_n 2, 1) := by decide +kernel
theorem dX11_load_6 : decode cX11_load 6 = .ok (.iconst 5, 1) := by decide +kernel
theorem dX11_load_7 : decode cX11_load 7 = .ok (.if_icmp .le 10, 3) := by decide +kernel
theorem dX11_load_10 : decode cX11_load 10 = .ok (.aload_n 0, 1) := by decide +kernel
theorem dX11_load_11 : decode cX11_load 11 = .ok (.iload_n 1, 1) := by decide +kernel
theorem dX11_load_12 : decode cX11_load 12 = .ok (.iconst 2, 1) := by decide +kernel
theorem dX11_load_13 : decode cX11_load 13 = .ok (.invokevirtual 596, 3) := by decide +kernel
theorem dX11_load_16 : decode cX11_load 16 = .ok (.ireturn, 1) := by decide +kernel
theorem dX11_load_17 : decode cX11_load 17 = .ok (.iload_n 2, 1) := by decide +kernel
theorem dX11_load_18 : decode cX11_load 18 = .ok (.iconst 4, 1) := by decide +kernel
theorem dX11_load_19 : decode cX11_load 19 = .ok (.irem, 1) := by decide +kernel
theorem dX11_load_20 : decode cX11_load 20 = .ok (.ifCond .ne 7, 3) := by decide +kernel
theorem dX11_load_23 : decode cX11_load 23 = .ok (.iconst 1, 1) := by decide +kernel
theorem dX11_load_24 : decode cX11_load 24 = .ok (.goto 15, 3) := by decide +kernel
theorem dX11_load_27 : decode cX11_load 27 = .ok (.iload_n 2, 1) := by decide +kernel
theorem dX11_load_28 : decode cX11_load 28 = .ok (.iconst 4, 1) := by decide +kernel
theorem dX11_load_29 : decode cX11_load 29 = .ok (.irem, 1) := by decide +kernel
theorem dX11_load_30 : decode cX11_load 30 = .ok (.iconst 1, 1) := by decide +kernel
theorem dX11_load_31 : decode cX11_load 31 = .ok (.if_icmp .ne 7, 3) := by decide +kernel
theorem dX11_load_34 : decode cX11_load 34 = .ok (.iconst 2, 1) := by decide +kernel
theorem dX11_load_35 : decode cX11_load 35 = .ok (.goto 4, 3) := by decide +kernel
theorem dX11_load_38 : decode cX11_load 38 = .ok (.iconst 4, 1) := by decide +kernel
theorem dX11_load_39 : decode cX11_load 39 = .ok (.istore 5, 2) := by decide +kernel
theorem dX11_load_41 : decode cX11_load 41 = .ok (.iload 4, 2) := by decide +kernel
theorem dX11_load_43 : decode cX11_load 43 = .ok (.iload 5, 2) := by decide +kernel
theorem dX11_load_45 : decode cX11_load 45 = .ok (.irem, 1) := by decide +kernel
theorem dX11_load_46 : decode cX11_load 46 = .ok (.ifCond .eq 10, 3) := by decide +kernel
theorem dX11_load_49 : decode cX11_load 49 = .ok (.aload_n 0, 1) := by decide +kernel
theorem dX11_load_50 : decode cX11_load 50 = .ok (.iload_n 1, 1) := by decide +kernel
theorem dX11_load_51 : decode cX11_load 51 = .ok (.iconst 4, 1) := by decide +kernel
theorem dX11_load_52 : decode cX11_load 52 = .ok (.invokevirtual 596, 3) := by decide +kernel
theorem dX11_load_55 : decode cX11_load 55 = .ok (.ireturn, 1) := by decide +kernel
theorem dX11_load_56 : decode cX11_load 56 = .ok (.iload 4, 2) := by decide +kernel
theorem dX11_load_58 : decode cX11_load 58 = .ok (.sipush 8191, 3) := by decide +kernel
theorem dX11_load_61 : decode cX11_load 61 = .ok (.iand, 1) := by decide +kernel
theorem dX11_load_62 : decode cX11_load 62 = .ok (.istore 6, 2) := by decide +kernel
theorem dX11_load_64 : decode cX11_load 64 = .ok (.iload 6, 2) := by decide +kernel
theorem dX11_load_66 : decode cX11_load 66 = .ok (.iconst 4, 1) := by decide +kernel
theorem dX11_load_67 : decode cX11_load 67 = .ok (.irem, 1) := by decide +kernel
theorem dX11_load_68 : decode cX11_load 68 = .ok (.istore 7, 2) := by decide +kernel
theorem dX11_load_70 : decode cX11_load 70 = .ok (.aload_n 0, 1) := by decide +kernel
theorem dX11_load_71 : decode cX11_load 71 = .ok (.iload_n 1, 1) := by decide +kernel
theorem dX11_load_72 : decode cX11_load 72 = .ok (.iload 6, 2) := by decide +kernel
theorem dX11_load_74 : decode cX11_load 74 = .ok (.iconst 1, 1) := by decide +kernel
theorem dX11_load_75 : decode cX11_load 75 = .ok (.iload 5, 2) := by decide +kernel
theorem dX11_load_77 : decode cX11_load 77 = .ok (.ishl, 1) := by decide +kernel
theorem dX11_load_78 : decode cX11_load 78 = .ok (.iconst 1, 1) := by decide +kernel
theorem dX11_load_79 : decode cX11_load 79 = .ok (.isub, 1) := by decide +kernel
theorem dX11_load_80 : decode cX11_load 80 = .ok (.iload 7, 2) := by decide +kernel
theorem dX11_load_82 : decode cX11_load 82 = .ok (.ishl, 1) := by decide +kernel
theorem dX11_load_83 : decode cX11_load 83 = .ok (.invokevirtual 589, 3) := by decide +kernel
theorem dX11_load_86 : decode cX11_load 86 = .ok (.ifCond .ne 5, 3) := by decide +kernel
theorem dX11_load_89 : decode cX11_load 89 = .ok (.iconst 3, 1) := by decide +kernel
theorem dX11_load_90 : decode cX11_load 90 = .ok (.ireturn, 1) := by decide +kernel
theorem dX11_load_91 : decode cX11_load 91 = .ok (.aload_n 0, 1) := by decide +kernel
theorem dX11_load_92 : decode cX11_load 92 = .ok (.getfield 554, 3) := by decide +kernel
theorem dX11_load_95 : decode cX11_load 95 = .ok (.bipush 8, 2) := by decide +kernel
theorem dX11_load_97 : decode cX11_load 97 = .ok (.iload 7, 2) := by decide +kernel
theorem dX11_load_99 : decode cX11_load 99 = .ok (.imul, 1) := by decide +kernel
theorem dX11_load_100 : decode cX11_load 100 = .ok (.iushr, 1) := by decide +kernel
theorem dX11_load_101 : decode cX11_load 101 = .ok (.istore 8, 2) := by decide +kernel
theorem dX11_load_103 : decode cX11_load 103 = .ok (.iload_n 2, 1) := by decide +kernel
theorem dX11_load_104 : decode cX11_load 104 = .ok (.ifCond .ne 8, 3) := by decide +kernel
theorem dX11_load_107 : decode cX11_load 107 = .ok (.iload 8, 2) := by decide +kernel
theorem dX11_load_109 : decode cX11_load 109 = .ok (.i2b, 1) := by decide +kernel
theorem dX11_load_110 : decode cX11_load 110 = .ok (.istore 8, 2) := by decide +kernel
theorem dX11_load_112 : decode cX11_load 112 = .ok (.iload_n 2, 1) := by decide +kernel
theorem dX11_load_113 : decode cX11_load 113 = .ok (.iconst 1, 1) := by decide +kernel
theorem dX11_load_114 : decode cX11_load 114 = .ok (.if_icmp .ne 8, 3) := by decide +kernel
theorem dX11_load_117 : decode cX11_load 117 = .ok (.iload 8, 2) := by decide +kernel
theorem dX11_load_119 : decode cX11_load 119 = .ok (.i2s, 1) := by decide +kernel
theorem dX11_load_120 : decode cX11_load 120 = .ok (.istore 8, 2) := by decide +kernel
theorem dX11_load_122 : decode cX11_load 122 = .ok (.aload_n 0, 1) := by decide +kernel
theorem dX11_load_123 : decode cX11_load 123 = .ok (.iload_n 1, 1) := by decide +kernel
theorem dX11_load_124 : decode cX11_load 124 = .ok (.iload_n 3, 1) := by decide +kernel
theorem dX11_load_125 : decode cX11_load 125 = .ok (.iload 8, 2) := by decide +kernel
theorem dX11_load_127 : decode cX11_load 127 = .ok (.invokevirtual 593, 3) := by decide +kernel
theorem dX11_load_130 : decode cX11_load 130 = .ok (.aload_n 0, 1) := by decide +kernel
theorem dX11_load_131 : decode cX11_load 131 = .ok (.iload 6, 2) := by decide +kernel
theorem dX11_load_133 : decode cX11_load 133 = .ok (.putfield 576, 3) := by decide +kernel
theorem dX11_load_136 : decode cX11_load 136 = .ok (.aload_n 0, 1) := by decide +kernel
theorem dX11_load_137 : decode cX11_load 137 = .ok (.iload 8, 2) := by decide +kernel
theorem dX11_load_139 : decode cX11_load 139 = .ok (.putfield 579, 3) := by decide +kernel
theorem dX11_load_142 : decode cX11_load 142 = .ok (.aload_n 0, 1) := by decide +kernel
theorem dX11_load_143 : decode cX11_load 143 = .ok (.iload_n 1, 1) := by decide +kernel
theorem dX11_load_144 : decode cX11_load 144 = .ok (.aload_n 0, 1) := by decide +kernel
theorem dX11_load_145 : decode cX11_load 145 = .ok (.getfield 62, 3) := by decide +kernel
theorem dX11_load_148 : decode cX11_load 148 = .ok (.iload_n 1, 1) := by decide +kernel
theorem dX11_load_149 : decode cX11_load 149 = .ok (.iaload, 1) := by decide +kernel
theorem dX11_load_150 : decode cX11_load 150 = .ok (.iconst 4, 1) := by decide +kernel
theorem dX11_load_151 : decode cX11_load 151 = .ok (.iadd, 1) := by decide +kernel
theorem dX11_load_152 : decode cX11_load 152 = .ok (.invokevirtual 585, 3) := by decide +kernel
theorem dX11_load_155 : decode cX11_load 155 = .ok (.ireturn, 1) := by decide +kernel
theorem dX11_store_0 : decode cX11_store 0 = .ok (.iload_n 2, 1) := by decide +kernel
theorem dX11_store_1 : decode cX11_store 1 = .ok (.iconst 2, 1) := by decide +kernel
theorem dX11_store_2 : decode cX11_store 2 = .ok (.if_icmp .le 10, 3) := by decide +kernel
theorem dX11_store_5 : decode cX11_store 5 = .ok (.aload_n 0, 1) := by decide +kernel
theorem dX11_store_6 : decode cX11_store 6 = .ok (.iload_n 1, 1) := by decide +kernel
theorem dX11_store_7 : decode cX11_store 7 = .ok (.iconst 2, 1) := by decide +kernel
theorem dX11_store_8 : decode cX11_store 8 = .ok (.invokevirtual 596, 3) := by decide +kernel
theorem dX11_store_11 : decode cX11_store 11 = .ok (.ireturn, 1) := by decide +kernel
theorem dX11_store_12 : decode cX11_store 12 = .ok (.iconst 1, 1) := by decide +kernel
theorem dX11_store_13 : decode cX11_store 13 = .ok (.iload_n 2, 1) := by decide +kernel
theorem dX11_store_14 : decode cX11_store 14 = .ok (.ishl, 1) := by decide +kernel
theorem dX11_store_15 : decode cX11_store 15 = .ok (.istore 5, 2) := by decide +kernel
theorem dX11_store_17 : decode cX11_store 17 = .ok (.iload_n 3, 1) := by decide +kernel
theorem dX11_store_18 : decode cX11_store 18 = .ok (.iload 5, 2) := by decide +kernel
theorem dX11_store_20 : decode cX11_store 20 = .ok (.irem, 1) := by decide +kernel
theorem dX11_store_21 : decode cX11_store 21 = .ok (.ifCond .eq 10, 3) := by decide +kernel
theorem dX11_store_24 : decode cX11_store 24 = .ok (.aload_n 0, 1) := by decide +kernel
theorem dX11_store_25 : decode cX11_store 25 = .ok (.iload_n 1, 1) := by decide +kernel
theorem dX11_store_26 : decode cX11_store 26 = .ok (.iconst 4, 1) := by decide +kernel
theorem dX11_store_27 : decode cX11_store 27 = .ok (.invokevirtual 596, 3) := by decide +kernel
theorem dX11_store_30 : decode cX11_store 30 = .ok (.ireturn, 1) := by decide +kernel
theorem dX11_store_31 : decode cX11_store 31 = .ok (.aload_n 0, 1) := by decide +kernel
theorem dX11_store_32 : decode cX11_store 32 = .ok (.getfield 74, 3) := by decide +kernel
theorem dX11_store_35 : decode cX11_store 35 = .ok (.iload_n 1, 1) := by decide +kernel
theorem dX11_store_36 : decode cX11_store 36 = .ok (.iaload, 1) := by decide +kernel
theorem dX11_store_37 : decode cX11_store 37 = .ok (.aload_n 0, 1) := by decide +kernel
theorem dX11_store_38 : decode cX11_store 38 = .ok (.getfield 47, 3) := by decide +kernel
theorem dX11_store_41 : decode cX11_store 41 = .ok (.iconst 1, 1) := by decide +kernel
theorem dX11_store_42 : decode cX11_store 42 = .ok (.iaload, 1) := by decide +kernel
theorem dX11_store_43 : decode cX11_store 43 = .ok (.if_icmp .ne 5, 3) := by decide +kernel
theorem dX11_store_46 : decode cX11_store 46 = .ok (.iconst 4, 1) := by decide +kernel
theorem dX11_store_47 : decode cX11_store 47 = .ok (.ireturn, 1) := by decide +kernel
theorem dX11_store_48 : decode cX11_store 48 = .ok (.iload_n 3, 1) := by decide +kernel
theorem dX11_store_49 : decode cX11_store 49 = .ok (.sipush 8191, 3) := by decide +kernel
theorem dX11_store_52 : decode cX11_store 52 = .ok (.iand, 1) := by decide +kernel
theorem dX11_store_53 : decode cX11_store 53 = .ok (.istore 6, 2) := by decide +kernel
theorem dX11_store_55 : decode cX11_store 55 = .ok (.bipush 16, 2) := by decide +kernel
theorem dX11_store_57 : decode cX11_store 57 = .ok (.iload_n 1, 1) := by decide +kernel
theorem dX11_store_58 : decode cX11_store 58 = .ok (.imul, 1) := by decide +kernel
theorem dX11_store_59 : decode cX11_store 59 = .ok (.aload_n 0, 1) := by decide +kernel
theorem dX11_store_60 : decode cX11_store 60 = .ok (.getfield 74, 3) := by decide +kernel
theorem dX11_store_63 : decode cX11_store 63 = .ok (.iload_n 1, 1) := by decide +kernel
theorem dX11_store_64 : decode cX11_store 64 = .ok (.iaload, 1) := by decide +kernel
theorem dX11_store_65 : decode cX11_store 65 = .ok (.iadd, 1) := by decide +kernel
theorem dX11_store_66 : decode cX11_store 66 = .ok (.istore 7, 2) := by decide +kernel
theorem dX11_store_68 : decode cX11_store 68 = .ok (.aload_n 0, 1) := by decide +kernel
theorem dX11_store_69 : decode cX11_store 69 = .ok (.getfield 77, 3) := by decide +kernel
theorem dX11_store_72 : decode cX11_store 72 = .ok (.iload 7, 2) := by decide +kernel
theorem dX11_store_74 : decode cX11_store 74 = .ok (.iload 6, 2) := by decide +kernel
theorem dX11_store_76 : decode cX11_store 76 = .ok (.bipush (-4), 2) := by decide +kernel
theorem dX11_store_78 : decode cX11_store 78 = .ok (.iand, 1) := by decide +kernel
theorem dX11_store_79 : decode cX11_store 79 = .ok (.iastore, 1) := by decide +kernel
theorem dX11_store_80 : decode cX11_store 80 = .ok (.aload_n 0, 1) := by decide +kernel
theorem dX11_store_81 : decode cX11_store 81 = .ok (.getfield 80, 3) := by decide +kernel
theorem dX11_store_84 : decode cX11_store 84 = .ok (.iload 7, 2) := by decide +kernel
theorem dX11_store_86 : decode cX11_store 86 = .ok (.iconst 1, 1) := by decide +kernel
theorem dX11_store_87 : decode cX11_store 87 = .ok (.iload 5, 2) := by decide +kernel
theorem dX11_store_89 : decode cX11_store 89 = .ok (.ishl, 1) := by decide +kernel
theorem dX11_store_90 : decode cX11_store 90 = .ok (.iconst 1, 1) := by decide +kernel
theorem dX11_store_91 : decode cX11_store 91 = .ok (.isub, 1) := by decide +kernel
theorem dX11_store_92 : decode cX11_store 92 = .ok (.iload 6, 2) := by decide +kernel
theorem dX11_store_94 : decode cX11_store 94 = .ok (.iconst 4, 1) := by decide +kernel
theorem dX11_store_95 : decode cX11_store 95 = .ok (.irem, 1) := by decide +kernel
theorem dX11_store_96 : decode cX11_store 96 = .ok (.ishl, 1) := by decide +kernel
theorem dX11_store_97 : decode cX11_store 97 = .ok (.iastore, 1) := by decide +kernel
theorem dX11_store_98 : decode cX11_store 98 = .ok (.aload_n 0, 1) := by decide +kernel
theorem dX11_store_99 : decode cX11_store 99 = .ok (.getfield 83, 3) := by decide +kernel
theorem dX11_store_102 : decode cX11_store 102 = .ok (.iload 7, 2) := by decide +kernel
theorem dX11_store_104 : decode cX11_store 104 = .ok (.iload 4, 2) := by decide +kernel
theorem dX11_store_106 : decode cX11_store 106 = .ok (.bipush 8, 2) := by decide +kernel
theorem dX11_store_108 : decode cX11_store 108 = .ok (.iload 6, 2) := by decide +kernel
theorem dX11_store_110 : decode cX11_store 110 = .ok (.iconst 4, 1) := by decide +kernel
theorem dX11_store_111 : decode cX11_store 111 = .ok (.irem, 1) := by decide +kernel
theorem dX11_store_112 : decode cX11_store 112 = .ok (.imul, 1) := by decide +kernel
theorem dX11_store_113 : decode cX11_store 113 = .ok (.ishl, 1) := by decide +kernel
theorem dX11_store_114 : decode cX11_store 114 = .ok (.aload_n 0, 1) := by decide +kernel
theorem dX11_store_115 : decode cX11_store 115 = .ok (.getfield 80, 3) := by decide +kernel
theorem dX11_store_118 : decode cX11_store 118 = .ok (.iload 7, 2) := by decide +kernel
theorem dX11_store_120 : decode cX11_store 120 = .ok (.iaload, 1) := by decide +kernel
theorem dX11_store_121 : decode cX11_store 121 = .ok (.invokestatic 557, 3) := by decide +kernel
theorem dX11_store_124 : decode cX11_store 124 = .ok (.iand, 1) := by decide +kernel
theorem dX11_store_125 : decode cX11_store 125 = .ok (.iastore, 1) := by decide +kernel
theorem dX11_store_126 : decode cX11_store 126 = .ok (.aload_n 0, 1) := by decide +kernel
theorem dX11_store_127 : decode cX11_store 127 = .ok (.getfield 74, 3) := by decide +kernel
theorem dX11_store_130 : decode cX11_store 130 = .ok (.iload_n 1, 1) := by decide +kernel
theorem dX11_store_131 : decode cX11_store 131 = .ok (.dup2, 1) := by decide +kernel
theorem dX11_store_132 : decode cX11_store 132 = .ok (.iaload, 1) := by decide +kernel
theorem dX11_store_133 : decode cX11_store 133 = .ok (.iconst 1, 1) := by decide +kernel
theorem dX11_store_134 : decode cX11_store 134 = .ok (.iadd, 1) := by decide +kernel
theorem dX11_store_135 : decode cX11_store 135 = .ok (.iastore, 1) := by decide +kernel
theorem dX11_store_136 : decode cX11_store 136 = .ok (.aload_n 0, 1) := by decide +kernel
theorem dX11_store_137 : decode cX11_store 137 = .ok (.iconst 0, 1) := by decide +kernel
theorem dX11_store_138 : decode cX11_store 138 = .ok (.putfield 570, 3) := by decide +kernel
theorem dX11_store_141 : decode cX11_store 141 = .ok (.aload_n 0, 1) := by decide +kernel
theorem dX11_store_142 : decode cX11_store 142 = .ok (.iload 6, 2) := by decide +kernel
theorem dX11_store_144 : decode cX11_store 144 = .ok (.putfield 576, 3) := by decide +kernel
theorem dX11_store_147 : decode cX11_store 147 = .ok (.aload_n 0, 1) := by decide +kernel
theorem dX11_store_148 : decode cX11_store 148 = .ok (.iload 4, 2) := by decide +kernel
theorem dX11_store_150 : decode cX11_store 150 = .ok (.iconst 1, 1) := by decide +kernel
theorem dX11_store_151 : decode cX11_store 151 = .ok (.iload 5, 2) := by decide +kernel
theorem dX11_store_153 : decode cX11_store 153 = .ok (.ishl, 1) := by decide +kernel
theorem dX11_store_154 : decode cX11_store 154 = .ok (.iconst 1, 1) := by decide +kernel
theorem dX11_store_155 : decode cX11_store 155 = .ok (.isub, 1) := by decide +kernel
theorem dX11_store_156 : decode cX11_store 156 = .ok (.invokestatic 557, 3) := by decide +kernel
theorem dX11_store_159 : decode cX11_store 159 = .ok (.iand, 1) := by decide +kernel
theorem dX11_store_160 : decode cX11_store 160 = .ok (.putfield 582, 3) := by decide +kernel
theorem dX11_store_163 : decode cX11_store 163 = .ok (.aload_n 0, 1) := by decide +kernel
theorem dX11_store_164 : decode cX11_store 164 = .ok (.iload_n 1, 1) := by decide +kernel
theorem dX11_store_165 : decode cX11_store 165 = .ok (.aload_n 0, 1) := by decide +kernel
theorem dX11_store_166 : decode cX11_store 166 = .ok (.getfield 62, 3) := by decide +kernel
theorem dX11_store_169 : decode cX11_store 169 = .ok (.iload_n 1, 1) := by decide +kernel
theorem dX11_store_170 : decode cX11_store 170 = .ok (.iaload, 1) := by decide +kernel
theorem dX11_store_171 : decode cX11_store 171 = .ok (.iconst 4, 1) := by decide +kernel
theorem dX11_store_172 : decode cX11_store 172 = .ok (.iadd, 1) := by decide +kernel
theorem dX11_store_173 : decode cX11_store 173 = .ok (.invokevirtual 585, 3) := by decide +kernel
theorem dX11_store_176 : decode cX11_store 176 = .ok (.ireturn, 1) := by decide +kernel
theorem dX11_reckon_0 : decode cX11_reckon 0 = .ok (.iload_n 2, 1) := by decide +kernel
theorem dX11_reckon_1 : decode cX11_reckon 1 = .ok (.bipush 127, 2) := by decide +kernel
theorem dX11_reckon_3 : decode cX11_reckon 3 = .ok (.iand, 1) := by decide +kernel
theorem dX11_reckon_4 : decode cX11_reckon 4 = .ok (.bipush 51, 2) := by decide +kernel
theorem dX11_reckon_6 : decode cX11_reckon 6 = .ok (.if_icmp .ne 7, 3) := by decide +kernel
theorem dX11_reckon_9 : decode cX11_reckon 9 = .ok (.iconst 1, 1) := by decide +kernel
theorem dX11_reckon_10 : decode cX11_reckon 10 = .ok (.goto 4, 3) := by decide +kernel
theorem dX11_reckon_13 : decode cX11_reckon 13 = .ok (.iconst 0, 1) := by decide +kernel
theorem dX11_reckon_14 : decode cX11_reckon 14 = .ok (.istore 7, 2) := by decide +kernel
theorem dX11_reckon_16 : decode cX11_reckon 16 = .ok (.iload_n 2, 1) := by decide +kernel
theorem dX11_reckon_17 : decode cX11_reckon 17 = .ok (.bipush 25, 2) := by decide +kernel
theorem dX11_reckon_19 : decode cX11_reckon 19 = .ok (.ishr, 1) := by decide +kernel
theorem dX11_reckon_20 : decode cX11_reckon 20 = .ok (.bipush 127, 2) := by decide +kernel
theorem dX11_reckon_22 : decode cX11_reckon 22 = .ok (.iand, 1) := by decide +kernel
theorem dX11_reckon_23 : decode cX11_reckon 23 = .ok (.istore 8, 2) := by decide +kernel
theorem dX11_reckon_25 : decode cX11_reckon 25 = .ok (.iload 8, 2) := by decide +kernel
theorem dX11_reckon_27 : decode cX11_reckon 27 = .ok (.bipush 32, 2) := by decide +kernel
theorem dX11_reckon_29 : decode cX11_reckon 29 = .ok (.if_icmp .ne 21, 3) := by decide +kernel
theorem dX11_reckon_32 : decode cX11_reckon 32 = .ok (.iload_n 3, 1) := by decide +kernel
theorem dX11_reckon_33 : decode cX11_reckon 33 = .ok (.iconst 5, 1) := by decide +kernel
theorem dX11_reckon_34 : decode cX11_reckon 34 = .ok (.if_icmp .eq 12, 3) := by decide +kernel
theorem dX11_reckon_37 : decode cX11_reckon 37 = .ok (.iload 7, 2) := by decide +kernel
theorem dX11_reckon_39 : decode cX11_reckon 39 = .ok (.ifCond .eq 11, 3) := by decide +kernel
theorem dX11_reckon_42 : decode cX11_reckon 42 = .ok (.iload_n 3, 1) := by decide +kernel
theorem dX11_reckon_43 : decode cX11_reckon 43 = .ok (.ifCond .ne 7, 3) := by decide +kernel
theorem dX11_reckon_46 : decode cX11_reckon 46 = .ok (.iconst 1, 1) := by decide +kernel
theorem dX11_reckon_47 : decode cX11_reckon 47 = .ok (.goto 4, 3) := by decide +kernel
theorem dX11_reckon_50 : decode cX11_reckon 50 = .ok (.iconst 0, 1) := by decide +kernel
theorem dX11_reckon_51 : decode cX11_reckon 51 = .ok (.istore 9, 2) := by decide +kernel
theorem dX11_reckon_53 : decode cX11_reckon 53 = .ok (.iload 7, 2) := by decide +kernel
theorem dX11_reckon_55 : decode cX11_reckon 55 = .ok (.ifCond .eq 21, 3) := by decide +kernel
theorem dX11_reckon_58 : decode cX11_reckon 58 = .ok (.iload 8, 2) := by decide +kernel
theorem dX11_reckon_60 : decode cX11_reckon 60 = .ok (.ifCond .eq 8, 3) := by decide +kernel
theorem dX11_reckon_63 : decode cX11_reckon 63 = .ok (.iload 9, 2) := by decide +kernel
theorem dX11_reckon_65 : decode cX11_reckon 65 = .ok (.ifCond .eq 7, 3) := by decide +kernel
theorem dX11_reckon_68 : decode cX11_reckon 68 = .ok (.iconst 1, 1) := by decide +kernel
theorem dX11_reckon_69 : decode cX11_reckon 69 = .ok (.goto 32, 3) := by decide +kernel
theorem dX11_reckon_72 : decode cX11_reckon 72 = .ok (.iconst 0, 1) := by decide +kernel
theorem dX11_reckon_73 : decode cX11_reckon 73 = .ok (.goto 28, 3) := by decide +kernel
theorem dX11_reckon_76 : decode cX11_reckon 76 = .ok (.iload_n 3, 1) := by decide +kernel
theorem dX11_reckon_77 : decode cX11_reckon 77 = .ok (.iconst 1, 1) := by decide +kernel
theorem dX11_reckon_78 : decode cX11_reckon 78 = .ok (.if_icmp .eq 8, 3) := by decide +kernel
theorem dX11_reckon_81 : decode cX11_reckon 81 = .ok (.iload_n 3, 1) := by decide +kernel
theorem dX11_reckon_82 : decode cX11_reckon 82 = .ok (.iconst 5, 1) := by decide +kernel
theorem dX11_reckon_83 : decode cX11_reckon 83 = .ok (.if_icmp .ne 13, 3) := by decide +kernel
theorem dX11_reckon_86 : decode cX11_reckon 86 = .ok (.iload 8, 2) := by decide +kernel
theorem dX11_reckon_88 : decode cX11_reckon 88 = .ok (.ifCond .eq 8, 3) := by decide +kernel
theorem dX11_reckon_91 : decode cX11_reckon 91 = .ok (.iload 9, 2) := by decide +kernel
theorem dX11_reckon_93 : decode cX11_reckon 93 = .ok (.ifCond .eq 7, 3) := by decide +kernel
theorem dX11_reckon_96 : decode cX11_reckon 96 = .ok (.iconst 1, 1) := by decide +kernel
theorem dX11_reckon_97 : decode cX11_reckon 97 = .ok (.goto 4, 3) := by decide +kernel
theorem dX11_reckon_100 : decode cX11_reckon 100 = .ok (.iconst 0, 1) := by decide +kernel
theorem dX11_reckon_101 : decode cX11_reckon 101 = .ok (.istore 10, 2) := by decide +kernel
theorem dX11_reckon_103 : decode cX11_reckon 103 = .ok (.iload 10, 2) := by decide +kernel
theorem dX11_reckon_105 : decode cX11_reckon 105 = .ok (.ifCond .ne 10, 3) := by decide +kernel
theorem dX11_reckon_108 : decode cX11_reckon 108 = .ok (.aload_n 0, 1) := by decide +kernel
theorem dX11_reckon_109 : decode cX11_reckon 109 = .ok (.iload_n 1, 1) := by decide +kernel
theorem dX11_reckon_110 : decode cX11_reckon 110 = .ok (.iconst 2, 1) := by decide +kernel
theorem dX11_reckon_111 : decode cX11_reckon 111 = .ok (.invokevirtual 596, 3) := by decide +kernel
theorem dX11_reckon_114 : decode cX11_reckon 114 = .ok (.ireturn, 1) := by decide +kernel
theorem dX11_reckon_115 : decode cX11_reckon 115 = .ok (.iload 7, 2) := by decide +kernel
theorem dX11_reckon_117 : decode cX11_reckon 117 = .ok (.ifCond .eq 8, 3) := by decide +kernel
theorem dX11_reckon_120 : decode cX11_reckon 120 = .ok (.iload 6, 2) := by decide +kernel
theorem dX11_reckon_122 : decode cX11_reckon 122 = .ok (.goto 7, 3) := by decide +kernel
theorem dX11_reckon_125 : decode cX11_reckon 125 = .ok (.iload_n 2, 1) := by decide +kernel
theorem dX11_reckon_126 : decode cX11_reckon 126 = .ok (.bipush 20, 2) := by decide +kernel
theorem dX11_reckon_128 : decode cX11_reckon 128 = .ok (.ishr, 1) := by decide +kernel
theorem dX11_reckon_129 : decode cX11_reckon 129 = .ok (.istore 11, 2) := by decide +kernel
theorem dX11_reckon_131 : decode cX11_reckon 131 = .ok (.iload 11, 2) := by decide +kernel
theorem dX11_reckon_133 : decode cX11_reckon 133 = .ok (.bipush 31, 2) := by decide +kernel
theorem dX11_reckon_135 : decode cX11_reckon 135 = .ok (.iand, 1) := by decide +kernel
theorem dX11_reckon_136 : decode cX11_reckon 136 = .ok (.istore 12, 2) := by decide +kernel
theorem dX11_reckon_138 : decode cX11_reckon 138 = .ok (.iload_n 3, 1) := by decide +kernel
theorem dX11_reckon_139 : decode cX11_reckon 139 = .ok (.tableswitch 159 0 6 #[41, 69, 79, 96, 116, 126, 149], 41) := by decide +kernel
theorem dX11_reckon_180 : decode cX11_reckon 180 = .ok (.iload 7, 2) := by decide +kernel
theorem dX11_reckon_182 : decode cX11_reckon 182 = .ok (.ifCond .eq 16, 3) := by decide +kernel
theorem dX11_reckon_185 : decode cX11_reckon 185 = .ok (.iload 9, 2) := by decide +kernel
theorem dX11_reckon_187 : decode cX11_reckon 187 = .ok (.ifCond .eq 11, 3) := by decide +kernel
theorem dX11_reckon_190 : decode cX11_reckon 190 = .ok (.iload 5, 2) := by decide +kernel
theorem dX11_reckon_192 : decode cX11_reckon 192 = .ok (.iload 11, 2) := by decide +kernel
theorem dX11_reckon_194 : decode cX11_reckon 194 = .ok (.isub, 1) := by decide +kernel
theorem dX11_reckon_195 : decode cX11_reckon 195 = .ok (.goto 8, 3) := by decide +kernel
theorem dX11_reckon_198 : decode cX11_reckon 198 = .ok (.iload 5, 2) := by decide +kernel
theorem dX11_reckon_200 : decode cX11_reckon 200 = .ok (.iload 11, 2) := by decide +kernel
theorem dX11_reckon_202 : decode cX11_reckon 202 = .ok (.iadd, 1) := by decide +kernel
theorem dX11_reckon_203 : decode cX11_reckon 203 = .ok (.istore 13, 2) := by decide +kernel
theorem dX11_reckon_205 : decode cX11_reckon 205 = .ok (.goto 100, 3) := by decide +kernel
theorem dX11_reckon_208 : decode cX11_reckon 208 = .ok (.iload 5, 2) := by decide +kernel
theorem dX11_reckon_210 : decode cX11_reckon 210 = .ok (.iload 12, 2) := by decide +kernel
theorem dX11_reckon_212 : decode cX11_reckon 212 = .ok (.ishl, 1) := by decide +kernel
theorem dX11_reckon_213 : decode cX11_reckon 213 = .ok (.istore 13, 2) := by decide +kernel
theorem dX11_reckon_215 : decode cX11_reckon 215 = .ok (.goto 90, 3) := by decide +kernel
theorem dX11_reckon_218 : decode cX11_reckon 218 = .ok (.iload 5, 2) := by decide +kernel
theorem dX11_reckon_220 : decode cX11_reckon 220 = .ok (.iload 11, 2) := by decide +kernel
theorem dX11_reckon_222 : decode cX11_reckon 222 = .ok (.if_icmp .ge 7, 3) := by decide +kernel
theorem dX11_reckon_225 : decode cX11_reckon 225 = .ok (.iconst 1, 1) := by decide +kernel
theorem dX11_reckon_226 : decode cX11_reckon 226 = .ok (.goto 4, 3) := by decide +kernel
theorem dX11_reckon_229 : decode cX11_reckon 229 = .ok (.iconst 0, 1) := by decide +kernel
theorem dX11_reckon_230 : decode cX11_reckon 230 = .ok (.istore 13, 2) := by decide +kernel
theorem dX11_reckon_232 : decode cX11_reckon 232 = .ok (.goto 73, 3) := by decide +kernel
theorem dX11_reckon_235 : decode cX11_reckon 235 = .ok (.iload 5, 2) := by decide +kernel
theorem dX11_reckon_237 : decode cX11_reckon 237 = .ok (.iload 11, 2) := by decide +kernel
theorem dX11_reckon_239 : decode cX11_reckon 239 = .ok (.invokestatic 617, 3) := by decide +kernel
theorem dX11_reckon_242 : decode cX11_reckon 242 = .ok (.ifCond .eq 7, 3) := by decide +kernel
theorem dX11_reckon_245 : decode cX11_reckon 245 = .ok (.iconst 1, 1) := by decide +kernel
theorem dX11_reckon_246 : decode cX11_reckon 246 = .ok (.goto 4, 3) := by decide +kernel
theorem dX11_reckon_249 : decode cX11_reckon 249 = .ok (.iconst 0, 1) := by decide +kernel
theorem dX11_reckon_250 : decode cX11_reckon 250 = .ok (.istore 13, 2) := by decide +kernel
theorem dX11_reckon_252 : decode cX11_reckon 252 = .ok (.goto 53, 3) := by decide +kernel
theorem dX11_reckon_255 : decode cX11_reckon 255 = .ok (.iload 5, 2) := by decide +kernel
theorem dX11_reckon_257 : decode cX11_reckon 257 = .ok (.iload 11, 2) := by decide +kernel
theorem dX11_reckon_259 : decode cX11_reckon 259 = .ok (.ixor, 1) := by decide +kernel
theorem dX11_reckon_260 : decode cX11_reckon 260 = .ok (.istore 13, 2) := by decide +kernel
theorem dX11_reckon_262 : decode cX11_reckon 262 = .ok (.goto 43, 3) := by decide +kernel
theorem dX11_reckon_265 : decode cX11_reckon 265 = .ok (.iload 9, 2) := by decide +kernel
theorem dX11_reckon_267 : decode cX11_reckon 267 = .ok (.ifCond .eq 11, 3) := by decide +kernel
theorem dX11_reckon_270 : decode cX11_reckon 270 = .ok (.iload 5, 2) := by decide +kernel
theorem dX11_reckon_272 : decode cX11_reckon 272 = .ok (.iload 12, 2) := by decide +kernel
theorem dX11_reckon_274 : decode cX11_reckon 274 = .ok (.ishr, 1) := by decide +kernel
theorem dX11_reckon_275 : decode cX11_reckon 275 = .ok (.goto 8, 3) := by decide +kernel
theorem dX11_reckon_278 : decode cX11_reckon 278 = .ok (.iload 5, 2) := by decide +kernel
theorem dX11_reckon_280 : decode cX11_reckon 280 = .ok (.iload 12, 2) := by decide +kernel
theorem dX11_reckon_282 : decode cX11_reckon 282 = .ok (.iushr, 1) := by decide +kernel
theorem dX11_reckon_283 : decode cX11_reckon 283 = .ok (.istore 13, 2) := by decide +kernel
theorem dX11_reckon_285 : decode cX11_reckon 285 = .ok (.goto 20, 3) := by decide +kernel
theorem dX11_reckon_288 : decode cX11_reckon 288 = .ok (.iload 5, 2) := by decide +kernel
theorem dX11_reckon_290 : decode cX11_reckon 290 = .ok (.iload 11, 2) := by decide +kernel
theorem dX11_reckon_292 : decode cX11_reckon 292 = .ok (.ior, 1) := by decide +kernel
theorem dX11_reckon_293 : decode cX11_reckon 293 = .ok (.istore 13, 2) := by decide +kernel
theorem dX11_reckon_295 : decode cX11_reckon 295 = .ok (.goto 10, 3) := by decide +kernel
theorem dX11_reckon_298 : decode cX11_reckon 298 = .ok (.iload 5, 2) := by decide +kernel
theorem dX11_reckon_300 : decode cX11_reckon 300 = .ok (.iload 11, 2) := by decide +kernel
theorem dX11_reckon_302 : decode cX11_reckon 302 = .ok (.iand, 1) := by decide +kernel
theorem dX11_reckon_303 : decode cX11_reckon 303 = .ok (.istore 13, 2) := by decide +kernel
theorem dX11_reckon_305 : decode cX11_reckon 305 = .ok (.aload_n 0, 1) := by decide +kernel
theorem dX11_reckon_306 : decode cX11_reckon 306 = .ok (.iload_n 1, 1) := by decide +kernel
theorem dX11_reckon_307 : decode cX11_reckon 307 = .ok (.iload 4, 2) := by decide +kernel
theorem dX11_reckon_309 : decode cX11_reckon 309 = .ok (.iload 13, 2) := by decide +kernel
theorem dX11_reckon_311 : decode cX11_reckon 311 = .ok (.invokevirtual 593, 3) := by decide +kernel
theorem dX11_reckon_314 : decode cX11_reckon 314 = .ok (.aload_n 0, 1) := by decide +kernel
theorem dX11_reckon_315 : decode cX11_reckon 315 = .ok (.iload_n 1, 1) := by decide +kernel
theorem dX11_reckon_316 : decode cX11_reckon 316 = .ok (.aload_n 0, 1) := by decide +kernel
theorem dX11_reckon_317 : decode cX11_reckon 317 = .ok (.getfield 62, 3) := by decide +kernel
theorem dX11_reckon_320 : decode cX11_reckon 320 = .ok (.iload_n 1, 1) := by decide +kernel
theorem dX11_reckon_321 : decode cX11_reckon 321 = .ok (.iaload, 1) := by decide +kernel
theorem dX11_reckon_322 : decode cX11_reckon 322 = .ok (.iconst 4, 1) := by decide +kernel
theorem dX11_reckon_323 : decode cX11_reckon 323 = .ok (.iadd, 1) := by decide +kernel
theorem dX11_reckon_324 : decode cX11_reckon 324 = .ok (.invokevirtual 585, 3) := by decide +kernel
theorem dX11_reckon_327 : decode cX11_reckon 327 = .ok (.ireturn, 1) := by decide +kernel
theorem dX11_atomic_0 : decode cX11_atomic 0 = .ok (.iload_n 2, 1) := by decide +kernel
theorem dX11_atomic_1 : decode cX11_atomic 1 = .ok (.bipush 27, 2) := by decide +kernel
theorem dX11_atomic_3 : decode cX11_atomic 3 = .ok (.iushr, 1) := by decide +kernel
theorem dX11_atomic_4 : decode cX11_atomic 4 = .ok (.istore 7, 2) := by decide +kernel
theorem dX11_atomic_6 : decode cX11_atomic 6 = .ok (.iload_n 3, 1) := by decide +kernel
theorem dX11_atomic_7 : decode cX11_atomic 7 = .ok (.iconst 2, 1) := by decide +kernel
theorem dX11_atomic_8 : decode cX11_atomic 8 = .ok (.if_icmp .ne 16, 3) := by decide +kernel
theorem dX11_atomic_11 : decode cX11_atomic 11 = .ok (.iload 7, 2) := by decide +kernel
theorem dX11_atomic_13 : decode cX11_atomic 13 = .ok (.iconst 4, 1) := by decide +kernel
theorem dX11_atomic_14 : decode cX11_atomic 14 = .ok (.irem, 1) := by decide +kernel
theorem dX11_atomic_15 : decode cX11_atomic 15 = .ok (.ifCond .eq 16, 3) := by decide +kernel
theorem dX11_atomic_18 : decode cX11_atomic 18 = .ok (.iload 7, 2) := by decide +kernel
theorem dX11_atomic_20 : decode cX11_atomic 20 = .ok (.iconst 1, 1) := by decide +kernel
theorem dX11_atomic_21 : decode cX11_atomic 21 = .ok (.if_icmp .eq 10, 3) := by decide +kernel
theorem dX11_atomic_24 : decode cX11_atomic 24 = .ok (.aload_n 0, 1) := by decide +kernel
theorem dX11_atomic_25 : decode cX11_atomic 25 = .ok (.iload_n 1, 1) := by decide +kernel
theorem dX11_atomic_26 : decode cX11_atomic 26 = .ok (.iconst 2, 1) := by decide +kernel
theorem dX11_atomic_27 : decode cX11_atomic 27 = .ok (.invokevirtual 596, 3) := by decide +kernel
theorem dX11_atomic_30 : decode cX11_atomic 30 = .ok (.ireturn, 1) := by decide +kernel
theorem dX11_atomic_31 : decode cX11_atomic 31 = .ok (.iload 5, 2) := by decide +kernel
theorem dX11_atomic_33 : decode cX11_atomic 33 = .ok (.iconst 4, 1) := by decide +kernel
theorem dX11_atomic_34 : decode cX11_atomic 34 = .ok (.irem, 1) := by decide +kernel
theorem dX11_atomic_35 : decode cX11_atomic 35 = .ok (.ifCond .eq 10, 3) := by decide +kernel
theorem dX11_atomic_38 : decode cX11_atomic 38 = .ok (.aload_n 0, 1) := by decide +kernel
theorem dX11_atomic_39 : decode cX11_atomic 39 = .ok (.iload_n 1, 1) := by decide +kernel
theorem dX11_atomic_40 : decode cX11_atomic 40 = .ok (.iconst 4, 1) := by decide +kernel
theorem dX11_atomic_41 : decode cX11_atomic 41 = .ok (.invokevirtual 596, 3) := by decide +kernel
theorem dX11_atomic_44 : decode cX11_atomic 44 = .ok (.ireturn, 1) := by decide +kernel
theorem dX11_atomic_45 : decode cX11_atomic 45 = .ok (.aload_n 0, 1) := by decide +kernel
theorem dX11_atomic_46 : decode cX11_atomic 46 = .ok (.getfield 74, 3) := by decide +kernel
theorem dX11_atomic_49 : decode cX11_atomic 49 = .ok (.iload_n 1, 1) := by decide +kernel
theorem dX11_atomic_50 : decode cX11_atomic 50 = .ok (.iaload, 1) := by decide +kernel
theorem dX11_atomic_51 : decode cX11_atomic 51 = .ok (.ifCond .le 5, 3) := by decide +kernel
theorem dX11_atomic_54 : decode cX11_atomic 54 = .ok (.iconst 5, 1) := by decide +kernel
theorem dX11_atomic_55 : decode cX11_atomic 55 = .ok (.ireturn, 1) := by decide +kernel
theorem dX11_atomic_56 : decode cX11_atomic 56 = .ok (.iload 5, 2) := by decide +kernel
theorem dX11_atomic_58 : decode cX11_atomic 58 = .ok (.sipush 8191, 3) := by decide +kernel
theorem dX11_atomic_61 : decode cX11_atomic 61 = .ok (.iand, 1) := by decide +kernel
theorem dX11_atomic_62 : decode cX11_atomic 62 = .ok (.istore 8, 2) := by decide +kernel
theorem dX11_atomic_64 : decode cX11_atomic 64 = .ok (.aload_n 0, 1) := by decide +kernel
theorem dX11_atomic_65 : decode cX11_atomic 65 = .ok (.iload_n 1, 1) := by decide +kernel
theorem dX11_atomic_66 : decode cX11_atomic 66 = .ok (.iload 8, 2) := by decide +kernel
theorem dX11_atomic_68 : decode cX11_atomic 68 = .ok (.invokevirtual 620, 3) := by decide +kernel
theorem dX11_atomic_71 : decode cX11_atomic 71 = .ok (.ifCond .ne 6, 3) := by decide +kernel
theorem dX11_atomic_74 : decode cX11_atomic 74 = .ok (.bipush 6, 2) := by decide +kernel
theorem dX11_atomic_76 : decode cX11_atomic 76 = .ok (.ireturn, 1) := by decide +kernel
theorem dX11_atomic_77 : decode cX11_atomic 77 = .ok (.aload_n 0, 1) := by decide +kernel
theorem dX11_atomic_78 : decode cX11_atomic 78 = .ok (.getfield 53, 3) := by decide +kernel
theorem dX11_atomic_81 : decode cX11_atomic 81 = .ok (.iload 8, 2) := by decide +kernel
theorem dX11_atomic_83 : decode cX11_atomic 83 = .ok (.iconst 4, 1) := by decide +kernel
theorem dX11_atomic_84 : decode cX11_atomic 84 = .ok (.idiv, 1) := by decide +kernel
theorem dX11_atomic_85 : decode cX11_atomic 85 = .ok (.iaload, 1) := by decide +kernel
theorem dX11_atomic_86 : decode cX11_atomic 86 = .ok (.istore 9, 2) := by decide +kernel
theorem dX11_atomic_88 : decode cX11_atomic 88 = .ok (.iload 7, 2) := by decide +kernel
theorem dX11_atomic_90 : decode cX11_atomic 90 = .ok (.tableswitch 221 0 24 #[114, 124, 221, 221, 131, 221, 221, 221, 141, 221, 221, 221, 151, 221, 221, 221, 161, 221, 221, 221, 180, 221, 221, 221, 199], 114) := by decide +kernel
theorem dX11_atomic_204 : decode cX11_atomic 204 = .ok (.iload 9, 2) := by decide +kernel
theorem dX11_atomic_206 : decode cX11_atomic 206 = .ok (.iload 6, 2) := by decide +kernel
theorem dX11_atomic_208 : decode cX11_atomic 208 = .ok (.iadd, 1) := by decide +kernel
theorem dX11_atomic_209 : decode cX11_atomic 209 = .ok (.istore 10, 2) := by decide +kernel
theorem dX11_atomic_211 : decode cX11_atomic 211 = .ok (.goto 119, 3) := by decide +kernel
theorem dX11_atomic_214 : decode cX11_atomic 214 = .ok (.iload 6, 2) := by decide +kernel
theorem dX11_atomic_216 : decode cX11_atomic 216 = .ok (.istore 10, 2) := by decide +kernel
theorem dX11_atomic_218 : decode cX11_atomic 218 = .ok (.goto 112, 3) := by decide +kernel
theorem dX11_atomic_221 : decode cX11_atomic 221 = .ok (.iload 9, 2) := by decide +kernel
theorem dX11_atomic_223 : decode cX11_atomic 223 = .ok (.iload 6, 2) := by decide +kernel
theorem dX11_atomic_225 : decode cX11_atomic 225 = .ok (.ixor, 1) := by decide +kernel
theorem dX11_atomic_226 : decode cX11_atomic 226 = .ok (.istore 10, 2) := by decide +kernel
theorem dX11_atomic_228 : decode cX11_atomic 228 = .ok (.goto 102, 3) := by decide +kernel
theorem dX11_atomic_231 : decode cX11_atomic 231 = .ok (.iload 9, 2) := by decide +kernel
theorem dX11_atomic_233 : decode cX11_atomic 233 = .ok (.iload 6, 2) := by decide +kernel
theorem dX11_atomic_235 : decode cX11_atomic 235 = .ok (.ior, 1) := by decide +kernel
theorem dX11_atomic_236 : decode cX11_atomic 236 = .ok (.istore 10, 2) := by decide +kernel
theorem dX11_atomic_238 : decode cX11_atomic 238 = .ok (.goto 92, 3) := by decide +kernel
theorem dX11_atomic_241 : decode cX11_atomic 241 = .ok (.iload 9, 2) := by decide +kernel
theorem dX11_atomic_243 : decode cX11_atomic 243 = .ok (.iload 6, 2) := by decide +kernel
theorem dX11_atomic_245 : decode cX11_atomic 245 = .ok (.iand, 1) := by decide +kernel
theorem dX11_atomic_246 : decode cX11_atomic 246 = .ok (.istore 10, 2) := by decide +kernel
theorem dX11_atomic_248 : decode cX11_atomic 248 = .ok (.goto 82, 3) := by decide +kernel
theorem dX11_atomic_251 : decode cX11_atomic 251 = .ok (.iload 9, 2) := by decide +kernel
theorem dX11_atomic_253 : decode cX11_atomic 253 = .ok (.iload 6, 2) := by decide +kernel
theorem dX11_atomic_255 : decode cX11_atomic 255 = .ok (.if_icmp .ge 8, 3) := by decide +kernel
theorem dX11_atomic_258 : decode cX11_atomic 258 = .ok (.iload 9, 2) := by decide +kernel
theorem dX11_atomic_260 : decode cX11_atomic 260 = .ok (.goto 5, 3) := by decide +kernel
theorem dX11_atomic_263 : decode cX11_atomic 263 = .ok (.iload 6, 2) := by decide +kernel
theorem dX11_atomic_265 : decode cX11_atomic 265 = .ok (.istore 10, 2) := by decide +kernel
theorem dX11_atomic_267 : decode cX11_atomic 267 = .ok (.goto 63, 3) := by decide +kernel
theorem dX11_atomic_270 : decode cX11_atomic 270 = .ok (.iload 9, 2) := by decide +kernel
theorem dX11_atomic_272 : decode cX11_atomic 272 = .ok (.iload 6, 2) := by decide +kernel
theorem dX11_atomic_274 : decode cX11_atomic 274 = .ok (.if_icmp .le 8, 3) := by decide +kernel
theorem dX11_atomic_277 : decode cX11_atomic 277 = .ok (.iload 9, 2) := by decide +kernel
theorem dX11_atomic_279 : decode cX11_atomic 279 = .ok (.goto 5, 3) := by decide +kernel
theorem dX11_atomic_282 : decode cX11_atomic 282 = .ok (.iload 6, 2) := by decide +kernel
theorem dX11_atomic_284 : decode cX11_atomic 284 = .ok (.istore 10, 2) := by decide +kernel
theorem dX11_atomic_286 : decode cX11_atomic 286 = .ok (.goto 44, 3) := by decide +kernel
theorem dX11_atomic_289 : decode cX11_atomic 289 = .ok (.iload 9, 2) := by decide +kernel
theorem dX11_atomic_291 : decode cX11_atomic 291 = .ok (.iload 6, 2) := by decide +kernel
theorem dX11_atomic_293 : decode cX11_atomic 293 = .ok (.invokestatic 617, 3) := by decide +kernel
theorem dX11_atomic_296 : decode cX11_atomic 296 = .ok (.ifCond .eq 8, 3) := by decide +kernel
theorem dX11_atomic_299 : decode cX11_atomic 299 = .ok (.iload 9, 2) := by decide +kernel
theorem dX11_atomic_301 : decode cX11_atomic 301 = .ok (.goto 5, 3) := by decide +kernel
theorem dX11_atomic_304 : decode cX11_atomic 304 = .ok (.iload 6, 2) := by decide +kernel
theorem dX11_atomic_306 : decode cX11_atomic 306 = .ok (.istore 10, 2) := by decide +kernel
theorem dX11_atomic_308 : decode cX11_atomic 308 = .ok (.goto 22, 3) := by decide +kernel
theorem dX11_atomic_311 : decode cX11_atomic 311 = .ok (.iload 9, 2) := by decide +kernel
theorem dX11_atomic_313 : decode cX11_atomic 313 = .ok (.iload 6, 2) := by decide +kernel
theorem dX11_atomic_315 : decode cX11_atomic 315 = .ok (.invokestatic 617, 3) := by decide +kernel
theorem dX11_atomic_318 : decode cX11_atomic 318 = .ok (.ifCond .eq 8, 3) := by decide +kernel
theorem dX11_atomic_321 : decode cX11_atomic 321 = .ok (.iload 6, 2) := by decide +kernel
theorem dX11_atomic_323 : decode cX11_atomic 323 = .ok (.goto 5, 3) := by decide +kernel
theorem dX11_atomic_326 : decode cX11_atomic 326 = .ok (.iload 9, 2) := by decide +kernel
theorem dX11_atomic_328 : decode cX11_atomic 328 = .ok (.istore 10, 2) := by decide +kernel
theorem dX11_atomic_330 : decode cX11_atomic 330 = .ok (.aload_n 0, 1) := by decide +kernel
theorem dX11_atomic_331 : decode cX11_atomic 331 = .ok (.getfield 53, 3) := by decide +kernel
theorem dX11_atomic_334 : decode cX11_atomic 334 = .ok (.iload 8, 2) := by decide +kernel
theorem dX11_atomic_336 : decode cX11_atomic 336 = .ok (.iconst 4, 1) := by decide +kernel
theorem dX11_atomic_337 : decode cX11_atomic 337 = .ok (.idiv, 1) := by decide +kernel
theorem dX11_atomic_338 : decode cX11_atomic 338 = .ok (.iload 10, 2) := by decide +kernel
theorem dX11_atomic_340 : decode cX11_atomic 340 = .ok (.iastore, 1) := by decide +kernel
theorem dX11_atomic_341 : decode cX11_atomic 341 = .ok (.aload_n 0, 1) := by decide +kernel
theorem dX11_atomic_342 : decode cX11_atomic 342 = .ok (.iload_n 1, 1) := by decide +kernel
theorem dX11_atomic_343 : decode cX11_atomic 343 = .ok (.iload 4, 2) := by decide +kernel
theorem dX11_atomic_345 : decode cX11_atomic 345 = .ok (.iload 9, 2) := by decide +kernel
theorem dX11_atomic_347 : decode cX11_atomic 347 = .ok (.invokevirtual 593, 3) := by decide +kernel
theorem dX11_atomic_350 : decode cX11_atomic 350 = .ok (.aload_n 0, 1) := by decide +kernel
theorem dX11_atomic_351 : decode cX11_atomic 351 = .ok (.iload 8, 2) := by decide +kernel
theorem dX11_atomic_353 : decode cX11_atomic 353 = .ok (.putfield 576, 3) := by decide +kernel
theorem dX11_atomic_356 : decode cX11_atomic 356 = .ok (.aload_n 0, 1) := by decide +kernel
theorem dX11_atomic_357 : decode cX11_atomic 357 = .ok (.iload 9, 2) := by decide +kernel
theorem dX11_atomic_359 : decode cX11_atomic 359 = .ok (.putfield 579, 3) := by decide +kernel
theorem dX11_atomic_362 : decode cX11_atomic 362 = .ok (.aload_n 0, 1) := by decide +kernel
theorem dX11_atomic_363 : decode cX11_atomic 363 = .ok (.iload 10, 2) := by decide +kernel
theorem dX11_atomic_365 : decode cX11_atomic 365 = .ok (.putfield 582, 3) := by decide +kernel
theorem dX11_atomic_368 : decode cX11_atomic 368 = .ok (.aload_n 0, 1) := by decide +kernel
theorem dX11_atomic_369 : decode cX11_atomic 369 = .ok (.iload_n 1, 1) := by decide +kernel
theorem dX11_atomic_370 : decode cX11_atomic 370 = .ok (.aload_n 0, 1) := by decide +kernel
theorem dX11_atomic_371 : decode cX11_atomic 371 = .ok (.getfield 62, 3) := by decide +kernel
theorem dX11_atomic_374 : decode cX11_atomic 374 = .ok (.iload_n 1, 1) := by decide +kernel
theorem dX11_atomic_375 : decode cX11_atomic 375 = .ok (.iaload, 1) := by decide +kernel
theorem dX11_atomic_376 : decode cX11_atomic 376 = .ok (.iconst 4, 1) := by decide +kernel
theorem dX11_atomic_377 : decode cX11_atomic 377 = .ok (.iadd, 1) := by decide +kernel
theorem dX11_atomic_378 : decode cX11_atomic 378 = .ok (.invokevirtual 585, 3) := by decide +kernel
theorem dX11_atomic_381 : decode cX11_atomic 381 = .ok (.ireturn, 1) := by decide +kernel
theorem dX11_drainOf_0 : decode cX11_drainOf 0 = .ok (.aload_n 0, 1) := by decide +kernel
theorem dX11_drainOf_1 : decode cX11_drainOf 1 = .ok (.getfield 74, 3) := by decide +kernel
theorem dX11_drainOf_4 : decode cX11_drainOf 4 = .ok (.iload_n 1, 1) := by decide +kernel
theorem dX11_drainOf_5 : decode cX11_drainOf 5 = .ok (.iaload, 1) := by decide +kernel
theorem dX11_drainOf_6 : decode cX11_drainOf 6 = .ok (.ifCond .ne 5, 3) := by decide +kernel
theorem dX11_drainOf_9 : decode cX11_drainOf 9 = .ok (.iconst 0, 1) := by decide +kernel
theorem dX11_drainOf_10 : decode cX11_drainOf 10 = .ok (.ireturn, 1) := by decide +kernel
theorem dX11_drainOf_11 : decode cX11_drainOf 11 = .ok (.aload_n 0, 1) := by decide +kernel
theorem dX11_drainOf_12 : decode cX11_drainOf 12 = .ok (.getfield 77, 3) := by decide +kernel
theorem dX11_drainOf_15 : decode cX11_drainOf 15 = .ok (.bipush 16, 2) := by decide +kernel
theorem dX11_drainOf_17 : decode cX11_drainOf 17 = .ok (.iload_n 1, 1) := by decide +kernel
theorem dX11_drainOf_18 : decode cX11_drainOf 18 = .ok (.imul, 1) := by decide +kernel
theorem dX11_drainOf_19 : decode cX11_drainOf 19 = .ok (.iaload, 1) := by decide +kernel
theorem dX11_drainOf_20 : decode cX11_drainOf 20 = .ok (.istore_n 2, 1) := by decide +kernel
theorem dX11_drainOf_21 : decode cX11_drainOf 21 = .ok (.aload_n 0, 1) := by decide +kernel
theorem dX11_drainOf_22 : decode cX11_drainOf 22 = .ok (.iload_n 1, 1) := by decide +kernel
theorem dX11_drainOf_23 : decode cX11_drainOf 23 = .ok (.iload_n 2, 1) := by decide +kernel
theorem dX11_drainOf_24 : decode cX11_drainOf 24 = .ok (.invokevirtual 620, 3) := by decide +kernel
theorem dX11_drainOf_27 : decode cX11_drainOf 27 = .ok (.ifCond .ne 5, 3) := by decide +kernel
theorem dX11_drainOf_30 : decode cX11_drainOf 30 = .ok (.iconst 2, 1) := by decide +kernel
theorem dX11_drainOf_31 : decode cX11_drainOf 31 = .ok (.ireturn, 1) := by decide +kernel
theorem dX11_drainOf_32 : decode cX11_drainOf 32 = .ok (.aload_n 0, 1) := by decide +kernel
theorem dX11_drainOf_33 : decode cX11_drainOf 33 = .ok (.getfield 80, 3) := by decide +kernel
theorem dX11_drainOf_36 : decode cX11_drainOf 36 = .ok (.bipush 16, 2) := by decide +kernel
theorem dX11_drainOf_38 : decode cX11_drainOf 38 = .ok (.iload_n 1, 1) := by decide +kernel
theorem dX11_drainOf_39 : decode cX11_drainOf 39 = .ok (.imul, 1) := by decide +kernel
theorem dX11_drainOf_40 : decode cX11_drainOf 40 = .ok (.iaload, 1) := by decide +kernel
theorem dX11_drainOf_41 : decode cX11_drainOf 41 = .ok (.invokestatic 557, 3) := by decide +kernel
theorem dX11_drainOf_44 : decode cX11_drainOf 44 = .ok (.istore_n 3, 1) := by decide +kernel
theorem dX11_drainOf_45 : decode cX11_drainOf 45 = .ok (.aload_n 0, 1) := by decide +kernel
theorem dX11_drainOf_46 : decode cX11_drainOf 46 = .ok (.getfield 53, 3) := by decide +kernel
theorem dX11_drainOf_49 : decode cX11_drainOf 49 = .ok (.iload_n 2, 1) := by decide +kernel
theorem dX11_drainOf_50 : decode cX11_drainOf 50 = .ok (.iconst 4, 1) := by decide +kernel
theorem dX11_drainOf_51 : decode cX11_drainOf 51 = .ok (.idiv, 1) := by decide +kernel
theorem dX11_drainOf_52 : decode cX11_drainOf 52 = .ok (.aload_n 0, 1) := by decide +kernel
theorem dX11_drainOf_53 : decode cX11_drainOf 53 = .ok (.getfield 53, 3) := by decide +kernel
theorem dX11_drainOf_56 : decode cX11_drainOf 56 = .ok (.iload_n 2, 1) := by decide +kernel
theorem dX11_drainOf_57 : decode cX11_drainOf 57 = .ok (.iconst 4, 1) := by decide +kernel
theorem dX11_drainOf_58 : decode cX11_drainOf 58 = .ok (.idiv, 1) := by decide +kernel
theorem dX11_drainOf_59 : decode cX11_drainOf 59 = .ok (.iaload, 1) := by decide +kernel
theorem dX11_drainOf_60 : decode cX11_drainOf 60 = .ok (.iload_n 3, 1) := by decide +kernel
theorem dX11_drainOf_61 : decode cX11_drainOf 61 = .ok (.iconst (-1), 1) := by decide +kernel
theorem dX11_drainOf_62 : decode cX11_drainOf 62 = .ok (.ixor, 1) := by decide +kernel
theorem dX11_drainOf_63 : decode cX11_drainOf 63 = .ok (.iand, 1) := by decide +kernel
theorem dX11_drainOf_64 : decode cX11_drainOf 64 = .ok (.aload_n 0, 1) := by decide +kernel
theorem dX11_drainOf_65 : decode cX11_drainOf 65 = .ok (.getfield 83, 3) := by decide +kernel
theorem dX11_drainOf_68 : decode cX11_drainOf 68 = .ok (.bipush 16, 2) := by decide +kernel
theorem dX11_drainOf_70 : decode cX11_drainOf 70 = .ok (.iload_n 1, 1) := by decide +kernel
theorem dX11_drainOf_71 : decode cX11_drainOf 71 = .ok (.imul, 1) := by decide +kernel
theorem dX11_drainOf_72 : decode cX11_drainOf 72 = .ok (.iaload, 1) := by decide +kernel
theorem dX11_drainOf_73 : decode cX11_drainOf 73 = .ok (.ior, 1) := by decide +kernel
theorem dX11_drainOf_74 : decode cX11_drainOf 74 = .ok (.iastore, 1) := by decide +kernel
theorem dX11_drainOf_75 : decode cX11_drainOf 75 = .ok (.aload_n 0, 1) := by decide +kernel
theorem dX11_drainOf_76 : decode cX11_drainOf 76 = .ok (.getfield 74, 3) := by decide +kernel
theorem dX11_drainOf_79 : decode cX11_drainOf 79 = .ok (.iload_n 1, 1) := by decide +kernel
theorem dX11_drainOf_80 : decode cX11_drainOf 80 = .ok (.dup2, 1) := by decide +kernel
theorem dX11_drainOf_81 : decode cX11_drainOf 81 = .ok (.iaload, 1) := by decide +kernel
theorem dX11_drainOf_82 : decode cX11_drainOf 82 = .ok (.iconst 1, 1) := by decide +kernel
theorem dX11_drainOf_83 : decode cX11_drainOf 83 = .ok (.isub, 1) := by decide +kernel
theorem dX11_drainOf_84 : decode cX11_drainOf 84 = .ok (.iastore, 1) := by decide +kernel
theorem dX11_drainOf_85 : decode cX11_drainOf 85 = .ok (.bipush 16, 2) := by decide +kernel
theorem dX11_drainOf_87 : decode cX11_drainOf 87 = .ok (.iload_n 1, 1) := by decide +kernel
theorem dX11_drainOf_88 : decode cX11_drainOf 88 = .ok (.imul, 1) := by decide +kernel
theorem dX11_drainOf_89 : decode cX11_drainOf 89 = .ok (.istore 4, 2) := by decide +kernel
theorem dX11_drainOf_91 : decode cX11_drainOf 91 = .ok (.iload 4, 2) := by decide +kernel
theorem dX11_drainOf_93 : decode cX11_drainOf 93 = .ok (.bipush 16, 2) := by decide +kernel
theorem dX11_drainOf_95 : decode cX11_drainOf 95 = .ok (.iload_n 1, 1) := by decide +kernel
theorem dX11_drainOf_96 : decode cX11_drainOf 96 = .ok (.imul, 1) := by decide +kernel
theorem dX11_drainOf_97 : decode cX11_drainOf 97 = .ok (.aload_n 0, 1) := by decide +kernel
theorem dX11_drainOf_98 : decode cX11_drainOf 98 = .ok (.getfield 74, 3) := by decide +kernel
theorem dX11_drainOf_101 : decode cX11_drainOf 101 = .ok (.iload_n 1, 1) := by decide +kernel
theorem dX11_drainOf_102 : decode cX11_drainOf 102 = .ok (.iaload, 1) := by decide +kernel
theorem dX11_drainOf_103 : decode cX11_drainOf 103 = .ok (.iadd, 1) := by decide +kernel
theorem dX11_drainOf_104 : decode cX11_drainOf 104 = .ok (.if_icmp .ge 57, 3) := by decide +kernel
theorem dX11_drainOf_107 : decode cX11_drainOf 107 = .ok (.aload_n 0, 1) := by decide +kernel
theorem dX11_drainOf_108 : decode cX11_drainOf 108 = .ok (.getfield 77, 3) := by decide +kernel
theorem dX11_drainOf_111 : decode cX11_drainOf 111 = .ok (.iload 4, 2) := by decide +kernel
theorem dX11_drainOf_113 : decode cX11_drainOf 113 = .ok (.aload_n 0, 1) := by decide +kernel
theorem dX11_drainOf_114 : decode cX11_drainOf 114 = .ok (.getfield 77, 3) := by decide +kernel
theorem dX11_drainOf_117 : decode cX11_drainOf 117 = .ok (.iload 4, 2) := by decide +kernel
theorem dX11_drainOf_119 : decode cX11_drainOf 119 = .ok (.iconst 1, 1) := by decide +kernel
theorem dX11_drainOf_120 : decode cX11_drainOf 120 = .ok (.iadd, 1) := by decide +kernel
theorem dX11_drainOf_121 : decode cX11_drainOf 121 = .ok (.iaload, 1) := by decide +kernel
theorem dX11_drainOf_122 : decode cX11_drainOf 122 = .ok (.iastore, 1) := by decide +kernel
theorem dX11_drainOf_123 : decode cX11_drainOf 123 = .ok (.aload_n 0, 1) := by decide +kernel
theorem dX11_drainOf_124 : decode cX11_drainOf 124 = .ok (.getfield 80, 3) := by decide +kernel
theorem dX11_drainOf_127 : decode cX11_drainOf 127 = .ok (.iload 4, 2) := by decide +kernel
theorem dX11_drainOf_129 : decode cX11_drainOf 129 = .ok (.aload_n 0, 1) := by decide +kernel
theorem dX11_drainOf_130 : decode cX11_drainOf 130 = .ok (.getfield 80, 3) := by decide +kernel
theorem dX11_drainOf_133 : decode cX11_drainOf 133 = .ok (.iload 4, 2) := by decide +kernel
theorem dX11_drainOf_135 : decode cX11_drainOf 135 = .ok (.iconst 1, 1) := by decide +kernel
theorem dX11_drainOf_136 : decode cX11_drainOf 136 = .ok (.iadd, 1) := by decide +kernel
theorem dX11_drainOf_137 : decode cX11_drainOf 137 = .ok (.iaload, 1) := by decide +kernel
theorem dX11_drainOf_138 : decode cX11_drainOf 138 = .ok (.iastore, 1) := by decide +kernel
theorem dX11_drainOf_139 : decode cX11_drainOf 139 = .ok (.aload_n 0, 1) := by decide +kernel
theorem dX11_drainOf_140 : decode cX11_drainOf 140 = .ok (.getfield 83, 3) := by decide +kernel
theorem dX11_drainOf_143 : decode cX11_drainOf 143 = .ok (.iload 4, 2) := by decide +kernel
theorem dX11_drainOf_145 : decode cX11_drainOf 145 = .ok (.aload_n 0, 1) := by decide +kernel
theorem dX11_drainOf_146 : decode cX11_drainOf 146 = .ok (.getfield 83, 3) := by decide +kernel
theorem dX11_drainOf_149 : decode cX11_drainOf 149 = .ok (.iload 4, 2) := by decide +kernel
theorem dX11_drainOf_151 : decode cX11_drainOf 151 = .ok (.iconst 1, 1) := by decide +kernel
theorem dX11_drainOf_152 : decode cX11_drainOf 152 = .ok (.iadd, 1) := by decide +kernel
theorem dX11_drainOf_153 : decode cX11_drainOf 153 = .ok (.iaload, 1) := by decide +kernel
theorem dX11_drainOf_154 : decode cX11_drainOf 154 = .ok (.iastore, 1) := by decide +kernel
theorem dX11_drainOf_155 : decode cX11_drainOf 155 = .ok (.iinc 4 1, 3) := by decide +kernel
theorem dX11_drainOf_158 : decode cX11_drainOf 158 = .ok (.goto (-67), 3) := by decide +kernel
theorem dX11_drainOf_161 : decode cX11_drainOf 161 = .ok (.iconst 1, 1) := by decide +kernel
theorem dX11_drainOf_162 : decode cX11_drainOf 162 = .ok (.ireturn, 1) := by decide +kernel
theorem dX11_homeSet_0 : decode cX11_homeSet 0 = .ok (.bipush 8, 2) := by decide +kernel
theorem dX11_homeSet_2 : decode cX11_homeSet 2 = .ok (.iload_n 1, 1) := by decide +kernel
theorem dX11_homeSet_3 : decode cX11_homeSet 3 = .ok (.aload_n 0, 1) := by decide +kernel
theorem dX11_homeSet_4 : decode cX11_homeSet 4 = .ok (.getfield 47, 3) := by decide +kernel
theorem dX11_homeSet_7 : decode cX11_homeSet 7 = .ok (.iconst 4, 1) := by decide +kernel
theorem dX11_homeSet_8 : decode cX11_homeSet 8 = .ok (.iaload, 1) := by decide +kernel
theorem dX11_homeSet_9 : decode cX11_homeSet 9 = .ok (.irem, 1) := by decide +kernel
theorem dX11_homeSet_10 : decode cX11_homeSet 10 = .ok (.imul, 1) := by decide +kernel
theorem dX11_homeSet_11 : decode cX11_homeSet 11 = .ok (.ireturn, 1) := by decide +kernel
theorem dX11_homeWay_0 : decode cX11_homeWay 0 = .ok (.aload_n 0, 1) := by decide +kernel
theorem dX11_homeWay_1 : decode cX11_homeWay 1 = .ok (.iload_n 1, 1) := by decide +kernel
theorem dX11_homeWay_2 : decode cX11_homeWay 2 = .ok (.invokevirtual 623, 3) := by decide +kernel
theorem dX11_homeWay_5 : decode cX11_homeWay 5 = .ok (.istore_n 2, 1) := by decide +kernel
theorem dX11_homeWay_6 : decode cX11_homeWay 6 = .ok (.iload_n 2, 1) := by decide +kernel
theorem dX11_homeWay_7 : decode cX11_homeWay 7 = .ok (.aload_n 0, 1) := by decide +kernel
theorem dX11_homeWay_8 : decode cX11_homeWay 8 = .ok (.iload_n 1, 1) := by decide +kernel
theorem dX11_homeWay_9 : decode cX11_homeWay 9 = .ok (.invokevirtual 623, 3) := by decide +kernel
theorem dX11_homeWay_12 : decode cX11_homeWay 12 = .ok (.aload_n 0, 1) := by decide +kernel
theorem dX11_homeWay_13 : decode cX11_homeWay 13 = .ok (.getfield 47, 3) := by decide +kernel
theorem dX11_homeWay_16 : decode cX11_homeWay 16 = .ok (.iconst 5, 1) := by decide +kernel
theorem dX11_homeWay_17 : decode cX11_homeWay 17 = .ok (.iaload, 1) := by decide +kernel
theorem dX11_homeWay_18 : decode cX11_homeWay 18 = .ok (.iadd, 1) := by decide +kernel
theorem dX11_homeWay_19 : decode cX11_homeWay 19 = .ok (.if_icmp .ge 21, 3) := by decide +kernel
theorem dX11_homeWay_22 : decode cX11_homeWay 22 = .ok (.aload_n 0, 1) := by decide +kernel
theorem dX11_homeWay_23 : decode cX11_homeWay 23 = .ok (.getfield 114, 3) := by decide +kernel
theorem dX11_homeWay_26 : decode cX11_homeWay 26 = .ok (.iload_n 2, 1) := by decide +kernel
theorem dX11_homeWay_27 : decode cX11_homeWay 27 = .ok (.iaload, 1) := by decide +kernel
theorem dX11_homeWay_28 : decode cX11_homeWay 28 = .ok (.iload_n 1, 1) := by decide +kernel
theorem dX11_homeWay_29 : decode cX11_homeWay 29 = .ok (.if_icmp .ne 5, 3) := by decide +kernel
theorem dX11_homeWay_32 : decode cX11_homeWay 32 = .ok (.iload_n 2, 1) := by decide +kernel
theorem dX11_homeWay_33 : decode cX11_homeWay 33 = .ok (.ireturn, 1) := by decide +kernel
theorem dX11_homeWay_34 : decode cX11_homeWay 34 = .ok (.iinc 2 1, 3) := by decide +kernel
theorem dX11_homeWay_37 : decode cX11_homeWay 37 = .ok (.goto (-31), 3) := by decide +kernel
theorem dX11_homeWay_40 : decode cX11_homeWay 40 = .ok (.iconst (-1), 1) := by decide +kernel
theorem dX11_homeWay_41 : decode cX11_homeWay 41 = .ok (.ireturn, 1) := by decide +kernel
theorem dX11_give_0 : decode cX11_give 0 = .ok (.aload_n 0, 1) := by decide +kernel
theorem dX11_give_1 : decode cX11_give 1 = .ok (.iload_n 1, 1) := by decide +kernel
theorem dX11_give_2 : decode cX11_give 2 = .ok (.bipush 16, 2) := by decide +kernel
theorem dX11_give_4 : decode cX11_give 4 = .ok (.iload_n 2, 1) := by decide +kernel
theorem dX11_give_5 : decode cX11_give 5 = .ok (.iload_n 3, 1) := by decide +kernel
theorem dX11_give_6 : decode cX11_give 6 = .ok (.invokevirtual 532, 3) := by decide +kernel
theorem dX11_give_9 : decode cX11_give 9 = .ok (.aload_n 0, 1) := by decide +kernel
theorem dX11_give_10 : decode cX11_give 10 = .ok (.iload_n 3, 1) := by decide +kernel
theorem dX11_give_11 : decode cX11_give 11 = .ok (.invokevirtual 551, 3) := by decide +kernel
theorem dX11_give_14 : decode cX11_give 14 = .ok (.aload_n 0, 1) := by decide +kernel
theorem dX11_give_15 : decode cX11_give 15 = .ok (.invokevirtual 536, 3) := by decide +kernel
theorem dX11_give_18 : decode cX11_give 18 = .ok (.return_, 1) := by decide +kernel
theorem dX11_writeBack_0 : decode cX11_writeBack 0 = .ok (.iconst 0, 1) := by decide +kernel
theorem dX11_writeBack_1 : decode cX11_writeBack 1 = .ok (.istore_n 2, 1) := by decide +kernel
theorem dX11_writeBack_2 : decode cX11_writeBack 2 = .ok (.aload_n 0, 1) := by decide +kernel
theorem dX11_writeBack_3 : decode cX11_writeBack 3 = .ok (.getfield 120, 3) := by decide +kernel
theorem dX11_writeBack_6 : decode cX11_writeBack 6 = .ok (.iload_n 1, 1) := by decide +kernel
theorem dX11_writeBack_7 : decode cX11_writeBack 7 = .ok (.baload, 1) := by decide +kernel
theorem dX11_writeBack_8 : decode cX11_writeBack 8 = .ok (.ifCond .eq 39, 3) := by decide +kernel
theorem dX11_writeBack_11 : decode cX11_writeBack 11 = .ok (.iload_n 2, 1) := by decide +kernel
theorem dX11_writeBack_12 : decode cX11_writeBack 12 = .ok (.iconst 4, 1) := by decide +kernel
theorem dX11_writeBack_13 : decode cX11_writeBack 13 = .ok (.if_icmp .ge 34, 3) := by decide +kernel
theorem dX11_writeBack_16 : decode cX11_writeBack 16 = .ok (.aload_n 0, 1) := by decide +kernel
theorem dX11_writeBack_17 : decode cX11_writeBack 17 = .ok (.getfield 56, 3) := by decide +kernel
theorem dX11_writeBack_20 : decode cX11_writeBack 20 = .ok (.iconst 4, 1) := by decide +kernel
theorem dX11_writeBack_21 : decode cX11_writeBack 21 = .ok (.aload_n 0, 1) := by decide +kernel
theorem dX11_writeBack_22 : decode cX11_writeBack 22 = .ok (.getfield 114, 3) := by decide +kernel
theorem dX11_writeBack_25 : decode cX11_writeBack 25 = .ok (.iload_n 1, 1) := by decide +kernel
theorem dX11_writeBack_26 : decode cX11_writeBack 26 = .ok (.iaload, 1) := by decide +kernel
theorem dX11_writeBack_27 : decode cX11_writeBack 27 = .ok (.imul, 1) := by decide +kernel
theorem dX11_writeBack_28 : decode cX11_writeBack 28 = .ok (.iload_n 2, 1) := by decide +kernel
theorem dX11_writeBack_29 : decode cX11_writeBack 29 = .ok (.iadd, 1) := by decide +kernel
theorem dX11_writeBack_30 : decode cX11_writeBack 30 = .ok (.aload_n 0, 1) := by decide +kernel
theorem dX11_writeBack_31 : decode cX11_writeBack 31 = .ok (.getfield 117, 3) := by decide +kernel
theorem dX11_writeBack_34 : decode cX11_writeBack 34 = .ok (.iconst 4, 1) := by decide +kernel
theorem dX11_writeBack_35 : decode cX11_writeBack 35 = .ok (.iload_n 1, 1) := by decide +kernel
theorem dX11_writeBack_36 : decode cX11_writeBack 36 = .ok (.imul, 1) := by decide +kernel
theorem dX11_writeBack_37 : decode cX11_writeBack 37 = .ok (.iload_n 2, 1) := by decide +kernel
theorem dX11_writeBack_38 : decode cX11_writeBack 38 = .ok (.iadd, 1) := by decide +kernel
theorem dX11_writeBack_39 : decode cX11_writeBack 39 = .ok (.iaload, 1) := by decide +kernel
theorem dX11_writeBack_40 : decode cX11_writeBack 40 = .ok (.iastore, 1) := by decide +kernel
theorem dX11_writeBack_41 : decode cX11_writeBack 41 = .ok (.iinc 2 1, 3) := by decide +kernel
theorem dX11_writeBack_44 : decode cX11_writeBack 44 = .ok (.goto (-42), 3) := by decide +kernel
theorem dX11_writeBack_47 : decode cX11_writeBack 47 = .ok (.aload_n 0, 1) := by decide +kernel
theorem dX11_writeBack_48 : decode cX11_writeBack 48 = .ok (.getfield 120, 3) := by decide +kernel
theorem dX11_writeBack_51 : decode cX11_writeBack 51 = .ok (.iload_n 1, 1) := by decide +kernel
theorem dX11_writeBack_52 : decode cX11_writeBack 52 = .ok (.iconst 0, 1) := by decide +kernel
theorem dX11_writeBack_53 : decode cX11_writeBack 53 = .ok (.bastore, 1) := by decide +kernel
theorem dX11_writeBack_54 : decode cX11_writeBack 54 = .ok (.return_, 1) := by decide +kernel
theorem dX11_fill_0 : decode cX11_fill 0 = .ok (.aload_n 0, 1) := by decide +kernel
theorem dX11_fill_1 : decode cX11_fill 1 = .ok (.getfield 114, 3) := by decide +kernel
theorem dX11_fill_4 : decode cX11_fill 4 = .ok (.iload_n 1, 1) := by decide +kernel
theorem dX11_fill_5 : decode cX11_fill 5 = .ok (.iload_n 2, 1) := by decide +kernel
theorem dX11_fill_6 : decode cX11_fill 6 = .ok (.iastore, 1) := by decide +kernel
theorem dX11_fill_7 : decode cX11_fill 7 = .ok (.aload_n 0, 1) := by decide +kernel
theorem dX11_fill_8 : decode cX11_fill 8 = .ok (.getfield 120, 3) := by decide +kernel
theorem dX11_fill_11 : decode cX11_fill 11 = .ok (.iload_n 1, 1) := by decide +kernel
theorem dX11_fill_12 : decode cX11_fill 12 = .ok (.iconst 0, 1) := by decide +kernel
theorem dX11_fill_13 : decode cX11_fill 13 = .ok (.bastore, 1) := by decide +kernel
theorem dX11_fill_14 : decode cX11_fill 14 = .ok (.aload_n 0, 1) := by decide +kernel
theorem dX11_fill_15 : decode cX11_fill 15 = .ok (.getfield 123, 3) := by decide +kernel
theorem dX11_fill_18 : decode cX11_fill 18 = .ok (.iload_n 1, 1) := by decide +kernel
theorem dX11_fill_19 : decode cX11_fill 19 = .ok (.iconst (-1), 1) := by decide +kernel
theorem dX11_fill_20 : decode cX11_fill 20 = .ok (.iastore, 1) := by decide +kernel
theorem dX11_fill_21 : decode cX11_fill 21 = .ok (.aload_n 0, 1) := by decide +kernel
theorem dX11_fill_22 : decode cX11_fill 22 = .ok (.getfield 126, 3) := by decide +kernel
theorem dX11_fill_25 : decode cX11_fill 25 = .ok (.iload_n 1, 1) := by decide +kernel
theorem dX11_fill_26 : decode cX11_fill 26 = .ok (.iconst 0, 1) := by decide +kernel
theorem dX11_fill_27 : decode cX11_fill 27 = .ok (.iastore, 1) := by decide +kernel
theorem dX11_fill_28 : decode cX11_fill 28 = .ok (.aload_n 0, 1) := by decide +kernel
theorem dX11_fill_29 : decode cX11_fill 29 = .ok (.getfield 129, 3) := by decide +kernel
theorem dX11_fill_32 : decode cX11_fill 32 = .ok (.iload_n 1, 1) := by decide +kernel
theorem dX11_fill_33 : decode cX11_fill 33 = .ok (.iconst (-1), 1) := by decide +kernel
theorem dX11_fill_34 : decode cX11_fill 34 = .ok (.iastore, 1) := by decide +kernel
theorem dX11_fill_35 : decode cX11_fill 35 = .ok (.aload_n 0, 1) := by decide +kernel
theorem dX11_fill_36 : decode cX11_fill 36 = .ok (.getfield 135, 3) := by decide +kernel
theorem dX11_fill_39 : decode cX11_fill 39 = .ok (.iload_n 1, 1) := by decide +kernel
theorem dX11_fill_40 : decode cX11_fill 40 = .ok (.iconst 0, 1) := by decide +kernel
theorem dX11_fill_41 : decode cX11_fill 41 = .ok (.iastore, 1) := by decide +kernel
theorem dX11_fill_42 : decode cX11_fill 42 = .ok (.iconst 0, 1) := by decide +kernel
theorem dX11_fill_43 : decode cX11_fill 43 = .ok (.istore_n 3, 1) := by decide +kernel
theorem dX11_fill_44 : decode cX11_fill 44 = .ok (.iload_n 3, 1) := by decide +kernel
theorem dX11_fill_45 : decode cX11_fill 45 = .ok (.iconst 4, 1) := by decide +kernel
theorem dX11_fill_46 : decode cX11_fill 46 = .ok (.if_icmp .ge 29, 3) := by decide +kernel
theorem dX11_fill_49 : decode cX11_fill 49 = .ok (.aload_n 0, 1) := by decide +kernel
theorem dX11_fill_50 : decode cX11_fill 50 = .ok (.getfield 117, 3) := by decide +kernel
theorem dX11_fill_53 : decode cX11_fill 53 = .ok (.iconst 4, 1) := by decide +kernel
theorem dX11_fill_54 : decode cX11_fill 54 = .ok (.iload_n 1, 1) := by decide +kernel
theorem dX11_fill_55 : decode cX11_fill 55 = .ok (.imul, 1) := by decide +kernel
theorem dX11_fill_56 : decode cX11_fill 56 = .ok (.iload_n 3, 1) := by decide +kernel
theorem dX11_fill_57 : decode cX11_fill 57 = .ok (.iadd, 1) := by decide +kernel
theorem dX11_fill_58 : decode cX11_fill 58 = .ok (.aload_n 0, 1) := by decide +kernel
theorem dX11_fill_59 : decode cX11_fill 59 = .ok (.getfield 56, 3) := by decide +kernel
theorem dX11_fill_62 : decode cX11_fill 62 = .ok (.iconst 4, 1) := by decide +kernel
theorem dX11_fill_63 : decode cX11_fill 63 = .ok (.iload_n 2, 1) := by decide +kernel
theorem dX11_fill_64 : decode cX11_fill 64 = .ok (.imul, 1) := by decide +kernel
theorem dX11_fill_65 : decode cX11_fill 65 = .ok (.iload_n 3, 1) := by decide +kernel
theorem dX11_fill_66 : decode cX11_fill 66 = .ok (.iadd, 1) := by decide +kernel
theorem dX11_fill_67 : decode cX11_fill 67 = .ok (.iaload, 1) := by decide +kernel
theorem dX11_fill_68 : decode cX11_fill 68 = .ok (.iastore, 1) := by decide +kernel
theorem dX11_fill_69 : decode cX11_fill 69 = .ok (.iinc 3 1, 3) := by decide +kernel
theorem dX11_fill_72 : decode cX11_fill 72 = .ok (.goto (-28), 3) := by decide +kernel
theorem dX11_fill_75 : decode cX11_fill 75 = .ok (.return_, 1) := by decide +kernel
theorem dX11_findWay_0 : decode cX11_findWay 0 = .ok (.aload_n 0, 1) := by decide +kernel
theorem dX11_findWay_1 : decode cX11_findWay 1 = .ok (.iload_n 1, 1) := by decide +kernel
theorem dX11_findWay_2 : decode cX11_findWay 2 = .ok (.invokevirtual 623, 3) := by decide +kernel
theorem dX11_findWay_5 : decode cX11_findWay 5 = .ok (.istore_n 2, 1) := by decide +kernel
theorem dX11_findWay_6 : decode cX11_findWay 6 = .ok (.iconst (-1), 1) := by decide +kernel
theorem dX11_findWay_7 : decode cX11_findWay 7 = .ok (.istore_n 3, 1) := by decide +kernel
theorem dX11_findWay_8 : decode cX11_findWay 8 = .ok (.iload_n 2, 1) := by decide +kernel
theorem dX11_findWay_9 : decode cX11_findWay 9 = .ok (.istore 4, 2) := by decide +kernel
theorem dX11_findWay_11 : decode cX11_findWay 11 = .ok (.iload 4, 2) := by decide +kernel
theorem dX11_findWay_13 : decode cX11_findWay 13 = .ok (.iload_n 2, 1) := by decide +kernel
theorem dX11_findWay_14 : decode cX11_findWay 14 = .ok (.aload_n 0, 1) := by decide +kernel
theorem dX11_findWay_15 : decode cX11_findWay 15 = .ok (.getfield 47, 3) := by decide +kernel
theorem dX11_findWay_18 : decode cX11_findWay 18 = .ok (.iconst 5, 1) := by decide +kernel
theorem dX11_findWay_19 : decode cX11_findWay 19 = .ok (.iaload, 1) := by decide +kernel
theorem dX11_findWay_20 : decode cX11_findWay 20 = .ok (.iadd, 1) := by decide +kernel
theorem dX11_findWay_21 : decode cX11_findWay 21 = .ok (.if_icmp .ge 30, 3) := by decide +kernel
theorem dX11_findWay_24 : decode cX11_findWay 24 = .ok (.aload_n 0, 1) := by decide +kernel
theorem dX11_findWay_25 : decode cX11_findWay 25 = .ok (.getfield 114, 3) := by decide +kernel
theorem dX11_findWay_28 : decode cX11_findWay 28 = .ok (.iload 4, 2) := by decide +kernel
theorem dX11_findWay_30 : decode cX11_findWay 30 = .ok (.iaload, 1) := by decide +kernel
theorem dX11_findWay_31 : decode cX11_findWay 31 = .ok (.iconst (-1), 1) := by decide +kernel
theorem dX11_findWay_32 : decode cX11_findWay 32 = .ok (.if_icmp .ne 13, 3) := by decide +kernel
theorem dX11_findWay_35 : decode cX11_findWay 35 = .ok (.aload_n 0, 1) := by decide +kernel
theorem dX11_findWay_36 : decode cX11_findWay 36 = .ok (.iload 4, 2) := by decide +kernel
theorem dX11_findWay_38 : decode cX11_findWay 38 = .ok (.iload_n 1, 1) := by decide +kernel
theorem dX11_findWay_39 : decode cX11_findWay 39 = .ok (.invokevirtual 626, 3) := by decide +kernel
theorem dX11_findWay_42 : decode cX11_findWay 42 = .ok (.iload 4, 2) := by decide +kernel
theorem dX11_findWay_44 : decode cX11_findWay 44 = .ok (.ireturn, 1) := by decide +kernel
theorem dX11_findWay_45 : decode cX11_findWay 45 = .ok (.iinc 4 1, 3) := by decide +kernel
theorem dX11_findWay_48 : decode cX11_findWay 48 = .ok (.goto (-37), 3) := by decide +kernel
theorem dX11_findWay_51 : decode cX11_findWay 51 = .ok (.iload_n 2, 1) := by decide +kernel
theorem dX11_findWay_52 : decode cX11_findWay 52 = .ok (.istore 4, 2) := by decide +kernel
theorem dX11_findWay_54 : decode cX11_findWay 54 = .ok (.iload 4, 2) := by decide +kernel
theorem dX11_findWay_56 : decode cX11_findWay 56 = .ok (.iload_n 2, 1) := by decide +kernel
theorem dX11_findWay_57 : decode cX11_findWay 57 = .ok (.aload_n 0, 1) := by decide +kernel
theorem dX11_findWay_58 : decode cX11_findWay 58 = .ok (.getfield 47, 3) := by decide +kernel
theorem dX11_findWay_61 : decode cX11_findWay 61 = .ok (.iconst 5, 1) := by decide +kernel
theorem dX11_findWay_62 : decode cX11_findWay 62 = .ok (.iaload, 1) := by decide +kernel
theorem dX11_findWay_63 : decode cX11_findWay 63 = .ok (.iadd, 1) := by decide +kernel
theorem dX11_findWay_64 : decode cX11_findWay 64 = .ok (.if_icmp .ge 44, 3) := by decide +kernel
theorem dX11_findWay_67 : decode cX11_findWay 67 = .ok (.aload_n 0, 1) := by decide +kernel
theorem dX11_findWay_68 : decode cX11_findWay 68 = .ok (.getfield 129, 3) := by decide +kernel
theorem dX11_findWay_71 : decode cX11_findWay 71 = .ok (.iload 4, 2) := by decide +kernel
theorem dX11_findWay_73 : decode cX11_findWay 73 = .ok (.iaload, 1) := by decide +kernel
theorem dX11_findWay_74 : decode cX11_findWay 74 = .ok (.iconst (-1), 1) := by decide +kernel
theorem dX11_findWay_75 : decode cX11_findWay 75 = .ok (.if_icmp .ne 27, 3) := by decide +kernel
theorem dX11_findWay_78 : decode cX11_findWay 78 = .ok (.iload_n 3, 1) := by decide +kernel
theorem dX11_findWay_79 : decode cX11_findWay 79 = .ok (.iconst (-1), 1) := by decide +kernel
theorem dX11_findWay_80 : decode cX11_findWay 80 = .ok (.if_icmp .eq 19, 3) := by decide +kernel
theorem dX11_findWay_83 : decode cX11_findWay 83 = .ok (.aload_n 0, 1) := by decide +kernel
theorem dX11_findWay_84 : decode cX11_findWay 84 = .ok (.getfield 138, 3) := by decide +kernel
theorem dX11_findWay_87 : decode cX11_findWay 87 = .ok (.iload 4, 2) := by decide +kernel
theorem dX11_findWay_89 : decode cX11_findWay 89 = .ok (.iaload, 1) := by decide +kernel
theorem dX11_findWay_90 : decode cX11_findWay 90 = .ok (.aload_n 0, 1) := by decide +kernel
theorem dX11_findWay_91 : decode cX11_findWay 91 = .ok (.getfield 138, 3) := by decide +kernel
theorem dX11_findWay_94 : decode cX11_findWay 94 = .ok (.iload_n 3, 1) := by decide +kernel
theorem dX11_findWay_95 : decode cX11_findWay 95 = .ok (.iaload, 1) := by decide +kernel
theorem dX11_findWay_96 : decode cX11_findWay 96 = .ok (.if_icmp .ge 6, 3) := by decide +kernel
theorem dX11_findWay_99 : decode cX11_findWay 99 = .ok (.iload 4, 2) := by decide +kernel
theorem dX11_findWay_101 : decode cX11_findWay 101 = .ok (.istore_n 3, 1) := by decide +kernel
theorem dX11_findWay_102 : decode cX11_findWay 102 = .ok (.iinc 4 1, 3) := by decide +kernel
theorem dX11_findWay_105 : decode cX11_findWay 105 = .ok (.goto (-51), 3) := by decide +kernel
theorem dX11_findWay_108 : decode cX11_findWay 108 = .ok (.iload_n 3, 1) := by decide +kernel
theorem dX11_findWay_109 : decode cX11_findWay 109 = .ok (.iconst (-1), 1) := by decide +kernel
theorem dX11_findWay_110 : decode cX11_findWay 110 = .ok (.if_icmp .ne 5, 3) := by decide +kernel
theorem dX11_findWay_113 : decode cX11_findWay 113 = .ok (.iconst (-1), 1) := by decide +kernel
theorem dX11_findWay_114 : decode cX11_findWay 114 = .ok (.ireturn, 1) := by decide +kernel
theorem dX11_findWay_115 : decode cX11_findWay 115 = .ok (.aload_n 0, 1) := by decide +kernel
theorem dX11_findWay_116 : decode cX11_findWay 116 = .ok (.getfield 123, 3) := by decide +kernel
theorem dX11_findWay_119 : decode cX11_findWay 119 = .ok (.iload_n 3, 1) := by decide +kernel
theorem dX11_findWay_120 : decode cX11_findWay 120 = .ok (.iaload, 1) := by decide +kernel
