theorem dX10_changed_11 : decode cX10_changed 11 = .ok (.if_icmp .ge 21, 3) := by decide +kernel
theorem dX10_changed_14 : decode cX10_changed 14 = .ok (.iload_n 1, 1) := by decide +kernel
theorem dX10_changed_15 : decode cX10_changed 15 = .ok (.aload_n 0, 1) := by decide +kernel
theorem dX10_changed_16 : decode cX10_changed 16 = .ok (.getfield 43, 3) := by decide +kernel
theorem dX10_changed_19 : decode cX10_changed 19 = .ok (.iload_n 2, 1) := by decide +kernel
theorem dX10_changed_20 : decode cX10_changed 20 = .ok (.aaload, 1) := by decide +kernel
theorem dX10_changed_21 : decode cX10_changed 21 = .ok (.getfield 171, 3) := by decide +kernel
theorem dX10_changed_24 : decode cX10_changed 24 = .ok (.iadd, 1) := by decide +kernel
theorem dX10_changed_25 : decode cX10_changed 25 = .ok (.istore_n 1, 1) := by decide +kernel
theorem dX10_changed_26 : decode cX10_changed 26 = .ok (.iinc 2 1, 3) := by decide +kernel
theorem dX10_changed_29 : decode cX10_changed 29 = .ok (.goto (-25), 3) := by decide +kernel
theorem dX10_changed_32 : decode cX10_changed 32 = .ok (.iload_n 1, 1) := by decide +kernel
theorem dX10_changed_33 : decode cX10_changed 33 = .ok (.ireturn, 1) := by decide +kernel
theorem dX10_growWaits_0 : decode cX10_growWaits 0 = .ok (.iconst 0, 1) := by decide +kernel
theorem dX10_growWaits_1 : decode cX10_growWaits 1 = .ok (.istore_n 1, 1) := by decide +kernel
theorem dX10_growWaits_2 : decode cX10_growWaits 2 = .ok (.iload_n 1, 1) := by decide +kernel
theorem dX10_growWaits_3 : decode cX10_growWaits 3 = .ok (.aload_n 0, 1) := by decide +kernel
theorem dX10_growWaits_4 : decode cX10_growWaits 4 = .ok (.getfield 47, 3) := by decide +kernel
theorem dX10_growWaits_7 : decode cX10_growWaits 7 = .ok (.iconst 0, 1) := by decide +kernel
theorem dX10_growWaits_8 : decode cX10_growWaits 8 = .ok (.iaload, 1) := by decide +kernel
theorem dX10_growWaits_9 : decode cX10_growWaits 9 = .ok (.if_icmp .ge 18, 3) := by decide +kernel
theorem dX10_growWaits_12 : decode cX10_growWaits 12 = .ok (.aload_n 0, 1) := by decide +kernel
theorem dX10_growWaits_13 : decode cX10_growWaits 13 = .ok (.getfield 43, 3) := by decide +kernel
theorem dX10_growWaits_16 : decode cX10_growWaits 16 = .ok (.iload_n 1, 1) := by decide +kernel
theorem dX10_growWaits_17 : decode cX10_growWaits 17 = .ok (.aaload, 1) := by decide +kernel
theorem dX10_growWaits_18 : decode cX10_growWaits 18 = .ok (.invokevirtual 196, 3) := by decide +kernel
theorem dX10_growWaits_21 : decode cX10_growWaits 21 = .ok (.iinc 1 1, 3) := by decide +kernel
theorem dX10_growWaits_24 : decode cX10_growWaits 24 = .ok (.goto (-22), 3) := by decide +kernel
theorem dX10_growWaits_27 : decode cX10_growWaits 27 = .ok (.return_, 1) := by decide +kernel
theorem dX10_cached_0 : decode cX10_cached 0 = .ok (.aload_n 0, 1) := by decide +kernel
theorem dX10_cached_1 : decode cX10_cached 1 = .ok (.iload_n 1, 1) := by decide +kernel
theorem dX10_cached_2 : decode cX10_cached 2 = .ok (.invokevirtual 121, 3) := by decide +kernel
theorem dX10_cached_5 : decode cX10_cached 5 = .ok (.ifCond .eq 14, 3) := by decide +kernel
theorem dX10_cached_8 : decode cX10_cached 8 = .ok (.iload_n 2, 1) := by decide +kernel
theorem dX10_cached_9 : decode cX10_cached 9 = .ok (.ifCond .lt 10, 3) := by decide +kernel
theorem dX10_cached_12 : decode cX10_cached 12 = .ok (.iload_n 2, 1) := by decide +kernel
theorem dX10_cached_13 : decode cX10_cached 13 = .ok (.sipush 512, 3) := by decide +kernel
theorem dX10_cached_16 : decode cX10_cached 16 = .ok (.if_icmp .lt 5, 3) := by decide +kernel
theorem dX10_cached_19 : decode cX10_cached 19 = .ok (.iconst (-1), 1) := by decide +kernel
theorem dX10_cached_20 : decode cX10_cached 20 = .ok (.ireturn, 1) := by decide +kernel
theorem dX10_cached_21 : decode cX10_cached 21 = .ok (.aload_n 0, 1) := by decide +kernel
theorem dX10_cached_22 : decode cX10_cached 22 = .ok (.getfield 43, 3) := by decide +kernel
theorem dX10_cached_25 : decode cX10_cached 25 = .ok (.iload_n 1, 1) := by decide +kernel
theorem dX10_cached_26 : decode cX10_cached 26 = .ok (.aaload, 1) := by decide +kernel
theorem dX10_cached_27 : decode cX10_cached 27 = .ok (.getfield 217, 3) := by decide +kernel
theorem dX10_cached_30 : decode cX10_cached 30 = .ok (.iload_n 2, 1) := by decide +kernel
theorem dX10_cached_31 : decode cX10_cached 31 = .ok (.invokevirtual 221, 3) := by decide +kernel
theorem dX10_cached_34 : decode cX10_cached 34 = .ok (.istore_n 3, 1) := by decide +kernel
theorem dX10_cached_35 : decode cX10_cached 35 = .ok (.iload_n 3, 1) := by decide +kernel
theorem dX10_cached_36 : decode cX10_cached 36 = .ok (.ifCond .ge 7, 3) := by decide +kernel
theorem dX10_cached_39 : decode cX10_cached 39 = .ok (.iconst 0, 1) := by decide +kernel
theorem dX10_cached_40 : decode cX10_cached 40 = .ok (.goto 17, 3) := by decide +kernel
theorem dX10_cached_43 : decode cX10_cached 43 = .ok (.aload_n 0, 1) := by decide +kernel
theorem dX10_cached_44 : decode cX10_cached 44 = .ok (.getfield 43, 3) := by decide +kernel
theorem dX10_cached_47 : decode cX10_cached 47 = .ok (.iload_n 1, 1) := by decide +kernel
theorem dX10_cached_48 : decode cX10_cached 48 = .ok (.aaload, 1) := by decide +kernel
theorem dX10_cached_49 : decode cX10_cached 49 = .ok (.getfield 217, 3) := by decide +kernel
theorem dX10_cached_52 : decode cX10_cached 52 = .ok (.getfield 226, 3) := by decide +kernel
theorem dX10_cached_55 : decode cX10_cached 55 = .ok (.iload_n 3, 1) := by decide +kernel
theorem dX10_cached_56 : decode cX10_cached 56 = .ok (.iaload, 1) := by decide +kernel
theorem dX10_cached_57 : decode cX10_cached 57 = .ok (.ireturn, 1) := by decide +kernel
theorem dX10_isWord_0 : decode cX10_isWord 0 = .ok (.iload_n 0, 1) := by decide +kernel
theorem dX10_isWord_1 : decode cX10_isWord 1 = .ok (.ifCond .lt 20, 3) := by decide +kernel
theorem dX10_isWord_4 : decode cX10_isWord 4 = .ok (.iload_n 0, 1) := by decide +kernel
theorem dX10_isWord_5 : decode cX10_isWord 5 = .ok (.sipush 8192, 3) := by decide +kernel
theorem dX10_isWord_8 : decode cX10_isWord 8 = .ok (.if_icmp .ge 13, 3) := by decide +kernel
theorem dX10_isWord_11 : decode cX10_isWord 11 = .ok (.iload_n 0, 1) := by decide +kernel
theorem dX10_isWord_12 : decode cX10_isWord 12 = .ok (.iconst 3, 1) := by decide +kernel
theorem dX10_isWord_13 : decode cX10_isWord 13 = .ok (.iand, 1) := by decide +kernel
theorem dX10_isWord_14 : decode cX10_isWord 14 = .ok (.ifCond .ne 7, 3) := by decide +kernel
theorem dX10_isWord_17 : decode cX10_isWord 17 = .ok (.iconst 1, 1) := by decide +kernel
theorem dX10_isWord_18 : decode cX10_isWord 18 = .ok (.goto 4, 3) := by decide +kernel
theorem dX10_isWord_21 : decode cX10_isWord 21 = .ok (.iconst 0, 1) := by decide +kernel
theorem dX10_isWord_22 : decode cX10_isWord 22 = .ok (.ireturn, 1) := by decide +kernel
theorem dX10_wordOf_0 : decode cX10_wordOf 0 = .ok (.iload_n 0, 1) := by decide +kernel
theorem dX10_wordOf_1 : decode cX10_wordOf 1 = .ok (.iconst 4, 1) := by decide +kernel
theorem dX10_wordOf_2 : decode cX10_wordOf 2 = .ok (.imul, 1) := by decide +kernel
theorem dX10_wordOf_3 : decode cX10_wordOf 3 = .ok (.iload_n 1, 1) := by decide +kernel
theorem dX10_wordOf_4 : decode cX10_wordOf 4 = .ok (.iconst 2, 1) := by decide +kernel
theorem dX10_wordOf_5 : decode cX10_wordOf 5 = .ok (.ishr, 1) := by decide +kernel
theorem dX10_wordOf_6 : decode cX10_wordOf 6 = .ok (.iconst 3, 1) := by decide +kernel
theorem dX10_wordOf_7 : decode cX10_wordOf 7 = .ok (.iand, 1) := by decide +kernel
theorem dX10_wordOf_8 : decode cX10_wordOf 8 = .ok (.iadd, 1) := by decide +kernel
theorem dX10_wordOf_9 : decode cX10_wordOf 9 = .ok (.ireturn, 1) := by decide +kernel
theorem dX10_waiting_0 : decode cX10_waiting 0 = .ok (.iload_n 1, 1) := by decide +kernel
theorem dX10_waiting_1 : decode cX10_waiting 1 = .ok (.ifCond .lt 25, 3) := by decide +kernel
theorem dX10_waiting_4 : decode cX10_waiting 4 = .ok (.iload_n 1, 1) := by decide +kernel
theorem dX10_waiting_5 : decode cX10_waiting 5 = .ok (.aload_n 0, 1) := by decide +kernel
theorem dX10_waiting_6 : decode cX10_waiting 6 = .ok (.getfield 37, 3) := by decide +kernel
theorem dX10_waiting_9 : decode cX10_waiting 9 = .ok (.getfield 245, 3) := by decide +kernel
theorem dX10_waiting_12 : decode cX10_waiting 12 = .ok (.if_icmp .ge 14, 3) := by decide +kernel
theorem dX10_waiting_15 : decode cX10_waiting 15 = .ok (.aload_n 0, 1) := by decide +kernel
theorem dX10_waiting_16 : decode cX10_waiting 16 = .ok (.getfield 37, 3) := by decide +kernel
theorem dX10_waiting_19 : decode cX10_waiting 19 = .ok (.iload_n 1, 1) := by decide +kernel
theorem dX10_waiting_20 : decode cX10_waiting 20 = .ok (.invokevirtual 248, 3) := by decide +kernel
theorem dX10_waiting_23 : decode cX10_waiting 23 = .ok (.goto 4, 3) := by decide +kernel
theorem dX10_waiting_26 : decode cX10_waiting 26 = .ok (.iconst (-1), 1) := by decide +kernel
theorem dX10_waiting_27 : decode cX10_waiting 27 = .ok (.ireturn, 1) := by decide +kernel
theorem dX10_lent_0 : decode cX10_lent 0 = .ok (.iload_n 3, 1) := by decide +kernel
theorem dX10_lent_1 : decode cX10_lent 1 = .ok (.iconst 4, 1) := by decide +kernel
theorem dX10_lent_2 : decode cX10_lent 2 = .ok (.ishr, 1) := by decide +kernel
theorem dX10_lent_3 : decode cX10_lent 3 = .ok (.istore 4, 2) := by decide +kernel
theorem dX10_lent_5 : decode cX10_lent 5 = .ok (.aload_n 1, 1) := by decide +kernel
theorem dX10_lent_6 : decode cX10_lent 6 = .ok (.getfield 217, 3) := by decide +kernel
theorem dX10_lent_9 : decode cX10_lent 9 = .ok (.iload 4, 2) := by decide +kernel
theorem dX10_lent_11 : decode cX10_lent 11 = .ok (.invokevirtual 221, 3) := by decide +kernel
theorem dX10_lent_14 : decode cX10_lent 14 = .ok (.istore 5, 2) := by decide +kernel
theorem dX10_lent_16 : decode cX10_lent 16 = .ok (.iload 5, 2) := by decide +kernel
theorem dX10_lent_18 : decode cX10_lent 18 = .ok (.ifCond .lt 32, 3) := by decide +kernel
theorem dX10_lent_21 : decode cX10_lent 21 = .ok (.aload_n 1, 1) := by decide +kernel
theorem dX10_lent_22 : decode cX10_lent 22 = .ok (.getfield 217, 3) := by decide +kernel
theorem dX10_lent_25 : decode cX10_lent 25 = .ok (.getfield 226, 3) := by decide +kernel
theorem dX10_lent_28 : decode cX10_lent 28 = .ok (.iload 5, 2) := by decide +kernel
theorem dX10_lent_30 : decode cX10_lent 30 = .ok (.iaload, 1) := by decide +kernel
theorem dX10_lent_31 : decode cX10_lent 31 = .ok (.iconst 2, 1) := by decide +kernel
theorem dX10_lent_32 : decode cX10_lent 32 = .ok (.if_icmp .lt 18, 3) := by decide +kernel
theorem dX10_lent_35 : decode cX10_lent 35 = .ok (.aload_n 1, 1) := by decide +kernel
theorem dX10_lent_36 : decode cX10_lent 36 = .ok (.getfield 217, 3) := by decide +kernel
theorem dX10_lent_39 : decode cX10_lent 39 = .ok (.getfield 234, 3) := by decide +kernel
theorem dX10_lent_42 : decode cX10_lent 42 = .ok (.iload 5, 2) := by decide +kernel
theorem dX10_lent_44 : decode cX10_lent 44 = .ok (.iload_n 3, 1) := by decide +kernel
theorem dX10_lent_45 : decode cX10_lent 45 = .ok (.invokestatic 237, 3) := by decide +kernel
theorem dX10_lent_48 : decode cX10_lent 48 = .ok (.iaload, 1) := by decide +kernel
theorem dX10_lent_49 : decode cX10_lent 49 = .ok (.ireturn, 1) := by decide +kernel
theorem dX10_lent_50 : decode cX10_lent 50 = .ok (.aload_n 1, 1) := by decide +kernel
theorem dX10_lent_51 : decode cX10_lent 51 = .ok (.getfield 261, 3) := by decide +kernel
theorem dX10_lent_54 : decode cX10_lent 54 = .ok (.iload 4, 2) := by decide +kernel
theorem dX10_lent_56 : decode cX10_lent 56 = .ok (.if_icmp .ne 21, 3) := by decide +kernel
theorem dX10_lent_59 : decode cX10_lent 59 = .ok (.aload_n 1, 1) := by decide +kernel
theorem dX10_lent_60 : decode cX10_lent 60 = .ok (.getfield 264, 3) := by decide +kernel
theorem dX10_lent_63 : decode cX10_lent 63 = .ok (.ifCond .ne 14, 3) := by decide +kernel
theorem dX10_lent_66 : decode cX10_lent 66 = .ok (.aload_n 1, 1) := by decide +kernel
theorem dX10_lent_67 : decode cX10_lent 67 = .ok (.getfield 268, 3) := by decide +kernel
theorem dX10_lent_70 : decode cX10_lent 70 = .ok (.iload_n 3, 1) := by decide +kernel
theorem dX10_lent_71 : decode cX10_lent 71 = .ok (.iconst 2, 1) := by decide +kernel
theorem dX10_lent_72 : decode cX10_lent 72 = .ok (.ishr, 1) := by decide +kernel
theorem dX10_lent_73 : decode cX10_lent 73 = .ok (.iconst 3, 1) := by decide +kernel
theorem dX10_lent_74 : decode cX10_lent 74 = .ok (.iand, 1) := by decide +kernel
theorem dX10_lent_75 : decode cX10_lent 75 = .ok (.iaload, 1) := by decide +kernel
theorem dX10_lent_76 : decode cX10_lent 76 = .ok (.ireturn, 1) := by decide +kernel
theorem dX10_lent_77 : decode cX10_lent 77 = .ok (.aload_n 0, 1) := by decide +kernel
theorem dX10_lent_78 : decode cX10_lent 78 = .ok (.getfield 28, 3) := by decide +kernel
theorem dX10_lent_81 : decode cX10_lent 81 = .ok (.iconst 5, 1) := by decide +kernel
theorem dX10_lent_82 : decode cX10_lent 82 = .ok (.iload 4, 2) := by decide +kernel
theorem dX10_lent_84 : decode cX10_lent 84 = .ok (.invokevirtual 271, 3) := by decide +kernel
theorem dX10_lent_87 : decode cX10_lent 87 = .ok (.istore 6, 2) := by decide +kernel
theorem dX10_lent_89 : decode cX10_lent 89 = .ok (.iload 6, 2) := by decide +kernel
theorem dX10_lent_91 : decode cX10_lent 91 = .ok (.ifCond .lt 22, 3) := by decide +kernel
theorem dX10_lent_94 : decode cX10_lent 94 = .ok (.aload_n 0, 1) := by decide +kernel
theorem dX10_lent_95 : decode cX10_lent 95 = .ok (.getfield 28, 3) := by decide +kernel
theorem dX10_lent_98 : decode cX10_lent 98 = .ok (.iload 6, 2) := by decide +kernel
theorem dX10_lent_100 : decode cX10_lent 100 = .ok (.iconst 5, 1) := by decide +kernel
theorem dX10_lent_101 : decode cX10_lent 101 = .ok (.iload_n 3, 1) := by decide +kernel
theorem dX10_lent_102 : decode cX10_lent 102 = .ok (.iconst 2, 1) := by decide +kernel
theorem dX10_lent_103 : decode cX10_lent 103 = .ok (.ishr, 1) := by decide +kernel
theorem dX10_lent_104 : decode cX10_lent 104 = .ok (.iconst 3, 1) := by decide +kernel
theorem dX10_lent_105 : decode cX10_lent 105 = .ok (.iand, 1) := by decide +kernel
theorem dX10_lent_106 : decode cX10_lent 106 = .ok (.iadd, 1) := by decide +kernel
theorem dX10_lent_107 : decode cX10_lent 107 = .ok (.invokevirtual 274, 3) := by decide +kernel
theorem dX10_lent_110 : decode cX10_lent 110 = .ok (.goto 16, 3) := by decide +kernel
theorem dX10_lent_113 : decode cX10_lent 113 = .ok (.aload_n 0, 1) := by decide +kernel
theorem dX10_lent_114 : decode cX10_lent 114 = .ok (.getfield 37, 3) := by decide +kernel
theorem dX10_lent_117 : decode cX10_lent 117 = .ok (.getfield 260, 3) := by decide +kernel
theorem dX10_lent_120 : decode cX10_lent 120 = .ok (.iload_n 2, 1) := by decide +kernel
theorem dX10_lent_121 : decode cX10_lent 121 = .ok (.iload_n 3, 1) := by decide +kernel
theorem dX10_lent_122 : decode cX10_lent 122 = .ok (.invokestatic 237, 3) := by decide +kernel
theorem dX10_lent_125 : decode cX10_lent 125 = .ok (.iaload, 1) := by decide +kernel
theorem dX10_lent_126 : decode cX10_lent 126 = .ok (.ireturn, 1) := by decide +kernel
theorem dX10_total_0 : decode cX10_total 0 = .ok (.iload_n 1, 1) := by decide +kernel
theorem dX10_total_1 : decode cX10_total 1 = .ok (.tableswitch 140 0 13 #[71, 78, 86, 91, 99, 104, 112, 120, 120, 120, 120, 120, 130, 135], 71) := by decide +kernel
theorem dX10_total_72 : decode cX10_total 72 = .ok (.aload_n 0, 1) := by decide +kernel
theorem dX10_total_73 : decode cX10_total 73 = .ok (.getfield 47, 3) := by decide +kernel
theorem dX10_total_76 : decode cX10_total 76 = .ok (.iconst 0, 1) := by decide +kernel
theorem dX10_total_77 : decode cX10_total 77 = .ok (.iaload, 1) := by decide +kernel
theorem dX10_total_78 : decode cX10_total 78 = .ok (.ireturn, 1) := by decide +kernel
theorem dX10_total_79 : decode cX10_total 79 = .ok (.aload_n 0, 1) := by decide +kernel
theorem dX10_total_80 : decode cX10_total 80 = .ok (.getfield 28, 3) := by decide +kernel
theorem dX10_total_83 : decode cX10_total 83 = .ok (.getfield 159, 3) := by decide +kernel
theorem dX10_total_86 : decode cX10_total 86 = .ok (.ireturn, 1) := by decide +kernel
theorem dX10_total_87 : decode cX10_total 87 = .ok (.aload_n 0, 1) := by decide +kernel
theorem dX10_total_88 : decode cX10_total 88 = .ok (.invokevirtual 155, 3) := by decide +kernel
theorem dX10_total_91 : decode cX10_total 91 = .ok (.ireturn, 1) := by decide +kernel
theorem dX10_total_92 : decode cX10_total 92 = .ok (.aload_n 0, 1) := by decide +kernel
theorem dX10_total_93 : decode cX10_total 93 = .ok (.getfield 28, 3) := by decide +kernel
theorem dX10_total_96 : decode cX10_total 96 = .ok (.getfield 280, 3) := by decide +kernel
theorem dX10_total_99 : decode cX10_total 99 = .ok (.ireturn, 1) := by decide +kernel
theorem dX10_total_100 : decode cX10_total 100 = .ok (.aload_n 0, 1) := by decide +kernel
theorem dX10_total_101 : decode cX10_total 101 = .ok (.invokevirtual 283, 3) := by decide +kernel
theorem dX10_total_104 : decode cX10_total 104 = .ok (.ireturn, 1) := by decide +kernel
theorem dX10_total_105 : decode cX10_total 105 = .ok (.aload_n 0, 1) := by decide +kernel
theorem dX10_total_106 : decode cX10_total 106 = .ok (.getfield 37, 3) := by decide +kernel
theorem dX10_total_109 : decode cX10_total 109 = .ok (.getfield 285, 3) := by decide +kernel
theorem dX10_total_112 : decode cX10_total 112 = .ok (.ireturn, 1) := by decide +kernel
theorem dX10_total_113 : decode cX10_total 113 = .ok (.aload_n 0, 1) := by decide +kernel
theorem dX10_total_114 : decode cX10_total 114 = .ok (.getfield 37, 3) := by decide +kernel
theorem dX10_total_117 : decode cX10_total 117 = .ok (.invokevirtual 288, 3) := by decide +kernel
theorem dX10_total_120 : decode cX10_total 120 = .ok (.ireturn, 1) := by decide +kernel
theorem dX10_total_121 : decode cX10_total 121 = .ok (.aload_n 0, 1) := by decide +kernel
theorem dX10_total_122 : decode cX10_total 122 = .ok (.getfield 47, 3) := by decide +kernel
theorem dX10_total_125 : decode cX10_total 125 = .ok (.iload_n 1, 1) := by decide +kernel
theorem dX10_total_126 : decode cX10_total 126 = .ok (.bipush 6, 2) := by decide +kernel
theorem dX10_total_128 : decode cX10_total 128 = .ok (.isub, 1) := by decide +kernel
theorem dX10_total_129 : decode cX10_total 129 = .ok (.iaload, 1) := by decide +kernel
theorem dX10_total_130 : decode cX10_total 130 = .ok (.ireturn, 1) := by decide +kernel
theorem dX10_total_131 : decode cX10_total 131 = .ok (.aload_n 0, 1) := by decide +kernel
theorem dX10_total_132 : decode cX10_total 132 = .ok (.getfield 115, 3) := by decide +kernel
theorem dX10_total_135 : decode cX10_total 135 = .ok (.ireturn, 1) := by decide +kernel
theorem dX10_total_136 : decode cX10_total 136 = .ok (.aload_n 0, 1) := by decide +kernel
theorem dX10_total_137 : decode cX10_total 137 = .ok (.getfield 118, 3) := by decide +kernel
theorem dX10_total_140 : decode cX10_total 140 = .ok (.ireturn, 1) := by decide +kernel
theorem dX10_total_141 : decode cX10_total 141 = .ok (.iconst (-1), 1) := by decide +kernel
theorem dX10_total_142 : decode cX10_total 142 = .ok (.ireturn, 1) := by decide +kernel
theorem dX11_init_0 : decode cX11_init 0 = .ok (.aload_n 0, 1) := by decide +kernel
theorem dX11_init_1 : decode cX11_init 1 = .ok (.invokespecial 1, 3) := by decide +kernel
theorem dX11_init_4 : decode cX11_init 4 = .ok (.aload_n 0, 1) := by decide +kernel
theorem dX11_init_5 : decode cX11_init 5 = .ok (.sipush 1500, 3) := by decide +kernel
theorem dX11_init_8 : decode cX11_init 8 = .ok (.newarray .int, 2) := by decide +kernel
theorem dX11_init_10 : decode cX11_init 10 = .ok (.putfield 7, 3) := by decide +kernel
theorem dX11_init_13 : decode cX11_init 13 = .ok (.aload_n 0, 1) := by decide +kernel
theorem dX11_init_14 : decode cX11_init 14 = .ok (.sipush 1502, 3) := by decide +kernel
theorem dX11_init_17 : decode cX11_init 17 = .ok (.newarray .int, 2) := by decide +kernel
theorem dX11_init_19 : decode cX11_init 19 = .ok (.putfield 13, 3) := by decide +kernel
theorem dX11_init_22 : decode cX11_init 22 = .ok (.aload_n 0, 1) := by decide +kernel
theorem dX11_init_23 : decode cX11_init 23 = .ok (.sipush 1502, 3) := by decide +kernel
theorem dX11_init_26 : decode cX11_init 26 = .ok (.newarray .int, 2) := by decide +kernel
theorem dX11_init_28 : decode cX11_init 28 = .ok (.putfield 16, 3) := by decide +kernel
theorem dX11_init_31 : decode cX11_init 31 = .ok (.aload_n 0, 1) := by decide +kernel
theorem dX11_init_32 : decode cX11_init 32 = .ok (.sipush 1502, 3) := by decide +kernel
theorem dX11_init_35 : decode cX11_init 35 = .ok (.newarray .long, 2) := by decide +kernel
theorem dX11_init_37 : decode cX11_init 37 = .ok (.putfield 19, 3) := by decide +kernel
theorem dX11_init_40 : decode cX11_init 40 = .ok (.aload_n 0, 1) := by decide +kernel
theorem dX11_init_41 : decode cX11_init 41 = .ok (.sipush 760, 3) := by decide +kernel
theorem dX11_init_44 : decode cX11_init 44 = .ok (.newarray .long, 2) := by decide +kernel
theorem dX11_init_46 : decode cX11_init 46 = .ok (.putfield 23, 3) := by decide +kernel
theorem dX11_init_49 : decode cX11_init 49 = .ok (.aload_n 0, 1) := by decide +kernel
theorem dX11_init_50 : decode cX11_init 50 = .ok (.sipush 760, 3) := by decide +kernel
theorem dX11_init_53 : decode cX11_init 53 = .ok (.newarray .int, 2) := by decide +kernel
theorem dX11_init_55 : decode cX11_init 55 = .ok (.putfield 26, 3) := by decide +kernel
theorem dX11_init_58 : decode cX11_init 58 = .ok (.aload_n 0, 1) := by decide +kernel
theorem dX11_init_59 : decode cX11_init 59 = .ok (.sipush 700, 3) := by decide +kernel
theorem dX11_init_62 : decode cX11_init 62 = .ok (.newarray .int, 2) := by decide +kernel
theorem dX11_init_64 : decode cX11_init 64 = .ok (.putfield 29, 3) := by decide +kernel
theorem dX11_init_67 : decode cX11_init 67 = .ok (.aload_n 0, 1) := by decide +kernel
theorem dX11_init_68 : decode cX11_init 68 = .ok (.sipush 700, 3) := by decide +kernel
theorem dX11_init_71 : decode cX11_init 71 = .ok (.newarray .int, 2) := by decide +kernel
theorem dX11_init_73 : decode cX11_init 73 = .ok (.putfield 32, 3) := by decide +kernel
theorem dX11_init_76 : decode cX11_init 76 = .ok (.aload_n 0, 1) := by decide +kernel
theorem dX11_init_77 : decode cX11_init 77 = .ok (.sipush 700, 3) := by decide +kernel
theorem dX11_init_80 : decode cX11_init 80 = .ok (.newarray .int, 2) := by decide +kernel
theorem dX11_init_82 : decode cX11_init 82 = .ok (.putfield 35, 3) := by decide +kernel
theorem dX11_init_85 : decode cX11_init 85 = .ok (.aload_n 0, 1) := by decide +kernel
theorem dX11_init_86 : decode cX11_init 86 = .ok (.sipush 700, 3) := by decide +kernel
theorem dX11_init_89 : decode cX11_init 89 = .ok (.newarray .long, 2) := by decide +kernel
theorem dX11_init_91 : decode cX11_init 91 = .ok (.putfield 38, 3) := by decide +kernel
theorem dX11_init_94 : decode cX11_init 94 = .ok (.aload_n 0, 1) := by decide +kernel
theorem dX11_init_95 : decode cX11_init 95 = .ok (.sipush 700, 3) := by decide +kernel
theorem dX11_init_98 : decode cX11_init 98 = .ok (.newarray .int, 2) := by decide +kernel
theorem dX11_init_100 : decode cX11_init 100 = .ok (.putfield 41, 3) := by decide +kernel
theorem dX11_init_103 : decode cX11_init 103 = .ok (.aload_n 0, 1) := by decide +kernel
theorem dX11_init_104 : decode cX11_init 104 = .ok (.bipush 16, 2) := by decide +kernel
theorem dX11_init_106 : decode cX11_init 106 = .ok (.newarray .int, 2) := by decide +kernel
theorem dX11_init_108 : decode cX11_init 108 = .ok (.putfield 44, 3) := by decide +kernel
theorem dX11_init_111 : decode cX11_init 111 = .ok (.aload_n 0, 1) := by decide +kernel
theorem dX11_init_112 : decode cX11_init 112 = .ok (.bipush 6, 2) := by decide +kernel
theorem dX11_init_114 : decode cX11_init 114 = .ok (.newarray .int, 2) := by decide +kernel
theorem dX11_init_116 : decode cX11_init 116 = .ok (.putfield 47, 3) := by decide +kernel
theorem dX11_init_119 : decode cX11_init 119 = .ok (.aload_n 0, 1) := by decide +kernel
theorem dX11_init_120 : decode cX11_init 120 = .ok (.bipush 6, 2) := by decide +kernel
theorem dX11_init_122 : decode cX11_init 122 = .ok (.newarray .int, 2) := by decide +kernel
theorem dX11_init_124 : decode cX11_init 124 = .ok (.putfield 50, 3) := by decide +kernel
theorem dX11_init_127 : decode cX11_init 127 = .ok (.aload_n 0, 1) := by decide +kernel
theorem dX11_init_128 : decode cX11_init 128 = .ok (.sipush 2048, 3) := by decide +kernel
theorem dX11_init_131 : decode cX11_init 131 = .ok (.newarray .int, 2) := by decide +kernel
theorem dX11_init_133 : decode cX11_init 133 = .ok (.putfield 53, 3) := by decide +kernel
theorem dX11_init_136 : decode cX11_init 136 = .ok (.aload_n 0, 1) := by decide +kernel
theorem dX11_init_137 : decode cX11_init 137 = .ok (.sipush 2048, 3) := by decide +kernel
theorem dX11_init_140 : decode cX11_init 140 = .ok (.newarray .int, 2) := by decide +kernel
theorem dX11_init_142 : decode cX11_init 142 = .ok (.putfield 56, 3) := by decide +kernel
theorem dX11_init_145 : decode cX11_init 145 = .ok (.aload_n 0, 1) := by decide +kernel
theorem dX11_init_146 : decode cX11_init 146 = .ok (.sipush 512, 3) := by decide +kernel
theorem dX11_init_149 : decode cX11_init 149 = .ok (.newarray .int, 2) := by decide +kernel
theorem dX11_init_151 : decode cX11_init 151 = .ok (.putfield 59, 3) := by decide +kernel
theorem dX11_init_154 : decode cX11_init 154 = .ok (.aload_n 0, 1) := by decide +kernel
theorem dX11_init_155 : decode cX11_init 155 = .ok (.bipush 16, 2) := by decide +kernel
theorem dX11_init_157 : decode cX11_init 157 = .ok (.newarray .int, 2) := by decide +kernel
theorem dX11_init_159 : decode cX11_init 159 = .ok (.putfield 62, 3) := by decide +kernel
theorem dX11_init_162 : decode cX11_init 162 = .ok (.aload_n 0, 1) := by decide +kernel
theorem dX11_init_163 : decode cX11_init 163 = .ok (.bipush 16, 2) := by decide +kernel
theorem dX11_init_165 : decode cX11_init 165 = .ok (.newarray .int, 2) := by decide +kernel
theorem dX11_init_167 : decode cX11_init 167 = .ok (.putfield 65, 3) := by decide +kernel
theorem dX11_init_170 : decode cX11_init 170 = .ok (.aload_n 0, 1) := by decide +kernel
theorem dX11_init_171 : decode cX11_init 171 = .ok (.bipush 16, 2) := by decide +kernel
theorem dX11_init_173 : decode cX11_init 173 = .ok (.newarray .int, 2) := by decide +kernel
theorem dX11_init_175 : decode cX11_init 175 = .ok (.putfield 68, 3) := by decide +kernel
theorem dX11_init_178 : decode cX11_init 178 = .ok (.aload_n 0, 1) := by decide +kernel
theorem dX11_init_179 : decode cX11_init 179 = .ok (.bipush 16, 2) := by decide +kernel
theorem dX11_init_181 : decode cX11_init 181 = .ok (.newarray .int, 2) := by decide +kernel
theorem dX11_init_183 : decode cX11_init 183 = .ok (.putfield 71, 3) := by decide +kernel
theorem dX11_init_186 : decode cX11_init 186 = .ok (.aload_n 0, 1) := by decide +kernel
theorem dX11_init_187 : decode cX11_init 187 = .ok (.bipush 16, 2) := by decide +kernel
theorem dX11_init_189 : decode cX11_init 189 = .ok (.newarray .int, 2) := by decide +kernel
theorem dX11_init_191 : decode cX11_init 191 = .ok (.putfield 74, 3) := by decide +kernel
theorem dX11_init_194 : decode cX11_init 194 = .ok (.aload_n 0, 1) := by decide +kernel
theorem dX11_init_195 : decode cX11_init 195 = .ok (.sipush 256, 3) := by decide +kernel
theorem dX11_init_198 : decode cX11_init 198 = .ok (.newarray .int, 2) := by decide +kernel
theorem dX11_init_200 : decode cX11_init 200 = .ok (.putfield 77, 3) := by decide +kernel
theorem dX11_init_203 : decode cX11_init 203 = .ok (.aload_n 0, 1) := by decide +kernel
theorem dX11_init_204 : decode cX11_init 204 = .ok (.sipush 256, 3) := by decide +kernel
theorem dX11_init_207 : decode cX11_init 207 = .ok (.newarray .int, 2) := by decide +kernel
theorem dX11_init_209 : decode cX11_init 209 = .ok (.putfield 80, 3) := by decide +kernel
theorem dX11_init_212 : decode cX11_init 212 = .ok (.aload_n 0, 1) := by decide +kernel
theorem dX11_init_213 : decode cX11_init 213 = .ok (.sipush 256, 3) := by decide +kernel
theorem dX11_init_216 : decode cX11_init 216 = .ok (.newarray .int, 2) := by decide +kernel
theorem dX11_init_218 : decode cX11_init 218 = .ok (.putfield 83, 3) := by decide +kernel
theorem dX11_init_221 : decode cX11_init 221 = .ok (.aload_n 0, 1) := by decide +kernel
theorem dX11_init_222 : decode cX11_init 222 = .ok (.bipush 16, 2) := by decide +kernel
theorem dX11_init_224 : decode cX11_init 224 = .ok (.newarray .int, 2) := by decide +kernel
theorem dX11_init_226 : decode cX11_init 226 = .ok (.putfield 86, 3) := by decide +kernel
theorem dX11_init_229 : decode cX11_init 229 = .ok (.aload_n 0, 1) := by decide +kernel
theorem dX11_init_230 : decode cX11_init 230 = .ok (.bipush 16, 2) := by decide +kernel
theorem dX11_init_232 : decode cX11_init 232 = .ok (.newarray .int, 2) := by decide +kernel
theorem dX11_init_234 : decode cX11_init 234 = .ok (.putfield 89, 3) := by decide +kernel
theorem dX11_init_237 : decode cX11_init 237 = .ok (.aload_n 0, 1) := by decide +kernel
theorem dX11_init_238 : decode cX11_init 238 = .ok (.bipush 16, 2) := by decide +kernel
theorem dX11_init_240 : decode cX11_init 240 = .ok (.newarray .boolean, 2) := by decide +kernel
theorem dX11_init_242 : decode cX11_init 242 = .ok (.putfield 92, 3) := by decide +kernel
theorem dX11_init_245 : decode cX11_init 245 = .ok (.aload_n 0, 1) := by decide +kernel
theorem dX11_init_246 : decode cX11_init 246 = .ok (.bipush 16, 2) := by decide +kernel
theorem dX11_init_248 : decode cX11_init 248 = .ok (.newarray .int, 2) := by decide +kernel
theorem dX11_init_250 : decode cX11_init 250 = .ok (.putfield 96, 3) := by decide +kernel
theorem dX11_init_253 : decode cX11_init 253 = .ok (.aload_n 0, 1) := by decide +kernel
theorem dX11_init_254 : decode cX11_init 254 = .ok (.bipush 16, 2) := by decide +kernel
theorem dX11_init_256 : decode cX11_init 256 = .ok (.newarray .int, 2) := by decide +kernel
theorem dX11_init_258 : decode cX11_init 258 = .ok (.putfield 99, 3) := by decide +kernel
theorem dX11_init_261 : decode cX11_init 261 = .ok (.aload_n 0, 1) := by decide +kernel
theorem dX11_init_262 : decode cX11_init 262 = .ok (.sipush 3584, 3) := by decide +kernel
theorem dX11_init_265 : decode cX11_init 265 = .ok (.newarray .int, 2) := by decide +kernel
theorem dX11_init_267 : decode cX11_init 267 = .ok (.putfield 102, 3) := by decide +kernel
theorem dX11_init_270 : decode cX11_init 270 = .ok (.aload_n 0, 1) := by decide +kernel
theorem dX11_init_271 : decode cX11_init 271 = .ok (.sipush 512, 3) := by decide +kernel
theorem dX11_init_274 : decode cX11_init 274 = .ok (.newarray .int, 2) := by decide +kernel
theorem dX11_init_276 : decode cX11_init 276 = .ok (.putfield 105, 3) := by decide +kernel
theorem dX11_init_279 : decode cX11_init 279 = .ok (.aload_n 0, 1) := by decide +kernel
theorem dX11_init_280 : decode cX11_init 280 = .ok (.sipush 512, 3) := by decide +kernel
theorem dX11_init_283 : decode cX11_init 283 = .ok (.newarray .int, 2) := by decide +kernel
theorem dX11_init_285 : decode cX11_init 285 = .ok (.putfield 108, 3) := by decide +kernel
theorem dX11_init_288 : decode cX11_init 288 = .ok (.aload_n 0, 1) := by decide +kernel
theorem dX11_init_289 : decode cX11_init 289 = .ok (.sipush 512, 3) := by decide +kernel
theorem dX11_init_292 : decode cX11_init 292 = .ok (.newarray .int, 2) := by decide +kernel
theorem dX11_init_294 : decode cX11_init 294 = .ok (.putfield 111, 3) := by decide +kernel
theorem dX11_init_297 : decode cX11_init 297 = .ok (.aload_n 0, 1) := by decide +kernel
theorem dX11_init_298 : decode cX11_init 298 = .ok (.sipush 512, 3) := by decide +kernel
theorem dX11_init_301 : decode cX11_init 301 = .ok (.newarray .int, 2) := by decide +kernel
theorem dX11_init_303 : decode cX11_init 303 = .ok (.putfield 114, 3) := by decide +kernel
theorem dX11_init_306 : decode cX11_init 306 = .ok (.aload_n 0, 1) := by decide +kernel
theorem dX11_init_307 : decode cX11_init 307 = .ok (.sipush 2048, 3) := by decide +kernel
theorem dX11_init_310 : decode cX11_init 310 = .ok (.newarray .int, 2) := by decide +kernel
theorem dX11_init_312 : decode cX11_init 312 = .ok (.putfield 117, 3) := by decide +kernel
theorem dX11_init_315 : decode cX11_init 315 = .ok (.aload_n 0, 1) := by decide +kernel
theorem dX11_init_316 : decode cX11_init 316 = .ok (.sipush 512, 3) := by decide +kernel
theorem dX11_init_319 : decode cX11_init 319 = .ok (.newarray .boolean, 2) := by decide +kernel
theorem dX11_init_321 : decode cX11_init 321 = .ok (.putfield 120, 3) := by decide +kernel
theorem dX11_init_324 : decode cX11_init 324 = .ok (.aload_n 0, 1) := by decide +kernel
theorem dX11_init_325 : decode cX11_init 325 = .ok (.sipush 512, 3) := by decide +kernel
theorem dX11_init_328 : decode cX11_init 328 = .ok (.newarray .int, 2) := by decide +kernel
theorem dX11_init_330 : decode cX11_init 330 = .ok (.putfield 123, 3) := by decide +kernel
theorem dX11_init_333 : decode cX11_init 333 = .ok (.aload_n 0, 1) := by decide +kernel
theorem dX11_init_334 : decode cX11_init 334 = .ok (.sipush 512, 3) := by decide +kernel
theorem dX11_init_337 : decode cX11_init 337 = .ok (.newarray .int, 2) := by decide +kernel
theorem dX11_init_339 : decode cX11_init 339 = .ok (.putfield 126, 3) := by decide +kernel
theorem dX11_init_342 : decode cX11_init 342 = .ok (.aload_n 0, 1) := by decide +kernel
theorem dX11_init_343 : decode cX11_init 343 = .ok (.sipush 512, 3) := by decide +kernel
theorem dX11_init_346 : decode cX11_init 346 = .ok (.newarray .int, 2) := by decide +kernel
theorem dX11_init_348 : decode cX11_init 348 = .ok (.putfield 129, 3) := by decide +kernel
theorem dX11_init_351 : decode cX11_init 351 = .ok (.aload_n 0, 1) := by decide +kernel
theorem dX11_init_352 : decode cX11_init 352 = .ok (.sipush 512, 3) := by decide +kernel
theorem dX11_init_355 : decode cX11_init 355 = .ok (.newarray .int, 2) := by decide +kernel
theorem dX11_init_357 : decode cX11_init 357 = .ok (.putfield 132, 3) := by decide +kernel
theorem dX11_init_360 : decode cX11_init 360 = .ok (.aload_n 0, 1) := by decide +kernel
theorem dX11_init_361 : decode cX11_init 361 = .ok (.sipush 512, 3) := by decide +kernel
theorem dX11_init_364 : decode cX11_init 364 = .ok (.newarray .int, 2) := by decide +kernel
theorem dX11_init_366 : decode cX11_init 366 = .ok (.putfield 135, 3) := by decide +kernel
theorem dX11_init_369 : decode cX11_init 369 = .ok (.aload_n 0, 1) := by decide +kernel
theorem dX11_init_370 : decode cX11_init 370 = .ok (.sipush 512, 3) := by decide +kernel
theorem dX11_init_373 : decode cX11_init 373 = .ok (.newarray .int, 2) := by decide +kernel
theorem dX11_init_375 : decode cX11_init 375 = .ok (.putfield 138, 3) := by decide +kernel
theorem dX11_init_378 : decode cX11_init 378 = .ok (.aload_n 0, 1) := by decide +kernel
theorem dX11_init_379 : decode cX11_init 379 = .ok (.sipush 700, 3) := by decide +kernel
theorem dX11_init_382 : decode cX11_init 382 = .ok (.newarray .int, 2) := by decide +kernel
theorem dX11_init_384 : decode cX11_init 384 = .ok (.putfield 141, 3) := by decide +kernel
theorem dX11_init_387 : decode cX11_init 387 = .ok (.aload_n 0, 1) := by decide +kernel
theorem dX11_init_388 : decode cX11_init 388 = .ok (.ldc 144, 2) := by decide +kernel
theorem dX11_init_390 : decode cX11_init 390 = .ok (.newarray .int, 2) := by decide +kernel
theorem dX11_init_392 : decode cX11_init 392 = .ok (.putfield 145, 3) := by decide +kernel
theorem dX11_init_395 : decode cX11_init 395 = .ok (.aload_n 0, 1) := by decide +kernel
theorem dX11_init_396 : decode cX11_init 396 = .ok (.bipush 9, 2) := by decide +kernel
theorem dX11_init_398 : decode cX11_init 398 = .ok (.newarray .int, 2) := by decide +kernel
theorem dX11_init_400 : decode cX11_init 400 = .ok (.putfield 148, 3) := by decide +kernel
theorem dX11_init_403 : decode cX11_init 403 = .ok (.aload_n 0, 1) := by decide +kernel
theorem dX11_init_404 : decode cX11_init 404 = .ok (.bipush 61, 2) := by decide +kernel
theorem dX11_init_406 : decode cX11_init 406 = .ok (.anewarray 151, 3) := by decide +kernel
theorem dX11_init_409 : decode cX11_init 409 = .ok (.dup, 1) := by decide +kernel
theorem dX11_init_410 : decode cX11_init 410 = .ok (.iconst 0, 1) := by decide +kernel
theorem dX11_init_411 : decode cX11_init 411 = .ok (.ldc 153, 2) := by decide +kernel
theorem dX11_init_413 : decode cX11_init 413 = .ok (.aastore, 1) := by decide +kernel
theorem dX11_init_414 : decode cX11_init 414 = .ok (.dup, 1) := by decide +kernel
theorem dX11_init_415 : decode cX11_init 415 = .ok (.iconst 1, 1) := by decide +kernel
theorem dX11_init_416 : decode cX11_init 416 = .ok (.ldc 155, 2) := by decide +kernel
theorem dX11_init_418 : decode cX11_init 418 = .ok (.aastore, 1) := by decide +kernel
theorem dX11_init_419 : decode cX11_init 419 = .ok (.dup, 1) := by decide +kernel
theorem dX11_init_420 : decode cX11_init 420 = .ok (.iconst 2, 1) := by decide +kernel
theorem dX11_init_421 : decode cX11_init 421 = .ok (.ldc 157, 2) := by decide +kernel
theorem dX11_init_423 : decode cX11_init 423 = .ok (.aastore, 1) := by decide +kernel
theorem dX11_init_424 : decode cX11_init 424 = .ok (.dup, 1) := by decide +kernel
theorem dX11_init_425 : decode cX11_init 425 = .ok (.iconst 3, 1) := by decide +kernel
theorem dX11_init_426 : decode cX11_init 426 = .ok (.ldc 159, 2) := by decide +kernel
theorem dX11_init_428 : decode cX11_init 428 = .ok (.aastore, 1) := by decide +kernel
theorem dX11_init_429 : decode cX11_init 429 = .ok (.dup, 1) := by decide +kernel
theorem dX11_init_430 : decode cX11_init 430 = .ok (.iconst 4, 1) := by decide +kernel
theorem dX11_init_431 : decode cX11_init 431 = .ok (.ldc 161, 2) := by decide +kernel
theorem dX11_init_433 : decode cX11_init 433 = .ok (.aastore, 1) := by decide +kernel
theorem dX11_init_434 : decode cX11_init 434 = .ok (.dup, 1) := by decide +kernel
theorem dX11_init_435 : decode cX11_init 435 = .ok (.iconst 5, 1) := by decide +kernel
theorem dX11_init_436 : decode cX11_init 436 = .ok (.ldc 163, 2) := by decide +kernel
theorem dX11_init_438 : decode cX11_init 438 = .ok (.aastore, 1) := by decide +kernel
theorem dX11_init_439 : decode cX11_init 439 = .ok (.dup, 1) := by decide +kernel
theorem dX11_init_440 : decode cX11_init 440 = .ok (.bipush 6, 2) := by decide +kernel
theorem dX11_init_442 : decode cX11_init 442 = .ok (.ldc 165, 2) := by decide +kernel
theorem dX11_init_444 : decode cX11_init 444 = .ok (.aastore, 1) := by decide +kernel
theorem dX11_init_445 : decode cX11_init 445 = .ok (.dup, 1) := by decide +kernel
theorem dX11_init_446 : decode cX11_init 446 = .ok (.bipush 7, 2) := by decide +kernel
theorem dX11_init_448 : decode cX11_init 448 = .ok (.ldc 167, 2) := by decide +kernel
theorem dX11_init_450 : decode cX11_init 450 = .ok (.aastore, 1) := by decide +kernel
theorem dX11_init_451 : decode cX11_init 451 = .ok (.dup, 1) := by decide +kernel
theorem dX11_init_452 : decode cX11_init 452 = .ok (.bipush 8, 2) := by decide +kernel
theorem dX11_init_454 : decode cX11_init 454 = .ok (.ldc 169, 2) := by decide +kernel
theorem dX11_init_456 : decode cX11_init 456 = .ok (.aastore, 1) := by decide +kernel
theorem dX11_init_457 : decode cX11_init 457 = .ok (.dup, 1) := by decide +kernel
theorem dX11_init_458 : decode cX11_init 458 = .ok (.bipush 9, 2) := by decide +kernel
theorem dX11_init_460 : decode cX11_init 460 = .ok (.ldc 171, 2) := by decide +kernel
theorem dX11_init_462 : decode cX11_init 462 = .ok (.aastore, 1) := by decide +kernel
theorem dX11_init_463 : decode cX11_init 463 = .ok (.dup, 1) := by decide +kernel
theorem dX11_init_464 : decode cX11_init 464 = .ok (.bipush 10, 2) := by decide +kernel
theorem dX11_init_466 : decode cX11_init 466 = .ok (.ldc 173, 2) := by decide +kernel
theorem dX11_init_468 : decode cX11_init 468 = .ok (.aastore, 1) := by decide +kernel
theorem dX11_init_469 : decode cX11_init 469 = .ok (.dup, 1) := by decide +kernel
theorem dX11_init_470 : decode cX11_init 470 = .ok (.bipush 11, 2) := by decide +kernel
theorem dX11_init_472 : decode cX11_init 472 = .ok (.ldc 175, 2) := by decide +kernel
theorem dX11_init_474 : decode cX11_init 474 = .ok (.aastore, 1) := by decide +kernel
theorem dX11_init_475 : decode cX11_init 475 = .ok (.dup, 1) := by decide +kernel
theorem dX11_init_476 : decode cX11_init 476 = .ok (.bipush 12, 2) := by decide +kernel
theorem dX11_init_478 : decode cX11_init 478 = .ok (.ldc 177, 2) := by decide +kernel
theorem dX11_init_480 : decode cX11_init 480 = .ok (.aastore, 1) := by decide +kernel
theorem dX11_init_481 : decode cX11_init 481 = .ok (.dup, 1) := by decide +kernel
theorem dX11_init_482 : decode cX11_init 482 = .ok (.bipush 13, 2) := by decide +kernel
theorem dX11_init_484 : decode cX11_init 484 = .ok (.ldc 179, 2) := by decide +kernel
theorem dX11_init_486 : decode cX11_init 486 = .ok (.aastore, 1) := by decide +kernel
theorem dX11_init_487 : decode cX11_init 487 = .ok (.dup, 1) := by decide +kernel
theorem dX11_init_488 : decode cX11_init 488 = .ok (.bipush 14, 2) := by decide +kernel
theorem dX11_init_490 : decode cX11_init 490 = .ok (.ldc 181, 2) := by decide +kernel
theorem dX11_init_492 : decode cX11_init 492 = .ok (.aastore, 1) := by decide +kernel
theorem dX11_init_493 : decode cX11_init 493 = .ok (.dup, 1) := by decide +kernel
theorem dX11_init_494 : decode cX11_init 494 = .ok (.bipush 15, 2) := by decide +kernel
theorem dX11_init_496 : decode cX11_init 496 = .ok (.ldc 183, 2) := by decide +kernel
theorem dX11_init_498 : decode cX11_init 498 = .ok (.aastore, 1) := by decide +kernel
theorem dX11_init_499 : decode cX11_init 499 = .ok (.dup, 1) := by decide +kernel
theorem dX11_init_500 : decode cX11_init 500 = .ok (.bipush 16, 2) := by decide +kernel
theorem dX11_init_502 : decode cX11_init 502 = .ok (.ldc 185, 2) := by decide +kernel
theorem dX11_init_504 : decode cX11_init 504 = .ok (.aastore, 1) := by decide +kernel
theorem dX11_init_505 : decode cX11_init 505 = .ok (.dup, 1) := by decide +kernel
theorem dX11_init_506 : decode cX11_init 506 = .ok (.bipush 17, 2) := by decide +kernel
theorem dX11_init_508 : decode cX11_init 508 = .ok (.ldc 187, 2) := by decide +kernel
theorem dX11_init_510 : decode cX11_init 510 = .ok (.aastore, 1) := by decide +kernel
theorem dX11_init_511 : decode cX11_init 511 = .ok (.dup, 1) := by decide +kernel
theorem dX11_init_512 : decode cX11_init 512 = .ok (.bipush 18, 2) := by decide +kernel
theorem dX11_init_514 : decode cX11_init 514 = .ok (.ldc 189, 2) := by decide +kernel
theorem dX11_init_516 : decode cX11_init 516 = .ok (.aastore, 1) := by decide +kernel
theorem dX11_init_517 : decode cX11_init 517 = .ok (.dup, 1) := by decide +kernel
theorem dX11_init_518 : decode cX11_init 518 = .ok (.bipush 19, 2) := by decide +kernel
theorem dX11_init_520 : decode cX11_init 520 = .ok (.ldc 191, 2) := by decide +kernel
theorem dX11_init_522 : decode cX11_init 522 = .ok (.aastore, 1) := by decide +kernel
theorem dX11_init_523 : decode cX11_init 523 = .ok (.dup, 1) := by decide +kernel
theorem dX11_init_524 : decode cX11_init 524 = .ok (.bipush 20, 2) := by decide +kernel
theorem dX11_init_526 : decode cX11_init 526 = .ok (.ldc 193, 2) := by decide +kernel
theorem dX11_init_528 : decode cX11_init 528 = .ok (.aastore, 1) := by decide +kernel
theorem dX11_init_529 : decode cX11_init 529 = .ok (.dup, 1) := by decide +kernel
theorem dX11_init_530 : decode cX11_init 530 = .ok (.bipush 21, 2) := by decide +kernel
theorem dX11_init_532 : decode cX11_init 532 = .ok (.ldc 195, 2) := by decide +kernel
theorem dX11_init_534 : decode cX11_init 534 = .ok (.aastore, 1) := by decide +kernel
theorem dX11_init_535 : decode cX11_init 535 = .ok (.dup, 1) := by decide +kernel
theorem dX11_init_536 : decode cX11_init 536 = .ok (.bipush 22, 2) := by decide +kernel
theorem dX11_init_538 : decode cX11_init 538 = .ok (.ldc 197, 2) := by decide +kernel
theorem dX11_init_540 : decode cX11_init 540 = .ok (.aastore, 1) := by decide +kernel
theorem dX11_init_541 : decode cX11_init 541 = .ok (.dup, 1) := by decide +kernel
theorem dX11_init_542 : decode cX11_init 542 = .ok (.bipush 23, 2) := by decide +kernel
theorem dX11_init_544 : decode cX11_init 544 = .ok (.ldc 199, 2) := by decide +kernel
theorem dX11_init_546 : decode cX11_init 546 = .ok (.aastore, 1) := by decide +kernel
theorem dX11_init_547 : decode cX11_init 547 = .ok (.dup, 1) := by decide +kernel
theorem dX11_init_548 : decode cX11_init 548 = .ok (.bipush 24, 2) := by decide +kernel
theorem dX11_init_550 : decode cX11_init 550 = .ok (.ldc 201, 2) := by decide +kernel
theorem dX11_init_552 : decode cX11_init 552 = .ok (.aastore, 1) := by decide +kernel
theorem dX11_init_553 : decode cX11_init 553 = .ok (.dup, 1) := by decide +kernel
theorem dX11_init_554 : decode cX11_init 554 = .ok (.bipush 25, 2) := by decide +kernel
theorem dX11_init_556 : decode cX11_init 556 = .ok (.ldc 203, 2) := by decide +kernel
theorem dX11_init_558 : decode cX11_init 558 = .ok (.aastore, 1) := by decide +kernel
theorem dX11_init_559 : decode cX11_init 559 = .ok (.dup, 1) := by decide +kernel
theorem dX11_init_560 : decode cX11_init 560 = .ok (.bipush 26, 2) := by decide +kernel
theorem dX11_init_562 : decode cX11_init 562 = .ok (.ldc 205, 2) := by decide +kernel
theorem dX11_init_564 : decode cX11_init 564 = .ok (.aastore, 1) := by decide +kernel
theorem dX11_init_565 : decode cX11_init 565 = .ok (.dup, 1) := by decide +kernel
theorem dX11_init_566 : decode cX11_init 566 = .ok (.bipush 27, 2) := by decide +kernel
theorem dX11_init_568 : decode cX11_init 568 = .ok (.ldc 207, 2) := by decide +kernel
theorem dX11_init_570 : decode cX11_init 570 = .ok (.aastore, 1) := by decide +kernel
theorem dX11_init_571 : decode cX11_init 571 = .ok (.dup, 1) := by decide +kernel
theorem dX11_init_572 : decode cX11_init 572 = .ok (.bipush 28, 2) := by decide +kernel
theorem dX11_init_574 : decode cX11_init 574 = .ok (.ldc 209, 2) := by decide +kernel
theorem dX11_init_576 : decode cX11_init 576 = .ok (.aastore, 1) := by decide +kernel
theorem dX11_init_577 : decode cX11_init 577 = .ok (.dup, 1) := by decide +kernel
theorem dX11_init_578 : decode cX11_init 578 = .ok (.bipush 29, 2) := by decide +kernel
theorem dX11_init_580 : decode cX11_init 580 = .ok (.ldc 211, 2) := by decide +kernel
theorem dX11_init_582 : decode cX11_init 582 = .ok (.aastore, 1) := by decide +kernel
theorem dX11_init_583 : decode cX11_init 583 = .ok (.dup, 1) := by decide +kernel
theorem dX11_init_584 : decode cX11_init 584 = .ok (.bipush 30, 2) := by decide +kernel
theorem dX11_init_586 : decode cX11_init 586 = .ok (.ldc 213, 2) := by decide +kernel
theorem dX11_init_588 : decode cX11_init 588 = .ok (.aastore, 1) := by decide +kernel
theorem dX11_init_589 : decode cX11_init 589 = .ok (.dup, 1) := by decide +kernel
theorem dX11_init_590 : decode cX11_init 590 = .ok (.bipush 31, 2) := by decide +kernel
theorem dX11_init_592 : decode cX11_init 592 = .ok (.ldc 215, 2) := by decide +kernel
theorem dX11_init_594 : decode cX11_init 594 = .ok (.aastore, 1) := by decide +kernel
theorem dX11_init_595 : decode cX11_init 595 = .ok (.dup, 1) := by decide +kernel
theorem dX11_init_596 : decode cX11_init 596 = .ok (.bipush 32, 2) := by decide +kernel
theorem dX11_init_598 : decode cX11_init 598 = .ok (.ldc 217, 2) := by decide +kernel
theorem dX11_init_600 : decode cX11_init 600 = .ok (.aastore, 1) := by decide +kernel
theorem dX11_init_601 : decode cX11_init 601 = .ok (.dup, 1) := by decide +kernel
theorem dX11_init_602 : decode cX11_init 602 = .ok (.bipush 33, 2) := by decide +kernel
theorem dX11_init_604 : decode cX11_init 604 = .ok (.ldc 219, 2) := by decide +kernel
theorem dX11_init_606 : decode cX11_init 606 = .ok (.aastore, 1) := by decide +kernel
theorem dX11_init_607 : decode cX11_init 607 = .ok (.dup, 1) := by decide +kernel
theorem dX11_init_608 : decode cX11_init 608 = .ok (.bipush 34, 2) := by decide +kernel
theorem dX11_init_610 : decode cX11_init 610 = .ok (.ldc 221, 2) := by decide +kernel
theorem dX11_init_612 : decode cX11_init 612 = .ok (.aastore, 1) := by decide +kernel
theorem dX11_init_613 : decode cX11_init 613 = .ok (.dup, 1) := by decide +kernel
theorem dX11_init_614 : decode cX11_init 614 = .ok (.bipush 35, 2) := by decide +kernel
theorem dX11_init_616 : decode cX11_init 616 = .ok (.ldc 223, 2) := by decide +kernel
theorem dX11_init_618 : decode cX11_init 618 = .ok (.aastore, 1) := by decide +kernel
theorem dX11_init_619 : decode cX11_init 619 = .ok (.dup, 1) := by decide +kernel
theorem dX11_init_620 : decode cX11_init 620 = .ok (.bipush 36, 2) := by decide +kernel
theorem dX11_init_622 : decode cX11_init 622 = .ok (.ldc 225, 2) := by decide +kernel
theorem dX11_init_624 : decode cX11_init 624 = .ok (.aastore, 1) := by decide +kernel
theorem dX11_init_625 : decode cX11_init 625 = .ok (.dup, 1) := by decide +kernel
theorem dX11_init_626 : decode cX11_init 626 = .ok (.bipush 37, 2) := by decide +kernel
theorem dX11_init_628 : decode cX11_init 628 = .ok (.ldc 227, 2) := by decide +kernel
theorem dX11_init_630 : decode cX11_init 630 = .ok (.aastore, 1) := by decide +kernel
theorem dX11_init_631 : decode cX11_init 631 = .ok (.dup, 1) := by decide +kernel
theorem dX11_init_632 : decode cX11_init 632 = .ok (.bipush 38, 2) := by decide +kernel
theorem dX11_init_634 : decode cX11_init 634 = .ok (.ldc 229, 2) := by decide +kernel
theorem dX11_init_636 : decode cX11_init 636 = .ok (.aastore, 1) := by decide +kernel
theorem dX11_init_637 : decode cX11_init 637 = .ok (.dup, 1) := by decide +kernel
theorem dX11_init_638 : decode cX11_init 638 = .ok (.bipush 39, 2) := by decide +kernel
theorem dX11_init_640 : decode cX11_init 640 = .ok (.ldc 231, 2) := by decide +kernel
theorem dX11_init_642 : decode cX11_init 642 = .ok (.aastore, 1) := by decide +kernel
theorem dX11_init_643 : decode cX11_init 643 = .ok (.dup, 1) := by decide +kernel
theorem dX11_init_644 : decode cX11_init 644 = .ok (.bipush 40, 2) := by decide +kernel
theorem dX11_init_646 : decode cX11_init 646 = .ok (.ldc 233, 2) := by decide +kernel
theorem dX11_init_648 : decode cX11_init 648 = .ok (.aastore, 1) := by decide +kernel
theorem dX11_init_649 : decode cX11_init 649 = .ok (.dup, 1) := by decide +kernel
theorem dX11_init_650 : decode cX11_init 650 = .ok (.bipush 41, 2) := by decide +kernel
theorem dX11_init_652 : decode cX11_init 652 = .ok (.ldc 235, 2) := by decide +kernel
theorem dX11_init_654 : decode cX11_init 654 = .ok (.aastore, 1) := by decide +kernel
theorem dX11_init_655 : decode cX11_init 655 = .ok (.dup, 1) := by decide +kernel
theorem dX11_init_656 : decode cX11_init 656 = .ok (.bipush 42, 2) := by decide +kernel
theorem dX11_init_658 : decode cX11_init 658 = .ok (.ldc 237, 2) := by decide +kernel
theorem dX11_init_660 : decode cX11_init 660 = .ok (.aastore, 1) := by decide +kernel
theorem dX11_init_661 : decode cX11_init 661 = .ok (.dup, 1) := by decide +kernel
theorem dX11_init_662 : decode cX11_init 662 = .ok (.bipush 43, 2) := by decide +kernel
theorem dX11_init_664 : decode cX11_init 664 = .ok (.ldc 239, 2) := by decide +kernel
theorem dX11_init_666 : decode cX11_init 666 = .ok (.aastore, 1) := by decide +kernel
theorem dX11_init_667 : decode cX11_init 667 = .ok (.dup, 1) := by decide +kernel
theorem dX11_init_668 : decode cX11_init 668 = .ok (.bipush 44, 2) := by decide +kernel
theorem dX11_init_670 : decode cX11_init 670 = .ok (.ldc 241, 2) := by decide +kernel
theorem dX11_init_672 : decode cX11_init 672 = .ok (.aastore, 1) := by decide +kernel
theorem dX11_init_673 : decode cX11_init 673 = .ok (.dup, 1) := by decide +kernel
theorem dX11_init_674 : decode cX11_init 674 = .ok (.bipush 45, 2) := by decide +kernel
theorem dX11_init_676 : decode cX11_init 676 = .ok (.ldc 243, 2) := by decide +kernel
theorem dX11_init_678 : decode cX11_init 678 = .ok (.aastore, 1) := by decide +kernel
theorem dX11_init_679 : decode cX11_init 679 = .ok (.dup, 1) := by decide +kernel
theorem dX11_init_680 : decode cX11_init 680 = .ok (.bipush 46, 2) := by decide +kernel
theorem dX11_init_682 : decode cX11_init 682 = .ok (.ldc 245, 2) := by decide +kernel
theorem dX11_init_684 : decode cX11_init 684 = .ok (.aastore, 1) := by decide +kernel
theorem dX11_init_685 : decode cX11_init 685 = .ok (.dup, 1) := by decide +kernel
theorem dX11_init_686 : decode cX11_init 686 = .ok (.bipush 47, 2) := by decide +kernel
theorem dX11_init_688 : decode cX11_init 688 = .ok (.ldc 247, 2) := by decide +kernel
theorem dX11_init_690 : decode cX11_init 690 = .ok (.aastore, 1) := by decide +kernel
theorem dX11_init_691 : decode cX11_init 691 = .ok (.dup, 1) := by decide +kernel
theorem dX11_init_692 : decode cX11_init 692 = .ok (.bipush 48, 2) := by decide +kernel
theorem dX11_init_694 : decode cX11_init 694 = .ok (.ldc 249, 2) := by decide +kernel
theorem dX11_init_696 : decode cX11_init 696 = .ok (.aastore, 1) := by decide +kernel
theorem dX11_init_697 : decode cX11_init 697 = .ok (.dup, 1) := by decide +kernel
theorem dX11_init_698 : decode cX11_init 698 = .ok (.bipush 49, 2) := by decide +kernel
theorem dX11_init_700 : decode cX11_init 700 = .ok (.ldc 251, 2) := by decide +kernel
theorem dX11_init_702 : decode cX11_init 702 = .ok (.aastore, 1) := by decide +kernel
theorem dX11_init_703 : decode cX11_init 703 = .ok (.dup, 1) := by decide +kernel
theorem dX11_init_704 : decode cX11_init 704 = .ok (.bipush 50, 2) := by decide +kernel
theorem dX11_init_706 : decode cX11_init 706 = .ok (.ldc 253, 2) := by decide +kernel
theorem dX11_init_708 : decode cX11_init 708 = .ok (.aastore, 1) := by decide +kernel
theorem dX11_init_709 : decode cX11_init 709 = .ok (.dup, 1) := by decide +kernel
theorem dX11_init_710 : decode cX11_init 710 = .ok (.bipush 51, 2) := by decide +kernel
theorem dX11_init_712 : decode cX11_init 712 = .ok (.ldc 255, 2) := by decide +kernel
theorem dX11_init_714 : decode cX11_init 714 = .ok (.aastore, 1) := by decide +kernel
theorem dX11_init_715 : decode cX11_init 715 = .ok (.dup, 1) := by decide +kernel
theorem dX11_init_716 : decode cX11_init 716 = .ok (.bipush 52, 2) := by decide +kernel
theorem dX11_init_718 : decode cX11_init 718 = .ok (.ldc_w 257, 3) := by decide +kernel
theorem dX11_init_721 : decode cX11_init 721 = .ok (.aastore, 1) := by decide +kernel
theorem dX11_init_722 : decode cX11_init 722 = .ok (.dup, 1) := by decide +kernel
theorem dX11_init_723 : decode cX11_init 723 = .ok (.bipush 53, 2) := by decide +kernel
theorem dX11_init_725 : decode cX11_init 725 = .ok (.ldc_w 259, 3) := by decide +kernel
theorem dX11_init_728 : decode cX11_init 728 = .ok (.aastore, 1) := by decide +kernel
theorem dX11_init_729 : decode cX11_init 729 = .ok (.dup, 1) := by decide +kernel
theorem dX11_init_730 : decode cX11_init 730 = .ok (.bipush 54, 2) := by decide +kernel
theorem dX11_init_732 : decode cX11_init 732 = .ok (.ldc_w 261, 3) := by decide +kernel
theorem dX11_init_735 : decode cX11_init 735 = .ok (.aastore, 1) := by decide +kernel
theorem dX11_init_736 : decode cX11_init 736 = .ok (.dup, 1) := by decide +kernel
theorem dX11_init_737 : decode cX11_init 737 = .ok (.bipush 55, 2) := by decide +kernel
theorem dX11_init_739 : decode cX11_init 739 = .ok (.ldc_w 263, 3) := by decide +kernel
theorem dX11_init_742 : decode cX11_init 742 = .ok (.aastore, 1) := by decide +kernel
theorem dX11_init_743 : decode cX11_init 743 = .ok (.dup, 1) := by decide +kernel
theorem dX11_init_744 : decode cX11_init 744 = .ok (.bipush 56, 2) := by decide +kernel
theorem dX11_init_746 : decode cX11_init 746 = .ok (.ldc_w 265, 3) := by decide +kernel
theorem dX11_init_749 : decode cX11_init 749 = .ok (.aastore, 1) := by decide +kernel
theorem dX11_init_750 : decode cX11_init 750 = .ok (.dup, 1) := by decide +kernel
theorem dX11_init_751 : decode cX11_init 751 = .ok (.bipush 57, 2) := by decide +kernel
theorem dX11_init_753 : decode cX11_init 753 = .ok (.ldc_w 267, 3) := by decide +kernel
theorem dX11_init_756 : decode cX11_init 756 = .ok (.aastore, 1) := by decide +kernel
theorem dX11_init_757 : decode cX11_init 757 = .ok (.dup, 1) := by decide +kernel
theorem dX11_init_758 : decode cX11_init 758 = .ok (.bipush 58, 2) := by decide +kernel
theorem dX11_init_760 : decode cX11_init 760 = .ok (.ldc_w 269, 3) := by decide +kernel
theorem dX11_init_763 : decode cX11_init 763 = .ok (.aastore, 1) := by decide +kernel
theorem dX11_init_764 : decode cX11_init 764 = .ok (.dup, 1) := by decide +kernel
theorem dX11_init_765 : decode cX11_init 765 = .ok (.bipush 59, 2) := by decide +kernel
theorem dX11_init_767 : decode cX11_init 767 = .ok (.ldc_w 271, 3) := by decide +kernel
theorem dX11_init_770 : decode cX11_init 770 = .ok (.aastore, 1) := by decide +kernel
theorem dX11_init_771 : decode cX11_init 771 = .ok (.dup, 1) := by decide +kernel
theorem dX11_init_772 : decode cX11_init 772 = .ok (.bipush 60, 2) := by decide +kernel
theorem dX11_init_774 : decode cX11_init 774 = .ok (.ldc_w 273, 3) := by decide +kernel
theorem dX11_init_777 : decode cX11_init 777 = .ok (.aastore, 1) := by decide +kernel
theorem dX11_init_778 : decode cX11_init 778 = .ok (.putfield 275, 3) := by decide +kernel
theorem dX11_init_781 : decode cX11_init 781 = .ok (.aload_n 0, 1) := by decide +kernel
theorem dX11_init_782 : decode cX11_init 782 = .ok (.bipush 61, 2) := by decide +kernel
theorem dX11_init_784 : decode cX11_init 784 = .ok (.newarray .int, 2) := by decide +kernel
theorem dX11_init_786 : decode cX11_init 786 = .ok (.dup, 1) := by decide +kernel
theorem dX11_init_787 : decode cX11_init 787 = .ok (.iconst 0, 1) := by decide +kernel
theorem dX11_init_788 : decode cX11_init 788 = .ok (.iconst 0, 1) := by decide +kernel
theorem dX11_init_789 : decode cX11_init 789 = .ok (.iastore, 1) := by decide +kernel
theorem dX11_init_790 : decode cX11_init 790 = .ok (.dup, 1) := by decide +kernel
theorem dX11_init_791 : decode cX11_init 791 = .ok (.iconst 1, 1) := by decide +kernel
theorem dX11_init_792 : decode cX11_init 792 = .ok (.iconst 0, 1) := by decide +kernel
theorem dX11_init_793 : decode cX11_init 793 = .ok (.iastore, 1) := by decide +kernel
theorem dX11_init_794 : decode cX11_init 794 = .ok (.dup, 1) := by decide +kernel
theorem dX11_init_795 : decode cX11_init 795 = .ok (.iconst 2, 1) := by decide +kernel
theorem dX11_init_796 : decode cX11_init 796 = .ok (.iconst 0, 1) := by decide +kernel
theorem dX11_init_797 : decode cX11_init 797 = .ok (.iastore, 1) := by decide +kernel
theorem dX11_init_798 : decode cX11_init 798 = .ok (.dup, 1) := by decide +kernel
theorem dX11_init_799 : decode cX11_init 799 = .ok (.iconst 3, 1) := by decide +kernel
theorem dX11_init_800 : decode cX11_init 800 = .ok (.iconst 0, 1) := by decide +kernel
theorem dX11_init_801 : decode cX11_init 801 = .ok (.iastore, 1) := by decide +kernel
theorem dX11_init_802 : decode cX11_init 802 = .ok (.dup, 1) := by decide +kernel
theorem dX11_init_803 : decode cX11_init 803 = .ok (.iconst 4, 1) := by decide +kernel
theorem dX11_init_804 : decode cX11_init 804 = .ok (.iconst 0, 1) := by decide +kernel
theorem dX11_init_805 : decode cX11_init 805 = .ok (.iastore, 1) := by decide +kernel
theorem dX11_init_806 : decode cX11_init 806 = .ok (.dup, 1) := by decide +kernel
theorem dX11_init_807 : decode cX11_init 807 = .ok (.iconst 5, 1) := by decide +kernel
theorem dX11_init_808 : decode cX11_init 808 = .ok (.iconst 0, 1) := by decide +kernel
theorem dX11_init_809 : decode cX11_init 809 = .ok (.iastore, 1) := by decide +kernel
theorem dX11_init_810 : decode cX11_init 810 = .ok (.dup, 1) := by decide +kernel
theorem dX11_init_811 : decode cX11_init 811 = .ok (.bipush 6, 2) := by decide +kernel
theorem dX11_init_813 : decode cX11_init 813 = .ok (.iconst 0, 1) := by decide +kernel
theorem dX11_init_814 : decode cX11_init 814 = .ok (.iastore, 1) := by decide +kernel
theorem dX11_init_815 : decode cX11_init 815 = .ok (.dup, 1) := by decide +kernel
theorem dX11_init_816 : decode cX11_init 816 = .ok (.bipush 7, 2) := by decide +kernel
theorem dX11_init_818 : decode cX11_init 818 = .ok (.iconst 0, 1) := by decide +kernel
theorem dX11_init_819 : decode cX11_init 819 = .ok (.iastore, 1) := by decide +kernel
theorem dX11_init_820 : decode cX11_init 820 = .ok (.dup, 1) := by decide +kernel
theorem dX11_init_821 : decode cX11_init 821 = .ok (.bipush 8, 2) := by decide +kernel
theorem dX11_init_823 : decode cX11_init 823 = .ok (.iconst 0, 1) := by decide +kernel
theorem dX11_init_824 : decode cX11_init 824 = .ok (.iastore, 1) := by decide +kernel
theorem dX11_init_825 : decode cX11_init 825 = .ok (.dup, 1) := by decide +kernel
theorem dX11_init_826 : decode cX11_init 826 = .ok (.bipush 9, 2) := by decide +kernel
theorem dX11_init_828 : decode cX11_init 828 = .ok (.iconst 0, 1) := by decide +kernel
theorem dX11_init_829 : decode cX11_init 829 = .ok (.iastore, 1) := by decide +kernel
theorem dX11_init_830 : decode cX11_init 830 = .ok (.dup, 1) := by decide +kernel
theorem dX11_init_831 : decode cX11_init 831 = .ok (.bipush 10, 2) := by decide +kernel
theorem dX11_init_833 : decode cX11_init 833 = .ok (.iconst 1, 1) := by decide +kernel
theorem dX11_init_834 : decode cX11_init 834 = .ok (.iastore, 1) := by decide +kernel
theorem dX11_init_835 : decode cX11_init 835 = .ok (.dup, 1) := by decide +kernel
theorem dX11_init_836 : decode cX11_init 836 = .ok (.bipush 11, 2) := by decide +kernel
theorem dX11_init_838 : decode cX11_init 838 = .ok (.iconst 1, 1) := by decide +kernel
theorem dX11_init_839 : decode cX11_init 839 = .ok (.iastore, 1) := by decide +kernel
theorem dX11_init_840 : decode cX11_init 840 = .ok (.dup, 1) := by decide +kernel
theorem dX11_init_841 : decode cX11_init 841 = .ok (.bipush 12, 2) := by decide +kernel
theorem dX11_init_843 : decode cX11_init 843 = .ok (.iconst 1, 1) := by decide +kernel
theorem dX11_init_844 : decode cX11_init 844 = .ok (.iastore, 1) := by decide +kernel
theorem dX11_init_845 : decode cX11_init 845 = .ok (.dup, 1) := by decide +kernel
theorem dX11_init_846 : decode cX11_init 846 = .ok (.bipush 13, 2) := by decide +kernel
theorem dX11_init_848 : decode cX11_init 848 = .ok (.iconst 1, 1) := by decide +kernel
theorem dX11_init_849 : decode cX11_init 849 = .ok (.iastore, 1) := by decide +kernel
theorem dX11_init_850 : decode cX11_init 850 = .ok (.dup, 1) := by decide +kernel
theorem dX11_init_851 : decode cX11_init 851 = .ok (.bipush 14, 2) := by decide +kernel
theorem dX11_init_853 : decode cX11_init 853 = .ok (.iconst 1, 1) := by decide +kernel
theorem dX11_init_854 : decode cX11_init 854 = .ok (.iastore, 1) := by decide +kernel
theorem dX11_init_855 : decode cX11_init 855 = .ok (.dup, 1) := by decide +kernel
theorem dX11_init_856 : decode cX11_init 856 = .ok (.bipush 15, 2) := by decide +kernel
theorem dX11_init_858 : decode cX11_init 858 = .ok (.iconst 1, 1) := by decide +kernel
theorem dX11_init_859 : decode cX11_init 859 = .ok (.iastore, 1) := by decide +kernel
theorem dX11_init_860 : decode cX11_init 860 = .ok (.dup, 1) := by decide +kernel
theorem dX11_init_861 : decode cX11_init 861 = .ok (.bipush 16, 2) := by decide +kernel
theorem dX11_init_863 : decode cX11_init 863 = .ok (.iconst 1, 1) := by decide +kernel
theorem dX11_init_864 : decode cX11_init 864 = .ok (.iastore, 1) := by decide +kernel
theorem dX11_init_865 : decode cX11_init 865 = .ok (.dup, 1) := by decide +kernel
theorem dX11_init_866 : decode cX11_init 866 = .ok (.bipush 17, 2) := by decide +kernel
theorem dX11_init_868 : decode cX11_init 868 = .ok (.iconst 1, 1) := by decide +kernel
theorem dX11_init_869 : decode cX11_init 869 = .ok (.iastore, 1) := by decide +kernel
theorem dX11_init_870 : decode cX11_init 870 = .ok (.dup, 1) := by decide +kernel
theorem dX11_init_871 : decode cX11_init 871 = .ok (.bipush 18, 2) := by decide +kernel
theorem dX11_init_873 : decode cX11_init 873 = .ok (.iconst 1, 1) := by decide +kernel
theorem dX11_init_874 : decode cX11_init 874 = .ok (.iastore, 1) := by decide +kernel
theorem dX11_init_875 : decode cX11_init 875 = .ok (.dup, 1) := by decide +kernel
theorem dX11_init_876 : decode cX11_init 876 = .ok (.bipush 19, 2) := by decide +kernel
theorem dX11_init_878 : decode cX11_init 878 = .ok (.iconst 2, 1) := by decide +kernel
theorem dX11_init_879 : decode cX11_init 879 = .ok (.iastore, 1) := by decide +kernel
theorem dX11_init_880 : decode cX11_init 880 = .ok (.dup, 1) := by decide +kernel
theorem dX11_init_881 : decode cX11_init 881 = .ok (.bipush 20, 2) := by decide +kernel
theorem dX11_init_883 : decode cX11_init 883 = .ok (.iconst 2, 1) := by decide +kernel
theorem dX11_init_884 : decode cX11_init 884 = .ok (.iastore, 1) := by decide +kernel
theorem dX11_init_885 : decode cX11_init 885 = .ok (.dup, 1) := by decide +kernel
theorem dX11_init_886 : decode cX11_init 886 = .ok (.bipush 21, 2) := by decide +kernel
theorem dX11_init_888 : decode cX11_init 888 = .ok (.iconst 2, 1) := by decide +kernel
theorem dX11_init_889 : decode cX11_init 889 = .ok (.iastore, 1) := by decide +kernel
theorem dX11_init_890 : decode cX11_init 890 = .ok (.dup, 1) := by decide +kernel
theorem dX11_init_891 : decode cX11_init 891 = .ok (.bipush 22, 2) := by decide +kernel
theorem dX11_init_893 : decode cX11_init 893 = .ok (.iconst 2, 1) := by decide +kernel
theorem dX11_init_894 : decode cX11_init 894 = .ok (.iastore, 1) := by decide +kernel
theorem dX11_init_895 : decode cX11_init 895 = .ok (.dup, 1) := by decide +kernel
theorem dX11_init_896 : decode cX11_init 896 = .ok (.bipush 23, 2) := by decide +kernel
theorem dX11_init_898 : decode cX11_init 898 = .ok (.iconst 2, 1) := by decide +kernel
theorem dX11_init_899 : decode cX11_init 899 = .ok (.iastore, 1) := by decide +kernel
theorem dX11_init_900 : decode cX11_init 900 = .ok (.dup, 1) := by decide +kernel
theorem dX11_init_901 : decode cX11_init 901 = .ok (.bipush 24, 2) := by decide +kernel
theorem dX11_init_903 : decode cX11_init 903 = .ok (.iconst 3, 1) := by decide +kernel
theorem dX11_init_904 : decode cX11_init 904 = .ok (.iastore, 1) := by decide +kernel
theorem dX11_init_905 : decode cX11_init 905 = .ok (.dup, 1) := by decide +kernel
theorem dX11_init_906 : decode cX11_init 906 = .ok (.bipush 25, 2) := by decide +kernel
theorem dX11_init_908 : decode cX11_init 908 = .ok (.iconst 3, 1) := by decide +kernel
theorem dX11_init_909 : decode cX11_init 909 = .ok (.iastore, 1) := by decide +kernel
theorem dX11_init_910 : decode cX11_init 910 = .ok (.dup, 1) := by decide +kernel
theorem dX11_init_911 : decode cX11_init 911 = .ok (.bipush 26, 2) := by decide +kernel
theorem dX11_init_913 : decode cX11_init 913 = .ok (.iconst 3, 1) := by decide +kernel
theorem dX11_init_914 : decode cX11_init 914 = .ok (.iastore, 1) := by decide +kernel
theorem dX11_init_915 : decode cX11_init 915 = .ok (.dup, 1) := by decide +kernel
theorem dX11_init_916 : decode cX11_init 916 = .ok (.bipush 27, 2) := by decide +kernel
theorem dX11_init_918 : decode cX11_init 918 = .ok (.iconst 4, 1) := by decide +kernel
theorem dX11_init_919 : decode cX11_init 919 = .ok (.iastore, 1) := by decide +kernel
theorem dX11_init_920 : decode cX11_init 920 = .ok (.dup, 1) := by decide +kernel
theorem dX11_init_921 : decode cX11_init 921 = .ok (.bipush 28, 2) := by decide +kernel
theorem dX11_init_923 : decode cX11_init 923 = .ok (.iconst 4, 1) := by decide +kernel
theorem dX11_init_924 : decode cX11_init 924 = .ok (.iastore, 1) := by decide +kernel
theorem dX11_init_925 : decode cX11_init 925 = .ok (.dup, 1) := by decide +kernel
theorem dX11_init_926 : decode cX11_init 926 = .ok (.bipush 29, 2) := by decide +kernel
theorem dX11_init_928 : decode cX11_init 928 = .ok (.iconst 4, 1) := by decide +kernel
theorem dX11_init_929 : decode cX11_init 929 = .ok (.iastore, 1) := by decide +kernel
theorem dX11_init_930 : decode cX11_init 930 = .ok (.dup, 1) := by decide +kernel
theorem dX11_init_931 : decode cX11_init 931 = .ok (.bipush 30, 2) := by decide +kernel
theorem dX11_init_933 : decode cX11_init 933 = .ok (.iconst 4, 1) := by decide +kernel
theorem dX11_init_934 : decode cX11_init 934 = .ok (.iastore, 1) := by decide +kernel
theorem dX11_init_935 : decode cX11_init 935 = .ok (.dup, 1) := by decide +kernel
theorem dX11_init_936 : decode cX11_init 936 = .ok (.bipush 31, 2) := by decide +kernel
theorem dX11_init_938 : decode cX11_init 938 = .ok (.iconst 4, 1) := by decide +kernel
theorem dX11_init_939 : decode cX11_init 939 = .ok (.iastore, 1) := by decide +kernel
theorem dX11_init_940 : decode cX11_init 940 = .ok (.dup, 1) := by decide +kernel
theorem dX11_init_941 : decode cX11_init 941 = .ok (.bipush 32, 2) := by decide +kernel
theorem dX11_init_943 : decode cX11_init 943 = .ok (.iconst 4, 1) := by decide +kernel
theorem dX11_init_944 : decode cX11_init 944 = .ok (.iastore, 1) := by decide +kernel
theorem dX11_init_945 : decode cX11_init 945 = .ok (.dup, 1) := by decide +kernel
theorem dX11_init_946 : decode cX11_init 946 = .ok (.bipush 33, 2) := by decide +kernel
theorem dX11_init_948 : decode cX11_init 948 = .ok (.iconst 5, 1) := by decide +kernel
theorem dX11_init_949 : decode cX11_init 949 = .ok (.iastore, 1) := by decide +kernel
theorem dX11_init_950 : decode cX11_init 950 = .ok (.dup, 1) := by decide +kernel
theorem dX11_init_951 : decode cX11_init 951 = .ok (.bipush 34, 2) := by decide +kernel
theorem dX11_init_953 : decode cX11_init 953 = .ok (.iconst 5, 1) := by decide +kernel
theorem dX11_init_954 : decode cX11_init 954 = .ok (.iastore, 1) := by decide +kernel
theorem dX11_init_955 : decode cX11_init 955 = .ok (.dup, 1) := by decide +kernel
theorem dX11_init_956 : decode cX11_init 956 = .ok (.bipush 35, 2) := by decide +kernel
theorem dX11_init_958 : decode cX11_init 958 = .ok (.bipush 6, 2) := by decide +kernel
theorem dX11_init_960 : decode cX11_init 960 = .ok (.iastore, 1) := by decide +kernel
theorem dX11_init_961 : decode cX11_init 961 = .ok (.dup, 1) := by decide +kernel
theorem dX11_init_962 : decode cX11_init 962 = .ok (.bipush 36, 2) := by decide +kernel
theorem dX11_init_964 : decode cX11_init 964 = .ok (.iconst 2, 1) := by decide +kernel
theorem dX11_init_965 : decode cX11_init 965 = .ok (.iastore, 1) := by decide +kernel
theorem dX11_init_966 : decode cX11_init 966 = .ok (.dup, 1) := by decide +kernel
theorem dX11_init_967 : decode cX11_init 967 = .ok (.bipush 37, 2) := by decide +kernel
theorem dX11_init_969 : decode cX11_init 969 = .ok (.bipush 7, 2) := by decide +kernel
theorem dX11_init_971 : decode cX11_init 971 = .ok (.iastore, 1) := by decide +kernel
theorem dX11_init_972 : decode cX11_init 972 = .ok (.dup, 1) := by decide +kernel
theorem dX11_init_973 : decode cX11_init 973 = .ok (.bipush 38, 2) := by decide +kernel
theorem dX11_init_975 : decode cX11_init 975 = .ok (.bipush 7, 2) := by decide +kernel
theorem dX11_init_977 : decode cX11_init 977 = .ok (.iastore, 1) := by decide +kernel
theorem dX11_init_978 : decode cX11_init 978 = .ok (.dup, 1) := by decide +kernel
theorem dX11_init_979 : decode cX11_init 979 = .ok (.bipush 39, 2) := by decide +kernel
theorem dX11_init_981 : decode cX11_init 981 = .ok (.bipush 7, 2) := by decide +kernel
theorem dX11_init_983 : decode cX11_init 983 = .ok (.iastore, 1) := by decide +kernel
theorem dX11_init_984 : decode cX11_init 984 = .ok (.dup, 1) := by decide +kernel
theorem dX11_init_985 : decode cX11_init 985 = .ok (.bipush 40, 2) := by decide +kernel
theorem dX11_init_987 : decode cX11_init 987 = .ok (.bipush 7, 2) := by decide +kernel
theorem dX11_init_989 : decode cX11_init 989 = .ok (.iastore, 1) := by decide +kernel
theorem dX11_init_990 : decode cX11_init 990 = .ok (.dup, 1) := by decide +kernel
theorem dX11_init_991 : decode cX11_init 991 = .ok (.bipush 41, 2) := by decide +kernel
theorem dX11_init_993 : decode cX11_init 993 = .ok (.bipush 7, 2) := by decide +kernel
theorem dX11_init_995 : decode cX11_init 995 = .ok (.iastore, 1) := by decide +kernel
theorem dX11_init_996 : decode cX11_init 996 = .ok (.dup, 1) := by decide +kernel
theorem dX11_init_997 : decode cX11_init 997 = .ok (.bipush 42, 2) := by decide +kernel
theorem dX11_init_999 : decode cX11_init 999 = .ok (.bipush 7, 2) := by decide +kernel
theorem dX11_init_1001 : decode cX11_init 1001 = .ok (.iastore, 1) := by decide +kernel
theorem dX11_init_1002 : decode cX11_init 1002 = .ok (.dup, 1) := by decide +kernel
theorem dX11_init_1003 : decode cX11_init 1003 = .ok (.bipush 43, 2) := by decide +kernel
theorem dX11_init_1005 : decode cX11_init 1005 = .ok (.bipush 7, 2) := by decide +kernel
theorem dX11_init_1007 : decode cX11_init 1007 = .ok (.iastore, 1) := by decide +kernel
theorem dX11_init_1008 : decode cX11_init 1008 = .ok (.dup, 1) := by decide +kernel
theorem dX11_init_1009 : decode cX11_init 1009 = .ok (.bipush 44, 2) := by decide +kernel
theorem dX11_init_1011 : decode cX11_init 1011 = .ok (.bipush 7, 2) := by decide +kernel
theorem dX11_init_1013 : decode cX11_init 1013 = .ok (.iastore, 1) := by decide +kernel
theorem dX11_init_1014 : decode cX11_init 1014 = .ok (.dup, 1) := by decide +kernel
theorem dX11_init_1015 : decode cX11_init 1015 = .ok (.bipush 45, 2) := by decide +kernel
theorem dX11_init_1017 : decode cX11_init 1017 = .ok (.bipush 7, 2) := by decide +kernel
theorem dX11_init_1019 : decode cX11_init 1019 = .ok (.iastore, 1) := by decide +kernel
theorem dX11_init_1020 : decode cX11_init 1020 = .ok (.dup, 1) := by decide +kernel
theorem dX11_init_1021 : decode cX11_init 1021 = .ok (.bipush 46, 2) := by decide +kernel
theorem dX11_init_1023 : decode cX11_init 1023 = .ok (.bipush 8, 2) := by decide +kernel
theorem dX11_init_1025 : decode cX11_init 1025 = .ok (.iastore, 1) := by decide +kernel
theorem dX11_init_1026 : decode cX11_init 1026 = .ok (.dup, 1) := by decide +kernel
theorem dX11_init_1027 : decode cX11_init 1027 = .ok (.bipush 47, 2) := by decide +kernel
theorem dX11_init_1029 : decode cX11_init 1029 = .ok (.bipush 8, 2) := by decide +kernel
theorem dX11_init_1031 : decode cX11_init 1031 = .ok (.iastore, 1) := by decide +kernel
theorem dX11_init_1032 : decode cX11_init 1032 = .ok (.dup, 1) := by decide +kernel
theorem dX11_init_1033 : decode cX11_init 1033 = .ok (.bipush 48, 2) := by decide +kernel
theorem dX11_init_1035 : decode cX11_init 1035 = .ok (.bipush 8, 2) := by decide +kernel
theorem dX11_init_1037 : decode cX11_init 1037 = .ok (.iastore, 1) := by decide +kernel
theorem dX11_init_1038 : decode cX11_init 1038 = .ok (.dup, 1) := by decide +kernel
theorem dX11_init_1039 : decode cX11_init 1039 = .ok (.bipush 49, 2) := by decide +kernel
theorem dX11_init_1041 : decode cX11_init 1041 = .ok (.bipush 8, 2) := by decide +kernel
theorem dX11_init_1043 : decode cX11_init 1043 = .ok (.iastore, 1) := by decide +kernel
theorem dX11_init_1044 : decode cX11_init 1044 = .ok (.dup, 1) := by decide +kernel
theorem dX11_init_1045 : decode cX11_init 1045 = .ok (.bipush 50, 2) := by decide +kernel
theorem dX11_init_1047 : decode cX11_init 1047 = .ok (.bipush 9, 2) := by decide +kernel
theorem dX11_init_1049 : decode cX11_init 1049 = .ok (.iastore, 1) := by decide +kernel
theorem dX11_init_1050 : decode cX11_init 1050 = .ok (.dup, 1) := by decide +kernel
theorem dX11_init_1051 : decode cX11_init 1051 = .ok (.bipush 51, 2) := by decide +kernel
theorem dX11_init_1053 : decode cX11_init 1053 = .ok (.bipush 9, 2) := by decide +kernel
theorem dX11_init_1055 : decode cX11_init 1055 = .ok (.iastore, 1) := by decide +kernel
theorem dX11_init_1056 : decode cX11_init 1056 = .ok (.dup, 1) := by decide +kernel
theorem dX11_init_1057 : decode cX11_init 1057 = .ok (.bipush 52, 2) := by decide +kernel
theorem dX11_init_1059 : decode cX11_init 1059 = .ok (.bipush 10, 2) := by decide +kernel
theorem dX11_init_1061 : decode cX11_init 1061 = .ok (.iastore, 1) := by decide +kernel
theorem dX11_init_1062 : decode cX11_init 1062 = .ok (.dup, 1) := by decide +kernel
theorem dX11_init_1063 : decode cX11_init 1063 = .ok (.bipush 53, 2) := by decide +kernel
theorem dX11_init_1065 : decode cX11_init 1065 = .ok (.bipush 11, 2) := by decide +kernel
theorem dX11_init_1067 : decode cX11_init 1067 = .ok (.iastore, 1) := by decide +kernel
theorem dX11_init_1068 : decode cX11_init 1068 = .ok (.dup, 1) := by decide +kernel
theorem dX11_init_1069 : decode cX11_init 1069 = .ok (.bipush 54, 2) := by decide +kernel
theorem dX11_init_1071 : decode cX11_init 1071 = .ok (.bipush 8, 2) := by decide +kernel
theorem dX11_init_1073 : decode cX11_init 1073 = .ok (.iastore, 1) := by decide +kernel
theorem dX11_init_1074 : decode cX11_init 1074 = .ok (.dup, 1) := by decide +kernel
theorem dX11_init_1075 : decode cX11_init 1075 = .ok (.bipush 55, 2) := by decide +kernel
theorem dX11_init_1077 : decode cX11_init 1077 = .ok (.bipush 12, 2) := by decide +kernel
theorem dX11_init_1079 : decode cX11_init 1079 = .ok (.iastore, 1) := by decide +kernel
theorem dX11_init_1080 : decode cX11_init 1080 = .ok (.dup, 1) := by decide +kernel
theorem dX11_init_1081 : decode cX11_init 1081 = .ok (.bipush 56, 2) := by decide +kernel
theorem dX11_init_1083 : decode cX11_init 1083 = .ok (.bipush 12, 2) := by decide +kernel
theorem dX11_init_1085 : decode cX11_init 1085 = .ok (.iastore, 1) := by decide +kernel
theorem dX11_init_1086 : decode cX11_init 1086 = .ok (.dup, 1) := by decide +kernel
theorem dX11_init_1087 : decode cX11_init 1087 = .ok (.bipush 57, 2) := by decide +kernel
theorem dX11_init_1089 : decode cX11_init 1089 = .ok (.bipush 13, 2) := by decide +kernel
theorem dX11_init_1091 : decode cX11_init 1091 = .ok (.iastore, 1) := by decide +kernel
theorem dX11_init_1092 : decode cX11_init 1092 = .ok (.dup, 1) := by decide +kernel
theorem dX11_init_1093 : decode cX11_init 1093 = .ok (.bipush 58, 2) := by decide +kernel
theorem dX11_init_1095 : decode cX11_init 1095 = .ok (.bipush 14, 2) := by decide +kernel
theorem dX11_init_1097 : decode cX11_init 1097 = .ok (.iastore, 1) := by decide +kernel
theorem dX11_init_1098 : decode cX11_init 1098 = .ok (.dup, 1) := by decide +kernel
theorem dX11_init_1099 : decode cX11_init 1099 = .ok (.bipush 59, 2) := by decide +kernel
theorem dX11_init_1101 : decode cX11_init 1101 = .ok (.bipush 15, 2) := by decide +kernel
theorem dX11_init_1103 : decode cX11_init 1103 = .ok (.iastore, 1) := by decide +kernel
theorem dX11_init_1104 : decode cX11_init 1104 = .ok (.dup, 1) := by decide +kernel
theorem dX11_init_1105 : decode cX11_init 1105 = .ok (.bipush 60, 2) := by decide +kernel
theorem dX11_init_1107 : decode cX11_init 1107 = .ok (.bipush 16, 2) := by decide +kernel
theorem dX11_init_1109 : decode cX11_init 1109 = .ok (.iastore, 1) := by decide +kernel
theorem dX11_init_1110 : decode cX11_init 1110 = .ok (.putfield 279, 3) := by decide +kernel
theorem dX11_init_1113 : decode cX11_init 1113 = .ok (.aload_n 0, 1) := by decide +kernel
theorem dX11_init_1114 : decode cX11_init 1114 = .ok (.bipush 61, 2) := by decide +kernel
theorem dX11_init_1116 : decode cX11_init 1116 = .ok (.newarray .int, 2) := by decide +kernel
theorem dX11_init_1118 : decode cX11_init 1118 = .ok (.dup, 1) := by decide +kernel
theorem dX11_init_1119 : decode cX11_init 1119 = .ok (.iconst 0, 1) := by decide +kernel
theorem dX11_init_1120 : decode cX11_init 1120 = .ok (.bipush 51, 2) := by decide +kernel
theorem dX11_init_1122 : decode cX11_init 1122 = .ok (.iastore, 1) := by decide +kernel
theorem dX11_init_1123 : decode cX11_init 1123 = .ok (.dup, 1) := by decide +kernel
theorem dX11_init_1124 : decode cX11_init 1124 = .ok (.iconst 1, 1) := by decide +kernel
theorem dX11_init_1125 : decode cX11_init 1125 = .ok (.ldc_w 282, 3) := by decide +kernel
theorem dX11_init_1128 : decode cX11_init 1128 = .ok (.iastore, 1) := by decide +kernel
theorem dX11_init_1129 : decode cX11_init 1129 = .ok (.dup, 1) := by decide +kernel
theorem dX11_init_1130 : decode cX11_init 1130 = .ok (.iconst 2, 1) := by decide +kernel
theorem dX11_init_1131 : decode cX11_init 1131 = .ok (.sipush 4147, 3) := by decide +kernel
theorem dX11_init_1134 : decode cX11_init 1134 = .ok (.iastore, 1) := by decide +kernel
theorem dX11_init_1135 : decode cX11_init 1135 = .ok (.dup, 1) := by decide +kernel
theorem dX11_init_1136 : decode cX11_init 1136 = .ok (.iconst 3, 1) := by decide +kernel
theorem dX11_init_1137 : decode cX11_init 1137 = .ok (.sipush 8243, 3) := by decide +kernel
theorem dX11_init_1140 : decode cX11_init 1140 = .ok (.iastore, 1) := by decide +kernel
theorem dX11_init_1141 : decode cX11_init 1141 = .ok (.dup, 1) := by decide +kernel
theorem dX11_init_1142 : decode cX11_init 1142 = .ok (.iconst 4, 1) := by decide +kernel
theorem dX11_init_1143 : decode cX11_init 1143 = .ok (.sipush 12339, 3) := by decide +kernel
theorem dX11_init_1146 : decode cX11_init 1146 = .ok (.iastore, 1) := by decide +kernel
theorem dX11_init_1147 : decode cX11_init 1147 = .ok (.dup, 1) := by decide +kernel
theorem dX11_init_1148 : decode cX11_init 1148 = .ok (.iconst 5, 1) := by decide +kernel
theorem dX11_init_1149 : decode cX11_init 1149 = .ok (.sipush 16435, 3) := by decide +kernel
theorem dX11_init_1152 : decode cX11_init 1152 = .ok (.iastore, 1) := by decide +kernel
theorem dX11_init_1153 : decode cX11_init 1153 = .ok (.dup, 1) := by decide +kernel
theorem dX11_init_1154 : decode cX11_init 1154 = .ok (.bipush 6, 2) := by decide +kernel
theorem dX11_init_1156 : decode cX11_init 1156 = .ok (.sipush 20531, 3) := by decide +kernel
theorem dX11_init_1159 : decode cX11_init 1159 = .ok (.iastore, 1) := by decide +kernel
theorem dX11_init_1160 : decode cX11_init 1160 = .ok (.dup, 1) := by decide +kernel
theorem dX11_init_1161 : decode cX11_init 1161 = .ok (.bipush 7, 2) := by decide +kernel
theorem dX11_init_1163 : decode cX11_init 1163 = .ok (.ldc_w 283, 3) := by decide +kernel
theorem dX11_init_1166 : decode cX11_init 1166 = .ok (.iastore, 1) := by decide +kernel
theorem dX11_init_1167 : decode cX11_init 1167 = .ok (.dup, 1) := by decide +kernel
theorem dX11_init_1168 : decode cX11_init 1168 = .ok (.bipush 8, 2) := by decide +kernel
theorem dX11_init_1170 : decode cX11_init 1170 = .ok (.sipush 24627, 3) := by decide +kernel
theorem dX11_init_1173 : decode cX11_init 1173 = .ok (.iastore, 1) := by decide +kernel
theorem dX11_init_1174 : decode cX11_init 1174 = .ok (.dup, 1) := by decide +kernel
theorem dX11_init_1175 : decode cX11_init 1175 = .ok (.bipush 9, 2) := by decide +kernel
theorem dX11_init_1177 : decode cX11_init 1177 = .ok (.sipush 28723, 3) := by decide +kernel
theorem dX11_init_1180 : decode cX11_init 1180 = .ok (.iastore, 1) := by decide +kernel
theorem dX11_init_1181 : decode cX11_init 1181 = .ok (.dup, 1) := by decide +kernel
theorem dX11_init_1182 : decode cX11_init 1182 = .ok (.bipush 10, 2) := by decide +kernel
theorem dX11_init_1184 : decode cX11_init 1184 = .ok (.bipush 19, 2) := by decide +kernel
theorem dX11_init_1186 : decode cX11_init 1186 = .ok (.iastore, 1) := by decide +kernel
theorem dX11_init_1187 : decode cX11_init 1187 = .ok (.dup, 1) := by decide +kernel
theorem dX11_init_1188 : decode cX11_init 1188 = .ok (.bipush 11, 2) := by decide +kernel
theorem dX11_init_1190 : decode cX11_init 1190 = .ok (.sipush 8211, 3) := by decide +kernel
theorem dX11_init_1193 : decode cX11_init 1193 = .ok (.iastore, 1) := by decide +kernel
theorem dX11_init_1194 : decode cX11_init 1194 = .ok (.dup, 1) := by decide +kernel
theorem dX11_init_1195 : decode cX11_init 1195 = .ok (.bipush 12, 2) := by decide +kernel
theorem dX11_init_1197 : decode cX11_init 1197 = .ok (.sipush 12307, 3) := by decide +kernel
theorem dX11_init_1200 : decode cX11_init 1200 = .ok (.iastore, 1) := by decide +kernel
theorem dX11_init_1201 : decode cX11_init 1201 = .ok (.dup, 1) := by decide +kernel
theorem dX11_init_1202 : decode cX11_init 1202 = .ok (.bipush 13, 2) := by decide +kernel
theorem dX11_init_1204 : decode cX11_init 1204 = .ok (.sipush 16403, 3) := by decide +kernel
theorem dX11_init_1207 : decode cX11_init 1207 = .ok (.iastore, 1) := by decide +kernel
theorem dX11_init_1208 : decode cX11_init 1208 = .ok (.dup, 1) := by decide +kernel
theorem dX11_init_1209 : decode cX11_init 1209 = .ok (.bipush 14, 2) := by decide +kernel
theorem dX11_init_1211 : decode cX11_init 1211 = .ok (.sipush 24595, 3) := by decide +kernel
theorem dX11_init_1214 : decode cX11_init 1214 = .ok (.iastore, 1) := by decide +kernel
theorem dX11_init_1215 : decode cX11_init 1215 = .ok (.dup, 1) := by decide +kernel
theorem dX11_init_1216 : decode cX11_init 1216 = .ok (.bipush 15, 2) := by decide +kernel
theorem dX11_init_1218 : decode cX11_init 1218 = .ok (.sipush 28691, 3) := by decide +kernel
theorem dX11_init_1221 : decode cX11_init 1221 = .ok (.iastore, 1) := by decide +kernel
theorem dX11_init_1222 : decode cX11_init 1222 = .ok (.dup, 1) := by decide +kernel
theorem dX11_init_1223 : decode cX11_init 1223 = .ok (.bipush 16, 2) := by decide +kernel
theorem dX11_init_1225 : decode cX11_init 1225 = .ok (.sipush 4115, 3) := by decide +kernel
theorem dX11_init_1228 : decode cX11_init 1228 = .ok (.iastore, 1) := by decide +kernel
theorem dX11_init_1229 : decode cX11_init 1229 = .ok (.dup, 1) := by decide +kernel
theorem dX11_init_1230 : decode cX11_init 1230 = .ok (.bipush 17, 2) := by decide +kernel
theorem dX11_init_1232 : decode cX11_init 1232 = .ok (.sipush 20499, 3) := by decide +kernel
theorem dX11_init_1235 : decode cX11_init 1235 = .ok (.iastore, 1) := by decide +kernel
theorem dX11_init_1236 : decode cX11_init 1236 = .ok (.dup, 1) := by decide +kernel
theorem dX11_init_1237 : decode cX11_init 1237 = .ok (.bipush 18, 2) := by decide +kernel
theorem dX11_init_1239 : decode cX11_init 1239 = .ok (.ldc_w 284, 3) := by decide +kernel
theorem dX11_init_1242 : decode cX11_init 1242 = .ok (.iastore, 1) := by decide +kernel
theorem dX11_init_1243 : decode cX11_init 1243 = .ok (.dup, 1) := by decide +kernel
theorem dX11_init_1244 : decode cX11_init 1244 = .ok (.bipush 19, 2) := by decide +kernel
theorem dX11_init_1246 : decode cX11_init 1246 = .ok (.iconst 3, 1) := by decide +kernel
theorem dX11_init_1247 : decode cX11_init 1247 = .ok (.iastore, 1) := by decide +kernel
theorem dX11_init_1248 : decode cX11_init 1248 = .ok (.dup, 1) := by decide +kernel
theorem dX11_init_1249 : decode cX11_init 1249 = .ok (.bipush 20, 2) := by decide +kernel
theorem dX11_init_1251 : decode cX11_init 1251 = .ok (.sipush 4099, 3) := by decide +kernel
theorem dX11_init_1254 : decode cX11_init 1254 = .ok (.iastore, 1) := by decide +kernel
theorem dX11_init_1255 : decode cX11_init 1255 = .ok (.dup, 1) := by decide +kernel
theorem dX11_init_1256 : decode cX11_init 1256 = .ok (.bipush 21, 2) := by decide +kernel
theorem dX11_init_1258 : decode cX11_init 1258 = .ok (.sipush 8195, 3) := by decide +kernel
theorem dX11_init_1261 : decode cX11_init 1261 = .ok (.iastore, 1) := by decide +kernel
theorem dX11_init_1262 : decode cX11_init 1262 = .ok (.dup, 1) := by decide +kernel
theorem dX11_init_1263 : decode cX11_init 1263 = .ok (.bipush 22, 2) := by decide +kernel
theorem dX11_init_1265 : decode cX11_init 1265 = .ok (.sipush 16387, 3) := by decide +kernel
theorem dX11_init_1268 : decode cX11_init 1268 = .ok (.iastore, 1) := by decide +kernel
theorem dX11_init_1269 : decode cX11_init 1269 = .ok (.dup, 1) := by decide +kernel
theorem dX11_init_1270 : decode cX11_init 1270 = .ok (.bipush 23, 2) := by decide +kernel
theorem dX11_init_1272 : decode cX11_init 1272 = .ok (.sipush 20483, 3) := by decide +kernel
theorem dX11_init_1275 : decode cX11_init 1275 = .ok (.iastore, 1) := by decide +kernel
theorem dX11_init_1276 : decode cX11_init 1276 = .ok (.dup, 1) := by decide +kernel
theorem dX11_init_1277 : decode cX11_init 1277 = .ok (.bipush 24, 2) := by decide +kernel
theorem dX11_init_1279 : decode cX11_init 1279 = .ok (.bipush 35, 2) := by decide +kernel
theorem dX11_init_1281 : decode cX11_init 1281 = .ok (.iastore, 1) := by decide +kernel
theorem dX11_init_1282 : decode cX11_init 1282 = .ok (.dup, 1) := by decide +kernel
theorem dX11_init_1283 : decode cX11_init 1283 = .ok (.bipush 25, 2) := by decide +kernel
theorem dX11_init_1285 : decode cX11_init 1285 = .ok (.sipush 4131, 3) := by decide +kernel
theorem dX11_init_1288 : decode cX11_init 1288 = .ok (.iastore, 1) := by decide +kernel
theorem dX11_init_1289 : decode cX11_init 1289 = .ok (.dup, 1) := by decide +kernel
theorem dX11_init_1290 : decode cX11_init 1290 = .ok (.bipush 26, 2) := by decide +kernel
theorem dX11_init_1292 : decode cX11_init 1292 = .ok (.sipush 8227, 3) := by decide +kernel
theorem dX11_init_1295 : decode cX11_init 1295 = .ok (.iastore, 1) := by decide +kernel
theorem dX11_init_1296 : decode cX11_init 1296 = .ok (.dup, 1) := by decide +kernel
theorem dX11_init_1297 : decode cX11_init 1297 = .ok (.bipush 27, 2) := by decide +kernel
theorem dX11_init_1299 : decode cX11_init 1299 = .ok (.bipush 99, 2) := by decide +kernel
theorem dX11_init_1301 : decode cX11_init 1301 = .ok (.iastore, 1) := by decide +kernel
theorem dX11_init_1302 : decode cX11_init 1302 = .ok (.dup, 1) := by decide +kernel
theorem dX11_init_1303 : decode cX11_init 1303 = .ok (.bipush 28, 2) := by decide +kernel
theorem dX11_init_1305 : decode cX11_init 1305 = .ok (.sipush 4195, 3) := by decide +kernel
theorem dX11_init_1308 : decode cX11_init 1308 = .ok (.iastore, 1) := by decide +kernel
theorem dX11_init_1309 : decode cX11_init 1309 = .ok (.dup, 1) := by decide +kernel
theorem dX11_init_1310 : decode cX11_init 1310 = .ok (.bipush 29, 2) := by decide +kernel
theorem dX11_init_1312 : decode cX11_init 1312 = .ok (.sipush 16483, 3) := by decide +kernel
theorem dX11_init_1315 : decode cX11_init 1315 = .ok (.iastore, 1) := by decide +kernel
theorem dX11_init_1316 : decode cX11_init 1316 = .ok (.dup, 1) := by decide +kernel
theorem dX11_init_1317 : decode cX11_init 1317 = .ok (.bipush 30, 2) := by decide +kernel
theorem dX11_init_1319 : decode cX11_init 1319 = .ok (.sipush 20579, 3) := by decide +kernel
theorem dX11_init_1322 : decode cX11_init 1322 = .ok (.iastore, 1) := by decide +kernel
theorem dX11_init_1323 : decode cX11_init 1323 = .ok (.dup, 1) := by decide +kernel
theorem dX11_init_1324 : decode cX11_init 1324 = .ok (.bipush 31, 2) := by decide +kernel
theorem dX11_init_1326 : decode cX11_init 1326 = .ok (.sipush 24675, 3) := by decide +kernel
theorem dX11_init_1329 : decode cX11_init 1329 = .ok (.iastore, 1) := by decide +kernel
theorem dX11_init_1330 : decode cX11_init 1330 = .ok (.dup, 1) := by decide +kernel
theorem dX11_init_1331 : decode cX11_init 1331 = .ok (.bipush 32, 2) := by decide +kernel
theorem dX11_init_1333 : decode cX11_init 1333 = .ok (.sipush 28771, 3) := by decide +kernel
theorem dX11_init_1336 : decode cX11_init 1336 = .ok (.iastore, 1) := by decide +kernel
theorem dX11_init_1337 : decode cX11_init 1337 = .ok (.dup, 1) := by decide +kernel
theorem dX11_init_1338 : decode cX11_init 1338 = .ok (.bipush 33, 2) := by decide +kernel
theorem dX11_init_1340 : decode cX11_init 1340 = .ok (.bipush 55, 2) := by decide +kernel
theorem dX11_init_1342 : decode cX11_init 1342 = .ok (.iastore, 1) := by decide +kernel
theorem dX11_init_1343 : decode cX11_init 1343 = .ok (.dup, 1) := by decide +kernel
theorem dX11_init_1344 : decode cX11_init 1344 = .ok (.bipush 34, 2) := by decide +kernel
theorem dX11_init_1346 : decode cX11_init 1346 = .ok (.bipush 23, 2) := by decide +kernel
theorem dX11_init_1348 : decode cX11_init 1348 = .ok (.iastore, 1) := by decide +kernel
theorem dX11_init_1349 : decode cX11_init 1349 = .ok (.dup, 1) := by decide +kernel
theorem dX11_init_1350 : decode cX11_init 1350 = .ok (.bipush 35, 2) := by decide +kernel
theorem dX11_init_1352 : decode cX11_init 1352 = .ok (.bipush 111, 2) := by decide +kernel
theorem dX11_init_1354 : decode cX11_init 1354 = .ok (.iastore, 1) := by decide +kernel
theorem dX11_init_1355 : decode cX11_init 1355 = .ok (.dup, 1) := by decide +kernel
theorem dX11_init_1356 : decode cX11_init 1356 = .ok (.bipush 36, 2) := by decide +kernel
theorem dX11_init_1358 : decode cX11_init 1358 = .ok (.bipush 103, 2) := by decide +kernel
theorem dX11_init_1360 : decode cX11_init 1360 = .ok (.iastore, 1) := by decide +kernel
theorem dX11_init_1361 : decode cX11_init 1361 = .ok (.dup, 1) := by decide +kernel
theorem dX11_init_1362 : decode cX11_init 1362 = .ok (.bipush 37, 2) := by decide +kernel
theorem dX11_init_1364 : decode cX11_init 1364 = .ok (.ldc_w 285, 3) := by decide +kernel
theorem dX11_init_1367 : decode cX11_init 1367 = .ok (.iastore, 1) := by decide +kernel
theorem dX11_init_1368 : decode cX11_init 1368 = .ok (.dup, 1) := by decide +kernel
theorem dX11_init_1369 : decode cX11_init 1369 = .ok (.bipush 38, 2) := by decide +kernel
theorem dX11_init_1371 : decode cX11_init 1371 = .ok (.sipush 8239, 3) := by decide +kernel
theorem dX11_init_1374 : decode cX11_init 1374 = .ok (.iastore, 1) := by decide +kernel
theorem dX11_init_1375 : decode cX11_init 1375 = .ok (.dup, 1) := by decide +kernel
theorem dX11_init_1376 : decode cX11_init 1376 = .ok (.bipush 39, 2) := by decide +kernel
theorem dX11_init_1378 : decode cX11_init 1378 = .ok (.ldc_w 286, 3) := by decide +kernel
theorem dX11_init_1381 : decode cX11_init 1381 = .ok (.iastore, 1) := by decide +kernel
theorem dX11_init_1382 : decode cX11_init 1382 = .ok (.dup, 1) := by decide +kernel
theorem dX11_init_1383 : decode cX11_init 1383 = .ok (.bipush 40, 2) := by decide +kernel
theorem dX11_init_1385 : decode cX11_init 1385 = .ok (.ldc_w 287, 3) := by decide +kernel
theorem dX11_init_1388 : decode cX11_init 1388 = .ok (.iastore, 1) := by decide +kernel
theorem dX11_init_1389 : decode cX11_init 1389 = .ok (.dup, 1) := by decide +kernel
theorem dX11_init_1390 : decode cX11_init 1390 = .ok (.bipush 41, 2) := by decide +kernel
theorem dX11_init_1392 : decode cX11_init 1392 = .ok (.ldc_w 288, 3) := by decide +kernel
theorem dX11_init_1395 : decode cX11_init 1395 = .ok (.iastore, 1) := by decide +kernel
theorem dX11_init_1396 : decode cX11_init 1396 = .ok (.dup, 1) := by decide +kernel
theorem dX11_init_1397 : decode cX11_init 1397 = .ok (.bipush 42, 2) := by decide +kernel
theorem dX11_init_1399 : decode cX11_init 1399 = .ok (.ldc_w 289, 3) := by decide +kernel
theorem dX11_init_1402 : decode cX11_init 1402 = .ok (.iastore, 1) := by decide +kernel
theorem dX11_init_1403 : decode cX11_init 1403 = .ok (.dup, 1) := by decide +kernel
theorem dX11_init_1404 : decode cX11_init 1404 = .ok (.bipush 43, 2) := by decide +kernel
theorem dX11_init_1406 : decode cX11_init 1406 = .ok (.ldc_w 290, 3) := by decide +kernel
theorem dX11_init_1409 : decode cX11_init 1409 = .ok (.iastore, 1) := by decide +kernel
theorem dX11_init_1410 : decode cX11_init 1410 = .ok (.dup, 1) := by decide +kernel
theorem dX11_init_1411 : decode cX11_init 1411 = .ok (.bipush 44, 2) := by decide +kernel
theorem dX11_init_1413 : decode cX11_init 1413 = .ok (.ldc_w 291, 3) := by decide +kernel
theorem dX11_init_1416 : decode cX11_init 1416 = .ok (.iastore, 1) := by decide +kernel
theorem dX11_init_1417 : decode cX11_init 1417 = .ok (.dup, 1) := by decide +kernel
theorem dX11_init_1418 : decode cX11_init 1418 = .ok (.bipush 45, 2) := by decide +kernel
theorem dX11_init_1420 : decode cX11_init 1420 = .ok (.ldc_w 292, 3) := by decide +kernel
theorem dX11_init_1423 : decode cX11_init 1423 = .ok (.iastore, 1) := by decide +kernel
theorem dX11_init_1424 : decode cX11_init 1424 = .ok (.dup, 1) := by decide +kernel
theorem dX11_init_1425 : decode cX11_init 1425 = .ok (.bipush 46, 2) := by decide +kernel
theorem dX11_init_1427 : decode cX11_init 1427 = .ok (.ldc_w 293, 3) := by decide +kernel
theorem dX11_init_1430 : decode cX11_init 1430 = .ok (.iastore, 1) := by decide +kernel
theorem dX11_init_1431 : decode cX11_init 1431 = .ok (.dup, 1) := by decide +kernel
theorem dX11_init_1432 : decode cX11_init 1432 = .ok (.bipush 47, 2) := by decide +kernel
theorem dX11_init_1434 : decode cX11_init 1434 = .ok (.bipush 115, 2) := by decide +kernel
theorem dX11_init_1436 : decode cX11_init 1436 = .ok (.iastore, 1) := by decide +kernel
theorem dX11_init_1437 : decode cX11_init 1437 = .ok (.dup, 1) := by decide +kernel
theorem dX11_init_1438 : decode cX11_init 1438 = .ok (.bipush 48, 2) := by decide +kernel
theorem dX11_init_1440 : decode cX11_init 1440 = .ok (.ldc_w 294, 3) := by decide +kernel
theorem dX11_init_1443 : decode cX11_init 1443 = .ok (.iastore, 1) := by decide +kernel
theorem dX11_init_1444 : decode cX11_init 1444 = .ok (.dup, 1) := by decide +kernel
theorem dX11_init_1445 : decode cX11_init 1445 = .ok (.bipush 49, 2) := by decide +kernel
theorem dX11_init_1447 : decode cX11_init 1447 = .ok (.bipush 19, 2) := by decide +kernel
theorem dX11_init_1449 : decode cX11_init 1449 = .ok (.iastore, 1) := by decide +kernel
theorem dX11_init_1450 : decode cX11_init 1450 = .ok (.dup, 1) := by decide +kernel
theorem dX11_init_1451 : decode cX11_init 1451 = .ok (.bipush 50, 2) := by decide +kernel
theorem dX11_init_1453 : decode cX11_init 1453 = .ok (.bipush 19, 2) := by decide +kernel
theorem dX11_init_1455 : decode cX11_init 1455 = .ok (.iastore, 1) := by decide +kernel
theorem dX11_init_1456 : decode cX11_init 1456 = .ok (.dup, 1) := by decide +kernel
theorem dX11_init_1457 : decode cX11_init 1457 = .ok (.bipush 51, 2) := by decide +kernel
theorem dX11_init_1459 : decode cX11_init 1459 = .ok (.ldc_w 295, 3) := by decide +kernel
theorem dX11_init_1462 : decode cX11_init 1462 = .ok (.iastore, 1) := by decide +kernel
theorem dX11_init_1463 : decode cX11_init 1463 = .ok (.dup, 1) := by decide +kernel
theorem dX11_init_1464 : decode cX11_init 1464 = .ok (.bipush 52, 2) := by decide +kernel
theorem dX11_init_1466 : decode cX11_init 1466 = .ok (.ldc_w 282, 3) := by decide +kernel
theorem dX11_init_1469 : decode cX11_init 1469 = .ok (.iastore, 1) := by decide +kernel
theorem dX11_init_1470 : decode cX11_init 1470 = .ok (.dup, 1) := by decide +kernel
theorem dX11_init_1471 : decode cX11_init 1471 = .ok (.bipush 53, 2) := by decide +kernel
theorem dX11_init_1473 : decode cX11_init 1473 = .ok (.bipush 111, 2) := by decide +kernel
theorem dX11_init_1475 : decode cX11_init 1475 = .ok (.iastore, 1) := by decide +kernel
theorem dX11_init_1476 : decode cX11_init 1476 = .ok (.dup, 1) := by decide +kernel
theorem dX11_init_1477 : decode cX11_init 1477 = .ok (.bipush 54, 2) := by decide +kernel
theorem dX11_init_1479 : decode cX11_init 1479 = .ok (.ldc_w 296, 3) := by decide +kernel
theorem dX11_init_1482 : decode cX11_init 1482 = .ok (.iastore, 1) := by decide +kernel
theorem dX11_init_1483 : decode cX11_init 1483 = .ok (.dup, 1) := by decide +kernel
theorem dX11_init_1484 : decode cX11_init 1484 = .ok (.bipush 55, 2) := by decide +kernel
theorem dX11_init_1486 : decode cX11_init 1486 = .ok (.bipush 99, 2) := by decide +kernel
theorem dX11_init_1488 : decode cX11_init 1488 = .ok (.iastore, 1) := by decide +kernel
theorem dX11_init_1489 : decode cX11_init 1489 = .ok (.dup, 1) := by decide +kernel
theorem dX11_init_1490 : decode cX11_init 1490 = .ok (.bipush 56, 2) := by decide +kernel
theorem dX11_init_1492 : decode cX11_init 1492 = .ok (.sipush 4195, 3) := by decide +kernel
theorem dX11_init_1495 : decode cX11_init 1495 = .ok (.iastore, 1) := by decide +kernel
theorem dX11_init_1496 : decode cX11_init 1496 = .ok (.dup, 1) := by decide +kernel
theorem dX11_init_1497 : decode cX11_init 1497 = .ok (.bipush 57, 2) := by decide +kernel
theorem dX11_init_1499 : decode cX11_init 1499 = .ok (.iconst 0, 1) := by decide +kernel
theorem dX11_init_1500 : decode cX11_init 1500 = .ok (.iastore, 1) := by decide +kernel
theorem dX11_init_1501 : decode cX11_init 1501 = .ok (.dup, 1) := by decide +kernel
theorem dX11_init_1502 : decode cX11_init 1502 = .ok (.bipush 58, 2) := by decide +kernel
theorem dX11_init_1504 : decode cX11_init 1504 = .ok (.iconst 0, 1) := by decide +kernel
theorem dX11_init_1505 : decode cX11_init 1505 = .ok (.iastore, 1) := by decide +kernel
theorem dX11_init_1506 : decode cX11_init 1506 = .ok (.dup, 1) := by decide +kernel
theorem dX11_init_1507 : decode cX11_init 1507 = .ok (.bipush 59, 2) := by decide +kernel
theorem dX11_init_1509 : decode cX11_init 1509 = .ok (.iconst 0, 1) := by decide +kernel
theorem dX11_init_1510 : decode cX11_init 1510 = .ok (.iastore, 1) := by decide +kernel
theorem dX11_init_1511 : decode cX11_init 1511 = .ok (.dup, 1) := by decide +kernel
theorem dX11_init_1512 : decode cX11_init 1512 = .ok (.bipush 60, 2) := by decide +kernel
theorem dX11_init_1514 : decode cX11_init 1514 = .ok (.iconst 0, 1) := by decide +kernel
theorem dX11_init_1515 : decode cX11_init 1515 = .ok (.iastore, 1) := by decide +kernel
theorem dX11_init_1516 : decode cX11_init 1516 = .ok (.putfield 297, 3) := by decide +kernel
theorem dX11_init_1519 : decode cX11_init 1519 = .ok (.aload_n 0, 1) := by decide +kernel
theorem dX11_init_1520 : decode cX11_init 1520 = .ok (.bipush 9, 2) := by decide +kernel
theorem dX11_init_1522 : decode cX11_init 1522 = .ok (.newarray .int, 2) := by decide +kernel
theorem dX11_init_1524 : decode cX11_init 1524 = .ok (.putfield 300, 3) := by decide +kernel
theorem dX11_init_1527 : decode cX11_init 1527 = .ok (.iconst 0, 1) := by decide +kernel
theorem dX11_init_1528 : decode cX11_init 1528 = .ok (.istore_n 1, 1) := by decide +kernel
theorem dX11_init_1529 : decode cX11_init 1529 = .ok (.iload_n 1, 1) := by decide +kernel
theorem dX11_init_1530 : decode cX11_init 1530 = .ok (.bipush 6, 2) := by decide +kernel
theorem dX11_init_1532 : decode cX11_init 1532 = .ok (.if_icmp .ge 16, 3) := by decide +kernel
theorem dX11_init_1535 : decode cX11_init 1535 = .ok (.aload_n 0, 1) := by decide +kernel
theorem dX11_init_1536 : decode cX11_init 1536 = .ok (.getfield 50, 3) := by decide +kernel
theorem dX11_init_1539 : decode cX11_init 1539 = .ok (.iload_n 1, 1) := by decide +kernel
theorem dX11_init_1540 : decode cX11_init 1540 = .ok (.iconst 1, 1) := by decide +kernel
theorem dX11_init_1541 : decode cX11_init 1541 = .ok (.iastore, 1) := by decide +kernel
theorem dX11_init_1542 : decode cX11_init 1542 = .ok (.iinc 1 1, 3) := by decide +kernel
theorem dX11_init_1545 : decode cX11_init 1545 = .ok (.goto (-16), 3) := by decide +kernel
theorem dX11_init_1548 : decode cX11_init 1548 = .ok (.aload_n 0, 1) := by decide +kernel
theorem dX11_init_1549 : decode cX11_init 1549 = .ok (.invokevirtual 303, 3) := by decide +kernel
theorem dX11_init_1552 : decode cX11_init 1552 = .ok (.return_, 1) := by decide +kernel
theorem dX11_thrown_0 : decode cX11_thrown 0 = .ok (.aload_n 0, 1) := by decide +kernel
theorem dX11_thrown_1 : decode cX11_thrown 1 = .ok (.getfield 306, 3) := by decide +kernel
theorem dX11_thrown_4 : decode cX11_thrown 4 = .ok (.ireturn, 1) := by decide +kernel
theorem dX11_raise_0 : decode cX11_raise 0 = .ok (.aload_n 0, 1) := by decide +kernel
theorem dX11_raise_1 : decode cX11_raise 1 = .ok (.iload_n 1, 1) := by decide +kernel
theorem dX11_raise_2 : decode cX11_raise 2 = .ok (.putfield 306, 3) := by decide +kernel
theorem dX11_raise_5 : decode cX11_raise 5 = .ok (.iconst 0, 1) := by decide +kernel
theorem dX11_raise_6 : decode cX11_raise 6 = .ok (.ireturn, 1) := by decide +kernel
theorem dX11_clear_0 : decode cX11_clear 0 = .ok (.iconst 0, 1) := by decide +kernel
theorem dX11_clear_1 : decode cX11_clear 1 = .ok (.istore_n 1, 1) := by decide +kernel
theorem dX11_clear_2 : decode cX11_clear 2 = .ok (.iload_n 1, 1) := by decide +kernel
theorem dX11_clear_3 : decode cX11_clear 3 = .ok (.bipush 6, 2) := by decide +kernel
theorem dX11_clear_5 : decode cX11_clear 5 = .ok (.if_icmp .ge 21, 3) := by decide +kernel
theorem dX11_clear_8 : decode cX11_clear 8 = .ok (.aload_n 0, 1) := by decide +kernel
theorem dX11_clear_9 : decode cX11_clear 9 = .ok (.getfield 47, 3) := by decide +kernel
theorem dX11_clear_12 : decode cX11_clear 12 = .ok (.iload_n 1, 1) := by decide +kernel
theorem dX11_clear_13 : decode cX11_clear 13 = .ok (.aload_n 0, 1) := by decide +kernel
theorem dX11_clear_14 : decode cX11_clear 14 = .ok (.getfield 50, 3) := by decide +kernel
theorem dX11_clear_17 : decode cX11_clear 17 = .ok (.iload_n 1, 1) := by decide +kernel
theorem dX11_clear_18 : decode cX11_clear 18 = .ok (.iaload, 1) := by decide +kernel
theorem dX11_clear_19 : decode cX11_clear 19 = .ok (.iastore, 1) := by decide +kernel
theorem dX11_clear_20 : decode cX11_clear 20 = .ok (.iinc 1 1, 3) := by decide +kernel
theorem dX11_clear_23 : decode cX11_clear 23 = .ok (.goto (-21), 3) := by decide +kernel
theorem dX11_clear_26 : decode cX11_clear 26 = .ok (.iconst 0, 1) := by decide +kernel
theorem dX11_clear_27 : decode cX11_clear 27 = .ok (.istore_n 1, 1) := by decide +kernel
theorem dX11_clear_28 : decode cX11_clear 28 = .ok (.iload_n 1, 1) := by decide +kernel
theorem dX11_clear_29 : decode cX11_clear 29 = .ok (.sipush 512, 3) := by decide +kernel
theorem dX11_clear_32 : decode cX11_clear 32 = .ok (.if_icmp .ge 86, 3) := by decide +kernel
theorem dX11_clear_35 : decode cX11_clear 35 = .ok (.aload_n 0, 1) := by decide +kernel
theorem dX11_clear_36 : decode cX11_clear 36 = .ok (.getfield 59, 3) := by decide +kernel
theorem dX11_clear_39 : decode cX11_clear 39 = .ok (.iload_n 1, 1) := by decide +kernel
theorem dX11_clear_40 : decode cX11_clear 40 = .ok (.iconst 0, 1) := by decide +kernel
theorem dX11_clear_41 : decode cX11_clear 41 = .ok (.iastore, 1) := by decide +kernel
theorem dX11_clear_42 : decode cX11_clear 42 = .ok (.aload_n 0, 1) := by decide +kernel
theorem dX11_clear_43 : decode cX11_clear 43 = .ok (.getfield 108, 3) := by decide +kernel
theorem dX11_clear_46 : decode cX11_clear 46 = .ok (.iload_n 1, 1) := by decide +kernel
theorem dX11_clear_47 : decode cX11_clear 47 = .ok (.iconst 0, 1) := by decide +kernel
theorem dX11_clear_48 : decode cX11_clear 48 = .ok (.iastore, 1) := by decide +kernel
theorem dX11_clear_49 : decode cX11_clear 49 = .ok (.aload_n 0, 1) := by decide +kernel
theorem dX11_clear_50 : decode cX11_clear 50 = .ok (.getfield 105, 3) := by decide +kernel
theorem dX11_clear_53 : decode cX11_clear 53 = .ok (.iload_n 1, 1) := by decide +kernel
theorem dX11_clear_54 : decode cX11_clear 54 = .ok (.iconst 0, 1) := by decide +kernel
theorem dX11_clear_55 : decode cX11_clear 55 = .ok (.iastore, 1) := by decide +kernel
theorem dX11_clear_56 : decode cX11_clear 56 = .ok (.aload_n 0, 1) := by decide +kernel
theorem dX11_clear_57 : decode cX11_clear 57 = .ok (.getfield 111, 3) := by decide +kernel
theorem dX11_clear_60 : decode cX11_clear 60 = .ok (.iload_n 1, 1) := by decide +kernel
theorem dX11_clear_61 : decode cX11_clear 61 = .ok (.iconst 0, 1) := by decide +kernel
theorem dX11_clear_62 : decode cX11_clear 62 = .ok (.iastore, 1) := by decide +kernel
theorem dX11_clear_63 : decode cX11_clear 63 = .ok (.aload_n 0, 1) := by decide +kernel
theorem dX11_clear_64 : decode cX11_clear 64 = .ok (.getfield 114, 3) := by decide +kernel
theorem dX11_clear_67 : decode cX11_clear 67 = .ok (.iload_n 1, 1) := by decide +kernel
theorem dX11_clear_68 : decode cX11_clear 68 = .ok (.iconst (-1), 1) := by decide +kernel
theorem dX11_clear_69 : decode cX11_clear 69 = .ok (.iastore, 1) := by decide +kernel
theorem dX11_clear_70 : decode cX11_clear 70 = .ok (.aload_n 0, 1) := by decide +kernel
theorem dX11_clear_71 : decode cX11_clear 71 = .ok (.getfield 129, 3) := by decide +kernel
theorem dX11_clear_74 : decode cX11_clear 74 = .ok (.iload_n 1, 1) := by decide +kernel
theorem dX11_clear_75 : decode cX11_clear 75 = .ok (.iconst (-1), 1) := by decide +kernel
theorem dX11_clear_76 : decode cX11_clear 76 = .ok (.iastore, 1) := by decide +kernel
theorem dX11_clear_77 : decode cX11_clear 77 = .ok (.aload_n 0, 1) := by decide +kernel
theorem dX11_clear_78 : decode cX11_clear 78 = .ok (.getfield 123, 3) := by decide +kernel
theorem dX11_clear_81 : decode cX11_clear 81 = .ok (.iload_n 1, 1) := by decide +kernel
theorem dX11_clear_82 : decode cX11_clear 82 = .ok (.iconst (-1), 1) := by decide +kernel
theorem dX11_clear_83 : decode cX11_clear 83 = .ok (.iastore, 1) := by decide +kernel
theorem dX11_clear_84 : decode cX11_clear 84 = .ok (.aload_n 0, 1) := by decide +kernel
theorem dX11_clear_85 : decode cX11_clear 85 = .ok (.getfield 126, 3) := by decide +kernel
theorem dX11_clear_88 : decode cX11_clear 88 = .ok (.iload_n 1, 1) := by decide +kernel
theorem dX11_clear_89 : decode cX11_clear 89 = .ok (.iconst 0, 1) := by decide +kernel
theorem dX11_clear_90 : decode cX11_clear 90 = .ok (.iastore, 1) := by decide +kernel
theorem dX11_clear_91 : decode cX11_clear 91 = .ok (.aload_n 0, 1) := by decide +kernel
theorem dX11_clear_92 : decode cX11_clear 92 = .ok (.getfield 135, 3) := by decide +kernel
theorem dX11_clear_95 : decode cX11_clear 95 = .ok (.iload_n 1, 1) := by decide +kernel
theorem dX11_clear_96 : decode cX11_clear 96 = .ok (.iconst 0, 1) := by decide +kernel
theorem dX11_clear_97 : decode cX11_clear 97 = .ok (.iastore, 1) := by decide +kernel
theorem dX11_clear_98 : decode cX11_clear 98 = .ok (.aload_n 0, 1) := by decide +kernel
theorem dX11_clear_99 : decode cX11_clear 99 = .ok (.getfield 138, 3) := by decide +kernel
theorem dX11_clear_102 : decode cX11_clear 102 = .ok (.iload_n 1, 1) := by decide +kernel
theorem dX11_clear_103 : decode cX11_clear 103 = .ok (.iconst 0, 1) := by decide +kernel
theorem dX11_clear_104 : decode cX11_clear 104 = .ok (.iastore, 1) := by decide +kernel
theorem dX11_clear_105 : decode cX11_clear 105 = .ok (.aload_n 0, 1) := by decide +kernel
theorem dX11_clear_106 : decode cX11_clear 106 = .ok (.getfield 120, 3) := by decide +kernel
theorem dX11_clear_109 : decode cX11_clear 109 = .ok (.iload_n 1, 1) := by decide +kernel
theorem dX11_clear_110 : decode cX11_clear 110 = .ok (.iconst 0, 1) := by decide +kernel
theorem dX11_clear_111 : decode cX11_clear 111 = .ok (.bastore, 1) := by decide +kernel
theorem dX11_clear_112 : decode cX11_clear 112 = .ok (.iinc 1 1, 3) := by decide +kernel
theorem dX11_clear_115 : decode cX11_clear 115 = .ok (.goto (-87), 3) := by decide +kernel
theorem dX11_clear_118 : decode cX11_clear 118 = .ok (.iconst 0, 1) := by decide +kernel
theorem dX11_clear_119 : decode cX11_clear 119 = .ok (.istore_n 1, 1) := by decide +kernel
theorem dX11_clear_120 : decode cX11_clear 120 = .ok (.iload_n 1, 1) := by decide +kernel
theorem dX11_clear_121 : decode cX11_clear 121 = .ok (.bipush 16, 2) := by decide +kernel
theorem dX11_clear_123 : decode cX11_clear 123 = .ok (.if_icmp .ge 79, 3) := by decide +kernel
theorem dX11_clear_126 : decode cX11_clear 126 = .ok (.aload_n 0, 1) := by decide +kernel
theorem dX11_clear_127 : decode cX11_clear 127 = .ok (.getfield 62, 3) := by decide +kernel
theorem dX11_clear_130 : decode cX11_clear 130 = .ok (.iload_n 1, 1) := by decide +kernel
theorem dX11_clear_131 : decode cX11_clear 131 = .ok (.iconst 0, 1) := by decide +kernel
theorem dX11_clear_132 : decode cX11_clear 132 = .ok (.iastore, 1) := by decide +kernel
theorem dX11_clear_133 : decode cX11_clear 133 = .ok (.aload_n 0, 1) := by decide +kernel
theorem dX11_clear_134 : decode cX11_clear 134 = .ok (.getfield 65, 3) := by decide +kernel
theorem dX11_clear_137 : decode cX11_clear 137 = .ok (.iload_n 1, 1) := by decide +kernel
theorem dX11_clear_138 : decode cX11_clear 138 = .ok (.iconst 0, 1) := by decide +kernel
theorem dX11_clear_139 : decode cX11_clear 139 = .ok (.iastore, 1) := by decide +kernel
theorem dX11_clear_140 : decode cX11_clear 140 = .ok (.aload_n 0, 1) := by decide +kernel
theorem dX11_clear_141 : decode cX11_clear 141 = .ok (.getfield 96, 3) := by decide +kernel
theorem dX11_clear_144 : decode cX11_clear 144 = .ok (.iload_n 1, 1) := by decide +kernel
theorem dX11_clear_145 : decode cX11_clear 145 = .ok (.iconst 0, 1) := by decide +kernel
theorem dX11_clear_146 : decode cX11_clear 146 = .ok (.iastore, 1) := by decide +kernel
theorem dX11_clear_147 : decode cX11_clear 147 = .ok (.aload_n 0, 1) := by decide +kernel
theorem dX11_clear_148 : decode cX11_clear 148 = .ok (.getfield 99, 3) := by decide +kernel
theorem dX11_clear_151 : decode cX11_clear 151 = .ok (.iload_n 1, 1) := by decide +kernel
theorem dX11_clear_152 : decode cX11_clear 152 = .ok (.iconst 0, 1) := by decide +kernel
theorem dX11_clear_153 : decode cX11_clear 153 = .ok (.iastore, 1) := by decide +kernel
theorem dX11_clear_154 : decode cX11_clear 154 = .ok (.aload_n 0, 1) := by decide +kernel
theorem dX11_clear_155 : decode cX11_clear 155 = .ok (.getfield 68, 3) := by decide +kernel
theorem dX11_clear_158 : decode cX11_clear 158 = .ok (.iload_n 1, 1) := by decide +kernel
theorem dX11_clear_159 : decode cX11_clear 159 = .ok (.iconst 0, 1) := by decide +kernel
theorem dX11_clear_160 : decode cX11_clear 160 = .ok (.iastore, 1) := by decide +kernel
theorem dX11_clear_161 : decode cX11_clear 161 = .ok (.aload_n 0, 1) := by decide +kernel
theorem dX11_clear_162 : decode cX11_clear 162 = .ok (.getfield 71, 3) := by decide +kernel
theorem dX11_clear_165 : decode cX11_clear 165 = .ok (.iload_n 1, 1) := by decide +kernel
theorem dX11_clear_166 : decode cX11_clear 166 = .ok (.iconst 0, 1) := by decide +kernel
theorem dX11_clear_167 : decode cX11_clear 167 = .ok (.iastore, 1) := by decide +kernel
theorem dX11_clear_168 : decode cX11_clear 168 = .ok (.aload_n 0, 1) := by decide +kernel
theorem dX11_clear_169 : decode cX11_clear 169 = .ok (.getfield 74, 3) := by decide +kernel
theorem dX11_clear_172 : decode cX11_clear 172 = .ok (.iload_n 1, 1) := by decide +kernel
theorem dX11_clear_173 : decode cX11_clear 173 = .ok (.iconst 0, 1) := by decide +kernel
theorem dX11_clear_174 : decode cX11_clear 174 = .ok (.iastore, 1) := by decide +kernel
theorem dX11_clear_175 : decode cX11_clear 175 = .ok (.aload_n 0, 1) := by decide +kernel
theorem dX11_clear_176 : decode cX11_clear 176 = .ok (.getfield 86, 3) := by decide +kernel
theorem dX11_clear_179 : decode cX11_clear 179 = .ok (.iload_n 1, 1) := by decide +kernel
theorem dX11_clear_180 : decode cX11_clear 180 = .ok (.iconst (-1), 1) := by decide +kernel
theorem dX11_clear_181 : decode cX11_clear 181 = .ok (.iastore, 1) := by decide +kernel
theorem dX11_clear_182 : decode cX11_clear 182 = .ok (.aload_n 0, 1) := by decide +kernel
theorem dX11_clear_183 : decode cX11_clear 183 = .ok (.getfield 89, 3) := by decide +kernel
theorem dX11_clear_186 : decode cX11_clear 186 = .ok (.iload_n 1, 1) := by decide +kernel
theorem dX11_clear_187 : decode cX11_clear 187 = .ok (.iconst (-1), 1) := by decide +kernel
theorem dX11_clear_188 : decode cX11_clear 188 = .ok (.iastore, 1) := by decide +kernel
theorem dX11_clear_189 : decode cX11_clear 189 = .ok (.aload_n 0, 1) := by decide +kernel
theorem dX11_clear_190 : decode cX11_clear 190 = .ok (.getfield 92, 3) := by decide +kernel
theorem dX11_clear_193 : decode cX11_clear 193 = .ok (.iload_n 1, 1) := by decide +kernel
theorem dX11_clear_194 : decode cX11_clear 194 = .ok (.iconst 0, 1) := by decide +kernel
theorem dX11_clear_195 : decode cX11_clear 195 = .ok (.bastore, 1) := by decide +kernel
theorem dX11_clear_196 : decode cX11_clear 196 = .ok (.iinc 1 1, 3) := by decide +kernel
theorem dX11_clear_199 : decode cX11_clear 199 = .ok (.goto (-79), 3) := by decide +kernel
theorem dX11_clear_202 : decode cX11_clear 202 = .ok (.aload_n 0, 1) := by decide +kernel
theorem dX11_clear_203 : decode cX11_clear 203 = .ok (.iconst 0, 1) := by decide +kernel
theorem dX11_clear_204 : decode cX11_clear 204 = .ok (.putfield 310, 3) := by decide +kernel
theorem dX11_clear_207 : decode cX11_clear 207 = .ok (.aload_n 0, 1) := by decide +kernel
theorem dX11_clear_208 : decode cX11_clear 208 = .ok (.iconst 0, 1) := by decide +kernel
theorem dX11_clear_209 : decode cX11_clear 209 = .ok (.putfield 313, 3) := by decide +kernel
theorem dX11_clear_212 : decode cX11_clear 212 = .ok (.aload_n 0, 1) := by decide +kernel
theorem dX11_clear_213 : decode cX11_clear 213 = .ok (.iconst 0, 1) := by decide +kernel
theorem dX11_clear_214 : decode cX11_clear 214 = .ok (.putfield 316, 3) := by decide +kernel
theorem dX11_clear_217 : decode cX11_clear 217 = .ok (.aload_n 0, 1) := by decide +kernel
theorem dX11_clear_218 : decode cX11_clear 218 = .ok (.iconst 0, 1) := by decide +kernel
theorem dX11_clear_219 : decode cX11_clear 219 = .ok (.putfield 319, 3) := by decide +kernel
theorem dX11_clear_222 : decode cX11_clear 222 = .ok (.aload_n 0, 1) := by decide +kernel
theorem dX11_clear_223 : decode cX11_clear 223 = .ok (.iconst 0, 1) := by decide +kernel
theorem dX11_clear_224 : decode cX11_clear 224 = .ok (.putfield 322, 3) := by decide +kernel
theorem dX11_clear_227 : decode cX11_clear 227 = .ok (.aload_n 0, 1) := by decide +kernel
theorem dX11_clear_228 : decode cX11_clear 228 = .ok (.iconst 0, 1) := by decide +kernel
theorem dX11_clear_229 : decode cX11_clear 229 = .ok (.putfield 325, 3) := by decide +kernel
theorem dX11_clear_232 : decode cX11_clear 232 = .ok (.aload_n 0, 1) := by decide +kernel
theorem dX11_clear_233 : decode cX11_clear 233 = .ok (.iconst 0, 1) := by decide +kernel
theorem dX11_clear_234 : decode cX11_clear 234 = .ok (.putfield 328, 3) := by decide +kernel
theorem dX11_clear_237 : decode cX11_clear 237 = .ok (.aload_n 0, 1) := by decide +kernel
theorem dX11_clear_238 : decode cX11_clear 238 = .ok (.iconst 0, 1) := by decide +kernel
theorem dX11_clear_239 : decode cX11_clear 239 = .ok (.putfield 331, 3) := by decide +kernel
theorem dX11_clear_242 : decode cX11_clear 242 = .ok (.aload_n 0, 1) := by decide +kernel
theorem dX11_clear_243 : decode cX11_clear 243 = .ok (.iconst 0, 1) := by decide +kernel
theorem dX11_clear_244 : decode cX11_clear 244 = .ok (.putfield 334, 3) := by decide +kernel
theorem dX11_clear_247 : decode cX11_clear 247 = .ok (.return_, 1) := by decide +kernel
theorem dX11_type_0 : decode cX11_type 0 = .ok (.aload_n 0, 1) := by decide +kernel
theorem dX11_type_1 : decode cX11_type 1 = .ok (.iconst 0, 1) := by decide +kernel
theorem dX11_type_2 : decode cX11_type 2 = .ok (.putfield 306, 3) := by decide +kernel
theorem dX11_type_5 : decode cX11_type 5 = .ok (.iload_n 3, 1) := by decide +kernel
theorem dX11_type_6 : decode cX11_type 6 = .ok (.iconst 1, 1) := by decide +kernel
theorem dX11_type_7 : decode cX11_type 7 = .ok (.if_icmp .lt 21, 3) := by decide +kernel
theorem dX11_type_10 : decode cX11_type 10 = .ok (.iload_n 3, 1) := by decide +kernel
theorem dX11_type_11 : decode cX11_type 11 = .ok (.bipush 8, 2) := by decide +kernel
theorem dX11_type_13 : decode cX11_type 13 = .ok (.if_icmp .gt 15, 3) := by decide +kernel
theorem dX11_type_16 : decode cX11_type 16 = .ok (.aload_n 0, 1) := by decide +kernel
theorem dX11_type_17 : decode cX11_type 17 = .ok (.getfield 337, 3) := by decide +kernel
theorem dX11_type_20 : decode cX11_type 20 = .ok (.iload_n 3, 1) := by decide +kernel
theorem dX11_type_21 : decode cX11_type 21 = .ok (.iadd, 1) := by decide +kernel
theorem dX11_type_22 : decode cX11_type 22 = .ok (.sipush 1500, 3) := by decide +kernel
theorem dX11_type_25 : decode cX11_type 25 = .ok (.if_icmp .le 5, 3) := by decide +kernel
theorem dX11_type_28 : decode cX11_type 28 = .ok (.iconst 0, 1) := by decide +kernel
theorem dX11_type_29 : decode cX11_type 29 = .ok (.ireturn, 1) := by decide +kernel
theorem dX11_type_30 : decode cX11_type 30 = .ok (.iconst 0, 1) := by decide +kernel
theorem dX11_type_31 : decode cX11_type 31 = .ok (.istore 4, 2) := by decide +kernel
theorem dX11_type_33 : decode cX11_type 33 = .ok (.iload 4, 2) := by decide +kernel
theorem dX11_type_35 : decode cX11_type 35 = .ok (.iload_n 3, 1) := by decide +kernel
theorem dX11_type_36 : decode cX11_type 36 = .ok (.if_icmp .ge 39, 3) := by decide +kernel
theorem dX11_type_39 : decode cX11_type 39 = .ok (.lload_n 1, 1) := by decide +kernel
theorem dX11_type_40 : decode cX11_type 40 = .ok (.bipush 8, 2) := by decide +kernel
theorem dX11_type_42 : decode cX11_type 42 = .ok (.iload 4, 2) := by decide +kernel
theorem dX11_type_44 : decode cX11_type 44 = .ok (.imul, 1) := by decide +kernel
theorem dX11_type_45 : decode cX11_type 45 = .ok (.lshr, 1) := by decide +kernel
theorem dX11_type_46 : decode cX11_type 46 = .ok (.ldc2_w 340, 3) := by decide +kernel
theorem dX11_type_49 : decode cX11_type 49 = .ok (.land, 1) := by decide +kernel
theorem dX11_type_50 : decode cX11_type 50 = .ok (.l2i, 1) := by decide +kernel
theorem dX11_type_51 : decode cX11_type 51 = .ok (.istore 5, 2) := by decide +kernel
theorem dX11_type_53 : decode cX11_type 53 = .ok (.iload 5, 2) := by decide +kernel
theorem dX11_type_55 : decode cX11_type 55 = .ok (.bipush 32, 2) := by decide +kernel
theorem dX11_type_57 : decode cX11_type 57 = .ok (.if_icmp .lt 10, 3) := by decide +kernel
theorem dX11_type_60 : decode cX11_type 60 = .ok (.iload 5, 2) := by decide +kernel
theorem dX11_type_62 : decode cX11_type 62 = .ok (.bipush 126, 2) := by decide +kernel
theorem dX11_type_64 : decode cX11_type 64 = .ok (.if_icmp .le 5, 3) := by decide +kernel
theorem dX11_type_67 : decode cX11_type 67 = .ok (.iconst 0, 1) := by decide +kernel
theorem dX11_type_68 : decode cX11_type 68 = .ok (.ireturn, 1) := by decide +kernel
theorem dX11_type_69 : decode cX11_type 69 = .ok (.iinc 4 1, 3) := by decide +kernel
theorem dX11_type_72 : decode cX11_type 72 = .ok (.goto (-39), 3) := by decide +kernel
theorem dX11_type_75 : decode cX11_type 75 = .ok (.iload_n 3, 1) := by decide +kernel
theorem dX11_type_76 : decode cX11_type 76 = .ok (.iconst 1, 1) := by decide +kernel
theorem dX11_type_77 : decode cX11_type 77 = .ok (.isub, 1) := by decide +kernel
theorem dX11_type_78 : decode cX11_type 78 = .ok (.istore 4, 2) := by decide +kernel
theorem dX11_type_80 : decode cX11_type 80 = .ok (.iload 4, 2) := by decide +kernel
theorem dX11_type_82 : decode cX11_type 82 = .ok (.ifCond .lt 40, 3) := by decide +kernel
theorem dX11_type_85 : decode cX11_type 85 = .ok (.aload_n 0, 1) := by decide +kernel
theorem dX11_type_86 : decode cX11_type 86 = .ok (.getfield 7, 3) := by decide +kernel
theorem dX11_type_89 : decode cX11_type 89 = .ok (.aload_n 0, 1) := by decide +kernel
theorem dX11_type_90 : decode cX11_type 90 = .ok (.getfield 337, 3) := by decide +kernel
theorem dX11_type_93 : decode cX11_type 93 = .ok (.lload_n 1, 1) := by decide +kernel
theorem dX11_type_94 : decode cX11_type 94 = .ok (.bipush 8, 2) := by decide +kernel
theorem dX11_type_96 : decode cX11_type 96 = .ok (.iload 4, 2) := by decide +kernel
theorem dX11_type_98 : decode cX11_type 98 = .ok (.imul, 1) := by decide +kernel
theorem dX11_type_99 : decode cX11_type 99 = .ok (.lshr, 1) := by decide +kernel
theorem dX11_type_100 : decode cX11_type 100 = .ok (.ldc2_w 340, 3) := by decide +kernel
theorem dX11_type_103 : decode cX11_type 103 = .ok (.land, 1) := by decide +kernel
theorem dX11_type_104 : decode cX11_type 104 = .ok (.l2i, 1) := by decide +kernel
theorem dX11_type_105 : decode cX11_type 105 = .ok (.iastore, 1) := by decide +kernel
theorem dX11_type_106 : decode cX11_type 106 = .ok (.aload_n 0, 1) := by decide +kernel
theorem dX11_type_107 : decode cX11_type 107 = .ok (.dup, 1) := by decide +kernel
theorem dX11_type_108 : decode cX11_type 108 = .ok (.getfield 337, 3) := by decide +kernel
theorem dX11_type_111 : decode cX11_type 111 = .ok (.iconst 1, 1) := by decide +kernel
theorem dX11_type_112 : decode cX11_type 112 = .ok (.iadd, 1) := by decide +kernel
theorem dX11_type_113 : decode cX11_type 113 = .ok (.putfield 337, 3) := by decide +kernel
theorem dX11_type_116 : decode cX11_type 116 = .ok (.iinc 4 (-1), 3) := by decide +kernel
theorem dX11_type_119 : decode cX11_type 119 = .ok (.goto (-39), 3) := by decide +kernel
theorem dX11_type_122 : decode cX11_type 122 = .ok (.iconst 1, 1) := by decide +kernel
theorem dX11_type_123 : decode cX11_type 123 = .ok (.ireturn, 1) := by decide +kernel
theorem dX11_sizes_0 : decode cX11_sizes 0 = .ok (.aload_n 0, 1) := by decide +kernel
theorem dX11_sizes_1 : decode cX11_sizes 1 = .ok (.iconst 0, 1) := by decide +kernel
theorem dX11_sizes_2 : decode cX11_sizes 2 = .ok (.putfield 306, 3) := by decide +kernel
theorem dX11_sizes_5 : decode cX11_sizes 5 = .ok (.iload_n 1, 1) := by decide +kernel
theorem dX11_sizes_6 : decode cX11_sizes 6 = .ok (.ifCond .le 62, 3) := by decide +kernel
theorem dX11_sizes_9 : decode cX11_sizes 9 = .ok (.iload_n 1, 1) := by decide +kernel
theorem dX11_sizes_10 : decode cX11_sizes 10 = .ok (.bipush 16, 2) := by decide +kernel
theorem dX11_sizes_12 : decode cX11_sizes 12 = .ok (.if_icmp .gt 56, 3) := by decide +kernel
theorem dX11_sizes_15 : decode cX11_sizes 15 = .ok (.iload_n 2, 1) := by decide +kernel
theorem dX11_sizes_16 : decode cX11_sizes 16 = .ok (.ifCond .le 52, 3) := by decide +kernel
theorem dX11_sizes_19 : decode cX11_sizes 19 = .ok (.iload_n 2, 1) := by decide +kernel
theorem dX11_sizes_20 : decode cX11_sizes 20 = .ok (.bipush 17, 2) := by decide +kernel
theorem dX11_sizes_22 : decode cX11_sizes 22 = .ok (.if_icmp .ge 46, 3) := by decide +kernel
theorem dX11_sizes_25 : decode cX11_sizes 25 = .ok (.iload_n 3, 1) := by decide +kernel
theorem dX11_sizes_26 : decode cX11_sizes 26 = .ok (.iconst 1, 1) := by decide +kernel
theorem dX11_sizes_27 : decode cX11_sizes 27 = .ok (.if_icmp .eq 19, 3) := by decide +kernel
theorem dX11_sizes_30 : decode cX11_sizes 30 = .ok (.iload_n 3, 1) := by decide +kernel
theorem dX11_sizes_31 : decode cX11_sizes 31 = .ok (.iconst 2, 1) := by decide +kernel
theorem dX11_sizes_32 : decode cX11_sizes 32 = .ok (.if_icmp .eq 14, 3) := by decide +kernel
theorem dX11_sizes_35 : decode cX11_sizes 35 = .ok (.iload_n 3, 1) := by decide +kernel
theorem dX11_sizes_36 : decode cX11_sizes 36 = .ok (.iconst 4, 1) := by decide +kernel
theorem dX11_sizes_37 : decode cX11_sizes 37 = .ok (.if_icmp .eq 9, 3) := by decide +kernel
theorem dX11_sizes_40 : decode cX11_sizes 40 = .ok (.iload_n 3, 1) := by decide +kernel
theorem dX11_sizes_41 : decode cX11_sizes 41 = .ok (.bipush 8, 2) := by decide +kernel
theorem dX11_sizes_43 : decode cX11_sizes 43 = .ok (.if_icmp .ne 25, 3) := by decide +kernel
theorem dX11_sizes_46 : decode cX11_sizes 46 = .ok (.iload 4, 2) := by decide +kernel
theorem dX11_sizes_48 : decode cX11_sizes 48 = .ok (.iconst 1, 1) := by decide +kernel
theorem dX11_sizes_49 : decode cX11_sizes 49 = .ok (.if_icmp .eq 15, 3) := by decide +kernel
theorem dX11_sizes_52 : decode cX11_sizes 52 = .ok (.iload 4, 2) := by decide +kernel
theorem dX11_sizes_54 : decode cX11_sizes 54 = .ok (.iconst 2, 1) := by decide +kernel
theorem dX11_sizes_55 : decode cX11_sizes 55 = .ok (.if_icmp .eq 9, 3) := by decide +kernel
theorem dX11_sizes_58 : decode cX11_sizes 58 = .ok (.iload 4, 2) := by decide +kernel
theorem dX11_sizes_60 : decode cX11_sizes 60 = .ok (.iconst 4, 1) := by decide +kernel
theorem dX11_sizes_61 : decode cX11_sizes 61 = .ok (.if_icmp .ne 7, 3) := by decide +kernel
theorem dX11_sizes_64 : decode cX11_sizes 64 = .ok (.iconst 1, 1) := by decide +kernel
theorem dX11_sizes_65 : decode cX11_sizes 65 = .ok (.goto 4, 3) := by decide +kernel
theorem dX11_sizes_68 : decode cX11_sizes 68 = .ok (.iconst 0, 1) := by decide +kernel
theorem dX11_sizes_69 : decode cX11_sizes 69 = .ok (.istore 7, 2) := by decide +kernel
theorem dX11_sizes_71 : decode cX11_sizes 71 = .ok (.iload 7, 2) := by decide +kernel
theorem dX11_sizes_73 : decode cX11_sizes 73 = .ok (.ifCond .eq 65, 3) := by decide +kernel
theorem dX11_sizes_76 : decode cX11_sizes 76 = .ok (.iload 5, 2) := by decide +kernel
theorem dX11_sizes_78 : decode cX11_sizes 78 = .ok (.iconst 1, 1) := by decide +kernel
theorem dX11_sizes_79 : decode cX11_sizes 79 = .ok (.if_icmp .eq 43, 3) := by decide +kernel
theorem dX11_sizes_82 : decode cX11_sizes 82 = .ok (.iload 5, 2) := by decide +kernel
theorem dX11_sizes_84 : decode cX11_sizes 84 = .ok (.iconst 2, 1) := by decide +kernel
theorem dX11_sizes_85 : decode cX11_sizes 85 = .ok (.if_icmp .eq 37, 3) := by decide +kernel
theorem dX11_sizes_88 : decode cX11_sizes 88 = .ok (.iload 5, 2) := by decide +kernel
theorem dX11_sizes_90 : decode cX11_sizes 90 = .ok (.iconst 4, 1) := by decide +kernel
theorem dX11_sizes_91 : decode cX11_sizes 91 = .ok (.if_icmp .eq 31, 3) := by decide +kernel
theorem dX11_sizes_94 : decode cX11_sizes 94 = .ok (.iload 5, 2) := by decide +kernel
theorem dX11_sizes_96 : decode cX11_sizes 96 = .ok (.bipush 8, 2) := by decide +kernel
theorem dX11_sizes_98 : decode cX11_sizes 98 = .ok (.if_icmp .eq 24, 3) := by decide +kernel
theorem dX11_sizes_101 : decode cX11_sizes 101 = .ok (.iload 5, 2) := by decide +kernel
theorem dX11_sizes_103 : decode cX11_sizes 103 = .ok (.bipush 16, 2) := by decide +kernel
theorem dX11_sizes_105 : decode cX11_sizes 105 = .ok (.if_icmp .eq 17, 3) := by decide +kernel
theorem dX11_sizes_108 : decode cX11_sizes 108 = .ok (.iload 5, 2) := by decide +kernel
theorem dX11_sizes_110 : decode cX11_sizes 110 = .ok (.bipush 32, 2) := by decide +kernel
theorem dX11_sizes_112 : decode cX11_sizes 112 = .ok (.if_icmp .eq 10, 3) := by decide +kernel
theorem dX11_sizes_115 : decode cX11_sizes 115 = .ok (.iload 5, 2) := by decide +kernel
theorem dX11_sizes_117 : decode cX11_sizes 117 = .ok (.bipush 64, 2) := by decide +kernel
theorem dX11_sizes_119 : decode cX11_sizes 119 = .ok (.if_icmp .ne 19, 3) := by decide +kernel
theorem dX11_sizes_122 : decode cX11_sizes 122 = .ok (.iload 6, 2) := by decide +kernel
theorem dX11_sizes_124 : decode cX11_sizes 124 = .ok (.ifCond .le 14, 3) := by decide +kernel
theorem dX11_sizes_127 : decode cX11_sizes 127 = .ok (.iload 6, 2) := by decide +kernel
theorem dX11_sizes_129 : decode cX11_sizes 129 = .ok (.bipush 9, 2) := by decide +kernel
theorem dX11_sizes_131 : decode cX11_sizes 131 = .ok (.if_icmp .ge 7, 3) := by decide +kernel
theorem dX11_sizes_134 : decode cX11_sizes 134 = .ok (.iconst 1, 1) := by decide +kernel
theorem dX11_sizes_135 : decode cX11_sizes 135 = .ok (.goto 4, 3) := by decide +kernel
theorem dX11_sizes_138 : decode cX11_sizes 138 = .ok (.iconst 0, 1) := by decide +kernel
theorem dX11_sizes_139 : decode cX11_sizes 139 = .ok (.istore 7, 2) := by decide +kernel
theorem dX11_sizes_141 : decode cX11_sizes 141 = .ok (.iload 7, 2) := by decide +kernel
theorem dX11_sizes_143 : decode cX11_sizes 143 = .ok (.ifCond .eq 17, 3) := by decide +kernel
theorem dX11_sizes_146 : decode cX11_sizes 146 = .ok (.iload 5, 2) := by decide +kernel
theorem dX11_sizes_148 : decode cX11_sizes 148 = .ok (.iload 6, 2) := by decide +kernel
theorem dX11_sizes_150 : decode cX11_sizes 150 = .ok (.imul, 1) := by decide +kernel
theorem dX11_sizes_151 : decode cX11_sizes 151 = .ok (.iload_n 1, 1) := by decide +kernel
theorem dX11_sizes_152 : decode cX11_sizes 152 = .ok (.iload_n 3, 1) := by decide +kernel
theorem dX11_sizes_153 : decode cX11_sizes 153 = .ok (.imul, 1) := by decide +kernel
theorem dX11_sizes_154 : decode cX11_sizes 154 = .ok (.iload 4, 2) := by decide +kernel
theorem dX11_sizes_156 : decode cX11_sizes 156 = .ok (.imul, 1) := by decide +kernel
theorem dX11_sizes_157 : decode cX11_sizes 157 = .ok (.if_icmp .ge 5, 3) := by decide +kernel
theorem dX11_sizes_160 : decode cX11_sizes 160 = .ok (.iconst 0, 1) := by decide +kernel
theorem dX11_sizes_161 : decode cX11_sizes 161 = .ok (.ireturn, 1) := by decide +kernel
theorem dX11_sizes_162 : decode cX11_sizes 162 = .ok (.aload_n 0, 1) := by decide +kernel
theorem dX11_sizes_163 : decode cX11_sizes 163 = .ok (.getfield 50, 3) := by decide +kernel
theorem dX11_sizes_166 : decode cX11_sizes 166 = .ok (.iconst 0, 1) := by decide +kernel
theorem dX11_sizes_167 : decode cX11_sizes 167 = .ok (.iload_n 1, 1) := by decide +kernel
theorem dX11_sizes_168 : decode cX11_sizes 168 = .ok (.iastore, 1) := by decide +kernel
theorem dX11_sizes_169 : decode cX11_sizes 169 = .ok (.aload_n 0, 1) := by decide +kernel
theorem dX11_sizes_170 : decode cX11_sizes 170 = .ok (.getfield 50, 3) := by decide +kernel
theorem dX11_sizes_173 : decode cX11_sizes 173 = .ok (.iconst 1, 1) := by decide +kernel
theorem dX11_sizes_174 : decode cX11_sizes 174 = .ok (.iload_n 2, 1) := by decide +kernel
theorem dX11_sizes_175 : decode cX11_sizes 175 = .ok (.iastore, 1) := by decide +kernel
theorem dX11_sizes_176 : decode cX11_sizes 176 = .ok (.aload_n 0, 1) := by decide +kernel
theorem dX11_sizes_177 : decode cX11_sizes 177 = .ok (.getfield 50, 3) := by decide +kernel
theorem dX11_sizes_180 : decode cX11_sizes 180 = .ok (.iconst 2, 1) := by decide +kernel
theorem dX11_sizes_181 : decode cX11_sizes 181 = .ok (.iload_n 3, 1) := by decide +kernel
theorem dX11_sizes_182 : decode cX11_sizes 182 = .ok (.iastore, 1) := by decide +kernel
theorem dX11_sizes_183 : decode cX11_sizes 183 = .ok (.aload_n 0, 1) := by decide +kernel
theorem dX11_sizes_184 : decode cX11_sizes 184 = .ok (.getfield 50, 3) := by decide +kernel
theorem dX11_sizes_187 : decode cX11_sizes 187 = .ok (.iconst 3, 1) := by decide +kernel
theorem dX11_sizes_188 : decode cX11_sizes 188 = .ok (.iload 4, 2) := by decide +kernel
theorem dX11_sizes_190 : decode cX11_sizes 190 = .ok (.iastore, 1) := by decide +kernel
theorem dX11_sizes_191 : decode cX11_sizes 191 = .ok (.aload_n 0, 1) := by decide +kernel
theorem dX11_sizes_192 : decode cX11_sizes 192 = .ok (.getfield 50, 3) := by decide +kernel
theorem dX11_sizes_195 : decode cX11_sizes 195 = .ok (.iconst 4, 1) := by decide +kernel
theorem dX11_sizes_196 : decode cX11_sizes 196 = .ok (.iload 5, 2) := by decide +kernel
theorem dX11_sizes_198 : decode cX11_sizes 198 = .ok (.iastore, 1) := by decide +kernel
theorem dX11_sizes_199 : decode cX11_sizes 199 = .ok (.aload_n 0, 1) := by decide +kernel
theorem dX11_sizes_200 : decode cX11_sizes 200 = .ok (.getfield 50, 3) := by decide +kernel
theorem dX11_sizes_203 : decode cX11_sizes 203 = .ok (.iconst 5, 1) := by decide +kernel
theorem dX11_sizes_204 : decode cX11_sizes 204 = .ok (.iload 6, 2) := by decide +kernel
theorem dX11_sizes_206 : decode cX11_sizes 206 = .ok (.iastore, 1) := by decide +kernel
theorem dX11_sizes_207 : decode cX11_sizes 207 = .ok (.iconst 1, 1) := by decide +kernel
theorem dX11_sizes_208 : decode cX11_sizes 208 = .ok (.ireturn, 1) := by decide +kernel
theorem dX11_see_0 : decode cX11_see 0 = .ok (.iload_n 1, 1) := by decide +kernel
theorem dX11_see_1 : decode cX11_see 1 = .ok (.aload_n 0, 1) := by decide +kernel
theorem dX11_see_2 : decode cX11_see 2 = .ok (.getfield 337, 3) := by decide +kernel
theorem dX11_see_5 : decode cX11_see 5 = .ok (.if_icmp .ge 12, 3) := by decide +kernel
theorem dX11_see_8 : decode cX11_see 8 = .ok (.aload_n 0, 1) := by decide +kernel
theorem dX11_see_9 : decode cX11_see 9 = .ok (.getfield 7, 3) := by decide +kernel
theorem dX11_see_12 : decode cX11_see 12 = .ok (.iload_n 1, 1) := by decide +kernel
theorem dX11_see_13 : decode cX11_see 13 = .ok (.iaload, 1) := by decide +kernel
theorem dX11_see_14 : decode cX11_see 14 = .ok (.goto 4, 3) := by decide +kernel
theorem dX11_see_17 : decode cX11_see 17 = .ok (.iconst 0, 1) := by decide +kernel
theorem dX11_see_18 : decode cX11_see 18 = .ok (.ireturn, 1) := by decide +kernel
theorem dX11_isDigit_0 : decode cX11_isDigit 0 = .ok (.iload_n 0, 1) := by decide +kernel
theorem dX11_isDigit_1 : decode cX11_isDigit 1 = .ok (.bipush 48, 2) := by decide +kernel
theorem dX11_isDigit_3 : decode cX11_isDigit 3 = .ok (.if_icmp .lt 13, 3) := by decide +kernel
theorem dX11_isDigit_6 : decode cX11_isDigit 6 = .ok (.iload_n 0, 1) := by decide +kernel
theorem dX11_isDigit_7 : decode cX11_isDigit 7 = .ok (.bipush 57, 2) := by decide +kernel
theorem dX11_isDigit_9 : decode cX11_isDigit 9 = .ok (.if_icmp .gt 7, 3) := by decide +kernel
theorem dX11_isDigit_12 : decode cX11_isDigit 12 = .ok (.iconst 1, 1) := by decide +kernel
theorem dX11_isDigit_13 : decode cX11_isDigit 13 = .ok (.goto 4, 3) := by decide +kernel
theorem dX11_isDigit_16 : decode cX11_isDigit 16 = .ok (.iconst 0, 1) := by decide +kernel
theorem dX11_isDigit_17 : decode cX11_isDigit 17 = .ok (.ireturn, 1) := by decide +kernel
theorem dX11_isHex_0 : decode cX11_isHex 0 = .ok (.iload_n 0, 1) := by decide +kernel
theorem dX11_isHex_1 : decode cX11_isHex 1 = .ok (.invokestatic 342, 3) := by decide +kernel
theorem dX11_isHex_4 : decode cX11_isHex 4 = .ok (.ifCond .ne 15, 3) := by decide +kernel
theorem dX11_isHex_7 : decode cX11_isHex 7 = .ok (.iload_n 0, 1) := by decide +kernel
theorem dX11_isHex_8 : decode cX11_isHex 8 = .ok (.bipush 97, 2) := by decide +kernel
theorem dX11_isHex_10 : decode cX11_isHex 10 = .ok (.if_icmp .lt 13, 3) := by decide +kernel
theorem dX11_isHex_13 : decode cX11_isHex 13 = .ok (.iload_n 0, 1) := by decide +kernel
theorem dX11_isHex_14 : decode cX11_isHex 14 = .ok (.bipush 102, 2) := by decide +kernel
theorem dX11_isHex_16 : decode cX11_isHex 16 = .ok (.if_icmp .gt 7, 3) := by decide +kernel
theorem dX11_isHex_19 : decode cX11_isHex 19 = .ok (.iconst 1, 1) := by decide +kernel
theorem dX11_isHex_20 : decode cX11_isHex 20 = .ok (.goto 4, 3) := by decide +kernel
theorem dX11_isHex_23 : decode cX11_isHex 23 = .ok (.iconst 0, 1) := by decide +kernel
theorem dX11_isHex_24 : decode cX11_isHex 24 = .ok (.ireturn, 1) := by decide +kernel
theorem dX11_isSmall_0 : decode cX11_isSmall 0 = .ok (.iload_n 0, 1) := by decide +kernel
theorem dX11_isSmall_1 : decode cX11_isSmall 1 = .ok (.bipush 97, 2) := by decide +kernel
theorem dX11_isSmall_3 : decode cX11_isSmall 3 = .ok (.if_icmp .lt 13, 3) := by decide +kernel
theorem dX11_isSmall_6 : decode cX11_isSmall 6 = .ok (.iload_n 0, 1) := by decide +kernel
theorem dX11_isSmall_7 : decode cX11_isSmall 7 = .ok (.bipush 122, 2) := by decide +kernel
theorem dX11_isSmall_9 : decode cX11_isSmall 9 = .ok (.if_icmp .gt 7, 3) := by decide +kernel
theorem dX11_isSmall_12 : decode cX11_isSmall 12 = .ok (.iconst 1, 1) := by decide +kernel
theorem dX11_isSmall_13 : decode cX11_isSmall 13 = .ok (.goto 4, 3) := by decide +kernel
theorem dX11_isSmall_16 : decode cX11_isSmall 16 = .ok (.iconst 0, 1) := by decide +kernel
theorem dX11_isSmall_17 : decode cX11_isSmall 17 = .ok (.ireturn, 1) := by decide +kernel
theorem dX11_tokenize_0 : decode cX11_tokenize 0 = .ok (.aload_n 0, 1) := by decide +kernel
theorem dX11_tokenize_1 : decode cX11_tokenize 1 = .ok (.iconst 0, 1) := by decide +kernel
theorem dX11_tokenize_2 : decode cX11_tokenize 2 = .ok (.putfield 346, 3) := by decide +kernel
theorem dX11_tokenize_5 : decode cX11_tokenize 5 = .ok (.iconst 0, 1) := by decide +kernel
theorem dX11_tokenize_6 : decode cX11_tokenize 6 = .ok (.istore_n 1, 1) := by decide +kernel
theorem dX11_tokenize_7 : decode cX11_tokenize 7 = .ok (.iconst 1, 1) := by decide +kernel
theorem dX11_tokenize_8 : decode cX11_tokenize 8 = .ok (.istore_n 2, 1) := by decide +kernel
theorem dX11_tokenize_9 : decode cX11_tokenize 9 = .ok (.iload_n 2, 1) := by decide +kernel
theorem dX11_tokenize_10 : decode cX11_tokenize 10 = .ok (.ifCond .eq 58, 3) := by decide +kernel
theorem dX11_tokenize_13 : decode cX11_tokenize 13 = .ok (.iload_n 1, 1) := by decide +kernel
theorem dX11_tokenize_14 : decode cX11_tokenize 14 = .ok (.aload_n 0, 1) := by decide +kernel
theorem dX11_tokenize_15 : decode cX11_tokenize 15 = .ok (.getfield 337, 3) := by decide +kernel
theorem dX11_tokenize_18 : decode cX11_tokenize 18 = .ok (.if_icmp .ge 50, 3) := by decide +kernel
theorem dX11_tokenize_21 : decode cX11_tokenize 21 = .ok (.aload_n 0, 1) := by decide +kernel
theorem dX11_tokenize_22 : decode cX11_tokenize 22 = .ok (.getfield 7, 3) := by decide +kernel
theorem dX11_tokenize_25 : decode cX11_tokenize 25 = .ok (.iload_n 1, 1) := by decide +kernel
theorem dX11_tokenize_26 : decode cX11_tokenize 26 = .ok (.iaload, 1) := by decide +kernel
theorem dX11_tokenize_27 : decode cX11_tokenize 27 = .ok (.bipush 32, 2) := by decide +kernel
theorem dX11_tokenize_29 : decode cX11_tokenize 29 = .ok (.if_icmp .ne 9, 3) := by decide +kernel
theorem dX11_tokenize_32 : decode cX11_tokenize 32 = .ok (.iinc 1 1, 3) := by decide +kernel
theorem dX11_tokenize_35 : decode cX11_tokenize 35 = .ok (.goto (-26), 3) := by decide +kernel
theorem dX11_tokenize_38 : decode cX11_tokenize 38 = .ok (.aload_n 0, 1) := by decide +kernel
theorem dX11_tokenize_39 : decode cX11_tokenize 39 = .ok (.iload_n 1, 1) := by decide +kernel
theorem dX11_tokenize_40 : decode cX11_tokenize 40 = .ok (.invokevirtual 349, 3) := by decide +kernel
theorem dX11_tokenize_43 : decode cX11_tokenize 43 = .ok (.istore_n 1, 1) := by decide +kernel
theorem dX11_tokenize_44 : decode cX11_tokenize 44 = .ok (.aload_n 0, 1) := by decide +kernel
theorem dX11_tokenize_45 : decode cX11_tokenize 45 = .ok (.getfield 13, 3) := by decide +kernel
theorem dX11_tokenize_48 : decode cX11_tokenize 48 = .ok (.aload_n 0, 1) := by decide +kernel
theorem dX11_tokenize_49 : decode cX11_tokenize 49 = .ok (.getfield 346, 3) := by decide +kernel
theorem dX11_tokenize_52 : decode cX11_tokenize 52 = .ok (.iconst 1, 1) := by decide +kernel
theorem dX11_tokenize_53 : decode cX11_tokenize 53 = .ok (.isub, 1) := by decide +kernel
theorem dX11_tokenize_54 : decode cX11_tokenize 54 = .ok (.iaload, 1) := by decide +kernel
theorem dX11_tokenize_55 : decode cX11_tokenize 55 = .ok (.iconst 4, 1) := by decide +kernel
theorem dX11_tokenize_56 : decode cX11_tokenize 56 = .ok (.if_icmp .eq 7, 3) := by decide +kernel
theorem dX11_tokenize_59 : decode cX11_tokenize 59 = .ok (.iconst 1, 1) := by decide +kernel
theorem dX11_tokenize_60 : decode cX11_tokenize 60 = .ok (.goto 4, 3) := by decide +kernel
theorem dX11_tokenize_63 : decode cX11_tokenize 63 = .ok (.iconst 0, 1) := by decide +kernel
theorem dX11_tokenize_64 : decode cX11_tokenize 64 = .ok (.istore_n 2, 1) := by decide +kernel
theorem dX11_tokenize_65 : decode cX11_tokenize 65 = .ok (.goto (-56), 3) := by decide +kernel
theorem dX11_tokenize_68 : decode cX11_tokenize 68 = .ok (.aload_n 0, 1) := by decide +kernel
theorem dX11_tokenize_69 : decode cX11_tokenize 69 = .ok (.iconst 0, 1) := by decide +kernel
theorem dX11_tokenize_70 : decode cX11_tokenize 70 = .ok (.aload_n 0, 1) := by decide +kernel
theorem dX11_tokenize_71 : decode cX11_tokenize 71 = .ok (.getfield 337, 3) := by decide +kernel
theorem dX11_tokenize_74 : decode cX11_tokenize 74 = .ok (.lconst 0, 1) := by decide +kernel
theorem dX11_tokenize_75 : decode cX11_tokenize 75 = .ok (.invokevirtual 353, 3) := by decide +kernel
theorem dX11_tokenize_78 : decode cX11_tokenize 78 = .ok (.return_, 1) := by decide +kernel
theorem dX11_oneToken_0 : decode cX11_oneToken 0 = .ok (.aload_n 0, 1) := by decide +kernel
theorem dX11_oneToken_1 : decode cX11_oneToken 1 = .ok (.getfield 7, 3) := by decide +kernel
theorem dX11_oneToken_4 : decode cX11_oneToken 4 = .ok (.iload_n 1, 1) := by decide +kernel
theorem dX11_oneToken_5 : decode cX11_oneToken 5 = .ok (.iaload, 1) := by decide +kernel
theorem dX11_oneToken_6 : decode cX11_oneToken 6 = .ok (.istore_n 2, 1) := by decide +kernel
theorem dX11_oneToken_7 : decode cX11_oneToken 7 = .ok (.iload_n 1, 1) := by decide +kernel
theorem dX11_oneToken_8 : decode cX11_oneToken 8 = .ok (.iconst 1, 1) := by decide +kernel
theorem dX11_oneToken_9 : decode cX11_oneToken 9 = .ok (.iadd, 1) := by decide +kernel
theorem dX11_oneToken_10 : decode cX11_oneToken 10 = .ok (.istore_n 3, 1) := by decide +kernel
theorem dX11_oneToken_11 : decode cX11_oneToken 11 = .ok (.iload_n 2, 1) := by decide +kernel
theorem dX11_oneToken_12 : decode cX11_oneToken 12 = .ok (.i2l, 1) := by decide +kernel
theorem dX11_oneToken_13 : decode cX11_oneToken 13 = .ok (.lstore 4, 2) := by decide +kernel
theorem dX11_oneToken_15 : decode cX11_oneToken 15 = .ok (.iload_n 2, 1) := by decide +kernel
theorem dX11_oneToken_16 : decode cX11_oneToken 16 = .ok (.bipush 48, 2) := by decide +kernel
theorem dX11_oneToken_18 : decode cX11_oneToken 18 = .ok (.if_icmp .ne 122, 3) := by decide +kernel
theorem dX11_oneToken_21 : decode cX11_oneToken 21 = .ok (.aload_n 0, 1) := by decide +kernel
theorem dX11_oneToken_22 : decode cX11_oneToken 22 = .ok (.iload_n 3, 1) := by decide +kernel
theorem dX11_oneToken_23 : decode cX11_oneToken 23 = .ok (.invokevirtual 357, 3) := by decide +kernel
theorem dX11_oneToken_26 : decode cX11_oneToken 26 = .ok (.bipush 120, 2) := by decide +kernel
theorem dX11_oneToken_28 : decode cX11_oneToken 28 = .ok (.if_icmp .ne 112, 3) := by decide +kernel
theorem dX11_oneToken_31 : decode cX11_oneToken 31 = .ok (.iinc 3 1, 3) := by decide +kernel
theorem dX11_oneToken_34 : decode cX11_oneToken 34 = .ok (.lconst 0, 1) := by decide +kernel
theorem dX11_oneToken_35 : decode cX11_oneToken 35 = .ok (.lstore 4, 2) := by decide +kernel
theorem dX11_oneToken_37 : decode cX11_oneToken 37 = .ok (.aload_n 0, 1) := by decide +kernel
theorem dX11_oneToken_38 : decode cX11_oneToken 38 = .ok (.iload_n 3, 1) := by decide +kernel
theorem dX11_oneToken_39 : decode cX11_oneToken 39 = .ok (.invokevirtual 357, 3) := by decide +kernel
theorem dX11_oneToken_42 : decode cX11_oneToken 42 = .ok (.invokestatic 360, 3) := by decide +kernel
theorem dX11_oneToken_45 : decode cX11_oneToken 45 = .ok (.ifCond .eq 65, 3) := by decide +kernel
theorem dX11_oneToken_48 : decode cX11_oneToken 48 = .ok (.iload_n 3, 1) := by decide +kernel
theorem dX11_oneToken_49 : decode cX11_oneToken 49 = .ok (.iload_n 1, 1) := by decide +kernel
theorem dX11_oneToken_50 : decode cX11_oneToken 50 = .ok (.isub, 1) := by decide +kernel
theorem dX11_oneToken_51 : decode cX11_oneToken 51 = .ok (.bipush 10, 2) := by decide +kernel
theorem dX11_oneToken_53 : decode cX11_oneToken 53 = .ok (.if_icmp .ge 47, 3) := by decide +kernel
theorem dX11_oneToken_56 : decode cX11_oneToken 56 = .ok (.ldc2_w 363, 3) := by decide +kernel
theorem dX11_oneToken_59 : decode cX11_oneToken 59 = .ok (.lload 4, 2) := by decide +kernel
theorem dX11_oneToken_61 : decode cX11_oneToken 61 = .ok (.lmul, 1) := by decide +kernel
theorem dX11_oneToken_62 : decode cX11_oneToken 62 = .ok (.aload_n 0, 1) := by decide +kernel
theorem dX11_oneToken_63 : decode cX11_oneToken 63 = .ok (.iload_n 3, 1) := by decide +kernel
theorem dX11_oneToken_64 : decode cX11_oneToken 64 = .ok (.invokevirtual 357, 3) := by decide +kernel
theorem dX11_oneToken_67 : decode cX11_oneToken 67 = .ok (.invokestatic 342, 3) := by decide +kernel
theorem dX11_oneToken_70 : decode cX11_oneToken 70 = .ok (.ifCond .eq 14, 3) := by decide +kernel
theorem dX11_oneToken_73 : decode cX11_oneToken 73 = .ok (.aload_n 0, 1) := by decide +kernel
theorem dX11_oneToken_74 : decode cX11_oneToken 74 = .ok (.iload_n 3, 1) := by decide +kernel
theorem dX11_oneToken_75 : decode cX11_oneToken 75 = .ok (.invokevirtual 357, 3) := by decide +kernel
theorem dX11_oneToken_78 : decode cX11_oneToken 78 = .ok (.bipush 48, 2) := by decide +kernel
theorem dX11_oneToken_80 : decode cX11_oneToken 80 = .ok (.isub, 1) := by decide +kernel
theorem dX11_oneToken_81 : decode cX11_oneToken 81 = .ok (.goto 14, 3) := by decide +kernel
theorem dX11_oneToken_84 : decode cX11_oneToken 84 = .ok (.aload_n 0, 1) := by decide +kernel
theorem dX11_oneToken_85 : decode cX11_oneToken 85 = .ok (.iload_n 3, 1) := by decide +kernel
theorem dX11_oneToken_86 : decode cX11_oneToken 86 = .ok (.invokevirtual 357, 3) := by decide +kernel
theorem dX11_oneToken_89 : decode cX11_oneToken 89 = .ok (.bipush 97, 2) := by decide +kernel
theorem dX11_oneToken_91 : decode cX11_oneToken 91 = .ok (.isub, 1) := by decide +kernel
theorem dX11_oneToken_92 : decode cX11_oneToken 92 = .ok (.bipush 10, 2) := by decide +kernel
theorem dX11_oneToken_94 : decode cX11_oneToken 94 = .ok (.iadd, 1) := by decide +kernel
theorem dX11_oneToken_95 : decode cX11_oneToken 95 = .ok (.i2l, 1) := by decide +kernel
theorem dX11_oneToken_96 : decode cX11_oneToken 96 = .ok (.ladd, 1) := by decide +kernel
theorem dX11_oneToken_97 : decode cX11_oneToken 97 = .ok (.goto 5, 3) := by decide +kernel
theorem dX11_oneToken_100 : decode cX11_oneToken 100 = .ok (.lload 4, 2) := by decide +kernel
theorem dX11_oneToken_102 : decode cX11_oneToken 102 = .ok (.lstore 4, 2) := by decide +kernel
theorem dX11_oneToken_104 : decode cX11_oneToken 104 = .ok (.iinc 3 1, 3) := by decide +kernel
theorem dX11_oneToken_107 : decode cX11_oneToken 107 = .ok (.goto (-70), 3) := by decide +kernel
theorem dX11_oneToken_110 : decode cX11_oneToken 110 = .ok (.aload_n 0, 1) := by decide +kernel
theorem dX11_oneToken_111 : decode cX11_oneToken 111 = .ok (.iload_n 3, 1) := by decide +kernel
theorem dX11_oneToken_112 : decode cX11_oneToken 112 = .ok (.iload_n 1, 1) := by decide +kernel
theorem dX11_oneToken_113 : decode cX11_oneToken 113 = .ok (.isub, 1) := by decide +kernel
theorem dX11_oneToken_114 : decode cX11_oneToken 114 = .ok (.iconst 3, 1) := by decide +kernel
theorem dX11_oneToken_115 : decode cX11_oneToken 115 = .ok (.if_icmp .lt 11, 3) := by decide +kernel
theorem dX11_oneToken_118 : decode cX11_oneToken 118 = .ok (.iload_n 3, 1) := by decide +kernel
theorem dX11_oneToken_119 : decode cX11_oneToken 119 = .ok (.iload_n 1, 1) := by decide +kernel
theorem dX11_oneToken_120 : decode cX11_oneToken 120 = .ok (.isub, 1) := by decide +kernel
theorem dX11_oneToken_121 : decode cX11_oneToken 121 = .ok (.bipush 10, 2) := by decide +kernel
theorem dX11_oneToken_123 : decode cX11_oneToken 123 = .ok (.if_icmp .le 7, 3) := by decide +kernel
theorem dX11_oneToken_126 : decode cX11_oneToken 126 = .ok (.iconst 4, 1) := by decide +kernel
theorem dX11_oneToken_127 : decode cX11_oneToken 127 = .ok (.goto 4, 3) := by decide +kernel
theorem dX11_oneToken_130 : decode cX11_oneToken 130 = .ok (.iconst 2, 1) := by decide +kernel
theorem dX11_oneToken_131 : decode cX11_oneToken 131 = .ok (.iload_n 1, 1) := by decide +kernel
theorem dX11_oneToken_132 : decode cX11_oneToken 132 = .ok (.lload 4, 2) := by decide +kernel
theorem dX11_oneToken_134 : decode cX11_oneToken 134 = .ok (.invokevirtual 353, 3) := by decide +kernel
theorem dX11_oneToken_137 : decode cX11_oneToken 137 = .ok (.goto 222, 3) := by decide +kernel
theorem dX11_oneToken_140 : decode cX11_oneToken 140 = .ok (.iload_n 2, 1) := by decide +kernel
theorem dX11_oneToken_141 : decode cX11_oneToken 141 = .ok (.invokestatic 342, 3) := by decide +kernel
theorem dX11_oneToken_144 : decode cX11_oneToken 144 = .ok (.ifCond .eq 82, 3) := by decide +kernel
theorem dX11_oneToken_147 : decode cX11_oneToken 147 = .ok (.iload_n 2, 1) := by decide +kernel
theorem dX11_oneToken_148 : decode cX11_oneToken 148 = .ok (.bipush 48, 2) := by decide +kernel
theorem dX11_oneToken_150 : decode cX11_oneToken 150 = .ok (.isub, 1) := by decide +kernel
theorem dX11_oneToken_151 : decode cX11_oneToken 151 = .ok (.i2l, 1) := by decide +kernel
theorem dX11_oneToken_152 : decode cX11_oneToken 152 = .ok (.lstore 4, 2) := by decide +kernel
theorem dX11_oneToken_154 : decode cX11_oneToken 154 = .ok (.aload_n 0, 1) := by decide +kernel
theorem dX11_oneToken_155 : decode cX11_oneToken 155 = .ok (.iload_n 3, 1) := by decide +kernel
theorem dX11_oneToken_156 : decode cX11_oneToken 156 = .ok (.invokevirtual 357, 3) := by decide +kernel
theorem dX11_oneToken_159 : decode cX11_oneToken 159 = .ok (.invokestatic 342, 3) := by decide +kernel
theorem dX11_oneToken_162 : decode cX11_oneToken 162 = .ok (.ifCond .eq 41, 3) := by decide +kernel
theorem dX11_oneToken_165 : decode cX11_oneToken 165 = .ok (.iload_n 3, 1) := by decide +kernel
theorem dX11_oneToken_166 : decode cX11_oneToken 166 = .ok (.iload_n 1, 1) := by decide +kernel
