/-- the result of a method that may throw E -/
def rX (E : String) (q : Option Int32 × AH) : Rs := match q.1 with
  | some v => (.inl (some (.int v)), q.2)
  | none => (.inr E, q.2)
theorem dX10_assemble_0 : decode cX10_assemble 0 = .ok (.aload_n 0, 1) := by decide +kernel
theorem dX10_assemble_1 : decode cX10_assemble 1 = .ok (.getfield 21, 3) := by decide +kernel
theorem dX10_assemble_4 : decode cX10_assemble 4 = .ok (.invokevirtual 65, 3) := by decide +kernel
theorem dX10_assemble_7 : decode cX10_assemble 7 = .ok (.istore_n 1, 1) := by decide +kernel
theorem dX10_assemble_8 : decode cX10_assemble 8 = .ok (.aload_n 0, 1) := by decide +kernel
theorem dX10_assemble_9 : decode cX10_assemble 9 = .ok (.getfield 12, 3) := by decide +kernel
theorem dX10_assemble_12 : decode cX10_assemble 12 = .ok (.invokevirtual 69, 3) := by decide +kernel
theorem dX10_assemble_15 : decode cX10_assemble 15 = .ok (.aload_n 0, 1) := by decide +kernel
theorem dX10_assemble_16 : decode cX10_assemble 16 = .ok (.aload_n 0, 1) := by decide +kernel
theorem dX10_assemble_17 : decode cX10_assemble 17 = .ok (.getfield 21, 3) := by decide +kernel
theorem dX10_assemble_20 : decode cX10_assemble 20 = .ok (.getfield 72, 3) := by decide +kernel
theorem dX10_assemble_23 : decode cX10_assemble 23 = .ok (.putfield 76, 3) := by decide +kernel
theorem dX10_assemble_26 : decode cX10_assemble 26 = .ok (.aload_n 0, 1) := by decide +kernel
theorem dX10_assemble_27 : decode cX10_assemble 27 = .ok (.aload_n 0, 1) := by decide +kernel
theorem dX10_assemble_28 : decode cX10_assemble 28 = .ok (.getfield 21, 3) := by decide +kernel
theorem dX10_assemble_31 : decode cX10_assemble 31 = .ok (.getfield 77, 3) := by decide +kernel
theorem dX10_assemble_34 : decode cX10_assemble 34 = .ok (.putfield 80, 3) := by decide +kernel
theorem dX10_assemble_37 : decode cX10_assemble 37 = .ok (.aload_n 0, 1) := by decide +kernel
theorem dX10_assemble_38 : decode cX10_assemble 38 = .ok (.getfield 76, 3) := by decide +kernel
theorem dX10_assemble_41 : decode cX10_assemble 41 = .ok (.ifCond .eq 13, 3) := by decide +kernel
theorem dX10_assemble_44 : decode cX10_assemble 44 = .ok (.new 81, 3) := by decide +kernel
theorem dX10_assemble_47 : decode cX10_assemble 47 = .ok (.dup, 1) := by decide +kernel
theorem dX10_assemble_48 : decode cX10_assemble 48 = .ok (.ldc 83, 2) := by decide +kernel
theorem dX10_assemble_50 : decode cX10_assemble 50 = .ok (.invokespecial 85, 3) := by decide +kernel
theorem dX10_assemble_53 : decode cX10_assemble 53 = .ok (.athrow, 1) := by decide +kernel
theorem dX10_assemble_54 : decode cX10_assemble 54 = .ok (.aload_n 0, 1) := by decide +kernel
theorem dX10_assemble_55 : decode cX10_assemble 55 = .ok (.invokevirtual 88, 3) := by decide +kernel
theorem dX10_assemble_58 : decode cX10_assemble 58 = .ok (.iload_n 1, 1) := by decide +kernel
theorem dX10_assemble_59 : decode cX10_assemble 59 = .ok (.ireturn, 1) := by decide +kernel
theorem dX10_step_0 : decode cX10_step 0 = .ok (.aload_n 0, 1) := by decide +kernel
theorem dX10_step_1 : decode cX10_step 1 = .ok (.iload_n 1, 1) := by decide +kernel
theorem dX10_step_2 : decode cX10_step 2 = .ok (.invokevirtual 121, 3) := by decide +kernel
theorem dX10_step_5 : decode cX10_step 5 = .ok (.ifCond .ne 13, 3) := by decide +kernel
theorem dX10_step_8 : decode cX10_step 8 = .ok (.new 125, 3) := by decide +kernel
theorem dX10_step_11 : decode cX10_step 11 = .ok (.dup, 1) := by decide +kernel
theorem dX10_step_12 : decode cX10_step 12 = .ok (.ldc 127, 2) := by decide +kernel
theorem dX10_step_14 : decode cX10_step 14 = .ok (.invokespecial 129, 3) := by decide +kernel
theorem dX10_step_17 : decode cX10_step 17 = .ok (.athrow, 1) := by decide +kernel
theorem dX10_step_18 : decode cX10_step 18 = .ok (.aload_n 0, 1) := by decide +kernel
theorem dX10_step_19 : decode cX10_step 19 = .ok (.getfield 43, 3) := by decide +kernel
theorem dX10_step_22 : decode cX10_step 22 = .ok (.iload_n 1, 1) := by decide +kernel
theorem dX10_step_23 : decode cX10_step 23 = .ok (.aaload, 1) := by decide +kernel
theorem dX10_step_24 : decode cX10_step 24 = .ok (.invokevirtual 130, 3) := by decide +kernel
theorem dX10_step_27 : decode cX10_step 27 = .ok (.ireturn, 1) := by decide +kernel
theorem dX10_drain_0 : decode cX10_drain 0 = .ok (.aload_n 0, 1) := by decide +kernel
theorem dX10_drain_1 : decode cX10_drain 1 = .ok (.iload_n 1, 1) := by decide +kernel
theorem dX10_drain_2 : decode cX10_drain 2 = .ok (.invokevirtual 121, 3) := by decide +kernel
theorem dX10_drain_5 : decode cX10_drain 5 = .ok (.ifCond .ne 13, 3) := by decide +kernel
theorem dX10_drain_8 : decode cX10_drain 8 = .ok (.new 125, 3) := by decide +kernel
theorem dX10_drain_11 : decode cX10_drain 11 = .ok (.dup, 1) := by decide +kernel
theorem dX10_drain_12 : decode cX10_drain 12 = .ok (.ldc 127, 2) := by decide +kernel
theorem dX10_drain_14 : decode cX10_drain 14 = .ok (.invokespecial 129, 3) := by decide +kernel
theorem dX10_drain_17 : decode cX10_drain 17 = .ok (.athrow, 1) := by decide +kernel
theorem dX10_drain_18 : decode cX10_drain 18 = .ok (.aload_n 0, 1) := by decide +kernel
theorem dX10_drain_19 : decode cX10_drain 19 = .ok (.getfield 43, 3) := by decide +kernel
theorem dX10_drain_22 : decode cX10_drain 22 = .ok (.iload_n 1, 1) := by decide +kernel
theorem dX10_drain_23 : decode cX10_drain 23 = .ok (.aaload, 1) := by decide +kernel
theorem dX10_drain_24 : decode cX10_drain 24 = .ok (.invokevirtual 133, 3) := by decide +kernel
theorem dX10_drain_27 : decode cX10_drain 27 = .ok (.ireturn, 1) := by decide +kernel
theorem dX10_run_0 : decode cX10_run 0 = .ok (.iload_n 1, 1) := by decide +kernel
theorem dX10_run_1 : decode cX10_run 1 = .ok (.iconst 1, 1) := by decide +kernel
theorem dX10_run_2 : decode cX10_run 2 = .ok (.if_icmp .lt 10, 3) := by decide +kernel
theorem dX10_run_5 : decode cX10_run 5 = .ok (.iload_n 1, 1) := by decide +kernel
theorem dX10_run_6 : decode cX10_run 6 = .ok (.sipush 200, 3) := by decide +kernel
theorem dX10_run_9 : decode cX10_run 9 = .ok (.if_icmp .le 13, 3) := by decide +kernel
theorem dX10_run_12 : decode cX10_run 12 = .ok (.new 81, 3) := by decide +kernel
theorem dX10_run_15 : decode cX10_run 15 = .ok (.dup, 1) := by decide +kernel
theorem dX10_run_16 : decode cX10_run 16 = .ok (.ldc 153, 2) := by decide +kernel
theorem dX10_run_18 : decode cX10_run 18 = .ok (.invokespecial 85, 3) := by decide +kernel
theorem dX10_run_21 : decode cX10_run 21 = .ok (.athrow, 1) := by decide +kernel
theorem dX10_run_22 : decode cX10_run 22 = .ok (.aload_n 0, 1) := by decide +kernel
theorem dX10_run_23 : decode cX10_run 23 = .ok (.invokevirtual 155, 3) := by decide +kernel
theorem dX10_run_26 : decode cX10_run 26 = .ok (.istore_n 2, 1) := by decide +kernel
theorem dX10_run_27 : decode cX10_run 27 = .ok (.iconst 0, 1) := by decide +kernel
theorem dX10_run_28 : decode cX10_run 28 = .ok (.istore_n 3, 1) := by decide +kernel
theorem dX10_run_29 : decode cX10_run 29 = .ok (.iload_n 3, 1) := by decide +kernel
theorem dX10_run_30 : decode cX10_run 30 = .ok (.iload_n 1, 1) := by decide +kernel
theorem dX10_run_31 : decode cX10_run 31 = .ok (.if_icmp .ge 82, 3) := by decide +kernel
theorem dX10_run_34 : decode cX10_run 34 = .ok (.iconst 0, 1) := by decide +kernel
theorem dX10_run_35 : decode cX10_run 35 = .ok (.istore 4, 2) := by decide +kernel
theorem dX10_run_37 : decode cX10_run 37 = .ok (.iload 4, 2) := by decide +kernel
theorem dX10_run_39 : decode cX10_run 39 = .ok (.aload_n 0, 1) := by decide +kernel
theorem dX10_run_40 : decode cX10_run 40 = .ok (.getfield 47, 3) := by decide +kernel
theorem dX10_run_43 : decode cX10_run 43 = .ok (.iconst 0, 1) := by decide +kernel
theorem dX10_run_44 : decode cX10_run 44 = .ok (.iaload, 1) := by decide +kernel
theorem dX10_run_45 : decode cX10_run 45 = .ok (.if_icmp .ge 31, 3) := by decide +kernel
theorem dX10_run_48 : decode cX10_run 48 = .ok (.aload_n 0, 1) := by decide +kernel
theorem dX10_run_49 : decode cX10_run 49 = .ok (.getfield 43, 3) := by decide +kernel
theorem dX10_run_52 : decode cX10_run 52 = .ok (.iload 4, 2) := by decide +kernel
theorem dX10_run_54 : decode cX10_run 54 = .ok (.aaload, 1) := by decide +kernel
theorem dX10_run_55 : decode cX10_run 55 = .ok (.invokevirtual 130, 3) := by decide +kernel
theorem dX10_run_58 : decode cX10_run 58 = .ok (.pop, 1) := by decide +kernel
theorem dX10_run_59 : decode cX10_run 59 = .ok (.aload_n 0, 1) := by decide +kernel
theorem dX10_run_60 : decode cX10_run 60 = .ok (.getfield 43, 3) := by decide +kernel
theorem dX10_run_63 : decode cX10_run 63 = .ok (.iload 4, 2) := by decide +kernel
theorem dX10_run_65 : decode cX10_run 65 = .ok (.aaload, 1) := by decide +kernel
theorem dX10_run_66 : decode cX10_run 66 = .ok (.invokevirtual 133, 3) := by decide +kernel
theorem dX10_run_69 : decode cX10_run 69 = .ok (.pop, 1) := by decide +kernel
theorem dX10_run_70 : decode cX10_run 70 = .ok (.iinc 4 1, 3) := by decide +kernel
theorem dX10_run_73 : decode cX10_run 73 = .ok (.goto (-36), 3) := by decide +kernel
theorem dX10_run_76 : decode cX10_run 76 = .ok (.ldc 158, 2) := by decide +kernel
theorem dX10_run_78 : decode cX10_run 78 = .ok (.istore 4, 2) := by decide +kernel
theorem dX10_run_80 : decode cX10_run 80 = .ok (.iload 4, 2) := by decide +kernel
theorem dX10_run_82 : decode cX10_run 82 = .ok (.ifCond .le 25, 3) := by decide +kernel
theorem dX10_run_85 : decode cX10_run 85 = .ok (.aload_n 0, 1) := by decide +kernel
theorem dX10_run_86 : decode cX10_run 86 = .ok (.getfield 28, 3) := by decide +kernel
theorem dX10_run_89 : decode cX10_run 89 = .ok (.getfield 159, 3) := by decide +kernel
theorem dX10_run_92 : decode cX10_run 92 = .ok (.ifCond .le 15, 3) := by decide +kernel
theorem dX10_run_95 : decode cX10_run 95 = .ok (.aload_n 0, 1) := by decide +kernel
theorem dX10_run_96 : decode cX10_run 96 = .ok (.iconst 0, 1) := by decide +kernel
theorem dX10_run_97 : decode cX10_run 97 = .ok (.invokevirtual 136, 3) := by decide +kernel
theorem dX10_run_100 : decode cX10_run 100 = .ok (.pop, 1) := by decide +kernel
theorem dX10_run_101 : decode cX10_run 101 = .ok (.iinc 4 (-1), 3) := by decide +kernel
theorem dX10_run_104 : decode cX10_run 104 = .ok (.goto (-24), 3) := by decide +kernel
theorem dX10_run_107 : decode cX10_run 107 = .ok (.iinc 3 1, 3) := by decide +kernel
theorem dX10_run_110 : decode cX10_run 110 = .ok (.goto (-81), 3) := by decide +kernel
theorem dX10_run_113 : decode cX10_run 113 = .ok (.aload_n 0, 1) := by decide +kernel
theorem dX10_run_114 : decode cX10_run 114 = .ok (.invokevirtual 155, 3) := by decide +kernel
theorem dX10_run_117 : decode cX10_run 117 = .ok (.iload_n 2, 1) := by decide +kernel
theorem dX10_run_118 : decode cX10_run 118 = .ok (.isub, 1) := by decide +kernel
theorem dX10_run_119 : decode cX10_run 119 = .ok (.ireturn, 1) := by decide +kernel
theorem dX10_play_0 : decode cX10_play 0 = .ok (.aload_n 0, 1) := by decide +kernel
theorem dX10_play_1 : decode cX10_play 1 = .ok (.getfield 12, 3) := by decide +kernel
theorem dX10_play_4 : decode cX10_play 4 = .ok (.invokevirtual 174, 3) := by decide +kernel
theorem dX10_play_7 : decode cX10_play 7 = .ok (.istore_n 1, 1) := by decide +kernel
theorem dX10_play_8 : decode cX10_play 8 = .ok (.aload_n 0, 1) := by decide +kernel
theorem dX10_play_9 : decode cX10_play 9 = .ok (.iload_n 1, 1) := by decide +kernel
theorem dX10_play_10 : decode cX10_play 10 = .ok (.iconst (-1), 1) := by decide +kernel
theorem dX10_play_11 : decode cX10_play 11 = .ok (.if_icmp .ne 7, 3) := by decide +kernel
theorem dX10_play_14 : decode cX10_play 14 = .ok (.iconst 0, 1) := by decide +kernel
theorem dX10_play_15 : decode cX10_play 15 = .ok (.goto 4, 3) := by decide +kernel
theorem dX10_play_18 : decode cX10_play 18 = .ok (.iconst 4, 1) := by decide +kernel
theorem dX10_play_19 : decode cX10_play 19 = .ok (.putfield 76, 3) := by decide +kernel
theorem dX10_play_22 : decode cX10_play 22 = .ok (.aload_n 0, 1) := by decide +kernel
theorem dX10_play_23 : decode cX10_play 23 = .ok (.iload_n 1, 1) := by decide +kernel
theorem dX10_play_24 : decode cX10_play 24 = .ok (.iconst (-1), 1) := by decide +kernel
theorem dX10_play_25 : decode cX10_play 25 = .ok (.if_icmp .ne 7, 3) := by decide +kernel
theorem dX10_play_28 : decode cX10_play 28 = .ok (.iconst 0, 1) := by decide +kernel
theorem dX10_play_29 : decode cX10_play 29 = .ok (.goto 4, 3) := by decide +kernel
theorem dX10_play_32 : decode cX10_play 32 = .ok (.iload_n 1, 1) := by decide +kernel
theorem dX10_play_33 : decode cX10_play 33 = .ok (.putfield 80, 3) := by decide +kernel
theorem dX10_play_36 : decode cX10_play 36 = .ok (.aload_n 0, 1) := by decide +kernel
theorem dX10_play_37 : decode cX10_play 37 = .ok (.getfield 12, 3) := by decide +kernel
theorem dX10_play_40 : decode cX10_play 40 = .ok (.getfield 177, 3) := by decide +kernel
theorem dX10_play_43 : decode cX10_play 43 = .ok (.istore_n 2, 1) := by decide +kernel
theorem dX10_play_44 : decode cX10_play 44 = .ok (.aload_n 0, 1) := by decide +kernel
theorem dX10_play_45 : decode cX10_play 45 = .ok (.getfield 12, 3) := by decide +kernel
theorem dX10_play_48 : decode cX10_play 48 = .ok (.invokevirtual 69, 3) := by decide +kernel
theorem dX10_play_51 : decode cX10_play 51 = .ok (.aload_n 0, 1) := by decide +kernel
theorem dX10_play_52 : decode cX10_play 52 = .ok (.getfield 76, 3) := by decide +kernel
theorem dX10_play_55 : decode cX10_play 55 = .ok (.ifCond .eq 13, 3) := by decide +kernel
theorem dX10_play_58 : decode cX10_play 58 = .ok (.new 81, 3) := by decide +kernel
theorem dX10_play_61 : decode cX10_play 61 = .ok (.dup, 1) := by decide +kernel
theorem dX10_play_62 : decode cX10_play 62 = .ok (.ldc 180, 2) := by decide +kernel
theorem dX10_play_64 : decode cX10_play 64 = .ok (.invokespecial 85, 3) := by decide +kernel
theorem dX10_play_67 : decode cX10_play 67 = .ok (.athrow, 1) := by decide +kernel
theorem dX10_play_68 : decode cX10_play 68 = .ok (.aload_n 0, 1) := by decide +kernel
theorem dX10_play_69 : decode cX10_play 69 = .ok (.getfield 118, 3) := by decide +kernel
theorem dX10_play_72 : decode cX10_play 72 = .ok (.istore_n 3, 1) := by decide +kernel
theorem dX10_play_73 : decode cX10_play 73 = .ok (.iconst 0, 1) := by decide +kernel
theorem dX10_play_74 : decode cX10_play 74 = .ok (.istore 4, 2) := by decide +kernel
theorem dX10_play_76 : decode cX10_play 76 = .ok (.iload 4, 2) := by decide +kernel
theorem dX10_play_78 : decode cX10_play 78 = .ok (.iload_n 2, 1) := by decide +kernel
theorem dX10_play_79 : decode cX10_play 79 = .ok (.if_icmp .ge 245, 3) := by decide +kernel
theorem dX10_play_82 : decode cX10_play 82 = .ok (.aload_n 0, 1) := by decide +kernel
theorem dX10_play_83 : decode cX10_play 83 = .ok (.getfield 12, 3) := by decide +kernel
theorem dX10_play_86 : decode cX10_play 86 = .ok (.getfield 182, 3) := by decide +kernel
theorem dX10_play_89 : decode cX10_play 89 = .ok (.iload 4, 2) := by decide +kernel
theorem dX10_play_91 : decode cX10_play 91 = .ok (.caload, 1) := by decide +kernel
theorem dX10_play_92 : decode cX10_play 92 = .ok (.invokestatic 186, 3) := by decide +kernel
theorem dX10_play_95 : decode cX10_play 95 = .ok (.istore 5, 2) := by decide +kernel
theorem dX10_play_97 : decode cX10_play 97 = .ok (.iload 5, 2) := by decide +kernel
theorem dX10_play_99 : decode cX10_play 99 = .ok (.ifCond .le 219, 3) := by decide +kernel
theorem dX10_play_102 : decode cX10_play 102 = .ok (.aload_n 0, 1) := by decide +kernel
theorem dX10_play_103 : decode cX10_play 103 = .ok (.getfield 12, 3) := by decide +kernel
theorem dX10_play_106 : decode cX10_play 106 = .ok (.getfield 182, 3) := by decide +kernel
theorem dX10_play_109 : decode cX10_play 109 = .ok (.iload 4, 2) := by decide +kernel
theorem dX10_play_111 : decode cX10_play 111 = .ok (.iconst 1, 1) := by decide +kernel
theorem dX10_play_112 : decode cX10_play 112 = .ok (.iadd, 1) := by decide +kernel
theorem dX10_play_113 : decode cX10_play 113 = .ok (.caload, 1) := by decide +kernel
theorem dX10_play_114 : decode cX10_play 114 = .ok (.invokestatic 190, 3) := by decide +kernel
theorem dX10_play_117 : decode cX10_play 117 = .ok (.istore 6, 2) := by decide +kernel
theorem dX10_play_119 : decode cX10_play 119 = .ok (.aload_n 0, 1) := by decide +kernel
theorem dX10_play_120 : decode cX10_play 120 = .ok (.getfield 12, 3) := by decide +kernel
theorem dX10_play_123 : decode cX10_play 123 = .ok (.getfield 182, 3) := by decide +kernel
theorem dX10_play_126 : decode cX10_play 126 = .ok (.iload 4, 2) := by decide +kernel
theorem dX10_play_128 : decode cX10_play 128 = .ok (.iload 5, 2) := by decide +kernel
theorem dX10_play_130 : decode cX10_play 130 = .ok (.iadd, 1) := by decide +kernel
theorem dX10_play_131 : decode cX10_play 131 = .ok (.caload, 1) := by decide +kernel
theorem dX10_play_132 : decode cX10_play 132 = .ok (.invokestatic 190, 3) := by decide +kernel
theorem dX10_play_135 : decode cX10_play 135 = .ok (.istore 7, 2) := by decide +kernel
theorem dX10_play_137 : decode cX10_play 137 = .ok (.aload_n 0, 1) := by decide +kernel
theorem dX10_play_138 : decode cX10_play 138 = .ok (.invokevirtual 193, 3) := by decide +kernel
theorem dX10_play_141 : decode cX10_play 141 = .ok (.aload_n 0, 1) := by decide +kernel
theorem dX10_play_142 : decode cX10_play 142 = .ok (.getfield 12, 3) := by decide +kernel
theorem dX10_play_145 : decode cX10_play 145 = .ok (.getfield 182, 3) := by decide +kernel
theorem dX10_play_148 : decode cX10_play 148 = .ok (.iload 4, 2) := by decide +kernel
theorem dX10_play_150 : decode cX10_play 150 = .ok (.caload, 1) := by decide +kernel
theorem dX10_play_151 : decode cX10_play 151 = .ok (.lookupswitch 114 #[(100, 65), (109, 97), (115, 33)], 33) := by decide +kernel
theorem dX10_play_184 : decode cX10_play 184 = .ok (.aload_n 0, 1) := by decide +kernel
theorem dX10_play_185 : decode cX10_play 185 = .ok (.iload 6, 2) := by decide +kernel
theorem dX10_play_187 : decode cX10_play 187 = .ok (.invokevirtual 121, 3) := by decide +kernel
theorem dX10_play_190 : decode cX10_play 190 = .ok (.ifCond .eq 20, 3) := by decide +kernel
theorem dX10_play_193 : decode cX10_play 193 = .ok (.aload_n 0, 1) := by decide +kernel
theorem dX10_play_194 : decode cX10_play 194 = .ok (.getfield 43, 3) := by decide +kernel
theorem dX10_play_197 : decode cX10_play 197 = .ok (.iload 6, 2) := by decide +kernel
theorem dX10_play_199 : decode cX10_play 199 = .ok (.aaload, 1) := by decide +kernel
theorem dX10_play_200 : decode cX10_play 200 = .ok (.invokevirtual 130, 3) := by decide +kernel
theorem dX10_play_203 : decode cX10_play 203 = .ok (.ifCond .eq 7, 3) := by decide +kernel
theorem dX10_play_206 : decode cX10_play 206 = .ok (.iconst 1, 1) := by decide +kernel
theorem dX10_play_207 : decode cX10_play 207 = .ok (.goto 4, 3) := by decide +kernel
theorem dX10_play_210 : decode cX10_play 210 = .ok (.iconst 0, 1) := by decide +kernel
theorem dX10_play_211 : decode cX10_play 211 = .ok (.istore 8, 2) := by decide +kernel
theorem dX10_play_213 : decode cX10_play 213 = .ok (.goto 69, 3) := by decide +kernel
theorem dX10_play_216 : decode cX10_play 216 = .ok (.aload_n 0, 1) := by decide +kernel
theorem dX10_play_217 : decode cX10_play 217 = .ok (.iload 6, 2) := by decide +kernel
theorem dX10_play_219 : decode cX10_play 219 = .ok (.invokevirtual 121, 3) := by decide +kernel
theorem dX10_play_222 : decode cX10_play 222 = .ok (.ifCond .eq 20, 3) := by decide +kernel
theorem dX10_play_225 : decode cX10_play 225 = .ok (.aload_n 0, 1) := by decide +kernel
theorem dX10_play_226 : decode cX10_play 226 = .ok (.getfield 43, 3) := by decide +kernel
theorem dX10_play_229 : decode cX10_play 229 = .ok (.iload 6, 2) := by decide +kernel
theorem dX10_play_231 : decode cX10_play 231 = .ok (.aaload, 1) := by decide +kernel
theorem dX10_play_232 : decode cX10_play 232 = .ok (.invokevirtual 133, 3) := by decide +kernel
theorem dX10_play_235 : decode cX10_play 235 = .ok (.ifCond .eq 7, 3) := by decide +kernel
theorem dX10_play_238 : decode cX10_play 238 = .ok (.iconst 1, 1) := by decide +kernel
theorem dX10_play_239 : decode cX10_play 239 = .ok (.goto 4, 3) := by decide +kernel
theorem dX10_play_242 : decode cX10_play 242 = .ok (.iconst 0, 1) := by decide +kernel
theorem dX10_play_243 : decode cX10_play 243 = .ok (.istore 8, 2) := by decide +kernel
theorem dX10_play_245 : decode cX10_play 245 = .ok (.goto 37, 3) := by decide +kernel
theorem dX10_play_248 : decode cX10_play 248 = .ok (.aload_n 0, 1) := by decide +kernel
theorem dX10_play_249 : decode cX10_play 249 = .ok (.bipush 16, 2) := by decide +kernel
theorem dX10_play_251 : decode cX10_play 251 = .ok (.iload 6, 2) := by decide +kernel
theorem dX10_play_253 : decode cX10_play 253 = .ok (.imul, 1) := by decide +kernel
theorem dX10_play_254 : decode cX10_play 254 = .ok (.iload 7, 2) := by decide +kernel
theorem dX10_play_256 : decode cX10_play 256 = .ok (.iadd, 1) := by decide +kernel
theorem dX10_play_257 : decode cX10_play 257 = .ok (.invokevirtual 136, 3) := by decide +kernel
theorem dX10_play_260 : decode cX10_play 260 = .ok (.istore 8, 2) := by decide +kernel
theorem dX10_play_262 : decode cX10_play 262 = .ok (.goto 20, 3) := by decide +kernel
theorem dX10_play_265 : decode cX10_play 265 = .ok (.aload_n 0, 1) := by decide +kernel
theorem dX10_play_266 : decode cX10_play 266 = .ok (.aload_n 0, 1) := by decide +kernel
theorem dX10_play_267 : decode cX10_play 267 = .ok (.getfield 28, 3) := by decide +kernel
theorem dX10_play_270 : decode cX10_play 270 = .ok (.iload 6, 2) := by decide +kernel
theorem dX10_play_272 : decode cX10_play 272 = .ok (.iload 7, 2) := by decide +kernel
theorem dX10_play_274 : decode cX10_play 274 = .ok (.invokevirtual 139, 3) := by decide +kernel
theorem dX10_play_277 : decode cX10_play 277 = .ok (.invokevirtual 136, 3) := by decide +kernel
theorem dX10_play_280 : decode cX10_play 280 = .ok (.istore 8, 2) := by decide +kernel
theorem dX10_play_282 : decode cX10_play 282 = .ok (.aload_n 0, 1) := by decide +kernel
theorem dX10_play_283 : decode cX10_play 283 = .ok (.dup, 1) := by decide +kernel
theorem dX10_play_284 : decode cX10_play 284 = .ok (.getfield 115, 3) := by decide +kernel
theorem dX10_play_287 : decode cX10_play 287 = .ok (.iconst 1, 1) := by decide +kernel
theorem dX10_play_288 : decode cX10_play 288 = .ok (.iadd, 1) := by decide +kernel
theorem dX10_play_289 : decode cX10_play 289 = .ok (.putfield 115, 3) := by decide +kernel
theorem dX10_play_292 : decode cX10_play 292 = .ok (.aload_n 0, 1) := by decide +kernel
theorem dX10_play_293 : decode cX10_play 293 = .ok (.dup, 1) := by decide +kernel
theorem dX10_play_294 : decode cX10_play 294 = .ok (.getfield 118, 3) := by decide +kernel
theorem dX10_play_297 : decode cX10_play 297 = .ok (.iload 8, 2) := by decide +kernel
theorem dX10_play_299 : decode cX10_play 299 = .ok (.ifCond .eq 7, 3) := by decide +kernel
theorem dX10_play_302 : decode cX10_play 302 = .ok (.iconst 0, 1) := by decide +kernel
theorem dX10_play_303 : decode cX10_play 303 = .ok (.goto 4, 3) := by decide +kernel
theorem dX10_play_306 : decode cX10_play 306 = .ok (.iconst 1, 1) := by decide +kernel
theorem dX10_play_307 : decode cX10_play 307 = .ok (.iadd, 1) := by decide +kernel
theorem dX10_play_308 : decode cX10_play 308 = .ok (.putfield 118, 3) := by decide +kernel
theorem dX10_play_311 : decode cX10_play 311 = .ok (.iload 4, 2) := by decide +kernel
theorem dX10_play_313 : decode cX10_play 313 = .ok (.iload 5, 2) := by decide +kernel
theorem dX10_play_315 : decode cX10_play 315 = .ok (.iadd, 1) := by decide +kernel
theorem dX10_play_316 : decode cX10_play 316 = .ok (.istore 4, 2) := by decide +kernel
theorem dX10_play_318 : decode cX10_play 318 = .ok (.iinc 4 1, 3) := by decide +kernel
theorem dX10_play_321 : decode cX10_play 321 = .ok (.goto (-245), 3) := by decide +kernel
theorem dX10_play_324 : decode cX10_play 324 = .ok (.aload_n 0, 1) := by decide +kernel
theorem dX10_play_325 : decode cX10_play 325 = .ok (.getfield 118, 3) := by decide +kernel
theorem dX10_play_328 : decode cX10_play 328 = .ok (.iload_n 3, 1) := by decide +kernel
theorem dX10_play_329 : decode cX10_play 329 = .ok (.isub, 1) := by decide +kernel
theorem dX10_play_330 : decode cX10_play 330 = .ok (.ireturn, 1) := by decide +kernel
theorem dX10_trace_0 : decode cX10_trace 0 = .ok (.aload_n 0, 1) := by decide +kernel
theorem dX10_trace_1 : decode cX10_trace 1 = .ok (.iload_n 1, 1) := by decide +kernel
theorem dX10_trace_2 : decode cX10_trace 2 = .ok (.invokevirtual 121, 3) := by decide +kernel
theorem dX10_trace_5 : decode cX10_trace 5 = .ok (.ifCond .eq 29, 3) := by decide +kernel
theorem dX10_trace_8 : decode cX10_trace 8 = .ok (.aload_n 0, 1) := by decide +kernel
theorem dX10_trace_9 : decode cX10_trace 9 = .ok (.getfield 43, 3) := by decide +kernel
theorem dX10_trace_12 : decode cX10_trace 12 = .ok (.iload_n 1, 1) := by decide +kernel
theorem dX10_trace_13 : decode cX10_trace 13 = .ok (.aaload, 1) := by decide +kernel
theorem dX10_trace_14 : decode cX10_trace 14 = .ok (.getfield 162, 3) := by decide +kernel
theorem dX10_trace_17 : decode cX10_trace 17 = .ok (.iload_n 2, 1) := by decide +kernel
theorem dX10_trace_18 : decode cX10_trace 18 = .ok (.invokevirtual 197, 3) := by decide +kernel
theorem dX10_trace_21 : decode cX10_trace 21 = .ok (.ifCond .eq 13, 3) := by decide +kernel
theorem dX10_trace_24 : decode cX10_trace 24 = .ok (.iload_n 3, 1) := by decide +kernel
theorem dX10_trace_25 : decode cX10_trace 25 = .ok (.ifCond .lt 9, 3) := by decide +kernel
theorem dX10_trace_28 : decode cX10_trace 28 = .ok (.iload_n 3, 1) := by decide +kernel
theorem dX10_trace_29 : decode cX10_trace 29 = .ok (.bipush 8, 2) := by decide +kernel
theorem dX10_trace_31 : decode cX10_trace 31 = .ok (.if_icmp .lt 13, 3) := by decide +kernel
theorem dX10_trace_34 : decode cX10_trace 34 = .ok (.new 200, 3) := by decide +kernel
theorem dX10_trace_37 : decode cX10_trace 37 = .ok (.dup, 1) := by decide +kernel
theorem dX10_trace_38 : decode cX10_trace 38 = .ok (.ldc 202, 2) := by decide +kernel
theorem dX10_trace_40 : decode cX10_trace 40 = .ok (.invokespecial 204, 3) := by decide +kernel
theorem dX10_trace_43 : decode cX10_trace 43 = .ok (.athrow, 1) := by decide +kernel
theorem dX10_trace_44 : decode cX10_trace 44 = .ok (.aload_n 0, 1) := by decide +kernel
theorem dX10_trace_45 : decode cX10_trace 45 = .ok (.getfield 43, 3) := by decide +kernel
theorem dX10_trace_48 : decode cX10_trace 48 = .ok (.iload_n 1, 1) := by decide +kernel
theorem dX10_trace_49 : decode cX10_trace 49 = .ok (.aaload, 1) := by decide +kernel
theorem dX10_trace_50 : decode cX10_trace 50 = .ok (.getfield 162, 3) := by decide +kernel
theorem dX10_trace_53 : decode cX10_trace 53 = .ok (.iload_n 2, 1) := by decide +kernel
theorem dX10_trace_54 : decode cX10_trace 54 = .ok (.iload_n 3, 1) := by decide +kernel
theorem dX10_trace_55 : decode cX10_trace 55 = .ok (.invokevirtual 205, 3) := by decide +kernel
theorem dX10_trace_58 : decode cX10_trace 58 = .ok (.ireturn, 1) := by decide +kernel
theorem dX10_core_0 : decode cX10_core 0 = .ok (.aload_n 0, 1) := by decide +kernel
theorem dX10_core_1 : decode cX10_core 1 = .ok (.iload_n 1, 1) := by decide +kernel
theorem dX10_core_2 : decode cX10_core 2 = .ok (.invokevirtual 121, 3) := by decide +kernel
theorem dX10_core_5 : decode cX10_core 5 = .ok (.ifCond .eq 16, 3) := by decide +kernel
theorem dX10_core_8 : decode cX10_core 8 = .ok (.aload_n 0, 1) := by decide +kernel
theorem dX10_core_9 : decode cX10_core 9 = .ok (.getfield 43, 3) := by decide +kernel
theorem dX10_core_12 : decode cX10_core 12 = .ok (.iload_n 1, 1) := by decide +kernel
theorem dX10_core_13 : decode cX10_core 13 = .ok (.aaload, 1) := by decide +kernel
theorem dX10_core_14 : decode cX10_core 14 = .ok (.iload_n 2, 1) := by decide +kernel
theorem dX10_core_15 : decode cX10_core 15 = .ok (.invokevirtual 208, 3) := by decide +kernel
theorem dX10_core_18 : decode cX10_core 18 = .ok (.ifCond .ne 13, 3) := by decide +kernel
theorem dX10_core_21 : decode cX10_core 21 = .ok (.new 200, 3) := by decide +kernel
theorem dX10_core_24 : decode cX10_core 24 = .ok (.dup, 1) := by decide +kernel
theorem dX10_core_25 : decode cX10_core 25 = .ok (.ldc 211, 2) := by decide +kernel
theorem dX10_core_27 : decode cX10_core 27 = .ok (.invokespecial 204, 3) := by decide +kernel
theorem dX10_core_30 : decode cX10_core 30 = .ok (.athrow, 1) := by decide +kernel
theorem dX10_core_31 : decode cX10_core 31 = .ok (.aload_n 0, 1) := by decide +kernel
theorem dX10_core_32 : decode cX10_core 32 = .ok (.getfield 43, 3) := by decide +kernel
theorem dX10_core_35 : decode cX10_core 35 = .ok (.iload_n 1, 1) := by decide +kernel
theorem dX10_core_36 : decode cX10_core 36 = .ok (.aaload, 1) := by decide +kernel
theorem dX10_core_37 : decode cX10_core 37 = .ok (.iload_n 2, 1) := by decide +kernel
theorem dX10_core_38 : decode cX10_core 38 = .ok (.invokevirtual 213, 3) := by decide +kernel
theorem dX10_core_41 : decode cX10_core 41 = .ok (.ireturn, 1) := by decide +kernel
theorem dX10_copy_0 : decode cX10_copy 0 = .ok (.aload_n 0, 1) := by decide +kernel
theorem dX10_copy_1 : decode cX10_copy 1 = .ok (.iload_n 1, 1) := by decide +kernel
theorem dX10_copy_2 : decode cX10_copy 2 = .ok (.invokevirtual 121, 3) := by decide +kernel
theorem dX10_copy_5 : decode cX10_copy 5 = .ok (.ifCond .eq 28, 3) := by decide +kernel
theorem dX10_copy_8 : decode cX10_copy 8 = .ok (.iload_n 2, 1) := by decide +kernel
theorem dX10_copy_9 : decode cX10_copy 9 = .ok (.invokestatic 229, 3) := by decide +kernel
theorem dX10_copy_12 : decode cX10_copy 12 = .ok (.ifCond .eq 21, 3) := by decide +kernel
theorem dX10_copy_15 : decode cX10_copy 15 = .ok (.aload_n 0, 1) := by decide +kernel
theorem dX10_copy_16 : decode cX10_copy 16 = .ok (.getfield 43, 3) := by decide +kernel
theorem dX10_copy_19 : decode cX10_copy 19 = .ok (.iload_n 1, 1) := by decide +kernel
theorem dX10_copy_20 : decode cX10_copy 20 = .ok (.aaload, 1) := by decide +kernel
theorem dX10_copy_21 : decode cX10_copy 21 = .ok (.getfield 217, 3) := by decide +kernel
theorem dX10_copy_24 : decode cX10_copy 24 = .ok (.iload_n 2, 1) := by decide +kernel
theorem dX10_copy_25 : decode cX10_copy 25 = .ok (.iconst 4, 1) := by decide +kernel
theorem dX10_copy_26 : decode cX10_copy 26 = .ok (.ishr, 1) := by decide +kernel
theorem dX10_copy_27 : decode cX10_copy 27 = .ok (.invokevirtual 221, 3) := by decide +kernel
theorem dX10_copy_30 : decode cX10_copy 30 = .ok (.goto 4, 3) := by decide +kernel
theorem dX10_copy_33 : decode cX10_copy 33 = .ok (.iconst (-1), 1) := by decide +kernel
theorem dX10_copy_34 : decode cX10_copy 34 = .ok (.istore_n 3, 1) := by decide +kernel
theorem dX10_copy_35 : decode cX10_copy 35 = .ok (.iload_n 3, 1) := by decide +kernel
theorem dX10_copy_36 : decode cX10_copy 36 = .ok (.ifCond .ge 13, 3) := by decide +kernel
theorem dX10_copy_39 : decode cX10_copy 39 = .ok (.new 200, 3) := by decide +kernel
theorem dX10_copy_42 : decode cX10_copy 42 = .ok (.dup, 1) := by decide +kernel
theorem dX10_copy_43 : decode cX10_copy 43 = .ok (.ldc 232, 2) := by decide +kernel
theorem dX10_copy_45 : decode cX10_copy 45 = .ok (.invokespecial 204, 3) := by decide +kernel
theorem dX10_copy_48 : decode cX10_copy 48 = .ok (.athrow, 1) := by decide +kernel
theorem dX10_copy_49 : decode cX10_copy 49 = .ok (.aload_n 0, 1) := by decide +kernel
theorem dX10_copy_50 : decode cX10_copy 50 = .ok (.getfield 43, 3) := by decide +kernel
theorem dX10_copy_53 : decode cX10_copy 53 = .ok (.iload_n 1, 1) := by decide +kernel
theorem dX10_copy_54 : decode cX10_copy 54 = .ok (.aaload, 1) := by decide +kernel
theorem dX10_copy_55 : decode cX10_copy 55 = .ok (.getfield 217, 3) := by decide +kernel
theorem dX10_copy_58 : decode cX10_copy 58 = .ok (.getfield 234, 3) := by decide +kernel
theorem dX10_copy_61 : decode cX10_copy 61 = .ok (.iload_n 3, 1) := by decide +kernel
theorem dX10_copy_62 : decode cX10_copy 62 = .ok (.iload_n 2, 1) := by decide +kernel
theorem dX10_copy_63 : decode cX10_copy 63 = .ok (.invokestatic 237, 3) := by decide +kernel
theorem dX10_copy_66 : decode cX10_copy 66 = .ok (.iaload, 1) := by decide +kernel
theorem dX10_copy_67 : decode cX10_copy 67 = .ok (.ireturn, 1) := by decide +kernel
theorem dX10_home_0 : decode cX10_home 0 = .ok (.iload_n 1, 1) := by decide +kernel
theorem dX10_home_1 : decode cX10_home 1 = .ok (.ifCond .lt 21, 3) := by decide +kernel
theorem dX10_home_4 : decode cX10_home 4 = .ok (.iload_n 1, 1) := by decide +kernel
theorem dX10_home_5 : decode cX10_home 5 = .ok (.sipush 512, 3) := by decide +kernel
theorem dX10_home_8 : decode cX10_home 8 = .ok (.if_icmp .ge 14, 3) := by decide +kernel
theorem dX10_home_11 : decode cX10_home 11 = .ok (.aload_n 0, 1) := by decide +kernel
theorem dX10_home_12 : decode cX10_home 12 = .ok (.getfield 37, 3) := by decide +kernel
theorem dX10_home_15 : decode cX10_home 15 = .ok (.iload_n 1, 1) := by decide +kernel
theorem dX10_home_16 : decode cX10_home 16 = .ok (.invokevirtual 240, 3) := by decide +kernel
theorem dX10_home_19 : decode cX10_home 19 = .ok (.goto 4, 3) := by decide +kernel
theorem dX10_home_22 : decode cX10_home 22 = .ok (.iconst (-1), 1) := by decide +kernel
theorem dX10_home_23 : decode cX10_home 23 = .ok (.istore_n 3, 1) := by decide +kernel
theorem dX10_home_24 : decode cX10_home 24 = .ok (.iload_n 3, 1) := by decide +kernel
theorem dX10_home_25 : decode cX10_home 25 = .ok (.ifCond .lt 13, 3) := by decide +kernel
theorem dX10_home_28 : decode cX10_home 28 = .ok (.iload_n 2, 1) := by decide +kernel
theorem dX10_home_29 : decode cX10_home 29 = .ok (.ifCond .lt 9, 3) := by decide +kernel
theorem dX10_home_32 : decode cX10_home 32 = .ok (.iload_n 2, 1) := by decide +kernel
theorem dX10_home_33 : decode cX10_home 33 = .ok (.bipush 9, 2) := by decide +kernel
theorem dX10_home_35 : decode cX10_home 35 = .ok (.if_icmp .le 13, 3) := by decide +kernel
theorem dX10_home_38 : decode cX10_home 38 = .ok (.new 200, 3) := by decide +kernel
theorem dX10_home_41 : decode cX10_home 41 = .ok (.dup, 1) := by decide +kernel
theorem dX10_home_42 : decode cX10_home 42 = .ok (.ldc 241, 2) := by decide +kernel
theorem dX10_home_44 : decode cX10_home 44 = .ok (.invokespecial 204, 3) := by decide +kernel
theorem dX10_home_47 : decode cX10_home 47 = .ok (.athrow, 1) := by decide +kernel
theorem dX10_home_48 : decode cX10_home 48 = .ok (.aload_n 0, 1) := by decide +kernel
theorem dX10_home_49 : decode cX10_home 49 = .ok (.getfield 37, 3) := by decide +kernel
theorem dX10_home_52 : decode cX10_home 52 = .ok (.iload_n 3, 1) := by decide +kernel
theorem dX10_home_53 : decode cX10_home 53 = .ok (.iload_n 2, 1) := by decide +kernel
theorem dX10_home_54 : decode cX10_home 54 = .ok (.invokevirtual 243, 3) := by decide +kernel
theorem dX10_home_57 : decode cX10_home 57 = .ok (.ireturn, 1) := by decide +kernel
theorem dX10_memory_0 : decode cX10_memory 0 = .ok (.iload_n 1, 1) := by decide +kernel
theorem dX10_memory_1 : decode cX10_memory 1 = .ok (.invokestatic 229, 3) := by decide +kernel
theorem dX10_memory_4 : decode cX10_memory 4 = .ok (.ifCond .ne 13, 3) := by decide +kernel
theorem dX10_memory_7 : decode cX10_memory 7 = .ok (.new 125, 3) := by decide +kernel
theorem dX10_memory_10 : decode cX10_memory 10 = .ok (.dup, 1) := by decide +kernel
theorem dX10_memory_11 : decode cX10_memory 11 = .ok (.ldc 251, 2) := by decide +kernel
theorem dX10_memory_13 : decode cX10_memory 13 = .ok (.invokespecial 129, 3) := by decide +kernel
theorem dX10_memory_16 : decode cX10_memory 16 = .ok (.athrow, 1) := by decide +kernel
theorem dX10_memory_17 : decode cX10_memory 17 = .ok (.aload_n 0, 1) := by decide +kernel
theorem dX10_memory_18 : decode cX10_memory 18 = .ok (.getfield 37, 3) := by decide +kernel
theorem dX10_memory_21 : decode cX10_memory 21 = .ok (.getfield 102, 3) := by decide +kernel
theorem dX10_memory_24 : decode cX10_memory 24 = .ok (.iload_n 1, 1) := by decide +kernel
theorem dX10_memory_25 : decode cX10_memory 25 = .ok (.iconst 2, 1) := by decide +kernel
theorem dX10_memory_26 : decode cX10_memory 26 = .ok (.ishr, 1) := by decide +kernel
theorem dX10_memory_27 : decode cX10_memory 27 = .ok (.iaload, 1) := by decide +kernel
theorem dX10_memory_28 : decode cX10_memory 28 = .ok (.ireturn, 1) := by decide +kernel
theorem dX10_word_0 : decode cX10_word 0 = .ok (.iload_n 1, 1) := by decide +kernel
theorem dX10_word_1 : decode cX10_word 1 = .ok (.invokestatic 229, 3) := by decide +kernel
theorem dX10_word_4 : decode cX10_word 4 = .ok (.ifCond .ne 13, 3) := by decide +kernel
theorem dX10_word_7 : decode cX10_word 7 = .ok (.new 125, 3) := by decide +kernel
theorem dX10_word_10 : decode cX10_word 10 = .ok (.dup, 1) := by decide +kernel
theorem dX10_word_11 : decode cX10_word 11 = .ok (.ldc 251, 2) := by decide +kernel
theorem dX10_word_13 : decode cX10_word 13 = .ok (.invokespecial 129, 3) := by decide +kernel
theorem dX10_word_16 : decode cX10_word 16 = .ok (.athrow, 1) := by decide +kernel
theorem dX10_word_17 : decode cX10_word 17 = .ok (.aload_n 0, 1) := by decide +kernel
theorem dX10_word_18 : decode cX10_word 18 = .ok (.getfield 37, 3) := by decide +kernel
theorem dX10_word_21 : decode cX10_word 21 = .ok (.iload_n 1, 1) := by decide +kernel
theorem dX10_word_22 : decode cX10_word 22 = .ok (.iconst 4, 1) := by decide +kernel
theorem dX10_word_23 : decode cX10_word 23 = .ok (.ishr, 1) := by decide +kernel
theorem dX10_word_24 : decode cX10_word 24 = .ok (.invokevirtual 240, 3) := by decide +kernel
theorem dX10_word_27 : decode cX10_word 27 = .ok (.istore_n 2, 1) := by decide +kernel
theorem dX10_word_28 : decode cX10_word 28 = .ok (.iload_n 2, 1) := by decide +kernel
theorem dX10_word_29 : decode cX10_word 29 = .ok (.ifCond .ge 15, 3) := by decide +kernel
theorem dX10_word_32 : decode cX10_word 32 = .ok (.aload_n 0, 1) := by decide +kernel
theorem dX10_word_33 : decode cX10_word 33 = .ok (.getfield 37, 3) := by decide +kernel
theorem dX10_word_36 : decode cX10_word 36 = .ok (.getfield 102, 3) := by decide +kernel
theorem dX10_word_39 : decode cX10_word 39 = .ok (.iload_n 1, 1) := by decide +kernel
theorem dX10_word_40 : decode cX10_word 40 = .ok (.iconst 2, 1) := by decide +kernel
theorem dX10_word_41 : decode cX10_word 41 = .ok (.ishr, 1) := by decide +kernel
theorem dX10_word_42 : decode cX10_word 42 = .ok (.iaload, 1) := by decide +kernel
theorem dX10_word_43 : decode cX10_word 43 = .ok (.ireturn, 1) := by decide +kernel
theorem dX10_word_44 : decode cX10_word 44 = .ok (.aload_n 0, 1) := by decide +kernel
theorem dX10_word_45 : decode cX10_word 45 = .ok (.getfield 37, 3) := by decide +kernel
theorem dX10_word_48 : decode cX10_word 48 = .ok (.getfield 253, 3) := by decide +kernel
theorem dX10_word_51 : decode cX10_word 51 = .ok (.iload_n 2, 1) := by decide +kernel
theorem dX10_word_52 : decode cX10_word 52 = .ok (.iaload, 1) := by decide +kernel
theorem dX10_word_53 : decode cX10_word 53 = .ok (.istore_n 3, 1) := by decide +kernel
theorem dX10_word_54 : decode cX10_word 54 = .ok (.aload_n 0, 1) := by decide +kernel
theorem dX10_word_55 : decode cX10_word 55 = .ok (.iload_n 3, 1) := by decide +kernel
theorem dX10_word_56 : decode cX10_word 56 = .ok (.invokevirtual 121, 3) := by decide +kernel
theorem dX10_word_59 : decode cX10_word 59 = .ok (.ifCond .eq 18, 3) := by decide +kernel
theorem dX10_word_62 : decode cX10_word 62 = .ok (.aload_n 0, 1) := by decide +kernel
theorem dX10_word_63 : decode cX10_word 63 = .ok (.aload_n 0, 1) := by decide +kernel
theorem dX10_word_64 : decode cX10_word 64 = .ok (.getfield 43, 3) := by decide +kernel
theorem dX10_word_67 : decode cX10_word 67 = .ok (.iload_n 3, 1) := by decide +kernel
theorem dX10_word_68 : decode cX10_word 68 = .ok (.aaload, 1) := by decide +kernel
theorem dX10_word_69 : decode cX10_word 69 = .ok (.iload_n 2, 1) := by decide +kernel
theorem dX10_word_70 : decode cX10_word 70 = .ok (.iload_n 1, 1) := by decide +kernel
theorem dX10_word_71 : decode cX10_word 71 = .ok (.invokevirtual 256, 3) := by decide +kernel
theorem dX10_word_74 : decode cX10_word 74 = .ok (.goto 16, 3) := by decide +kernel
theorem dX10_word_77 : decode cX10_word 77 = .ok (.aload_n 0, 1) := by decide +kernel
theorem dX10_word_78 : decode cX10_word 78 = .ok (.getfield 37, 3) := by decide +kernel
theorem dX10_word_81 : decode cX10_word 81 = .ok (.getfield 260, 3) := by decide +kernel
theorem dX10_word_84 : decode cX10_word 84 = .ok (.iload_n 2, 1) := by decide +kernel
theorem dX10_word_85 : decode cX10_word 85 = .ok (.iload_n 1, 1) := by decide +kernel
theorem dX10_word_86 : decode cX10_word 86 = .ok (.invokestatic 237, 3) := by decide +kernel
theorem dX10_word_89 : decode cX10_word 89 = .ok (.iaload, 1) := by decide +kernel
theorem dX10_word_90 : decode cX10_word 90 = .ok (.ireturn, 1) := by decide +kernel
theorem dX10_message_0 : decode cX10_message 0 = .ok (.iload_n 1, 1) := by decide +kernel
theorem dX10_message_1 : decode cX10_message 1 = .ok (.ifCond .lt 24, 3) := by decide +kernel
theorem dX10_message_4 : decode cX10_message 4 = .ok (.iload_n 1, 1) := by decide +kernel
theorem dX10_message_5 : decode cX10_message 5 = .ok (.aload_n 0, 1) := by decide +kernel
theorem dX10_message_6 : decode cX10_message 6 = .ok (.getfield 28, 3) := by decide +kernel
theorem dX10_message_9 : decode cX10_message 9 = .ok (.getfield 159, 3) := by decide +kernel
theorem dX10_message_12 : decode cX10_message 12 = .ok (.if_icmp .ge 13, 3) := by decide +kernel
theorem dX10_message_15 : decode cX10_message 15 = .ok (.iload_n 2, 1) := by decide +kernel
theorem dX10_message_16 : decode cX10_message 16 = .ok (.ifCond .lt 9, 3) := by decide +kernel
theorem dX10_message_19 : decode cX10_message 19 = .ok (.iload_n 2, 1) := by decide +kernel
theorem dX10_message_20 : decode cX10_message 20 = .ok (.bipush 9, 2) := by decide +kernel
theorem dX10_message_22 : decode cX10_message 22 = .ok (.if_icmp .le 14, 3) := by decide +kernel
theorem dX10_message_25 : decode cX10_message 25 = .ok (.new 200, 3) := by decide +kernel
theorem dX10_message_28 : decode cX10_message 28 = .ok (.dup, 1) := by decide +kernel
theorem dX10_message_29 : decode cX10_message 29 = .ok (.ldc_w 275, 3) := by decide +kernel
theorem dX10_message_32 : decode cX10_message 32 = .ok (.invokespecial 204, 3) := by decide +kernel
theorem dX10_message_35 : decode cX10_message 35 = .ok (.athrow, 1) := by decide +kernel
theorem dX10_message_36 : decode cX10_message 36 = .ok (.iload_n 2, 1) := by decide +kernel
theorem dX10_message_37 : decode cX10_message 37 = .ok (.bipush 9, 2) := by decide +kernel
theorem dX10_message_39 : decode cX10_message 39 = .ok (.if_icmp .ne 19, 3) := by decide +kernel
theorem dX10_message_42 : decode cX10_message 42 = .ok (.getstatic 277, 3) := by decide +kernel
theorem dX10_message_45 : decode cX10_message 45 = .ok (.aload_n 0, 1) := by decide +kernel
theorem dX10_message_46 : decode cX10_message 46 = .ok (.getfield 28, 3) := by decide +kernel
theorem dX10_message_49 : decode cX10_message 49 = .ok (.iload_n 1, 1) := by decide +kernel
theorem dX10_message_50 : decode cX10_message 50 = .ok (.iconst 0, 1) := by decide +kernel
theorem dX10_message_51 : decode cX10_message 51 = .ok (.invokevirtual 274, 3) := by decide +kernel
theorem dX10_message_54 : decode cX10_message 54 = .ok (.iaload, 1) := by decide +kernel
theorem dX10_message_55 : decode cX10_message 55 = .ok (.goto 12, 3) := by decide +kernel
theorem dX10_message_58 : decode cX10_message 58 = .ok (.aload_n 0, 1) := by decide +kernel
theorem dX10_message_59 : decode cX10_message 59 = .ok (.getfield 28, 3) := by decide +kernel
theorem dX10_message_62 : decode cX10_message 62 = .ok (.iload_n 1, 1) := by decide +kernel
theorem dX10_message_63 : decode cX10_message 63 = .ok (.iload_n 2, 1) := by decide +kernel
theorem dX10_message_64 : decode cX10_message 64 = .ok (.invokevirtual 274, 3) := by decide +kernel
theorem dX10_message_67 : decode cX10_message 67 = .ok (.ireturn, 1) := by decide +kernel
theorem m_721 : (Jvm.Cond.code ({ cls := "CoreHouse", name := "assemble", desc := "()I" } : Jvm.MethodName) prog_1_method_5_code (2 : Nat) (Option.some Jvm.ClassFile.FieldType.int)) ∈ gw := mem_tb (List.mem_append_right _ (List.mem_append_right _ (List.mem_append_left _ (List.mem_of_getElem? (l := tables_1_3) (i := 118) rfl)))) rfl
theorem m_722 : (Jvm.Cond.methodLink "CoreHouse" (65 : Nat) ({ cls := "CoreHouse$Assembler", name := "translate", desc := "()I" } : Jvm.MethodName)) ∈ gw := mem_tb (List.mem_append_right _ (List.mem_append_right _ (List.mem_append_left _ (List.mem_of_getElem? (l := tables_1_3) (i := 119) rfl)))) rfl
theorem m_723 : (Jvm.Cond.instanceMethod ({ cls := "CoreHouse$Assembler", name := "translate", desc := "()I" } : Jvm.MethodName)) ∈ gw := mem_tb (List.mem_append_right _ (List.mem_append_right _ (List.mem_append_left _ (List.mem_of_getElem? (l := tables_1_3) (i := 120) rfl)))) rfl
theorem m_724 : (Jvm.Cond.selects "CoreHouse$Assembler" ({ cls := "CoreHouse$Assembler", name := "translate", desc := "()I" } : Jvm.MethodName) ({ cls := "CoreHouse$Assembler", name := "translate", desc := "()I" } : Jvm.MethodName)) ∈ gw := mem_tb (List.mem_append_right _ (List.mem_append_right _ (List.mem_append_left _ (List.mem_of_getElem? (l := tables_1_3) (i := 121) rfl)))) rfl
theorem m_883 : (Jvm.Cond.methodLink "CoreHouse" (69 : Nat) ({ cls := "CoreHouse$Tape", name := "clear", desc := "()V" } : Jvm.MethodName)) ∈ gw := mem_tb (List.mem_append_right _ (List.mem_append_right _ (List.mem_append_right _ (List.mem_append_left _ (List.mem_of_getElem? (l := tables_1_4) (i := 40) rfl))))) rfl
theorem m_884 : (Jvm.Cond.instanceMethod ({ cls := "CoreHouse$Tape", name := "clear", desc := "()V" } : Jvm.MethodName)) ∈ gw := mem_tb (List.mem_append_right _ (List.mem_append_right _ (List.mem_append_right _ (List.mem_append_left _ (List.mem_of_getElem? (l := tables_1_4) (i := 41) rfl))))) rfl
theorem m_885 : (Jvm.Cond.selects "CoreHouse$Tape" ({ cls := "CoreHouse$Tape", name := "clear", desc := "()V" } : Jvm.MethodName) ({ cls := "CoreHouse$Tape", name := "clear", desc := "()V" } : Jvm.MethodName)) ∈ gw := mem_tb (List.mem_append_right _ (List.mem_append_right _ (List.mem_append_right _ (List.mem_append_left _ (List.mem_of_getElem? (l := tables_1_4) (i := 42) rfl))))) rfl
theorem m_212 : (Jvm.Cond.fieldLink "CoreHouse" (72 : Nat) "CoreHouse$Assembler" "faultKind" "I") ∈ gw := mem_tb (List.mem_append_left _ (List.mem_of_getElem? (l := tables_1_1) (i := 89) rfl)) rfl
theorem m_214 : (Jvm.Cond.fieldLink "CoreHouse" (77 : Nat) "CoreHouse$Assembler" "faultPlace" "I") ∈ gw := mem_tb (List.mem_append_left _ (List.mem_of_getElem? (l := tables_1_1) (i := 91) rfl)) rfl
theorem m_955 : (Jvm.Cond.methodLink "CoreHouse" (88 : Nat) ({ cls := "CoreHouse", name := "beginAnew", desc := "()V" } : Jvm.MethodName)) ∈ gw := mem_tb (List.mem_append_right _ (List.mem_append_right _ (List.mem_append_right _ (List.mem_append_left _ (List.mem_of_getElem? (l := tables_1_4) (i := 112) rfl))))) rfl
theorem m_957 : (Jvm.Cond.instanceMethod ({ cls := "CoreHouse", name := "beginAnew", desc := "()V" } : Jvm.MethodName)) ∈ gw := mem_tb (List.mem_append_right _ (List.mem_append_right _ (List.mem_append_right _ (List.mem_append_left _ (List.mem_of_getElem? (l := tables_1_4) (i := 114) rfl))))) rfl
theorem m_37 : Cond.selects "CoreHouse" (⟨"CoreHouse", "beginAnew", "()V"⟩ : MethodName) (⟨"CoreHouse", "beginAnew", "()V"⟩ : MethodName) ∈ gw := mem_gw 37 (by decide +kernel) (by decide +kernel)
theorem m_990 : (Jvm.Cond.code ({ cls := "CoreHouse", name := "step", desc := "(I)I" } : Jvm.MethodName) prog_1_method_8_code (2 : Nat) (Option.some Jvm.ClassFile.FieldType.int)) ∈ gw := mem_tb (List.mem_append_right _ (List.mem_append_right _ (List.mem_append_right _ (List.mem_append_left _ (List.mem_of_getElem? (l := tables_1_4) (i := 147) rfl))))) rfl
theorem m_1007 : (Jvm.Cond.methodLink "CoreHouse" (130 : Nat) ({ cls := "CoreHouse$Core", name := "advance", desc := "()I" } : Jvm.MethodName)) ∈ gw := mem_tb (List.mem_append_right _ (List.mem_append_right _ (List.mem_append_right _ (List.mem_append_left _ (List.mem_of_getElem? (l := tables_1_4) (i := 164) rfl))))) rfl
theorem m_1008 : (Jvm.Cond.instanceMethod ({ cls := "CoreHouse$Core", name := "advance", desc := "()I" } : Jvm.MethodName)) ∈ gw := mem_tb (List.mem_append_right _ (List.mem_append_right _ (List.mem_append_right _ (List.mem_append_left _ (List.mem_of_getElem? (l := tables_1_4) (i := 165) rfl))))) rfl
theorem m_1009 : (Jvm.Cond.selects "CoreHouse$Core" ({ cls := "CoreHouse$Core", name := "advance", desc := "()I" } : Jvm.MethodName) ({ cls := "CoreHouse$Core", name := "advance", desc := "()I" } : Jvm.MethodName)) ∈ gw := mem_tb (List.mem_append_right _ (List.mem_append_right _ (List.mem_append_right _ (List.mem_append_left _ (List.mem_of_getElem? (l := tables_1_4) (i := 166) rfl))))) rfl
theorem m_1150 : (Jvm.Cond.code ({ cls := "CoreHouse", name := "drain", desc := "(I)I" } : Jvm.MethodName) prog_1_method_9_code (2 : Nat) (Option.some Jvm.ClassFile.FieldType.int)) ∈ gw := mem_tb (List.mem_append_right _ (List.mem_append_right _ (List.mem_append_right _ (List.mem_append_right _ (List.mem_append_left _ (List.mem_of_getElem? (l := tables_1_5) (i := 67) rfl)))))) rfl
theorem m_1151 : (Jvm.Cond.methodLink "CoreHouse" (133 : Nat) ({ cls := "CoreHouse$Core", name := "settle", desc := "()I" } : Jvm.MethodName)) ∈ gw := mem_tb (List.mem_append_right _ (List.mem_append_right _ (List.mem_append_right _ (List.mem_append_right _ (List.mem_append_left _ (List.mem_of_getElem? (l := tables_1_5) (i := 68) rfl)))))) rfl
theorem m_1152 : (Jvm.Cond.instanceMethod ({ cls := "CoreHouse$Core", name := "settle", desc := "()I" } : Jvm.MethodName)) ∈ gw := mem_tb (List.mem_append_right _ (List.mem_append_right _ (List.mem_append_right _ (List.mem_append_right _ (List.mem_append_left _ (List.mem_of_getElem? (l := tables_1_5) (i := 69) rfl)))))) rfl
theorem m_1153 : (Jvm.Cond.selects "CoreHouse$Core" ({ cls := "CoreHouse$Core", name := "settle", desc := "()I" } : Jvm.MethodName) ({ cls := "CoreHouse$Core", name := "settle", desc := "()I" } : Jvm.MethodName)) ∈ gw := mem_tb (List.mem_append_right _ (List.mem_append_right _ (List.mem_append_right _ (List.mem_append_right _ (List.mem_append_left _ (List.mem_of_getElem? (l := tables_1_5) (i := 70) rfl)))))) rfl
theorem m_1167 : (Jvm.Cond.code ({ cls := "CoreHouse", name := "run", desc := "(I)I" } : Jvm.MethodName) prog_1_method_14_code (5 : Nat) (Option.some Jvm.ClassFile.FieldType.int)) ∈ gw := mem_tb (List.mem_append_right _ (List.mem_append_right _ (List.mem_append_right _ (List.mem_append_right _ (List.mem_append_left _ (List.mem_of_getElem? (l := tables_1_5) (i := 84) rfl)))))) rfl
theorem m_1169 : (Jvm.Cond.constant "CoreHouse" (158 : Nat) (1000000 : Int32)) ∈ gw := mem_tb (List.mem_append_right _ (List.mem_append_right _ (List.mem_append_right _ (List.mem_append_right _ (List.mem_append_left _ (List.mem_of_getElem? (l := tables_1_5) (i := 86) rfl)))))) rfl
theorem m_1176 : (Jvm.Cond.code ({ cls := "CoreHouse", name := "play", desc := "()I" } : Jvm.MethodName) prog_1_method_17_code (9 : Nat) (Option.some Jvm.ClassFile.FieldType.int)) ∈ gw := mem_tb (List.mem_append_right _ (List.mem_append_right _ (List.mem_append_right _ (List.mem_append_right _ (List.mem_append_left _ (List.mem_of_getElem? (l := tables_1_5) (i := 93) rfl)))))) rfl
theorem m_166 : (Jvm.Cond.fieldLink "CoreHouse" (177 : Nat) "CoreHouse$Tape" "length" "I") ∈ gw := mem_tb (List.mem_append_left _ (List.mem_of_getElem? (l := tables_1_1) (i := 43) rfl)) rfl
theorem m_163 : (Jvm.Cond.fieldLink "CoreHouse" (182 : Nat) "CoreHouse$Tape" "marks" "[C") ∈ gw := mem_tb (List.mem_append_left _ (List.mem_of_getElem? (l := tables_1_1) (i := 40) rfl)) rfl
theorem m_1188 : (Jvm.Cond.methodLink "CoreHouse" (186 : Nat) ({ cls := "CoreHouse$Tape", name := "digitsBehind", desc := "(C)I" } : Jvm.MethodName)) ∈ gw := mem_tb (List.mem_append_right _ (List.mem_append_right _ (List.mem_append_right _ (List.mem_append_right _ (List.mem_append_left _ (List.mem_of_getElem? (l := tables_1_5) (i := 105) rfl)))))) rfl
theorem m_1189 : (Jvm.Cond.methodLink "CoreHouse" (190 : Nat) ({ cls := "CoreHouse$Tape", name := "digit", desc := "(C)I" } : Jvm.MethodName)) ∈ gw := mem_tb (List.mem_append_right _ (List.mem_append_right _ (List.mem_append_right _ (List.mem_append_right _ (List.mem_append_left _ (List.mem_of_getElem? (l := tables_1_5) (i := 106) rfl)))))) rfl
theorem m_1190 : (Jvm.Cond.methodLink "CoreHouse" (193 : Nat) ({ cls := "CoreHouse", name := "growWaits", desc := "()V" } : Jvm.MethodName)) ∈ gw := mem_tb (List.mem_append_right _ (List.mem_append_right _ (List.mem_append_right _ (List.mem_append_right _ (List.mem_append_left _ (List.mem_of_getElem? (l := tables_1_5) (i := 107) rfl)))))) rfl
theorem m_1192 : (Jvm.Cond.instanceMethod ({ cls := "CoreHouse", name := "growWaits", desc := "()V" } : Jvm.MethodName)) ∈ gw := mem_tb (List.mem_append_right _ (List.mem_append_right _ (List.mem_append_right _ (List.mem_append_right _ (List.mem_append_left _ (List.mem_of_getElem? (l := tables_1_5) (i := 109) rfl)))))) rfl
theorem m_54 : Cond.selects "CoreHouse" (⟨"CoreHouse", "growWaits", "()V"⟩ : MethodName) (⟨"CoreHouse", "growWaits", "()V"⟩ : MethodName) ∈ gw := mem_gw 54 (by decide +kernel) (by decide +kernel)
theorem m_1177 : (Jvm.Cond.methodLink "CoreHouse" (174 : Nat) ({ cls := "CoreHouse$Tape", name := "scheduleFault", desc := "()I" } : Jvm.MethodName)) ∈ gw := mem_tb (List.mem_append_right _ (List.mem_append_right _ (List.mem_append_right _ (List.mem_append_right _ (List.mem_append_left _ (List.mem_of_getElem? (l := tables_1_5) (i := 94) rfl)))))) rfl
theorem m_1178 : (Jvm.Cond.instanceMethod ({ cls := "CoreHouse$Tape", name := "scheduleFault", desc := "()I" } : Jvm.MethodName)) ∈ gw := mem_tb (List.mem_append_right _ (List.mem_append_right _ (List.mem_append_right _ (List.mem_append_right _ (List.mem_append_left _ (List.mem_of_getElem? (l := tables_1_5) (i := 95) rfl)))))) rfl
theorem m_1179 : (Jvm.Cond.selects "CoreHouse$Tape" ({ cls := "CoreHouse$Tape", name := "scheduleFault", desc := "()I" } : Jvm.MethodName) ({ cls := "CoreHouse$Tape", name := "scheduleFault", desc := "()I" } : Jvm.MethodName)) ∈ gw := mem_tb (List.mem_append_right _ (List.mem_append_right _ (List.mem_append_right _ (List.mem_append_right _ (List.mem_append_left _ (List.mem_of_getElem? (l := tables_1_5) (i := 96) rfl)))))) rfl
theorem m_1206 : (Jvm.Cond.code ({ cls := "CoreHouse", name := "trace", desc := "(III)I" } : Jvm.MethodName) prog_1_method_19_code (4 : Nat) (Option.some Jvm.ClassFile.FieldType.int)) ∈ gw := mem_tb (List.mem_append_right _ (List.mem_append_right _ (List.mem_append_right _ (List.mem_append_right _ (List.mem_append_left _ (List.mem_of_getElem? (l := tables_1_5) (i := 123) rfl)))))) rfl
theorem m_1207 : (Jvm.Cond.methodLink "CoreHouse" (197 : Nat) ({ cls := "CoreHouse$Trace", name := "has", desc := "(I)Z" } : Jvm.MethodName)) ∈ gw := mem_tb (List.mem_append_right _ (List.mem_append_right _ (List.mem_append_right _ (List.mem_append_right _ (List.mem_append_left _ (List.mem_of_getElem? (l := tables_1_5) (i := 124) rfl)))))) rfl
theorem m_1208 : (Jvm.Cond.instanceMethod ({ cls := "CoreHouse$Trace", name := "has", desc := "(I)Z" } : Jvm.MethodName)) ∈ gw := mem_tb (List.mem_append_right _ (List.mem_append_right _ (List.mem_append_right _ (List.mem_append_right _ (List.mem_append_left _ (List.mem_of_getElem? (l := tables_1_5) (i := 125) rfl)))))) rfl
theorem m_1209 : (Jvm.Cond.selects "CoreHouse$Trace" ({ cls := "CoreHouse$Trace", name := "has", desc := "(I)Z" } : Jvm.MethodName) ({ cls := "CoreHouse$Trace", name := "has", desc := "(I)Z" } : Jvm.MethodName)) ∈ gw := mem_tb (List.mem_append_right _ (List.mem_append_right _ (List.mem_append_right _ (List.mem_append_right _ (List.mem_append_left _ (List.mem_of_getElem? (l := tables_1_5) (i := 126) rfl)))))) rfl
theorem m_1227 : (Jvm.Cond.methodLink "CoreHouse" (205 : Nat) ({ cls := "CoreHouse$Trace", name := "get", desc := "(II)I" } : Jvm.MethodName)) ∈ gw := mem_tb (List.mem_append_right _ (List.mem_append_right _ (List.mem_append_right _ (List.mem_append_right _ (List.mem_append_left _ (List.mem_of_getElem? (l := tables_1_5) (i := 144) rfl)))))) rfl
theorem m_1228 : (Jvm.Cond.instanceMethod ({ cls := "CoreHouse$Trace", name := "get", desc := "(II)I" } : Jvm.MethodName)) ∈ gw := mem_tb (List.mem_append_right _ (List.mem_append_right _ (List.mem_append_right _ (List.mem_append_right _ (List.mem_append_left _ (List.mem_of_getElem? (l := tables_1_5) (i := 145) rfl)))))) rfl
theorem m_1229 : (Jvm.Cond.selects "CoreHouse$Trace" ({ cls := "CoreHouse$Trace", name := "get", desc := "(II)I" } : Jvm.MethodName) ({ cls := "CoreHouse$Trace", name := "get", desc := "(II)I" } : Jvm.MethodName)) ∈ gw := mem_tb (List.mem_append_right _ (List.mem_append_right _ (List.mem_append_right _ (List.mem_append_right _ (List.mem_append_left _ (List.mem_of_getElem? (l := tables_1_5) (i := 146) rfl)))))) rfl
theorem m_1237 : (Jvm.Cond.code ({ cls := "CoreHouse", name := "core", desc := "(II)I" } : Jvm.MethodName) prog_1_method_20_code (3 : Nat) (Option.some Jvm.ClassFile.FieldType.int)) ∈ gw := mem_tb (List.mem_append_right _ (List.mem_append_right _ (List.mem_append_right _ (List.mem_append_right _ (List.mem_append_left _ (List.mem_of_getElem? (l := tables_1_5) (i := 154) rfl)))))) rfl
theorem m_1238 : (Jvm.Cond.methodLink "CoreHouse" (208 : Nat) ({ cls := "CoreHouse$Core", name := "tells", desc := "(I)Z" } : Jvm.MethodName)) ∈ gw := mem_tb (List.mem_append_right _ (List.mem_append_right _ (List.mem_append_right _ (List.mem_append_right _ (List.mem_append_left _ (List.mem_of_getElem? (l := tables_1_5) (i := 155) rfl)))))) rfl
theorem m_1239 : (Jvm.Cond.instanceMethod ({ cls := "CoreHouse$Core", name := "tells", desc := "(I)Z" } : Jvm.MethodName)) ∈ gw := mem_tb (List.mem_append_right _ (List.mem_append_right _ (List.mem_append_right _ (List.mem_append_right _ (List.mem_append_left _ (List.mem_of_getElem? (l := tables_1_5) (i := 156) rfl)))))) rfl
theorem m_1240 : (Jvm.Cond.selects "CoreHouse$Core" ({ cls := "CoreHouse$Core", name := "tells", desc := "(I)Z" } : Jvm.MethodName) ({ cls := "CoreHouse$Core", name := "tells", desc := "(I)Z" } : Jvm.MethodName)) ∈ gw := mem_tb (List.mem_append_right _ (List.mem_append_right _ (List.mem_append_right _ (List.mem_append_right _ (List.mem_append_left _ (List.mem_of_getElem? (l := tables_1_5) (i := 157) rfl)))))) rfl
theorem m_1243 : (Jvm.Cond.methodLink "CoreHouse" (213 : Nat) ({ cls := "CoreHouse$Core", name := "tell", desc := "(I)I" } : Jvm.MethodName)) ∈ gw := mem_tb (List.mem_append_right _ (List.mem_append_right _ (List.mem_append_right _ (List.mem_append_right _ (List.mem_append_left _ (List.mem_of_getElem? (l := tables_1_5) (i := 160) rfl)))))) rfl
theorem m_1244 : (Jvm.Cond.instanceMethod ({ cls := "CoreHouse$Core", name := "tell", desc := "(I)I" } : Jvm.MethodName)) ∈ gw := mem_tb (List.mem_append_right _ (List.mem_append_right _ (List.mem_append_right _ (List.mem_append_right _ (List.mem_append_left _ (List.mem_of_getElem? (l := tables_1_5) (i := 161) rfl)))))) rfl
theorem m_1245 : (Jvm.Cond.selects "CoreHouse$Core" ({ cls := "CoreHouse$Core", name := "tell", desc := "(I)I" } : Jvm.MethodName) ({ cls := "CoreHouse$Core", name := "tell", desc := "(I)I" } : Jvm.MethodName)) ∈ gw := mem_tb (List.mem_append_right _ (List.mem_append_right _ (List.mem_append_right _ (List.mem_append_right _ (List.mem_append_left _ (List.mem_of_getElem? (l := tables_1_5) (i := 162) rfl)))))) rfl
theorem m_1253 : (Jvm.Cond.code ({ cls := "CoreHouse", name := "copy", desc := "(II)I" } : Jvm.MethodName) prog_1_method_22_code (4 : Nat) (Option.some Jvm.ClassFile.FieldType.int)) ∈ gw := mem_tb (List.mem_append_right _ (List.mem_append_right _ (List.mem_append_right _ (List.mem_append_right _ (List.mem_append_left _ (List.mem_of_getElem? (l := tables_1_5) (i := 170) rfl)))))) rfl
theorem m_1254 : (Jvm.Cond.methodLink "CoreHouse" (229 : Nat) ({ cls := "CoreHouse", name := "isWord", desc := "(I)Z" } : Jvm.MethodName)) ∈ gw := mem_tb (List.mem_append_right _ (List.mem_append_right _ (List.mem_append_right _ (List.mem_append_right _ (List.mem_append_left _ (List.mem_of_getElem? (l := tables_1_5) (i := 171) rfl)))))) rfl
theorem m_1255 : (Jvm.Cond.static ({ cls := "CoreHouse", name := "isWord", desc := "(I)Z" } : Jvm.MethodName)) ∈ gw := mem_tb (List.mem_append_right _ (List.mem_append_right _ (List.mem_append_right _ (List.mem_append_right _ (List.mem_append_left _ (List.mem_of_getElem? (l := tables_1_5) (i := 172) rfl)))))) rfl
theorem m_1265 : (Jvm.Cond.code ({ cls := "CoreHouse", name := "home", desc := "(II)I" } : Jvm.MethodName) prog_1_method_25_code (4 : Nat) (Option.some Jvm.ClassFile.FieldType.int)) ∈ gw := mem_tb (List.mem_append_right _ (List.mem_append_right _ (List.mem_append_right _ (List.mem_append_right _ (List.mem_append_left _ (List.mem_of_getElem? (l := tables_1_5) (i := 182) rfl)))))) rfl
theorem m_1268 : (Jvm.Cond.methodLink "CoreHouse" (243 : Nat) ({ cls := "CoreHouse$Home", name := "tell", desc := "(II)I" } : Jvm.MethodName)) ∈ gw := mem_tb (List.mem_append_right _ (List.mem_append_right _ (List.mem_append_right _ (List.mem_append_right _ (List.mem_append_left _ (List.mem_of_getElem? (l := tables_1_5) (i := 185) rfl)))))) rfl
theorem m_1269 : (Jvm.Cond.instanceMethod ({ cls := "CoreHouse$Home", name := "tell", desc := "(II)I" } : Jvm.MethodName)) ∈ gw := mem_tb (List.mem_append_right _ (List.mem_append_right _ (List.mem_append_right _ (List.mem_append_right _ (List.mem_append_left _ (List.mem_of_getElem? (l := tables_1_5) (i := 186) rfl)))))) rfl
theorem m_1270 : (Jvm.Cond.selects "CoreHouse$Home" ({ cls := "CoreHouse$Home", name := "tell", desc := "(II)I" } : Jvm.MethodName) ({ cls := "CoreHouse$Home", name := "tell", desc := "(II)I" } : Jvm.MethodName)) ∈ gw := mem_tb (List.mem_append_right _ (List.mem_append_right _ (List.mem_append_right _ (List.mem_append_right _ (List.mem_append_left _ (List.mem_of_getElem? (l := tables_1_5) (i := 187) rfl)))))) rfl
theorem m_1266 : (Jvm.Cond.methodLink "CoreHouse" (240 : Nat) ({ cls := "CoreHouse$Home", name := "find", desc := "(I)I" } : Jvm.MethodName)) ∈ gw := mem_tb (List.mem_append_right _ (List.mem_append_right _ (List.mem_append_right _ (List.mem_append_right _ (List.mem_append_left _ (List.mem_of_getElem? (l := tables_1_5) (i := 183) rfl)))))) rfl
theorem m_1278 : (Jvm.Cond.code ({ cls := "CoreHouse", name := "memory", desc := "(I)I" } : Jvm.MethodName) prog_1_method_27_code (2 : Nat) (Option.some Jvm.ClassFile.FieldType.int)) ∈ gw := mem_tb (List.mem_append_right _ (List.mem_append_right _ (List.mem_append_right _ (List.mem_append_right _ (List.mem_append_left _ (List.mem_of_getElem? (l := tables_1_5) (i := 195) rfl)))))) rfl
theorem m_1286 : (Jvm.Cond.code ({ cls := "CoreHouse", name := "word", desc := "(I)I" } : Jvm.MethodName) prog_1_method_28_code (4 : Nat) (Option.some Jvm.ClassFile.FieldType.int)) ∈ gw := mem_tb (List.mem_append_right _ (List.mem_append_right _ (List.mem_append_right _ (List.mem_append_right _ (List.mem_append_left _ (List.mem_of_getElem? (l := tables_1_5) (i := 203) rfl)))))) rfl
theorem m_294 : (Jvm.Cond.fieldLink "CoreHouse" (253 : Nat) "CoreHouse$Home" "owners" "[I") ∈ gw := mem_tb (List.mem_append_left _ (List.mem_of_getElem? (l := tables_1_1) (i := 171) rfl)) rfl
theorem m_1287 : (Jvm.Cond.methodLink "CoreHouse" (256 : Nat) ({ cls := "CoreHouse", name := "lent", desc := "(LCoreHouse$Core;II)I" } : Jvm.MethodName)) ∈ gw := mem_tb (List.mem_append_right _ (List.mem_append_right _ (List.mem_append_right _ (List.mem_append_right _ (List.mem_append_left _ (List.mem_of_getElem? (l := tables_1_5) (i := 204) rfl)))))) rfl
theorem m_1289 : (Jvm.Cond.instanceMethod ({ cls := "CoreHouse", name := "lent", desc := "(LCoreHouse$Core;II)I" } : Jvm.MethodName)) ∈ gw := mem_tb (List.mem_append_right _ (List.mem_append_right _ (List.mem_append_right _ (List.mem_append_right _ (List.mem_append_left _ (List.mem_of_getElem? (l := tables_1_5) (i := 206) rfl)))))) rfl
theorem m_55 : Cond.selects "CoreHouse" (⟨"CoreHouse", "lent", "(LCoreHouse$Core;II)I"⟩ : MethodName) (⟨"CoreHouse", "lent", "(LCoreHouse$Core;II)I"⟩ : MethodName) ∈ gw := mem_gw 55 (by decide +kernel) (by decide +kernel)
theorem m_1302 : (Jvm.Cond.code ({ cls := "CoreHouse", name := "message", desc := "(II)I" } : Jvm.MethodName) prog_1_method_30_code (3 : Nat) (Option.some Jvm.ClassFile.FieldType.int)) ∈ gw := mem_tb (List.mem_append_right _ (List.mem_append_right _ (List.mem_append_right _ (List.mem_append_right _ (List.mem_append_left _ (List.mem_of_getElem? (l := tables_1_5) (i := 219) rfl)))))) rfl
theorem m_1304 : (Jvm.Cond.fieldLink "CoreHouse" (277 : Nat) "CoreHouse" "CHANNELS" "[I") ∈ gw := mem_tb (List.mem_append_right _ (List.mem_append_right _ (List.mem_append_right _ (List.mem_append_right _ (List.mem_append_left _ (List.mem_of_getElem? (l := tables_1_5) (i := 221) rfl)))))) rfl
theorem m_887 : (Jvm.Cond.classLink "CoreHouse" (81 : Nat) "java/lang/IllegalArgumentException") ∈ gw := mem_tb (List.mem_append_right _ (List.mem_append_right _ (List.mem_append_right _ (List.mem_append_left _ (List.mem_of_getElem? (l := tables_1_4) (i := 44) rfl))))) rfl
theorem m_142 : (Jvm.Cond.initialized "java/lang/IllegalArgumentException") ∈ gw := mem_tb (List.mem_append_left _ (List.mem_of_getElem? (l := tables_1_1) (i := 19) rfl)) rfl
theorem m_991 : (Jvm.Cond.classLink "CoreHouse" (125 : Nat) "java/lang/IndexOutOfBoundsException") ∈ gw := mem_tb (List.mem_append_right _ (List.mem_append_right _ (List.mem_append_right _ (List.mem_append_left _ (List.mem_of_getElem? (l := tables_1_4) (i := 148) rfl))))) rfl
theorem m_144 : (Jvm.Cond.initialized "java/lang/IndexOutOfBoundsException") ∈ gw := mem_tb (List.mem_append_left _ (List.mem_of_getElem? (l := tables_1_1) (i := 21) rfl)) rfl
theorem m_1211 : (Jvm.Cond.classLink "CoreHouse" (200 : Nat) "java/util/NoSuchElementException") ∈ gw := mem_tb (List.mem_append_right _ (List.mem_append_right _ (List.mem_append_right _ (List.mem_append_right _ (List.mem_append_left _ (List.mem_of_getElem? (l := tables_1_5) (i := 128) rfl)))))) rfl
theorem m_147 : (Jvm.Cond.initialized "java/util/NoSuchElementException") ∈ gw := mem_tb (List.mem_append_left _ (List.mem_of_getElem? (l := tables_1_1) (i := 24) rfl)) rfl
theorem fl_X10_72 : FL RX10 72 0 16 0 .int false := ⟨RX1, TX1, 18, tyX1, CL_X1, by decide, rfl, m_212, rfl, rfl, rfl⟩
theorem fl_X10_77 : FL RX10 77 0 17 0 .int false := ⟨RX1, TX1, 18, tyX1, CL_X1, by decide, rfl, m_214, rfl, rfl, rfl⟩
theorem fl_X10_177 : FL RX10 177 6 1 0 .int false := ⟨RX8, TX8, 6, tyX8, CL_X8, by decide, rfl, m_166, rfl, rfl, rfl⟩
theorem fl_X10_182 : FL RX10 182 6 0 2 (.array .char) true := ⟨RX8, TX8, 6, tyX8, CL_X8, by decide, rfl, m_163, rfl, rfl, rfl⟩
theorem fl_X10_253 : FL RX10 253 3 3 2 (.array .int) true := ⟨RX4, TX4, 17, tyX4, CL_X4, by decide, rfl, m_294, rfl, rfl, rfl⟩
abbrev k_X10_assemble : Mt := (yX10_assemble, cX10_assemble, 2, some .int, 7, 200)
abbrev k_X10_step : Mt := (yX10_step, cX10_step, 2, some .int, 8, 207)
abbrev k_X10_drain : Mt := (yX10_drain, cX10_drain, 2, some .int, 7, 200)
abbrev k_X10_run : Mt := (yX10_run, cX10_run, 5, some .int, 8, 208)
abbrev k_X10_play : Mt := (yX10_play, cX10_play, 9, some .int, 8, 208)
abbrev k_X10_trace : Mt := (yX10_trace, cX10_trace, 4, some .int, 6, 200)
abbrev k_X10_core : Mt := (yX10_core, cX10_core, 3, some .int, 6, 200)
abbrev k_X10_copy : Mt := (yX10_copy, cX10_copy, 4, some .int, 6, 200)
abbrev k_X10_home : Mt := (yX10_home, cX10_home, 4, some .int, 6, 200)
abbrev k_X10_memory : Mt := (yX10_memory, cX10_memory, 2, some .int, 6, 200)
abbrev k_X10_word : Mt := (yX10_word, cX10_word, 4, some .int, 6, 200)
abbrev k_X10_message : Mt := (yX10_message, cX10_message, 3, some .int, 6, 200)
set_option maxRecDepth 100000 in
theorem tg_81_85 : ∀ w ∈ (vx_atS "CoreHouse" 85 "java/lang/IllegalArgumentException" xNm).filter goodWord, w ∈ lw_tbl := by decide +kernel
set_option maxRecDepth 100000 in
theorem th_81_85 : TH 81 85 "java/lang/IllegalArgumentException" := ⟨by decide, m_887, m_142, fun w hw => List.mem_filter.mpr ⟨tg_81_85 w hw, (List.mem_filter.mp hw).2⟩, by decide +kernel, by decide +kernel, by decide⟩
set_option maxRecDepth 100000 in
theorem tg_125_129 : ∀ w ∈ (vx_atS "CoreHouse" 129 "java/lang/IndexOutOfBoundsException" xNm).filter goodWord, w ∈ lw_tbl := by decide +kernel
set_option maxRecDepth 100000 in
theorem th_125_129 : TH 125 129 "java/lang/IndexOutOfBoundsException" := ⟨by decide, m_991, m_144, fun w hw => List.mem_filter.mpr ⟨tg_125_129 w hw, (List.mem_filter.mp hw).2⟩, by decide +kernel, by decide +kernel, by decide⟩
def nse_rx : ByteArray := ⟨#[0x2a, 0x2b, 0xb7, 0x00, 0x0d, 0xb1]⟩
set_option maxRecDepth 100000 in
theorem tg_200_204 : ∀ w ∈ (nx_at "CoreHouse" 204 "java/util/NoSuchElementException" 13 nse_rx xNm).filter goodWord, w ∈ lw_tbl := by decide +kernel
set_option maxRecDepth 100000 in
theorem th_200_204 : THN 200 204 13 nse_rx "java/util/NoSuchElementException" := ⟨by decide, m_1211, m_147, fun w hw => List.mem_filter.mpr ⟨tg_200_204 w hw, (List.mem_filter.mp hw).2⟩, by decide +kernel, by decide +kernel, by decide, by decide +kernel, by decide +kernel, by decide +kernel, by decide +kernel⟩
theorem ck_X10_assemble : CK k_X10_assemble 0 := ⟨m_721, m_124, by decide, by decide, by decide +kernel, by decide⟩
theorem ck_X10_step : CK k_X10_step 1 := ⟨m_990, m_124, by decide, by decide, by decide +kernel, by decide⟩
theorem ck_X10_drain : CK k_X10_drain 1 := ⟨m_1150, m_124, by decide, by decide, by decide +kernel, by decide⟩
theorem ck_X10_run : CK k_X10_run 1 := ⟨m_1167, m_124, by decide, by decide, by decide +kernel, by decide⟩
theorem ck_X10_play : CK k_X10_play 0 := ⟨m_1176, m_124, by decide, by decide, by decide +kernel, by decide⟩
theorem ck_X10_trace : CK k_X10_trace 3 := ⟨m_1206, m_124, by decide, by decide, by decide +kernel, by decide⟩
theorem ck_X10_core : CK k_X10_core 2 := ⟨m_1237, m_124, by decide, by decide, by decide +kernel, by decide⟩
theorem ck_X10_copy : CK k_X10_copy 2 := ⟨m_1253, m_124, by decide, by decide, by decide +kernel, by decide⟩
theorem ck_X10_home : CK k_X10_home 2 := ⟨m_1265, m_124, by decide, by decide, by decide +kernel, by decide⟩
theorem ck_X10_memory : CK k_X10_memory 1 := ⟨m_1278, m_124, by decide, by decide, by decide +kernel, by decide⟩
theorem ck_X10_word : CK k_X10_word 1 := ⟨m_1286, m_124, by decide, by decide, by decide +kernel, by decide⟩
theorem ck_X10_message : CK k_X10_message 2 := ⟨m_1302, m_124, by decide, by decide, by decide +kernel, by decide⟩
