theorem dX0_variant_0 : decode cX0_variant 0 = .ok (.iload_n 0, 1) := by decide +kernel
theorem dX0_variant_1 : decode cX0_variant 1 = .ok (.bipush 12, 2) := by decide +kernel
theorem dX0_variant_3 : decode cX0_variant 3 = .ok (.iushr, 1) := by decide +kernel
theorem dX0_variant_4 : decode cX0_variant 4 = .ok (.bipush 7, 2) := by decide +kernel
theorem dX0_variant_6 : decode cX0_variant 6 = .ok (.iand, 1) := by decide +kernel
theorem dX0_variant_7 : decode cX0_variant 7 = .ok (.ireturn, 1) := by decide +kernel
theorem dX0_jumpDistance_0 : decode cX0_jumpDistance 0 = .ok (.iload_n 0, 1) := by decide +kernel
theorem dX0_jumpDistance_1 : decode cX0_jumpDistance 1 = .ok (.bipush 31, 2) := by decide +kernel
theorem dX0_jumpDistance_3 : decode cX0_jumpDistance 3 = .ok (.ishr, 1) := by decide +kernel
theorem dX0_jumpDistance_4 : decode cX0_jumpDistance 4 = .ok (.bipush 20, 2) := by decide +kernel
theorem dX0_jumpDistance_6 : decode cX0_jumpDistance 6 = .ok (.ishl, 1) := by decide +kernel
theorem dX0_jumpDistance_7 : decode cX0_jumpDistance 7 = .ok (.iload_n 0, 1) := by decide +kernel
theorem dX0_jumpDistance_8 : decode cX0_jumpDistance 8 = .ok (.ldc 7, 2) := by decide +kernel
theorem dX0_jumpDistance_10 : decode cX0_jumpDistance 10 = .ok (.iand, 1) := by decide +kernel
theorem dX0_jumpDistance_11 : decode cX0_jumpDistance 11 = .ok (.ior, 1) := by decide +kernel
theorem dX0_jumpDistance_12 : decode cX0_jumpDistance 12 = .ok (.iload_n 0, 1) := by decide +kernel
theorem dX0_jumpDistance_13 : decode cX0_jumpDistance 13 = .ok (.bipush 20, 2) := by decide +kernel
theorem dX0_jumpDistance_15 : decode cX0_jumpDistance 15 = .ok (.iushr, 1) := by decide +kernel
theorem dX0_jumpDistance_16 : decode cX0_jumpDistance 16 = .ok (.iconst 1, 1) := by decide +kernel
theorem dX0_jumpDistance_17 : decode cX0_jumpDistance 17 = .ok (.iand, 1) := by decide +kernel
theorem dX0_jumpDistance_18 : decode cX0_jumpDistance 18 = .ok (.bipush 11, 2) := by decide +kernel
theorem dX0_jumpDistance_20 : decode cX0_jumpDistance 20 = .ok (.ishl, 1) := by decide +kernel
theorem dX0_jumpDistance_21 : decode cX0_jumpDistance 21 = .ok (.ior, 1) := by decide +kernel
theorem dX0_jumpDistance_22 : decode cX0_jumpDistance 22 = .ok (.iload_n 0, 1) := by decide +kernel
theorem dX0_jumpDistance_23 : decode cX0_jumpDistance 23 = .ok (.bipush 21, 2) := by decide +kernel
theorem dX0_jumpDistance_25 : decode cX0_jumpDistance 25 = .ok (.iushr, 1) := by decide +kernel
theorem dX0_jumpDistance_26 : decode cX0_jumpDistance 26 = .ok (.sipush 1023, 3) := by decide +kernel
theorem dX0_jumpDistance_29 : decode cX0_jumpDistance 29 = .ok (.iand, 1) := by decide +kernel
theorem dX0_jumpDistance_30 : decode cX0_jumpDistance 30 = .ok (.iconst 1, 1) := by decide +kernel
theorem dX0_jumpDistance_31 : decode cX0_jumpDistance 31 = .ok (.ishl, 1) := by decide +kernel
theorem dX0_jumpDistance_32 : decode cX0_jumpDistance 32 = .ok (.ior, 1) := by decide +kernel
theorem dX0_jumpDistance_33 : decode cX0_jumpDistance 33 = .ok (.ireturn, 1) := by decide +kernel
theorem dX0_branchDistance_0 : decode cX0_branchDistance 0 = .ok (.iload_n 0, 1) := by decide +kernel
theorem dX0_branchDistance_1 : decode cX0_branchDistance 1 = .ok (.bipush 31, 2) := by decide +kernel
theorem dX0_branchDistance_3 : decode cX0_branchDistance 3 = .ok (.ishr, 1) := by decide +kernel
theorem dX0_branchDistance_4 : decode cX0_branchDistance 4 = .ok (.bipush 12, 2) := by decide +kernel
theorem dX0_branchDistance_6 : decode cX0_branchDistance 6 = .ok (.ishl, 1) := by decide +kernel
theorem dX0_branchDistance_7 : decode cX0_branchDistance 7 = .ok (.iload_n 0, 1) := by decide +kernel
theorem dX0_branchDistance_8 : decode cX0_branchDistance 8 = .ok (.bipush 7, 2) := by decide +kernel
theorem dX0_branchDistance_10 : decode cX0_branchDistance 10 = .ok (.iushr, 1) := by decide +kernel
theorem dX0_branchDistance_11 : decode cX0_branchDistance 11 = .ok (.iconst 1, 1) := by decide +kernel
theorem dX0_branchDistance_12 : decode cX0_branchDistance 12 = .ok (.iand, 1) := by decide +kernel
theorem dX0_branchDistance_13 : decode cX0_branchDistance 13 = .ok (.bipush 11, 2) := by decide +kernel
theorem dX0_branchDistance_15 : decode cX0_branchDistance 15 = .ok (.ishl, 1) := by decide +kernel
theorem dX0_branchDistance_16 : decode cX0_branchDistance 16 = .ok (.ior, 1) := by decide +kernel
theorem dX0_branchDistance_17 : decode cX0_branchDistance 17 = .ok (.iload_n 0, 1) := by decide +kernel
theorem dX0_branchDistance_18 : decode cX0_branchDistance 18 = .ok (.bipush 25, 2) := by decide +kernel
theorem dX0_branchDistance_20 : decode cX0_branchDistance 20 = .ok (.iushr, 1) := by decide +kernel
theorem dX0_branchDistance_21 : decode cX0_branchDistance 21 = .ok (.bipush 63, 2) := by decide +kernel
theorem dX0_branchDistance_23 : decode cX0_branchDistance 23 = .ok (.iand, 1) := by decide +kernel
theorem dX0_branchDistance_24 : decode cX0_branchDistance 24 = .ok (.iconst 5, 1) := by decide +kernel
theorem dX0_branchDistance_25 : decode cX0_branchDistance 25 = .ok (.ishl, 1) := by decide +kernel
theorem dX0_branchDistance_26 : decode cX0_branchDistance 26 = .ok (.ior, 1) := by decide +kernel
theorem dX0_branchDistance_27 : decode cX0_branchDistance 27 = .ok (.iload_n 0, 1) := by decide +kernel
theorem dX0_branchDistance_28 : decode cX0_branchDistance 28 = .ok (.bipush 8, 2) := by decide +kernel
theorem dX0_branchDistance_30 : decode cX0_branchDistance 30 = .ok (.iushr, 1) := by decide +kernel
theorem dX0_branchDistance_31 : decode cX0_branchDistance 31 = .ok (.bipush 15, 2) := by decide +kernel
theorem dX0_branchDistance_33 : decode cX0_branchDistance 33 = .ok (.iand, 1) := by decide +kernel
theorem dX0_branchDistance_34 : decode cX0_branchDistance 34 = .ok (.iconst 1, 1) := by decide +kernel
theorem dX0_branchDistance_35 : decode cX0_branchDistance 35 = .ok (.ishl, 1) := by decide +kernel
theorem dX0_branchDistance_36 : decode cX0_branchDistance 36 = .ok (.ior, 1) := by decide +kernel
theorem dX0_branchDistance_37 : decode cX0_branchDistance 37 = .ok (.ireturn, 1) := by decide +kernel
theorem dX0_storeDistance_0 : decode cX0_storeDistance 0 = .ok (.iload_n 0, 1) := by decide +kernel
theorem dX0_storeDistance_1 : decode cX0_storeDistance 1 = .ok (.bipush 25, 2) := by decide +kernel
theorem dX0_storeDistance_3 : decode cX0_storeDistance 3 = .ok (.ishr, 1) := by decide +kernel
theorem dX0_storeDistance_4 : decode cX0_storeDistance 4 = .ok (.iconst 5, 1) := by decide +kernel
theorem dX0_storeDistance_5 : decode cX0_storeDistance 5 = .ok (.ishl, 1) := by decide +kernel
theorem dX0_storeDistance_6 : decode cX0_storeDistance 6 = .ok (.iload_n 0, 1) := by decide +kernel
theorem dX0_storeDistance_7 : decode cX0_storeDistance 7 = .ok (.bipush 7, 2) := by decide +kernel
theorem dX0_storeDistance_9 : decode cX0_storeDistance 9 = .ok (.iushr, 1) := by decide +kernel
theorem dX0_storeDistance_10 : decode cX0_storeDistance 10 = .ok (.bipush 31, 2) := by decide +kernel
theorem dX0_storeDistance_12 : decode cX0_storeDistance 12 = .ok (.iand, 1) := by decide +kernel
theorem dX0_storeDistance_13 : decode cX0_storeDistance 13 = .ok (.ior, 1) := by decide +kernel
theorem dX0_storeDistance_14 : decode cX0_storeDistance 14 = .ok (.ireturn, 1) := by decide +kernel
theorem dX0_knows_0 : decode cX0_knows 0 = .ok (.iload_n 0, 1) := by decide +kernel
theorem dX0_knows_1 : decode cX0_knows 1 = .ok (.bipush 25, 2) := by decide +kernel
theorem dX0_knows_3 : decode cX0_knows 3 = .ok (.iushr, 1) := by decide +kernel
theorem dX0_knows_4 : decode cX0_knows 4 = .ok (.istore_n 1, 1) := by decide +kernel
theorem dX0_knows_5 : decode cX0_knows 5 = .ok (.iload_n 0, 1) := by decide +kernel
theorem dX0_knows_6 : decode cX0_knows 6 = .ok (.invokestatic 8, 3) := by decide +kernel
theorem dX0_knows_9 : decode cX0_knows 9 = .ok (.istore_n 2, 1) := by decide +kernel
theorem dX0_knows_10 : decode cX0_knows 10 = .ok (.iload_n 1, 1) := by decide +kernel
theorem dX0_knows_11 : decode cX0_knows 11 = .ok (.ifCond .eq 18, 3) := by decide +kernel
theorem dX0_knows_14 : decode cX0_knows 14 = .ok (.iload_n 1, 1) := by decide +kernel
theorem dX0_knows_15 : decode cX0_knows 15 = .ok (.bipush 32, 2) := by decide +kernel
theorem dX0_knows_17 : decode cX0_knows 17 = .ok (.if_icmp .ne 16, 3) := by decide +kernel
theorem dX0_knows_20 : decode cX0_knows 20 = .ok (.iload_n 2, 1) := by decide +kernel
theorem dX0_knows_21 : decode cX0_knows 21 = .ok (.ifCond .eq 8, 3) := by decide +kernel
theorem dX0_knows_24 : decode cX0_knows 24 = .ok (.iload_n 2, 1) := by decide +kernel
theorem dX0_knows_25 : decode cX0_knows 25 = .ok (.iconst 5, 1) := by decide +kernel
theorem dX0_knows_26 : decode cX0_knows 26 = .ok (.if_icmp .ne 7, 3) := by decide +kernel
theorem dX0_knows_29 : decode cX0_knows 29 = .ok (.iconst 1, 1) := by decide +kernel
theorem dX0_knows_30 : decode cX0_knows 30 = .ok (.goto 4, 3) := by decide +kernel
theorem dX0_knows_33 : decode cX0_knows 33 = .ok (.iconst 0, 1) := by decide +kernel
theorem dX0_knows_34 : decode cX0_knows 34 = .ok (.ireturn, 1) := by decide +kernel
theorem dX0_knowsShift_0 : decode cX0_knowsShift 0 = .ok (.iload_n 0, 1) := by decide +kernel
theorem dX0_knowsShift_1 : decode cX0_knowsShift 1 = .ok (.bipush 25, 2) := by decide +kernel
theorem dX0_knowsShift_3 : decode cX0_knowsShift 3 = .ok (.iushr, 1) := by decide +kernel
theorem dX0_knowsShift_4 : decode cX0_knowsShift 4 = .ok (.istore_n 1, 1) := by decide +kernel
theorem dX0_knowsShift_5 : decode cX0_knowsShift 5 = .ok (.iload_n 0, 1) := by decide +kernel
theorem dX0_knowsShift_6 : decode cX0_knowsShift 6 = .ok (.invokestatic 8, 3) := by decide +kernel
theorem dX0_knowsShift_9 : decode cX0_knowsShift 9 = .ok (.istore_n 2, 1) := by decide +kernel
theorem dX0_knowsShift_10 : decode cX0_knowsShift 10 = .ok (.iload_n 2, 1) := by decide +kernel
theorem dX0_knowsShift_11 : decode cX0_knowsShift 11 = .ok (.iconst 1, 1) := by decide +kernel
theorem dX0_knowsShift_12 : decode cX0_knowsShift 12 = .ok (.if_icmp .ne 13, 3) := by decide +kernel
theorem dX0_knowsShift_15 : decode cX0_knowsShift 15 = .ok (.iload_n 1, 1) := by decide +kernel
theorem dX0_knowsShift_16 : decode cX0_knowsShift 16 = .ok (.ifCond .ne 7, 3) := by decide +kernel
theorem dX0_knowsShift_19 : decode cX0_knowsShift 19 = .ok (.iconst 1, 1) := by decide +kernel
theorem dX0_knowsShift_20 : decode cX0_knowsShift 20 = .ok (.goto 4, 3) := by decide +kernel
theorem dX0_knowsShift_23 : decode cX0_knowsShift 23 = .ok (.iconst 0, 1) := by decide +kernel
theorem dX0_knowsShift_24 : decode cX0_knowsShift 24 = .ok (.ireturn, 1) := by decide +kernel
theorem dX0_knowsShift_25 : decode cX0_knowsShift 25 = .ok (.iload_n 2, 1) := by decide +kernel
theorem dX0_knowsShift_26 : decode cX0_knowsShift 26 = .ok (.iconst 5, 1) := by decide +kernel
theorem dX0_knowsShift_27 : decode cX0_knowsShift 27 = .ok (.if_icmp .ne 13, 3) := by decide +kernel
theorem dX0_knowsShift_30 : decode cX0_knowsShift 30 = .ok (.iload_n 1, 1) := by decide +kernel
theorem dX0_knowsShift_31 : decode cX0_knowsShift 31 = .ok (.ifCond .eq 9, 3) := by decide +kernel
theorem dX0_knowsShift_34 : decode cX0_knowsShift 34 = .ok (.iload_n 1, 1) := by decide +kernel
theorem dX0_knowsShift_35 : decode cX0_knowsShift 35 = .ok (.bipush 32, 2) := by decide +kernel
theorem dX0_knowsShift_37 : decode cX0_knowsShift 37 = .ok (.if_icmp .ne 7, 3) := by decide +kernel
theorem dX0_knowsShift_40 : decode cX0_knowsShift 40 = .ok (.iconst 1, 1) := by decide +kernel
theorem dX0_knowsShift_41 : decode cX0_knowsShift 41 = .ok (.goto 4, 3) := by decide +kernel
theorem dX0_knowsShift_44 : decode cX0_knowsShift 44 = .ok (.iconst 0, 1) := by decide +kernel
theorem dX0_knowsShift_45 : decode cX0_knowsShift 45 = .ok (.ireturn, 1) := by decide +kernel
theorem dX0_knowsBranch_0 : decode cX0_knowsBranch 0 = .ok (.iload_n 0, 1) := by decide +kernel
theorem dX0_knowsBranch_1 : decode cX0_knowsBranch 1 = .ok (.invokestatic 8, 3) := by decide +kernel
theorem dX0_knowsBranch_4 : decode cX0_knowsBranch 4 = .ok (.istore_n 1, 1) := by decide +kernel
theorem dX0_knowsBranch_5 : decode cX0_knowsBranch 5 = .ok (.iload_n 1, 1) := by decide +kernel
theorem dX0_knowsBranch_6 : decode cX0_knowsBranch 6 = .ok (.iconst 2, 1) := by decide +kernel
theorem dX0_knowsBranch_7 : decode cX0_knowsBranch 7 = .ok (.if_icmp .eq 12, 3) := by decide +kernel
theorem dX0_knowsBranch_10 : decode cX0_knowsBranch 10 = .ok (.iload_n 1, 1) := by decide +kernel
theorem dX0_knowsBranch_11 : decode cX0_knowsBranch 11 = .ok (.iconst 3, 1) := by decide +kernel
theorem dX0_knowsBranch_12 : decode cX0_knowsBranch 12 = .ok (.if_icmp .eq 7, 3) := by decide +kernel
theorem dX0_knowsBranch_15 : decode cX0_knowsBranch 15 = .ok (.iconst 1, 1) := by decide +kernel
theorem dX0_knowsBranch_16 : decode cX0_knowsBranch 16 = .ok (.goto 4, 3) := by decide +kernel
theorem dX0_knowsBranch_19 : decode cX0_knowsBranch 19 = .ok (.iconst 0, 1) := by decide +kernel
theorem dX0_knowsBranch_20 : decode cX0_knowsBranch 20 = .ok (.ireturn, 1) := by decide +kernel
theorem dX0_knowsAtomic_0 : decode cX0_knowsAtomic 0 = .ok (.iload_n 0, 1) := by decide +kernel
theorem dX0_knowsAtomic_1 : decode cX0_knowsAtomic 1 = .ok (.invokestatic 8, 3) := by decide +kernel
theorem dX0_knowsAtomic_4 : decode cX0_knowsAtomic 4 = .ok (.iconst 2, 1) := by decide +kernel
theorem dX0_knowsAtomic_5 : decode cX0_knowsAtomic 5 = .ok (.if_icmp .eq 5, 3) := by decide +kernel
theorem dX0_knowsAtomic_8 : decode cX0_knowsAtomic 8 = .ok (.iconst 0, 1) := by decide +kernel
theorem dX0_knowsAtomic_9 : decode cX0_knowsAtomic 9 = .ok (.ireturn, 1) := by decide +kernel
theorem dX0_knowsAtomic_10 : decode cX0_knowsAtomic 10 = .ok (.iload_n 0, 1) := by decide +kernel
theorem dX0_knowsAtomic_11 : decode cX0_knowsAtomic 11 = .ok (.bipush 27, 2) := by decide +kernel
theorem dX0_knowsAtomic_13 : decode cX0_knowsAtomic 13 = .ok (.iushr, 1) := by decide +kernel
theorem dX0_knowsAtomic_14 : decode cX0_knowsAtomic 14 = .ok (.istore_n 1, 1) := by decide +kernel
theorem dX0_knowsAtomic_15 : decode cX0_knowsAtomic 15 = .ok (.iload_n 1, 1) := by decide +kernel
theorem dX0_knowsAtomic_16 : decode cX0_knowsAtomic 16 = .ok (.iconst 1, 1) := by decide +kernel
theorem dX0_knowsAtomic_17 : decode cX0_knowsAtomic 17 = .ok (.if_icmp .eq 9, 3) := by decide +kernel
theorem dX0_knowsAtomic_20 : decode cX0_knowsAtomic 20 = .ok (.iload_n 1, 1) := by decide +kernel
theorem dX0_knowsAtomic_21 : decode cX0_knowsAtomic 21 = .ok (.iconst 3, 1) := by decide +kernel
theorem dX0_knowsAtomic_22 : decode cX0_knowsAtomic 22 = .ok (.iand, 1) := by decide +kernel
theorem dX0_knowsAtomic_23 : decode cX0_knowsAtomic 23 = .ok (.ifCond .ne 7, 3) := by decide +kernel
theorem dX0_knowsAtomic_26 : decode cX0_knowsAtomic 26 = .ok (.iconst 1, 1) := by decide +kernel
theorem dX0_knowsAtomic_27 : decode cX0_knowsAtomic 27 = .ok (.goto 4, 3) := by decide +kernel
theorem dX0_knowsAtomic_30 : decode cX0_knowsAtomic 30 = .ok (.iconst 0, 1) := by decide +kernel
theorem dX0_knowsAtomic_31 : decode cX0_knowsAtomic 31 = .ok (.ireturn, 1) := by decide +kernel
theorem dX0_reckon_0 : decode cX0_reckon 0 = .ok (.iload_n 0, 1) := by decide +kernel
theorem dX0_reckon_1 : decode cX0_reckon 1 = .ok (.bipush 25, 2) := by decide +kernel
theorem dX0_reckon_3 : decode cX0_reckon 3 = .ok (.iushr, 1) := by decide +kernel
theorem dX0_reckon_4 : decode cX0_reckon 4 = .ok (.bipush 32, 2) := by decide +kernel
theorem dX0_reckon_6 : decode cX0_reckon 6 = .ok (.if_icmp .ne 7, 3) := by decide +kernel
theorem dX0_reckon_9 : decode cX0_reckon 9 = .ok (.iconst 1, 1) := by decide +kernel
theorem dX0_reckon_10 : decode cX0_reckon 10 = .ok (.goto 4, 3) := by decide +kernel
theorem dX0_reckon_13 : decode cX0_reckon 13 = .ok (.iconst 0, 1) := by decide +kernel
theorem dX0_reckon_14 : decode cX0_reckon 14 = .ok (.istore_n 3, 1) := by decide +kernel
theorem dX0_reckon_15 : decode cX0_reckon 15 = .ok (.iload_n 0, 1) := by decide +kernel
theorem dX0_reckon_16 : decode cX0_reckon 16 = .ok (.invokestatic 8, 3) := by decide +kernel
theorem dX0_reckon_19 : decode cX0_reckon 19 = .ok (.tableswitch 124 0 6 #[41, 64, 71, 82, 96, 100, 120], 41) := by decide +kernel
theorem dX0_reckon_60 : decode cX0_reckon 60 = .ok (.iload_n 3, 1) := by decide +kernel
theorem dX0_reckon_61 : decode cX0_reckon 61 = .ok (.ifCond .eq 18, 3) := by decide +kernel
theorem dX0_reckon_64 : decode cX0_reckon 64 = .ok (.iload_n 0, 1) := by decide +kernel
theorem dX0_reckon_65 : decode cX0_reckon 65 = .ok (.bipush 127, 2) := by decide +kernel
theorem dX0_reckon_67 : decode cX0_reckon 67 = .ok (.iand, 1) := by decide +kernel
theorem dX0_reckon_68 : decode cX0_reckon 68 = .ok (.bipush 51, 2) := by decide +kernel
theorem dX0_reckon_70 : decode cX0_reckon 70 = .ok (.if_icmp .ne 9, 3) := by decide +kernel
theorem dX0_reckon_73 : decode cX0_reckon 73 = .ok (.iload_n 1, 1) := by decide +kernel
theorem dX0_reckon_74 : decode cX0_reckon 74 = .ok (.iload_n 2, 1) := by decide +kernel
theorem dX0_reckon_75 : decode cX0_reckon 75 = .ok (.isub, 1) := by decide +kernel
theorem dX0_reckon_76 : decode cX0_reckon 76 = .ok (.goto 6, 3) := by decide +kernel
theorem dX0_reckon_79 : decode cX0_reckon 79 = .ok (.iload_n 1, 1) := by decide +kernel
theorem dX0_reckon_80 : decode cX0_reckon 80 = .ok (.iload_n 2, 1) := by decide +kernel
theorem dX0_reckon_81 : decode cX0_reckon 81 = .ok (.iadd, 1) := by decide +kernel
theorem dX0_reckon_82 : decode cX0_reckon 82 = .ok (.ireturn, 1) := by decide +kernel
theorem dX0_reckon_83 : decode cX0_reckon 83 = .ok (.iload_n 1, 1) := by decide +kernel
theorem dX0_reckon_84 : decode cX0_reckon 84 = .ok (.iload_n 2, 1) := by decide +kernel
theorem dX0_reckon_85 : decode cX0_reckon 85 = .ok (.bipush 31, 2) := by decide +kernel
theorem dX0_reckon_87 : decode cX0_reckon 87 = .ok (.iand, 1) := by decide +kernel
theorem dX0_reckon_88 : decode cX0_reckon 88 = .ok (.ishl, 1) := by decide +kernel
theorem dX0_reckon_89 : decode cX0_reckon 89 = .ok (.ireturn, 1) := by decide +kernel
theorem dX0_reckon_90 : decode cX0_reckon 90 = .ok (.iload_n 1, 1) := by decide +kernel
theorem dX0_reckon_91 : decode cX0_reckon 91 = .ok (.iload_n 2, 1) := by decide +kernel
theorem dX0_reckon_92 : decode cX0_reckon 92 = .ok (.if_icmp .ge 7, 3) := by decide +kernel
theorem dX0_reckon_95 : decode cX0_reckon 95 = .ok (.iconst 1, 1) := by decide +kernel
theorem dX0_reckon_96 : decode cX0_reckon 96 = .ok (.goto 4, 3) := by decide +kernel
theorem dX0_reckon_99 : decode cX0_reckon 99 = .ok (.iconst 0, 1) := by decide +kernel
theorem dX0_reckon_100 : decode cX0_reckon 100 = .ok (.ireturn, 1) := by decide +kernel
theorem dX0_reckon_101 : decode cX0_reckon 101 = .ok (.iload_n 1, 1) := by decide +kernel
theorem dX0_reckon_102 : decode cX0_reckon 102 = .ok (.iload_n 2, 1) := by decide +kernel
theorem dX0_reckon_103 : decode cX0_reckon 103 = .ok (.invokestatic 14, 3) := by decide +kernel
theorem dX0_reckon_106 : decode cX0_reckon 106 = .ok (.ifCond .eq 7, 3) := by decide +kernel
theorem dX0_reckon_109 : decode cX0_reckon 109 = .ok (.iconst 1, 1) := by decide +kernel
theorem dX0_reckon_110 : decode cX0_reckon 110 = .ok (.goto 4, 3) := by decide +kernel
theorem dX0_reckon_113 : decode cX0_reckon 113 = .ok (.iconst 0, 1) := by decide +kernel
theorem dX0_reckon_114 : decode cX0_reckon 114 = .ok (.ireturn, 1) := by decide +kernel
theorem dX0_reckon_115 : decode cX0_reckon 115 = .ok (.iload_n 1, 1) := by decide +kernel
theorem dX0_reckon_116 : decode cX0_reckon 116 = .ok (.iload_n 2, 1) := by decide +kernel
theorem dX0_reckon_117 : decode cX0_reckon 117 = .ok (.ixor, 1) := by decide +kernel
theorem dX0_reckon_118 : decode cX0_reckon 118 = .ok (.ireturn, 1) := by decide +kernel
theorem dX0_reckon_119 : decode cX0_reckon 119 = .ok (.iload_n 3, 1) := by decide +kernel
theorem dX0_reckon_120 : decode cX0_reckon 120 = .ok (.ifCond .eq 12, 3) := by decide +kernel
theorem dX0_reckon_123 : decode cX0_reckon 123 = .ok (.iload_n 1, 1) := by decide +kernel
theorem dX0_reckon_124 : decode cX0_reckon 124 = .ok (.iload_n 2, 1) := by decide +kernel
theorem dX0_reckon_125 : decode cX0_reckon 125 = .ok (.bipush 31, 2) := by decide +kernel
theorem dX0_reckon_127 : decode cX0_reckon 127 = .ok (.iand, 1) := by decide +kernel
theorem dX0_reckon_128 : decode cX0_reckon 128 = .ok (.ishr, 1) := by decide +kernel
theorem dX0_reckon_129 : decode cX0_reckon 129 = .ok (.goto 9, 3) := by decide +kernel
theorem dX0_reckon_132 : decode cX0_reckon 132 = .ok (.iload_n 1, 1) := by decide +kernel
theorem dX0_reckon_133 : decode cX0_reckon 133 = .ok (.iload_n 2, 1) := by decide +kernel
theorem dX0_reckon_134 : decode cX0_reckon 134 = .ok (.bipush 31, 2) := by decide +kernel
theorem dX0_reckon_136 : decode cX0_reckon 136 = .ok (.iand, 1) := by decide +kernel
theorem dX0_reckon_137 : decode cX0_reckon 137 = .ok (.iushr, 1) := by decide +kernel
theorem dX0_reckon_138 : decode cX0_reckon 138 = .ok (.ireturn, 1) := by decide +kernel
theorem dX0_reckon_139 : decode cX0_reckon 139 = .ok (.iload_n 1, 1) := by decide +kernel
theorem dX0_reckon_140 : decode cX0_reckon 140 = .ok (.iload_n 2, 1) := by decide +kernel
theorem dX0_reckon_141 : decode cX0_reckon 141 = .ok (.ior, 1) := by decide +kernel
theorem dX0_reckon_142 : decode cX0_reckon 142 = .ok (.ireturn, 1) := by decide +kernel
theorem dX0_reckon_143 : decode cX0_reckon 143 = .ok (.iload_n 1, 1) := by decide +kernel
theorem dX0_reckon_144 : decode cX0_reckon 144 = .ok (.iload_n 2, 1) := by decide +kernel
theorem dX0_reckon_145 : decode cX0_reckon 145 = .ok (.iand, 1) := by decide +kernel
theorem dX0_reckon_146 : decode cX0_reckon 146 = .ok (.ireturn, 1) := by decide +kernel
theorem dX0_isBelow_0 : decode cX0_isBelow 0 = .ok (.iload_n 0, 1) := by decide +kernel
theorem dX0_isBelow_1 : decode cX0_isBelow 1 = .ok (.ldc 18, 2) := by decide +kernel
theorem dX0_isBelow_3 : decode cX0_isBelow 3 = .ok (.ixor, 1) := by decide +kernel
theorem dX0_isBelow_4 : decode cX0_isBelow 4 = .ok (.iload_n 1, 1) := by decide +kernel
theorem dX0_isBelow_5 : decode cX0_isBelow 5 = .ok (.ldc 18, 2) := by decide +kernel
theorem dX0_isBelow_7 : decode cX0_isBelow 7 = .ok (.ixor, 1) := by decide +kernel
theorem dX0_isBelow_8 : decode cX0_isBelow 8 = .ok (.if_icmp .ge 7, 3) := by decide +kernel
theorem dX0_isBelow_11 : decode cX0_isBelow 11 = .ok (.iconst 1, 1) := by decide +kernel
theorem dX0_isBelow_12 : decode cX0_isBelow 12 = .ok (.goto 4, 3) := by decide +kernel
theorem dX0_isBelow_15 : decode cX0_isBelow 15 = .ok (.iconst 0, 1) := by decide +kernel
theorem dX0_isBelow_16 : decode cX0_isBelow 16 = .ok (.ireturn, 1) := by decide +kernel
theorem dX0_branches_0 : decode cX0_branches 0 = .ok (.iload_n 0, 1) := by decide +kernel
theorem dX0_branches_1 : decode cX0_branches 1 = .ok (.invokestatic 8, 3) := by decide +kernel
theorem dX0_branches_4 : decode cX0_branches 4 = .ok (.tableswitch 94 0 6 #[44, 55, 94, 94, 66, 77, 88], 44) := by decide +kernel
theorem dX0_branches_48 : decode cX0_branches 48 = .ok (.iload_n 1, 1) := by decide +kernel
theorem dX0_branches_49 : decode cX0_branches 49 = .ok (.iload_n 2, 1) := by decide +kernel
theorem dX0_branches_50 : decode cX0_branches 50 = .ok (.if_icmp .ne 7, 3) := by decide +kernel
theorem dX0_branches_53 : decode cX0_branches 53 = .ok (.iconst 1, 1) := by decide +kernel
theorem dX0_branches_54 : decode cX0_branches 54 = .ok (.goto 4, 3) := by decide +kernel
theorem dX0_branches_57 : decode cX0_branches 57 = .ok (.iconst 0, 1) := by decide +kernel
theorem dX0_branches_58 : decode cX0_branches 58 = .ok (.ireturn, 1) := by decide +kernel
theorem dX0_branches_59 : decode cX0_branches 59 = .ok (.iload_n 1, 1) := by decide +kernel
theorem dX0_branches_60 : decode cX0_branches 60 = .ok (.iload_n 2, 1) := by decide +kernel
theorem dX0_branches_61 : decode cX0_branches 61 = .ok (.if_icmp .eq 7, 3) := by decide +kernel
theorem dX0_branches_64 : decode cX0_branches 64 = .ok (.iconst 1, 1) := by decide +kernel
theorem dX0_branches_65 : decode cX0_branches 65 = .ok (.goto 4, 3) := by decide +kernel
theorem dX0_branches_68 : decode cX0_branches 68 = .ok (.iconst 0, 1) := by decide +kernel
theorem dX0_branches_69 : decode cX0_branches 69 = .ok (.ireturn, 1) := by decide +kernel
theorem dX0_branches_70 : decode cX0_branches 70 = .ok (.iload_n 1, 1) := by decide +kernel
theorem dX0_branches_71 : decode cX0_branches 71 = .ok (.iload_n 2, 1) := by decide +kernel
theorem dX0_branches_72 : decode cX0_branches 72 = .ok (.if_icmp .ge 7, 3) := by decide +kernel
theorem dX0_branches_75 : decode cX0_branches 75 = .ok (.iconst 1, 1) := by decide +kernel
theorem dX0_branches_76 : decode cX0_branches 76 = .ok (.goto 4, 3) := by decide +kernel
theorem dX0_branches_79 : decode cX0_branches 79 = .ok (.iconst 0, 1) := by decide +kernel
theorem dX0_branches_80 : decode cX0_branches 80 = .ok (.ireturn, 1) := by decide +kernel
theorem dX0_branches_81 : decode cX0_branches 81 = .ok (.iload_n 1, 1) := by decide +kernel
theorem dX0_branches_82 : decode cX0_branches 82 = .ok (.iload_n 2, 1) := by decide +kernel
theorem dX0_branches_83 : decode cX0_branches 83 = .ok (.if_icmp .lt 7, 3) := by decide +kernel
theorem dX0_branches_86 : decode cX0_branches 86 = .ok (.iconst 1, 1) := by decide +kernel
theorem dX0_branches_87 : decode cX0_branches 87 = .ok (.goto 4, 3) := by decide +kernel
theorem dX0_branches_90 : decode cX0_branches 90 = .ok (.iconst 0, 1) := by decide +kernel
theorem dX0_branches_91 : decode cX0_branches 91 = .ok (.ireturn, 1) := by decide +kernel
theorem dX0_branches_92 : decode cX0_branches 92 = .ok (.iload_n 1, 1) := by decide +kernel
theorem dX0_branches_93 : decode cX0_branches 93 = .ok (.iload_n 2, 1) := by decide +kernel
theorem dX0_branches_94 : decode cX0_branches 94 = .ok (.invokestatic 14, 3) := by decide +kernel
theorem dX0_branches_97 : decode cX0_branches 97 = .ok (.ireturn, 1) := by decide +kernel
theorem dX0_branches_98 : decode cX0_branches 98 = .ok (.iload_n 1, 1) := by decide +kernel
theorem dX0_branches_99 : decode cX0_branches 99 = .ok (.iload_n 2, 1) := by decide +kernel
theorem dX0_branches_100 : decode cX0_branches 100 = .ok (.invokestatic 14, 3) := by decide +kernel
theorem dX0_branches_103 : decode cX0_branches 103 = .ok (.ifCond .ne 7, 3) := by decide +kernel
theorem dX0_branches_106 : decode cX0_branches 106 = .ok (.iconst 1, 1) := by decide +kernel
theorem dX0_branches_107 : decode cX0_branches 107 = .ok (.goto 4, 3) := by decide +kernel
theorem dX0_branches_110 : decode cX0_branches 110 = .ok (.iconst 0, 1) := by decide +kernel
theorem dX0_branches_111 : decode cX0_branches 111 = .ok (.ireturn, 1) := by decide +kernel
theorem dX0_extend_0 : decode cX0_extend 0 = .ok (.iload_n 1, 1) := by decide +kernel
theorem dX0_extend_1 : decode cX0_extend 1 = .ok (.tableswitch 66 0 5 #[39, 47, 66, 66, 55, 61], 39) := by decide +kernel
theorem dX0_extend_40 : decode cX0_extend 40 = .ok (.iload_n 0, 1) := by decide +kernel
theorem dX0_extend_41 : decode cX0_extend 41 = .ok (.bipush 24, 2) := by decide +kernel
theorem dX0_extend_43 : decode cX0_extend 43 = .ok (.ishl, 1) := by decide +kernel
theorem dX0_extend_44 : decode cX0_extend 44 = .ok (.bipush 24, 2) := by decide +kernel
theorem dX0_extend_46 : decode cX0_extend 46 = .ok (.ishr, 1) := by decide +kernel
theorem dX0_extend_47 : decode cX0_extend 47 = .ok (.ireturn, 1) := by decide +kernel
theorem dX0_extend_48 : decode cX0_extend 48 = .ok (.iload_n 0, 1) := by decide +kernel
theorem dX0_extend_49 : decode cX0_extend 49 = .ok (.bipush 16, 2) := by decide +kernel
theorem dX0_extend_51 : decode cX0_extend 51 = .ok (.ishl, 1) := by decide +kernel
theorem dX0_extend_52 : decode cX0_extend 52 = .ok (.bipush 16, 2) := by decide +kernel
theorem dX0_extend_54 : decode cX0_extend 54 = .ok (.ishr, 1) := by decide +kernel
theorem dX0_extend_55 : decode cX0_extend 55 = .ok (.ireturn, 1) := by decide +kernel
theorem dX0_extend_56 : decode cX0_extend 56 = .ok (.iload_n 0, 1) := by decide +kernel
theorem dX0_extend_57 : decode cX0_extend 57 = .ok (.sipush 255, 3) := by decide +kernel
theorem dX0_extend_60 : decode cX0_extend 60 = .ok (.iand, 1) := by decide +kernel
theorem dX0_extend_61 : decode cX0_extend 61 = .ok (.ireturn, 1) := by decide +kernel
theorem dX0_extend_62 : decode cX0_extend 62 = .ok (.iload_n 0, 1) := by decide +kernel
theorem dX0_extend_63 : decode cX0_extend 63 = .ok (.ldc 19, 2) := by decide +kernel
theorem dX0_extend_65 : decode cX0_extend 65 = .ok (.iand, 1) := by decide +kernel
theorem dX0_extend_66 : decode cX0_extend 66 = .ok (.ireturn, 1) := by decide +kernel
theorem dX0_extend_67 : decode cX0_extend 67 = .ok (.iload_n 0, 1) := by decide +kernel
theorem dX0_extend_68 : decode cX0_extend 68 = .ok (.ireturn, 1) := by decide +kernel
theorem dX0_atomic_0 : decode cX0_atomic 0 = .ok (.iload_n 0, 1) := by decide +kernel
theorem dX0_atomic_1 : decode cX0_atomic 1 = .ok (.bipush 27, 2) := by decide +kernel
theorem dX0_atomic_3 : decode cX0_atomic 3 = .ok (.iushr, 1) := by decide +kernel
theorem dX0_atomic_4 : decode cX0_atomic 4 = .ok (.tableswitch 160 0 24 #[116, 120, 160, 160, 122, 160, 160, 160, 126, 160, 160, 160, 130, 160, 160, 160, 134, 160, 160, 160, 140, 160, 160, 160, 146], 116) := by decide +kernel
theorem dX0_atomic_120 : decode cX0_atomic 120 = .ok (.iload_n 1, 1) := by decide +kernel
theorem dX0_atomic_121 : decode cX0_atomic 121 = .ok (.iload_n 2, 1) := by decide +kernel
theorem dX0_atomic_122 : decode cX0_atomic 122 = .ok (.iadd, 1) := by decide +kernel
theorem dX0_atomic_123 : decode cX0_atomic 123 = .ok (.ireturn, 1) := by decide +kernel
theorem dX0_atomic_124 : decode cX0_atomic 124 = .ok (.iload_n 2, 1) := by decide +kernel
theorem dX0_atomic_125 : decode cX0_atomic 125 = .ok (.ireturn, 1) := by decide +kernel
theorem dX0_atomic_126 : decode cX0_atomic 126 = .ok (.iload_n 1, 1) := by decide +kernel
theorem dX0_atomic_127 : decode cX0_atomic 127 = .ok (.iload_n 2, 1) := by decide +kernel
theorem dX0_atomic_128 : decode cX0_atomic 128 = .ok (.ixor, 1) := by decide +kernel
theorem dX0_atomic_129 : decode cX0_atomic 129 = .ok (.ireturn, 1) := by decide +kernel
theorem dX0_atomic_130 : decode cX0_atomic 130 = .ok (.iload_n 1, 1) := by decide +kernel
theorem dX0_atomic_131 : decode cX0_atomic 131 = .ok (.iload_n 2, 1) := by decide +kernel
theorem dX0_atomic_132 : decode cX0_atomic 132 = .ok (.ior, 1) := by decide +kernel
theorem dX0_atomic_133 : decode cX0_atomic 133 = .ok (.ireturn, 1) := by decide +kernel
theorem dX0_atomic_134 : decode cX0_atomic 134 = .ok (.iload_n 1, 1) := by decide +kernel
theorem dX0_atomic_135 : decode cX0_atomic 135 = .ok (.iload_n 2, 1) := by decide +kernel
theorem dX0_atomic_136 : decode cX0_atomic 136 = .ok (.iand, 1) := by decide +kernel
theorem dX0_atomic_137 : decode cX0_atomic 137 = .ok (.ireturn, 1) := by decide +kernel
theorem dX0_atomic_138 : decode cX0_atomic 138 = .ok (.iload_n 1, 1) := by decide +kernel
theorem dX0_atomic_139 : decode cX0_atomic 139 = .ok (.iload_n 2, 1) := by decide +kernel
theorem dX0_atomic_140 : decode cX0_atomic 140 = .ok (.invokestatic 20, 3) := by decide +kernel
theorem dX0_atomic_143 : decode cX0_atomic 143 = .ok (.ireturn, 1) := by decide +kernel
theorem dX0_atomic_144 : decode cX0_atomic 144 = .ok (.iload_n 1, 1) := by decide +kernel
theorem dX0_atomic_145 : decode cX0_atomic 145 = .ok (.iload_n 2, 1) := by decide +kernel
theorem dX0_atomic_146 : decode cX0_atomic 146 = .ok (.invokestatic 26, 3) := by decide +kernel
theorem dX0_atomic_149 : decode cX0_atomic 149 = .ok (.ireturn, 1) := by decide +kernel
theorem dX0_atomic_150 : decode cX0_atomic 150 = .ok (.iload_n 1, 1) := by decide +kernel
theorem dX0_atomic_151 : decode cX0_atomic 151 = .ok (.iload_n 2, 1) := by decide +kernel
theorem dX0_atomic_152 : decode cX0_atomic 152 = .ok (.invokestatic 14, 3) := by decide +kernel
theorem dX0_atomic_155 : decode cX0_atomic 155 = .ok (.ifCond .eq 7, 3) := by decide +kernel
theorem dX0_atomic_158 : decode cX0_atomic 158 = .ok (.iload_n 1, 1) := by decide +kernel
theorem dX0_atomic_159 : decode cX0_atomic 159 = .ok (.goto 4, 3) := by decide +kernel
theorem dX0_atomic_162 : decode cX0_atomic 162 = .ok (.iload_n 2, 1) := by decide +kernel
theorem dX0_atomic_163 : decode cX0_atomic 163 = .ok (.ireturn, 1) := by decide +kernel
theorem dX0_atomic_164 : decode cX0_atomic 164 = .ok (.iload_n 1, 1) := by decide +kernel
theorem dX0_atomic_165 : decode cX0_atomic 165 = .ok (.iload_n 2, 1) := by decide +kernel
theorem dX0_atomic_166 : decode cX0_atomic 166 = .ok (.invokestatic 14, 3) := by decide +kernel
theorem dX0_atomic_169 : decode cX0_atomic 169 = .ok (.ifCond .eq 7, 3) := by decide +kernel
theorem dX0_atomic_172 : decode cX0_atomic 172 = .ok (.iload_n 2, 1) := by decide +kernel
theorem dX0_atomic_173 : decode cX0_atomic 173 = .ok (.goto 4, 3) := by decide +kernel
theorem dX0_atomic_176 : decode cX0_atomic 176 = .ok (.iload_n 1, 1) := by decide +kernel
theorem dX0_atomic_177 : decode cX0_atomic 177 = .ok (.ireturn, 1) := by decide +kernel
theorem dX1_init_0 : decode cX1_init 0 = .ok (.aload_n 0, 1) := by decide +kernel
theorem dX1_init_1 : decode cX1_init 1 = .ok (.invokespecial 3, 3) := by decide +kernel
theorem dX1_init_4 : decode cX1_init 4 = .ok (.aload_n 0, 1) := by decide +kernel
theorem dX1_init_5 : decode cX1_init 5 = .ok (.sipush 375, 3) := by decide +kernel
theorem dX1_init_8 : decode cX1_init 8 = .ok (.newarray .int, 2) := by decide +kernel
theorem dX1_init_10 : decode cX1_init 10 = .ok (.putfield 9, 3) := by decide +kernel
theorem dX1_init_13 : decode cX1_init 13 = .ok (.aload_n 0, 1) := by decide +kernel
theorem dX1_init_14 : decode cX1_init 14 = .ok (.sipush 375, 3) := by decide +kernel
theorem dX1_init_17 : decode cX1_init 17 = .ok (.newarray .int, 2) := by decide +kernel
theorem dX1_init_19 : decode cX1_init 19 = .ok (.putfield 15, 3) := by decide +kernel
theorem dX1_init_22 : decode cX1_init 22 = .ok (.aload_n 0, 1) := by decide +kernel
theorem dX1_init_23 : decode cX1_init 23 = .ok (.sipush 375, 3) := by decide +kernel
theorem dX1_init_26 : decode cX1_init 26 = .ok (.newarray .int, 2) := by decide +kernel
theorem dX1_init_28 : decode cX1_init 28 = .ok (.putfield 18, 3) := by decide +kernel
theorem dX1_init_31 : decode cX1_init 31 = .ok (.aload_n 0, 1) := by decide +kernel
theorem dX1_init_32 : decode cX1_init 32 = .ok (.sipush 375, 3) := by decide +kernel
theorem dX1_init_35 : decode cX1_init 35 = .ok (.newarray .int, 2) := by decide +kernel
theorem dX1_init_37 : decode cX1_init 37 = .ok (.putfield 21, 3) := by decide +kernel
theorem dX1_init_40 : decode cX1_init 40 = .ok (.aload_n 0, 1) := by decide +kernel
theorem dX1_init_41 : decode cX1_init 41 = .ok (.sipush 375, 3) := by decide +kernel
theorem dX1_init_44 : decode cX1_init 44 = .ok (.newarray .int, 2) := by decide +kernel
theorem dX1_init_46 : decode cX1_init 46 = .ok (.putfield 24, 3) := by decide +kernel
theorem dX1_init_49 : decode cX1_init 49 = .ok (.aload_n 0, 1) := by decide +kernel
theorem dX1_init_50 : decode cX1_init 50 = .ok (.sipush 375, 3) := by decide +kernel
theorem dX1_init_53 : decode cX1_init 53 = .ok (.newarray .int, 2) := by decide +kernel
theorem dX1_init_55 : decode cX1_init 55 = .ok (.putfield 27, 3) := by decide +kernel
theorem dX1_init_58 : decode cX1_init 58 = .ok (.aload_n 0, 1) := by decide +kernel
theorem dX1_init_59 : decode cX1_init 59 = .ok (.sipush 375, 3) := by decide +kernel
theorem dX1_init_62 : decode cX1_init 62 = .ok (.newarray .long, 2) := by decide +kernel
theorem dX1_init_64 : decode cX1_init 64 = .ok (.putfield 30, 3) := by decide +kernel
theorem dX1_init_67 : decode cX1_init 67 = .ok (.aload_n 0, 1) := by decide +kernel
theorem dX1_init_68 : decode cX1_init 68 = .ok (.sipush 750, 3) := by decide +kernel
theorem dX1_init_71 : decode cX1_init 71 = .ok (.newarray .long, 2) := by decide +kernel
theorem dX1_init_73 : decode cX1_init 73 = .ok (.putfield 34, 3) := by decide +kernel
theorem dX1_init_76 : decode cX1_init 76 = .ok (.aload_n 0, 1) := by decide +kernel
theorem dX1_init_77 : decode cX1_init 77 = .ok (.sipush 750, 3) := by decide +kernel
theorem dX1_init_80 : decode cX1_init 80 = .ok (.newarray .int, 2) := by decide +kernel
theorem dX1_init_82 : decode cX1_init 82 = .ok (.putfield 37, 3) := by decide +kernel
theorem dX1_init_85 : decode cX1_init 85 = .ok (.aload_n 0, 1) := by decide +kernel
theorem dX1_init_86 : decode cX1_init 86 = .ok (.sipush 750, 3) := by decide +kernel
theorem dX1_init_89 : decode cX1_init 89 = .ok (.newarray .int, 2) := by decide +kernel
theorem dX1_init_91 : decode cX1_init 91 = .ok (.putfield 40, 3) := by decide +kernel
theorem dX1_init_94 : decode cX1_init 94 = .ok (.aload_n 0, 1) := by decide +kernel
theorem dX1_init_95 : decode cX1_init 95 = .ok (.bipush 16, 2) := by decide +kernel
theorem dX1_init_97 : decode cX1_init 97 = .ok (.newarray .int, 2) := by decide +kernel
theorem dX1_init_99 : decode cX1_init 99 = .ok (.putfield 43, 3) := by decide +kernel
theorem dX1_init_102 : decode cX1_init 102 = .ok (.aload_n 0, 1) := by decide +kernel
theorem dX1_init_103 : decode cX1_init 103 = .ok (.aload_n 1, 1) := by decide +kernel
theorem dX1_init_104 : decode cX1_init 104 = .ok (.putfield 46, 3) := by decide +kernel
theorem dX1_init_107 : decode cX1_init 107 = .ok (.return_, 1) := by decide +kernel
theorem dX1_translate_0 : decode cX1_translate 0 = .ok (.aload_n 0, 1) := by decide +kernel
theorem dX1_translate_1 : decode cX1_translate 1 = .ok (.iconst 0, 1) := by decide +kernel
theorem dX1_translate_2 : decode cX1_translate 2 = .ok (.putfield 50, 3) := by decide +kernel
theorem dX1_translate_5 : decode cX1_translate 5 = .ok (.aload_n 0, 1) := by decide +kernel
theorem dX1_translate_6 : decode cX1_translate 6 = .ok (.iconst 0, 1) := by decide +kernel
theorem dX1_translate_7 : decode cX1_translate 7 = .ok (.putfield 54, 3) := by decide +kernel
theorem dX1_translate_10 : decode cX1_translate 10 = .ok (.aload_n 0, 1) := by decide +kernel
theorem dX1_translate_11 : decode cX1_translate 11 = .ok (.iconst 0, 1) := by decide +kernel
theorem dX1_translate_12 : decode cX1_translate 12 = .ok (.putfield 57, 3) := by decide +kernel
theorem dX1_translate_15 : decode cX1_translate 15 = .ok (.aload_n 0, 1) := by decide +kernel
theorem dX1_translate_16 : decode cX1_translate 16 = .ok (.iconst 0, 1) := by decide +kernel
theorem dX1_translate_17 : decode cX1_translate 17 = .ok (.putfield 60, 3) := by decide +kernel
theorem dX1_translate_20 : decode cX1_translate 20 = .ok (.aload_n 0, 1) := by decide +kernel
theorem dX1_translate_21 : decode cX1_translate 21 = .ok (.iconst 0, 1) := by decide +kernel
theorem dX1_translate_22 : decode cX1_translate 22 = .ok (.putfield 63, 3) := by decide +kernel
theorem dX1_translate_25 : decode cX1_translate 25 = .ok (.aload_n 0, 1) := by decide +kernel
theorem dX1_translate_26 : decode cX1_translate 26 = .ok (.iconst 0, 1) := by decide +kernel
theorem dX1_translate_27 : decode cX1_translate 27 = .ok (.putfield 66, 3) := by decide +kernel
theorem dX1_translate_30 : decode cX1_translate 30 = .ok (.aload_n 0, 1) := by decide +kernel
theorem dX1_translate_31 : decode cX1_translate 31 = .ok (.getfield 43, 3) := by decide +kernel
theorem dX1_translate_34 : decode cX1_translate 34 = .ok (.iconst 0, 1) := by decide +kernel
theorem dX1_translate_35 : decode cX1_translate 35 = .ok (.invokestatic 69, 3) := by decide +kernel
theorem dX1_translate_38 : decode cX1_translate 38 = .ok (.aload_n 0, 1) := by decide +kernel
theorem dX1_translate_39 : decode cX1_translate 39 = .ok (.getfield 46, 3) := by decide +kernel
theorem dX1_translate_42 : decode cX1_translate 42 = .ok (.invokevirtual 75, 3) := by decide +kernel
theorem dX1_translate_45 : decode cX1_translate 45 = .ok (.sipush 1500, 3) := by decide +kernel
theorem dX1_translate_48 : decode cX1_translate 48 = .ok (.istore_n 1, 1) := by decide +kernel
theorem dX1_translate_49 : decode cX1_translate 49 = .ok (.iload_n 1, 1) := by decide +kernel
theorem dX1_translate_50 : decode cX1_translate 50 = .ok (.ifCond .le 29, 3) := by decide +kernel
theorem dX1_translate_53 : decode cX1_translate 53 = .ok (.aload_n 0, 1) := by decide +kernel
theorem dX1_translate_54 : decode cX1_translate 54 = .ok (.getfield 46, 3) := by decide +kernel
theorem dX1_translate_57 : decode cX1_translate 57 = .ok (.getfield 80, 3) := by decide +kernel
theorem dX1_translate_60 : decode cX1_translate 60 = .ok (.iconst 1, 1) := by decide +kernel
theorem dX1_translate_61 : decode cX1_translate 61 = .ok (.if_icmp .eq 18, 3) := by decide +kernel
theorem dX1_translate_64 : decode cX1_translate 64 = .ok (.aload_n 0, 1) := by decide +kernel
theorem dX1_translate_65 : decode cX1_translate 65 = .ok (.invokevirtual 83, 3) := by decide +kernel
theorem dX1_translate_68 : decode cX1_translate 68 = .ok (.ifCond .ne 5, 3) := by decide +kernel
theorem dX1_translate_71 : decode cX1_translate 71 = .ok (.iconst (-1), 1) := by decide +kernel
theorem dX1_translate_72 : decode cX1_translate 72 = .ok (.ireturn, 1) := by decide +kernel
theorem dX1_translate_73 : decode cX1_translate 73 = .ok (.iinc 1 (-1), 3) := by decide +kernel
theorem dX1_translate_76 : decode cX1_translate 76 = .ok (.goto (-27), 3) := by decide +kernel
theorem dX1_translate_79 : decode cX1_translate 79 = .ok (.aload_n 0, 1) := by decide +kernel
theorem dX1_translate_80 : decode cX1_translate 80 = .ok (.invokevirtual 87, 3) := by decide +kernel
theorem dX1_translate_83 : decode cX1_translate 83 = .ok (.iconst 0, 1) := by decide +kernel
theorem dX1_translate_84 : decode cX1_translate 84 = .ok (.istore_n 1, 1) := by decide +kernel
theorem dX1_translate_85 : decode cX1_translate 85 = .ok (.iload_n 1, 1) := by decide +kernel
theorem dX1_translate_86 : decode cX1_translate 86 = .ok (.aload_n 0, 1) := by decide +kernel
theorem dX1_translate_87 : decode cX1_translate 87 = .ok (.getfield 50, 3) := by decide +kernel
theorem dX1_translate_90 : decode cX1_translate 90 = .ok (.if_icmp .ge 14, 3) := by decide +kernel
theorem dX1_translate_93 : decode cX1_translate 93 = .ok (.aload_n 0, 1) := by decide +kernel
theorem dX1_translate_94 : decode cX1_translate 94 = .ok (.iload_n 1, 1) := by decide +kernel
theorem dX1_translate_95 : decode cX1_translate 95 = .ok (.invokevirtual 90, 3) := by decide +kernel
theorem dX1_translate_98 : decode cX1_translate 98 = .ok (.iinc 1 1, 3) := by decide +kernel
theorem dX1_translate_101 : decode cX1_translate 101 = .ok (.goto (-16), 3) := by decide +kernel
theorem dX1_translate_104 : decode cX1_translate 104 = .ok (.aload_n 0, 1) := by decide +kernel
theorem dX1_translate_105 : decode cX1_translate 105 = .ok (.getfield 60, 3) := by decide +kernel
theorem dX1_translate_108 : decode cX1_translate 108 = .ok (.ireturn, 1) := by decide +kernel
theorem dX1_readStatement_0 : decode cX1_readStatement 0 = .ok (.sipush 1500, 3) := by decide +kernel
theorem dX1_readStatement_3 : decode cX1_readStatement 3 = .ok (.istore_n 1, 1) := by decide +kernel
theorem dX1_readStatement_4 : decode cX1_readStatement 4 = .ok (.iload_n 1, 1) := by decide +kernel
theorem dX1_readStatement_5 : decode cX1_readStatement 5 = .ok (.ifCond .le 124, 3) := by decide +kernel
theorem dX1_readStatement_8 : decode cX1_readStatement 8 = .ok (.aload_n 0, 1) := by decide +kernel
theorem dX1_readStatement_9 : decode cX1_readStatement 9 = .ok (.getfield 46, 3) := by decide +kernel
theorem dX1_readStatement_12 : decode cX1_readStatement 12 = .ok (.getfield 80, 3) := by decide +kernel
theorem dX1_readStatement_15 : decode cX1_readStatement 15 = .ok (.iconst 2, 1) := by decide +kernel
theorem dX1_readStatement_16 : decode cX1_readStatement 16 = .ok (.if_icmp .ne 113, 3) := by decide +kernel
theorem dX1_readStatement_19 : decode cX1_readStatement 19 = .ok (.aload_n 0, 1) := by decide +kernel
theorem dX1_readStatement_20 : decode cX1_readStatement 20 = .ok (.getfield 46, 3) := by decide +kernel
theorem dX1_readStatement_23 : decode cX1_readStatement 23 = .ok (.getfield 94, 3) := by decide +kernel
theorem dX1_readStatement_26 : decode cX1_readStatement 26 = .ok (.lstore_n 2, 1) := by decide +kernel
theorem dX1_readStatement_27 : decode cX1_readStatement 27 = .ok (.aload_n 0, 1) := by decide +kernel
theorem dX1_readStatement_28 : decode cX1_readStatement 28 = .ok (.getfield 46, 3) := by decide +kernel
theorem dX1_readStatement_31 : decode cX1_readStatement 31 = .ok (.getfield 98, 3) := by decide +kernel
theorem dX1_readStatement_34 : decode cX1_readStatement 34 = .ok (.istore 4, 2) := by decide +kernel
theorem dX1_readStatement_36 : decode cX1_readStatement 36 = .ok (.aload_n 0, 1) := by decide +kernel
theorem dX1_readStatement_37 : decode cX1_readStatement 37 = .ok (.getfield 46, 3) := by decide +kernel
theorem dX1_readStatement_40 : decode cX1_readStatement 40 = .ok (.invokevirtual 101, 3) := by decide +kernel
theorem dX1_readStatement_43 : decode cX1_readStatement 43 = .ok (.aload_n 0, 1) := by decide +kernel
theorem dX1_readStatement_44 : decode cX1_readStatement 44 = .ok (.getfield 46, 3) := by decide +kernel
theorem dX1_readStatement_47 : decode cX1_readStatement 47 = .ok (.getfield 80, 3) := by decide +kernel
theorem dX1_readStatement_50 : decode cX1_readStatement 50 = .ok (.bipush 58, 2) := by decide +kernel
theorem dX1_readStatement_52 : decode cX1_readStatement 52 = .ok (.if_icmp .ne 20, 3) := by decide +kernel
theorem dX1_readStatement_55 : decode cX1_readStatement 55 = .ok (.aload_n 0, 1) := by decide +kernel
theorem dX1_readStatement_56 : decode cX1_readStatement 56 = .ok (.lload_n 2, 1) := by decide +kernel
theorem dX1_readStatement_57 : decode cX1_readStatement 57 = .ok (.iload 4, 2) := by decide +kernel
theorem dX1_readStatement_59 : decode cX1_readStatement 59 = .ok (.invokevirtual 104, 3) := by decide +kernel
theorem dX1_readStatement_62 : decode cX1_readStatement 62 = .ok (.aload_n 0, 1) := by decide +kernel
theorem dX1_readStatement_63 : decode cX1_readStatement 63 = .ok (.getfield 46, 3) := by decide +kernel
theorem dX1_readStatement_66 : decode cX1_readStatement 66 = .ok (.invokevirtual 101, 3) := by decide +kernel
theorem dX1_readStatement_69 : decode cX1_readStatement 69 = .ok (.goto 54, 3) := by decide +kernel
theorem dX1_readStatement_72 : decode cX1_readStatement 72 = .ok (.aload_n 0, 1) := by decide +kernel
theorem dX1_readStatement_73 : decode cX1_readStatement 73 = .ok (.getfield 46, 3) := by decide +kernel
theorem dX1_readStatement_76 : decode cX1_readStatement 76 = .ok (.getfield 80, 3) := by decide +kernel
theorem dX1_readStatement_79 : decode cX1_readStatement 79 = .ok (.ifCond .ne 15, 3) := by decide +kernel
theorem dX1_readStatement_82 : decode cX1_readStatement 82 = .ok (.aload_n 0, 1) := by decide +kernel
theorem dX1_readStatement_83 : decode cX1_readStatement 83 = .ok (.aload_n 0, 1) := by decide +kernel
theorem dX1_readStatement_84 : decode cX1_readStatement 84 = .ok (.getfield 46, 3) := by decide +kernel
theorem dX1_readStatement_87 : decode cX1_readStatement 87 = .ok (.getfield 98, 3) := by decide +kernel
theorem dX1_readStatement_90 : decode cX1_readStatement 90 = .ok (.invokevirtual 108, 3) := by decide +kernel
theorem dX1_readStatement_93 : decode cX1_readStatement 93 = .ok (.ireturn, 1) := by decide +kernel
theorem dX1_readStatement_94 : decode cX1_readStatement 94 = .ok (.lload_n 2, 1) := by decide +kernel
theorem dX1_readStatement_95 : decode cX1_readStatement 95 = .ok (.invokestatic 112, 3) := by decide +kernel
theorem dX1_readStatement_98 : decode cX1_readStatement 98 = .ok (.istore 5, 2) := by decide +kernel
theorem dX1_readStatement_100 : decode cX1_readStatement 100 = .ok (.iload 5, 2) := by decide +kernel
theorem dX1_readStatement_102 : decode cX1_readStatement 102 = .ok (.ifCond .ge 12, 3) := by decide +kernel
theorem dX1_readStatement_105 : decode cX1_readStatement 105 = .ok (.aload_n 0, 1) := by decide +kernel
theorem dX1_readStatement_106 : decode cX1_readStatement 106 = .ok (.iload 4, 2) := by decide +kernel
theorem dX1_readStatement_108 : decode cX1_readStatement 108 = .ok (.invokevirtual 108, 3) := by decide +kernel
theorem dX1_readStatement_111 : decode cX1_readStatement 111 = .ok (.goto 11, 3) := by decide +kernel
theorem dX1_readStatement_114 : decode cX1_readStatement 114 = .ok (.aload_n 0, 1) := by decide +kernel
theorem dX1_readStatement_115 : decode cX1_readStatement 115 = .ok (.iload 5, 2) := by decide +kernel
theorem dX1_readStatement_117 : decode cX1_readStatement 117 = .ok (.iload 4, 2) := by decide +kernel
theorem dX1_readStatement_119 : decode cX1_readStatement 119 = .ok (.invokevirtual 116, 3) := by decide +kernel
theorem dX1_readStatement_122 : decode cX1_readStatement 122 = .ok (.ireturn, 1) := by decide +kernel
theorem dX1_readStatement_123 : decode cX1_readStatement 123 = .ok (.iinc 1 (-1), 3) := by decide +kernel
theorem dX1_readStatement_126 : decode cX1_readStatement 126 = .ok (.goto (-122), 3) := by decide +kernel
theorem dX1_readStatement_129 : decode cX1_readStatement 129 = .ok (.aload_n 0, 1) := by decide +kernel
theorem dX1_readStatement_130 : decode cX1_readStatement 130 = .ok (.invokevirtual 120, 3) := by decide +kernel
theorem dX1_readStatement_133 : decode cX1_readStatement 133 = .ok (.ireturn, 1) := by decide +kernel
theorem dX1_refuse_0 : decode cX1_refuse 0 = .ok (.aload_n 0, 1) := by decide +kernel
theorem dX1_refuse_1 : decode cX1_refuse 1 = .ok (.iconst 1, 1) := by decide +kernel
theorem dX1_refuse_2 : decode cX1_refuse 2 = .ok (.putfield 63, 3) := by decide +kernel
theorem dX1_refuse_5 : decode cX1_refuse 5 = .ok (.aload_n 0, 1) := by decide +kernel
theorem dX1_refuse_6 : decode cX1_refuse 6 = .ok (.iload_n 1, 1) := by decide +kernel
theorem dX1_refuse_7 : decode cX1_refuse 7 = .ok (.putfield 66, 3) := by decide +kernel
theorem dX1_refuse_10 : decode cX1_refuse 10 = .ok (.iconst 0, 1) := by decide +kernel
theorem dX1_refuse_11 : decode cX1_refuse 11 = .ok (.ireturn, 1) := by decide +kernel
theorem dX1_readEnd_0 : decode cX1_readEnd 0 = .ok (.aload_n 0, 1) := by decide +kernel
theorem dX1_readEnd_1 : decode cX1_readEnd 1 = .ok (.getfield 46, 3) := by decide +kernel
theorem dX1_readEnd_4 : decode cX1_readEnd 4 = .ok (.getfield 80, 3) := by decide +kernel
theorem dX1_readEnd_7 : decode cX1_readEnd 7 = .ok (.bipush 59, 2) := by decide +kernel
theorem dX1_readEnd_9 : decode cX1_readEnd 9 = .ok (.if_icmp .eq 15, 3) := by decide +kernel
theorem dX1_readEnd_12 : decode cX1_readEnd 12 = .ok (.aload_n 0, 1) := by decide +kernel
theorem dX1_readEnd_13 : decode cX1_readEnd 13 = .ok (.aload_n 0, 1) := by decide +kernel
theorem dX1_readEnd_14 : decode cX1_readEnd 14 = .ok (.getfield 46, 3) := by decide +kernel
theorem dX1_readEnd_17 : decode cX1_readEnd 17 = .ok (.getfield 98, 3) := by decide +kernel
theorem dX1_readEnd_20 : decode cX1_readEnd 20 = .ok (.invokevirtual 108, 3) := by decide +kernel
theorem dX1_readEnd_23 : decode cX1_readEnd 23 = .ok (.ireturn, 1) := by decide +kernel
theorem dX1_readEnd_24 : decode cX1_readEnd 24 = .ok (.aload_n 0, 1) := by decide +kernel
theorem dX1_readEnd_25 : decode cX1_readEnd 25 = .ok (.getfield 46, 3) := by decide +kernel
theorem dX1_readEnd_28 : decode cX1_readEnd 28 = .ok (.invokevirtual 101, 3) := by decide +kernel
theorem dX1_readEnd_31 : decode cX1_readEnd 31 = .ok (.iconst 1, 1) := by decide +kernel
theorem dX1_readEnd_32 : decode cX1_readEnd 32 = .ok (.ireturn, 1) := by decide +kernel
theorem dX1_addLabel_0 : decode cX1_addLabel 0 = .ok (.aload_n 0, 1) := by decide +kernel
theorem dX1_addLabel_1 : decode cX1_addLabel 1 = .ok (.getfield 54, 3) := by decide +kernel
theorem dX1_addLabel_4 : decode cX1_addLabel 4 = .ok (.sipush 750, 3) := by decide +kernel
theorem dX1_addLabel_7 : decode cX1_addLabel 7 = .ok (.if_icmp .ge 46, 3) := by decide +kernel
theorem dX1_addLabel_10 : decode cX1_addLabel 10 = .ok (.aload_n 0, 1) := by decide +kernel
theorem dX1_addLabel_11 : decode cX1_addLabel 11 = .ok (.getfield 34, 3) := by decide +kernel
theorem dX1_addLabel_14 : decode cX1_addLabel 14 = .ok (.aload_n 0, 1) := by decide +kernel
theorem dX1_addLabel_15 : decode cX1_addLabel 15 = .ok (.getfield 54, 3) := by decide +kernel
theorem dX1_addLabel_18 : decode cX1_addLabel 18 = .ok (.lload_n 1, 1) := by decide +kernel
theorem dX1_addLabel_19 : decode cX1_addLabel 19 = .ok (.lastore, 1) := by decide +kernel
theorem dX1_addLabel_20 : decode cX1_addLabel 20 = .ok (.aload_n 0, 1) := by decide +kernel
theorem dX1_addLabel_21 : decode cX1_addLabel 21 = .ok (.getfield 37, 3) := by decide +kernel
theorem dX1_addLabel_24 : decode cX1_addLabel 24 = .ok (.aload_n 0, 1) := by decide +kernel
theorem dX1_addLabel_25 : decode cX1_addLabel 25 = .ok (.getfield 54, 3) := by decide +kernel
theorem dX1_addLabel_28 : decode cX1_addLabel 28 = .ok (.iload_n 3, 1) := by decide +kernel
theorem dX1_addLabel_29 : decode cX1_addLabel 29 = .ok (.iastore, 1) := by decide +kernel
theorem dX1_addLabel_30 : decode cX1_addLabel 30 = .ok (.aload_n 0, 1) := by decide +kernel
theorem dX1_addLabel_31 : decode cX1_addLabel 31 = .ok (.getfield 40, 3) := by decide +kernel
theorem dX1_addLabel_34 : decode cX1_addLabel 34 = .ok (.aload_n 0, 1) := by decide +kernel
theorem dX1_addLabel_35 : decode cX1_addLabel 35 = .ok (.getfield 54, 3) := by decide +kernel
theorem dX1_addLabel_38 : decode cX1_addLabel 38 = .ok (.aload_n 0, 1) := by decide +kernel
theorem dX1_addLabel_39 : decode cX1_addLabel 39 = .ok (.getfield 57, 3) := by decide +kernel
theorem dX1_addLabel_42 : decode cX1_addLabel 42 = .ok (.iastore, 1) := by decide +kernel
theorem dX1_addLabel_43 : decode cX1_addLabel 43 = .ok (.aload_n 0, 1) := by decide +kernel
theorem dX1_addLabel_44 : decode cX1_addLabel 44 = .ok (.dup, 1) := by decide +kernel
theorem dX1_addLabel_45 : decode cX1_addLabel 45 = .ok (.getfield 54, 3) := by decide +kernel
theorem dX1_addLabel_48 : decode cX1_addLabel 48 = .ok (.iconst 1, 1) := by decide +kernel
theorem dX1_addLabel_49 : decode cX1_addLabel 49 = .ok (.iadd, 1) := by decide +kernel
theorem dX1_addLabel_50 : decode cX1_addLabel 50 = .ok (.putfield 54, 3) := by decide +kernel
theorem dX1_addLabel_53 : decode cX1_addLabel 53 = .ok (.return_, 1) := by decide +kernel
theorem dX1_findWord_0 : decode cX1_findWord 0 = .ok (.iconst 0, 1) := by decide +kernel
theorem dX1_findWord_1 : decode cX1_findWord 1 = .ok (.istore_n 2, 1) := by decide +kernel
theorem dX1_findWord_2 : decode cX1_findWord 2 = .ok (.iload_n 2, 1) := by decide +kernel
theorem dX1_findWord_3 : decode cX1_findWord 3 = .ok (.getstatic 123, 3) := by decide +kernel
theorem dX1_findWord_6 : decode cX1_findWord 6 = .ok (.arraylength, 1) := by decide +kernel
theorem dX1_findWord_7 : decode cX1_findWord 7 = .ok (.if_icmp .ge 24, 3) := by decide +kernel
theorem dX1_findWord_10 : decode cX1_findWord 10 = .ok (.getstatic 123, 3) := by decide +kernel
theorem dX1_findWord_13 : decode cX1_findWord 13 = .ok (.iload_n 2, 1) := by decide +kernel
theorem dX1_findWord_14 : decode cX1_findWord 14 = .ok (.aaload, 1) := by decide +kernel
theorem dX1_findWord_15 : decode cX1_findWord 15 = .ok (.getfield 127, 3) := by decide +kernel
theorem dX1_findWord_18 : decode cX1_findWord 18 = .ok (.lload_n 0, 1) := by decide +kernel
theorem dX1_findWord_19 : decode cX1_findWord 19 = .ok (.lcmp, 1) := by decide +kernel
theorem dX1_findWord_20 : decode cX1_findWord 20 = .ok (.ifCond .ne 5, 3) := by decide +kernel
theorem dX1_findWord_23 : decode cX1_findWord 23 = .ok (.iload_n 2, 1) := by decide +kernel
theorem dX1_findWord_24 : decode cX1_findWord 24 = .ok (.ireturn, 1) := by decide +kernel
theorem dX1_findWord_25 : decode cX1_findWord 25 = .ok (.iinc 2 1, 3) := by decide +kernel
theorem dX1_findWord_28 : decode cX1_findWord 28 = .ok (.goto (-26), 3) := by decide +kernel
theorem dX1_findWord_31 : decode cX1_findWord 31 = .ok (.iconst (-1), 1) := by decide +kernel
theorem dX1_findWord_32 : decode cX1_findWord 32 = .ok (.ireturn, 1) := by decide +kernel
theorem dX1_readInstruction_0 : decode cX1_readInstruction 0 = .ok (.aload_n 0, 1) := by decide +kernel
theorem dX1_readInstruction_1 : decode cX1_readInstruction 1 = .ok (.getfield 50, 3) := by decide +kernel
theorem dX1_readInstruction_4 : decode cX1_readInstruction 4 = .ok (.sipush 375, 3) := by decide +kernel
theorem dX1_readInstruction_7 : decode cX1_readInstruction 7 = .ok (.if_icmp .lt 15, 3) := by decide +kernel
theorem dX1_readInstruction_10 : decode cX1_readInstruction 10 = .ok (.aload_n 0, 1) := by decide +kernel
theorem dX1_readInstruction_11 : decode cX1_readInstruction 11 = .ok (.aload_n 0, 1) := by decide +kernel
theorem dX1_readInstruction_12 : decode cX1_readInstruction 12 = .ok (.getfield 46, 3) := by decide +kernel
theorem dX1_readInstruction_15 : decode cX1_readInstruction 15 = .ok (.getfield 132, 3) := by decide +kernel
theorem dX1_readInstruction_18 : decode cX1_readInstruction 18 = .ok (.invokevirtual 108, 3) := by decide +kernel
theorem dX1_readInstruction_21 : decode cX1_readInstruction 21 = .ok (.ireturn, 1) := by decide +kernel
theorem dX1_readInstruction_22 : decode cX1_readInstruction 22 = .ok (.aload_n 0, 1) := by decide +kernel
theorem dX1_readInstruction_23 : decode cX1_readInstruction 23 = .ok (.getfield 9, 3) := by decide +kernel
theorem dX1_readInstruction_26 : decode cX1_readInstruction 26 = .ok (.aload_n 0, 1) := by decide +kernel
theorem dX1_readInstruction_27 : decode cX1_readInstruction 27 = .ok (.getfield 50, 3) := by decide +kernel
theorem dX1_readInstruction_30 : decode cX1_readInstruction 30 = .ok (.iload_n 1, 1) := by decide +kernel
theorem dX1_readInstruction_31 : decode cX1_readInstruction 31 = .ok (.iastore, 1) := by decide +kernel
theorem dX1_readInstruction_32 : decode cX1_readInstruction 32 = .ok (.aload_n 0, 1) := by decide +kernel
theorem dX1_readInstruction_33 : decode cX1_readInstruction 33 = .ok (.getfield 15, 3) := by decide +kernel
theorem dX1_readInstruction_36 : decode cX1_readInstruction 36 = .ok (.aload_n 0, 1) := by decide +kernel
theorem dX1_readInstruction_37 : decode cX1_readInstruction 37 = .ok (.getfield 50, 3) := by decide +kernel
theorem dX1_readInstruction_40 : decode cX1_readInstruction 40 = .ok (.iload_n 2, 1) := by decide +kernel
theorem dX1_readInstruction_41 : decode cX1_readInstruction 41 = .ok (.iastore, 1) := by decide +kernel
theorem dX1_readInstruction_42 : decode cX1_readInstruction 42 = .ok (.aload_n 0, 1) := by decide +kernel
theorem dX1_readInstruction_43 : decode cX1_readInstruction 43 = .ok (.getfield 21, 3) := by decide +kernel
theorem dX1_readInstruction_46 : decode cX1_readInstruction 46 = .ok (.aload_n 0, 1) := by decide +kernel
theorem dX1_readInstruction_47 : decode cX1_readInstruction 47 = .ok (.getfield 50, 3) := by decide +kernel
theorem dX1_readInstruction_50 : decode cX1_readInstruction 50 = .ok (.getstatic 123, 3) := by decide +kernel
theorem dX1_readInstruction_53 : decode cX1_readInstruction 53 = .ok (.iload_n 1, 1) := by decide +kernel
theorem dX1_readInstruction_54 : decode cX1_readInstruction 54 = .ok (.aaload, 1) := by decide +kernel
theorem dX1_readInstruction_55 : decode cX1_readInstruction 55 = .ok (.getfield 135, 3) := by decide +kernel
theorem dX1_readInstruction_58 : decode cX1_readInstruction 58 = .ok (.iastore, 1) := by decide +kernel
theorem dX1_readInstruction_59 : decode cX1_readInstruction 59 = .ok (.aload_n 0, 1) := by decide +kernel
theorem dX1_readInstruction_60 : decode cX1_readInstruction 60 = .ok (.getfield 24, 3) := by decide +kernel
theorem dX1_readInstruction_63 : decode cX1_readInstruction 63 = .ok (.aload_n 0, 1) := by decide +kernel
theorem dX1_readInstruction_64 : decode cX1_readInstruction 64 = .ok (.getfield 50, 3) := by decide +kernel
theorem dX1_readInstruction_67 : decode cX1_readInstruction 67 = .ok (.iconst 0, 1) := by decide +kernel
theorem dX1_readInstruction_68 : decode cX1_readInstruction 68 = .ok (.iastore, 1) := by decide +kernel
theorem dX1_readInstruction_69 : decode cX1_readInstruction 69 = .ok (.getstatic 123, 3) := by decide +kernel
theorem dX1_readInstruction_72 : decode cX1_readInstruction 72 = .ok (.iload_n 1, 1) := by decide +kernel
theorem dX1_readInstruction_73 : decode cX1_readInstruction 73 = .ok (.aaload, 1) := by decide +kernel
theorem dX1_readInstruction_74 : decode cX1_readInstruction 74 = .ok (.getfield 138, 3) := by decide +kernel
theorem dX1_readInstruction_77 : decode cX1_readInstruction 77 = .ok (.astore_n 3, 1) := by decide +kernel
theorem dX1_readInstruction_78 : decode cX1_readInstruction 78 = .ok (.iconst 0, 1) := by decide +kernel
theorem dX1_readInstruction_79 : decode cX1_readInstruction 79 = .ok (.istore 4, 2) := by decide +kernel
theorem dX1_readInstruction_81 : decode cX1_readInstruction 81 = .ok (.iload 4, 2) := by decide +kernel
theorem dX1_readInstruction_83 : decode cX1_readInstruction 83 = .ok (.aload_n 3, 1) := by decide +kernel
theorem dX1_readInstruction_84 : decode cX1_readInstruction 84 = .ok (.invokevirtual 142, 3) := by decide +kernel
theorem dX1_readInstruction_87 : decode cX1_readInstruction 87 = .ok (.if_icmp .ge 34, 3) := by decide +kernel
theorem dX1_readInstruction_90 : decode cX1_readInstruction 90 = .ok (.aload_n 0, 1) := by decide +kernel
theorem dX1_readInstruction_91 : decode cX1_readInstruction 91 = .ok (.aload_n 3, 1) := by decide +kernel
theorem dX1_readInstruction_92 : decode cX1_readInstruction 92 = .ok (.iload 4, 2) := by decide +kernel
theorem dX1_readInstruction_94 : decode cX1_readInstruction 94 = .ok (.invokevirtual 147, 3) := by decide +kernel
theorem dX1_readInstruction_97 : decode cX1_readInstruction 97 = .ok (.invokevirtual 151, 3) := by decide +kernel
theorem dX1_readInstruction_100 : decode cX1_readInstruction 100 = .ok (.ifCond .ne 15, 3) := by decide +kernel
theorem dX1_readInstruction_103 : decode cX1_readInstruction 103 = .ok (.aload_n 0, 1) := by decide +kernel
theorem dX1_readInstruction_104 : decode cX1_readInstruction 104 = .ok (.aload_n 0, 1) := by decide +kernel
theorem dX1_readInstruction_105 : decode cX1_readInstruction 105 = .ok (.getfield 46, 3) := by decide +kernel
theorem dX1_readInstruction_108 : decode cX1_readInstruction 108 = .ok (.getfield 98, 3) := by decide +kernel
theorem dX1_readInstruction_111 : decode cX1_readInstruction 111 = .ok (.invokevirtual 108, 3) := by decide +kernel
theorem dX1_readInstruction_114 : decode cX1_readInstruction 114 = .ok (.ireturn, 1) := by decide +kernel
theorem dX1_readInstruction_115 : decode cX1_readInstruction 115 = .ok (.iinc 4 1, 3) := by decide +kernel
theorem dX1_readInstruction_118 : decode cX1_readInstruction 118 = .ok (.goto (-37), 3) := by decide +kernel
theorem dX1_readInstruction_121 : decode cX1_readInstruction 121 = .ok (.aload_n 0, 1) := by decide +kernel
theorem dX1_readInstruction_122 : decode cX1_readInstruction 122 = .ok (.getstatic 123, 3) := by decide +kernel
theorem dX1_readInstruction_125 : decode cX1_readInstruction 125 = .ok (.iload_n 1, 1) := by decide +kernel
theorem dX1_readInstruction_126 : decode cX1_readInstruction 126 = .ok (.aaload, 1) := by decide +kernel
theorem dX1_readInstruction_127 : decode cX1_readInstruction 127 = .ok (.getfield 155, 3) := by decide +kernel
theorem dX1_readInstruction_130 : decode cX1_readInstruction 130 = .ok (.invokevirtual 158, 3) := by decide +kernel
theorem dX1_readInstruction_133 : decode cX1_readInstruction 133 = .ok (.aload_n 0, 1) := by decide +kernel
theorem dX1_readInstruction_134 : decode cX1_readInstruction 134 = .ok (.invokevirtual 120, 3) := by decide +kernel
theorem dX1_readInstruction_137 : decode cX1_readInstruction 137 = .ok (.ireturn, 1) := by decide +kernel
theorem dX1_readOperand_0 : decode cX1_readOperand 0 = .ok (.iload_n 1, 1) := by decide +kernel
theorem dX1_readOperand_1 : decode cX1_readOperand 1 = .ok (.lookupswitch 84 #[(78, 78), (97, 58), (98, 65), (100, 51), (110, 72)], 51) := by decide +kernel
theorem dX1_readOperand_52 : decode cX1_readOperand 52 = .ok (.aload_n 0, 1) := by decide +kernel
theorem dX1_readOperand_53 : decode cX1_readOperand 53 = .ok (.bipush 7, 2) := by decide +kernel
theorem dX1_readOperand_55 : decode cX1_readOperand 55 = .ok (.invokevirtual 161, 3) := by decide +kernel
theorem dX1_readOperand_58 : decode cX1_readOperand 58 = .ok (.ireturn, 1) := by decide +kernel
theorem dX1_readOperand_59 : decode cX1_readOperand 59 = .ok (.aload_n 0, 1) := by decide +kernel
theorem dX1_readOperand_60 : decode cX1_readOperand 60 = .ok (.bipush 15, 2) := by decide +kernel
theorem dX1_readOperand_62 : decode cX1_readOperand 62 = .ok (.invokevirtual 161, 3) := by decide +kernel
theorem dX1_readOperand_65 : decode cX1_readOperand 65 = .ok (.ireturn, 1) := by decide +kernel
theorem dX1_readOperand_66 : decode cX1_readOperand 66 = .ok (.aload_n 0, 1) := by decide +kernel
theorem dX1_readOperand_67 : decode cX1_readOperand 67 = .ok (.bipush 20, 2) := by decide +kernel
theorem dX1_readOperand_69 : decode cX1_readOperand 69 = .ok (.invokevirtual 161, 3) := by decide +kernel
theorem dX1_readOperand_72 : decode cX1_readOperand 72 = .ok (.ireturn, 1) := by decide +kernel
theorem dX1_readOperand_73 : decode cX1_readOperand 73 = .ok (.aload_n 0, 1) := by decide +kernel
theorem dX1_readOperand_74 : decode cX1_readOperand 74 = .ok (.iconst 0, 1) := by decide +kernel
theorem dX1_readOperand_75 : decode cX1_readOperand 75 = .ok (.invokevirtual 164, 3) := by decide +kernel
theorem dX1_readOperand_78 : decode cX1_readOperand 78 = .ok (.ireturn, 1) := by decide +kernel
theorem dX1_readOperand_79 : decode cX1_readOperand 79 = .ok (.aload_n 0, 1) := by decide +kernel
theorem dX1_readOperand_80 : decode cX1_readOperand 80 = .ok (.iconst 1, 1) := by decide +kernel
theorem dX1_readOperand_81 : decode cX1_readOperand 81 = .ok (.invokevirtual 164, 3) := by decide +kernel
theorem dX1_readOperand_84 : decode cX1_readOperand 84 = .ok (.ireturn, 1) := by decide +kernel
theorem dX1_readOperand_85 : decode cX1_readOperand 85 = .ok (.aload_n 0, 1) := by decide +kernel
theorem dX1_readOperand_86 : decode cX1_readOperand 86 = .ok (.getfield 46, 3) := by decide +kernel
theorem dX1_readOperand_89 : decode cX1_readOperand 89 = .ok (.getfield 80, 3) := by decide +kernel
theorem dX1_readOperand_92 : decode cX1_readOperand 92 = .ok (.iload_n 1, 1) := by decide +kernel
theorem dX1_readOperand_93 : decode cX1_readOperand 93 = .ok (.if_icmp .eq 5, 3) := by decide +kernel
theorem dX1_readOperand_96 : decode cX1_readOperand 96 = .ok (.iconst 0, 1) := by decide +kernel
theorem dX1_readOperand_97 : decode cX1_readOperand 97 = .ok (.ireturn, 1) := by decide +kernel
theorem dX1_readOperand_98 : decode cX1_readOperand 98 = .ok (.aload_n 0, 1) := by decide +kernel
theorem dX1_readOperand_99 : decode cX1_readOperand 99 = .ok (.getfield 46, 3) := by decide +kernel
theorem dX1_readOperand_102 : decode cX1_readOperand 102 = .ok (.invokevirtual 101, 3) := by decide +kernel
theorem dX1_readOperand_105 : decode cX1_readOperand 105 = .ok (.iconst 1, 1) := by decide +kernel
theorem dX1_readOperand_106 : decode cX1_readOperand 106 = .ok (.ireturn, 1) := by decide +kernel
theorem dX1_readRegister_0 : decode cX1_readRegister 0 = .ok (.aload_n 0, 1) := by decide +kernel
theorem dX1_readRegister_1 : decode cX1_readRegister 1 = .ok (.getfield 46, 3) := by decide +kernel
theorem dX1_readRegister_4 : decode cX1_readRegister 4 = .ok (.getfield 80, 3) := by decide +kernel
theorem dX1_readRegister_7 : decode cX1_readRegister 7 = .ok (.iconst 2, 1) := by decide +kernel
theorem dX1_readRegister_8 : decode cX1_readRegister 8 = .ok (.if_icmp .ne 16, 3) := by decide +kernel
theorem dX1_readRegister_11 : decode cX1_readRegister 11 = .ok (.aload_n 0, 1) := by decide +kernel
theorem dX1_readRegister_12 : decode cX1_readRegister 12 = .ok (.getfield 46, 3) := by decide +kernel
theorem dX1_readRegister_15 : decode cX1_readRegister 15 = .ok (.getfield 94, 3) := by decide +kernel
theorem dX1_readRegister_18 : decode cX1_readRegister 18 = .ok (.invokestatic 168, 3) := by decide +kernel
theorem dX1_readRegister_21 : decode cX1_readRegister 21 = .ok (.goto 4, 3) := by decide +kernel
theorem dX1_readRegister_24 : decode cX1_readRegister 24 = .ok (.iconst (-1), 1) := by decide +kernel
theorem dX1_readRegister_25 : decode cX1_readRegister 25 = .ok (.istore_n 2, 1) := by decide +kernel
theorem dX1_readRegister_26 : decode cX1_readRegister 26 = .ok (.iload_n 2, 1) := by decide +kernel
theorem dX1_readRegister_27 : decode cX1_readRegister 27 = .ok (.ifCond .ge 5, 3) := by decide +kernel
theorem dX1_readRegister_30 : decode cX1_readRegister 30 = .ok (.iconst 0, 1) := by decide +kernel
theorem dX1_readRegister_31 : decode cX1_readRegister 31 = .ok (.ireturn, 1) := by decide +kernel
theorem dX1_readRegister_32 : decode cX1_readRegister 32 = .ok (.aload_n 0, 1) := by decide +kernel
theorem dX1_readRegister_33 : decode cX1_readRegister 33 = .ok (.getfield 21, 3) := by decide +kernel
theorem dX1_readRegister_36 : decode cX1_readRegister 36 = .ok (.aload_n 0, 1) := by decide +kernel
theorem dX1_readRegister_37 : decode cX1_readRegister 37 = .ok (.getfield 50, 3) := by decide +kernel
theorem dX1_readRegister_40 : decode cX1_readRegister 40 = .ok (.dup2, 1) := by decide +kernel
theorem dX1_readRegister_41 : decode cX1_readRegister 41 = .ok (.iaload, 1) := by decide +kernel
theorem dX1_readRegister_42 : decode cX1_readRegister 42 = .ok (.iload_n 2, 1) := by decide +kernel
theorem dX1_readRegister_43 : decode cX1_readRegister 43 = .ok (.iload_n 1, 1) := by decide +kernel
theorem dX1_readRegister_44 : decode cX1_readRegister 44 = .ok (.ishl, 1) := by decide +kernel
theorem dX1_readRegister_45 : decode cX1_readRegister 45 = .ok (.ior, 1) := by decide +kernel
theorem dX1_readRegister_46 : decode cX1_readRegister 46 = .ok (.iastore, 1) := by decide +kernel
theorem dX1_readRegister_47 : decode cX1_readRegister 47 = .ok (.aload_n 0, 1) := by decide +kernel
theorem dX1_readRegister_48 : decode cX1_readRegister 48 = .ok (.getfield 46, 3) := by decide +kernel
theorem dX1_readRegister_51 : decode cX1_readRegister 51 = .ok (.invokevirtual 101, 3) := by decide +kernel
theorem dX1_readRegister_54 : decode cX1_readRegister 54 = .ok (.iconst 1, 1) := by decide +kernel
theorem dX1_readRegister_55 : decode cX1_readRegister 55 = .ok (.ireturn, 1) := by decide +kernel
theorem dX1_registerOf_0 : decode cX1_registerOf 0 = .ok (.lload_n 0, 1) := by decide +kernel
theorem dX1_registerOf_1 : decode cX1_registerOf 1 = .ok (.ldc2_w 171, 3) := by decide +kernel
theorem dX1_registerOf_4 : decode cX1_registerOf 4 = .ok (.land, 1) := by decide +kernel
theorem dX1_registerOf_5 : decode cX1_registerOf 5 = .ok (.l2i, 1) := by decide +kernel
theorem dX1_registerOf_6 : decode cX1_registerOf 6 = .ok (.bipush 48, 2) := by decide +kernel
theorem dX1_registerOf_8 : decode cX1_registerOf 8 = .ok (.isub, 1) := by decide +kernel
theorem dX1_registerOf_9 : decode cX1_registerOf 9 = .ok (.istore_n 2, 1) := by decide +kernel
theorem dX1_registerOf_10 : decode cX1_registerOf 10 = .ok (.lload_n 0, 1) := by decide +kernel
theorem dX1_registerOf_11 : decode cX1_registerOf 11 = .ok (.bipush 8, 2) := by decide +kernel
theorem dX1_registerOf_13 : decode cX1_registerOf 13 = .ok (.lushr, 1) := by decide +kernel
theorem dX1_registerOf_14 : decode cX1_registerOf 14 = .ok (.ldc2_w 171, 3) := by decide +kernel
theorem dX1_registerOf_17 : decode cX1_registerOf 17 = .ok (.land, 1) := by decide +kernel
theorem dX1_registerOf_18 : decode cX1_registerOf 18 = .ok (.l2i, 1) := by decide +kernel
theorem dX1_registerOf_19 : decode cX1_registerOf 19 = .ok (.bipush 48, 2) := by decide +kernel
theorem dX1_registerOf_21 : decode cX1_registerOf 21 = .ok (.isub, 1) := by decide +kernel
theorem dX1_registerOf_22 : decode cX1_registerOf 22 = .ok (.istore_n 3, 1) := by decide +kernel
theorem dX1_registerOf_23 : decode cX1_registerOf 23 = .ok (.iload_n 2, 1) := by decide +kernel
theorem dX1_registerOf_24 : decode cX1_registerOf 24 = .ok (.ifCond .lt 9, 3) := by decide +kernel
theorem dX1_registerOf_27 : decode cX1_registerOf 27 = .ok (.iload_n 2, 1) := by decide +kernel
theorem dX1_registerOf_28 : decode cX1_registerOf 28 = .ok (.bipush 9, 2) := by decide +kernel
theorem dX1_registerOf_30 : decode cX1_registerOf 30 = .ok (.if_icmp .le 5, 3) := by decide +kernel
theorem dX1_registerOf_33 : decode cX1_registerOf 33 = .ok (.iconst (-1), 1) := by decide +kernel
theorem dX1_registerOf_34 : decode cX1_registerOf 34 = .ok (.ireturn, 1) := by decide +kernel
theorem dX1_registerOf_35 : decode cX1_registerOf 35 = .ok (.lload_n 0, 1) := by decide +kernel
theorem dX1_registerOf_36 : decode cX1_registerOf 36 = .ok (.bipush 8, 2) := by decide +kernel
theorem dX1_registerOf_38 : decode cX1_registerOf 38 = .ok (.lushr, 1) := by decide +kernel
theorem dX1_registerOf_39 : decode cX1_registerOf 39 = .ok (.ldc2_w 173, 3) := by decide +kernel
theorem dX1_registerOf_42 : decode cX1_registerOf 42 = .ok (.lcmp, 1) := by decide +kernel
theorem dX1_registerOf_43 : decode cX1_registerOf 43 = .ok (.ifCond .ne 5, 3) := by decide +kernel
theorem dX1_registerOf_46 : decode cX1_registerOf 46 = .ok (.iload_n 2, 1) := by decide +kernel
theorem dX1_registerOf_47 : decode cX1_registerOf 47 = .ok (.ireturn, 1) := by decide +kernel
theorem dX1_registerOf_48 : decode cX1_registerOf 48 = .ok (.lload_n 0, 1) := by decide +kernel
theorem dX1_registerOf_49 : decode cX1_registerOf 49 = .ok (.bipush 16, 2) := by decide +kernel
theorem dX1_registerOf_51 : decode cX1_registerOf 51 = .ok (.lushr, 1) := by decide +kernel
theorem dX1_registerOf_52 : decode cX1_registerOf 52 = .ok (.ldc2_w 173, 3) := by decide +kernel
theorem dX1_registerOf_55 : decode cX1_registerOf 55 = .ok (.lcmp, 1) := by decide +kernel
theorem dX1_registerOf_56 : decode cX1_registerOf 56 = .ok (.ifCond .ne 27, 3) := by decide +kernel
theorem dX1_registerOf_59 : decode cX1_registerOf 59 = .ok (.iload_n 3, 1) := by decide +kernel
theorem dX1_registerOf_60 : decode cX1_registerOf 60 = .ok (.iconst 1, 1) := by decide +kernel
theorem dX1_registerOf_61 : decode cX1_registerOf 61 = .ok (.if_icmp .eq 18, 3) := by decide +kernel
theorem dX1_registerOf_64 : decode cX1_registerOf 64 = .ok (.iload_n 3, 1) := by decide +kernel
theorem dX1_registerOf_65 : decode cX1_registerOf 65 = .ok (.iconst 2, 1) := by decide +kernel
theorem dX1_registerOf_66 : decode cX1_registerOf 66 = .ok (.if_icmp .eq 13, 3) := by decide +kernel
theorem dX1_registerOf_69 : decode cX1_registerOf 69 = .ok (.iload_n 3, 1) := by decide +kernel
theorem dX1_registerOf_70 : decode cX1_registerOf 70 = .ok (.iconst 3, 1) := by decide +kernel
theorem dX1_registerOf_71 : decode cX1_registerOf 71 = .ok (.if_icmp .ne 12, 3) := by decide +kernel
theorem dX1_registerOf_74 : decode cX1_registerOf 74 = .ok (.iload_n 2, 1) := by decide +kernel
theorem dX1_registerOf_75 : decode cX1_registerOf 75 = .ok (.iconst 2, 1) := by decide +kernel
theorem dX1_registerOf_76 : decode cX1_registerOf 76 = .ok (.if_icmp .ge 7, 3) := by decide +kernel
theorem dX1_registerOf_79 : decode cX1_registerOf 79 = .ok (.iconst 1, 1) := by decide +kernel
theorem dX1_registerOf_80 : decode cX1_registerOf 80 = .ok (.goto 4, 3) := by decide +kernel
theorem dX1_registerOf_83 : decode cX1_registerOf 83 = .ok (.iconst 0, 1) := by decide +kernel
theorem dX1_registerOf_84 : decode cX1_registerOf 84 = .ok (.istore 4, 2) := by decide +kernel
theorem dX1_registerOf_86 : decode cX1_registerOf 86 = .ok (.iload 4, 2) := by decide +kernel
theorem dX1_registerOf_88 : decode cX1_registerOf 88 = .ok (.ifCond .eq 12, 3) := by decide +kernel
theorem dX1_registerOf_91 : decode cX1_registerOf 91 = .ok (.bipush 10, 2) := by decide +kernel
theorem dX1_registerOf_93 : decode cX1_registerOf 93 = .ok (.iload_n 3, 1) := by decide +kernel
theorem dX1_registerOf_94 : decode cX1_registerOf 94 = .ok (.imul, 1) := by decide +kernel
theorem dX1_registerOf_95 : decode cX1_registerOf 95 = .ok (.iload_n 2, 1) := by decide +kernel
theorem dX1_registerOf_96 : decode cX1_registerOf 96 = .ok (.iadd, 1) := by decide +kernel
theorem dX1_registerOf_97 : decode cX1_registerOf 97 = .ok (.goto 4, 3) := by decide +kernel
theorem dX1_registerOf_100 : decode cX1_registerOf 100 = .ok (.iconst (-1), 1) := by decide +kernel
theorem dX1_registerOf_101 : decode cX1_registerOf 101 = .ok (.ireturn, 1) := by decide +kernel
theorem dX1_readNumber_0 : decode cX1_readNumber 0 = .ok (.aload_n 0, 1) := by decide +kernel
theorem dX1_readNumber_1 : decode cX1_readNumber 1 = .ok (.getfield 27, 3) := by decide +kernel
theorem dX1_readNumber_4 : decode cX1_readNumber 4 = .ok (.aload_n 0, 1) := by decide +kernel
theorem dX1_readNumber_5 : decode cX1_readNumber 5 = .ok (.getfield 50, 3) := by decide +kernel
theorem dX1_readNumber_8 : decode cX1_readNumber 8 = .ok (.aload_n 0, 1) := by decide +kernel
theorem dX1_readNumber_9 : decode cX1_readNumber 9 = .ok (.getfield 46, 3) := by decide +kernel
theorem dX1_readNumber_12 : decode cX1_readNumber 12 = .ok (.getfield 98, 3) := by decide +kernel
theorem dX1_readNumber_15 : decode cX1_readNumber 15 = .ok (.iastore, 1) := by decide +kernel
theorem dX1_readNumber_16 : decode cX1_readNumber 16 = .ok (.iload_n 1, 1) := by decide +kernel
theorem dX1_readNumber_17 : decode cX1_readNumber 17 = .ok (.ifCond .eq 19, 3) := by decide +kernel
theorem dX1_readNumber_20 : decode cX1_readNumber 20 = .ok (.aload_n 0, 1) := by decide +kernel
theorem dX1_readNumber_21 : decode cX1_readNumber 21 = .ok (.getfield 46, 3) := by decide +kernel
theorem dX1_readNumber_24 : decode cX1_readNumber 24 = .ok (.getfield 80, 3) := by decide +kernel
theorem dX1_readNumber_27 : decode cX1_readNumber 27 = .ok (.bipush 45, 2) := by decide +kernel
theorem dX1_readNumber_29 : decode cX1_readNumber 29 = .ok (.if_icmp .ne 7, 3) := by decide +kernel
theorem dX1_readNumber_32 : decode cX1_readNumber 32 = .ok (.iconst 1, 1) := by decide +kernel
theorem dX1_readNumber_33 : decode cX1_readNumber 33 = .ok (.goto 4, 3) := by decide +kernel
theorem dX1_readNumber_36 : decode cX1_readNumber 36 = .ok (.iconst 0, 1) := by decide +kernel
theorem dX1_readNumber_37 : decode cX1_readNumber 37 = .ok (.istore_n 2, 1) := by decide +kernel
theorem dX1_readNumber_38 : decode cX1_readNumber 38 = .ok (.iload_n 2, 1) := by decide +kernel
theorem dX1_readNumber_39 : decode cX1_readNumber 39 = .ok (.ifCond .eq 10, 3) := by decide +kernel
theorem dX1_readNumber_42 : decode cX1_readNumber 42 = .ok (.aload_n 0, 1) := by decide +kernel
theorem dX1_readNumber_43 : decode cX1_readNumber 43 = .ok (.getfield 46, 3) := by decide +kernel
theorem dX1_readNumber_46 : decode cX1_readNumber 46 = .ok (.invokevirtual 101, 3) := by decide +kernel
theorem dX1_readNumber_49 : decode cX1_readNumber 49 = .ok (.aload_n 0, 1) := by decide +kernel
theorem dX1_readNumber_50 : decode cX1_readNumber 50 = .ok (.getfield 46, 3) := by decide +kernel
theorem dX1_readNumber_53 : decode cX1_readNumber 53 = .ok (.getfield 80, 3) := by decide +kernel
theorem dX1_readNumber_56 : decode cX1_readNumber 56 = .ok (.iconst 3, 1) := by decide +kernel
theorem dX1_readNumber_57 : decode cX1_readNumber 57 = .ok (.if_icmp .ne 47, 3) := by decide +kernel
theorem dX1_readNumber_60 : decode cX1_readNumber 60 = .ok (.aload_n 0, 1) := by decide +kernel
theorem dX1_readNumber_61 : decode cX1_readNumber 61 = .ok (.getfield 24, 3) := by decide +kernel
theorem dX1_readNumber_64 : decode cX1_readNumber 64 = .ok (.aload_n 0, 1) := by decide +kernel
theorem dX1_readNumber_65 : decode cX1_readNumber 65 = .ok (.getfield 50, 3) := by decide +kernel
theorem dX1_readNumber_68 : decode cX1_readNumber 68 = .ok (.iconst 1, 1) := by decide +kernel
theorem dX1_readNumber_69 : decode cX1_readNumber 69 = .ok (.iastore, 1) := by decide +kernel
theorem dX1_readNumber_70 : decode cX1_readNumber 70 = .ok (.aload_n 0, 1) := by decide +kernel
theorem dX1_readNumber_71 : decode cX1_readNumber 71 = .ok (.getfield 30, 3) := by decide +kernel
theorem dX1_readNumber_74 : decode cX1_readNumber 74 = .ok (.aload_n 0, 1) := by decide +kernel
theorem dX1_readNumber_75 : decode cX1_readNumber 75 = .ok (.getfield 50, 3) := by decide +kernel
theorem dX1_readNumber_78 : decode cX1_readNumber 78 = .ok (.iload_n 2, 1) := by decide +kernel
theorem dX1_readNumber_79 : decode cX1_readNumber 79 = .ok (.ifCond .eq 14, 3) := by decide +kernel
theorem dX1_readNumber_82 : decode cX1_readNumber 82 = .ok (.aload_n 0, 1) := by decide +kernel
theorem dX1_readNumber_83 : decode cX1_readNumber 83 = .ok (.getfield 46, 3) := by decide +kernel
theorem dX1_readNumber_86 : decode cX1_readNumber 86 = .ok (.getfield 94, 3) := by decide +kernel
theorem dX1_readNumber_89 : decode cX1_readNumber 89 = .ok (.lneg, 1) := by decide +kernel
theorem dX1_readNumber_90 : decode cX1_readNumber 90 = .ok (.goto 10, 3) := by decide +kernel
theorem dX1_readNumber_93 : decode cX1_readNumber 93 = .ok (.aload_n 0, 1) := by decide +kernel
theorem dX1_readNumber_94 : decode cX1_readNumber 94 = .ok (.getfield 46, 3) := by decide +kernel
theorem dX1_readNumber_97 : decode cX1_readNumber 97 = .ok (.getfield 94, 3) := by decide +kernel
theorem dX1_readNumber_100 : decode cX1_readNumber 100 = .ok (.lastore, 1) := by decide +kernel
theorem dX1_readNumber_101 : decode cX1_readNumber 101 = .ok (.goto 53, 3) := by decide +kernel
theorem dX1_readNumber_104 : decode cX1_readNumber 104 = .ok (.aload_n 0, 1) := by decide +kernel
theorem dX1_readNumber_105 : decode cX1_readNumber 105 = .ok (.getfield 46, 3) := by decide +kernel
theorem dX1_readNumber_108 : decode cX1_readNumber 108 = .ok (.getfield 80, 3) := by decide +kernel
theorem dX1_readNumber_111 : decode cX1_readNumber 111 = .ok (.iconst 2, 1) := by decide +kernel
theorem dX1_readNumber_112 : decode cX1_readNumber 112 = .ok (.if_icmp .ne 40, 3) := by decide +kernel
theorem dX1_readNumber_115 : decode cX1_readNumber 115 = .ok (.iload_n 1, 1) := by decide +kernel
theorem dX1_readNumber_116 : decode cX1_readNumber 116 = .ok (.ifCond .eq 36, 3) := by decide +kernel
theorem dX1_readNumber_119 : decode cX1_readNumber 119 = .ok (.iload_n 2, 1) := by decide +kernel
theorem dX1_readNumber_120 : decode cX1_readNumber 120 = .ok (.ifCond .ne 32, 3) := by decide +kernel
theorem dX1_readNumber_123 : decode cX1_readNumber 123 = .ok (.aload_n 0, 1) := by decide +kernel
theorem dX1_readNumber_124 : decode cX1_readNumber 124 = .ok (.getfield 24, 3) := by decide +kernel
theorem dX1_readNumber_127 : decode cX1_readNumber 127 = .ok (.aload_n 0, 1) := by decide +kernel
theorem dX1_readNumber_128 : decode cX1_readNumber 128 = .ok (.getfield 50, 3) := by decide +kernel
theorem dX1_readNumber_131 : decode cX1_readNumber 131 = .ok (.iconst 2, 1) := by decide +kernel
theorem dX1_readNumber_132 : decode cX1_readNumber 132 = .ok (.iastore, 1) := by decide +kernel
theorem dX1_readNumber_133 : decode cX1_readNumber 133 = .ok (.aload_n 0, 1) := by decide +kernel
theorem dX1_readNumber_134 : decode cX1_readNumber 134 = .ok (.getfield 30, 3) := by decide +kernel
theorem dX1_readNumber_137 : decode cX1_readNumber 137 = .ok (.aload_n 0, 1) := by decide +kernel
theorem dX1_readNumber_138 : decode cX1_readNumber 138 = .ok (.getfield 50, 3) := by decide +kernel
theorem dX1_readNumber_141 : decode cX1_readNumber 141 = .ok (.aload_n 0, 1) := by decide +kernel
theorem dX1_readNumber_142 : decode cX1_readNumber 142 = .ok (.getfield 46, 3) := by decide +kernel
theorem dX1_readNumber_145 : decode cX1_readNumber 145 = .ok (.getfield 94, 3) := by decide +kernel
theorem dX1_readNumber_148 : decode cX1_readNumber 148 = .ok (.lastore, 1) := by decide +kernel
theorem dX1_readNumber_149 : decode cX1_readNumber 149 = .ok (.goto 5, 3) := by decide +kernel
theorem dX1_readNumber_152 : decode cX1_readNumber 152 = .ok (.iconst 0, 1) := by decide +kernel
theorem dX1_readNumber_153 : decode cX1_readNumber 153 = .ok (.ireturn, 1) := by decide +kernel
theorem dX1_readNumber_154 : decode cX1_readNumber 154 = .ok (.aload_n 0, 1) := by decide +kernel
theorem dX1_readNumber_155 : decode cX1_readNumber 155 = .ok (.getfield 46, 3) := by decide +kernel
theorem dX1_readNumber_158 : decode cX1_readNumber 158 = .ok (.invokevirtual 101, 3) := by decide +kernel
theorem dX1_readNumber_161 : decode cX1_readNumber 161 = .ok (.iconst 1, 1) := by decide +kernel
theorem dX1_readNumber_162 : decode cX1_readNumber 162 = .ok (.ireturn, 1) := by decide +kernel
theorem dX1_layOut_0 : decode cX1_layOut 0 = .ok (.aload_n 0, 1) := by decide +kernel
theorem dX1_layOut_1 : decode cX1_layOut 1 = .ok (.getfield 18, 3) := by decide +kernel
theorem dX1_layOut_4 : decode cX1_layOut 4 = .ok (.aload_n 0, 1) := by decide +kernel
theorem dX1_layOut_5 : decode cX1_layOut 5 = .ok (.getfield 50, 3) := by decide +kernel
theorem dX1_layOut_8 : decode cX1_layOut 8 = .ok (.aload_n 0, 1) := by decide +kernel
theorem dX1_layOut_9 : decode cX1_layOut 9 = .ok (.getfield 57, 3) := by decide +kernel
theorem dX1_layOut_12 : decode cX1_layOut 12 = .ok (.iastore, 1) := by decide +kernel
theorem dX1_layOut_13 : decode cX1_layOut 13 = .ok (.aload_n 0, 1) := by decide +kernel
theorem dX1_layOut_14 : decode cX1_layOut 14 = .ok (.getfield 30, 3) := by decide +kernel
theorem dX1_layOut_17 : decode cX1_layOut 17 = .ok (.aload_n 0, 1) := by decide +kernel
theorem dX1_layOut_18 : decode cX1_layOut 18 = .ok (.getfield 50, 3) := by decide +kernel
theorem dX1_layOut_21 : decode cX1_layOut 21 = .ok (.laload, 1) := by decide +kernel
theorem dX1_layOut_22 : decode cX1_layOut 22 = .ok (.lstore_n 2, 1) := by decide +kernel
theorem dX1_layOut_23 : decode cX1_layOut 23 = .ok (.iload_n 1, 1) := by decide +kernel
theorem dX1_layOut_24 : decode cX1_layOut 24 = .ok (.bipush 9, 2) := by decide +kernel
theorem dX1_layOut_26 : decode cX1_layOut 26 = .ok (.if_icmp .ne 27, 3) := by decide +kernel
theorem dX1_layOut_29 : decode cX1_layOut 29 = .ok (.aload_n 0, 1) := by decide +kernel
theorem dX1_layOut_30 : decode cX1_layOut 30 = .ok (.bipush 9, 2) := by decide +kernel
theorem dX1_layOut_32 : decode cX1_layOut 32 = .ok (.lload_n 2, 1) := by decide +kernel
theorem dX1_layOut_33 : decode cX1_layOut 33 = .ok (.invokestatic 175, 3) := by decide +kernel
theorem dX1_layOut_36 : decode cX1_layOut 36 = .ok (.ifCond .eq 8, 3) := by decide +kernel
theorem dX1_layOut_39 : decode cX1_layOut 39 = .ok (.lload_n 2, 1) := by decide +kernel
theorem dX1_layOut_40 : decode cX1_layOut 40 = .ok (.l2i, 1) := by decide +kernel
theorem dX1_layOut_41 : decode cX1_layOut 41 = .ok (.goto 6, 3) := by decide +kernel
theorem dX1_layOut_44 : decode cX1_layOut 44 = .ok (.sipush 8192, 3) := by decide +kernel
theorem dX1_layOut_47 : decode cX1_layOut 47 = .ok (.putfield 57, 3) := by decide +kernel
theorem dX1_layOut_50 : decode cX1_layOut 50 = .ok (.goto 72, 3) := by decide +kernel
theorem dX1_layOut_53 : decode cX1_layOut 53 = .ok (.iload_n 1, 1) := by decide +kernel
theorem dX1_layOut_54 : decode cX1_layOut 54 = .ok (.bipush 10, 2) := by decide +kernel
theorem dX1_layOut_56 : decode cX1_layOut 56 = .ok (.if_icmp .ne 30, 3) := by decide +kernel
theorem dX1_layOut_59 : decode cX1_layOut 59 = .ok (.bipush 10, 2) := by decide +kernel
theorem dX1_layOut_61 : decode cX1_layOut 61 = .ok (.lload_n 2, 1) := by decide +kernel
theorem dX1_layOut_62 : decode cX1_layOut 62 = .ok (.invokestatic 175, 3) := by decide +kernel
theorem dX1_layOut_65 : decode cX1_layOut 65 = .ok (.ifCond .eq 57, 3) := by decide +kernel
theorem dX1_layOut_68 : decode cX1_layOut 68 = .ok (.aload_n 0, 1) := by decide +kernel
theorem dX1_layOut_69 : decode cX1_layOut 69 = .ok (.getfield 43, 3) := by decide +kernel
theorem dX1_layOut_72 : decode cX1_layOut 72 = .ok (.lload_n 2, 1) := by decide +kernel
theorem dX1_layOut_73 : decode cX1_layOut 73 = .ok (.l2i, 1) := by decide +kernel
theorem dX1_layOut_74 : decode cX1_layOut 74 = .ok (.aload_n 0, 1) := by decide +kernel
theorem dX1_layOut_75 : decode cX1_layOut 75 = .ok (.getfield 57, 3) := by decide +kernel
theorem dX1_layOut_78 : decode cX1_layOut 78 = .ok (.sipush 8191, 3) := by decide +kernel
theorem dX1_layOut_81 : decode cX1_layOut 81 = .ok (.iand, 1) := by decide +kernel
theorem dX1_layOut_82 : decode cX1_layOut 82 = .ok (.iastore, 1) := by decide +kernel
theorem dX1_layOut_83 : decode cX1_layOut 83 = .ok (.goto 39, 3) := by decide +kernel
theorem dX1_layOut_86 : decode cX1_layOut 86 = .ok (.aload_n 0, 1) := by decide +kernel
theorem dX1_layOut_87 : decode cX1_layOut 87 = .ok (.dup, 1) := by decide +kernel
theorem dX1_layOut_88 : decode cX1_layOut 88 = .ok (.getfield 57, 3) := by decide +kernel
theorem dX1_layOut_91 : decode cX1_layOut 91 = .ok (.iconst 4, 1) := by decide +kernel
theorem dX1_layOut_92 : decode cX1_layOut 92 = .ok (.aload_n 0, 1) := by decide +kernel
theorem dX1_layOut_93 : decode cX1_layOut 93 = .ok (.aload_n 0, 1) := by decide +kernel
theorem dX1_layOut_94 : decode cX1_layOut 94 = .ok (.getfield 50, 3) := by decide +kernel
theorem dX1_layOut_97 : decode cX1_layOut 97 = .ok (.invokevirtual 179, 3) := by decide +kernel
theorem dX1_layOut_100 : decode cX1_layOut 100 = .ok (.imul, 1) := by decide +kernel
theorem dX1_layOut_101 : decode cX1_layOut 101 = .ok (.iadd, 1) := by decide +kernel
theorem dX1_layOut_102 : decode cX1_layOut 102 = .ok (.putfield 57, 3) := by decide +kernel
theorem dX1_layOut_105 : decode cX1_layOut 105 = .ok (.aload_n 0, 1) := by decide +kernel
theorem dX1_layOut_106 : decode cX1_layOut 106 = .ok (.dup, 1) := by decide +kernel
theorem dX1_layOut_107 : decode cX1_layOut 107 = .ok (.getfield 60, 3) := by decide +kernel
theorem dX1_layOut_110 : decode cX1_layOut 110 = .ok (.aload_n 0, 1) := by decide +kernel
theorem dX1_layOut_111 : decode cX1_layOut 111 = .ok (.aload_n 0, 1) := by decide +kernel
theorem dX1_layOut_112 : decode cX1_layOut 112 = .ok (.getfield 50, 3) := by decide +kernel
theorem dX1_layOut_115 : decode cX1_layOut 115 = .ok (.invokevirtual 179, 3) := by decide +kernel
theorem dX1_layOut_118 : decode cX1_layOut 118 = .ok (.iadd, 1) := by decide +kernel
theorem dX1_layOut_119 : decode cX1_layOut 119 = .ok (.putfield 60, 3) := by decide +kernel
theorem dX1_layOut_122 : decode cX1_layOut 122 = .ok (.aload_n 0, 1) := by decide +kernel
theorem dX1_layOut_123 : decode cX1_layOut 123 = .ok (.dup, 1) := by decide +kernel
theorem dX1_layOut_124 : decode cX1_layOut 124 = .ok (.getfield 50, 3) := by decide +kernel
theorem dX1_layOut_127 : decode cX1_layOut 127 = .ok (.iconst 1, 1) := by decide +kernel
theorem dX1_layOut_128 : decode cX1_layOut 128 = .ok (.iadd, 1) := by decide +kernel
theorem dX1_layOut_129 : decode cX1_layOut 129 = .ok (.putfield 50, 3) := by decide +kernel
theorem dX1_layOut_132 : decode cX1_layOut 132 = .ok (.return_, 1) := by decide +kernel
theorem dX1_wordsOf_0 : decode cX1_wordsOf 0 = .ok (.getstatic 123, 3) := by decide +kernel
theorem dX1_wordsOf_3 : decode cX1_wordsOf 3 = .ok (.aload_n 0, 1) := by decide +kernel
theorem dX1_wordsOf_4 : decode cX1_wordsOf 4 = .ok (.getfield 9, 3) := by decide +kernel
theorem dX1_wordsOf_7 : decode cX1_wordsOf 7 = .ok (.iload_n 1, 1) := by decide +kernel
theorem dX1_wordsOf_8 : decode cX1_wordsOf 8 = .ok (.iaload, 1) := by decide +kernel
theorem dX1_wordsOf_9 : decode cX1_wordsOf 9 = .ok (.aaload, 1) := by decide +kernel
theorem dX1_wordsOf_10 : decode cX1_wordsOf 10 = .ok (.getfield 155, 3) := by decide +kernel
theorem dX1_wordsOf_13 : decode cX1_wordsOf 13 = .ok (.istore_n 2, 1) := by decide +kernel
theorem dX1_wordsOf_14 : decode cX1_wordsOf 14 = .ok (.iload_n 2, 1) := by decide +kernel
theorem dX1_wordsOf_15 : decode cX1_wordsOf 15 = .ok (.bipush 9, 2) := by decide +kernel
theorem dX1_wordsOf_17 : decode cX1_wordsOf 17 = .ok (.if_icmp .eq 9, 3) := by decide +kernel
theorem dX1_wordsOf_20 : decode cX1_wordsOf 20 = .ok (.iload_n 2, 1) := by decide +kernel
theorem dX1_wordsOf_21 : decode cX1_wordsOf 21 = .ok (.bipush 10, 2) := by decide +kernel
theorem dX1_wordsOf_23 : decode cX1_wordsOf 23 = .ok (.if_icmp .ne 5, 3) := by decide +kernel
theorem dX1_wordsOf_26 : decode cX1_wordsOf 26 = .ok (.iconst 0, 1) := by decide +kernel
theorem dX1_wordsOf_27 : decode cX1_wordsOf 27 = .ok (.ireturn, 1) := by decide +kernel
theorem dX1_wordsOf_28 : decode cX1_wordsOf 28 = .ok (.aload_n 0, 1) := by decide +kernel
theorem dX1_wordsOf_29 : decode cX1_wordsOf 29 = .ok (.getfield 24, 3) := by decide +kernel
theorem dX1_wordsOf_32 : decode cX1_wordsOf 32 = .ok (.iload_n 1, 1) := by decide +kernel
theorem dX1_wordsOf_33 : decode cX1_wordsOf 33 = .ok (.iaload, 1) := by decide +kernel
theorem dX1_wordsOf_34 : decode cX1_wordsOf 34 = .ok (.iconst 1, 1) := by decide +kernel
theorem dX1_wordsOf_35 : decode cX1_wordsOf 35 = .ok (.if_icmp .ne 20, 3) := by decide +kernel
theorem dX1_wordsOf_38 : decode cX1_wordsOf 38 = .ok (.iconst 1, 1) := by decide +kernel
theorem dX1_wordsOf_39 : decode cX1_wordsOf 39 = .ok (.aload_n 0, 1) := by decide +kernel
theorem dX1_wordsOf_40 : decode cX1_wordsOf 40 = .ok (.getfield 30, 3) := by decide +kernel
theorem dX1_wordsOf_43 : decode cX1_wordsOf 43 = .ok (.iload_n 1, 1) := by decide +kernel
theorem dX1_wordsOf_44 : decode cX1_wordsOf 44 = .ok (.laload, 1) := by decide +kernel
theorem dX1_wordsOf_45 : decode cX1_wordsOf 45 = .ok (.invokestatic 175, 3) := by decide +kernel
theorem dX1_wordsOf_48 : decode cX1_wordsOf 48 = .ok (.ifCond .eq 7, 3) := by decide +kernel
theorem dX1_wordsOf_51 : decode cX1_wordsOf 51 = .ok (.iconst 1, 1) := by decide +kernel
theorem dX1_wordsOf_52 : decode cX1_wordsOf 52 = .ok (.goto 4, 3) := by decide +kernel
theorem dX1_wordsOf_55 : decode cX1_wordsOf 55 = .ok (.iconst 0, 1) := by decide +kernel
theorem dX1_wordsOf_56 : decode cX1_wordsOf 56 = .ok (.istore_n 3, 1) := by decide +kernel
theorem dX1_wordsOf_57 : decode cX1_wordsOf 57 = .ok (.iload_n 2, 1) := by decide +kernel
theorem dX1_wordsOf_58 : decode cX1_wordsOf 58 = .ok (.bipush 7, 2) := by decide +kernel
theorem dX1_wordsOf_60 : decode cX1_wordsOf 60 = .ok (.if_icmp .ne 11, 3) := by decide +kernel
theorem dX1_wordsOf_63 : decode cX1_wordsOf 63 = .ok (.iload_n 3, 1) := by decide +kernel
theorem dX1_wordsOf_64 : decode cX1_wordsOf 64 = .ok (.ifCond .ne 7, 3) := by decide +kernel
theorem dX1_wordsOf_67 : decode cX1_wordsOf 67 = .ok (.iconst 2, 1) := by decide +kernel
theorem dX1_wordsOf_68 : decode cX1_wordsOf 68 = .ok (.goto 4, 3) := by decide +kernel
theorem dX1_wordsOf_71 : decode cX1_wordsOf 71 = .ok (.iconst 1, 1) := by decide +kernel
theorem dX1_wordsOf_72 : decode cX1_wordsOf 72 = .ok (.ireturn, 1) := by decide +kernel
theorem dX1_fits_0 : decode cX1_fits 0 = .ok (.iload_n 0, 1) := by decide +kernel
theorem dX1_fits_1 : decode cX1_fits 1 = .ok (.tableswitch 223 2 10 #[93, 223, 113, 73, 143, 51, 51, 173, 203], 51) := by decide +kernel
theorem dX1_fits_52 : decode cX1_fits 52 = .ok (.lload_n 1, 1) := by decide +kernel
theorem dX1_fits_53 : decode cX1_fits 53 = .ok (.ldc2_w 183, 3) := by decide +kernel
theorem dX1_fits_56 : decode cX1_fits 56 = .ok (.lcmp, 1) := by decide +kernel
theorem dX1_fits_57 : decode cX1_fits 57 = .ok (.ifCond .lt 15, 3) := by decide +kernel
theorem dX1_fits_60 : decode cX1_fits 60 = .ok (.lload_n 1, 1) := by decide +kernel
theorem dX1_fits_61 : decode cX1_fits 61 = .ok (.ldc2_w 185, 3) := by decide +kernel
theorem dX1_fits_64 : decode cX1_fits 64 = .ok (.lcmp, 1) := by decide +kernel
theorem dX1_fits_65 : decode cX1_fits 65 = .ok (.ifCond .gt 7, 3) := by decide +kernel
theorem dX1_fits_68 : decode cX1_fits 68 = .ok (.iconst 1, 1) := by decide +kernel
theorem dX1_fits_69 : decode cX1_fits 69 = .ok (.goto 4, 3) := by decide +kernel
theorem dX1_fits_72 : decode cX1_fits 72 = .ok (.iconst 0, 1) := by decide +kernel
theorem dX1_fits_73 : decode cX1_fits 73 = .ok (.ireturn, 1) := by decide +kernel
theorem dX1_fits_74 : decode cX1_fits 74 = .ok (.lload_n 1, 1) := by decide +kernel
theorem dX1_fits_75 : decode cX1_fits 75 = .ok (.lconst 0, 1) := by decide +kernel
theorem dX1_fits_76 : decode cX1_fits 76 = .ok (.lcmp, 1) := by decide +kernel
theorem dX1_fits_77 : decode cX1_fits 77 = .ok (.ifCond .lt 15, 3) := by decide +kernel
theorem dX1_fits_80 : decode cX1_fits 80 = .ok (.lload_n 1, 1) := by decide +kernel
theorem dX1_fits_81 : decode cX1_fits 81 = .ok (.ldc2_w 187, 3) := by decide +kernel
theorem dX1_fits_84 : decode cX1_fits 84 = .ok (.lcmp, 1) := by decide +kernel
theorem dX1_fits_85 : decode cX1_fits 85 = .ok (.ifCond .gt 7, 3) := by decide +kernel
theorem dX1_fits_88 : decode cX1_fits 88 = .ok (.iconst 1, 1) := by decide +kernel
theorem dX1_fits_89 : decode cX1_fits 89 = .ok (.goto 4, 3) := by decide +kernel
theorem dX1_fits_92 : decode cX1_fits 92 = .ok (.iconst 0, 1) := by decide +kernel
theorem dX1_fits_93 : decode cX1_fits 93 = .ok (.ireturn, 1) := by decide +kernel
theorem dX1_fits_94 : decode cX1_fits 94 = .ok (.lload_n 1, 1) := by decide +kernel
theorem dX1_fits_95 : decode cX1_fits 95 = .ok (.lconst 0, 1) := by decide +kernel
theorem dX1_fits_96 : decode cX1_fits 96 = .ok (.lcmp, 1) := by decide +kernel
theorem dX1_fits_97 : decode cX1_fits 97 = .ok (.ifCond .lt 15, 3) := by decide +kernel
theorem dX1_fits_100 : decode cX1_fits 100 = .ok (.lload_n 1, 1) := by decide +kernel
theorem dX1_fits_101 : decode cX1_fits 101 = .ok (.ldc2_w 189, 3) := by decide +kernel
theorem dX1_fits_104 : decode cX1_fits 104 = .ok (.lcmp, 1) := by decide +kernel
theorem dX1_fits_105 : decode cX1_fits 105 = .ok (.ifCond .gt 7, 3) := by decide +kernel
theorem dX1_fits_108 : decode cX1_fits 108 = .ok (.iconst 1, 1) := by decide +kernel
theorem dX1_fits_109 : decode cX1_fits 109 = .ok (.goto 4, 3) := by decide +kernel
theorem dX1_fits_112 : decode cX1_fits 112 = .ok (.iconst 0, 1) := by decide +kernel
theorem dX1_fits_113 : decode cX1_fits 113 = .ok (.ireturn, 1) := by decide +kernel
theorem dX1_fits_114 : decode cX1_fits 114 = .ok (.lload_n 1, 1) := by decide +kernel
theorem dX1_fits_115 : decode cX1_fits 115 = .ok (.ldc2_w 191, 3) := by decide +kernel
theorem dX1_fits_118 : decode cX1_fits 118 = .ok (.lcmp, 1) := by decide +kernel
theorem dX1_fits_119 : decode cX1_fits 119 = .ok (.ifCond .lt 23, 3) := by decide +kernel
theorem dX1_fits_122 : decode cX1_fits 122 = .ok (.lload_n 1, 1) := by decide +kernel
theorem dX1_fits_123 : decode cX1_fits 123 = .ok (.ldc2_w 193, 3) := by decide +kernel
theorem dX1_fits_126 : decode cX1_fits 126 = .ok (.lcmp, 1) := by decide +kernel
theorem dX1_fits_127 : decode cX1_fits 127 = .ok (.ifCond .gt 15, 3) := by decide +kernel
theorem dX1_fits_130 : decode cX1_fits 130 = .ok (.lload_n 1, 1) := by decide +kernel
theorem dX1_fits_131 : decode cX1_fits 131 = .ok (.lconst 1, 1) := by decide +kernel
theorem dX1_fits_132 : decode cX1_fits 132 = .ok (.land, 1) := by decide +kernel
theorem dX1_fits_133 : decode cX1_fits 133 = .ok (.lconst 0, 1) := by decide +kernel
theorem dX1_fits_134 : decode cX1_fits 134 = .ok (.lcmp, 1) := by decide +kernel
theorem dX1_fits_135 : decode cX1_fits 135 = .ok (.ifCond .ne 7, 3) := by decide +kernel
theorem dX1_fits_138 : decode cX1_fits 138 = .ok (.iconst 1, 1) := by decide +kernel
theorem dX1_fits_139 : decode cX1_fits 139 = .ok (.goto 4, 3) := by decide +kernel
theorem dX1_fits_142 : decode cX1_fits 142 = .ok (.iconst 0, 1) := by decide +kernel
theorem dX1_fits_143 : decode cX1_fits 143 = .ok (.ireturn, 1) := by decide +kernel
theorem dX1_fits_144 : decode cX1_fits 144 = .ok (.lload_n 1, 1) := by decide +kernel
theorem dX1_fits_145 : decode cX1_fits 145 = .ok (.ldc2_w 195, 3) := by decide +kernel
theorem dX1_fits_148 : decode cX1_fits 148 = .ok (.lcmp, 1) := by decide +kernel
theorem dX1_fits_149 : decode cX1_fits 149 = .ok (.ifCond .lt 23, 3) := by decide +kernel
theorem dX1_fits_152 : decode cX1_fits 152 = .ok (.lload_n 1, 1) := by decide +kernel
theorem dX1_fits_153 : decode cX1_fits 153 = .ok (.ldc2_w 197, 3) := by decide +kernel
theorem dX1_fits_156 : decode cX1_fits 156 = .ok (.lcmp, 1) := by decide +kernel
theorem dX1_fits_157 : decode cX1_fits 157 = .ok (.ifCond .gt 15, 3) := by decide +kernel
theorem dX1_fits_160 : decode cX1_fits 160 = .ok (.lload_n 1, 1) := by decide +kernel
theorem dX1_fits_161 : decode cX1_fits 161 = .ok (.lconst 1, 1) := by decide +kernel
theorem dX1_fits_162 : decode cX1_fits 162 = .ok (.land, 1) := by decide +kernel
theorem dX1_fits_163 : decode cX1_fits 163 = .ok (.lconst 0, 1) := by decide +kernel
theorem dX1_fits_164 : decode cX1_fits 164 = .ok (.lcmp, 1) := by decide +kernel
theorem dX1_fits_165 : decode cX1_fits 165 = .ok (.ifCond .ne 7, 3) := by decide +kernel
theorem dX1_fits_168 : decode cX1_fits 168 = .ok (.iconst 1, 1) := by decide +kernel
theorem dX1_fits_169 : decode cX1_fits 169 = .ok (.goto 4, 3) := by decide +kernel
theorem dX1_fits_172 : decode cX1_fits 172 = .ok (.iconst 0, 1) := by decide +kernel
theorem dX1_fits_173 : decode cX1_fits 173 = .ok (.ireturn, 1) := by decide +kernel
theorem dX1_fits_174 : decode cX1_fits 174 = .ok (.lload_n 1, 1) := by decide +kernel
theorem dX1_fits_175 : decode cX1_fits 175 = .ok (.lconst 0, 1) := by decide +kernel
theorem dX1_fits_176 : decode cX1_fits 176 = .ok (.lcmp, 1) := by decide +kernel
theorem dX1_fits_177 : decode cX1_fits 177 = .ok (.ifCond .lt 25, 3) := by decide +kernel
theorem dX1_fits_180 : decode cX1_fits 180 = .ok (.lload_n 1, 1) := by decide +kernel
theorem dX1_fits_181 : decode cX1_fits 181 = .ok (.ldc2_w 199, 3) := by decide +kernel
theorem dX1_fits_184 : decode cX1_fits 184 = .ok (.lcmp, 1) := by decide +kernel
theorem dX1_fits_185 : decode cX1_fits 185 = .ok (.ifCond .gt 17, 3) := by decide +kernel
theorem dX1_fits_188 : decode cX1_fits 188 = .ok (.lload_n 1, 1) := by decide +kernel
theorem dX1_fits_189 : decode cX1_fits 189 = .ok (.ldc2_w 201, 3) := by decide +kernel
theorem dX1_fits_192 : decode cX1_fits 192 = .ok (.land, 1) := by decide +kernel
theorem dX1_fits_193 : decode cX1_fits 193 = .ok (.lconst 0, 1) := by decide +kernel
theorem dX1_fits_194 : decode cX1_fits 194 = .ok (.lcmp, 1) := by decide +kernel
theorem dX1_fits_195 : decode cX1_fits 195 = .ok (.ifCond .ne 7, 3) := by decide +kernel
theorem dX1_fits_198 : decode cX1_fits 198 = .ok (.iconst 1, 1) := by decide +kernel
theorem dX1_fits_199 : decode cX1_fits 199 = .ok (.goto 4, 3) := by decide +kernel
theorem dX1_fits_202 : decode cX1_fits 202 = .ok (.iconst 0, 1) := by decide +kernel
theorem dX1_fits_203 : decode cX1_fits 203 = .ok (.ireturn, 1) := by decide +kernel
theorem dX1_fits_204 : decode cX1_fits 204 = .ok (.lload_n 1, 1) := by decide +kernel
theorem dX1_fits_205 : decode cX1_fits 205 = .ok (.lconst 0, 1) := by decide +kernel
theorem dX1_fits_206 : decode cX1_fits 206 = .ok (.lcmp, 1) := by decide +kernel
theorem dX1_fits_207 : decode cX1_fits 207 = .ok (.ifCond .lt 15, 3) := by decide +kernel
theorem dX1_fits_210 : decode cX1_fits 210 = .ok (.lload_n 1, 1) := by decide +kernel
theorem dX1_fits_211 : decode cX1_fits 211 = .ok (.ldc2_w 203, 3) := by decide +kernel
theorem dX1_fits_214 : decode cX1_fits 214 = .ok (.lcmp, 1) := by decide +kernel
theorem dX1_fits_215 : decode cX1_fits 215 = .ok (.ifCond .gt 7, 3) := by decide +kernel
theorem dX1_fits_218 : decode cX1_fits 218 = .ok (.iconst 1, 1) := by decide +kernel
theorem dX1_fits_219 : decode cX1_fits 219 = .ok (.goto 4, 3) := by decide +kernel
theorem dX1_fits_222 : decode cX1_fits 222 = .ok (.iconst 0, 1) := by decide +kernel
theorem dX1_fits_223 : decode cX1_fits 223 = .ok (.ireturn, 1) := by decide +kernel
theorem dX1_fits_224 : decode cX1_fits 224 = .ok (.lload_n 1, 1) := by decide +kernel
theorem dX1_fits_225 : decode cX1_fits 225 = .ok (.ldc2_w 205, 3) := by decide +kernel
theorem dX1_fits_228 : decode cX1_fits 228 = .ok (.lcmp, 1) := by decide +kernel
theorem dX1_fits_229 : decode cX1_fits 229 = .ok (.ifCond .lt 15, 3) := by decide +kernel
theorem dX1_fits_232 : decode cX1_fits 232 = .ok (.lload_n 1, 1) := by decide +kernel
theorem dX1_fits_233 : decode cX1_fits 233 = .ok (.ldc2_w 207, 3) := by decide +kernel
theorem dX1_fits_236 : decode cX1_fits 236 = .ok (.lcmp, 1) := by decide +kernel
theorem dX1_fits_237 : decode cX1_fits 237 = .ok (.ifCond .gt 7, 3) := by decide +kernel
theorem dX1_fits_240 : decode cX1_fits 240 = .ok (.iconst 1, 1) := by decide +kernel
theorem dX1_fits_241 : decode cX1_fits 241 = .ok (.goto 4, 3) := by decide +kernel
theorem dX1_fits_244 : decode cX1_fits 244 = .ok (.iconst 0, 1) := by decide +kernel
theorem dX1_fits_245 : decode cX1_fits 245 = .ok (.ireturn, 1) := by decide +kernel
theorem dX1_noteFault_0 : decode cX1_noteFault 0 = .ok (.iload_n 2, 1) := by decide +kernel
theorem dX1_noteFault_1 : decode cX1_noteFault 1 = .ok (.aload_n 0, 1) := by decide +kernel
theorem dX1_noteFault_2 : decode cX1_noteFault 2 = .ok (.getfield 66, 3) := by decide +kernel
theorem dX1_noteFault_5 : decode cX1_noteFault 5 = .ok (.if_icmp .lt 19, 3) := by decide +kernel
theorem dX1_noteFault_8 : decode cX1_noteFault 8 = .ok (.iload_n 2, 1) := by decide +kernel
theorem dX1_noteFault_9 : decode cX1_noteFault 9 = .ok (.aload_n 0, 1) := by decide +kernel
theorem dX1_noteFault_10 : decode cX1_noteFault 10 = .ok (.getfield 66, 3) := by decide +kernel
theorem dX1_noteFault_13 : decode cX1_noteFault 13 = .ok (.if_icmp .ne 15, 3) := by decide +kernel
theorem dX1_noteFault_16 : decode cX1_noteFault 16 = .ok (.iload_n 1, 1) := by decide +kernel
theorem dX1_noteFault_17 : decode cX1_noteFault 17 = .ok (.aload_n 0, 1) := by decide +kernel
theorem dX1_noteFault_18 : decode cX1_noteFault 18 = .ok (.getfield 63, 3) := by decide +kernel
theorem dX1_noteFault_21 : decode cX1_noteFault 21 = .ok (.if_icmp .ge 7, 3) := by decide +kernel
theorem dX1_noteFault_24 : decode cX1_noteFault 24 = .ok (.iconst 1, 1) := by decide +kernel
theorem dX1_noteFault_25 : decode cX1_noteFault 25 = .ok (.goto 4, 3) := by decide +kernel
theorem dX1_noteFault_28 : decode cX1_noteFault 28 = .ok (.iconst 0, 1) := by decide +kernel
theorem dX1_noteFault_29 : decode cX1_noteFault 29 = .ok (.istore_n 3, 1) := by decide +kernel
theorem dX1_noteFault_30 : decode cX1_noteFault 30 = .ok (.aload_n 0, 1) := by decide +kernel
theorem dX1_noteFault_31 : decode cX1_noteFault 31 = .ok (.getfield 63, 3) := by decide +kernel
theorem dX1_noteFault_34 : decode cX1_noteFault 34 = .ok (.ifCond .eq 7, 3) := by decide +kernel
theorem dX1_noteFault_37 : decode cX1_noteFault 37 = .ok (.iload_n 3, 1) := by decide +kernel
theorem dX1_noteFault_38 : decode cX1_noteFault 38 = .ok (.ifCond .eq 13, 3) := by decide +kernel
theorem dX1_noteFault_41 : decode cX1_noteFault 41 = .ok (.aload_n 0, 1) := by decide +kernel
theorem dX1_noteFault_42 : decode cX1_noteFault 42 = .ok (.iload_n 1, 1) := by decide +kernel
theorem dX1_noteFault_43 : decode cX1_noteFault 43 = .ok (.putfield 63, 3) := by decide +kernel
theorem dX1_noteFault_46 : decode cX1_noteFault 46 = .ok (.aload_n 0, 1) := by decide +kernel
theorem dX1_noteFault_47 : decode cX1_noteFault 47 = .ok (.iload_n 2, 1) := by decide +kernel
theorem dX1_noteFault_48 : decode cX1_noteFault 48 = .ok (.putfield 66, 3) := by decide +kernel
theorem dX1_noteFault_51 : decode cX1_noteFault 51 = .ok (.return_, 1) := by decide +kernel
theorem dX1_checkLabels_0 : decode cX1_checkLabels 0 = .ok (.iconst 0, 1) := by decide +kernel
theorem dX1_checkLabels_1 : decode cX1_checkLabels 1 = .ok (.istore_n 1, 1) := by decide +kernel
theorem dX1_checkLabels_2 : decode cX1_checkLabels 2 = .ok (.iload_n 1, 1) := by decide +kernel
theorem dX1_checkLabels_3 : decode cX1_checkLabels 3 = .ok (.aload_n 0, 1) := by decide +kernel
theorem dX1_checkLabels_4 : decode cX1_checkLabels 4 = .ok (.getfield 54, 3) := by decide +kernel
theorem dX1_checkLabels_7 : decode cX1_checkLabels 7 = .ok (.if_icmp .ge 34, 3) := by decide +kernel
theorem dX1_checkLabels_10 : decode cX1_checkLabels 10 = .ok (.aload_n 0, 1) := by decide +kernel
theorem dX1_checkLabels_11 : decode cX1_checkLabels 11 = .ok (.aload_n 0, 1) := by decide +kernel
theorem dX1_checkLabels_12 : decode cX1_checkLabels 12 = .ok (.getfield 34, 3) := by decide +kernel
theorem dX1_checkLabels_15 : decode cX1_checkLabels 15 = .ok (.iload_n 1, 1) := by decide +kernel
theorem dX1_checkLabels_16 : decode cX1_checkLabels 16 = .ok (.laload, 1) := by decide +kernel
theorem dX1_checkLabels_17 : decode cX1_checkLabels 17 = .ok (.invokevirtual 209, 3) := by decide +kernel
theorem dX1_checkLabels_20 : decode cX1_checkLabels 20 = .ok (.iload_n 1, 1) := by decide +kernel
theorem dX1_checkLabels_21 : decode cX1_checkLabels 21 = .ok (.if_icmp .eq 14, 3) := by decide +kernel
theorem dX1_checkLabels_24 : decode cX1_checkLabels 24 = .ok (.aload_n 0, 1) := by decide +kernel
theorem dX1_checkLabels_25 : decode cX1_checkLabels 25 = .ok (.iconst 2, 1) := by decide +kernel
theorem dX1_checkLabels_26 : decode cX1_checkLabels 26 = .ok (.aload_n 0, 1) := by decide +kernel
theorem dX1_checkLabels_27 : decode cX1_checkLabels 27 = .ok (.getfield 37, 3) := by decide +kernel
theorem dX1_checkLabels_30 : decode cX1_checkLabels 30 = .ok (.iload_n 1, 1) := by decide +kernel
theorem dX1_checkLabels_31 : decode cX1_checkLabels 31 = .ok (.iaload, 1) := by decide +kernel
theorem dX1_checkLabels_32 : decode cX1_checkLabels 32 = .ok (.invokevirtual 212, 3) := by decide +kernel
theorem dX1_checkLabels_35 : decode cX1_checkLabels 35 = .ok (.iinc 1 1, 3) := by decide +kernel
theorem dX1_checkLabels_38 : decode cX1_checkLabels 38 = .ok (.goto (-36), 3) := by decide +kernel
theorem dX1_checkLabels_41 : decode cX1_checkLabels 41 = .ok (.return_, 1) := by decide +kernel
theorem dX1_findLabel_0 : decode cX1_findLabel 0 = .ok (.iconst 0, 1) := by decide +kernel
theorem dX1_findLabel_1 : decode cX1_findLabel 1 = .ok (.istore_n 3, 1) := by decide +kernel
theorem dX1_findLabel_2 : decode cX1_findLabel 2 = .ok (.iload_n 3, 1) := by decide +kernel
theorem dX1_findLabel_3 : decode cX1_findLabel 3 = .ok (.aload_n 0, 1) := by decide +kernel
theorem dX1_findLabel_4 : decode cX1_findLabel 4 = .ok (.getfield 54, 3) := by decide +kernel
theorem dX1_findLabel_7 : decode cX1_findLabel 7 = .ok (.if_icmp .ge 22, 3) := by decide +kernel
theorem dX1_findLabel_10 : decode cX1_findLabel 10 = .ok (.aload_n 0, 1) := by decide +kernel
theorem dX1_findLabel_11 : decode cX1_findLabel 11 = .ok (.getfield 34, 3) := by decide +kernel
theorem dX1_findLabel_14 : decode cX1_findLabel 14 = .ok (.iload_n 3, 1) := by decide +kernel
theorem dX1_findLabel_15 : decode cX1_findLabel 15 = .ok (.laload, 1) := by decide +kernel
theorem dX1_findLabel_16 : decode cX1_findLabel 16 = .ok (.lload_n 1, 1) := by decide +kernel
theorem dX1_findLabel_17 : decode cX1_findLabel 17 = .ok (.lcmp, 1) := by decide +kernel
theorem dX1_findLabel_18 : decode cX1_findLabel 18 = .ok (.ifCond .ne 5, 3) := by decide +kernel
theorem dX1_findLabel_21 : decode cX1_findLabel 21 = .ok (.iload_n 3, 1) := by decide +kernel
theorem dX1_findLabel_22 : decode cX1_findLabel 22 = .ok (.ireturn, 1) := by decide +kernel
theorem dX1_findLabel_23 : decode cX1_findLabel 23 = .ok (.iinc 3 1, 3) := by decide +kernel
theorem dX1_findLabel_26 : decode cX1_findLabel 26 = .ok (.goto (-24), 3) := by decide +kernel
theorem dX1_findLabel_29 : decode cX1_findLabel 29 = .ok (.iconst (-1), 1) := by decide +kernel
theorem dX1_findLabel_30 : decode cX1_findLabel 30 = .ok (.ireturn, 1) := by decide +kernel
theorem dX1_checkItem_0 : decode cX1_checkItem 0 = .ok (.getstatic 123, 3) := by decide +kernel
theorem dX1_checkItem_3 : decode cX1_checkItem 3 = .ok (.aload_n 0, 1) := by decide +kernel
theorem dX1_checkItem_4 : decode cX1_checkItem 4 = .ok (.getfield 9, 3) := by decide +kernel
theorem dX1_checkItem_7 : decode cX1_checkItem 7 = .ok (.iload_n 1, 1) := by decide +kernel
theorem dX1_checkItem_8 : decode cX1_checkItem 8 = .ok (.iaload, 1) := by decide +kernel
theorem dX1_checkItem_9 : decode cX1_checkItem 9 = .ok (.aaload, 1) := by decide +kernel
theorem dX1_checkItem_10 : decode cX1_checkItem 10 = .ok (.getfield 155, 3) := by decide +kernel
theorem dX1_checkItem_13 : decode cX1_checkItem 13 = .ok (.istore_n 2, 1) := by decide +kernel
theorem dX1_checkItem_14 : decode cX1_checkItem 14 = .ok (.aload_n 0, 1) := by decide +kernel
theorem dX1_checkItem_15 : decode cX1_checkItem 15 = .ok (.iload_n 1, 1) := by decide +kernel
theorem dX1_checkItem_16 : decode cX1_checkItem 16 = .ok (.invokevirtual 179, 3) := by decide +kernel
theorem dX1_checkItem_19 : decode cX1_checkItem 19 = .ok (.istore_n 3, 1) := by decide +kernel
theorem dX1_checkItem_20 : decode cX1_checkItem 20 = .ok (.iload_n 3, 1) := by decide +kernel
theorem dX1_checkItem_21 : decode cX1_checkItem 21 = .ok (.ifCond .le 30, 3) := by decide +kernel
theorem dX1_checkItem_24 : decode cX1_checkItem 24 = .ok (.aload_n 0, 1) := by decide +kernel
theorem dX1_checkItem_25 : decode cX1_checkItem 25 = .ok (.getfield 18, 3) := by decide +kernel
theorem dX1_checkItem_28 : decode cX1_checkItem 28 = .ok (.iload_n 1, 1) := by decide +kernel
theorem dX1_checkItem_29 : decode cX1_checkItem 29 = .ok (.iaload, 1) := by decide +kernel
theorem dX1_checkItem_30 : decode cX1_checkItem 30 = .ok (.iconst 4, 1) := by decide +kernel
theorem dX1_checkItem_31 : decode cX1_checkItem 31 = .ok (.iload_n 3, 1) := by decide +kernel
theorem dX1_checkItem_32 : decode cX1_checkItem 32 = .ok (.imul, 1) := by decide +kernel
theorem dX1_checkItem_33 : decode cX1_checkItem 33 = .ok (.iadd, 1) := by decide +kernel
theorem dX1_checkItem_34 : decode cX1_checkItem 34 = .ok (.sipush 8192, 3) := by decide +kernel
theorem dX1_checkItem_37 : decode cX1_checkItem 37 = .ok (.if_icmp .le 14, 3) := by decide +kernel
theorem dX1_checkItem_40 : decode cX1_checkItem 40 = .ok (.aload_n 0, 1) := by decide +kernel
theorem dX1_checkItem_41 : decode cX1_checkItem 41 = .ok (.iconst 3, 1) := by decide +kernel
theorem dX1_checkItem_42 : decode cX1_checkItem 42 = .ok (.aload_n 0, 1) := by decide +kernel
theorem dX1_checkItem_43 : decode cX1_checkItem 43 = .ok (.getfield 15, 3) := by decide +kernel
theorem dX1_checkItem_46 : decode cX1_checkItem 46 = .ok (.iload_n 1, 1) := by decide +kernel
theorem dX1_checkItem_47 : decode cX1_checkItem 47 = .ok (.iaload, 1) := by decide +kernel
theorem dX1_checkItem_48 : decode cX1_checkItem 48 = .ok (.invokevirtual 212, 3) := by decide +kernel
theorem dX1_checkItem_51 : decode cX1_checkItem 51 = .ok (.aload_n 0, 1) := by decide +kernel
theorem dX1_checkItem_52 : decode cX1_checkItem 52 = .ok (.getfield 24, 3) := by decide +kernel
theorem dX1_checkItem_55 : decode cX1_checkItem 55 = .ok (.iload_n 1, 1) := by decide +kernel
theorem dX1_checkItem_56 : decode cX1_checkItem 56 = .ok (.iaload, 1) := by decide +kernel
theorem dX1_checkItem_57 : decode cX1_checkItem 57 = .ok (.ifCond .ne 4, 3) := by decide +kernel
theorem dX1_checkItem_60 : decode cX1_checkItem 60 = .ok (.return_, 1) := by decide +kernel
theorem dX1_checkItem_61 : decode cX1_checkItem 61 = .ok (.aload_n 0, 1) := by decide +kernel
theorem dX1_checkItem_62 : decode cX1_checkItem 62 = .ok (.getfield 24, 3) := by decide +kernel
theorem dX1_checkItem_65 : decode cX1_checkItem 65 = .ok (.iload_n 1, 1) := by decide +kernel
theorem dX1_checkItem_66 : decode cX1_checkItem 66 = .ok (.iaload, 1) := by decide +kernel
theorem dX1_checkItem_67 : decode cX1_checkItem 67 = .ok (.iconst 2, 1) := by decide +kernel
theorem dX1_checkItem_68 : decode cX1_checkItem 68 = .ok (.if_icmp .ne 80, 3) := by decide +kernel
theorem dX1_checkItem_71 : decode cX1_checkItem 71 = .ok (.aload_n 0, 1) := by decide +kernel
theorem dX1_checkItem_72 : decode cX1_checkItem 72 = .ok (.aload_n 0, 1) := by decide +kernel
theorem dX1_checkItem_73 : decode cX1_checkItem 73 = .ok (.getfield 30, 3) := by decide +kernel
theorem dX1_checkItem_76 : decode cX1_checkItem 76 = .ok (.iload_n 1, 1) := by decide +kernel
theorem dX1_checkItem_77 : decode cX1_checkItem 77 = .ok (.laload, 1) := by decide +kernel
theorem dX1_checkItem_78 : decode cX1_checkItem 78 = .ok (.invokevirtual 209, 3) := by decide +kernel
theorem dX1_checkItem_81 : decode cX1_checkItem 81 = .ok (.istore 4, 2) := by decide +kernel
theorem dX1_checkItem_83 : decode cX1_checkItem 83 = .ok (.iload 4, 2) := by decide +kernel
theorem dX1_checkItem_85 : decode cX1_checkItem 85 = .ok (.ifCond .ge 15, 3) := by decide +kernel
theorem dX1_checkItem_88 : decode cX1_checkItem 88 = .ok (.aload_n 0, 1) := by decide +kernel
theorem dX1_checkItem_89 : decode cX1_checkItem 89 = .ok (.iconst 2, 1) := by decide +kernel
theorem dX1_checkItem_90 : decode cX1_checkItem 90 = .ok (.aload_n 0, 1) := by decide +kernel
theorem dX1_checkItem_91 : decode cX1_checkItem 91 = .ok (.getfield 27, 3) := by decide +kernel
theorem dX1_checkItem_94 : decode cX1_checkItem 94 = .ok (.iload_n 1, 1) := by decide +kernel
theorem dX1_checkItem_95 : decode cX1_checkItem 95 = .ok (.iaload, 1) := by decide +kernel
theorem dX1_checkItem_96 : decode cX1_checkItem 96 = .ok (.invokevirtual 212, 3) := by decide +kernel
theorem dX1_checkItem_99 : decode cX1_checkItem 99 = .ok (.return_, 1) := by decide +kernel
theorem dX1_checkItem_100 : decode cX1_checkItem 100 = .ok (.iload_n 2, 1) := by decide +kernel
theorem dX1_checkItem_101 : decode cX1_checkItem 101 = .ok (.iconst 4, 1) := by decide +kernel
theorem dX1_checkItem_102 : decode cX1_checkItem 102 = .ok (.if_icmp .eq 9, 3) := by decide +kernel
theorem dX1_checkItem_105 : decode cX1_checkItem 105 = .ok (.iload_n 2, 1) := by decide +kernel
theorem dX1_checkItem_106 : decode cX1_checkItem 106 = .ok (.bipush 6, 2) := by decide +kernel
theorem dX1_checkItem_108 : decode cX1_checkItem 108 = .ok (.if_icmp .ne 7, 3) := by decide +kernel
theorem dX1_checkItem_111 : decode cX1_checkItem 111 = .ok (.iconst 1, 1) := by decide +kernel
theorem dX1_checkItem_112 : decode cX1_checkItem 112 = .ok (.goto 4, 3) := by decide +kernel
theorem dX1_checkItem_115 : decode cX1_checkItem 115 = .ok (.iconst 0, 1) := by decide +kernel
theorem dX1_checkItem_116 : decode cX1_checkItem 116 = .ok (.istore 5, 2) := by decide +kernel
theorem dX1_checkItem_118 : decode cX1_checkItem 118 = .ok (.aload_n 0, 1) := by decide +kernel
theorem dX1_checkItem_119 : decode cX1_checkItem 119 = .ok (.getfield 30, 3) := by decide +kernel
theorem dX1_checkItem_122 : decode cX1_checkItem 122 = .ok (.iload_n 1, 1) := by decide +kernel
theorem dX1_checkItem_123 : decode cX1_checkItem 123 = .ok (.aload_n 0, 1) := by decide +kernel
theorem dX1_checkItem_124 : decode cX1_checkItem 124 = .ok (.getfield 40, 3) := by decide +kernel
theorem dX1_checkItem_127 : decode cX1_checkItem 127 = .ok (.iload 4, 2) := by decide +kernel
theorem dX1_checkItem_129 : decode cX1_checkItem 129 = .ok (.iaload, 1) := by decide +kernel
theorem dX1_checkItem_130 : decode cX1_checkItem 130 = .ok (.iload 5, 2) := by decide +kernel
theorem dX1_checkItem_132 : decode cX1_checkItem 132 = .ok (.ifCond .eq 12, 3) := by decide +kernel
theorem dX1_checkItem_135 : decode cX1_checkItem 135 = .ok (.aload_n 0, 1) := by decide +kernel
theorem dX1_checkItem_136 : decode cX1_checkItem 136 = .ok (.getfield 18, 3) := by decide +kernel
theorem dX1_checkItem_139 : decode cX1_checkItem 139 = .ok (.iload_n 1, 1) := by decide +kernel
theorem dX1_checkItem_140 : decode cX1_checkItem 140 = .ok (.iaload, 1) := by decide +kernel
theorem dX1_checkItem_141 : decode cX1_checkItem 141 = .ok (.goto 4, 3) := by decide +kernel
theorem dX1_checkItem_144 : decode cX1_checkItem 144 = .ok (.iconst 0, 1) := by decide +kernel
theorem dX1_checkItem_145 : decode cX1_checkItem 145 = .ok (.isub, 1) := by decide +kernel
theorem dX1_checkItem_146 : decode cX1_checkItem 146 = .ok (.i2l, 1) := by decide +kernel
theorem dX1_checkItem_147 : decode cX1_checkItem 147 = .ok (.lastore, 1) := by decide +kernel
theorem dX1_checkItem_148 : decode cX1_checkItem 148 = .ok (.iload_n 2, 1) := by decide +kernel
theorem dX1_checkItem_149 : decode cX1_checkItem 149 = .ok (.aload_n 0, 1) := by decide +kernel
theorem dX1_checkItem_150 : decode cX1_checkItem 150 = .ok (.getfield 30, 3) := by decide +kernel
theorem dX1_checkItem_153 : decode cX1_checkItem 153 = .ok (.iload_n 1, 1) := by decide +kernel
theorem dX1_checkItem_154 : decode cX1_checkItem 154 = .ok (.laload, 1) := by decide +kernel
theorem dX1_checkItem_155 : decode cX1_checkItem 155 = .ok (.invokestatic 175, 3) := by decide +kernel
theorem dX1_checkItem_158 : decode cX1_checkItem 158 = .ok (.ifCond .ne 14, 3) := by decide +kernel
theorem dX1_checkItem_161 : decode cX1_checkItem 161 = .ok (.aload_n 0, 1) := by decide +kernel
theorem dX1_checkItem_162 : decode cX1_checkItem 162 = .ok (.iconst 3, 1) := by decide +kernel
theorem dX1_checkItem_163 : decode cX1_checkItem 163 = .ok (.aload_n 0, 1) := by decide +kernel
theorem dX1_checkItem_164 : decode cX1_checkItem 164 = .ok (.getfield 27, 3) := by decide +kernel
theorem dX1_checkItem_167 : decode cX1_checkItem 167 = .ok (.iload_n 1, 1) := by decide +kernel
theorem dX1_checkItem_168 : decode cX1_checkItem 168 = .ok (.iaload, 1) := by decide +kernel
theorem dX1_checkItem_169 : decode cX1_checkItem 169 = .ok (.invokevirtual 212, 3) := by decide +kernel
theorem dX1_checkItem_172 : decode cX1_checkItem 172 = .ok (.return_, 1) := by decide +kernel
theorem dX1_emit_0 : decode cX1_emit 0 = .ok (.iconst 0, 1) := by decide +kernel
theorem dX1_emit_1 : decode cX1_emit 1 = .ok (.istore_n 2, 1) := by decide +kernel
theorem dX1_emit_2 : decode cX1_emit 2 = .ok (.iload_n 2, 1) := by decide +kernel
theorem dX1_emit_3 : decode cX1_emit 3 = .ok (.aload_n 0, 1) := by decide +kernel
theorem dX1_emit_4 : decode cX1_emit 4 = .ok (.getfield 50, 3) := by decide +kernel
theorem dX1_emit_7 : decode cX1_emit 7 = .ok (.if_icmp .ge 77, 3) := by decide +kernel
theorem dX1_emit_10 : decode cX1_emit 10 = .ok (.aload_n 0, 1) := by decide +kernel
theorem dX1_emit_11 : decode cX1_emit 11 = .ok (.iload_n 2, 1) := by decide +kernel
theorem dX1_emit_12 : decode cX1_emit 12 = .ok (.invokevirtual 179, 3) := by decide +kernel
theorem dX1_emit_15 : decode cX1_emit 15 = .ok (.istore_n 3, 1) := by decide +kernel
theorem dX1_emit_16 : decode cX1_emit 16 = .ok (.aload_n 0, 1) := by decide +kernel
theorem dX1_emit_17 : decode cX1_emit 17 = .ok (.getfield 18, 3) := by decide +kernel
theorem dX1_emit_20 : decode cX1_emit 20 = .ok (.iload_n 2, 1) := by decide +kernel
theorem dX1_emit_21 : decode cX1_emit 21 = .ok (.iaload, 1) := by decide +kernel
theorem dX1_emit_22 : decode cX1_emit 22 = .ok (.iconst 2, 1) := by decide +kernel
theorem dX1_emit_23 : decode cX1_emit 23 = .ok (.ishr, 1) := by decide +kernel
theorem dX1_emit_24 : decode cX1_emit 24 = .ok (.istore 4, 2) := by decide +kernel
theorem dX1_emit_26 : decode cX1_emit 26 = .ok (.iload_n 3, 1) := by decide +kernel
theorem dX1_emit_27 : decode cX1_emit 27 = .ok (.ifCond .le 51, 3) := by decide +kernel
theorem dX1_emit_30 : decode cX1_emit 30 = .ok (.iload 4, 2) := by decide +kernel
theorem dX1_emit_32 : decode cX1_emit 32 = .ok (.iload_n 3, 1) := by decide +kernel
theorem dX1_emit_33 : decode cX1_emit 33 = .ok (.iadd, 1) := by decide +kernel
theorem dX1_emit_34 : decode cX1_emit 34 = .ok (.sipush 2048, 3) := by decide +kernel
theorem dX1_emit_37 : decode cX1_emit 37 = .ok (.if_icmp .gt 41, 3) := by decide +kernel
theorem dX1_emit_40 : decode cX1_emit 40 = .ok (.aload_n 1, 1) := by decide +kernel
theorem dX1_emit_41 : decode cX1_emit 41 = .ok (.iload 4, 2) := by decide +kernel
theorem dX1_emit_43 : decode cX1_emit 43 = .ok (.iload_n 3, 1) := by decide +kernel
theorem dX1_emit_44 : decode cX1_emit 44 = .ok (.iconst 2, 1) := by decide +kernel
theorem dX1_emit_45 : decode cX1_emit 45 = .ok (.if_icmp .ne 11, 3) := by decide +kernel
theorem dX1_emit_48 : decode cX1_emit 48 = .ok (.aload_n 0, 1) := by decide +kernel
theorem dX1_emit_49 : decode cX1_emit 49 = .ok (.iload_n 2, 1) := by decide +kernel
theorem dX1_emit_50 : decode cX1_emit 50 = .ok (.invokevirtual 216, 3) := by decide +kernel
theorem dX1_emit_53 : decode cX1_emit 53 = .ok (.goto 8, 3) := by decide +kernel
theorem dX1_emit_56 : decode cX1_emit 56 = .ok (.aload_n 0, 1) := by decide +kernel
theorem dX1_emit_57 : decode cX1_emit 57 = .ok (.iload_n 2, 1) := by decide +kernel
theorem dX1_emit_58 : decode cX1_emit 58 = .ok (.invokevirtual 219, 3) := by decide +kernel
theorem dX1_emit_61 : decode cX1_emit 61 = .ok (.iastore, 1) := by decide +kernel
theorem dX1_emit_62 : decode cX1_emit 62 = .ok (.iload_n 3, 1) := by decide +kernel
theorem dX1_emit_63 : decode cX1_emit 63 = .ok (.iconst 2, 1) := by decide +kernel
theorem dX1_emit_64 : decode cX1_emit 64 = .ok (.if_icmp .ne 14, 3) := by decide +kernel
theorem dX1_emit_67 : decode cX1_emit 67 = .ok (.aload_n 1, 1) := by decide +kernel
theorem dX1_emit_68 : decode cX1_emit 68 = .ok (.iload 4, 2) := by decide +kernel
theorem dX1_emit_70 : decode cX1_emit 70 = .ok (.iconst 1, 1) := by decide +kernel
theorem dX1_emit_71 : decode cX1_emit 71 = .ok (.iadd, 1) := by decide +kernel
theorem dX1_emit_72 : decode cX1_emit 72 = .ok (.aload_n 0, 1) := by decide +kernel
theorem dX1_emit_73 : decode cX1_emit 73 = .ok (.iload_n 2, 1) := by decide +kernel
theorem dX1_emit_74 : decode cX1_emit 74 = .ok (.invokevirtual 222, 3) := by decide +kernel
theorem dX1_emit_77 : decode cX1_emit 77 = .ok (.iastore, 1) := by decide +kernel
theorem dX1_emit_78 : decode cX1_emit 78 = .ok (.iinc 2 1, 3) := by decide +kernel
theorem dX1_emit_81 : decode cX1_emit 81 = .ok (.goto (-79), 3) := by decide +kernel
theorem dX1_emit_84 : decode cX1_emit 84 = .ok (.return_, 1) := by decide +kernel
theorem dX1_upperPart_0 : decode cX1_upperPart 0 = .ok (.aload_n 0, 1) := by decide +kernel
theorem dX1_upperPart_1 : decode cX1_upperPart 1 = .ok (.getfield 30, 3) := by decide +kernel
theorem dX1_upperPart_4 : decode cX1_upperPart 4 = .ok (.iload_n 1, 1) := by decide +kernel
theorem dX1_upperPart_5 : decode cX1_upperPart 5 = .ok (.laload, 1) := by decide +kernel
theorem dX1_upperPart_6 : decode cX1_upperPart 6 = .ok (.l2i, 1) := by decide +kernel
theorem dX1_upperPart_7 : decode cX1_upperPart 7 = .ok (.istore_n 2, 1) := by decide +kernel
theorem dX1_upperPart_8 : decode cX1_upperPart 8 = .ok (.iload_n 2, 1) := by decide +kernel
theorem dX1_upperPart_9 : decode cX1_upperPart 9 = .ok (.bipush 20, 2) := by decide +kernel
theorem dX1_upperPart_11 : decode cX1_upperPart 11 = .ok (.ishl, 1) := by decide +kernel
theorem dX1_upperPart_12 : decode cX1_upperPart 12 = .ok (.bipush 20, 2) := by decide +kernel
theorem dX1_upperPart_14 : decode cX1_upperPart 14 = .ok (.ishr, 1) := by decide +kernel
theorem dX1_upperPart_15 : decode cX1_upperPart 15 = .ok (.istore_n 3, 1) := by decide +kernel
theorem dX1_upperPart_16 : decode cX1_upperPart 16 = .ok (.aload_n 0, 1) := by decide +kernel
theorem dX1_upperPart_17 : decode cX1_upperPart 17 = .ok (.getfield 21, 3) := by decide +kernel
theorem dX1_upperPart_20 : decode cX1_upperPart 20 = .ok (.iload_n 1, 1) := by decide +kernel
theorem dX1_upperPart_21 : decode cX1_upperPart 21 = .ok (.iaload, 1) := by decide +kernel
theorem dX1_upperPart_22 : decode cX1_upperPart 22 = .ok (.sipush 3968, 3) := by decide +kernel
theorem dX1_upperPart_25 : decode cX1_upperPart 25 = .ok (.iand, 1) := by decide +kernel
theorem dX1_upperPart_26 : decode cX1_upperPart 26 = .ok (.istore 4, 2) := by decide +kernel
theorem dX1_upperPart_28 : decode cX1_upperPart 28 = .ok (.bipush 55, 2) := by decide +kernel
theorem dX1_upperPart_30 : decode cX1_upperPart 30 = .ok (.iload 4, 2) := by decide +kernel
theorem dX1_upperPart_32 : decode cX1_upperPart 32 = .ok (.ior, 1) := by decide +kernel
theorem dX1_upperPart_33 : decode cX1_upperPart 33 = .ok (.iload_n 2, 1) := by decide +kernel
theorem dX1_upperPart_34 : decode cX1_upperPart 34 = .ok (.iload_n 3, 1) := by decide +kernel
theorem dX1_upperPart_35 : decode cX1_upperPart 35 = .ok (.isub, 1) := by decide +kernel
theorem dX1_upperPart_36 : decode cX1_upperPart 36 = .ok (.ior, 1) := by decide +kernel
theorem dX1_upperPart_37 : decode cX1_upperPart 37 = .ok (.ireturn, 1) := by decide +kernel
theorem dX1_lowerPart_0 : decode cX1_lowerPart 0 = .ok (.aload_n 0, 1) := by decide +kernel
theorem dX1_lowerPart_1 : decode cX1_lowerPart 1 = .ok (.getfield 21, 3) := by decide +kernel
theorem dX1_lowerPart_4 : decode cX1_lowerPart 4 = .ok (.iload_n 1, 1) := by decide +kernel
theorem dX1_lowerPart_5 : decode cX1_lowerPart 5 = .ok (.iaload, 1) := by decide +kernel
theorem dX1_lowerPart_6 : decode cX1_lowerPart 6 = .ok (.sipush 3968, 3) := by decide +kernel
theorem dX1_lowerPart_9 : decode cX1_lowerPart 9 = .ok (.iand, 1) := by decide +kernel
theorem dX1_lowerPart_10 : decode cX1_lowerPart 10 = .ok (.istore_n 2, 1) := by decide +kernel
theorem dX1_lowerPart_11 : decode cX1_lowerPart 11 = .ok (.bipush 19, 2) := by decide +kernel
theorem dX1_lowerPart_13 : decode cX1_lowerPart 13 = .ok (.iload_n 2, 1) := by decide +kernel
theorem dX1_lowerPart_14 : decode cX1_lowerPart 14 = .ok (.ior, 1) := by decide +kernel
theorem dX1_lowerPart_15 : decode cX1_lowerPart 15 = .ok (.iload_n 2, 1) := by decide +kernel
theorem dX1_lowerPart_16 : decode cX1_lowerPart 16 = .ok (.bipush 8, 2) := by decide +kernel
theorem dX1_lowerPart_18 : decode cX1_lowerPart 18 = .ok (.ishl, 1) := by decide +kernel
theorem dX1_lowerPart_19 : decode cX1_lowerPart 19 = .ok (.ior, 1) := by decide +kernel
theorem dX1_lowerPart_20 : decode cX1_lowerPart 20 = .ok (.aload_n 0, 1) := by decide +kernel
theorem dX1_lowerPart_21 : decode cX1_lowerPart 21 = .ok (.getfield 30, 3) := by decide +kernel
theorem dX1_lowerPart_24 : decode cX1_lowerPart 24 = .ok (.iload_n 1, 1) := by decide +kernel
theorem dX1_lowerPart_25 : decode cX1_lowerPart 25 = .ok (.laload, 1) := by decide +kernel
theorem dX1_lowerPart_26 : decode cX1_lowerPart 26 = .ok (.l2i, 1) := by decide +kernel
theorem dX1_lowerPart_27 : decode cX1_lowerPart 27 = .ok (.bipush 20, 2) := by decide +kernel
theorem dX1_lowerPart_29 : decode cX1_lowerPart 29 = .ok (.ishl, 1) := by decide +kernel
theorem dX1_lowerPart_30 : decode cX1_lowerPart 30 = .ok (.ior, 1) := by decide +kernel
theorem dX1_lowerPart_31 : decode cX1_lowerPart 31 = .ok (.ireturn, 1) := by decide +kernel
theorem dX1_encode_0 : decode cX1_encode 0 = .ok (.aload_n 0, 1) := by decide +kernel
theorem dX1_encode_1 : decode cX1_encode 1 = .ok (.getfield 30, 3) := by decide +kernel
theorem dX1_encode_4 : decode cX1_encode 4 = .ok (.iload_n 1, 1) := by decide +kernel
theorem dX1_encode_5 : decode cX1_encode 5 = .ok (.laload, 1) := by decide +kernel
theorem dX1_encode_6 : decode cX1_encode 6 = .ok (.l2i, 1) := by decide +kernel
theorem dX1_encode_7 : decode cX1_encode 7 = .ok (.istore_n 2, 1) := by decide +kernel
theorem dX1_encode_8 : decode cX1_encode 8 = .ok (.getstatic 123, 3) := by decide +kernel
theorem dX1_encode_11 : decode cX1_encode 11 = .ok (.aload_n 0, 1) := by decide +kernel
theorem dX1_encode_12 : decode cX1_encode 12 = .ok (.getfield 9, 3) := by decide +kernel
theorem dX1_encode_15 : decode cX1_encode 15 = .ok (.iload_n 1, 1) := by decide +kernel
theorem dX1_encode_16 : decode cX1_encode 16 = .ok (.iaload, 1) := by decide +kernel
theorem dX1_encode_17 : decode cX1_encode 17 = .ok (.aaload, 1) := by decide +kernel
theorem dX1_encode_18 : decode cX1_encode 18 = .ok (.getfield 155, 3) := by decide +kernel
theorem dX1_encode_21 : decode cX1_encode 21 = .ok (.tableswitch 181 1 8 #[47, 47, 59, 81, 126, 138, 47, 179], 47) := by decide +kernel
theorem dX1_encode_68 : decode cX1_encode 68 = .ok (.aload_n 0, 1) := by decide +kernel
theorem dX1_encode_69 : decode cX1_encode 69 = .ok (.getfield 21, 3) := by decide +kernel
theorem dX1_encode_72 : decode cX1_encode 72 = .ok (.iload_n 1, 1) := by decide +kernel
theorem dX1_encode_73 : decode cX1_encode 73 = .ok (.iaload, 1) := by decide +kernel
theorem dX1_encode_74 : decode cX1_encode 74 = .ok (.iload_n 2, 1) := by decide +kernel
theorem dX1_encode_75 : decode cX1_encode 75 = .ok (.bipush 20, 2) := by decide +kernel
theorem dX1_encode_77 : decode cX1_encode 77 = .ok (.ishl, 1) := by decide +kernel
theorem dX1_encode_78 : decode cX1_encode 78 = .ok (.ior, 1) := by decide +kernel
theorem dX1_encode_79 : decode cX1_encode 79 = .ok (.ireturn, 1) := by decide +kernel
theorem dX1_encode_80 : decode cX1_encode 80 = .ok (.aload_n 0, 1) := by decide +kernel
theorem dX1_encode_81 : decode cX1_encode 81 = .ok (.getfield 21, 3) := by decide +kernel
theorem dX1_encode_84 : decode cX1_encode 84 = .ok (.iload_n 1, 1) := by decide +kernel
theorem dX1_encode_85 : decode cX1_encode 85 = .ok (.iaload, 1) := by decide +kernel
theorem dX1_encode_86 : decode cX1_encode 86 = .ok (.iload_n 2, 1) := by decide +kernel
theorem dX1_encode_87 : decode cX1_encode 87 = .ok (.iconst 5, 1) := by decide +kernel
theorem dX1_encode_88 : decode cX1_encode 88 = .ok (.ishr, 1) := by decide +kernel
theorem dX1_encode_89 : decode cX1_encode 89 = .ok (.bipush 25, 2) := by decide +kernel
theorem dX1_encode_91 : decode cX1_encode 91 = .ok (.ishl, 1) := by decide +kernel
theorem dX1_encode_92 : decode cX1_encode 92 = .ok (.ior, 1) := by decide +kernel
theorem dX1_encode_93 : decode cX1_encode 93 = .ok (.iload_n 2, 1) := by decide +kernel
theorem dX1_encode_94 : decode cX1_encode 94 = .ok (.bipush 31, 2) := by decide +kernel
theorem dX1_encode_96 : decode cX1_encode 96 = .ok (.iand, 1) := by decide +kernel
theorem dX1_encode_97 : decode cX1_encode 97 = .ok (.bipush 7, 2) := by decide +kernel
theorem dX1_encode_99 : decode cX1_encode 99 = .ok (.ishl, 1) := by decide +kernel
theorem dX1_encode_100 : decode cX1_encode 100 = .ok (.ior, 1) := by decide +kernel
theorem dX1_encode_101 : decode cX1_encode 101 = .ok (.ireturn, 1) := by decide +kernel
theorem dX1_encode_102 : decode cX1_encode 102 = .ok (.aload_n 0, 1) := by decide +kernel
theorem dX1_encode_103 : decode cX1_encode 103 = .ok (.getfield 21, 3) := by decide +kernel
theorem dX1_encode_106 : decode cX1_encode 106 = .ok (.iload_n 1, 1) := by decide +kernel
theorem dX1_encode_107 : decode cX1_encode 107 = .ok (.iaload, 1) := by decide +kernel
theorem dX1_encode_108 : decode cX1_encode 108 = .ok (.iload_n 2, 1) := by decide +kernel
theorem dX1_encode_109 : decode cX1_encode 109 = .ok (.bipush 12, 2) := by decide +kernel
theorem dX1_encode_111 : decode cX1_encode 111 = .ok (.ishr, 1) := by decide +kernel
theorem dX1_encode_112 : decode cX1_encode 112 = .ok (.bipush 31, 2) := by decide +kernel
theorem dX1_encode_114 : decode cX1_encode 114 = .ok (.ishl, 1) := by decide +kernel
theorem dX1_encode_115 : decode cX1_encode 115 = .ok (.ior, 1) := by decide +kernel
theorem dX1_encode_116 : decode cX1_encode 116 = .ok (.iload_n 2, 1) := by decide +kernel
theorem dX1_encode_117 : decode cX1_encode 117 = .ok (.iconst 5, 1) := by decide +kernel
theorem dX1_encode_118 : decode cX1_encode 118 = .ok (.ishr, 1) := by decide +kernel
theorem dX1_encode_119 : decode cX1_encode 119 = .ok (.bipush 63, 2) := by decide +kernel
theorem dX1_encode_121 : decode cX1_encode 121 = .ok (.iand, 1) := by decide +kernel
theorem dX1_encode_122 : decode cX1_encode 122 = .ok (.bipush 25, 2) := by decide +kernel
theorem dX1_encode_124 : decode cX1_encode 124 = .ok (.ishl, 1) := by decide +kernel
theorem dX1_encode_125 : decode cX1_encode 125 = .ok (.ior, 1) := by decide +kernel
theorem dX1_encode_126 : decode cX1_encode 126 = .ok (.iload_n 2, 1) := by decide +kernel
theorem dX1_encode_127 : decode cX1_encode 127 = .ok (.iconst 1, 1) := by decide +kernel
theorem dX1_encode_128 : decode cX1_encode 128 = .ok (.ishr, 1) := by decide +kernel
theorem dX1_encode_129 : decode cX1_encode 129 = .ok (.bipush 15, 2) := by decide +kernel
theorem dX1_encode_131 : decode cX1_encode 131 = .ok (.iand, 1) := by decide +kernel
theorem dX1_encode_132 : decode cX1_encode 132 = .ok (.bipush 8, 2) := by decide +kernel
theorem dX1_encode_134 : decode cX1_encode 134 = .ok (.ishl, 1) := by decide +kernel
theorem dX1_encode_135 : decode cX1_encode 135 = .ok (.ior, 1) := by decide +kernel
theorem dX1_encode_136 : decode cX1_encode 136 = .ok (.iload_n 2, 1) := by decide +kernel
theorem dX1_encode_137 : decode cX1_encode 137 = .ok (.bipush 11, 2) := by decide +kernel
theorem dX1_encode_139 : decode cX1_encode 139 = .ok (.ishr, 1) := by decide +kernel
theorem dX1_encode_140 : decode cX1_encode 140 = .ok (.iconst 1, 1) := by decide +kernel
theorem dX1_encode_141 : decode cX1_encode 141 = .ok (.iand, 1) := by decide +kernel
theorem dX1_encode_142 : decode cX1_encode 142 = .ok (.bipush 7, 2) := by decide +kernel
theorem dX1_encode_144 : decode cX1_encode 144 = .ok (.ishl, 1) := by decide +kernel
theorem dX1_encode_145 : decode cX1_encode 145 = .ok (.ior, 1) := by decide +kernel
theorem dX1_encode_146 : decode cX1_encode 146 = .ok (.ireturn, 1) := by decide +kernel
theorem dX1_encode_147 : decode cX1_encode 147 = .ok (.aload_n 0, 1) := by decide +kernel
theorem dX1_encode_148 : decode cX1_encode 148 = .ok (.getfield 21, 3) := by decide +kernel
theorem dX1_encode_151 : decode cX1_encode 151 = .ok (.iload_n 1, 1) := by decide +kernel
theorem dX1_encode_152 : decode cX1_encode 152 = .ok (.iaload, 1) := by decide +kernel
theorem dX1_encode_153 : decode cX1_encode 153 = .ok (.iload_n 2, 1) := by decide +kernel
theorem dX1_encode_154 : decode cX1_encode 154 = .ok (.bipush 12, 2) := by decide +kernel
theorem dX1_encode_156 : decode cX1_encode 156 = .ok (.ishl, 1) := by decide +kernel
theorem dX1_encode_157 : decode cX1_encode 157 = .ok (.ior, 1) := by decide +kernel
theorem dX1_encode_158 : decode cX1_encode 158 = .ok (.ireturn, 1) := by decide +kernel
theorem dX1_encode_159 : decode cX1_encode 159 = .ok (.aload_n 0, 1) := by decide +kernel
theorem dX1_encode_160 : decode cX1_encode 160 = .ok (.getfield 21, 3) := by decide +kernel
theorem dX1_encode_163 : decode cX1_encode 163 = .ok (.iload_n 1, 1) := by decide +kernel
theorem dX1_encode_164 : decode cX1_encode 164 = .ok (.iaload, 1) := by decide +kernel
theorem dX1_encode_165 : decode cX1_encode 165 = .ok (.iload_n 2, 1) := by decide +kernel
theorem dX1_encode_166 : decode cX1_encode 166 = .ok (.bipush 20, 2) := by decide +kernel
theorem dX1_encode_168 : decode cX1_encode 168 = .ok (.ishr, 1) := by decide +kernel
theorem dX1_encode_169 : decode cX1_encode 169 = .ok (.bipush 31, 2) := by decide +kernel
theorem dX1_encode_171 : decode cX1_encode 171 = .ok (.ishl, 1) := by decide +kernel
theorem dX1_encode_172 : decode cX1_encode 172 = .ok (.ior, 1) := by decide +kernel
theorem dX1_encode_173 : decode cX1_encode 173 = .ok (.iload_n 2, 1) := by decide +kernel
theorem dX1_encode_174 : decode cX1_encode 174 = .ok (.iconst 1, 1) := by decide +kernel
theorem dX1_encode_175 : decode cX1_encode 175 = .ok (.ishr, 1) := by decide +kernel
theorem dX1_encode_176 : decode cX1_encode 176 = .ok (.sipush 1023, 3) := by decide +kernel
theorem dX1_encode_179 : decode cX1_encode 179 = .ok (.iand, 1) := by decide +kernel
theorem dX1_encode_180 : decode cX1_encode 180 = .ok (.bipush 21, 2) := by decide +kernel
theorem dX1_encode_182 : decode cX1_encode 182 = .ok (.ishl, 1) := by decide +kernel
theorem dX1_encode_183 : decode cX1_encode 183 = .ok (.ior, 1) := by decide +kernel
theorem dX1_encode_184 : decode cX1_encode 184 = .ok (.iload_n 2, 1) := by decide +kernel
theorem dX1_encode_185 : decode cX1_encode 185 = .ok (.bipush 11, 2) := by decide +kernel
theorem dX1_encode_187 : decode cX1_encode 187 = .ok (.ishr, 1) := by decide +kernel
theorem dX1_encode_188 : decode cX1_encode 188 = .ok (.iconst 1, 1) := by decide +kernel
theorem dX1_encode_189 : decode cX1_encode 189 = .ok (.iand, 1) := by decide +kernel
theorem dX1_encode_190 : decode cX1_encode 190 = .ok (.bipush 20, 2) := by decide +kernel
theorem dX1_encode_192 : decode cX1_encode 192 = .ok (.ishl, 1) := by decide +kernel
theorem dX1_encode_193 : decode cX1_encode 193 = .ok (.ior, 1) := by decide +kernel
theorem dX1_encode_194 : decode cX1_encode 194 = .ok (.iload_n 2, 1) := by decide +kernel
theorem dX1_encode_195 : decode cX1_encode 195 = .ok (.ldc 225, 2) := by decide +kernel
theorem dX1_encode_197 : decode cX1_encode 197 = .ok (.iand, 1) := by decide +kernel
theorem dX1_encode_198 : decode cX1_encode 198 = .ok (.ior, 1) := by decide +kernel
theorem dX1_encode_199 : decode cX1_encode 199 = .ok (.ireturn, 1) := by decide +kernel
theorem dX1_encode_200 : decode cX1_encode 200 = .ok (.iload_n 2, 1) := by decide +kernel
theorem dX1_encode_201 : decode cX1_encode 201 = .ok (.ireturn, 1) := by decide +kernel
theorem dX1_encode_202 : decode cX1_encode 202 = .ok (.aload_n 0, 1) := by decide +kernel
theorem dX1_encode_203 : decode cX1_encode 203 = .ok (.getfield 21, 3) := by decide +kernel
theorem dX1_encode_206 : decode cX1_encode 206 = .ok (.iload_n 1, 1) := by decide +kernel
theorem dX1_encode_207 : decode cX1_encode 207 = .ok (.iaload, 1) := by decide +kernel
theorem dX1_encode_208 : decode cX1_encode 208 = .ok (.ireturn, 1) := by decide +kernel
theorem dX2_init_0 : decode cX2_init 0 = .ok (.aload_n 0, 1) := by decide +kernel
theorem dX2_init_1 : decode cX2_init 1 = .ok (.invokespecial 3, 3) := by decide +kernel
theorem dX2_init_4 : decode cX2_init 4 = .ok (.aload_n 0, 1) := by decide +kernel
theorem dX2_init_5 : decode cX2_init 5 = .ok (.bipush 32, 2) := by decide +kernel
theorem dX2_init_7 : decode cX2_init 7 = .ok (.newarray .int, 2) := by decide +kernel
theorem dX2_init_9 : decode cX2_init 9 = .ok (.putfield 9, 3) := by decide +kernel
theorem dX2_init_12 : decode cX2_init 12 = .ok (.aload_n 0, 1) := by decide +kernel
theorem dX2_init_13 : decode cX2_init 13 = .ok (.bipush 32, 2) := by decide +kernel
theorem dX2_init_15 : decode cX2_init 15 = .ok (.newarray .int, 2) := by decide +kernel
theorem dX2_init_17 : decode cX2_init 17 = .ok (.putfield 15, 3) := by decide +kernel
theorem dX2_init_20 : decode cX2_init 20 = .ok (.aload_n 0, 1) := by decide +kernel
theorem dX2_init_21 : decode cX2_init 21 = .ok (.bipush 32, 2) := by decide +kernel
theorem dX2_init_23 : decode cX2_init 23 = .ok (.newarray .int, 2) := by decide +kernel
theorem dX2_init_25 : decode cX2_init 25 = .ok (.putfield 18, 3) := by decide +kernel
theorem dX2_init_28 : decode cX2_init 28 = .ok (.aload_n 0, 1) := by decide +kernel
theorem dX2_init_29 : decode cX2_init 29 = .ok (.sipush 128, 3) := by decide +kernel
theorem dX2_init_32 : decode cX2_init 32 = .ok (.newarray .int, 2) := by decide +kernel
theorem dX2_init_34 : decode cX2_init 34 = .ok (.putfield 21, 3) := by decide +kernel
theorem dX2_init_37 : decode cX2_init 37 = .ok (.return_, 1) := by decide +kernel
theorem dX2_begin_0 : decode cX2_begin 0 = .ok (.aload_n 0, 1) := by decide +kernel
theorem dX2_begin_1 : decode cX2_begin 1 = .ok (.iload_n 1, 1) := by decide +kernel
theorem dX2_begin_2 : decode cX2_begin 2 = .ok (.putfield 24, 3) := by decide +kernel
theorem dX2_begin_5 : decode cX2_begin 5 = .ok (.aload_n 0, 1) := by decide +kernel
theorem dX2_begin_6 : decode cX2_begin 6 = .ok (.iload_n 2, 1) := by decide +kernel
theorem dX2_begin_7 : decode cX2_begin 7 = .ok (.putfield 28, 3) := by decide +kernel
theorem dX2_begin_10 : decode cX2_begin 10 = .ok (.aload_n 0, 1) := by decide +kernel
theorem dX2_begin_11 : decode cX2_begin 11 = .ok (.iconst 0, 1) := by decide +kernel
theorem dX2_begin_12 : decode cX2_begin 12 = .ok (.putfield 31, 3) := by decide +kernel
theorem dX2_begin_15 : decode cX2_begin 15 = .ok (.aload_n 0, 1) := by decide +kernel
theorem dX2_begin_16 : decode cX2_begin 16 = .ok (.getfield 15, 3) := by decide +kernel
theorem dX2_begin_19 : decode cX2_begin 19 = .ok (.iconst 0, 1) := by decide +kernel
theorem dX2_begin_20 : decode cX2_begin 20 = .ok (.invokestatic 34, 3) := by decide +kernel
theorem dX2_begin_23 : decode cX2_begin 23 = .ok (.return_, 1) := by decide +kernel
theorem dX2_find_0 : decode cX2_find 0 = .ok (.iload_n 1, 1) := by decide +kernel
theorem dX2_find_1 : decode cX2_find 1 = .ok (.aload_n 0, 1) := by decide +kernel
theorem dX2_find_2 : decode cX2_find 2 = .ok (.getfield 24, 3) := by decide +kernel
theorem dX2_find_5 : decode cX2_find 5 = .ok (.iconst 1, 1) := by decide +kernel
theorem dX2_find_6 : decode cX2_find 6 = .ok (.isub, 1) := by decide +kernel
theorem dX2_find_7 : decode cX2_find 7 = .ok (.iand, 1) := by decide +kernel
theorem dX2_find_8 : decode cX2_find 8 = .ok (.aload_n 0, 1) := by decide +kernel
theorem dX2_find_9 : decode cX2_find 9 = .ok (.getfield 28, 3) := by decide +kernel
theorem dX2_find_12 : decode cX2_find 12 = .ok (.imul, 1) := by decide +kernel
theorem dX2_find_13 : decode cX2_find 13 = .ok (.istore_n 2, 1) := by decide +kernel
theorem dX2_find_14 : decode cX2_find 14 = .ok (.iload_n 2, 1) := by decide +kernel
theorem dX2_find_15 : decode cX2_find 15 = .ok (.istore_n 3, 1) := by decide +kernel
theorem dX2_find_16 : decode cX2_find 16 = .ok (.iload_n 3, 1) := by decide +kernel
theorem dX2_find_17 : decode cX2_find 17 = .ok (.iload_n 2, 1) := by decide +kernel
theorem dX2_find_18 : decode cX2_find 18 = .ok (.aload_n 0, 1) := by decide +kernel
theorem dX2_find_19 : decode cX2_find 19 = .ok (.getfield 28, 3) := by decide +kernel
theorem dX2_find_22 : decode cX2_find 22 = .ok (.iadd, 1) := by decide +kernel
theorem dX2_find_23 : decode cX2_find 23 = .ok (.if_icmp .ge 30, 3) := by decide +kernel
theorem dX2_find_26 : decode cX2_find 26 = .ok (.aload_n 0, 1) := by decide +kernel
theorem dX2_find_27 : decode cX2_find 27 = .ok (.getfield 15, 3) := by decide +kernel
theorem dX2_find_30 : decode cX2_find 30 = .ok (.iload_n 3, 1) := by decide +kernel
theorem dX2_find_31 : decode cX2_find 31 = .ok (.iaload, 1) := by decide +kernel
theorem dX2_find_32 : decode cX2_find 32 = .ok (.ifCond .eq 15, 3) := by decide +kernel
theorem dX2_find_35 : decode cX2_find 35 = .ok (.aload_n 0, 1) := by decide +kernel
theorem dX2_find_36 : decode cX2_find 36 = .ok (.getfield 9, 3) := by decide +kernel
theorem dX2_find_39 : decode cX2_find 39 = .ok (.iload_n 3, 1) := by decide +kernel
theorem dX2_find_40 : decode cX2_find 40 = .ok (.iaload, 1) := by decide +kernel
theorem dX2_find_41 : decode cX2_find 41 = .ok (.iload_n 1, 1) := by decide +kernel
theorem dX2_find_42 : decode cX2_find 42 = .ok (.if_icmp .ne 5, 3) := by decide +kernel
theorem dX2_find_45 : decode cX2_find 45 = .ok (.iload_n 3, 1) := by decide +kernel
theorem dX2_find_46 : decode cX2_find 46 = .ok (.ireturn, 1) := by decide +kernel
theorem dX2_find_47 : decode cX2_find 47 = .ok (.iinc 3 1, 3) := by decide +kernel
theorem dX2_find_50 : decode cX2_find 50 = .ok (.goto (-34), 3) := by decide +kernel
theorem dX2_find_53 : decode cX2_find 53 = .ok (.iconst (-1), 1) := by decide +kernel
theorem dX2_find_54 : decode cX2_find 54 = .ok (.ireturn, 1) := by decide +kernel
theorem dX2_slotFor_0 : decode cX2_slotFor 0 = .ok (.iload_n 1, 1) := by decide +kernel
theorem dX2_slotFor_1 : decode cX2_slotFor 1 = .ok (.aload_n 0, 1) := by decide +kernel
theorem dX2_slotFor_2 : decode cX2_slotFor 2 = .ok (.getfield 24, 3) := by decide +kernel
theorem dX2_slotFor_5 : decode cX2_slotFor 5 = .ok (.iconst 1, 1) := by decide +kernel
theorem dX2_slotFor_6 : decode cX2_slotFor 6 = .ok (.isub, 1) := by decide +kernel
theorem dX2_slotFor_7 : decode cX2_slotFor 7 = .ok (.iand, 1) := by decide +kernel
theorem dX2_slotFor_8 : decode cX2_slotFor 8 = .ok (.aload_n 0, 1) := by decide +kernel
theorem dX2_slotFor_9 : decode cX2_slotFor 9 = .ok (.getfield 28, 3) := by decide +kernel
theorem dX2_slotFor_12 : decode cX2_slotFor 12 = .ok (.imul, 1) := by decide +kernel
theorem dX2_slotFor_13 : decode cX2_slotFor 13 = .ok (.istore_n 2, 1) := by decide +kernel
theorem dX2_slotFor_14 : decode cX2_slotFor 14 = .ok (.iload_n 2, 1) := by decide +kernel
theorem dX2_slotFor_15 : decode cX2_slotFor 15 = .ok (.istore_n 3, 1) := by decide +kernel
theorem dX2_slotFor_16 : decode cX2_slotFor 16 = .ok (.iload_n 2, 1) := by decide +kernel
theorem dX2_slotFor_17 : decode cX2_slotFor 17 = .ok (.istore 4, 2) := by decide +kernel
theorem dX2_slotFor_19 : decode cX2_slotFor 19 = .ok (.iload 4, 2) := by decide +kernel
theorem dX2_slotFor_21 : decode cX2_slotFor 21 = .ok (.iload_n 2, 1) := by decide +kernel
theorem dX2_slotFor_22 : decode cX2_slotFor 22 = .ok (.aload_n 0, 1) := by decide +kernel
theorem dX2_slotFor_23 : decode cX2_slotFor 23 = .ok (.getfield 28, 3) := by decide +kernel
theorem dX2_slotFor_26 : decode cX2_slotFor 26 = .ok (.iadd, 1) := by decide +kernel
theorem dX2_slotFor_27 : decode cX2_slotFor 27 = .ok (.if_icmp .ge 41, 3) := by decide +kernel
theorem dX2_slotFor_30 : decode cX2_slotFor 30 = .ok (.aload_n 0, 1) := by decide +kernel
theorem dX2_slotFor_31 : decode cX2_slotFor 31 = .ok (.getfield 15, 3) := by decide +kernel
theorem dX2_slotFor_34 : decode cX2_slotFor 34 = .ok (.iload 4, 2) := by decide +kernel
theorem dX2_slotFor_36 : decode cX2_slotFor 36 = .ok (.iaload, 1) := by decide +kernel
theorem dX2_slotFor_37 : decode cX2_slotFor 37 = .ok (.ifCond .ne 6, 3) := by decide +kernel
theorem dX2_slotFor_40 : decode cX2_slotFor 40 = .ok (.iload 4, 2) := by decide +kernel
theorem dX2_slotFor_42 : decode cX2_slotFor 42 = .ok (.ireturn, 1) := by decide +kernel
theorem dX2_slotFor_43 : decode cX2_slotFor 43 = .ok (.aload_n 0, 1) := by decide +kernel
theorem dX2_slotFor_44 : decode cX2_slotFor 44 = .ok (.getfield 18, 3) := by decide +kernel
theorem dX2_slotFor_47 : decode cX2_slotFor 47 = .ok (.iload 4, 2) := by decide +kernel
theorem dX2_slotFor_49 : decode cX2_slotFor 49 = .ok (.iaload, 1) := by decide +kernel
theorem dX2_slotFor_50 : decode cX2_slotFor 50 = .ok (.aload_n 0, 1) := by decide +kernel
theorem dX2_slotFor_51 : decode cX2_slotFor 51 = .ok (.getfield 18, 3) := by decide +kernel
theorem dX2_slotFor_54 : decode cX2_slotFor 54 = .ok (.iload_n 3, 1) := by decide +kernel
theorem dX2_slotFor_55 : decode cX2_slotFor 55 = .ok (.iaload, 1) := by decide +kernel
theorem dX2_slotFor_56 : decode cX2_slotFor 56 = .ok (.if_icmp .ge 6, 3) := by decide +kernel
theorem dX2_slotFor_59 : decode cX2_slotFor 59 = .ok (.iload 4, 2) := by decide +kernel
theorem dX2_slotFor_61 : decode cX2_slotFor 61 = .ok (.istore_n 3, 1) := by decide +kernel
theorem dX2_slotFor_62 : decode cX2_slotFor 62 = .ok (.iinc 4 1, 3) := by decide +kernel
theorem dX2_slotFor_65 : decode cX2_slotFor 65 = .ok (.goto (-46), 3) := by decide +kernel
theorem dX2_slotFor_68 : decode cX2_slotFor 68 = .ok (.iload_n 3, 1) := by decide +kernel
theorem dX2_slotFor_69 : decode cX2_slotFor 69 = .ok (.ireturn, 1) := by decide +kernel
theorem dX2_use_0 : decode cX2_use 0 = .ok (.aload_n 0, 1) := by decide +kernel
theorem dX2_use_1 : decode cX2_use 1 = .ok (.dup, 1) := by decide +kernel
theorem dX2_use_2 : decode cX2_use 2 = .ok (.getfield 31, 3) := by decide +kernel
theorem dX2_use_5 : decode cX2_use 5 = .ok (.iconst 1, 1) := by decide +kernel
theorem dX2_use_6 : decode cX2_use 6 = .ok (.iadd, 1) := by decide +kernel
theorem dX2_use_7 : decode cX2_use 7 = .ok (.putfield 31, 3) := by decide +kernel
theorem dX2_use_10 : decode cX2_use 10 = .ok (.aload_n 0, 1) := by decide +kernel
theorem dX2_use_11 : decode cX2_use 11 = .ok (.getfield 18, 3) := by decide +kernel
theorem dX2_use_14 : decode cX2_use 14 = .ok (.iload_n 1, 1) := by decide +kernel
theorem dX2_use_15 : decode cX2_use 15 = .ok (.aload_n 0, 1) := by decide +kernel
theorem dX2_use_16 : decode cX2_use 16 = .ok (.getfield 31, 3) := by decide +kernel
theorem dX2_use_19 : decode cX2_use 19 = .ok (.iastore, 1) := by decide +kernel
theorem dX2_use_20 : decode cX2_use 20 = .ok (.return_, 1) := by decide +kernel
theorem dX2_put_0 : decode cX2_put 0 = .ok (.aload_n 0, 1) := by decide +kernel
theorem dX2_put_1 : decode cX2_put 1 = .ok (.iload_n 1, 1) := by decide +kernel
theorem dX2_put_2 : decode cX2_put 2 = .ok (.invokevirtual 40, 3) := by decide +kernel
theorem dX2_put_5 : decode cX2_put 5 = .ok (.istore 5, 2) := by decide +kernel
theorem dX2_put_7 : decode cX2_put 7 = .ok (.iload 5, 2) := by decide +kernel
theorem dX2_put_9 : decode cX2_put 9 = .ok (.ifCond .lt 8, 3) := by decide +kernel
theorem dX2_put_12 : decode cX2_put 12 = .ok (.iload 5, 2) := by decide +kernel
theorem dX2_put_14 : decode cX2_put 14 = .ok (.goto 8, 3) := by decide +kernel
theorem dX2_put_17 : decode cX2_put 17 = .ok (.aload_n 0, 1) := by decide +kernel
theorem dX2_put_18 : decode cX2_put 18 = .ok (.iload_n 1, 1) := by decide +kernel
theorem dX2_put_19 : decode cX2_put 19 = .ok (.invokevirtual 44, 3) := by decide +kernel
theorem dX2_put_22 : decode cX2_put 22 = .ok (.istore 6, 2) := by decide +kernel
theorem dX2_put_24 : decode cX2_put 24 = .ok (.aload_n 0, 1) := by decide +kernel
theorem dX2_put_25 : decode cX2_put 25 = .ok (.getfield 9, 3) := by decide +kernel
theorem dX2_put_28 : decode cX2_put 28 = .ok (.iload 6, 2) := by decide +kernel
theorem dX2_put_30 : decode cX2_put 30 = .ok (.iload_n 1, 1) := by decide +kernel
theorem dX2_put_31 : decode cX2_put 31 = .ok (.iastore, 1) := by decide +kernel
theorem dX2_put_32 : decode cX2_put 32 = .ok (.aload_n 0, 1) := by decide +kernel
theorem dX2_put_33 : decode cX2_put 33 = .ok (.getfield 15, 3) := by decide +kernel
theorem dX2_put_36 : decode cX2_put 36 = .ok (.iload 6, 2) := by decide +kernel
theorem dX2_put_38 : decode cX2_put 38 = .ok (.iload_n 2, 1) := by decide +kernel
theorem dX2_put_39 : decode cX2_put 39 = .ok (.iastore, 1) := by decide +kernel
theorem dX2_put_40 : decode cX2_put 40 = .ok (.aload_n 3, 1) := by decide +kernel
theorem dX2_put_41 : decode cX2_put 41 = .ok (.iload 4, 2) := by decide +kernel
theorem dX2_put_43 : decode cX2_put 43 = .ok (.aload_n 0, 1) := by decide +kernel
theorem dX2_put_44 : decode cX2_put 44 = .ok (.getfield 21, 3) := by decide +kernel
theorem dX2_put_47 : decode cX2_put 47 = .ok (.iload 6, 2) := by decide +kernel
theorem dX2_put_49 : decode cX2_put 49 = .ok (.iconst 4, 1) := by decide +kernel
theorem dX2_put_50 : decode cX2_put 50 = .ok (.imul, 1) := by decide +kernel
theorem dX2_put_51 : decode cX2_put 51 = .ok (.iconst 4, 1) := by decide +kernel
theorem dX2_put_52 : decode cX2_put 52 = .ok (.invokestatic 47, 3) := by decide +kernel
theorem dX2_put_55 : decode cX2_put 55 = .ok (.aload_n 0, 1) := by decide +kernel
theorem dX2_put_56 : decode cX2_put 56 = .ok (.iload 6, 2) := by decide +kernel
theorem dX2_put_58 : decode cX2_put 58 = .ok (.invokevirtual 53, 3) := by decide +kernel
theorem dX2_put_61 : decode cX2_put 61 = .ok (.return_, 1) := by decide +kernel
theorem dX3_init_0 : decode cX3_init 0 = .ok (.aload_n 0, 1) := by decide +kernel
theorem dX3_init_1 : decode cX3_init 1 = .ok (.invokespecial 3, 3) := by decide +kernel
theorem dX3_init_4 : decode cX3_init 4 = .ok (.aload_n 0, 1) := by decide +kernel
theorem dX3_init_5 : decode cX3_init 5 = .ok (.bipush 32, 2) := by decide +kernel
theorem dX3_init_7 : decode cX3_init 7 = .ok (.newarray .int, 2) := by decide +kernel
theorem dX3_init_9 : decode cX3_init 9 = .ok (.putfield 9, 3) := by decide +kernel
theorem dX3_init_12 : decode cX3_init 12 = .ok (.aload_n 0, 1) := by decide +kernel
theorem dX3_init_13 : decode cX3_init 13 = .ok (.new 15, 3) := by decide +kernel
theorem dX3_init_16 : decode cX3_init 16 = .ok (.dup, 1) := by decide +kernel
theorem dX3_init_17 : decode cX3_init 17 = .ok (.invokespecial 17, 3) := by decide +kernel
theorem dX3_init_20 : decode cX3_init 20 = .ok (.putfield 18, 3) := by decide +kernel
theorem dX3_init_23 : decode cX3_init 23 = .ok (.aload_n 0, 1) := by decide +kernel
theorem dX3_init_24 : decode cX3_init 24 = .ok (.new 22, 3) := by decide +kernel
theorem dX3_init_27 : decode cX3_init 27 = .ok (.dup, 1) := by decide +kernel
theorem dX3_init_28 : decode cX3_init 28 = .ok (.invokespecial 24, 3) := by decide +kernel
theorem dX3_init_31 : decode cX3_init 31 = .ok (.putfield 25, 3) := by decide +kernel
theorem dX3_init_34 : decode cX3_init 34 = .ok (.aload_n 0, 1) := by decide +kernel
theorem dX3_init_35 : decode cX3_init 35 = .ok (.new 29, 3) := by decide +kernel
theorem dX3_init_38 : decode cX3_init 38 = .ok (.dup, 1) := by decide +kernel
theorem dX3_init_39 : decode cX3_init 39 = .ok (.invokespecial 31, 3) := by decide +kernel
theorem dX3_init_42 : decode cX3_init 42 = .ok (.putfield 32, 3) := by decide +kernel
theorem dX3_init_45 : decode cX3_init 45 = .ok (.aload_n 0, 1) := by decide +kernel
theorem dX3_init_46 : decode cX3_init 46 = .ok (.iconst 4, 1) := by decide +kernel
theorem dX3_init_47 : decode cX3_init 47 = .ok (.newarray .int, 2) := by decide +kernel
theorem dX3_init_49 : decode cX3_init 49 = .ok (.putfield 36, 3) := by decide +kernel
theorem dX3_init_52 : decode cX3_init 52 = .ok (.aload_n 0, 1) := by decide +kernel
theorem dX3_init_53 : decode cX3_init 53 = .ok (.iload_n 1, 1) := by decide +kernel
theorem dX3_init_54 : decode cX3_init 54 = .ok (.putfield 39, 3) := by decide +kernel
theorem dX3_init_57 : decode cX3_init 57 = .ok (.aload_n 0, 1) := by decide +kernel
theorem dX3_init_58 : decode cX3_init 58 = .ok (.aload_n 2, 1) := by decide +kernel
theorem dX3_init_59 : decode cX3_init 59 = .ok (.putfield 43, 3) := by decide +kernel
theorem dX3_init_62 : decode cX3_init 62 = .ok (.aload_n 0, 1) := by decide +kernel
theorem dX3_init_63 : decode cX3_init 63 = .ok (.iconst 0, 1) := by decide +kernel
theorem dX3_init_64 : decode cX3_init 64 = .ok (.iconst 1, 1) := by decide +kernel
theorem dX3_init_65 : decode cX3_init 65 = .ok (.iconst 1, 1) := by decide +kernel
theorem dX3_init_66 : decode cX3_init 66 = .ok (.iconst 1, 1) := by decide +kernel
theorem dX3_init_67 : decode cX3_init 67 = .ok (.invokevirtual 47, 3) := by decide +kernel
