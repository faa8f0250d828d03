theorem dX4_wayToFree_65 : decode cX4_wayToFree 65 = .ok (.iaload, 1) := by decide +kernel
theorem dX4_wayToFree_66 : decode cX4_wayToFree 66 = .ok (.aload_n 0, 1) := by decide +kernel
theorem dX4_wayToFree_67 : decode cX4_wayToFree 67 = .ok (.getfield 37, 3) := by decide +kernel
theorem dX4_wayToFree_70 : decode cX4_wayToFree 70 = .ok (.iload_n 3, 1) := by decide +kernel
theorem dX4_wayToFree_71 : decode cX4_wayToFree 71 = .ok (.iaload, 1) := by decide +kernel
theorem dX4_wayToFree_72 : decode cX4_wayToFree 72 = .ok (.if_icmp .ge 6, 3) := by decide +kernel
theorem dX4_wayToFree_75 : decode cX4_wayToFree 75 = .ok (.iload 4, 2) := by decide +kernel
theorem dX4_wayToFree_77 : decode cX4_wayToFree 77 = .ok (.istore_n 3, 1) := by decide +kernel
theorem dX4_wayToFree_78 : decode cX4_wayToFree 78 = .ok (.iinc 4 1, 3) := by decide +kernel
theorem dX4_wayToFree_81 : decode cX4_wayToFree 81 = .ok (.goto (-62), 3) := by decide +kernel
theorem dX4_wayToFree_84 : decode cX4_wayToFree 84 = .ok (.iload_n 3, 1) := by decide +kernel
theorem dX4_wayToFree_85 : decode cX4_wayToFree 85 = .ok (.ireturn, 1) := by decide +kernel
theorem dX4_writeBack_0 : decode cX4_writeBack 0 = .ok (.aload_n 0, 1) := by decide +kernel
theorem dX4_writeBack_1 : decode cX4_writeBack 1 = .ok (.getfield 33, 3) := by decide +kernel
theorem dX4_writeBack_4 : decode cX4_writeBack 4 = .ok (.iload_n 1, 1) := by decide +kernel
theorem dX4_writeBack_5 : decode cX4_writeBack 5 = .ok (.baload, 1) := by decide +kernel
theorem dX4_writeBack_6 : decode cX4_writeBack 6 = .ok (.ifCond .eq 26, 3) := by decide +kernel
theorem dX4_writeBack_9 : decode cX4_writeBack 9 = .ok (.aload_n 0, 1) := by decide +kernel
theorem dX4_writeBack_10 : decode cX4_writeBack 10 = .ok (.getfield 40, 3) := by decide +kernel
theorem dX4_writeBack_13 : decode cX4_writeBack 13 = .ok (.iload_n 1, 1) := by decide +kernel
theorem dX4_writeBack_14 : decode cX4_writeBack 14 = .ok (.iconst 4, 1) := by decide +kernel
theorem dX4_writeBack_15 : decode cX4_writeBack 15 = .ok (.imul, 1) := by decide +kernel
theorem dX4_writeBack_16 : decode cX4_writeBack 16 = .ok (.aload_n 0, 1) := by decide +kernel
theorem dX4_writeBack_17 : decode cX4_writeBack 17 = .ok (.getfield 9, 3) := by decide +kernel
theorem dX4_writeBack_20 : decode cX4_writeBack 20 = .ok (.aload_n 0, 1) := by decide +kernel
theorem dX4_writeBack_21 : decode cX4_writeBack 21 = .ok (.getfield 15, 3) := by decide +kernel
theorem dX4_writeBack_24 : decode cX4_writeBack 24 = .ok (.iload_n 1, 1) := by decide +kernel
theorem dX4_writeBack_25 : decode cX4_writeBack 25 = .ok (.iaload, 1) := by decide +kernel
theorem dX4_writeBack_26 : decode cX4_writeBack 26 = .ok (.iconst 4, 1) := by decide +kernel
theorem dX4_writeBack_27 : decode cX4_writeBack 27 = .ok (.imul, 1) := by decide +kernel
theorem dX4_writeBack_28 : decode cX4_writeBack 28 = .ok (.iconst 4, 1) := by decide +kernel
theorem dX4_writeBack_29 : decode cX4_writeBack 29 = .ok (.invokestatic 86, 3) := by decide +kernel
theorem dX4_writeBack_32 : decode cX4_writeBack 32 = .ok (.return_, 1) := by decide +kernel
theorem dX4_invite_0 : decode cX4_invite 0 = .ok (.iconst 0, 1) := by decide +kernel
theorem dX4_invite_1 : decode cX4_invite 1 = .ok (.istore_n 3, 1) := by decide +kernel
theorem dX4_invite_2 : decode cX4_invite 2 = .ok (.iload_n 3, 1) := by decide +kernel
theorem dX4_invite_3 : decode cX4_invite 3 = .ok (.bipush 16, 2) := by decide +kernel
theorem dX4_invite_5 : decode cX4_invite 5 = .ok (.if_icmp .ge 78, 3) := by decide +kernel
theorem dX4_invite_8 : decode cX4_invite 8 = .ok (.aload_n 0, 1) := by decide +kernel
theorem dX4_invite_9 : decode cX4_invite 9 = .ok (.getfield 18, 3) := by decide +kernel
theorem dX4_invite_12 : decode cX4_invite 12 = .ok (.iload_n 1, 1) := by decide +kernel
theorem dX4_invite_13 : decode cX4_invite 13 = .ok (.iaload, 1) := by decide +kernel
theorem dX4_invite_14 : decode cX4_invite 14 = .ok (.iload_n 3, 1) := by decide +kernel
theorem dX4_invite_15 : decode cX4_invite 15 = .ok (.if_icmp .eq 16, 3) := by decide +kernel
theorem dX4_invite_18 : decode cX4_invite 18 = .ok (.aload_n 0, 1) := by decide +kernel
theorem dX4_invite_19 : decode cX4_invite 19 = .ok (.getfield 21, 3) := by decide +kernel
theorem dX4_invite_22 : decode cX4_invite 22 = .ok (.iload_n 1, 1) := by decide +kernel
theorem dX4_invite_23 : decode cX4_invite 23 = .ok (.iaload, 1) := by decide +kernel
theorem dX4_invite_24 : decode cX4_invite 24 = .ok (.iload_n 3, 1) := by decide +kernel
theorem dX4_invite_25 : decode cX4_invite 25 = .ok (.ishr, 1) := by decide +kernel
theorem dX4_invite_26 : decode cX4_invite 26 = .ok (.iconst 1, 1) := by decide +kernel
theorem dX4_invite_27 : decode cX4_invite 27 = .ok (.iand, 1) := by decide +kernel
theorem dX4_invite_28 : decode cX4_invite 28 = .ok (.ifCond .eq 7, 3) := by decide +kernel
theorem dX4_invite_31 : decode cX4_invite 31 = .ok (.iconst 1, 1) := by decide +kernel
theorem dX4_invite_32 : decode cX4_invite 32 = .ok (.goto 4, 3) := by decide +kernel
theorem dX4_invite_35 : decode cX4_invite 35 = .ok (.iconst 0, 1) := by decide +kernel
theorem dX4_invite_36 : decode cX4_invite 36 = .ok (.istore 4, 2) := by decide +kernel
theorem dX4_invite_38 : decode cX4_invite 38 = .ok (.iload 4, 2) := by decide +kernel
theorem dX4_invite_40 : decode cX4_invite 40 = .ok (.ifCond .eq 37, 3) := by decide +kernel
theorem dX4_invite_43 : decode cX4_invite 43 = .ok (.iload_n 3, 1) := by decide +kernel
theorem dX4_invite_44 : decode cX4_invite 44 = .ok (.iload_n 2, 1) := by decide +kernel
theorem dX4_invite_45 : decode cX4_invite 45 = .ok (.if_icmp .eq 32, 3) := by decide +kernel
theorem dX4_invite_48 : decode cX4_invite 48 = .ok (.aload_n 0, 1) := by decide +kernel
theorem dX4_invite_49 : decode cX4_invite 49 = .ok (.getfield 48, 3) := by decide +kernel
theorem dX4_invite_52 : decode cX4_invite 52 = .ok (.iconst 3, 1) := by decide +kernel
theorem dX4_invite_53 : decode cX4_invite 53 = .ok (.bipush 16, 2) := by decide +kernel
theorem dX4_invite_55 : decode cX4_invite 55 = .ok (.iload_n 3, 1) := by decide +kernel
theorem dX4_invite_56 : decode cX4_invite 56 = .ok (.aload_n 0, 1) := by decide +kernel
theorem dX4_invite_57 : decode cX4_invite 57 = .ok (.getfield 15, 3) := by decide +kernel
theorem dX4_invite_60 : decode cX4_invite 60 = .ok (.iload_n 1, 1) := by decide +kernel
theorem dX4_invite_61 : decode cX4_invite 61 = .ok (.iaload, 1) := by decide +kernel
theorem dX4_invite_62 : decode cX4_invite 62 = .ok (.aconst_null, 1) := by decide +kernel
theorem dX4_invite_63 : decode cX4_invite 63 = .ok (.iconst 0, 1) := by decide +kernel
theorem dX4_invite_64 : decode cX4_invite 64 = .ok (.invokevirtual 121, 3) := by decide +kernel
theorem dX4_invite_67 : decode cX4_invite 67 = .ok (.aload_n 0, 1) := by decide +kernel
theorem dX4_invite_68 : decode cX4_invite 68 = .ok (.getfield 30, 3) := by decide +kernel
theorem dX4_invite_71 : decode cX4_invite 71 = .ok (.iload_n 1, 1) := by decide +kernel
theorem dX4_invite_72 : decode cX4_invite 72 = .ok (.dup2, 1) := by decide +kernel
theorem dX4_invite_73 : decode cX4_invite 73 = .ok (.iaload, 1) := by decide +kernel
theorem dX4_invite_74 : decode cX4_invite 74 = .ok (.iconst 1, 1) := by decide +kernel
theorem dX4_invite_75 : decode cX4_invite 75 = .ok (.iadd, 1) := by decide +kernel
theorem dX4_invite_76 : decode cX4_invite 76 = .ok (.iastore, 1) := by decide +kernel
theorem dX4_invite_77 : decode cX4_invite 77 = .ok (.iinc 3 1, 3) := by decide +kernel
theorem dX4_invite_80 : decode cX4_invite 80 = .ok (.goto (-78), 3) := by decide +kernel
theorem dX4_invite_83 : decode cX4_invite 83 = .ok (.return_, 1) := by decide +kernel
theorem dX4_lend_0 : decode cX4_lend 0 = .ok (.aload_n 0, 1) := by decide +kernel
theorem dX4_lend_1 : decode cX4_lend 1 = .ok (.getfield 18, 3) := by decide +kernel
theorem dX4_lend_4 : decode cX4_lend 4 = .ok (.iload_n 1, 1) := by decide +kernel
theorem dX4_lend_5 : decode cX4_lend 5 = .ok (.iaload, 1) := by decide +kernel
theorem dX4_lend_6 : decode cX4_lend 6 = .ok (.iconst (-1), 1) := by decide +kernel
theorem dX4_lend_7 : decode cX4_lend 7 = .ok (.if_icmp .eq 37, 3) := by decide +kernel
theorem dX4_lend_10 : decode cX4_lend 10 = .ok (.aload_n 0, 1) := by decide +kernel
theorem dX4_lend_11 : decode cX4_lend 11 = .ok (.getfield 48, 3) := by decide +kernel
theorem dX4_lend_14 : decode cX4_lend 14 = .ok (.iconst 4, 1) := by decide +kernel
theorem dX4_lend_15 : decode cX4_lend 15 = .ok (.bipush 16, 2) := by decide +kernel
theorem dX4_lend_17 : decode cX4_lend 17 = .ok (.aload_n 0, 1) := by decide +kernel
theorem dX4_lend_18 : decode cX4_lend 18 = .ok (.getfield 18, 3) := by decide +kernel
theorem dX4_lend_21 : decode cX4_lend 21 = .ok (.iload_n 1, 1) := by decide +kernel
theorem dX4_lend_22 : decode cX4_lend 22 = .ok (.iaload, 1) := by decide +kernel
theorem dX4_lend_23 : decode cX4_lend 23 = .ok (.aload_n 0, 1) := by decide +kernel
theorem dX4_lend_24 : decode cX4_lend 24 = .ok (.getfield 15, 3) := by decide +kernel
theorem dX4_lend_27 : decode cX4_lend 27 = .ok (.iload_n 1, 1) := by decide +kernel
theorem dX4_lend_28 : decode cX4_lend 28 = .ok (.iaload, 1) := by decide +kernel
theorem dX4_lend_29 : decode cX4_lend 29 = .ok (.aconst_null, 1) := by decide +kernel
theorem dX4_lend_30 : decode cX4_lend 30 = .ok (.iconst 0, 1) := by decide +kernel
theorem dX4_lend_31 : decode cX4_lend 31 = .ok (.invokevirtual 121, 3) := by decide +kernel
theorem dX4_lend_34 : decode cX4_lend 34 = .ok (.aload_n 0, 1) := by decide +kernel
theorem dX4_lend_35 : decode cX4_lend 35 = .ok (.getfield 30, 3) := by decide +kernel
theorem dX4_lend_38 : decode cX4_lend 38 = .ok (.iload_n 1, 1) := by decide +kernel
theorem dX4_lend_39 : decode cX4_lend 39 = .ok (.iconst 1, 1) := by decide +kernel
theorem dX4_lend_40 : decode cX4_lend 40 = .ok (.iastore, 1) := by decide +kernel
theorem dX4_lend_41 : decode cX4_lend 41 = .ok (.goto 53, 3) := by decide +kernel
theorem dX4_lend_44 : decode cX4_lend 44 = .ok (.aload_n 0, 1) := by decide +kernel
theorem dX4_lend_45 : decode cX4_lend 45 = .ok (.getfield 21, 3) := by decide +kernel
theorem dX4_lend_48 : decode cX4_lend 48 = .ok (.iload_n 1, 1) := by decide +kernel
theorem dX4_lend_49 : decode cX4_lend 49 = .ok (.iaload, 1) := by decide +kernel
theorem dX4_lend_50 : decode cX4_lend 50 = .ok (.ifCond .ne 38, 3) := by decide +kernel
theorem dX4_lend_53 : decode cX4_lend 53 = .ok (.aload_n 0, 1) := by decide +kernel
theorem dX4_lend_54 : decode cX4_lend 54 = .ok (.getfield 18, 3) := by decide +kernel
theorem dX4_lend_57 : decode cX4_lend 57 = .ok (.iload_n 1, 1) := by decide +kernel
theorem dX4_lend_58 : decode cX4_lend 58 = .ok (.iload_n 2, 1) := by decide +kernel
theorem dX4_lend_59 : decode cX4_lend 59 = .ok (.iastore, 1) := by decide +kernel
theorem dX4_lend_60 : decode cX4_lend 60 = .ok (.aload_n 0, 1) := by decide +kernel
theorem dX4_lend_61 : decode cX4_lend 61 = .ok (.getfield 48, 3) := by decide +kernel
theorem dX4_lend_64 : decode cX4_lend 64 = .ok (.bipush 7, 2) := by decide +kernel
theorem dX4_lend_66 : decode cX4_lend 66 = .ok (.bipush 16, 2) := by decide +kernel
theorem dX4_lend_68 : decode cX4_lend 68 = .ok (.iload_n 2, 1) := by decide +kernel
theorem dX4_lend_69 : decode cX4_lend 69 = .ok (.aload_n 0, 1) := by decide +kernel
theorem dX4_lend_70 : decode cX4_lend 70 = .ok (.getfield 15, 3) := by decide +kernel
theorem dX4_lend_73 : decode cX4_lend 73 = .ok (.iload_n 1, 1) := by decide +kernel
theorem dX4_lend_74 : decode cX4_lend 74 = .ok (.iaload, 1) := by decide +kernel
theorem dX4_lend_75 : decode cX4_lend 75 = .ok (.aload_n 0, 1) := by decide +kernel
theorem dX4_lend_76 : decode cX4_lend 76 = .ok (.getfield 40, 3) := by decide +kernel
theorem dX4_lend_79 : decode cX4_lend 79 = .ok (.iload_n 1, 1) := by decide +kernel
theorem dX4_lend_80 : decode cX4_lend 80 = .ok (.iconst 4, 1) := by decide +kernel
theorem dX4_lend_81 : decode cX4_lend 81 = .ok (.imul, 1) := by decide +kernel
theorem dX4_lend_82 : decode cX4_lend 82 = .ok (.invokevirtual 121, 3) := by decide +kernel
theorem dX4_lend_85 : decode cX4_lend 85 = .ok (.goto 9, 3) := by decide +kernel
theorem dX4_lend_88 : decode cX4_lend 88 = .ok (.aload_n 0, 1) := by decide +kernel
theorem dX4_lend_89 : decode cX4_lend 89 = .ok (.iload_n 1, 1) := by decide +kernel
theorem dX4_lend_90 : decode cX4_lend 90 = .ok (.iload_n 2, 1) := by decide +kernel
theorem dX4_lend_91 : decode cX4_lend 91 = .ok (.invokevirtual 131, 3) := by decide +kernel
theorem dX4_lend_94 : decode cX4_lend 94 = .ok (.return_, 1) := by decide +kernel
theorem dX4_giveShared_0 : decode cX4_giveShared 0 = .ok (.aload_n 0, 1) := by decide +kernel
theorem dX4_giveShared_1 : decode cX4_giveShared 1 = .ok (.getfield 21, 3) := by decide +kernel
theorem dX4_giveShared_4 : decode cX4_giveShared 4 = .ok (.iload_n 1, 1) := by decide +kernel
theorem dX4_giveShared_5 : decode cX4_giveShared 5 = .ok (.dup2, 1) := by decide +kernel
theorem dX4_giveShared_6 : decode cX4_giveShared 6 = .ok (.iaload, 1) := by decide +kernel
theorem dX4_giveShared_7 : decode cX4_giveShared 7 = .ok (.iconst 1, 1) := by decide +kernel
theorem dX4_giveShared_8 : decode cX4_giveShared 8 = .ok (.iload_n 2, 1) := by decide +kernel
theorem dX4_giveShared_9 : decode cX4_giveShared 9 = .ok (.ishl, 1) := by decide +kernel
theorem dX4_giveShared_10 : decode cX4_giveShared 10 = .ok (.ior, 1) := by decide +kernel
theorem dX4_giveShared_11 : decode cX4_giveShared 11 = .ok (.iastore, 1) := by decide +kernel
theorem dX4_giveShared_12 : decode cX4_giveShared 12 = .ok (.aload_n 0, 1) := by decide +kernel
theorem dX4_giveShared_13 : decode cX4_giveShared 13 = .ok (.getfield 48, 3) := by decide +kernel
theorem dX4_giveShared_16 : decode cX4_giveShared 16 = .ok (.bipush 6, 2) := by decide +kernel
theorem dX4_giveShared_18 : decode cX4_giveShared 18 = .ok (.bipush 16, 2) := by decide +kernel
theorem dX4_giveShared_20 : decode cX4_giveShared 20 = .ok (.iload_n 2, 1) := by decide +kernel
theorem dX4_giveShared_21 : decode cX4_giveShared 21 = .ok (.aload_n 0, 1) := by decide +kernel
theorem dX4_giveShared_22 : decode cX4_giveShared 22 = .ok (.getfield 15, 3) := by decide +kernel
theorem dX4_giveShared_25 : decode cX4_giveShared 25 = .ok (.iload_n 1, 1) := by decide +kernel
theorem dX4_giveShared_26 : decode cX4_giveShared 26 = .ok (.iaload, 1) := by decide +kernel
theorem dX4_giveShared_27 : decode cX4_giveShared 27 = .ok (.aload_n 0, 1) := by decide +kernel
theorem dX4_giveShared_28 : decode cX4_giveShared 28 = .ok (.getfield 40, 3) := by decide +kernel
theorem dX4_giveShared_31 : decode cX4_giveShared 31 = .ok (.iload_n 1, 1) := by decide +kernel
theorem dX4_giveShared_32 : decode cX4_giveShared 32 = .ok (.iconst 4, 1) := by decide +kernel
theorem dX4_giveShared_33 : decode cX4_giveShared 33 = .ok (.imul, 1) := by decide +kernel
theorem dX4_giveShared_34 : decode cX4_giveShared 34 = .ok (.invokevirtual 121, 3) := by decide +kernel
theorem dX4_giveShared_37 : decode cX4_giveShared 37 = .ok (.return_, 1) := by decide +kernel
theorem dX4_giveAlone_0 : decode cX4_giveAlone 0 = .ok (.aload_n 0, 1) := by decide +kernel
theorem dX4_giveAlone_1 : decode cX4_giveAlone 1 = .ok (.getfield 18, 3) := by decide +kernel
theorem dX4_giveAlone_4 : decode cX4_giveAlone 4 = .ok (.iload_n 1, 1) := by decide +kernel
theorem dX4_giveAlone_5 : decode cX4_giveAlone 5 = .ok (.iload_n 2, 1) := by decide +kernel
theorem dX4_giveAlone_6 : decode cX4_giveAlone 6 = .ok (.iastore, 1) := by decide +kernel
theorem dX4_giveAlone_7 : decode cX4_giveAlone 7 = .ok (.aload_n 0, 1) := by decide +kernel
theorem dX4_giveAlone_8 : decode cX4_giveAlone 8 = .ok (.getfield 21, 3) := by decide +kernel
theorem dX4_giveAlone_11 : decode cX4_giveAlone 11 = .ok (.iload_n 1, 1) := by decide +kernel
theorem dX4_giveAlone_12 : decode cX4_giveAlone 12 = .ok (.iconst 0, 1) := by decide +kernel
theorem dX4_giveAlone_13 : decode cX4_giveAlone 13 = .ok (.iastore, 1) := by decide +kernel
theorem dX4_giveAlone_14 : decode cX4_giveAlone 14 = .ok (.aload_n 0, 1) := by decide +kernel
theorem dX4_giveAlone_15 : decode cX4_giveAlone 15 = .ok (.getfield 48, 3) := by decide +kernel
theorem dX4_giveAlone_18 : decode cX4_giveAlone 18 = .ok (.bipush 8, 2) := by decide +kernel
theorem dX4_giveAlone_20 : decode cX4_giveAlone 20 = .ok (.bipush 16, 2) := by decide +kernel
theorem dX4_giveAlone_22 : decode cX4_giveAlone 22 = .ok (.iload_n 2, 1) := by decide +kernel
theorem dX4_giveAlone_23 : decode cX4_giveAlone 23 = .ok (.aload_n 0, 1) := by decide +kernel
theorem dX4_giveAlone_24 : decode cX4_giveAlone 24 = .ok (.getfield 15, 3) := by decide +kernel
theorem dX4_giveAlone_27 : decode cX4_giveAlone 27 = .ok (.iload_n 1, 1) := by decide +kernel
theorem dX4_giveAlone_28 : decode cX4_giveAlone 28 = .ok (.iaload, 1) := by decide +kernel
theorem dX4_giveAlone_29 : decode cX4_giveAlone 29 = .ok (.aload_n 0, 1) := by decide +kernel
theorem dX4_giveAlone_30 : decode cX4_giveAlone 30 = .ok (.getfield 40, 3) := by decide +kernel
theorem dX4_giveAlone_33 : decode cX4_giveAlone 33 = .ok (.iload_n 1, 1) := by decide +kernel
theorem dX4_giveAlone_34 : decode cX4_giveAlone 34 = .ok (.iconst 4, 1) := by decide +kernel
theorem dX4_giveAlone_35 : decode cX4_giveAlone 35 = .ok (.imul, 1) := by decide +kernel
theorem dX4_giveAlone_36 : decode cX4_giveAlone 36 = .ok (.invokevirtual 121, 3) := by decide +kernel
theorem dX4_giveAlone_39 : decode cX4_giveAlone 39 = .ok (.return_, 1) := by decide +kernel
theorem dX4_acknowledge_0 : decode cX4_acknowledge 0 = .ok (.aload_n 0, 1) := by decide +kernel
theorem dX4_acknowledge_1 : decode cX4_acknowledge 1 = .ok (.aload_n 1, 1) := by decide +kernel
theorem dX4_acknowledge_2 : decode cX4_acknowledge 2 = .ok (.iconst 3, 1) := by decide +kernel
theorem dX4_acknowledge_3 : decode cX4_acknowledge 3 = .ok (.iaload, 1) := by decide +kernel
theorem dX4_acknowledge_4 : decode cX4_acknowledge 4 = .ok (.invokevirtual 103, 3) := by decide +kernel
theorem dX4_acknowledge_7 : decode cX4_acknowledge 7 = .ok (.istore_n 2, 1) := by decide +kernel
theorem dX4_acknowledge_8 : decode cX4_acknowledge 8 = .ok (.iload_n 2, 1) := by decide +kernel
theorem dX4_acknowledge_9 : decode cX4_acknowledge 9 = .ok (.ifCond .lt 12, 3) := by decide +kernel
theorem dX4_acknowledge_12 : decode cX4_acknowledge 12 = .ok (.aload_n 0, 1) := by decide +kernel
theorem dX4_acknowledge_13 : decode cX4_acknowledge 13 = .ok (.getfield 30, 3) := by decide +kernel
theorem dX4_acknowledge_16 : decode cX4_acknowledge 16 = .ok (.iload_n 2, 1) := by decide +kernel
theorem dX4_acknowledge_17 : decode cX4_acknowledge 17 = .ok (.iaload, 1) := by decide +kernel
theorem dX4_acknowledge_18 : decode cX4_acknowledge 18 = .ok (.ifCond .ne 5, 3) := by decide +kernel
theorem dX4_acknowledge_21 : decode cX4_acknowledge 21 = .ok (.iconst 0, 1) := by decide +kernel
theorem dX4_acknowledge_22 : decode cX4_acknowledge 22 = .ok (.ireturn, 1) := by decide +kernel
theorem dX4_acknowledge_23 : decode cX4_acknowledge 23 = .ok (.aload_n 1, 1) := by decide +kernel
theorem dX4_acknowledge_24 : decode cX4_acknowledge 24 = .ok (.iconst 4, 1) := by decide +kernel
theorem dX4_acknowledge_25 : decode cX4_acknowledge 25 = .ok (.iaload, 1) := by decide +kernel
theorem dX4_acknowledge_26 : decode cX4_acknowledge 26 = .ok (.iconst 1, 1) := by decide +kernel
theorem dX4_acknowledge_27 : decode cX4_acknowledge 27 = .ok (.if_icmp .ne 23, 3) := by decide +kernel
theorem dX4_acknowledge_30 : decode cX4_acknowledge 30 = .ok (.aload_n 1, 1) := by decide +kernel
theorem dX4_acknowledge_31 : decode cX4_acknowledge 31 = .ok (.iconst 5, 1) := by decide +kernel
theorem dX4_acknowledge_32 : decode cX4_acknowledge 32 = .ok (.aload_n 0, 1) := by decide +kernel
theorem dX4_acknowledge_33 : decode cX4_acknowledge 33 = .ok (.getfield 40, 3) := by decide +kernel
theorem dX4_acknowledge_36 : decode cX4_acknowledge 36 = .ok (.iload_n 2, 1) := by decide +kernel
theorem dX4_acknowledge_37 : decode cX4_acknowledge 37 = .ok (.iconst 4, 1) := by decide +kernel
theorem dX4_acknowledge_38 : decode cX4_acknowledge 38 = .ok (.imul, 1) := by decide +kernel
theorem dX4_acknowledge_39 : decode cX4_acknowledge 39 = .ok (.iconst 4, 1) := by decide +kernel
theorem dX4_acknowledge_40 : decode cX4_acknowledge 40 = .ok (.invokestatic 86, 3) := by decide +kernel
theorem dX4_acknowledge_43 : decode cX4_acknowledge 43 = .ok (.aload_n 0, 1) := by decide +kernel
theorem dX4_acknowledge_44 : decode cX4_acknowledge 44 = .ok (.getfield 33, 3) := by decide +kernel
theorem dX4_acknowledge_47 : decode cX4_acknowledge 47 = .ok (.iload_n 2, 1) := by decide +kernel
theorem dX4_acknowledge_48 : decode cX4_acknowledge 48 = .ok (.iconst 1, 1) := by decide +kernel
theorem dX4_acknowledge_49 : decode cX4_acknowledge 49 = .ok (.bastore, 1) := by decide +kernel
theorem dX4_acknowledge_50 : decode cX4_acknowledge 50 = .ok (.aload_n 0, 1) := by decide +kernel
theorem dX4_acknowledge_51 : decode cX4_acknowledge 51 = .ok (.getfield 30, 3) := by decide +kernel
theorem dX4_acknowledge_54 : decode cX4_acknowledge 54 = .ok (.iload_n 2, 1) := by decide +kernel
theorem dX4_acknowledge_55 : decode cX4_acknowledge 55 = .ok (.dup2, 1) := by decide +kernel
theorem dX4_acknowledge_56 : decode cX4_acknowledge 56 = .ok (.iaload, 1) := by decide +kernel
theorem dX4_acknowledge_57 : decode cX4_acknowledge 57 = .ok (.iconst 1, 1) := by decide +kernel
theorem dX4_acknowledge_58 : decode cX4_acknowledge 58 = .ok (.isub, 1) := by decide +kernel
theorem dX4_acknowledge_59 : decode cX4_acknowledge 59 = .ok (.iastore, 1) := by decide +kernel
theorem dX4_acknowledge_60 : decode cX4_acknowledge 60 = .ok (.aload_n 0, 1) := by decide +kernel
theorem dX4_acknowledge_61 : decode cX4_acknowledge 61 = .ok (.getfield 30, 3) := by decide +kernel
theorem dX4_acknowledge_64 : decode cX4_acknowledge 64 = .ok (.iload_n 2, 1) := by decide +kernel
theorem dX4_acknowledge_65 : decode cX4_acknowledge 65 = .ok (.iaload, 1) := by decide +kernel
theorem dX4_acknowledge_66 : decode cX4_acknowledge 66 = .ok (.ifCond .le 5, 3) := by decide +kernel
theorem dX4_acknowledge_69 : decode cX4_acknowledge 69 = .ok (.iconst 0, 1) := by decide +kernel
theorem dX4_acknowledge_70 : decode cX4_acknowledge 70 = .ok (.ireturn, 1) := by decide +kernel
theorem dX4_acknowledge_71 : decode cX4_acknowledge 71 = .ok (.aload_n 0, 1) := by decide +kernel
theorem dX4_acknowledge_72 : decode cX4_acknowledge 72 = .ok (.getfield 24, 3) := by decide +kernel
theorem dX4_acknowledge_75 : decode cX4_acknowledge 75 = .ok (.iload_n 2, 1) := by decide +kernel
theorem dX4_acknowledge_76 : decode cX4_acknowledge 76 = .ok (.iaload, 1) := by decide +kernel
theorem dX4_acknowledge_77 : decode cX4_acknowledge 77 = .ok (.bipush 16, 2) := by decide +kernel
theorem dX4_acknowledge_79 : decode cX4_acknowledge 79 = .ok (.if_icmp .ne 24, 3) := by decide +kernel
theorem dX4_acknowledge_82 : decode cX4_acknowledge 82 = .ok (.aload_n 0, 1) := by decide +kernel
theorem dX4_acknowledge_83 : decode cX4_acknowledge 83 = .ok (.iload_n 2, 1) := by decide +kernel
theorem dX4_acknowledge_84 : decode cX4_acknowledge 84 = .ok (.invokevirtual 128, 3) := by decide +kernel
theorem dX4_acknowledge_87 : decode cX4_acknowledge 87 = .ok (.aload_n 0, 1) := by decide +kernel
theorem dX4_acknowledge_88 : decode cX4_acknowledge 88 = .ok (.getfield 15, 3) := by decide +kernel
theorem dX4_acknowledge_91 : decode cX4_acknowledge 91 = .ok (.iload_n 2, 1) := by decide +kernel
theorem dX4_acknowledge_92 : decode cX4_acknowledge 92 = .ok (.iconst (-1), 1) := by decide +kernel
theorem dX4_acknowledge_93 : decode cX4_acknowledge 93 = .ok (.iastore, 1) := by decide +kernel
theorem dX4_acknowledge_94 : decode cX4_acknowledge 94 = .ok (.aload_n 0, 1) := by decide +kernel
theorem dX4_acknowledge_95 : decode cX4_acknowledge 95 = .ok (.getfield 24, 3) := by decide +kernel
theorem dX4_acknowledge_98 : decode cX4_acknowledge 98 = .ok (.iload_n 2, 1) := by decide +kernel
theorem dX4_acknowledge_99 : decode cX4_acknowledge 99 = .ok (.iconst (-1), 1) := by decide +kernel
theorem dX4_acknowledge_100 : decode cX4_acknowledge 100 = .ok (.iastore, 1) := by decide +kernel
theorem dX4_acknowledge_101 : decode cX4_acknowledge 101 = .ok (.iconst 1, 1) := by decide +kernel
theorem dX4_acknowledge_102 : decode cX4_acknowledge 102 = .ok (.ireturn, 1) := by decide +kernel
theorem dX4_acknowledge_103 : decode cX4_acknowledge 103 = .ok (.aload_n 0, 1) := by decide +kernel
theorem dX4_acknowledge_104 : decode cX4_acknowledge 104 = .ok (.getfield 27, 3) := by decide +kernel
theorem dX4_acknowledge_107 : decode cX4_acknowledge 107 = .ok (.iload_n 2, 1) := by decide +kernel
theorem dX4_acknowledge_108 : decode cX4_acknowledge 108 = .ok (.iaload, 1) := by decide +kernel
theorem dX4_acknowledge_109 : decode cX4_acknowledge 109 = .ok (.ifCond .ne 41, 3) := by decide +kernel
theorem dX4_acknowledge_112 : decode cX4_acknowledge 112 = .ok (.aload_n 0, 1) := by decide +kernel
theorem dX4_acknowledge_113 : decode cX4_acknowledge 113 = .ok (.getfield 21, 3) := by decide +kernel
theorem dX4_acknowledge_116 : decode cX4_acknowledge 116 = .ok (.iload_n 2, 1) := by decide +kernel
theorem dX4_acknowledge_117 : decode cX4_acknowledge 117 = .ok (.dup2, 1) := by decide +kernel
theorem dX4_acknowledge_118 : decode cX4_acknowledge 118 = .ok (.iaload, 1) := by decide +kernel
theorem dX4_acknowledge_119 : decode cX4_acknowledge 119 = .ok (.iconst 1, 1) := by decide +kernel
theorem dX4_acknowledge_120 : decode cX4_acknowledge 120 = .ok (.aload_n 0, 1) := by decide +kernel
theorem dX4_acknowledge_121 : decode cX4_acknowledge 121 = .ok (.getfield 18, 3) := by decide +kernel
theorem dX4_acknowledge_124 : decode cX4_acknowledge 124 = .ok (.iload_n 2, 1) := by decide +kernel
theorem dX4_acknowledge_125 : decode cX4_acknowledge 125 = .ok (.iaload, 1) := by decide +kernel
theorem dX4_acknowledge_126 : decode cX4_acknowledge 126 = .ok (.ishl, 1) := by decide +kernel
theorem dX4_acknowledge_127 : decode cX4_acknowledge 127 = .ok (.ior, 1) := by decide +kernel
theorem dX4_acknowledge_128 : decode cX4_acknowledge 128 = .ok (.iastore, 1) := by decide +kernel
theorem dX4_acknowledge_129 : decode cX4_acknowledge 129 = .ok (.aload_n 0, 1) := by decide +kernel
theorem dX4_acknowledge_130 : decode cX4_acknowledge 130 = .ok (.getfield 18, 3) := by decide +kernel
theorem dX4_acknowledge_133 : decode cX4_acknowledge 133 = .ok (.iload_n 2, 1) := by decide +kernel
theorem dX4_acknowledge_134 : decode cX4_acknowledge 134 = .ok (.iconst (-1), 1) := by decide +kernel
theorem dX4_acknowledge_135 : decode cX4_acknowledge 135 = .ok (.iastore, 1) := by decide +kernel
theorem dX4_acknowledge_136 : decode cX4_acknowledge 136 = .ok (.aload_n 0, 1) := by decide +kernel
theorem dX4_acknowledge_137 : decode cX4_acknowledge 137 = .ok (.iload_n 2, 1) := by decide +kernel
theorem dX4_acknowledge_138 : decode cX4_acknowledge 138 = .ok (.aload_n 0, 1) := by decide +kernel
theorem dX4_acknowledge_139 : decode cX4_acknowledge 139 = .ok (.getfield 24, 3) := by decide +kernel
theorem dX4_acknowledge_142 : decode cX4_acknowledge 142 = .ok (.iload_n 2, 1) := by decide +kernel
theorem dX4_acknowledge_143 : decode cX4_acknowledge 143 = .ok (.iaload, 1) := by decide +kernel
theorem dX4_acknowledge_144 : decode cX4_acknowledge 144 = .ok (.invokevirtual 131, 3) := by decide +kernel
theorem dX4_acknowledge_147 : decode cX4_acknowledge 147 = .ok (.goto 14, 3) := by decide +kernel
theorem dX4_acknowledge_150 : decode cX4_acknowledge 150 = .ok (.aload_n 0, 1) := by decide +kernel
theorem dX4_acknowledge_151 : decode cX4_acknowledge 151 = .ok (.iload_n 2, 1) := by decide +kernel
theorem dX4_acknowledge_152 : decode cX4_acknowledge 152 = .ok (.aload_n 0, 1) := by decide +kernel
theorem dX4_acknowledge_153 : decode cX4_acknowledge 153 = .ok (.getfield 24, 3) := by decide +kernel
theorem dX4_acknowledge_156 : decode cX4_acknowledge 156 = .ok (.iload_n 2, 1) := by decide +kernel
theorem dX4_acknowledge_157 : decode cX4_acknowledge 157 = .ok (.iaload, 1) := by decide +kernel
theorem dX4_acknowledge_158 : decode cX4_acknowledge 158 = .ok (.invokevirtual 118, 3) := by decide +kernel
theorem dX4_acknowledge_161 : decode cX4_acknowledge 161 = .ok (.iconst 0, 1) := by decide +kernel
theorem dX4_acknowledge_162 : decode cX4_acknowledge 162 = .ok (.ireturn, 1) := by decide +kernel
theorem dX6_init_0 : decode cX6_init 0 = .ok (.aload_n 0, 1) := by decide +kernel
theorem dX6_init_1 : decode cX6_init 1 = .ok (.invokespecial 3, 3) := by decide +kernel
theorem dX6_init_4 : decode cX6_init 4 = .ok (.aload_n 0, 1) := by decide +kernel
theorem dX6_init_5 : decode cX6_init 5 = .ok (.sipush 576, 3) := by decide +kernel
theorem dX6_init_8 : decode cX6_init 8 = .ok (.newarray .int, 2) := by decide +kernel
theorem dX6_init_10 : decode cX6_init 10 = .ok (.putfield 11, 3) := by decide +kernel
theorem dX6_init_13 : decode cX6_init 13 = .ok (.aload_n 0, 1) := by decide +kernel
theorem dX6_init_14 : decode cX6_init 14 = .ok (.bipush 9, 2) := by decide +kernel
theorem dX6_init_16 : decode cX6_init 16 = .ok (.newarray .int, 2) := by decide +kernel
theorem dX6_init_18 : decode cX6_init 18 = .ok (.putfield 15, 3) := by decide +kernel
theorem dX6_init_21 : decode cX6_init 21 = .ok (.return_, 1) := by decide +kernel
theorem dX6_clear_0 : decode cX6_clear 0 = .ok (.aload_n 0, 1) := by decide +kernel
theorem dX6_clear_1 : decode cX6_clear 1 = .ok (.iconst 0, 1) := by decide +kernel
theorem dX6_clear_2 : decode cX6_clear 2 = .ok (.putfield 18, 3) := by decide +kernel
theorem dX6_clear_5 : decode cX6_clear 5 = .ok (.aload_n 0, 1) := by decide +kernel
theorem dX6_clear_6 : decode cX6_clear 6 = .ok (.iconst 0, 1) := by decide +kernel
theorem dX6_clear_7 : decode cX6_clear 7 = .ok (.putfield 22, 3) := by decide +kernel
theorem dX6_clear_10 : decode cX6_clear 10 = .ok (.return_, 1) := by decide +kernel
theorem dX6_send_0 : decode cX6_send 0 = .ok (.aload_n 0, 1) := by decide +kernel
theorem dX6_send_1 : decode cX6_send 1 = .ok (.getfield 18, 3) := by decide +kernel
theorem dX6_send_4 : decode cX6_send 4 = .ok (.bipush 9, 2) := by decide +kernel
theorem dX6_send_6 : decode cX6_send 6 = .ok (.imul, 1) := by decide +kernel
theorem dX6_send_7 : decode cX6_send 7 = .ok (.istore 7, 2) := by decide +kernel
theorem dX6_send_9 : decode cX6_send 9 = .ok (.iload 7, 2) := by decide +kernel
theorem dX6_send_11 : decode cX6_send 11 = .ok (.bipush 9, 2) := by decide +kernel
theorem dX6_send_13 : decode cX6_send 13 = .ok (.iadd, 1) := by decide +kernel
theorem dX6_send_14 : decode cX6_send 14 = .ok (.aload_n 0, 1) := by decide +kernel
theorem dX6_send_15 : decode cX6_send 15 = .ok (.getfield 11, 3) := by decide +kernel
theorem dX6_send_18 : decode cX6_send 18 = .ok (.arraylength, 1) := by decide +kernel
theorem dX6_send_19 : decode cX6_send 19 = .ok (.if_icmp .le 21, 3) := by decide +kernel
theorem dX6_send_22 : decode cX6_send 22 = .ok (.aload_n 0, 1) := by decide +kernel
theorem dX6_send_23 : decode cX6_send 23 = .ok (.aload_n 0, 1) := by decide +kernel
theorem dX6_send_24 : decode cX6_send 24 = .ok (.getfield 11, 3) := by decide +kernel
theorem dX6_send_27 : decode cX6_send 27 = .ok (.aload_n 0, 1) := by decide +kernel
theorem dX6_send_28 : decode cX6_send 28 = .ok (.getfield 11, 3) := by decide +kernel
theorem dX6_send_31 : decode cX6_send 31 = .ok (.arraylength, 1) := by decide +kernel
theorem dX6_send_32 : decode cX6_send 32 = .ok (.iconst 2, 1) := by decide +kernel
theorem dX6_send_33 : decode cX6_send 33 = .ok (.imul, 1) := by decide +kernel
theorem dX6_send_34 : decode cX6_send 34 = .ok (.invokestatic 25, 3) := by decide +kernel
theorem dX6_send_37 : decode cX6_send 37 = .ok (.putfield 11, 3) := by decide +kernel
theorem dX6_send_40 : decode cX6_send 40 = .ok (.aload_n 0, 1) := by decide +kernel
theorem dX6_send_41 : decode cX6_send 41 = .ok (.getfield 11, 3) := by decide +kernel
theorem dX6_send_44 : decode cX6_send 44 = .ok (.iload 7, 2) := by decide +kernel
theorem dX6_send_46 : decode cX6_send 46 = .ok (.iconst 0, 1) := by decide +kernel
theorem dX6_send_47 : decode cX6_send 47 = .ok (.iadd, 1) := by decide +kernel
theorem dX6_send_48 : decode cX6_send 48 = .ok (.iload_n 1, 1) := by decide +kernel
theorem dX6_send_49 : decode cX6_send 49 = .ok (.iastore, 1) := by decide +kernel
theorem dX6_send_50 : decode cX6_send 50 = .ok (.aload_n 0, 1) := by decide +kernel
theorem dX6_send_51 : decode cX6_send 51 = .ok (.getfield 11, 3) := by decide +kernel
theorem dX6_send_54 : decode cX6_send 54 = .ok (.iload 7, 2) := by decide +kernel
theorem dX6_send_56 : decode cX6_send 56 = .ok (.iconst 1, 1) := by decide +kernel
theorem dX6_send_57 : decode cX6_send 57 = .ok (.iadd, 1) := by decide +kernel
theorem dX6_send_58 : decode cX6_send 58 = .ok (.iload_n 2, 1) := by decide +kernel
theorem dX6_send_59 : decode cX6_send 59 = .ok (.iastore, 1) := by decide +kernel
theorem dX6_send_60 : decode cX6_send 60 = .ok (.aload_n 0, 1) := by decide +kernel
theorem dX6_send_61 : decode cX6_send 61 = .ok (.getfield 11, 3) := by decide +kernel
theorem dX6_send_64 : decode cX6_send 64 = .ok (.iload 7, 2) := by decide +kernel
theorem dX6_send_66 : decode cX6_send 66 = .ok (.iconst 2, 1) := by decide +kernel
theorem dX6_send_67 : decode cX6_send 67 = .ok (.iadd, 1) := by decide +kernel
theorem dX6_send_68 : decode cX6_send 68 = .ok (.iload_n 3, 1) := by decide +kernel
theorem dX6_send_69 : decode cX6_send 69 = .ok (.iastore, 1) := by decide +kernel
theorem dX6_send_70 : decode cX6_send 70 = .ok (.aload_n 0, 1) := by decide +kernel
theorem dX6_send_71 : decode cX6_send 71 = .ok (.getfield 11, 3) := by decide +kernel
theorem dX6_send_74 : decode cX6_send 74 = .ok (.iload 7, 2) := by decide +kernel
theorem dX6_send_76 : decode cX6_send 76 = .ok (.iconst 3, 1) := by decide +kernel
theorem dX6_send_77 : decode cX6_send 77 = .ok (.iadd, 1) := by decide +kernel
theorem dX6_send_78 : decode cX6_send 78 = .ok (.iload 4, 2) := by decide +kernel
theorem dX6_send_80 : decode cX6_send 80 = .ok (.iastore, 1) := by decide +kernel
theorem dX6_send_81 : decode cX6_send 81 = .ok (.aload_n 0, 1) := by decide +kernel
theorem dX6_send_82 : decode cX6_send 82 = .ok (.getfield 11, 3) := by decide +kernel
theorem dX6_send_85 : decode cX6_send 85 = .ok (.iload 7, 2) := by decide +kernel
theorem dX6_send_87 : decode cX6_send 87 = .ok (.iconst 4, 1) := by decide +kernel
theorem dX6_send_88 : decode cX6_send 88 = .ok (.iadd, 1) := by decide +kernel
theorem dX6_send_89 : decode cX6_send 89 = .ok (.aload 5, 2) := by decide +kernel
theorem dX6_send_91 : decode cX6_send 91 = .ok (.ifnonnull 7, 3) := by decide +kernel
theorem dX6_send_94 : decode cX6_send 94 = .ok (.iconst 0, 1) := by decide +kernel
theorem dX6_send_95 : decode cX6_send 95 = .ok (.goto 4, 3) := by decide +kernel
theorem dX6_send_98 : decode cX6_send 98 = .ok (.iconst 1, 1) := by decide +kernel
theorem dX6_send_99 : decode cX6_send 99 = .ok (.iastore, 1) := by decide +kernel
theorem dX6_send_100 : decode cX6_send 100 = .ok (.iconst 0, 1) := by decide +kernel
theorem dX6_send_101 : decode cX6_send 101 = .ok (.istore 8, 2) := by decide +kernel
theorem dX6_send_103 : decode cX6_send 103 = .ok (.iload 8, 2) := by decide +kernel
theorem dX6_send_105 : decode cX6_send 105 = .ok (.iconst 4, 1) := by decide +kernel
theorem dX6_send_106 : decode cX6_send 106 = .ok (.if_icmp .ge 38, 3) := by decide +kernel
theorem dX6_send_109 : decode cX6_send 109 = .ok (.aload_n 0, 1) := by decide +kernel
theorem dX6_send_110 : decode cX6_send 110 = .ok (.getfield 11, 3) := by decide +kernel
theorem dX6_send_113 : decode cX6_send 113 = .ok (.iload 7, 2) := by decide +kernel
theorem dX6_send_115 : decode cX6_send 115 = .ok (.iconst 5, 1) := by decide +kernel
theorem dX6_send_116 : decode cX6_send 116 = .ok (.iadd, 1) := by decide +kernel
theorem dX6_send_117 : decode cX6_send 117 = .ok (.iload 8, 2) := by decide +kernel
theorem dX6_send_119 : decode cX6_send 119 = .ok (.iadd, 1) := by decide +kernel
theorem dX6_send_120 : decode cX6_send 120 = .ok (.aload 5, 2) := by decide +kernel
theorem dX6_send_122 : decode cX6_send 122 = .ok (.ifnonnull 7, 3) := by decide +kernel
theorem dX6_send_125 : decode cX6_send 125 = .ok (.iconst 0, 1) := by decide +kernel
theorem dX6_send_126 : decode cX6_send 126 = .ok (.goto 11, 3) := by decide +kernel
theorem dX6_send_129 : decode cX6_send 129 = .ok (.aload 5, 2) := by decide +kernel
theorem dX6_send_131 : decode cX6_send 131 = .ok (.iload 6, 2) := by decide +kernel
theorem dX6_send_133 : decode cX6_send 133 = .ok (.iload 8, 2) := by decide +kernel
theorem dX6_send_135 : decode cX6_send 135 = .ok (.iadd, 1) := by decide +kernel
theorem dX6_send_136 : decode cX6_send 136 = .ok (.iaload, 1) := by decide +kernel
theorem dX6_send_137 : decode cX6_send 137 = .ok (.iastore, 1) := by decide +kernel
theorem dX6_send_138 : decode cX6_send 138 = .ok (.iinc 8 1, 3) := by decide +kernel
theorem dX6_send_141 : decode cX6_send 141 = .ok (.goto (-38), 3) := by decide +kernel
theorem dX6_send_144 : decode cX6_send 144 = .ok (.aload_n 0, 1) := by decide +kernel
theorem dX6_send_145 : decode cX6_send 145 = .ok (.dup, 1) := by decide +kernel
theorem dX6_send_146 : decode cX6_send 146 = .ok (.getfield 18, 3) := by decide +kernel
theorem dX6_send_149 : decode cX6_send 149 = .ok (.iconst 1, 1) := by decide +kernel
theorem dX6_send_150 : decode cX6_send 150 = .ok (.iadd, 1) := by decide +kernel
theorem dX6_send_151 : decode cX6_send 151 = .ok (.putfield 18, 3) := by decide +kernel
theorem dX6_send_154 : decode cX6_send 154 = .ok (.return_, 1) := by decide +kernel
theorem dX6_takeOut_0 : decode cX6_takeOut 0 = .ok (.iload_n 1, 1) := by decide +kernel
theorem dX6_takeOut_1 : decode cX6_takeOut 1 = .ok (.ifCond .lt 11, 3) := by decide +kernel
theorem dX6_takeOut_4 : decode cX6_takeOut 4 = .ok (.iload_n 1, 1) := by decide +kernel
theorem dX6_takeOut_5 : decode cX6_takeOut 5 = .ok (.aload_n 0, 1) := by decide +kernel
theorem dX6_takeOut_6 : decode cX6_takeOut 6 = .ok (.getfield 18, 3) := by decide +kernel
theorem dX6_takeOut_9 : decode cX6_takeOut 9 = .ok (.if_icmp .lt 5, 3) := by decide +kernel
theorem dX6_takeOut_12 : decode cX6_takeOut 12 = .ok (.iconst 0, 1) := by decide +kernel
theorem dX6_takeOut_13 : decode cX6_takeOut 13 = .ok (.ireturn, 1) := by decide +kernel
theorem dX6_takeOut_14 : decode cX6_takeOut 14 = .ok (.aload_n 0, 1) := by decide +kernel
theorem dX6_takeOut_15 : decode cX6_takeOut 15 = .ok (.getfield 11, 3) := by decide +kernel
theorem dX6_takeOut_18 : decode cX6_takeOut 18 = .ok (.iload_n 1, 1) := by decide +kernel
theorem dX6_takeOut_19 : decode cX6_takeOut 19 = .ok (.bipush 9, 2) := by decide +kernel
theorem dX6_takeOut_21 : decode cX6_takeOut 21 = .ok (.imul, 1) := by decide +kernel
theorem dX6_takeOut_22 : decode cX6_takeOut 22 = .ok (.aload_n 0, 1) := by decide +kernel
theorem dX6_takeOut_23 : decode cX6_takeOut 23 = .ok (.getfield 15, 3) := by decide +kernel
theorem dX6_takeOut_26 : decode cX6_takeOut 26 = .ok (.iconst 0, 1) := by decide +kernel
theorem dX6_takeOut_27 : decode cX6_takeOut 27 = .ok (.bipush 9, 2) := by decide +kernel
theorem dX6_takeOut_29 : decode cX6_takeOut 29 = .ok (.invokestatic 31, 3) := by decide +kernel
theorem dX6_takeOut_32 : decode cX6_takeOut 32 = .ok (.aload_n 0, 1) := by decide +kernel
theorem dX6_takeOut_33 : decode cX6_takeOut 33 = .ok (.getfield 11, 3) := by decide +kernel
theorem dX6_takeOut_36 : decode cX6_takeOut 36 = .ok (.iload_n 1, 1) := by decide +kernel
theorem dX6_takeOut_37 : decode cX6_takeOut 37 = .ok (.iconst 1, 1) := by decide +kernel
theorem dX6_takeOut_38 : decode cX6_takeOut 38 = .ok (.iadd, 1) := by decide +kernel
theorem dX6_takeOut_39 : decode cX6_takeOut 39 = .ok (.bipush 9, 2) := by decide +kernel
theorem dX6_takeOut_41 : decode cX6_takeOut 41 = .ok (.imul, 1) := by decide +kernel
theorem dX6_takeOut_42 : decode cX6_takeOut 42 = .ok (.aload_n 0, 1) := by decide +kernel
theorem dX6_takeOut_43 : decode cX6_takeOut 43 = .ok (.getfield 11, 3) := by decide +kernel
theorem dX6_takeOut_46 : decode cX6_takeOut 46 = .ok (.iload_n 1, 1) := by decide +kernel
theorem dX6_takeOut_47 : decode cX6_takeOut 47 = .ok (.bipush 9, 2) := by decide +kernel
theorem dX6_takeOut_49 : decode cX6_takeOut 49 = .ok (.imul, 1) := by decide +kernel
theorem dX6_takeOut_50 : decode cX6_takeOut 50 = .ok (.aload_n 0, 1) := by decide +kernel
theorem dX6_takeOut_51 : decode cX6_takeOut 51 = .ok (.getfield 18, 3) := by decide +kernel
theorem dX6_takeOut_54 : decode cX6_takeOut 54 = .ok (.iload_n 1, 1) := by decide +kernel
theorem dX6_takeOut_55 : decode cX6_takeOut 55 = .ok (.isub, 1) := by decide +kernel
theorem dX6_takeOut_56 : decode cX6_takeOut 56 = .ok (.iconst 1, 1) := by decide +kernel
theorem dX6_takeOut_57 : decode cX6_takeOut 57 = .ok (.isub, 1) := by decide +kernel
theorem dX6_takeOut_58 : decode cX6_takeOut 58 = .ok (.bipush 9, 2) := by decide +kernel
theorem dX6_takeOut_60 : decode cX6_takeOut 60 = .ok (.imul, 1) := by decide +kernel
theorem dX6_takeOut_61 : decode cX6_takeOut 61 = .ok (.invokestatic 31, 3) := by decide +kernel
theorem dX6_takeOut_64 : decode cX6_takeOut 64 = .ok (.aload_n 0, 1) := by decide +kernel
theorem dX6_takeOut_65 : decode cX6_takeOut 65 = .ok (.dup, 1) := by decide +kernel
theorem dX6_takeOut_66 : decode cX6_takeOut 66 = .ok (.getfield 18, 3) := by decide +kernel
theorem dX6_takeOut_69 : decode cX6_takeOut 69 = .ok (.iconst 1, 1) := by decide +kernel
theorem dX6_takeOut_70 : decode cX6_takeOut 70 = .ok (.isub, 1) := by decide +kernel
theorem dX6_takeOut_71 : decode cX6_takeOut 71 = .ok (.putfield 18, 3) := by decide +kernel
theorem dX6_takeOut_74 : decode cX6_takeOut 74 = .ok (.aload_n 0, 1) := by decide +kernel
theorem dX6_takeOut_75 : decode cX6_takeOut 75 = .ok (.dup, 1) := by decide +kernel
theorem dX6_takeOut_76 : decode cX6_takeOut 76 = .ok (.getfield 22, 3) := by decide +kernel
theorem dX6_takeOut_79 : decode cX6_takeOut 79 = .ok (.iconst 1, 1) := by decide +kernel
theorem dX6_takeOut_80 : decode cX6_takeOut 80 = .ok (.iadd, 1) := by decide +kernel
theorem dX6_takeOut_81 : decode cX6_takeOut 81 = .ok (.putfield 22, 3) := by decide +kernel
theorem dX6_takeOut_84 : decode cX6_takeOut 84 = .ok (.iconst 1, 1) := by decide +kernel
theorem dX6_takeOut_85 : decode cX6_takeOut 85 = .ok (.ireturn, 1) := by decide +kernel
theorem dX6_get_0 : decode cX6_get 0 = .ok (.aload_n 0, 1) := by decide +kernel
theorem dX6_get_1 : decode cX6_get 1 = .ok (.getfield 11, 3) := by decide +kernel
theorem dX6_get_4 : decode cX6_get 4 = .ok (.iload_n 1, 1) := by decide +kernel
theorem dX6_get_5 : decode cX6_get 5 = .ok (.bipush 9, 2) := by decide +kernel
theorem dX6_get_7 : decode cX6_get 7 = .ok (.imul, 1) := by decide +kernel
theorem dX6_get_8 : decode cX6_get 8 = .ok (.iload_n 2, 1) := by decide +kernel
theorem dX6_get_9 : decode cX6_get 9 = .ok (.iadd, 1) := by decide +kernel
theorem dX6_get_10 : decode cX6_get 10 = .ok (.iaload, 1) := by decide +kernel
theorem dX6_get_11 : decode cX6_get 11 = .ok (.ireturn, 1) := by decide +kernel
theorem dX6_placeOn_0 : decode cX6_placeOn 0 = .ok (.iload_n 2, 1) := by decide +kernel
theorem dX6_placeOn_1 : decode cX6_placeOn 1 = .ok (.istore_n 3, 1) := by decide +kernel
theorem dX6_placeOn_2 : decode cX6_placeOn 2 = .ok (.iconst 0, 1) := by decide +kernel
theorem dX6_placeOn_3 : decode cX6_placeOn 3 = .ok (.istore 4, 2) := by decide +kernel
theorem dX6_placeOn_5 : decode cX6_placeOn 5 = .ok (.iload 4, 2) := by decide +kernel
theorem dX6_placeOn_7 : decode cX6_placeOn 7 = .ok (.aload_n 0, 1) := by decide +kernel
theorem dX6_placeOn_8 : decode cX6_placeOn 8 = .ok (.getfield 18, 3) := by decide +kernel
theorem dX6_placeOn_11 : decode cX6_placeOn 11 = .ok (.if_icmp .ge 38, 3) := by decide +kernel
theorem dX6_placeOn_14 : decode cX6_placeOn 14 = .ok (.iload_n 3, 1) := by decide +kernel
theorem dX6_placeOn_15 : decode cX6_placeOn 15 = .ok (.ifCond .lt 34, 3) := by decide +kernel
theorem dX6_placeOn_18 : decode cX6_placeOn 18 = .ok (.getstatic 37, 3) := by decide +kernel
theorem dX6_placeOn_21 : decode cX6_placeOn 21 = .ok (.aload_n 0, 1) := by decide +kernel
theorem dX6_placeOn_22 : decode cX6_placeOn 22 = .ok (.iload 4, 2) := by decide +kernel
theorem dX6_placeOn_24 : decode cX6_placeOn 24 = .ok (.iconst 0, 1) := by decide +kernel
theorem dX6_placeOn_25 : decode cX6_placeOn 25 = .ok (.invokevirtual 40, 3) := by decide +kernel
theorem dX6_placeOn_28 : decode cX6_placeOn 28 = .ok (.iaload, 1) := by decide +kernel
theorem dX6_placeOn_29 : decode cX6_placeOn 29 = .ok (.iload_n 1, 1) := by decide +kernel
theorem dX6_placeOn_30 : decode cX6_placeOn 30 = .ok (.if_icmp .ne 13, 3) := by decide +kernel
theorem dX6_placeOn_33 : decode cX6_placeOn 33 = .ok (.iload_n 3, 1) := by decide +kernel
theorem dX6_placeOn_34 : decode cX6_placeOn 34 = .ok (.ifCond .ne 6, 3) := by decide +kernel
theorem dX6_placeOn_37 : decode cX6_placeOn 37 = .ok (.iload 4, 2) := by decide +kernel
theorem dX6_placeOn_39 : decode cX6_placeOn 39 = .ok (.ireturn, 1) := by decide +kernel
theorem dX6_placeOn_40 : decode cX6_placeOn 40 = .ok (.iinc 3 (-1), 3) := by decide +kernel
theorem dX6_placeOn_43 : decode cX6_placeOn 43 = .ok (.iinc 4 1, 3) := by decide +kernel
theorem dX6_placeOn_46 : decode cX6_placeOn 46 = .ok (.goto (-41), 3) := by decide +kernel
theorem dX6_placeOn_49 : decode cX6_placeOn 49 = .ok (.iconst (-1), 1) := by decide +kernel
theorem dX6_placeOn_50 : decode cX6_placeOn 50 = .ok (.ireturn, 1) := by decide +kernel
theorem dX6_placeOfWords_0 : decode cX6_placeOfWords 0 = .ok (.iconst 0, 1) := by decide +kernel
theorem dX6_placeOfWords_1 : decode cX6_placeOfWords 1 = .ok (.istore_n 3, 1) := by decide +kernel
theorem dX6_placeOfWords_2 : decode cX6_placeOfWords 2 = .ok (.iload_n 3, 1) := by decide +kernel
theorem dX6_placeOfWords_3 : decode cX6_placeOfWords 3 = .ok (.aload_n 0, 1) := by decide +kernel
theorem dX6_placeOfWords_4 : decode cX6_placeOfWords 4 = .ok (.getfield 18, 3) := by decide +kernel
theorem dX6_placeOfWords_7 : decode cX6_placeOfWords 7 = .ok (.if_icmp .ge 41, 3) := by decide +kernel
theorem dX6_placeOfWords_10 : decode cX6_placeOfWords 10 = .ok (.aload_n 0, 1) := by decide +kernel
theorem dX6_placeOfWords_11 : decode cX6_placeOfWords 11 = .ok (.iload_n 3, 1) := by decide +kernel
theorem dX6_placeOfWords_12 : decode cX6_placeOfWords 12 = .ok (.iconst 0, 1) := by decide +kernel
theorem dX6_placeOfWords_13 : decode cX6_placeOfWords 13 = .ok (.invokevirtual 40, 3) := by decide +kernel
theorem dX6_placeOfWords_16 : decode cX6_placeOfWords 16 = .ok (.iload_n 1, 1) := by decide +kernel
theorem dX6_placeOfWords_17 : decode cX6_placeOfWords 17 = .ok (.if_icmp .ne 25, 3) := by decide +kernel
theorem dX6_placeOfWords_20 : decode cX6_placeOfWords 20 = .ok (.aload_n 0, 1) := by decide +kernel
theorem dX6_placeOfWords_21 : decode cX6_placeOfWords 21 = .ok (.iload_n 3, 1) := by decide +kernel
theorem dX6_placeOfWords_22 : decode cX6_placeOfWords 22 = .ok (.iconst 3, 1) := by decide +kernel
theorem dX6_placeOfWords_23 : decode cX6_placeOfWords 23 = .ok (.invokevirtual 40, 3) := by decide +kernel
theorem dX6_placeOfWords_26 : decode cX6_placeOfWords 26 = .ok (.iload_n 2, 1) := by decide +kernel
theorem dX6_placeOfWords_27 : decode cX6_placeOfWords 27 = .ok (.if_icmp .ne 15, 3) := by decide +kernel
theorem dX6_placeOfWords_30 : decode cX6_placeOfWords 30 = .ok (.aload_n 0, 1) := by decide +kernel
theorem dX6_placeOfWords_31 : decode cX6_placeOfWords 31 = .ok (.iload_n 3, 1) := by decide +kernel
theorem dX6_placeOfWords_32 : decode cX6_placeOfWords 32 = .ok (.iconst 4, 1) := by decide +kernel
theorem dX6_placeOfWords_33 : decode cX6_placeOfWords 33 = .ok (.invokevirtual 40, 3) := by decide +kernel
theorem dX6_placeOfWords_36 : decode cX6_placeOfWords 36 = .ok (.iconst 1, 1) := by decide +kernel
theorem dX6_placeOfWords_37 : decode cX6_placeOfWords 37 = .ok (.if_icmp .ne 5, 3) := by decide +kernel
theorem dX6_placeOfWords_40 : decode cX6_placeOfWords 40 = .ok (.iload_n 3, 1) := by decide +kernel
theorem dX6_placeOfWords_41 : decode cX6_placeOfWords 41 = .ok (.ireturn, 1) := by decide +kernel
theorem dX6_placeOfWords_42 : decode cX6_placeOfWords 42 = .ok (.iinc 3 1, 3) := by decide +kernel
theorem dX6_placeOfWords_45 : decode cX6_placeOfWords 45 = .ok (.goto (-43), 3) := by decide +kernel
theorem dX6_placeOfWords_48 : decode cX6_placeOfWords 48 = .ok (.iconst (-1), 1) := by decide +kernel
theorem dX6_placeOfWords_49 : decode cX6_placeOfWords 49 = .ok (.ireturn, 1) := by decide +kernel
theorem dX7_init_0 : decode cX7_init 0 = .ok (.aload_n 0, 1) := by decide +kernel
theorem dX7_init_1 : decode cX7_init 1 = .ok (.invokespecial 3, 3) := by decide +kernel
theorem dX7_init_4 : decode cX7_init 4 = .ok (.aload_n 0, 1) := by decide +kernel
theorem dX7_init_5 : decode cX7_init 5 = .ok (.bipush 48, 2) := by decide +kernel
theorem dX7_init_7 : decode cX7_init 7 = .ok (.newarray .int, 2) := by decide +kernel
theorem dX7_init_9 : decode cX7_init 9 = .ok (.putfield 11, 3) := by decide +kernel
theorem dX7_init_12 : decode cX7_init 12 = .ok (.return_, 1) := by decide +kernel
theorem dX7_begin_0 : decode cX7_begin 0 = .ok (.aload_n 0, 1) := by decide +kernel
theorem dX7_begin_1 : decode cX7_begin 1 = .ok (.iload_n 1, 1) := by decide +kernel
theorem dX7_begin_2 : decode cX7_begin 2 = .ok (.putfield 15, 3) := by decide +kernel
theorem dX7_begin_5 : decode cX7_begin 5 = .ok (.aload_n 0, 1) := by decide +kernel
theorem dX7_begin_6 : decode cX7_begin 6 = .ok (.iconst 0, 1) := by decide +kernel
theorem dX7_begin_7 : decode cX7_begin 7 = .ok (.putfield 19, 3) := by decide +kernel
theorem dX7_begin_10 : decode cX7_begin 10 = .ok (.return_, 1) := by decide +kernel
theorem dX7_isFull_0 : decode cX7_isFull 0 = .ok (.aload_n 0, 1) := by decide +kernel
theorem dX7_isFull_1 : decode cX7_isFull 1 = .ok (.getfield 19, 3) := by decide +kernel
theorem dX7_isFull_4 : decode cX7_isFull 4 = .ok (.aload_n 0, 1) := by decide +kernel
theorem dX7_isFull_5 : decode cX7_isFull 5 = .ok (.getfield 15, 3) := by decide +kernel
theorem dX7_isFull_8 : decode cX7_isFull 8 = .ok (.if_icmp .lt 7, 3) := by decide +kernel
theorem dX7_isFull_11 : decode cX7_isFull 11 = .ok (.iconst 1, 1) := by decide +kernel
theorem dX7_isFull_12 : decode cX7_isFull 12 = .ok (.goto 4, 3) := by decide +kernel
theorem dX7_isFull_15 : decode cX7_isFull 15 = .ok (.iconst 0, 1) := by decide +kernel
theorem dX7_isFull_16 : decode cX7_isFull 16 = .ok (.ireturn, 1) := by decide +kernel
theorem dX7_add_0 : decode cX7_add 0 = .ok (.aload_n 0, 1) := by decide +kernel
theorem dX7_add_1 : decode cX7_add 1 = .ok (.getfield 11, 3) := by decide +kernel
theorem dX7_add_4 : decode cX7_add 4 = .ok (.aload_n 0, 1) := by decide +kernel
theorem dX7_add_5 : decode cX7_add 5 = .ok (.getfield 19, 3) := by decide +kernel
theorem dX7_add_8 : decode cX7_add 8 = .ok (.iconst 3, 1) := by decide +kernel
theorem dX7_add_9 : decode cX7_add 9 = .ok (.imul, 1) := by decide +kernel
theorem dX7_add_10 : decode cX7_add 10 = .ok (.iconst 0, 1) := by decide +kernel
theorem dX7_add_11 : decode cX7_add 11 = .ok (.iadd, 1) := by decide +kernel
theorem dX7_add_12 : decode cX7_add 12 = .ok (.iload_n 1, 1) := by decide +kernel
theorem dX7_add_13 : decode cX7_add 13 = .ok (.iastore, 1) := by decide +kernel
theorem dX7_add_14 : decode cX7_add 14 = .ok (.aload_n 0, 1) := by decide +kernel
theorem dX7_add_15 : decode cX7_add 15 = .ok (.getfield 11, 3) := by decide +kernel
theorem dX7_add_18 : decode cX7_add 18 = .ok (.aload_n 0, 1) := by decide +kernel
theorem dX7_add_19 : decode cX7_add 19 = .ok (.getfield 19, 3) := by decide +kernel
theorem dX7_add_22 : decode cX7_add 22 = .ok (.iconst 3, 1) := by decide +kernel
theorem dX7_add_23 : decode cX7_add 23 = .ok (.imul, 1) := by decide +kernel
theorem dX7_add_24 : decode cX7_add 24 = .ok (.iconst 1, 1) := by decide +kernel
theorem dX7_add_25 : decode cX7_add 25 = .ok (.iadd, 1) := by decide +kernel
theorem dX7_add_26 : decode cX7_add 26 = .ok (.iload_n 2, 1) := by decide +kernel
theorem dX7_add_27 : decode cX7_add 27 = .ok (.iastore, 1) := by decide +kernel
theorem dX7_add_28 : decode cX7_add 28 = .ok (.aload_n 0, 1) := by decide +kernel
theorem dX7_add_29 : decode cX7_add 29 = .ok (.getfield 11, 3) := by decide +kernel
theorem dX7_add_32 : decode cX7_add 32 = .ok (.aload_n 0, 1) := by decide +kernel
theorem dX7_add_33 : decode cX7_add 33 = .ok (.getfield 19, 3) := by decide +kernel
theorem dX7_add_36 : decode cX7_add 36 = .ok (.iconst 3, 1) := by decide +kernel
theorem dX7_add_37 : decode cX7_add 37 = .ok (.imul, 1) := by decide +kernel
theorem dX7_add_38 : decode cX7_add 38 = .ok (.iconst 2, 1) := by decide +kernel
theorem dX7_add_39 : decode cX7_add 39 = .ok (.iadd, 1) := by decide +kernel
theorem dX7_add_40 : decode cX7_add 40 = .ok (.iload_n 3, 1) := by decide +kernel
theorem dX7_add_41 : decode cX7_add 41 = .ok (.iastore, 1) := by decide +kernel
theorem dX7_add_42 : decode cX7_add 42 = .ok (.aload_n 0, 1) := by decide +kernel
theorem dX7_add_43 : decode cX7_add 43 = .ok (.dup, 1) := by decide +kernel
theorem dX7_add_44 : decode cX7_add 44 = .ok (.getfield 19, 3) := by decide +kernel
theorem dX7_add_47 : decode cX7_add 47 = .ok (.iconst 1, 1) := by decide +kernel
theorem dX7_add_48 : decode cX7_add 48 = .ok (.iadd, 1) := by decide +kernel
theorem dX7_add_49 : decode cX7_add 49 = .ok (.putfield 19, 3) := by decide +kernel
theorem dX7_add_52 : decode cX7_add 52 = .ok (.return_, 1) := by decide +kernel
theorem dX7_removeOldest_0 : decode cX7_removeOldest 0 = .ok (.aload_n 0, 1) := by decide +kernel
theorem dX7_removeOldest_1 : decode cX7_removeOldest 1 = .ok (.dup, 1) := by decide +kernel
theorem dX7_removeOldest_2 : decode cX7_removeOldest 2 = .ok (.getfield 19, 3) := by decide +kernel
theorem dX7_removeOldest_5 : decode cX7_removeOldest 5 = .ok (.iconst 1, 1) := by decide +kernel
theorem dX7_removeOldest_6 : decode cX7_removeOldest 6 = .ok (.isub, 1) := by decide +kernel
theorem dX7_removeOldest_7 : decode cX7_removeOldest 7 = .ok (.putfield 19, 3) := by decide +kernel
theorem dX7_removeOldest_10 : decode cX7_removeOldest 10 = .ok (.aload_n 0, 1) := by decide +kernel
theorem dX7_removeOldest_11 : decode cX7_removeOldest 11 = .ok (.getfield 11, 3) := by decide +kernel
theorem dX7_removeOldest_14 : decode cX7_removeOldest 14 = .ok (.iconst 3, 1) := by decide +kernel
theorem dX7_removeOldest_15 : decode cX7_removeOldest 15 = .ok (.aload_n 0, 1) := by decide +kernel
theorem dX7_removeOldest_16 : decode cX7_removeOldest 16 = .ok (.getfield 11, 3) := by decide +kernel
theorem dX7_removeOldest_19 : decode cX7_removeOldest 19 = .ok (.iconst 0, 1) := by decide +kernel
theorem dX7_removeOldest_20 : decode cX7_removeOldest 20 = .ok (.aload_n 0, 1) := by decide +kernel
theorem dX7_removeOldest_21 : decode cX7_removeOldest 21 = .ok (.getfield 19, 3) := by decide +kernel
theorem dX7_removeOldest_24 : decode cX7_removeOldest 24 = .ok (.iconst 3, 1) := by decide +kernel
theorem dX7_removeOldest_25 : decode cX7_removeOldest 25 = .ok (.imul, 1) := by decide +kernel
theorem dX7_removeOldest_26 : decode cX7_removeOldest 26 = .ok (.invokestatic 22, 3) := by decide +kernel
theorem dX7_removeOldest_29 : decode cX7_removeOldest 29 = .ok (.return_, 1) := by decide +kernel
theorem dX7_get_0 : decode cX7_get 0 = .ok (.aload_n 0, 1) := by decide +kernel
theorem dX7_get_1 : decode cX7_get 1 = .ok (.getfield 11, 3) := by decide +kernel
theorem dX7_get_4 : decode cX7_get 4 = .ok (.iload_n 1, 1) := by decide +kernel
theorem dX7_get_5 : decode cX7_get 5 = .ok (.iconst 3, 1) := by decide +kernel
theorem dX7_get_6 : decode cX7_get 6 = .ok (.imul, 1) := by decide +kernel
theorem dX7_get_7 : decode cX7_get 7 = .ok (.iload_n 2, 1) := by decide +kernel
theorem dX7_get_8 : decode cX7_get 8 = .ok (.iadd, 1) := by decide +kernel
theorem dX7_get_9 : decode cX7_get 9 = .ok (.iaload, 1) := by decide +kernel
theorem dX7_get_10 : decode cX7_get 10 = .ok (.ireturn, 1) := by decide +kernel
theorem dX7_bytesAt_0 : decode cX7_bytesAt 0 = .ok (.iconst 0, 1) := by decide +kernel
theorem dX7_bytesAt_1 : decode cX7_bytesAt 1 = .ok (.istore_n 2, 1) := by decide +kernel
theorem dX7_bytesAt_2 : decode cX7_bytesAt 2 = .ok (.iconst 0, 1) := by decide +kernel
theorem dX7_bytesAt_3 : decode cX7_bytesAt 3 = .ok (.istore_n 3, 1) := by decide +kernel
theorem dX7_bytesAt_4 : decode cX7_bytesAt 4 = .ok (.iload_n 3, 1) := by decide +kernel
theorem dX7_bytesAt_5 : decode cX7_bytesAt 5 = .ok (.aload_n 0, 1) := by decide +kernel
theorem dX7_bytesAt_6 : decode cX7_bytesAt 6 = .ok (.getfield 19, 3) := by decide +kernel
theorem dX7_bytesAt_9 : decode cX7_bytesAt 9 = .ok (.if_icmp .ge 28, 3) := by decide +kernel
theorem dX7_bytesAt_12 : decode cX7_bytesAt 12 = .ok (.aload_n 0, 1) := by decide +kernel
theorem dX7_bytesAt_13 : decode cX7_bytesAt 13 = .ok (.iload_n 3, 1) := by decide +kernel
theorem dX7_bytesAt_14 : decode cX7_bytesAt 14 = .ok (.iconst 0, 1) := by decide +kernel
theorem dX7_bytesAt_15 : decode cX7_bytesAt 15 = .ok (.invokevirtual 28, 3) := by decide +kernel
theorem dX7_bytesAt_18 : decode cX7_bytesAt 18 = .ok (.iload_n 1, 1) := by decide +kernel
theorem dX7_bytesAt_19 : decode cX7_bytesAt 19 = .ok (.if_icmp .ne 12, 3) := by decide +kernel
theorem dX7_bytesAt_22 : decode cX7_bytesAt 22 = .ok (.iload_n 2, 1) := by decide +kernel
theorem dX7_bytesAt_23 : decode cX7_bytesAt 23 = .ok (.aload_n 0, 1) := by decide +kernel
theorem dX7_bytesAt_24 : decode cX7_bytesAt 24 = .ok (.iload_n 3, 1) := by decide +kernel
theorem dX7_bytesAt_25 : decode cX7_bytesAt 25 = .ok (.iconst 1, 1) := by decide +kernel
theorem dX7_bytesAt_26 : decode cX7_bytesAt 26 = .ok (.invokevirtual 28, 3) := by decide +kernel
theorem dX7_bytesAt_29 : decode cX7_bytesAt 29 = .ok (.ior, 1) := by decide +kernel
theorem dX7_bytesAt_30 : decode cX7_bytesAt 30 = .ok (.istore_n 2, 1) := by decide +kernel
theorem dX7_bytesAt_31 : decode cX7_bytesAt 31 = .ok (.iinc 3 1, 3) := by decide +kernel
theorem dX7_bytesAt_34 : decode cX7_bytesAt 34 = .ok (.goto (-30), 3) := by decide +kernel
theorem dX7_bytesAt_37 : decode cX7_bytesAt 37 = .ok (.iload_n 2, 1) := by decide +kernel
theorem dX7_bytesAt_38 : decode cX7_bytesAt 38 = .ok (.ireturn, 1) := by decide +kernel
theorem dX7_over_0 : decode cX7_over 0 = .ok (.iload_n 2, 1) := by decide +kernel
theorem dX7_over_1 : decode cX7_over 1 = .ok (.istore_n 3, 1) := by decide +kernel
theorem dX7_over_2 : decode cX7_over 2 = .ok (.iconst 0, 1) := by decide +kernel
theorem dX7_over_3 : decode cX7_over 3 = .ok (.istore 4, 2) := by decide +kernel
theorem dX7_over_5 : decode cX7_over 5 = .ok (.iload 4, 2) := by decide +kernel
theorem dX7_over_7 : decode cX7_over 7 = .ok (.aload_n 0, 1) := by decide +kernel
theorem dX7_over_8 : decode cX7_over 8 = .ok (.getfield 19, 3) := by decide +kernel
theorem dX7_over_11 : decode cX7_over 11 = .ok (.if_icmp .ge 47, 3) := by decide +kernel
theorem dX7_over_14 : decode cX7_over 14 = .ok (.aload_n 0, 1) := by decide +kernel
theorem dX7_over_15 : decode cX7_over 15 = .ok (.iload 4, 2) := by decide +kernel
theorem dX7_over_17 : decode cX7_over 17 = .ok (.iconst 0, 1) := by decide +kernel
theorem dX7_over_18 : decode cX7_over 18 = .ok (.invokevirtual 28, 3) := by decide +kernel
theorem dX7_over_21 : decode cX7_over 21 = .ok (.iload_n 1, 1) := by decide +kernel
theorem dX7_over_22 : decode cX7_over 22 = .ok (.if_icmp .ne 30, 3) := by decide +kernel
theorem dX7_over_25 : decode cX7_over 25 = .ok (.iload_n 3, 1) := by decide +kernel
theorem dX7_over_26 : decode cX7_over 26 = .ok (.getstatic 32, 3) := by decide +kernel
theorem dX7_over_29 : decode cX7_over 29 = .ok (.aload_n 0, 1) := by decide +kernel
theorem dX7_over_30 : decode cX7_over 30 = .ok (.iload 4, 2) := by decide +kernel
theorem dX7_over_32 : decode cX7_over 32 = .ok (.iconst 1, 1) := by decide +kernel
theorem dX7_over_33 : decode cX7_over 33 = .ok (.invokevirtual 28, 3) := by decide +kernel
theorem dX7_over_36 : decode cX7_over 36 = .ok (.bipush 15, 2) := by decide +kernel
theorem dX7_over_38 : decode cX7_over 38 = .ok (.iand, 1) := by decide +kernel
theorem dX7_over_39 : decode cX7_over 39 = .ok (.iaload, 1) := by decide +kernel
theorem dX7_over_40 : decode cX7_over 40 = .ok (.iconst (-1), 1) := by decide +kernel
theorem dX7_over_41 : decode cX7_over 41 = .ok (.ixor, 1) := by decide +kernel
theorem dX7_over_42 : decode cX7_over 42 = .ok (.iand, 1) := by decide +kernel
theorem dX7_over_43 : decode cX7_over 43 = .ok (.aload_n 0, 1) := by decide +kernel
theorem dX7_over_44 : decode cX7_over 44 = .ok (.iload 4, 2) := by decide +kernel
theorem dX7_over_46 : decode cX7_over 46 = .ok (.iconst 2, 1) := by decide +kernel
theorem dX7_over_47 : decode cX7_over 47 = .ok (.invokevirtual 28, 3) := by decide +kernel
theorem dX7_over_50 : decode cX7_over 50 = .ok (.ior, 1) := by decide +kernel
theorem dX7_over_51 : decode cX7_over 51 = .ok (.istore_n 3, 1) := by decide +kernel
theorem dX7_over_52 : decode cX7_over 52 = .ok (.iinc 4 1, 3) := by decide +kernel
theorem dX7_over_55 : decode cX7_over 55 = .ok (.goto (-50), 3) := by decide +kernel
theorem dX7_over_58 : decode cX7_over 58 = .ok (.iload_n 3, 1) := by decide +kernel
theorem dX7_over_59 : decode cX7_over 59 = .ok (.ireturn, 1) := by decide +kernel
theorem dX8_init_0 : decode cX8_init 0 = .ok (.aload_n 0, 1) := by decide +kernel
theorem dX8_init_1 : decode cX8_init 1 = .ok (.invokespecial 3, 3) := by decide +kernel
theorem dX8_init_4 : decode cX8_init 4 = .ok (.aload_n 0, 1) := by decide +kernel
theorem dX8_init_5 : decode cX8_init 5 = .ok (.sipush 1500, 3) := by decide +kernel
theorem dX8_init_8 : decode cX8_init 8 = .ok (.newarray .char, 2) := by decide +kernel
theorem dX8_init_10 : decode cX8_init 10 = .ok (.putfield 9, 3) := by decide +kernel
theorem dX8_init_13 : decode cX8_init 13 = .ok (.return_, 1) := by decide +kernel
theorem dX8_append_0 : decode cX8_append 0 = .ok (.iload_n 3, 1) := by decide +kernel
theorem dX8_append_1 : decode cX8_append 1 = .ok (.iconst 1, 1) := by decide +kernel
theorem dX8_append_2 : decode cX8_append 2 = .ok (.if_icmp .lt 21, 3) := by decide +kernel
theorem dX8_append_5 : decode cX8_append 5 = .ok (.iload_n 3, 1) := by decide +kernel
theorem dX8_append_6 : decode cX8_append 6 = .ok (.bipush 8, 2) := by decide +kernel
theorem dX8_append_8 : decode cX8_append 8 = .ok (.if_icmp .gt 15, 3) := by decide +kernel
theorem dX8_append_11 : decode cX8_append 11 = .ok (.aload_n 0, 1) := by decide +kernel
theorem dX8_append_12 : decode cX8_append 12 = .ok (.getfield 15, 3) := by decide +kernel
theorem dX8_append_15 : decode cX8_append 15 = .ok (.iload_n 3, 1) := by decide +kernel
theorem dX8_append_16 : decode cX8_append 16 = .ok (.iadd, 1) := by decide +kernel
theorem dX8_append_17 : decode cX8_append 17 = .ok (.sipush 1500, 3) := by decide +kernel
theorem dX8_append_20 : decode cX8_append 20 = .ok (.if_icmp .le 5, 3) := by decide +kernel
theorem dX8_append_23 : decode cX8_append 23 = .ok (.iconst 0, 1) := by decide +kernel
theorem dX8_append_24 : decode cX8_append 24 = .ok (.ireturn, 1) := by decide +kernel
theorem dX8_append_25 : decode cX8_append 25 = .ok (.iconst 0, 1) := by decide +kernel
theorem dX8_append_26 : decode cX8_append 26 = .ok (.istore 4, 2) := by decide +kernel
theorem dX8_append_28 : decode cX8_append 28 = .ok (.iload 4, 2) := by decide +kernel
theorem dX8_append_30 : decode cX8_append 30 = .ok (.iload_n 3, 1) := by decide +kernel
theorem dX8_append_31 : decode cX8_append 31 = .ok (.if_icmp .ge 39, 3) := by decide +kernel
theorem dX8_append_34 : decode cX8_append 34 = .ok (.lload_n 1, 1) := by decide +kernel
theorem dX8_append_35 : decode cX8_append 35 = .ok (.bipush 8, 2) := by decide +kernel
theorem dX8_append_37 : decode cX8_append 37 = .ok (.iload 4, 2) := by decide +kernel
theorem dX8_append_39 : decode cX8_append 39 = .ok (.imul, 1) := by decide +kernel
theorem dX8_append_40 : decode cX8_append 40 = .ok (.lushr, 1) := by decide +kernel
theorem dX8_append_41 : decode cX8_append 41 = .ok (.l2i, 1) := by decide +kernel
theorem dX8_append_42 : decode cX8_append 42 = .ok (.sipush 255, 3) := by decide +kernel
theorem dX8_append_45 : decode cX8_append 45 = .ok (.iand, 1) := by decide +kernel
theorem dX8_append_46 : decode cX8_append 46 = .ok (.istore 5, 2) := by decide +kernel
theorem dX8_append_48 : decode cX8_append 48 = .ok (.iload 5, 2) := by decide +kernel
theorem dX8_append_50 : decode cX8_append 50 = .ok (.bipush 32, 2) := by decide +kernel
theorem dX8_append_52 : decode cX8_append 52 = .ok (.if_icmp .lt 10, 3) := by decide +kernel
theorem dX8_append_55 : decode cX8_append 55 = .ok (.iload 5, 2) := by decide +kernel
theorem dX8_append_57 : decode cX8_append 57 = .ok (.bipush 126, 2) := by decide +kernel
theorem dX8_append_59 : decode cX8_append 59 = .ok (.if_icmp .le 5, 3) := by decide +kernel
theorem dX8_append_62 : decode cX8_append 62 = .ok (.iconst 0, 1) := by decide +kernel
theorem dX8_append_63 : decode cX8_append 63 = .ok (.ireturn, 1) := by decide +kernel
theorem dX8_append_64 : decode cX8_append 64 = .ok (.iinc 4 1, 3) := by decide +kernel
theorem dX8_append_67 : decode cX8_append 67 = .ok (.goto (-39), 3) := by decide +kernel
theorem dX8_append_70 : decode cX8_append 70 = .ok (.iload_n 3, 1) := by decide +kernel
theorem dX8_append_71 : decode cX8_append 71 = .ok (.iconst 1, 1) := by decide +kernel
theorem dX8_append_72 : decode cX8_append 72 = .ok (.isub, 1) := by decide +kernel
theorem dX8_append_73 : decode cX8_append 73 = .ok (.istore 4, 2) := by decide +kernel
theorem dX8_append_75 : decode cX8_append 75 = .ok (.iload 4, 2) := by decide +kernel
theorem dX8_append_77 : decode cX8_append 77 = .ok (.ifCond .lt 41, 3) := by decide +kernel
theorem dX8_append_80 : decode cX8_append 80 = .ok (.aload_n 0, 1) := by decide +kernel
theorem dX8_append_81 : decode cX8_append 81 = .ok (.getfield 9, 3) := by decide +kernel
theorem dX8_append_84 : decode cX8_append 84 = .ok (.aload_n 0, 1) := by decide +kernel
theorem dX8_append_85 : decode cX8_append 85 = .ok (.getfield 15, 3) := by decide +kernel
theorem dX8_append_88 : decode cX8_append 88 = .ok (.lload_n 1, 1) := by decide +kernel
theorem dX8_append_89 : decode cX8_append 89 = .ok (.bipush 8, 2) := by decide +kernel
theorem dX8_append_91 : decode cX8_append 91 = .ok (.iload 4, 2) := by decide +kernel
theorem dX8_append_93 : decode cX8_append 93 = .ok (.imul, 1) := by decide +kernel
theorem dX8_append_94 : decode cX8_append 94 = .ok (.lushr, 1) := by decide +kernel
theorem dX8_append_95 : decode cX8_append 95 = .ok (.ldc2_w 19, 3) := by decide +kernel
theorem dX8_append_98 : decode cX8_append 98 = .ok (.land, 1) := by decide +kernel
theorem dX8_append_99 : decode cX8_append 99 = .ok (.l2i, 1) := by decide +kernel
theorem dX8_append_100 : decode cX8_append 100 = .ok (.i2c, 1) := by decide +kernel
theorem dX8_append_101 : decode cX8_append 101 = .ok (.castore, 1) := by decide +kernel
theorem dX8_append_102 : decode cX8_append 102 = .ok (.aload_n 0, 1) := by decide +kernel
theorem dX8_append_103 : decode cX8_append 103 = .ok (.dup, 1) := by decide +kernel
theorem dX8_append_104 : decode cX8_append 104 = .ok (.getfield 15, 3) := by decide +kernel
theorem dX8_append_107 : decode cX8_append 107 = .ok (.iconst 1, 1) := by decide +kernel
theorem dX8_append_108 : decode cX8_append 108 = .ok (.iadd, 1) := by decide +kernel
theorem dX8_append_109 : decode cX8_append 109 = .ok (.putfield 15, 3) := by decide +kernel
theorem dX8_append_112 : decode cX8_append 112 = .ok (.iinc 4 (-1), 3) := by decide +kernel
theorem dX8_append_115 : decode cX8_append 115 = .ok (.goto (-40), 3) := by decide +kernel
theorem dX8_append_118 : decode cX8_append 118 = .ok (.iconst 1, 1) := by decide +kernel
theorem dX8_append_119 : decode cX8_append 119 = .ok (.ireturn, 1) := by decide +kernel
theorem dX8_clear_0 : decode cX8_clear 0 = .ok (.aload_n 0, 1) := by decide +kernel
theorem dX8_clear_1 : decode cX8_clear 1 = .ok (.iconst 0, 1) := by decide +kernel
theorem dX8_clear_2 : decode cX8_clear 2 = .ok (.putfield 15, 3) := by decide +kernel
theorem dX8_clear_5 : decode cX8_clear 5 = .ok (.return_, 1) := by decide +kernel
theorem dX8_rewind_0 : decode cX8_rewind 0 = .ok (.aload_n 0, 1) := by decide +kernel
theorem dX8_rewind_1 : decode cX8_rewind 1 = .ok (.iconst 0, 1) := by decide +kernel
theorem dX8_rewind_2 : decode cX8_rewind 2 = .ok (.putfield 21, 3) := by decide +kernel
theorem dX8_rewind_5 : decode cX8_rewind 5 = .ok (.aload_n 0, 1) := by decide +kernel
theorem dX8_rewind_6 : decode cX8_rewind 6 = .ok (.invokevirtual 24, 3) := by decide +kernel
theorem dX8_rewind_9 : decode cX8_rewind 9 = .ok (.return_, 1) := by decide +kernel
theorem dX8_next_0 : decode cX8_next 0 = .ok (.aload_n 0, 1) := by decide +kernel
theorem dX8_next_1 : decode cX8_next 1 = .ok (.getfield 21, 3) := by decide +kernel
theorem dX8_next_4 : decode cX8_next 4 = .ok (.aload_n 0, 1) := by decide +kernel
theorem dX8_next_5 : decode cX8_next 5 = .ok (.getfield 15, 3) := by decide +kernel
theorem dX8_next_8 : decode cX8_next 8 = .ok (.if_icmp .ge 30, 3) := by decide +kernel
theorem dX8_next_11 : decode cX8_next 11 = .ok (.aload_n 0, 1) := by decide +kernel
theorem dX8_next_12 : decode cX8_next 12 = .ok (.getfield 9, 3) := by decide +kernel
theorem dX8_next_15 : decode cX8_next 15 = .ok (.aload_n 0, 1) := by decide +kernel
theorem dX8_next_16 : decode cX8_next 16 = .ok (.getfield 21, 3) := by decide +kernel
theorem dX8_next_19 : decode cX8_next 19 = .ok (.caload, 1) := by decide +kernel
theorem dX8_next_20 : decode cX8_next 20 = .ok (.bipush 32, 2) := by decide +kernel
theorem dX8_next_22 : decode cX8_next 22 = .ok (.if_icmp .ne 16, 3) := by decide +kernel
theorem dX8_next_25 : decode cX8_next 25 = .ok (.aload_n 0, 1) := by decide +kernel
theorem dX8_next_26 : decode cX8_next 26 = .ok (.dup, 1) := by decide +kernel
theorem dX8_next_27 : decode cX8_next 27 = .ok (.getfield 21, 3) := by decide +kernel
theorem dX8_next_30 : decode cX8_next 30 = .ok (.iconst 1, 1) := by decide +kernel
theorem dX8_next_31 : decode cX8_next 31 = .ok (.iadd, 1) := by decide +kernel
theorem dX8_next_32 : decode cX8_next 32 = .ok (.putfield 21, 3) := by decide +kernel
theorem dX8_next_35 : decode cX8_next 35 = .ok (.goto (-35), 3) := by decide +kernel
theorem dX8_next_38 : decode cX8_next 38 = .ok (.aload_n 0, 1) := by decide +kernel
theorem dX8_next_39 : decode cX8_next 39 = .ok (.aload_n 0, 1) := by decide +kernel
theorem dX8_next_40 : decode cX8_next 40 = .ok (.getfield 21, 3) := by decide +kernel
theorem dX8_next_43 : decode cX8_next 43 = .ok (.putfield 27, 3) := by decide +kernel
theorem dX8_next_46 : decode cX8_next 46 = .ok (.aload_n 0, 1) := by decide +kernel
theorem dX8_next_47 : decode cX8_next 47 = .ok (.lconst 0, 1) := by decide +kernel
theorem dX8_next_48 : decode cX8_next 48 = .ok (.putfield 30, 3) := by decide +kernel
theorem dX8_next_51 : decode cX8_next 51 = .ok (.aload_n 0, 1) := by decide +kernel
theorem dX8_next_52 : decode cX8_next 52 = .ok (.getfield 21, 3) := by decide +kernel
theorem dX8_next_55 : decode cX8_next 55 = .ok (.aload_n 0, 1) := by decide +kernel
theorem dX8_next_56 : decode cX8_next 56 = .ok (.getfield 15, 3) := by decide +kernel
theorem dX8_next_59 : decode cX8_next 59 = .ok (.if_icmp .lt 11, 3) := by decide +kernel
theorem dX8_next_62 : decode cX8_next 62 = .ok (.aload_n 0, 1) := by decide +kernel
theorem dX8_next_63 : decode cX8_next 63 = .ok (.iconst 1, 1) := by decide +kernel
theorem dX8_next_64 : decode cX8_next 64 = .ok (.putfield 34, 3) := by decide +kernel
theorem dX8_next_67 : decode cX8_next 67 = .ok (.goto 89, 3) := by decide +kernel
theorem dX8_next_70 : decode cX8_next 70 = .ok (.aload_n 0, 1) := by decide +kernel
theorem dX8_next_71 : decode cX8_next 71 = .ok (.getfield 9, 3) := by decide +kernel
theorem dX8_next_74 : decode cX8_next 74 = .ok (.aload_n 0, 1) := by decide +kernel
theorem dX8_next_75 : decode cX8_next 75 = .ok (.getfield 21, 3) := by decide +kernel
theorem dX8_next_78 : decode cX8_next 78 = .ok (.caload, 1) := by decide +kernel
theorem dX8_next_79 : decode cX8_next 79 = .ok (.invokestatic 37, 3) := by decide +kernel
theorem dX8_next_82 : decode cX8_next 82 = .ok (.ifCond .eq 10, 3) := by decide +kernel
theorem dX8_next_85 : decode cX8_next 85 = .ok (.aload_n 0, 1) := by decide +kernel
theorem dX8_next_86 : decode cX8_next 86 = .ok (.invokevirtual 41, 3) := by decide +kernel
theorem dX8_next_89 : decode cX8_next 89 = .ok (.goto 67, 3) := by decide +kernel
theorem dX8_next_92 : decode cX8_next 92 = .ok (.aload_n 0, 1) := by decide +kernel
theorem dX8_next_93 : decode cX8_next 93 = .ok (.getfield 9, 3) := by decide +kernel
theorem dX8_next_96 : decode cX8_next 96 = .ok (.aload_n 0, 1) := by decide +kernel
theorem dX8_next_97 : decode cX8_next 97 = .ok (.getfield 21, 3) := by decide +kernel
theorem dX8_next_100 : decode cX8_next 100 = .ok (.caload, 1) := by decide +kernel
theorem dX8_next_101 : decode cX8_next 101 = .ok (.invokestatic 44, 3) := by decide +kernel
theorem dX8_next_104 : decode cX8_next 104 = .ok (.ifCond .eq 10, 3) := by decide +kernel
theorem dX8_next_107 : decode cX8_next 107 = .ok (.aload_n 0, 1) := by decide +kernel
theorem dX8_next_108 : decode cX8_next 108 = .ok (.invokevirtual 47, 3) := by decide +kernel
theorem dX8_next_111 : decode cX8_next 111 = .ok (.goto 45, 3) := by decide +kernel
theorem dX8_next_114 : decode cX8_next 114 = .ok (.aload_n 0, 1) := by decide +kernel
theorem dX8_next_115 : decode cX8_next 115 = .ok (.aload_n 0, 1) := by decide +kernel
theorem dX8_next_116 : decode cX8_next 116 = .ok (.getfield 9, 3) := by decide +kernel
theorem dX8_next_119 : decode cX8_next 119 = .ok (.aload_n 0, 1) := by decide +kernel
theorem dX8_next_120 : decode cX8_next 120 = .ok (.getfield 21, 3) := by decide +kernel
theorem dX8_next_123 : decode cX8_next 123 = .ok (.caload, 1) := by decide +kernel
theorem dX8_next_124 : decode cX8_next 124 = .ok (.invokestatic 50, 3) := by decide +kernel
theorem dX8_next_127 : decode cX8_next 127 = .ok (.ifCond .eq 15, 3) := by decide +kernel
theorem dX8_next_130 : decode cX8_next 130 = .ok (.aload_n 0, 1) := by decide +kernel
theorem dX8_next_131 : decode cX8_next 131 = .ok (.getfield 9, 3) := by decide +kernel
theorem dX8_next_134 : decode cX8_next 134 = .ok (.aload_n 0, 1) := by decide +kernel
theorem dX8_next_135 : decode cX8_next 135 = .ok (.getfield 21, 3) := by decide +kernel
theorem dX8_next_138 : decode cX8_next 138 = .ok (.caload, 1) := by decide +kernel
theorem dX8_next_139 : decode cX8_next 139 = .ok (.goto 4, 3) := by decide +kernel
theorem dX8_next_142 : decode cX8_next 142 = .ok (.iconst 0, 1) := by decide +kernel
theorem dX8_next_143 : decode cX8_next 143 = .ok (.putfield 34, 3) := by decide +kernel
theorem dX8_next_146 : decode cX8_next 146 = .ok (.aload_n 0, 1) := by decide +kernel
theorem dX8_next_147 : decode cX8_next 147 = .ok (.dup, 1) := by decide +kernel
theorem dX8_next_148 : decode cX8_next 148 = .ok (.getfield 21, 3) := by decide +kernel
theorem dX8_next_151 : decode cX8_next 151 = .ok (.iconst 1, 1) := by decide +kernel
theorem dX8_next_152 : decode cX8_next 152 = .ok (.iadd, 1) := by decide +kernel
theorem dX8_next_153 : decode cX8_next 153 = .ok (.putfield 21, 3) := by decide +kernel
theorem dX8_next_156 : decode cX8_next 156 = .ok (.return_, 1) := by decide +kernel
theorem dX8_isLetter_0 : decode cX8_isLetter 0 = .ok (.iload_n 0, 1) := by decide +kernel
theorem dX8_isLetter_1 : decode cX8_isLetter 1 = .ok (.bipush 97, 2) := by decide +kernel
theorem dX8_isLetter_3 : decode cX8_isLetter 3 = .ok (.if_icmp .lt 13, 3) := by decide +kernel
theorem dX8_isLetter_6 : decode cX8_isLetter 6 = .ok (.iload_n 0, 1) := by decide +kernel
theorem dX8_isLetter_7 : decode cX8_isLetter 7 = .ok (.bipush 122, 2) := by decide +kernel
theorem dX8_isLetter_9 : decode cX8_isLetter 9 = .ok (.if_icmp .gt 7, 3) := by decide +kernel
theorem dX8_isLetter_12 : decode cX8_isLetter 12 = .ok (.iconst 1, 1) := by decide +kernel
theorem dX8_isLetter_13 : decode cX8_isLetter 13 = .ok (.goto 4, 3) := by decide +kernel
theorem dX8_isLetter_16 : decode cX8_isLetter 16 = .ok (.iconst 0, 1) := by decide +kernel
theorem dX8_isLetter_17 : decode cX8_isLetter 17 = .ok (.ireturn, 1) := by decide +kernel
theorem dX8_isDigit_0 : decode cX8_isDigit 0 = .ok (.iload_n 0, 1) := by decide +kernel
theorem dX8_isDigit_1 : decode cX8_isDigit 1 = .ok (.bipush 48, 2) := by decide +kernel
theorem dX8_isDigit_3 : decode cX8_isDigit 3 = .ok (.if_icmp .lt 13, 3) := by decide +kernel
theorem dX8_isDigit_6 : decode cX8_isDigit 6 = .ok (.iload_n 0, 1) := by decide +kernel
theorem dX8_isDigit_7 : decode cX8_isDigit 7 = .ok (.bipush 57, 2) := by decide +kernel
theorem dX8_isDigit_9 : decode cX8_isDigit 9 = .ok (.if_icmp .gt 7, 3) := by decide +kernel
theorem dX8_isDigit_12 : decode cX8_isDigit 12 = .ok (.iconst 1, 1) := by decide +kernel
theorem dX8_isDigit_13 : decode cX8_isDigit 13 = .ok (.goto 4, 3) := by decide +kernel
theorem dX8_isDigit_16 : decode cX8_isDigit 16 = .ok (.iconst 0, 1) := by decide +kernel
theorem dX8_isDigit_17 : decode cX8_isDigit 17 = .ok (.ireturn, 1) := by decide +kernel
theorem dX8_isSign_0 : decode cX8_isSign 0 = .ok (.iload_n 0, 1) := by decide +kernel
theorem dX8_isSign_1 : decode cX8_isSign 1 = .ok (.bipush 58, 2) := by decide +kernel
theorem dX8_isSign_3 : decode cX8_isSign 3 = .ok (.if_icmp .eq 33, 3) := by decide +kernel
theorem dX8_isSign_6 : decode cX8_isSign 6 = .ok (.iload_n 0, 1) := by decide +kernel
theorem dX8_isSign_7 : decode cX8_isSign 7 = .ok (.bipush 59, 2) := by decide +kernel
theorem dX8_isSign_9 : decode cX8_isSign 9 = .ok (.if_icmp .eq 27, 3) := by decide +kernel
theorem dX8_isSign_12 : decode cX8_isSign 12 = .ok (.iload_n 0, 1) := by decide +kernel
theorem dX8_isSign_13 : decode cX8_isSign 13 = .ok (.bipush 44, 2) := by decide +kernel
theorem dX8_isSign_15 : decode cX8_isSign 15 = .ok (.if_icmp .eq 21, 3) := by decide +kernel
theorem dX8_isSign_18 : decode cX8_isSign 18 = .ok (.iload_n 0, 1) := by decide +kernel
theorem dX8_isSign_19 : decode cX8_isSign 19 = .ok (.bipush 40, 2) := by decide +kernel
theorem dX8_isSign_21 : decode cX8_isSign 21 = .ok (.if_icmp .eq 15, 3) := by decide +kernel
theorem dX8_isSign_24 : decode cX8_isSign 24 = .ok (.iload_n 0, 1) := by decide +kernel
theorem dX8_isSign_25 : decode cX8_isSign 25 = .ok (.bipush 41, 2) := by decide +kernel
theorem dX8_isSign_27 : decode cX8_isSign 27 = .ok (.if_icmp .eq 9, 3) := by decide +kernel
theorem dX8_isSign_30 : decode cX8_isSign 30 = .ok (.iload_n 0, 1) := by decide +kernel
theorem dX8_isSign_31 : decode cX8_isSign 31 = .ok (.bipush 45, 2) := by decide +kernel
theorem dX8_isSign_33 : decode cX8_isSign 33 = .ok (.if_icmp .ne 7, 3) := by decide +kernel
theorem dX8_isSign_36 : decode cX8_isSign 36 = .ok (.iconst 1, 1) := by decide +kernel
theorem dX8_isSign_37 : decode cX8_isSign 37 = .ok (.goto 4, 3) := by decide +kernel
theorem dX8_isSign_40 : decode cX8_isSign 40 = .ok (.iconst 0, 1) := by decide +kernel
theorem dX8_isSign_41 : decode cX8_isSign 41 = .ok (.ireturn, 1) := by decide +kernel
theorem dX8_scanName_0 : decode cX8_scanName 0 = .ok (.aload_n 0, 1) := by decide +kernel
theorem dX8_scanName_1 : decode cX8_scanName 1 = .ok (.getfield 21, 3) := by decide +kernel
theorem dX8_scanName_4 : decode cX8_scanName 4 = .ok (.aload_n 0, 1) := by decide +kernel
theorem dX8_scanName_5 : decode cX8_scanName 5 = .ok (.getfield 15, 3) := by decide +kernel
theorem dX8_scanName_8 : decode cX8_scanName 8 = .ok (.if_icmp .ge 94, 3) := by decide +kernel
theorem dX8_scanName_11 : decode cX8_scanName 11 = .ok (.aload_n 0, 1) := by decide +kernel
theorem dX8_scanName_12 : decode cX8_scanName 12 = .ok (.getfield 9, 3) := by decide +kernel
theorem dX8_scanName_15 : decode cX8_scanName 15 = .ok (.aload_n 0, 1) := by decide +kernel
theorem dX8_scanName_16 : decode cX8_scanName 16 = .ok (.getfield 21, 3) := by decide +kernel
theorem dX8_scanName_19 : decode cX8_scanName 19 = .ok (.caload, 1) := by decide +kernel
theorem dX8_scanName_20 : decode cX8_scanName 20 = .ok (.bipush 97, 2) := by decide +kernel
theorem dX8_scanName_22 : decode cX8_scanName 22 = .ok (.if_icmp .lt 17, 3) := by decide +kernel
theorem dX8_scanName_25 : decode cX8_scanName 25 = .ok (.aload_n 0, 1) := by decide +kernel
theorem dX8_scanName_26 : decode cX8_scanName 26 = .ok (.getfield 9, 3) := by decide +kernel
theorem dX8_scanName_29 : decode cX8_scanName 29 = .ok (.aload_n 0, 1) := by decide +kernel
theorem dX8_scanName_30 : decode cX8_scanName 30 = .ok (.getfield 21, 3) := by decide +kernel
theorem dX8_scanName_33 : decode cX8_scanName 33 = .ok (.caload, 1) := by decide +kernel
theorem dX8_scanName_34 : decode cX8_scanName 34 = .ok (.bipush 122, 2) := by decide +kernel
theorem dX8_scanName_36 : decode cX8_scanName 36 = .ok (.if_icmp .le 31, 3) := by decide +kernel
theorem dX8_scanName_39 : decode cX8_scanName 39 = .ok (.aload_n 0, 1) := by decide +kernel
theorem dX8_scanName_40 : decode cX8_scanName 40 = .ok (.getfield 9, 3) := by decide +kernel
theorem dX8_scanName_43 : decode cX8_scanName 43 = .ok (.aload_n 0, 1) := by decide +kernel
theorem dX8_scanName_44 : decode cX8_scanName 44 = .ok (.getfield 21, 3) := by decide +kernel
theorem dX8_scanName_47 : decode cX8_scanName 47 = .ok (.caload, 1) := by decide +kernel
theorem dX8_scanName_48 : decode cX8_scanName 48 = .ok (.bipush 48, 2) := by decide +kernel
theorem dX8_scanName_50 : decode cX8_scanName 50 = .ok (.if_icmp .lt 52, 3) := by decide +kernel
theorem dX8_scanName_53 : decode cX8_scanName 53 = .ok (.aload_n 0, 1) := by decide +kernel
theorem dX8_scanName_54 : decode cX8_scanName 54 = .ok (.getfield 9, 3) := by decide +kernel
theorem dX8_scanName_57 : decode cX8_scanName 57 = .ok (.aload_n 0, 1) := by decide +kernel
theorem dX8_scanName_58 : decode cX8_scanName 58 = .ok (.getfield 21, 3) := by decide +kernel
theorem dX8_scanName_61 : decode cX8_scanName 61 = .ok (.caload, 1) := by decide +kernel
theorem dX8_scanName_62 : decode cX8_scanName 62 = .ok (.bipush 57, 2) := by decide +kernel
theorem dX8_scanName_64 : decode cX8_scanName 64 = .ok (.if_icmp .gt 38, 3) := by decide +kernel
theorem dX8_scanName_67 : decode cX8_scanName 67 = .ok (.aload_n 0, 1) := by decide +kernel
theorem dX8_scanName_68 : decode cX8_scanName 68 = .ok (.aload_n 0, 1) := by decide +kernel
theorem dX8_scanName_69 : decode cX8_scanName 69 = .ok (.getfield 30, 3) := by decide +kernel
theorem dX8_scanName_72 : decode cX8_scanName 72 = .ok (.bipush 8, 2) := by decide +kernel
theorem dX8_scanName_74 : decode cX8_scanName 74 = .ok (.lshl, 1) := by decide +kernel
theorem dX8_scanName_75 : decode cX8_scanName 75 = .ok (.aload_n 0, 1) := by decide +kernel
theorem dX8_scanName_76 : decode cX8_scanName 76 = .ok (.getfield 9, 3) := by decide +kernel
theorem dX8_scanName_79 : decode cX8_scanName 79 = .ok (.aload_n 0, 1) := by decide +kernel
theorem dX8_scanName_80 : decode cX8_scanName 80 = .ok (.getfield 21, 3) := by decide +kernel
theorem dX8_scanName_83 : decode cX8_scanName 83 = .ok (.caload, 1) := by decide +kernel
theorem dX8_scanName_84 : decode cX8_scanName 84 = .ok (.i2l, 1) := by decide +kernel
theorem dX8_scanName_85 : decode cX8_scanName 85 = .ok (.lor, 1) := by decide +kernel
theorem dX8_scanName_86 : decode cX8_scanName 86 = .ok (.putfield 30, 3) := by decide +kernel
theorem dX8_scanName_89 : decode cX8_scanName 89 = .ok (.aload_n 0, 1) := by decide +kernel
theorem dX8_scanName_90 : decode cX8_scanName 90 = .ok (.dup, 1) := by decide +kernel
theorem dX8_scanName_91 : decode cX8_scanName 91 = .ok (.getfield 21, 3) := by decide +kernel
theorem dX8_scanName_94 : decode cX8_scanName 94 = .ok (.iconst 1, 1) := by decide +kernel
theorem dX8_scanName_95 : decode cX8_scanName 95 = .ok (.iadd, 1) := by decide +kernel
theorem dX8_scanName_96 : decode cX8_scanName 96 = .ok (.putfield 21, 3) := by decide +kernel
theorem dX8_scanName_99 : decode cX8_scanName 99 = .ok (.goto (-99), 3) := by decide +kernel
theorem dX8_scanName_102 : decode cX8_scanName 102 = .ok (.aload_n 0, 1) := by decide +kernel
theorem dX8_scanName_103 : decode cX8_scanName 103 = .ok (.aload_n 0, 1) := by decide +kernel
theorem dX8_scanName_104 : decode cX8_scanName 104 = .ok (.getfield 21, 3) := by decide +kernel
theorem dX8_scanName_107 : decode cX8_scanName 107 = .ok (.aload_n 0, 1) := by decide +kernel
theorem dX8_scanName_108 : decode cX8_scanName 108 = .ok (.getfield 27, 3) := by decide +kernel
theorem dX8_scanName_111 : decode cX8_scanName 111 = .ok (.isub, 1) := by decide +kernel
theorem dX8_scanName_112 : decode cX8_scanName 112 = .ok (.bipush 8, 2) := by decide +kernel
theorem dX8_scanName_114 : decode cX8_scanName 114 = .ok (.if_icmp .gt 7, 3) := by decide +kernel
theorem dX8_scanName_117 : decode cX8_scanName 117 = .ok (.iconst 2, 1) := by decide +kernel
theorem dX8_scanName_118 : decode cX8_scanName 118 = .ok (.goto 4, 3) := by decide +kernel
theorem dX8_scanName_121 : decode cX8_scanName 121 = .ok (.iconst 0, 1) := by decide +kernel
theorem dX8_scanName_122 : decode cX8_scanName 122 = .ok (.putfield 34, 3) := by decide +kernel
theorem dX8_scanName_125 : decode cX8_scanName 125 = .ok (.return_, 1) := by decide +kernel
theorem dX8_scanNumber_0 : decode cX8_scanNumber 0 = .ok (.aload_n 0, 1) := by decide +kernel
theorem dX8_scanNumber_1 : decode cX8_scanNumber 1 = .ok (.getfield 9, 3) := by decide +kernel
theorem dX8_scanNumber_4 : decode cX8_scanNumber 4 = .ok (.aload_n 0, 1) := by decide +kernel
theorem dX8_scanNumber_5 : decode cX8_scanNumber 5 = .ok (.getfield 21, 3) := by decide +kernel
theorem dX8_scanNumber_8 : decode cX8_scanNumber 8 = .ok (.caload, 1) := by decide +kernel
theorem dX8_scanNumber_9 : decode cX8_scanNumber 9 = .ok (.bipush 48, 2) := by decide +kernel
theorem dX8_scanNumber_11 : decode cX8_scanNumber 11 = .ok (.if_icmp .ne 36, 3) := by decide +kernel
theorem dX8_scanNumber_14 : decode cX8_scanNumber 14 = .ok (.aload_n 0, 1) := by decide +kernel
theorem dX8_scanNumber_15 : decode cX8_scanNumber 15 = .ok (.getfield 21, 3) := by decide +kernel
theorem dX8_scanNumber_18 : decode cX8_scanNumber 18 = .ok (.iconst 1, 1) := by decide +kernel
theorem dX8_scanNumber_19 : decode cX8_scanNumber 19 = .ok (.iadd, 1) := by decide +kernel
theorem dX8_scanNumber_20 : decode cX8_scanNumber 20 = .ok (.aload_n 0, 1) := by decide +kernel
theorem dX8_scanNumber_21 : decode cX8_scanNumber 21 = .ok (.getfield 15, 3) := by decide +kernel
theorem dX8_scanNumber_24 : decode cX8_scanNumber 24 = .ok (.if_icmp .ge 23, 3) := by decide +kernel
theorem dX8_scanNumber_27 : decode cX8_scanNumber 27 = .ok (.aload_n 0, 1) := by decide +kernel
theorem dX8_scanNumber_28 : decode cX8_scanNumber 28 = .ok (.getfield 9, 3) := by decide +kernel
theorem dX8_scanNumber_31 : decode cX8_scanNumber 31 = .ok (.aload_n 0, 1) := by decide +kernel
theorem dX8_scanNumber_32 : decode cX8_scanNumber 32 = .ok (.getfield 21, 3) := by decide +kernel
theorem dX8_scanNumber_35 : decode cX8_scanNumber 35 = .ok (.iconst 1, 1) := by decide +kernel
theorem dX8_scanNumber_36 : decode cX8_scanNumber 36 = .ok (.iadd, 1) := by decide +kernel
theorem dX8_scanNumber_37 : decode cX8_scanNumber 37 = .ok (.caload, 1) := by decide +kernel
theorem dX8_scanNumber_38 : decode cX8_scanNumber 38 = .ok (.bipush 120, 2) := by decide +kernel
theorem dX8_scanNumber_40 : decode cX8_scanNumber 40 = .ok (.if_icmp .ne 7, 3) := by decide +kernel
theorem dX8_scanNumber_43 : decode cX8_scanNumber 43 = .ok (.iconst 1, 1) := by decide +kernel
theorem dX8_scanNumber_44 : decode cX8_scanNumber 44 = .ok (.goto 4, 3) := by decide +kernel
theorem dX8_scanNumber_47 : decode cX8_scanNumber 47 = .ok (.iconst 0, 1) := by decide +kernel
theorem dX8_scanNumber_48 : decode cX8_scanNumber 48 = .ok (.istore_n 1, 1) := by decide +kernel
theorem dX8_scanNumber_49 : decode cX8_scanNumber 49 = .ok (.iload_n 1, 1) := by decide +kernel
theorem dX8_scanNumber_50 : decode cX8_scanNumber 50 = .ok (.ifCond .eq 8, 3) := by decide +kernel
theorem dX8_scanNumber_53 : decode cX8_scanNumber 53 = .ok (.bipush 16, 2) := by decide +kernel
theorem dX8_scanNumber_55 : decode cX8_scanNumber 55 = .ok (.goto 5, 3) := by decide +kernel
theorem dX8_scanNumber_58 : decode cX8_scanNumber 58 = .ok (.bipush 10, 2) := by decide +kernel
theorem dX8_scanNumber_60 : decode cX8_scanNumber 60 = .ok (.istore_n 2, 1) := by decide +kernel
theorem dX8_scanNumber_61 : decode cX8_scanNumber 61 = .ok (.iload_n 1, 1) := by decide +kernel
theorem dX8_scanNumber_62 : decode cX8_scanNumber 62 = .ok (.ifCond .eq 12, 3) := by decide +kernel
theorem dX8_scanNumber_65 : decode cX8_scanNumber 65 = .ok (.aload_n 0, 1) := by decide +kernel
theorem dX8_scanNumber_66 : decode cX8_scanNumber 66 = .ok (.getfield 21, 3) := by decide +kernel
theorem dX8_scanNumber_69 : decode cX8_scanNumber 69 = .ok (.iconst 2, 1) := by decide +kernel
theorem dX8_scanNumber_70 : decode cX8_scanNumber 70 = .ok (.iadd, 1) := by decide +kernel
theorem dX8_scanNumber_71 : decode cX8_scanNumber 71 = .ok (.goto 7, 3) := by decide +kernel
theorem dX8_scanNumber_74 : decode cX8_scanNumber 74 = .ok (.aload_n 0, 1) := by decide +kernel
theorem dX8_scanNumber_75 : decode cX8_scanNumber 75 = .ok (.getfield 21, 3) := by decide +kernel
theorem dX8_scanNumber_78 : decode cX8_scanNumber 78 = .ok (.istore_n 3, 1) := by decide +kernel
theorem dX8_scanNumber_79 : decode cX8_scanNumber 79 = .ok (.aload_n 0, 1) := by decide +kernel
theorem dX8_scanNumber_80 : decode cX8_scanNumber 80 = .ok (.iload_n 3, 1) := by decide +kernel
theorem dX8_scanNumber_81 : decode cX8_scanNumber 81 = .ok (.putfield 21, 3) := by decide +kernel
theorem dX8_scanNumber_84 : decode cX8_scanNumber 84 = .ok (.aload_n 0, 1) := by decide +kernel
theorem dX8_scanNumber_85 : decode cX8_scanNumber 85 = .ok (.getfield 21, 3) := by decide +kernel
theorem dX8_scanNumber_88 : decode cX8_scanNumber 88 = .ok (.aload_n 0, 1) := by decide +kernel
theorem dX8_scanNumber_89 : decode cX8_scanNumber 89 = .ok (.getfield 15, 3) := by decide +kernel
theorem dX8_scanNumber_92 : decode cX8_scanNumber 92 = .ok (.if_icmp .ge 151, 3) := by decide +kernel
theorem dX8_scanNumber_95 : decode cX8_scanNumber 95 = .ok (.aload_n 0, 1) := by decide +kernel
theorem dX8_scanNumber_96 : decode cX8_scanNumber 96 = .ok (.getfield 9, 3) := by decide +kernel
theorem dX8_scanNumber_99 : decode cX8_scanNumber 99 = .ok (.aload_n 0, 1) := by decide +kernel
theorem dX8_scanNumber_100 : decode cX8_scanNumber 100 = .ok (.getfield 21, 3) := by decide +kernel
theorem dX8_scanNumber_103 : decode cX8_scanNumber 103 = .ok (.caload, 1) := by decide +kernel
theorem dX8_scanNumber_104 : decode cX8_scanNumber 104 = .ok (.bipush 48, 2) := by decide +kernel
theorem dX8_scanNumber_106 : decode cX8_scanNumber 106 = .ok (.if_icmp .lt 21, 3) := by decide +kernel
theorem dX8_scanNumber_109 : decode cX8_scanNumber 109 = .ok (.aload_n 0, 1) := by decide +kernel
theorem dX8_scanNumber_110 : decode cX8_scanNumber 110 = .ok (.getfield 9, 3) := by decide +kernel
theorem dX8_scanNumber_113 : decode cX8_scanNumber 113 = .ok (.aload_n 0, 1) := by decide +kernel
theorem dX8_scanNumber_114 : decode cX8_scanNumber 114 = .ok (.getfield 21, 3) := by decide +kernel
theorem dX8_scanNumber_117 : decode cX8_scanNumber 117 = .ok (.caload, 1) := by decide +kernel
theorem dX8_scanNumber_118 : decode cX8_scanNumber 118 = .ok (.bipush 57, 2) := by decide +kernel
theorem dX8_scanNumber_120 : decode cX8_scanNumber 120 = .ok (.if_icmp .gt 7, 3) := by decide +kernel
theorem dX8_scanNumber_123 : decode cX8_scanNumber 123 = .ok (.iconst 1, 1) := by decide +kernel
theorem dX8_scanNumber_124 : decode cX8_scanNumber 124 = .ok (.goto 4, 3) := by decide +kernel
theorem dX8_scanNumber_127 : decode cX8_scanNumber 127 = .ok (.iconst 0, 1) := by decide +kernel
theorem dX8_scanNumber_128 : decode cX8_scanNumber 128 = .ok (.istore 4, 2) := by decide +kernel
theorem dX8_scanNumber_130 : decode cX8_scanNumber 130 = .ok (.iload_n 1, 1) := by decide +kernel
theorem dX8_scanNumber_131 : decode cX8_scanNumber 131 = .ok (.ifCond .eq 35, 3) := by decide +kernel
theorem dX8_scanNumber_134 : decode cX8_scanNumber 134 = .ok (.aload_n 0, 1) := by decide +kernel
theorem dX8_scanNumber_135 : decode cX8_scanNumber 135 = .ok (.getfield 9, 3) := by decide +kernel
theorem dX8_scanNumber_138 : decode cX8_scanNumber 138 = .ok (.aload_n 0, 1) := by decide +kernel
theorem dX8_scanNumber_139 : decode cX8_scanNumber 139 = .ok (.getfield 21, 3) := by decide +kernel
theorem dX8_scanNumber_142 : decode cX8_scanNumber 142 = .ok (.caload, 1) := by decide +kernel
theorem dX8_scanNumber_143 : decode cX8_scanNumber 143 = .ok (.bipush 97, 2) := by decide +kernel
theorem dX8_scanNumber_145 : decode cX8_scanNumber 145 = .ok (.if_icmp .lt 21, 3) := by decide +kernel
theorem dX8_scanNumber_148 : decode cX8_scanNumber 148 = .ok (.aload_n 0, 1) := by decide +kernel
theorem dX8_scanNumber_149 : decode cX8_scanNumber 149 = .ok (.getfield 9, 3) := by decide +kernel
theorem dX8_scanNumber_152 : decode cX8_scanNumber 152 = .ok (.aload_n 0, 1) := by decide +kernel
theorem dX8_scanNumber_153 : decode cX8_scanNumber 153 = .ok (.getfield 21, 3) := by decide +kernel
theorem dX8_scanNumber_156 : decode cX8_scanNumber 156 = .ok (.caload, 1) := by decide +kernel
theorem dX8_scanNumber_157 : decode cX8_scanNumber 157 = .ok (.bipush 102, 2) := by decide +kernel
theorem dX8_scanNumber_159 : decode cX8_scanNumber 159 = .ok (.if_icmp .gt 7, 3) := by decide +kernel
theorem dX8_scanNumber_162 : decode cX8_scanNumber 162 = .ok (.iconst 1, 1) := by decide +kernel
theorem dX8_scanNumber_163 : decode cX8_scanNumber 163 = .ok (.goto 4, 3) := by decide +kernel
theorem dX8_scanNumber_166 : decode cX8_scanNumber 166 = .ok (.iconst 0, 1) := by decide +kernel
theorem dX8_scanNumber_167 : decode cX8_scanNumber 167 = .ok (.istore 5, 2) := by decide +kernel
theorem dX8_scanNumber_169 : decode cX8_scanNumber 169 = .ok (.iload 4, 2) := by decide +kernel
theorem dX8_scanNumber_171 : decode cX8_scanNumber 171 = .ok (.ifCond .ne 11, 3) := by decide +kernel
theorem dX8_scanNumber_174 : decode cX8_scanNumber 174 = .ok (.iload 5, 2) := by decide +kernel
theorem dX8_scanNumber_176 : decode cX8_scanNumber 176 = .ok (.ifCond .ne 6, 3) := by decide +kernel
theorem dX8_scanNumber_179 : decode cX8_scanNumber 179 = .ok (.goto 64, 3) := by decide +kernel
theorem dX8_scanNumber_182 : decode cX8_scanNumber 182 = .ok (.aload_n 0, 1) := by decide +kernel
theorem dX8_scanNumber_183 : decode cX8_scanNumber 183 = .ok (.aload_n 0, 1) := by decide +kernel
theorem dX8_scanNumber_184 : decode cX8_scanNumber 184 = .ok (.getfield 30, 3) := by decide +kernel
theorem dX8_scanNumber_187 : decode cX8_scanNumber 187 = .ok (.iload_n 2, 1) := by decide +kernel
theorem dX8_scanNumber_188 : decode cX8_scanNumber 188 = .ok (.i2l, 1) := by decide +kernel
theorem dX8_scanNumber_189 : decode cX8_scanNumber 189 = .ok (.lmul, 1) := by decide +kernel
theorem dX8_scanNumber_190 : decode cX8_scanNumber 190 = .ok (.iload 4, 2) := by decide +kernel
theorem dX8_scanNumber_192 : decode cX8_scanNumber 192 = .ok (.ifCond .eq 18, 3) := by decide +kernel
theorem dX8_scanNumber_195 : decode cX8_scanNumber 195 = .ok (.aload_n 0, 1) := by decide +kernel
theorem dX8_scanNumber_196 : decode cX8_scanNumber 196 = .ok (.getfield 9, 3) := by decide +kernel
theorem dX8_scanNumber_199 : decode cX8_scanNumber 199 = .ok (.aload_n 0, 1) := by decide +kernel
theorem dX8_scanNumber_200 : decode cX8_scanNumber 200 = .ok (.getfield 21, 3) := by decide +kernel
theorem dX8_scanNumber_203 : decode cX8_scanNumber 203 = .ok (.caload, 1) := by decide +kernel
theorem dX8_scanNumber_204 : decode cX8_scanNumber 204 = .ok (.bipush 48, 2) := by decide +kernel
theorem dX8_scanNumber_206 : decode cX8_scanNumber 206 = .ok (.isub, 1) := by decide +kernel
theorem dX8_scanNumber_207 : decode cX8_scanNumber 207 = .ok (.goto 18, 3) := by decide +kernel
theorem dX8_scanNumber_210 : decode cX8_scanNumber 210 = .ok (.aload_n 0, 1) := by decide +kernel
theorem dX8_scanNumber_211 : decode cX8_scanNumber 211 = .ok (.getfield 9, 3) := by decide +kernel
theorem dX8_scanNumber_214 : decode cX8_scanNumber 214 = .ok (.aload_n 0, 1) := by decide +kernel
theorem dX8_scanNumber_215 : decode cX8_scanNumber 215 = .ok (.getfield 21, 3) := by decide +kernel
theorem dX8_scanNumber_218 : decode cX8_scanNumber 218 = .ok (.caload, 1) := by decide +kernel
theorem dX8_scanNumber_219 : decode cX8_scanNumber 219 = .ok (.bipush 97, 2) := by decide +kernel
theorem dX8_scanNumber_221 : decode cX8_scanNumber 221 = .ok (.isub, 1) := by decide +kernel
theorem dX8_scanNumber_222 : decode cX8_scanNumber 222 = .ok (.bipush 10, 2) := by decide +kernel
theorem dX8_scanNumber_224 : decode cX8_scanNumber 224 = .ok (.iadd, 1) := by decide +kernel
theorem dX8_scanNumber_225 : decode cX8_scanNumber 225 = .ok (.i2l, 1) := by decide +kernel
theorem dX8_scanNumber_226 : decode cX8_scanNumber 226 = .ok (.ladd, 1) := by decide +kernel
theorem dX8_scanNumber_227 : decode cX8_scanNumber 227 = .ok (.putfield 30, 3) := by decide +kernel
theorem dX8_scanNumber_230 : decode cX8_scanNumber 230 = .ok (.aload_n 0, 1) := by decide +kernel
theorem dX8_scanNumber_231 : decode cX8_scanNumber 231 = .ok (.dup, 1) := by decide +kernel
theorem dX8_scanNumber_232 : decode cX8_scanNumber 232 = .ok (.getfield 21, 3) := by decide +kernel
theorem dX8_scanNumber_235 : decode cX8_scanNumber 235 = .ok (.iconst 1, 1) := by decide +kernel
theorem dX8_scanNumber_236 : decode cX8_scanNumber 236 = .ok (.iadd, 1) := by decide +kernel
theorem dX8_scanNumber_237 : decode cX8_scanNumber 237 = .ok (.putfield 21, 3) := by decide +kernel
theorem dX8_scanNumber_240 : decode cX8_scanNumber 240 = .ok (.goto (-156), 3) := by decide +kernel
theorem dX8_scanNumber_243 : decode cX8_scanNumber 243 = .ok (.aload_n 0, 1) := by decide +kernel
theorem dX8_scanNumber_244 : decode cX8_scanNumber 244 = .ok (.getfield 21, 3) := by decide +kernel
theorem dX8_scanNumber_247 : decode cX8_scanNumber 247 = .ok (.iload_n 3, 1) := by decide +kernel
theorem dX8_scanNumber_248 : decode cX8_scanNumber 248 = .ok (.isub, 1) := by decide +kernel
theorem dX8_scanNumber_249 : decode cX8_scanNumber 249 = .ok (.istore 4, 2) := by decide +kernel
theorem dX8_scanNumber_251 : decode cX8_scanNumber 251 = .ok (.aload_n 0, 1) := by decide +kernel
theorem dX8_scanNumber_252 : decode cX8_scanNumber 252 = .ok (.iload 4, 2) := by decide +kernel
theorem dX8_scanNumber_254 : decode cX8_scanNumber 254 = .ok (.iconst 1, 1) := by decide +kernel
theorem dX8_scanNumber_255 : decode cX8_scanNumber 255 = .ok (.if_icmp .lt 23, 3) := by decide +kernel
theorem dX8_scanNumber_258 : decode cX8_scanNumber 258 = .ok (.iload 4, 2) := by decide +kernel
theorem dX8_scanNumber_260 : decode cX8_scanNumber 260 = .ok (.iload_n 1, 1) := by decide +kernel
theorem dX8_scanNumber_261 : decode cX8_scanNumber 261 = .ok (.ifCond .eq 8, 3) := by decide +kernel
theorem dX8_scanNumber_264 : decode cX8_scanNumber 264 = .ok (.bipush 8, 2) := by decide +kernel
theorem dX8_scanNumber_266 : decode cX8_scanNumber 266 = .ok (.goto 5, 3) := by decide +kernel
theorem dX8_scanNumber_269 : decode cX8_scanNumber 269 = .ok (.bipush 10, 2) := by decide +kernel
theorem dX8_scanNumber_271 : decode cX8_scanNumber 271 = .ok (.if_icmp .gt 7, 3) := by decide +kernel
theorem dX8_scanNumber_274 : decode cX8_scanNumber 274 = .ok (.iconst 3, 1) := by decide +kernel
theorem dX8_scanNumber_275 : decode cX8_scanNumber 275 = .ok (.goto 4, 3) := by decide +kernel
theorem dX8_scanNumber_278 : decode cX8_scanNumber 278 = .ok (.iconst 0, 1) := by decide +kernel
theorem dX8_scanNumber_279 : decode cX8_scanNumber 279 = .ok (.putfield 34, 3) := by decide +kernel
theorem dX8_scanNumber_282 : decode cX8_scanNumber 282 = .ok (.return_, 1) := by decide +kernel
theorem dX8_scheduleFault_0 : decode cX8_scheduleFault 0 = .ok (.iconst 0, 1) := by decide +kernel
theorem dX8_scheduleFault_1 : decode cX8_scheduleFault 1 = .ok (.istore_n 1, 1) := by decide +kernel
theorem dX8_scheduleFault_2 : decode cX8_scheduleFault 2 = .ok (.iload_n 1, 1) := by decide +kernel
theorem dX8_scheduleFault_3 : decode cX8_scheduleFault 3 = .ok (.aload_n 0, 1) := by decide +kernel
theorem dX8_scheduleFault_4 : decode cX8_scheduleFault 4 = .ok (.getfield 15, 3) := by decide +kernel
theorem dX8_scheduleFault_7 : decode cX8_scheduleFault 7 = .ok (.if_icmp .ge 119, 3) := by decide +kernel
theorem dX8_scheduleFault_10 : decode cX8_scheduleFault 10 = .ok (.aload_n 0, 1) := by decide +kernel
theorem dX8_scheduleFault_11 : decode cX8_scheduleFault 11 = .ok (.getfield 9, 3) := by decide +kernel
theorem dX8_scheduleFault_14 : decode cX8_scheduleFault 14 = .ok (.iload_n 1, 1) := by decide +kernel
theorem dX8_scheduleFault_15 : decode cX8_scheduleFault 15 = .ok (.caload, 1) := by decide +kernel
theorem dX8_scheduleFault_16 : decode cX8_scheduleFault 16 = .ok (.bipush 32, 2) := by decide +kernel
theorem dX8_scheduleFault_18 : decode cX8_scheduleFault 18 = .ok (.if_icmp .eq 102, 3) := by decide +kernel
theorem dX8_scheduleFault_21 : decode cX8_scheduleFault 21 = .ok (.aload_n 0, 1) := by decide +kernel
theorem dX8_scheduleFault_22 : decode cX8_scheduleFault 22 = .ok (.getfield 9, 3) := by decide +kernel
theorem dX8_scheduleFault_25 : decode cX8_scheduleFault 25 = .ok (.iload_n 1, 1) := by decide +kernel
theorem dX8_scheduleFault_26 : decode cX8_scheduleFault 26 = .ok (.caload, 1) := by decide +kernel
theorem dX8_scheduleFault_27 : decode cX8_scheduleFault 27 = .ok (.invokestatic 53, 3) := by decide +kernel
theorem dX8_scheduleFault_30 : decode cX8_scheduleFault 30 = .ok (.istore_n 2, 1) := by decide +kernel
theorem dX8_scheduleFault_31 : decode cX8_scheduleFault 31 = .ok (.iload_n 2, 1) := by decide +kernel
theorem dX8_scheduleFault_32 : decode cX8_scheduleFault 32 = .ok (.ifCond .ne 5, 3) := by decide +kernel
theorem dX8_scheduleFault_35 : decode cX8_scheduleFault 35 = .ok (.iload_n 1, 1) := by decide +kernel
theorem dX8_scheduleFault_36 : decode cX8_scheduleFault 36 = .ok (.ireturn, 1) := by decide +kernel
theorem dX8_scheduleFault_37 : decode cX8_scheduleFault 37 = .ok (.iload_n 1, 1) := by decide +kernel
theorem dX8_scheduleFault_38 : decode cX8_scheduleFault 38 = .ok (.iconst 1, 1) := by decide +kernel
theorem dX8_scheduleFault_39 : decode cX8_scheduleFault 39 = .ok (.iadd, 1) := by decide +kernel
theorem dX8_scheduleFault_40 : decode cX8_scheduleFault 40 = .ok (.istore_n 3, 1) := by decide +kernel
theorem dX8_scheduleFault_41 : decode cX8_scheduleFault 41 = .ok (.iload_n 3, 1) := by decide +kernel
theorem dX8_scheduleFault_42 : decode cX8_scheduleFault 42 = .ok (.iload_n 1, 1) := by decide +kernel
theorem dX8_scheduleFault_43 : decode cX8_scheduleFault 43 = .ok (.iload_n 2, 1) := by decide +kernel
theorem dX8_scheduleFault_44 : decode cX8_scheduleFault 44 = .ok (.iadd, 1) := by decide +kernel
theorem dX8_scheduleFault_45 : decode cX8_scheduleFault 45 = .ok (.if_icmp .gt 71, 3) := by decide +kernel
theorem dX8_scheduleFault_48 : decode cX8_scheduleFault 48 = .ok (.aload_n 0, 1) := by decide +kernel
theorem dX8_scheduleFault_49 : decode cX8_scheduleFault 49 = .ok (.getfield 9, 3) := by decide +kernel
theorem dX8_scheduleFault_52 : decode cX8_scheduleFault 52 = .ok (.iload_n 1, 1) := by decide +kernel
theorem dX8_scheduleFault_53 : decode cX8_scheduleFault 53 = .ok (.caload, 1) := by decide +kernel
theorem dX8_scheduleFault_54 : decode cX8_scheduleFault 54 = .ok (.bipush 114, 2) := by decide +kernel
theorem dX8_scheduleFault_56 : decode cX8_scheduleFault 56 = .ok (.if_icmp .ne 14, 3) := by decide +kernel
theorem dX8_scheduleFault_59 : decode cX8_scheduleFault 59 = .ok (.iload_n 3, 1) := by decide +kernel
theorem dX8_scheduleFault_60 : decode cX8_scheduleFault 60 = .ok (.iload_n 1, 1) := by decide +kernel
theorem dX8_scheduleFault_61 : decode cX8_scheduleFault 61 = .ok (.iconst 1, 1) := by decide +kernel
theorem dX8_scheduleFault_62 : decode cX8_scheduleFault 62 = .ok (.iadd, 1) := by decide +kernel
theorem dX8_scheduleFault_63 : decode cX8_scheduleFault 63 = .ok (.if_icmp .ne 7, 3) := by decide +kernel
theorem dX8_scheduleFault_66 : decode cX8_scheduleFault 66 = .ok (.iconst 2, 1) := by decide +kernel
theorem dX8_scheduleFault_67 : decode cX8_scheduleFault 67 = .ok (.goto 5, 3) := by decide +kernel
theorem dX8_scheduleFault_70 : decode cX8_scheduleFault 70 = .ok (.bipush 15, 2) := by decide +kernel
theorem dX8_scheduleFault_72 : decode cX8_scheduleFault 72 = .ok (.istore 4, 2) := by decide +kernel
theorem dX8_scheduleFault_74 : decode cX8_scheduleFault 74 = .ok (.iload_n 3, 1) := by decide +kernel
theorem dX8_scheduleFault_75 : decode cX8_scheduleFault 75 = .ok (.aload_n 0, 1) := by decide +kernel
theorem dX8_scheduleFault_76 : decode cX8_scheduleFault 76 = .ok (.getfield 15, 3) := by decide +kernel
theorem dX8_scheduleFault_79 : decode cX8_scheduleFault 79 = .ok (.if_icmp .ge 29, 3) := by decide +kernel
theorem dX8_scheduleFault_82 : decode cX8_scheduleFault 82 = .ok (.aload_n 0, 1) := by decide +kernel
theorem dX8_scheduleFault_83 : decode cX8_scheduleFault 83 = .ok (.getfield 9, 3) := by decide +kernel
theorem dX8_scheduleFault_86 : decode cX8_scheduleFault 86 = .ok (.iload_n 3, 1) := by decide +kernel
theorem dX8_scheduleFault_87 : decode cX8_scheduleFault 87 = .ok (.caload, 1) := by decide +kernel
theorem dX8_scheduleFault_88 : decode cX8_scheduleFault 88 = .ok (.invokestatic 57, 3) := by decide +kernel
theorem dX8_scheduleFault_91 : decode cX8_scheduleFault 91 = .ok (.ifCond .lt 17, 3) := by decide +kernel
theorem dX8_scheduleFault_94 : decode cX8_scheduleFault 94 = .ok (.aload_n 0, 1) := by decide +kernel
theorem dX8_scheduleFault_95 : decode cX8_scheduleFault 95 = .ok (.getfield 9, 3) := by decide +kernel
theorem dX8_scheduleFault_98 : decode cX8_scheduleFault 98 = .ok (.iload_n 3, 1) := by decide +kernel
theorem dX8_scheduleFault_99 : decode cX8_scheduleFault 99 = .ok (.caload, 1) := by decide +kernel
theorem dX8_scheduleFault_100 : decode cX8_scheduleFault 100 = .ok (.invokestatic 57, 3) := by decide +kernel
theorem dX8_scheduleFault_103 : decode cX8_scheduleFault 103 = .ok (.iload 4, 2) := by decide +kernel
theorem dX8_scheduleFault_105 : decode cX8_scheduleFault 105 = .ok (.if_icmp .le 5, 3) := by decide +kernel
theorem dX8_scheduleFault_108 : decode cX8_scheduleFault 108 = .ok (.iload_n 3, 1) := by decide +kernel
theorem dX8_scheduleFault_109 : decode cX8_scheduleFault 109 = .ok (.ireturn, 1) := by decide +kernel
theorem dX8_scheduleFault_110 : decode cX8_scheduleFault 110 = .ok (.iinc 3 1, 3) := by decide +kernel
theorem dX8_scheduleFault_113 : decode cX8_scheduleFault 113 = .ok (.goto (-72), 3) := by decide +kernel
theorem dX8_scheduleFault_116 : decode cX8_scheduleFault 116 = .ok (.iload_n 1, 1) := by decide +kernel
theorem dX8_scheduleFault_117 : decode cX8_scheduleFault 117 = .ok (.iload_n 2, 1) := by decide +kernel
theorem dX8_scheduleFault_118 : decode cX8_scheduleFault 118 = .ok (.iadd, 1) := by decide +kernel
theorem dX8_scheduleFault_119 : decode cX8_scheduleFault 119 = .ok (.istore_n 1, 1) := by decide +kernel
theorem dX8_scheduleFault_120 : decode cX8_scheduleFault 120 = .ok (.iinc 1 1, 3) := by decide +kernel
theorem dX8_scheduleFault_123 : decode cX8_scheduleFault 123 = .ok (.goto (-121), 3) := by decide +kernel
theorem dX8_scheduleFault_126 : decode cX8_scheduleFault 126 = .ok (.iconst (-1), 1) := by decide +kernel
theorem dX8_scheduleFault_127 : decode cX8_scheduleFault 127 = .ok (.ireturn, 1) := by decide +kernel
theorem dX8_digitsBehind_0 : decode cX8_digitsBehind 0 = .ok (.iload_n 0, 1) := by decide +kernel
theorem dX8_digitsBehind_1 : decode cX8_digitsBehind 1 = .ok (.bipush 115, 2) := by decide +kernel
theorem dX8_digitsBehind_3 : decode cX8_digitsBehind 3 = .ok (.if_icmp .eq 9, 3) := by decide +kernel
theorem dX8_digitsBehind_6 : decode cX8_digitsBehind 6 = .ok (.iload_n 0, 1) := by decide +kernel
theorem dX8_digitsBehind_7 : decode cX8_digitsBehind 7 = .ok (.bipush 100, 2) := by decide +kernel
theorem dX8_digitsBehind_9 : decode cX8_digitsBehind 9 = .ok (.if_icmp .ne 7, 3) := by decide +kernel
theorem dX8_digitsBehind_12 : decode cX8_digitsBehind 12 = .ok (.iconst 1, 1) := by decide +kernel
theorem dX8_digitsBehind_13 : decode cX8_digitsBehind 13 = .ok (.goto 20, 3) := by decide +kernel
theorem dX8_digitsBehind_16 : decode cX8_digitsBehind 16 = .ok (.iload_n 0, 1) := by decide +kernel
theorem dX8_digitsBehind_17 : decode cX8_digitsBehind 17 = .ok (.bipush 109, 2) := by decide +kernel
theorem dX8_digitsBehind_19 : decode cX8_digitsBehind 19 = .ok (.if_icmp .eq 9, 3) := by decide +kernel
theorem dX8_digitsBehind_22 : decode cX8_digitsBehind 22 = .ok (.iload_n 0, 1) := by decide +kernel
theorem dX8_digitsBehind_23 : decode cX8_digitsBehind 23 = .ok (.bipush 114, 2) := by decide +kernel
theorem dX8_digitsBehind_25 : decode cX8_digitsBehind 25 = .ok (.if_icmp .ne 7, 3) := by decide +kernel
theorem dX8_digitsBehind_28 : decode cX8_digitsBehind 28 = .ok (.iconst 2, 1) := by decide +kernel
theorem dX8_digitsBehind_29 : decode cX8_digitsBehind 29 = .ok (.goto 4, 3) := by decide +kernel
theorem dX8_digitsBehind_32 : decode cX8_digitsBehind 32 = .ok (.iconst 0, 1) := by decide +kernel
theorem dX8_digitsBehind_33 : decode cX8_digitsBehind 33 = .ok (.ireturn, 1) := by decide +kernel
theorem dX8_digit_0 : decode cX8_digit 0 = .ok (.iload_n 0, 1) := by decide +kernel
theorem dX8_digit_1 : decode cX8_digit 1 = .ok (.bipush 48, 2) := by decide +kernel
theorem dX8_digit_3 : decode cX8_digit 3 = .ok (.if_icmp .lt 14, 3) := by decide +kernel
theorem dX8_digit_6 : decode cX8_digit 6 = .ok (.iload_n 0, 1) := by decide +kernel
theorem dX8_digit_7 : decode cX8_digit 7 = .ok (.bipush 57, 2) := by decide +kernel
theorem dX8_digit_9 : decode cX8_digit 9 = .ok (.if_icmp .gt 8, 3) := by decide +kernel
theorem dX8_digit_12 : decode cX8_digit 12 = .ok (.iload_n 0, 1) := by decide +kernel
theorem dX8_digit_13 : decode cX8_digit 13 = .ok (.bipush 48, 2) := by decide +kernel
theorem dX8_digit_15 : decode cX8_digit 15 = .ok (.isub, 1) := by decide +kernel
theorem dX8_digit_16 : decode cX8_digit 16 = .ok (.ireturn, 1) := by decide +kernel
theorem dX8_digit_17 : decode cX8_digit 17 = .ok (.iload_n 0, 1) := by decide +kernel
theorem dX8_digit_18 : decode cX8_digit 18 = .ok (.bipush 97, 2) := by decide +kernel
theorem dX8_digit_20 : decode cX8_digit 20 = .ok (.if_icmp .lt 19, 3) := by decide +kernel
theorem dX8_digit_23 : decode cX8_digit 23 = .ok (.iload_n 0, 1) := by decide +kernel
theorem dX8_digit_24 : decode cX8_digit 24 = .ok (.bipush 102, 2) := by decide +kernel
theorem dX8_digit_26 : decode cX8_digit 26 = .ok (.if_icmp .gt 13, 3) := by decide +kernel
theorem dX8_digit_29 : decode cX8_digit 29 = .ok (.iload_n 0, 1) := by decide +kernel
theorem dX8_digit_30 : decode cX8_digit 30 = .ok (.bipush 97, 2) := by decide +kernel
theorem dX8_digit_32 : decode cX8_digit 32 = .ok (.isub, 1) := by decide +kernel
theorem dX8_digit_33 : decode cX8_digit 33 = .ok (.bipush 10, 2) := by decide +kernel
theorem dX8_digit_35 : decode cX8_digit 35 = .ok (.iadd, 1) := by decide +kernel
theorem dX8_digit_36 : decode cX8_digit 36 = .ok (.goto 4, 3) := by decide +kernel
theorem dX8_digit_39 : decode cX8_digit 39 = .ok (.iconst (-1), 1) := by decide +kernel
theorem dX8_digit_40 : decode cX8_digit 40 = .ok (.ireturn, 1) := by decide +kernel
theorem dX9_init_0 : decode cX9_init 0 = .ok (.aload_n 0, 1) := by decide +kernel
theorem dX9_init_1 : decode cX9_init 1 = .ok (.invokespecial 1, 3) := by decide +kernel
theorem dX9_init_4 : decode cX9_init 4 = .ok (.aload_n 0, 1) := by decide +kernel
theorem dX9_init_5 : decode cX9_init 5 = .ok (.sipush 256, 3) := by decide +kernel
theorem dX9_init_8 : decode cX9_init 8 = .ok (.newarray .int, 2) := by decide +kernel
theorem dX9_init_10 : decode cX9_init 10 = .ok (.putfield 9, 3) := by decide +kernel
theorem dX9_init_13 : decode cX9_init 13 = .ok (.return_, 1) := by decide +kernel
theorem dX9_note_0 : decode cX9_note 0 = .ok (.aload_n 0, 1) := by decide +kernel
theorem dX9_note_1 : decode cX9_note 1 = .ok (.getfield 13, 3) := by decide +kernel
theorem dX9_note_4 : decode cX9_note 4 = .ok (.bipush 32, 2) := by decide +kernel
theorem dX9_note_6 : decode cX9_note 6 = .ok (.irem, 1) := by decide +kernel
theorem dX9_note_7 : decode cX9_note 7 = .ok (.bipush 8, 2) := by decide +kernel
theorem dX9_note_9 : decode cX9_note 9 = .ok (.imul, 1) := by decide +kernel
theorem dX9_note_10 : decode cX9_note 10 = .ok (.istore 8, 2) := by decide +kernel
theorem dX9_note_12 : decode cX9_note 12 = .ok (.aload_n 0, 1) := by decide +kernel
theorem dX9_note_13 : decode cX9_note 13 = .ok (.getfield 9, 3) := by decide +kernel
theorem dX9_note_16 : decode cX9_note 16 = .ok (.iload 8, 2) := by decide +kernel
theorem dX9_note_18 : decode cX9_note 18 = .ok (.iload_n 1, 1) := by decide +kernel
theorem dX9_note_19 : decode cX9_note 19 = .ok (.iastore, 1) := by decide +kernel
theorem dX9_note_20 : decode cX9_note 20 = .ok (.aload_n 0, 1) := by decide +kernel
theorem dX9_note_21 : decode cX9_note 21 = .ok (.getfield 9, 3) := by decide +kernel
theorem dX9_note_24 : decode cX9_note 24 = .ok (.iload 8, 2) := by decide +kernel
theorem dX9_note_26 : decode cX9_note 26 = .ok (.iconst 1, 1) := by decide +kernel
theorem dX9_note_27 : decode cX9_note 27 = .ok (.iadd, 1) := by decide +kernel
theorem dX9_note_28 : decode cX9_note 28 = .ok (.iload_n 2, 1) := by decide +kernel
theorem dX9_note_29 : decode cX9_note 29 = .ok (.iastore, 1) := by decide +kernel
theorem dX9_note_30 : decode cX9_note 30 = .ok (.aload_n 0, 1) := by decide +kernel
theorem dX9_note_31 : decode cX9_note 31 = .ok (.getfield 9, 3) := by decide +kernel
theorem dX9_note_34 : decode cX9_note 34 = .ok (.iload 8, 2) := by decide +kernel
theorem dX9_note_36 : decode cX9_note 36 = .ok (.iconst 2, 1) := by decide +kernel
theorem dX9_note_37 : decode cX9_note 37 = .ok (.iadd, 1) := by decide +kernel
theorem dX9_note_38 : decode cX9_note 38 = .ok (.iload_n 3, 1) := by decide +kernel
theorem dX9_note_39 : decode cX9_note 39 = .ok (.iastore, 1) := by decide +kernel
theorem dX9_note_40 : decode cX9_note 40 = .ok (.aload_n 0, 1) := by decide +kernel
theorem dX9_note_41 : decode cX9_note 41 = .ok (.getfield 9, 3) := by decide +kernel
theorem dX9_note_44 : decode cX9_note 44 = .ok (.iload 8, 2) := by decide +kernel
theorem dX9_note_46 : decode cX9_note 46 = .ok (.iconst 3, 1) := by decide +kernel
theorem dX9_note_47 : decode cX9_note 47 = .ok (.iadd, 1) := by decide +kernel
theorem dX9_note_48 : decode cX9_note 48 = .ok (.iload 4, 2) := by decide +kernel
theorem dX9_note_50 : decode cX9_note 50 = .ok (.iastore, 1) := by decide +kernel
theorem dX9_note_51 : decode cX9_note 51 = .ok (.aload_n 0, 1) := by decide +kernel
theorem dX9_note_52 : decode cX9_note 52 = .ok (.getfield 9, 3) := by decide +kernel
theorem dX9_note_55 : decode cX9_note 55 = .ok (.iload 8, 2) := by decide +kernel
theorem dX9_note_57 : decode cX9_note 57 = .ok (.iconst 4, 1) := by decide +kernel
theorem dX9_note_58 : decode cX9_note 58 = .ok (.iadd, 1) := by decide +kernel
theorem dX9_note_59 : decode cX9_note 59 = .ok (.iload 5, 2) := by decide +kernel
theorem dX9_note_61 : decode cX9_note 61 = .ok (.iastore, 1) := by decide +kernel
theorem dX9_note_62 : decode cX9_note 62 = .ok (.aload_n 0, 1) := by decide +kernel
theorem dX9_note_63 : decode cX9_note 63 = .ok (.getfield 9, 3) := by decide +kernel
theorem dX9_note_66 : decode cX9_note 66 = .ok (.iload 8, 2) := by decide +kernel
theorem dX9_note_68 : decode cX9_note 68 = .ok (.iconst 5, 1) := by decide +kernel
theorem dX9_note_69 : decode cX9_note 69 = .ok (.iadd, 1) := by decide +kernel
theorem dX9_note_70 : decode cX9_note 70 = .ok (.iload 6, 2) := by decide +kernel
theorem dX9_note_72 : decode cX9_note 72 = .ok (.iastore, 1) := by decide +kernel
theorem dX9_note_73 : decode cX9_note 73 = .ok (.aload_n 0, 1) := by decide +kernel
theorem dX9_note_74 : decode cX9_note 74 = .ok (.getfield 9, 3) := by decide +kernel
theorem dX9_note_77 : decode cX9_note 77 = .ok (.iload 8, 2) := by decide +kernel
theorem dX9_note_79 : decode cX9_note 79 = .ok (.bipush 6, 2) := by decide +kernel
theorem dX9_note_81 : decode cX9_note 81 = .ok (.iadd, 1) := by decide +kernel
theorem dX9_note_82 : decode cX9_note 82 = .ok (.iload 7, 2) := by decide +kernel
theorem dX9_note_84 : decode cX9_note 84 = .ok (.iastore, 1) := by decide +kernel
theorem dX9_note_85 : decode cX9_note 85 = .ok (.aload_n 0, 1) := by decide +kernel
theorem dX9_note_86 : decode cX9_note 86 = .ok (.getfield 9, 3) := by decide +kernel
theorem dX9_note_89 : decode cX9_note 89 = .ok (.iload 8, 2) := by decide +kernel
theorem dX9_note_91 : decode cX9_note 91 = .ok (.bipush 7, 2) := by decide +kernel
theorem dX9_note_93 : decode cX9_note 93 = .ok (.iadd, 1) := by decide +kernel
theorem dX9_note_94 : decode cX9_note 94 = .ok (.aload_n 0, 1) := by decide +kernel
theorem dX9_note_95 : decode cX9_note 95 = .ok (.getfield 13, 3) := by decide +kernel
theorem dX9_note_98 : decode cX9_note 98 = .ok (.iastore, 1) := by decide +kernel
theorem dX9_note_99 : decode cX9_note 99 = .ok (.aload_n 0, 1) := by decide +kernel
theorem dX9_note_100 : decode cX9_note 100 = .ok (.dup, 1) := by decide +kernel
theorem dX9_note_101 : decode cX9_note 101 = .ok (.getfield 13, 3) := by decide +kernel
theorem dX9_note_104 : decode cX9_note 104 = .ok (.iconst 1, 1) := by decide +kernel
theorem dX9_note_105 : decode cX9_note 105 = .ok (.iadd, 1) := by decide +kernel
theorem dX9_note_106 : decode cX9_note 106 = .ok (.putfield 13, 3) := by decide +kernel
theorem dX9_note_109 : decode cX9_note 109 = .ok (.return_, 1) := by decide +kernel
theorem dX9_has_0 : decode cX9_has 0 = .ok (.iload_n 1, 1) := by decide +kernel
theorem dX9_has_1 : decode cX9_has 1 = .ok (.ifCond .lt 21, 3) := by decide +kernel
theorem dX9_has_4 : decode cX9_has 4 = .ok (.iload_n 1, 1) := by decide +kernel
theorem dX9_has_5 : decode cX9_has 5 = .ok (.bipush 32, 2) := by decide +kernel
theorem dX9_has_7 : decode cX9_has 7 = .ok (.if_icmp .ge 15, 3) := by decide +kernel
theorem dX9_has_10 : decode cX9_has 10 = .ok (.iload_n 1, 1) := by decide +kernel
theorem dX9_has_11 : decode cX9_has 11 = .ok (.aload_n 0, 1) := by decide +kernel
theorem dX9_has_12 : decode cX9_has 12 = .ok (.getfield 13, 3) := by decide +kernel
theorem dX9_has_15 : decode cX9_has 15 = .ok (.if_icmp .ge 7, 3) := by decide +kernel
theorem dX9_has_18 : decode cX9_has 18 = .ok (.iconst 1, 1) := by decide +kernel
theorem dX9_has_19 : decode cX9_has 19 = .ok (.goto 4, 3) := by decide +kernel
theorem dX9_has_22 : decode cX9_has 22 = .ok (.iconst 0, 1) := by decide +kernel
theorem dX9_has_23 : decode cX9_has 23 = .ok (.ireturn, 1) := by decide +kernel
theorem dX9_get_0 : decode cX9_get 0 = .ok (.aload_n 0, 1) := by decide +kernel
theorem dX9_get_1 : decode cX9_get 1 = .ok (.getfield 9, 3) := by decide +kernel
theorem dX9_get_4 : decode cX9_get 4 = .ok (.aload_n 0, 1) := by decide +kernel
theorem dX9_get_5 : decode cX9_get 5 = .ok (.getfield 13, 3) := by decide +kernel
theorem dX9_get_8 : decode cX9_get 8 = .ok (.iconst 1, 1) := by decide +kernel
theorem dX9_get_9 : decode cX9_get 9 = .ok (.isub, 1) := by decide +kernel
theorem dX9_get_10 : decode cX9_get 10 = .ok (.iload_n 1, 1) := by decide +kernel
theorem dX9_get_11 : decode cX9_get 11 = .ok (.isub, 1) := by decide +kernel
theorem dX9_get_12 : decode cX9_get 12 = .ok (.bipush 32, 2) := by decide +kernel
theorem dX9_get_14 : decode cX9_get 14 = .ok (.irem, 1) := by decide +kernel
theorem dX9_get_15 : decode cX9_get 15 = .ok (.bipush 8, 2) := by decide +kernel
theorem dX9_get_17 : decode cX9_get 17 = .ok (.imul, 1) := by decide +kernel
theorem dX9_get_18 : decode cX9_get 18 = .ok (.iload_n 2, 1) := by decide +kernel
theorem dX9_get_19 : decode cX9_get 19 = .ok (.iadd, 1) := by decide +kernel
theorem dX9_get_20 : decode cX9_get 20 = .ok (.iaload, 1) := by decide +kernel
theorem dX9_get_21 : decode cX9_get 21 = .ok (.ireturn, 1) := by decide +kernel
theorem dX10_init_0 : decode cX10_init 0 = .ok (.aload_n 0, 1) := by decide +kernel
theorem dX10_init_1 : decode cX10_init 1 = .ok (.invokespecial 3, 3) := by decide +kernel
theorem dX10_init_4 : decode cX10_init 4 = .ok (.aload_n 0, 1) := by decide +kernel
theorem dX10_init_5 : decode cX10_init 5 = .ok (.new 9, 3) := by decide +kernel
theorem dX10_init_8 : decode cX10_init 8 = .ok (.dup, 1) := by decide +kernel
theorem dX10_init_9 : decode cX10_init 9 = .ok (.invokespecial 11, 3) := by decide +kernel
theorem dX10_init_12 : decode cX10_init 12 = .ok (.putfield 12, 3) := by decide +kernel
theorem dX10_init_15 : decode cX10_init 15 = .ok (.aload_n 0, 1) := by decide +kernel
theorem dX10_init_16 : decode cX10_init 16 = .ok (.new 16, 3) := by decide +kernel
theorem dX10_init_19 : decode cX10_init 19 = .ok (.dup, 1) := by decide +kernel
theorem dX10_init_20 : decode cX10_init 20 = .ok (.aload_n 0, 1) := by decide +kernel
theorem dX10_init_21 : decode cX10_init 21 = .ok (.getfield 12, 3) := by decide +kernel
theorem dX10_init_24 : decode cX10_init 24 = .ok (.invokespecial 18, 3) := by decide +kernel
theorem dX10_init_27 : decode cX10_init 27 = .ok (.putfield 21, 3) := by decide +kernel
theorem dX10_init_30 : decode cX10_init 30 = .ok (.aload_n 0, 1) := by decide +kernel
theorem dX10_init_31 : decode cX10_init 31 = .ok (.new 25, 3) := by decide +kernel
theorem dX10_init_34 : decode cX10_init 34 = .ok (.dup, 1) := by decide +kernel
theorem dX10_init_35 : decode cX10_init 35 = .ok (.invokespecial 27, 3) := by decide +kernel
theorem dX10_init_38 : decode cX10_init 38 = .ok (.putfield 28, 3) := by decide +kernel
theorem dX10_init_41 : decode cX10_init 41 = .ok (.aload_n 0, 1) := by decide +kernel
theorem dX10_init_42 : decode cX10_init 42 = .ok (.new 32, 3) := by decide +kernel
theorem dX10_init_45 : decode cX10_init 45 = .ok (.dup, 1) := by decide +kernel
theorem dX10_init_46 : decode cX10_init 46 = .ok (.aload_n 0, 1) := by decide +kernel
theorem dX10_init_47 : decode cX10_init 47 = .ok (.getfield 28, 3) := by decide +kernel
theorem dX10_init_50 : decode cX10_init 50 = .ok (.invokespecial 34, 3) := by decide +kernel
theorem dX10_init_53 : decode cX10_init 53 = .ok (.putfield 37, 3) := by decide +kernel
theorem dX10_init_56 : decode cX10_init 56 = .ok (.aload_n 0, 1) := by decide +kernel
theorem dX10_init_57 : decode cX10_init 57 = .ok (.bipush 16, 2) := by decide +kernel
theorem dX10_init_59 : decode cX10_init 59 = .ok (.anewarray 41, 3) := by decide +kernel
theorem dX10_init_62 : decode cX10_init 62 = .ok (.putfield 43, 3) := by decide +kernel
theorem dX10_init_65 : decode cX10_init 65 = .ok (.aload_n 0, 1) := by decide +kernel
theorem dX10_init_66 : decode cX10_init 66 = .ok (.bipush 6, 2) := by decide +kernel
theorem dX10_init_68 : decode cX10_init 68 = .ok (.newarray .int, 2) := by decide +kernel
theorem dX10_init_70 : decode cX10_init 70 = .ok (.dup, 1) := by decide +kernel
theorem dX10_init_71 : decode cX10_init 71 = .ok (.iconst 0, 1) := by decide +kernel
theorem dX10_init_72 : decode cX10_init 72 = .ok (.iconst 1, 1) := by decide +kernel
theorem dX10_init_73 : decode cX10_init 73 = .ok (.iastore, 1) := by decide +kernel
theorem dX10_init_74 : decode cX10_init 74 = .ok (.dup, 1) := by decide +kernel
theorem dX10_init_75 : decode cX10_init 75 = .ok (.iconst 1, 1) := by decide +kernel
theorem dX10_init_76 : decode cX10_init 76 = .ok (.iconst 1, 1) := by decide +kernel
theorem dX10_init_77 : decode cX10_init 77 = .ok (.iastore, 1) := by decide +kernel
theorem dX10_init_78 : decode cX10_init 78 = .ok (.dup, 1) := by decide +kernel
theorem dX10_init_79 : decode cX10_init 79 = .ok (.iconst 2, 1) := by decide +kernel
theorem dX10_init_80 : decode cX10_init 80 = .ok (.iconst 1, 1) := by decide +kernel
theorem dX10_init_81 : decode cX10_init 81 = .ok (.iastore, 1) := by decide +kernel
theorem dX10_init_82 : decode cX10_init 82 = .ok (.dup, 1) := by decide +kernel
theorem dX10_init_83 : decode cX10_init 83 = .ok (.iconst 3, 1) := by decide +kernel
theorem dX10_init_84 : decode cX10_init 84 = .ok (.iconst 1, 1) := by decide +kernel
theorem dX10_init_85 : decode cX10_init 85 = .ok (.iastore, 1) := by decide +kernel
theorem dX10_init_86 : decode cX10_init 86 = .ok (.dup, 1) := by decide +kernel
theorem dX10_init_87 : decode cX10_init 87 = .ok (.iconst 4, 1) := by decide +kernel
theorem dX10_init_88 : decode cX10_init 88 = .ok (.iconst 1, 1) := by decide +kernel
theorem dX10_init_89 : decode cX10_init 89 = .ok (.iastore, 1) := by decide +kernel
theorem dX10_init_90 : decode cX10_init 90 = .ok (.dup, 1) := by decide +kernel
theorem dX10_init_91 : decode cX10_init 91 = .ok (.iconst 5, 1) := by decide +kernel
theorem dX10_init_92 : decode cX10_init 92 = .ok (.iconst 1, 1) := by decide +kernel
theorem dX10_init_93 : decode cX10_init 93 = .ok (.iastore, 1) := by decide +kernel
theorem dX10_init_94 : decode cX10_init 94 = .ok (.putfield 47, 3) := by decide +kernel
theorem dX10_init_97 : decode cX10_init 97 = .ok (.aload_n 0, 1) := by decide +kernel
theorem dX10_init_98 : decode cX10_init 98 = .ok (.bipush 6, 2) := by decide +kernel
theorem dX10_init_100 : decode cX10_init 100 = .ok (.newarray .int, 2) := by decide +kernel
theorem dX10_init_102 : decode cX10_init 102 = .ok (.dup, 1) := by decide +kernel
theorem dX10_init_103 : decode cX10_init 103 = .ok (.iconst 0, 1) := by decide +kernel
theorem dX10_init_104 : decode cX10_init 104 = .ok (.iconst 1, 1) := by decide +kernel
theorem dX10_init_105 : decode cX10_init 105 = .ok (.iastore, 1) := by decide +kernel
theorem dX10_init_106 : decode cX10_init 106 = .ok (.dup, 1) := by decide +kernel
theorem dX10_init_107 : decode cX10_init 107 = .ok (.iconst 1, 1) := by decide +kernel
theorem dX10_init_108 : decode cX10_init 108 = .ok (.iconst 1, 1) := by decide +kernel
theorem dX10_init_109 : decode cX10_init 109 = .ok (.iastore, 1) := by decide +kernel
theorem dX10_init_110 : decode cX10_init 110 = .ok (.dup, 1) := by decide +kernel
theorem dX10_init_111 : decode cX10_init 111 = .ok (.iconst 2, 1) := by decide +kernel
theorem dX10_init_112 : decode cX10_init 112 = .ok (.iconst 1, 1) := by decide +kernel
theorem dX10_init_113 : decode cX10_init 113 = .ok (.iastore, 1) := by decide +kernel
theorem dX10_init_114 : decode cX10_init 114 = .ok (.dup, 1) := by decide +kernel
theorem dX10_init_115 : decode cX10_init 115 = .ok (.iconst 3, 1) := by decide +kernel
theorem dX10_init_116 : decode cX10_init 116 = .ok (.iconst 1, 1) := by decide +kernel
theorem dX10_init_117 : decode cX10_init 117 = .ok (.iastore, 1) := by decide +kernel
theorem dX10_init_118 : decode cX10_init 118 = .ok (.dup, 1) := by decide +kernel
theorem dX10_init_119 : decode cX10_init 119 = .ok (.iconst 4, 1) := by decide +kernel
theorem dX10_init_120 : decode cX10_init 120 = .ok (.iconst 1, 1) := by decide +kernel
theorem dX10_init_121 : decode cX10_init 121 = .ok (.iastore, 1) := by decide +kernel
theorem dX10_init_122 : decode cX10_init 122 = .ok (.dup, 1) := by decide +kernel
theorem dX10_init_123 : decode cX10_init 123 = .ok (.iconst 5, 1) := by decide +kernel
theorem dX10_init_124 : decode cX10_init 124 = .ok (.iconst 1, 1) := by decide +kernel
theorem dX10_init_125 : decode cX10_init 125 = .ok (.iastore, 1) := by decide +kernel
theorem dX10_init_126 : decode cX10_init 126 = .ok (.putfield 51, 3) := by decide +kernel
theorem dX10_init_129 : decode cX10_init 129 = .ok (.iconst 0, 1) := by decide +kernel
theorem dX10_init_130 : decode cX10_init 130 = .ok (.istore_n 1, 1) := by decide +kernel
theorem dX10_init_131 : decode cX10_init 131 = .ok (.iload_n 1, 1) := by decide +kernel
theorem dX10_init_132 : decode cX10_init 132 = .ok (.bipush 16, 2) := by decide +kernel
theorem dX10_init_134 : decode cX10_init 134 = .ok (.if_icmp .ge 27, 3) := by decide +kernel
theorem dX10_init_137 : decode cX10_init 137 = .ok (.aload_n 0, 1) := by decide +kernel
theorem dX10_init_138 : decode cX10_init 138 = .ok (.getfield 43, 3) := by decide +kernel
theorem dX10_init_141 : decode cX10_init 141 = .ok (.iload_n 1, 1) := by decide +kernel
theorem dX10_init_142 : decode cX10_init 142 = .ok (.new 41, 3) := by decide +kernel
theorem dX10_init_145 : decode cX10_init 145 = .ok (.dup, 1) := by decide +kernel
theorem dX10_init_146 : decode cX10_init 146 = .ok (.iload_n 1, 1) := by decide +kernel
theorem dX10_init_147 : decode cX10_init 147 = .ok (.aload_n 0, 1) := by decide +kernel
theorem dX10_init_148 : decode cX10_init 148 = .ok (.getfield 28, 3) := by decide +kernel
theorem dX10_init_151 : decode cX10_init 151 = .ok (.invokespecial 54, 3) := by decide +kernel
theorem dX10_init_154 : decode cX10_init 154 = .ok (.aastore, 1) := by decide +kernel
theorem dX10_init_155 : decode cX10_init 155 = .ok (.iinc 1 1, 3) := by decide +kernel
theorem dX10_init_158 : decode cX10_init 158 = .ok (.goto (-27), 3) := by decide +kernel
theorem dX10_init_161 : decode cX10_init 161 = .ok (.return_, 1) := by decide +kernel
theorem dX10_type_0 : decode cX10_type 0 = .ok (.aload_n 0, 1) := by decide +kernel
theorem dX10_type_1 : decode cX10_type 1 = .ok (.getfield 12, 3) := by decide +kernel
theorem dX10_type_4 : decode cX10_type 4 = .ok (.lload_n 1, 1) := by decide +kernel
theorem dX10_type_5 : decode cX10_type 5 = .ok (.iload_n 3, 1) := by decide +kernel
theorem dX10_type_6 : decode cX10_type 6 = .ok (.invokevirtual 57, 3) := by decide +kernel
theorem dX10_type_9 : decode cX10_type 9 = .ok (.ireturn, 1) := by decide +kernel
theorem dX10_sizes_0 : decode cX10_sizes 0 = .ok (.iload_n 1, 1) := by decide +kernel
theorem dX10_sizes_1 : decode cX10_sizes 1 = .ok (.iconst 1, 1) := by decide +kernel
theorem dX10_sizes_2 : decode cX10_sizes 2 = .ok (.if_icmp .lt 20, 3) := by decide +kernel
theorem dX10_sizes_5 : decode cX10_sizes 5 = .ok (.iload_n 1, 1) := by decide +kernel
theorem dX10_sizes_6 : decode cX10_sizes 6 = .ok (.bipush 16, 2) := by decide +kernel
theorem dX10_sizes_8 : decode cX10_sizes 8 = .ok (.if_icmp .gt 14, 3) := by decide +kernel
theorem dX10_sizes_11 : decode cX10_sizes 11 = .ok (.iload_n 2, 1) := by decide +kernel
theorem dX10_sizes_12 : decode cX10_sizes 12 = .ok (.iconst 1, 1) := by decide +kernel
theorem dX10_sizes_13 : decode cX10_sizes 13 = .ok (.if_icmp .lt 9, 3) := by decide +kernel
theorem dX10_sizes_16 : decode cX10_sizes 16 = .ok (.iload_n 2, 1) := by decide +kernel
theorem dX10_sizes_17 : decode cX10_sizes 17 = .ok (.bipush 16, 2) := by decide +kernel
theorem dX10_sizes_19 : decode cX10_sizes 19 = .ok (.if_icmp .le 5, 3) := by decide +kernel
theorem dX10_sizes_22 : decode cX10_sizes 22 = .ok (.iconst 0, 1) := by decide +kernel
theorem dX10_sizes_23 : decode cX10_sizes 23 = .ok (.ireturn, 1) := by decide +kernel
theorem dX10_sizes_24 : decode cX10_sizes 24 = .ok (.iload_n 3, 1) := by decide +kernel
theorem dX10_sizes_25 : decode cX10_sizes 25 = .ok (.bipush 8, 2) := by decide +kernel
theorem dX10_sizes_27 : decode cX10_sizes 27 = .ok (.invokestatic 61, 3) := by decide +kernel
theorem dX10_sizes_30 : decode cX10_sizes 30 = .ok (.ifCond .eq 35, 3) := by decide +kernel
theorem dX10_sizes_33 : decode cX10_sizes 33 = .ok (.iload 4, 2) := by decide +kernel
theorem dX10_sizes_35 : decode cX10_sizes 35 = .ok (.iconst 4, 1) := by decide +kernel
theorem dX10_sizes_36 : decode cX10_sizes 36 = .ok (.invokestatic 61, 3) := by decide +kernel
theorem dX10_sizes_39 : decode cX10_sizes 39 = .ok (.ifCond .eq 26, 3) := by decide +kernel
theorem dX10_sizes_42 : decode cX10_sizes 42 = .ok (.iload 5, 2) := by decide +kernel
theorem dX10_sizes_44 : decode cX10_sizes 44 = .ok (.bipush 64, 2) := by decide +kernel
theorem dX10_sizes_46 : decode cX10_sizes 46 = .ok (.invokestatic 61, 3) := by decide +kernel
theorem dX10_sizes_49 : decode cX10_sizes 49 = .ok (.ifCond .eq 16, 3) := by decide +kernel
theorem dX10_sizes_52 : decode cX10_sizes 52 = .ok (.iload 6, 2) := by decide +kernel
theorem dX10_sizes_54 : decode cX10_sizes 54 = .ok (.iconst 1, 1) := by decide +kernel
theorem dX10_sizes_55 : decode cX10_sizes 55 = .ok (.if_icmp .lt 10, 3) := by decide +kernel
theorem dX10_sizes_58 : decode cX10_sizes 58 = .ok (.iload 6, 2) := by decide +kernel
theorem dX10_sizes_60 : decode cX10_sizes 60 = .ok (.bipush 8, 2) := by decide +kernel
theorem dX10_sizes_62 : decode cX10_sizes 62 = .ok (.if_icmp .le 5, 3) := by decide +kernel
theorem dX10_sizes_65 : decode cX10_sizes 65 = .ok (.iconst 0, 1) := by decide +kernel
theorem dX10_sizes_66 : decode cX10_sizes 66 = .ok (.ireturn, 1) := by decide +kernel
theorem dX10_sizes_67 : decode cX10_sizes 67 = .ok (.iload 5, 2) := by decide +kernel
theorem dX10_sizes_69 : decode cX10_sizes 69 = .ok (.iload 6, 2) := by decide +kernel
theorem dX10_sizes_71 : decode cX10_sizes 71 = .ok (.imul, 1) := by decide +kernel
theorem dX10_sizes_72 : decode cX10_sizes 72 = .ok (.iload_n 1, 1) := by decide +kernel
theorem dX10_sizes_73 : decode cX10_sizes 73 = .ok (.iload_n 3, 1) := by decide +kernel
theorem dX10_sizes_74 : decode cX10_sizes 74 = .ok (.imul, 1) := by decide +kernel
theorem dX10_sizes_75 : decode cX10_sizes 75 = .ok (.iload 4, 2) := by decide +kernel
theorem dX10_sizes_77 : decode cX10_sizes 77 = .ok (.imul, 1) := by decide +kernel
theorem dX10_sizes_78 : decode cX10_sizes 78 = .ok (.if_icmp .ge 5, 3) := by decide +kernel
theorem dX10_sizes_81 : decode cX10_sizes 81 = .ok (.iconst 0, 1) := by decide +kernel
theorem dX10_sizes_82 : decode cX10_sizes 82 = .ok (.ireturn, 1) := by decide +kernel
theorem dX10_sizes_83 : decode cX10_sizes 83 = .ok (.aload_n 0, 1) := by decide +kernel
theorem dX10_sizes_84 : decode cX10_sizes 84 = .ok (.getfield 51, 3) := by decide +kernel
theorem dX10_sizes_87 : decode cX10_sizes 87 = .ok (.iconst 0, 1) := by decide +kernel
theorem dX10_sizes_88 : decode cX10_sizes 88 = .ok (.iload_n 1, 1) := by decide +kernel
theorem dX10_sizes_89 : decode cX10_sizes 89 = .ok (.iastore, 1) := by decide +kernel
theorem dX10_sizes_90 : decode cX10_sizes 90 = .ok (.aload_n 0, 1) := by decide +kernel
theorem dX10_sizes_91 : decode cX10_sizes 91 = .ok (.getfield 51, 3) := by decide +kernel
theorem dX10_sizes_94 : decode cX10_sizes 94 = .ok (.iconst 1, 1) := by decide +kernel
theorem dX10_sizes_95 : decode cX10_sizes 95 = .ok (.iload_n 2, 1) := by decide +kernel
theorem dX10_sizes_96 : decode cX10_sizes 96 = .ok (.iastore, 1) := by decide +kernel
theorem dX10_sizes_97 : decode cX10_sizes 97 = .ok (.aload_n 0, 1) := by decide +kernel
theorem dX10_sizes_98 : decode cX10_sizes 98 = .ok (.getfield 51, 3) := by decide +kernel
theorem dX10_sizes_101 : decode cX10_sizes 101 = .ok (.iconst 2, 1) := by decide +kernel
theorem dX10_sizes_102 : decode cX10_sizes 102 = .ok (.iload_n 3, 1) := by decide +kernel
theorem dX10_sizes_103 : decode cX10_sizes 103 = .ok (.iastore, 1) := by decide +kernel
theorem dX10_sizes_104 : decode cX10_sizes 104 = .ok (.aload_n 0, 1) := by decide +kernel
theorem dX10_sizes_105 : decode cX10_sizes 105 = .ok (.getfield 51, 3) := by decide +kernel
theorem dX10_sizes_108 : decode cX10_sizes 108 = .ok (.iconst 3, 1) := by decide +kernel
theorem dX10_sizes_109 : decode cX10_sizes 109 = .ok (.iload 4, 2) := by decide +kernel
theorem dX10_sizes_111 : decode cX10_sizes 111 = .ok (.iastore, 1) := by decide +kernel
theorem dX10_sizes_112 : decode cX10_sizes 112 = .ok (.aload_n 0, 1) := by decide +kernel
theorem dX10_sizes_113 : decode cX10_sizes 113 = .ok (.getfield 51, 3) := by decide +kernel
theorem dX10_sizes_116 : decode cX10_sizes 116 = .ok (.iconst 4, 1) := by decide +kernel
theorem dX10_sizes_117 : decode cX10_sizes 117 = .ok (.iload 5, 2) := by decide +kernel
theorem dX10_sizes_119 : decode cX10_sizes 119 = .ok (.iastore, 1) := by decide +kernel
theorem dX10_sizes_120 : decode cX10_sizes 120 = .ok (.aload_n 0, 1) := by decide +kernel
theorem dX10_sizes_121 : decode cX10_sizes 121 = .ok (.getfield 51, 3) := by decide +kernel
theorem dX10_sizes_124 : decode cX10_sizes 124 = .ok (.iconst 5, 1) := by decide +kernel
theorem dX10_sizes_125 : decode cX10_sizes 125 = .ok (.iload 6, 2) := by decide +kernel
theorem dX10_sizes_127 : decode cX10_sizes 127 = .ok (.iastore, 1) := by decide +kernel
theorem dX10_sizes_128 : decode cX10_sizes 128 = .ok (.iconst 1, 1) := by decide +kernel
theorem dX10_sizes_129 : decode cX10_sizes 129 = .ok (.ireturn, 1) := by decide +kernel
theorem dX10_isPower_0 : decode cX10_isPower 0 = .ok (.iload_n 0, 1) := by decide +kernel
theorem dX10_isPower_1 : decode cX10_isPower 1 = .ok (.iconst 1, 1) := by decide +kernel
theorem dX10_isPower_2 : decode cX10_isPower 2 = .ok (.if_icmp .lt 20, 3) := by decide +kernel
theorem dX10_isPower_5 : decode cX10_isPower 5 = .ok (.iload_n 0, 1) := by decide +kernel
theorem dX10_isPower_6 : decode cX10_isPower 6 = .ok (.iload_n 1, 1) := by decide +kernel
theorem dX10_isPower_7 : decode cX10_isPower 7 = .ok (.if_icmp .gt 15, 3) := by decide +kernel
theorem dX10_isPower_10 : decode cX10_isPower 10 = .ok (.iload_n 0, 1) := by decide +kernel
theorem dX10_isPower_11 : decode cX10_isPower 11 = .ok (.iload_n 0, 1) := by decide +kernel
theorem dX10_isPower_12 : decode cX10_isPower 12 = .ok (.iconst 1, 1) := by decide +kernel
theorem dX10_isPower_13 : decode cX10_isPower 13 = .ok (.isub, 1) := by decide +kernel
theorem dX10_isPower_14 : decode cX10_isPower 14 = .ok (.iand, 1) := by decide +kernel
theorem dX10_isPower_15 : decode cX10_isPower 15 = .ok (.ifCond .ne 7, 3) := by decide +kernel
theorem dX10_isPower_18 : decode cX10_isPower 18 = .ok (.iconst 1, 1) := by decide +kernel
theorem dX10_isPower_19 : decode cX10_isPower 19 = .ok (.goto 4, 3) := by decide +kernel
theorem dX10_isPower_22 : decode cX10_isPower 22 = .ok (.iconst 0, 1) := by decide +kernel
theorem dX10_isPower_23 : decode cX10_isPower 23 = .ok (.ireturn, 1) := by decide +kernel
theorem dX10_beginAnew_0 : decode cX10_beginAnew 0 = .ok (.aload_n 0, 1) := by decide +kernel
theorem dX10_beginAnew_1 : decode cX10_beginAnew 1 = .ok (.getfield 51, 3) := by decide +kernel
theorem dX10_beginAnew_4 : decode cX10_beginAnew 4 = .ok (.iconst 0, 1) := by decide +kernel
theorem dX10_beginAnew_5 : decode cX10_beginAnew 5 = .ok (.aload_n 0, 1) := by decide +kernel
theorem dX10_beginAnew_6 : decode cX10_beginAnew 6 = .ok (.getfield 47, 3) := by decide +kernel
theorem dX10_beginAnew_9 : decode cX10_beginAnew 9 = .ok (.iconst 0, 1) := by decide +kernel
theorem dX10_beginAnew_10 : decode cX10_beginAnew 10 = .ok (.aload_n 0, 1) := by decide +kernel
theorem dX10_beginAnew_11 : decode cX10_beginAnew 11 = .ok (.getfield 47, 3) := by decide +kernel
theorem dX10_beginAnew_14 : decode cX10_beginAnew 14 = .ok (.arraylength, 1) := by decide +kernel
theorem dX10_beginAnew_15 : decode cX10_beginAnew 15 = .ok (.invokestatic 91, 3) := by decide +kernel
theorem dX10_beginAnew_18 : decode cX10_beginAnew 18 = .ok (.aload_n 0, 1) := by decide +kernel
theorem dX10_beginAnew_19 : decode cX10_beginAnew 19 = .ok (.getfield 28, 3) := by decide +kernel
theorem dX10_beginAnew_22 : decode cX10_beginAnew 22 = .ok (.invokevirtual 97, 3) := by decide +kernel
theorem dX10_beginAnew_25 : decode cX10_beginAnew 25 = .ok (.aload_n 0, 1) := by decide +kernel
theorem dX10_beginAnew_26 : decode cX10_beginAnew 26 = .ok (.getfield 37, 3) := by decide +kernel
theorem dX10_beginAnew_29 : decode cX10_beginAnew 29 = .ok (.aload_n 0, 1) := by decide +kernel
theorem dX10_beginAnew_30 : decode cX10_beginAnew 30 = .ok (.getfield 47, 3) := by decide +kernel
theorem dX10_beginAnew_33 : decode cX10_beginAnew 33 = .ok (.iconst 4, 1) := by decide +kernel
theorem dX10_beginAnew_34 : decode cX10_beginAnew 34 = .ok (.iaload, 1) := by decide +kernel
theorem dX10_beginAnew_35 : decode cX10_beginAnew 35 = .ok (.aload_n 0, 1) := by decide +kernel
theorem dX10_beginAnew_36 : decode cX10_beginAnew 36 = .ok (.getfield 47, 3) := by decide +kernel
theorem dX10_beginAnew_39 : decode cX10_beginAnew 39 = .ok (.iconst 5, 1) := by decide +kernel
theorem dX10_beginAnew_40 : decode cX10_beginAnew 40 = .ok (.iaload, 1) := by decide +kernel
theorem dX10_beginAnew_41 : decode cX10_beginAnew 41 = .ok (.invokevirtual 98, 3) := by decide +kernel
theorem dX10_beginAnew_44 : decode cX10_beginAnew 44 = .ok (.aload_n 0, 1) := by decide +kernel
theorem dX10_beginAnew_45 : decode cX10_beginAnew 45 = .ok (.getfield 21, 3) := by decide +kernel
theorem dX10_beginAnew_48 : decode cX10_beginAnew 48 = .ok (.aload_n 0, 1) := by decide +kernel
theorem dX10_beginAnew_49 : decode cX10_beginAnew 49 = .ok (.getfield 37, 3) := by decide +kernel
theorem dX10_beginAnew_52 : decode cX10_beginAnew 52 = .ok (.getfield 102, 3) := by decide +kernel
theorem dX10_beginAnew_55 : decode cX10_beginAnew 55 = .ok (.invokevirtual 105, 3) := by decide +kernel
theorem dX10_beginAnew_58 : decode cX10_beginAnew 58 = .ok (.iconst 0, 1) := by decide +kernel
theorem dX10_beginAnew_59 : decode cX10_beginAnew 59 = .ok (.istore_n 1, 1) := by decide +kernel
theorem dX10_beginAnew_60 : decode cX10_beginAnew 60 = .ok (.iload_n 1, 1) := by decide +kernel
theorem dX10_beginAnew_61 : decode cX10_beginAnew 61 = .ok (.bipush 16, 2) := by decide +kernel
theorem dX10_beginAnew_63 : decode cX10_beginAnew 63 = .ok (.if_icmp .ge 45, 3) := by decide +kernel
theorem dX10_beginAnew_66 : decode cX10_beginAnew 66 = .ok (.aload_n 0, 1) := by decide +kernel
theorem dX10_beginAnew_67 : decode cX10_beginAnew 67 = .ok (.getfield 43, 3) := by decide +kernel
theorem dX10_beginAnew_70 : decode cX10_beginAnew 70 = .ok (.iload_n 1, 1) := by decide +kernel
theorem dX10_beginAnew_71 : decode cX10_beginAnew 71 = .ok (.aaload, 1) := by decide +kernel
theorem dX10_beginAnew_72 : decode cX10_beginAnew 72 = .ok (.aload_n 0, 1) := by decide +kernel
theorem dX10_beginAnew_73 : decode cX10_beginAnew 73 = .ok (.getfield 21, 3) := by decide +kernel
theorem dX10_beginAnew_76 : decode cX10_beginAnew 76 = .ok (.getfield 109, 3) := by decide +kernel
theorem dX10_beginAnew_79 : decode cX10_beginAnew 79 = .ok (.iload_n 1, 1) := by decide +kernel
theorem dX10_beginAnew_80 : decode cX10_beginAnew 80 = .ok (.iaload, 1) := by decide +kernel
theorem dX10_beginAnew_81 : decode cX10_beginAnew 81 = .ok (.aload_n 0, 1) := by decide +kernel
theorem dX10_beginAnew_82 : decode cX10_beginAnew 82 = .ok (.getfield 47, 3) := by decide +kernel
theorem dX10_beginAnew_85 : decode cX10_beginAnew 85 = .ok (.iconst 1, 1) := by decide +kernel
theorem dX10_beginAnew_86 : decode cX10_beginAnew 86 = .ok (.iaload, 1) := by decide +kernel
theorem dX10_beginAnew_87 : decode cX10_beginAnew 87 = .ok (.aload_n 0, 1) := by decide +kernel
theorem dX10_beginAnew_88 : decode cX10_beginAnew 88 = .ok (.getfield 47, 3) := by decide +kernel
theorem dX10_beginAnew_91 : decode cX10_beginAnew 91 = .ok (.iconst 2, 1) := by decide +kernel
theorem dX10_beginAnew_92 : decode cX10_beginAnew 92 = .ok (.iaload, 1) := by decide +kernel
theorem dX10_beginAnew_93 : decode cX10_beginAnew 93 = .ok (.aload_n 0, 1) := by decide +kernel
theorem dX10_beginAnew_94 : decode cX10_beginAnew 94 = .ok (.getfield 47, 3) := by decide +kernel
theorem dX10_beginAnew_97 : decode cX10_beginAnew 97 = .ok (.iconst 3, 1) := by decide +kernel
theorem dX10_beginAnew_98 : decode cX10_beginAnew 98 = .ok (.iaload, 1) := by decide +kernel
theorem dX10_beginAnew_99 : decode cX10_beginAnew 99 = .ok (.invokevirtual 112, 3) := by decide +kernel
theorem dX10_beginAnew_102 : decode cX10_beginAnew 102 = .ok (.iinc 1 1, 3) := by decide +kernel
theorem dX10_beginAnew_105 : decode cX10_beginAnew 105 = .ok (.goto (-45), 3) := by decide +kernel
theorem dX10_beginAnew_108 : decode cX10_beginAnew 108 = .ok (.aload_n 0, 1) := by decide +kernel
theorem dX10_beginAnew_109 : decode cX10_beginAnew 109 = .ok (.iconst 0, 1) := by decide +kernel
theorem dX10_beginAnew_110 : decode cX10_beginAnew 110 = .ok (.putfield 115, 3) := by decide +kernel
theorem dX10_beginAnew_113 : decode cX10_beginAnew 113 = .ok (.aload_n 0, 1) := by decide +kernel
theorem dX10_beginAnew_114 : decode cX10_beginAnew 114 = .ok (.iconst 0, 1) := by decide +kernel
theorem dX10_beginAnew_115 : decode cX10_beginAnew 115 = .ok (.putfield 118, 3) := by decide +kernel
theorem dX10_beginAnew_118 : decode cX10_beginAnew 118 = .ok (.return_, 1) := by decide +kernel
theorem dX10_fault_0 : decode cX10_fault 0 = .ok (.iload_n 1, 1) := by decide +kernel
theorem dX10_fault_1 : decode cX10_fault 1 = .ok (.ifCond .ne 10, 3) := by decide +kernel
theorem dX10_fault_4 : decode cX10_fault 4 = .ok (.aload_n 0, 1) := by decide +kernel
theorem dX10_fault_5 : decode cX10_fault 5 = .ok (.getfield 76, 3) := by decide +kernel
theorem dX10_fault_8 : decode cX10_fault 8 = .ok (.goto 16, 3) := by decide +kernel
theorem dX10_fault_11 : decode cX10_fault 11 = .ok (.iload_n 1, 1) := by decide +kernel
theorem dX10_fault_12 : decode cX10_fault 12 = .ok (.iconst 1, 1) := by decide +kernel
theorem dX10_fault_13 : decode cX10_fault 13 = .ok (.if_icmp .ne 10, 3) := by decide +kernel
theorem dX10_fault_16 : decode cX10_fault 16 = .ok (.aload_n 0, 1) := by decide +kernel
theorem dX10_fault_17 : decode cX10_fault 17 = .ok (.getfield 80, 3) := by decide +kernel
theorem dX10_fault_20 : decode cX10_fault 20 = .ok (.goto 4, 3) := by decide +kernel
theorem dX10_fault_23 : decode cX10_fault 23 = .ok (.iconst (-1), 1) := by decide +kernel
theorem dX10_fault_24 : decode cX10_fault 24 = .ok (.ireturn, 1) := by decide +kernel
theorem dX10_isCore_0 : decode cX10_isCore 0 = .ok (.iload_n 1, 1) := by decide +kernel
theorem dX10_isCore_1 : decode cX10_isCore 1 = .ok (.ifCond .lt 17, 3) := by decide +kernel
theorem dX10_isCore_4 : decode cX10_isCore 4 = .ok (.iload_n 1, 1) := by decide +kernel
theorem dX10_isCore_5 : decode cX10_isCore 5 = .ok (.aload_n 0, 1) := by decide +kernel
theorem dX10_isCore_6 : decode cX10_isCore 6 = .ok (.getfield 47, 3) := by decide +kernel
theorem dX10_isCore_9 : decode cX10_isCore 9 = .ok (.iconst 0, 1) := by decide +kernel
theorem dX10_isCore_10 : decode cX10_isCore 10 = .ok (.iaload, 1) := by decide +kernel
theorem dX10_isCore_11 : decode cX10_isCore 11 = .ok (.if_icmp .ge 7, 3) := by decide +kernel
theorem dX10_isCore_14 : decode cX10_isCore 14 = .ok (.iconst 1, 1) := by decide +kernel
theorem dX10_isCore_15 : decode cX10_isCore 15 = .ok (.goto 4, 3) := by decide +kernel
theorem dX10_isCore_18 : decode cX10_isCore 18 = .ok (.iconst 0, 1) := by decide +kernel
theorem dX10_isCore_19 : decode cX10_isCore 19 = .ok (.ireturn, 1) := by decide +kernel
theorem dX10_deliver_0 : decode cX10_deliver 0 = .ok (.aload_n 0, 1) := by decide +kernel
theorem dX10_deliver_1 : decode cX10_deliver 1 = .ok (.iload_n 1, 1) := by decide +kernel
theorem dX10_deliver_2 : decode cX10_deliver 2 = .ok (.invokevirtual 136, 3) := by decide +kernel
theorem dX10_deliver_5 : decode cX10_deliver 5 = .ok (.ireturn, 1) := by decide +kernel
theorem dX10_deliverOn_0 : decode cX10_deliverOn 0 = .ok (.aload_n 0, 1) := by decide +kernel
theorem dX10_deliverOn_1 : decode cX10_deliverOn 1 = .ok (.aload_n 0, 1) := by decide +kernel
theorem dX10_deliverOn_2 : decode cX10_deliverOn 2 = .ok (.getfield 28, 3) := by decide +kernel
theorem dX10_deliverOn_5 : decode cX10_deliverOn 5 = .ok (.iload_n 1, 1) := by decide +kernel
theorem dX10_deliverOn_6 : decode cX10_deliverOn 6 = .ok (.iload_n 2, 1) := by decide +kernel
theorem dX10_deliverOn_7 : decode cX10_deliverOn 7 = .ok (.invokevirtual 139, 3) := by decide +kernel
theorem dX10_deliverOn_10 : decode cX10_deliverOn 10 = .ok (.invokevirtual 136, 3) := by decide +kernel
theorem dX10_deliverOn_13 : decode cX10_deliverOn 13 = .ok (.ireturn, 1) := by decide +kernel
theorem dX10_carry_0 : decode cX10_carry 0 = .ok (.aload_n 0, 1) := by decide +kernel
theorem dX10_carry_1 : decode cX10_carry 1 = .ok (.getfield 28, 3) := by decide +kernel
theorem dX10_carry_4 : decode cX10_carry 4 = .ok (.iload_n 1, 1) := by decide +kernel
theorem dX10_carry_5 : decode cX10_carry 5 = .ok (.invokevirtual 143, 3) := by decide +kernel
theorem dX10_carry_8 : decode cX10_carry 8 = .ok (.ifCond .ne 5, 3) := by decide +kernel
theorem dX10_carry_11 : decode cX10_carry 11 = .ok (.iconst 0, 1) := by decide +kernel
theorem dX10_carry_12 : decode cX10_carry 12 = .ok (.ireturn, 1) := by decide +kernel
theorem dX10_carry_13 : decode cX10_carry 13 = .ok (.aload_n 0, 1) := by decide +kernel
theorem dX10_carry_14 : decode cX10_carry 14 = .ok (.getfield 28, 3) := by decide +kernel
theorem dX10_carry_17 : decode cX10_carry 17 = .ok (.getfield 146, 3) := by decide +kernel
theorem dX10_carry_20 : decode cX10_carry 20 = .ok (.iconst 2, 1) := by decide +kernel
theorem dX10_carry_21 : decode cX10_carry 21 = .ok (.iaload, 1) := by decide +kernel
theorem dX10_carry_22 : decode cX10_carry 22 = .ok (.istore_n 2, 1) := by decide +kernel
theorem dX10_carry_23 : decode cX10_carry 23 = .ok (.iload_n 2, 1) := by decide +kernel
theorem dX10_carry_24 : decode cX10_carry 24 = .ok (.bipush 16, 2) := by decide +kernel
theorem dX10_carry_26 : decode cX10_carry 26 = .ok (.if_icmp .ne 20, 3) := by decide +kernel
theorem dX10_carry_29 : decode cX10_carry 29 = .ok (.aload_n 0, 1) := by decide +kernel
theorem dX10_carry_30 : decode cX10_carry 30 = .ok (.getfield 37, 3) := by decide +kernel
theorem dX10_carry_33 : decode cX10_carry 33 = .ok (.aload_n 0, 1) := by decide +kernel
theorem dX10_carry_34 : decode cX10_carry 34 = .ok (.getfield 28, 3) := by decide +kernel
theorem dX10_carry_37 : decode cX10_carry 37 = .ok (.getfield 146, 3) := by decide +kernel
theorem dX10_carry_40 : decode cX10_carry 40 = .ok (.invokevirtual 149, 3) := by decide +kernel
theorem dX10_carry_43 : decode cX10_carry 43 = .ok (.goto 27, 3) := by decide +kernel
theorem dX10_carry_46 : decode cX10_carry 46 = .ok (.aload_n 0, 1) := by decide +kernel
theorem dX10_carry_47 : decode cX10_carry 47 = .ok (.iload_n 2, 1) := by decide +kernel
theorem dX10_carry_48 : decode cX10_carry 48 = .ok (.invokevirtual 121, 3) := by decide +kernel
theorem dX10_carry_51 : decode cX10_carry 51 = .ok (.ifCond .eq 19, 3) := by decide +kernel
theorem dX10_carry_54 : decode cX10_carry 54 = .ok (.aload_n 0, 1) := by decide +kernel
theorem dX10_carry_55 : decode cX10_carry 55 = .ok (.getfield 43, 3) := by decide +kernel
theorem dX10_carry_58 : decode cX10_carry 58 = .ok (.iload_n 2, 1) := by decide +kernel
theorem dX10_carry_59 : decode cX10_carry 59 = .ok (.aaload, 1) := by decide +kernel
theorem dX10_carry_60 : decode cX10_carry 60 = .ok (.aload_n 0, 1) := by decide +kernel
theorem dX10_carry_61 : decode cX10_carry 61 = .ok (.getfield 28, 3) := by decide +kernel
theorem dX10_carry_64 : decode cX10_carry 64 = .ok (.getfield 146, 3) := by decide +kernel
theorem dX10_carry_67 : decode cX10_carry 67 = .ok (.invokevirtual 152, 3) := by decide +kernel
theorem dX10_carry_70 : decode cX10_carry 70 = .ok (.iconst 1, 1) := by decide +kernel
theorem dX10_carry_71 : decode cX10_carry 71 = .ok (.ireturn, 1) := by decide +kernel
theorem dX10_retired_0 : decode cX10_retired 0 = .ok (.iconst 0, 1) := by decide +kernel
theorem dX10_retired_1 : decode cX10_retired 1 = .ok (.istore_n 1, 1) := by decide +kernel
theorem dX10_retired_2 : decode cX10_retired 2 = .ok (.iconst 0, 1) := by decide +kernel
theorem dX10_retired_3 : decode cX10_retired 3 = .ok (.istore_n 2, 1) := by decide +kernel
theorem dX10_retired_4 : decode cX10_retired 4 = .ok (.iload_n 2, 1) := by decide +kernel
theorem dX10_retired_5 : decode cX10_retired 5 = .ok (.aload_n 0, 1) := by decide +kernel
theorem dX10_retired_6 : decode cX10_retired 6 = .ok (.getfield 47, 3) := by decide +kernel
theorem dX10_retired_9 : decode cX10_retired 9 = .ok (.iconst 0, 1) := by decide +kernel
theorem dX10_retired_10 : decode cX10_retired 10 = .ok (.iaload, 1) := by decide +kernel
theorem dX10_retired_11 : decode cX10_retired 11 = .ok (.if_icmp .ge 24, 3) := by decide +kernel
theorem dX10_retired_14 : decode cX10_retired 14 = .ok (.iload_n 1, 1) := by decide +kernel
theorem dX10_retired_15 : decode cX10_retired 15 = .ok (.aload_n 0, 1) := by decide +kernel
theorem dX10_retired_16 : decode cX10_retired 16 = .ok (.getfield 43, 3) := by decide +kernel
theorem dX10_retired_19 : decode cX10_retired 19 = .ok (.iload_n 2, 1) := by decide +kernel
theorem dX10_retired_20 : decode cX10_retired 20 = .ok (.aaload, 1) := by decide +kernel
theorem dX10_retired_21 : decode cX10_retired 21 = .ok (.getfield 162, 3) := by decide +kernel
theorem dX10_retired_24 : decode cX10_retired 24 = .ok (.getfield 166, 3) := by decide +kernel
theorem dX10_retired_27 : decode cX10_retired 27 = .ok (.iadd, 1) := by decide +kernel
theorem dX10_retired_28 : decode cX10_retired 28 = .ok (.istore_n 1, 1) := by decide +kernel
theorem dX10_retired_29 : decode cX10_retired 29 = .ok (.iinc 2 1, 3) := by decide +kernel
theorem dX10_retired_32 : decode cX10_retired 32 = .ok (.goto (-28), 3) := by decide +kernel
theorem dX10_retired_35 : decode cX10_retired 35 = .ok (.iload_n 1, 1) := by decide +kernel
theorem dX10_retired_36 : decode cX10_retired 36 = .ok (.ireturn, 1) := by decide +kernel
theorem dX10_changed_0 : decode cX10_changed 0 = .ok (.iconst 0, 1) := by decide +kernel
theorem dX10_changed_1 : decode cX10_changed 1 = .ok (.istore_n 1, 1) := by decide +kernel
theorem dX10_changed_2 : decode cX10_changed 2 = .ok (.iconst 0, 1) := by decide +kernel
theorem dX10_changed_3 : decode cX10_changed 3 = .ok (.istore_n 2, 1) := by decide +kernel
theorem dX10_changed_4 : decode cX10_changed 4 = .ok (.iload_n 2, 1) := by decide +kernel
theorem dX10_changed_5 : decode cX10_changed 5 = .ok (.aload_n 0, 1) := by decide +kernel
theorem dX10_changed_6 : decode cX10_changed 6 = .ok (.getfield 47, 3) := by decide +kernel
theorem dX10_changed_9 : decode cX10_changed 9 = .ok (.iconst 0, 1) := by decide +kernel
theorem dX10_changed_10 : decode cX10_changed 10 = .ok (.iaload, 1) := by decide +kernel
