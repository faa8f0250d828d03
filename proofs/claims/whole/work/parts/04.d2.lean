theorem dX2_init_0 : decode cX2_init 0 = .ok (.aload_n 0, 1) := by decide +kernel
theorem dX2_init_1 : decode cX2_init 1 = .ok (.invokespecial 3, 3) := by decide +kernel
theorem dX2_init_4 : decode cX2_init 4 = .ok (.aload_n 0, 1) := by decide +kernel
theorem dX2_init_5 : decode cX2_init 5 = .ok (.bipush 32, 2) := by decide +kernel
theorem dX2_init_7 : decode cX2_init 7 = .ok (.newarray .int, 2) := by decide +kernel
theorem dX2_init_9 : decode cX2_init 9 = .ok (.putfield 9, 3) := by decide +kernel
theorem dX2_init_12 : decode cX2_init 12 = .ok (.aload_n 0, 1) := by decide +kernel
theorem dX2_init_13 : decode cX2_init 13 = .ok (.bipush 32, 2) := by decide +kernel
theorem dX2_init_15 : decode cX2_init 15 = .ok (.newarray .int, 2) := by decide +kernel
theorem dX2_init_17 : decode cX2_init 17 = .ok (.putfield 15, 3) := by decide +kernel
theorem dX2_init_20 : decode cX2_init 20 = .ok (.aload_n 0, 1) := by decide +kernel
theorem dX2_init_21 : decode cX2_init 21 = .ok (.bipush 32, 2) := by decide +kernel
theorem dX2_init_23 : decode cX2_init 23 = .ok (.newarray .int, 2) := by decide +kernel
theorem dX2_init_25 : decode cX2_init 25 = .ok (.putfield 18, 3) := by decide +kernel
theorem dX2_init_28 : decode cX2_init 28 = .ok (.aload_n 0, 1) := by decide +kernel
theorem dX2_init_29 : decode cX2_init 29 = .ok (.sipush 128, 3) := by decide +kernel
theorem dX2_init_32 : decode cX2_init 32 = .ok (.newarray .int, 2) := by decide +kernel
theorem dX2_init_34 : decode cX2_init 34 = .ok (.putfield 21, 3) := by decide +kernel
theorem dX2_init_37 : decode cX2_init 37 = .ok (.return_, 1) := by decide +kernel
theorem dX2_begin_0 : decode cX2_begin 0 = .ok (.aload_n 0, 1) := by decide +kernel
theorem dX2_begin_1 : decode cX2_begin 1 = .ok (.iload_n 1, 1) := by decide +kernel
theorem dX2_begin_2 : decode cX2_begin 2 = .ok (.putfield 24, 3) := by decide +kernel
theorem dX2_begin_5 : decode cX2_begin 5 = .ok (.aload_n 0, 1) := by decide +kernel
theorem dX2_begin_6 : decode cX2_begin 6 = .ok (.iload_n 2, 1) := by decide +kernel
theorem dX2_begin_7 : decode cX2_begin 7 = .ok (.putfield 28, 3) := by decide +kernel
theorem dX2_begin_10 : decode cX2_begin 10 = .ok (.aload_n 0, 1) := by decide +kernel
theorem dX2_begin_11 : decode cX2_begin 11 = .ok (.iconst 0, 1) := by decide +kernel
theorem dX2_begin_12 : decode cX2_begin 12 = .ok (.putfield 31, 3) := by decide +kernel
theorem dX2_begin_15 : decode cX2_begin 15 = .ok (.aload_n 0, 1) := by decide +kernel
theorem dX2_begin_16 : decode cX2_begin 16 = .ok (.getfield 15, 3) := by decide +kernel
theorem dX2_begin_19 : decode cX2_begin 19 = .ok (.iconst 0, 1) := by decide +kernel
theorem dX2_begin_20 : decode cX2_begin 20 = .ok (.invokestatic 34, 3) := by decide +kernel
theorem dX2_begin_23 : decode cX2_begin 23 = .ok (.return_, 1) := by decide +kernel
theorem dX2_find_0 : decode cX2_find 0 = .ok (.iload_n 1, 1) := by decide +kernel
theorem dX2_find_1 : decode cX2_find 1 = .ok (.aload_n 0, 1) := by decide +kernel
theorem dX2_find_2 : decode cX2_find 2 = .ok (.getfield 24, 3) := by decide +kernel
theorem dX2_find_5 : decode cX2_find 5 = .ok (.iconst 1, 1) := by decide +kernel
theorem dX2_find_6 : decode cX2_find 6 = .ok (.isub, 1) := by decide +kernel
theorem dX2_find_7 : decode cX2_find 7 = .ok (.iand, 1) := by decide +kernel
theorem dX2_find_8 : decode cX2_find 8 = .ok (.aload_n 0, 1) := by decide +kernel
theorem dX2_find_9 : decode cX2_find 9 = .ok (.getfield 28, 3) := by decide +kernel
theorem dX2_find_12 : decode cX2_find 12 = .ok (.imul, 1) := by decide +kernel
theorem dX2_find_13 : decode cX2_find 13 = .ok (.istore_n 2, 1) := by decide +kernel
theorem dX2_find_14 : decode cX2_find 14 = .ok (.iload_n 2, 1) := by decide +kernel
theorem dX2_find_15 : decode cX2_find 15 = .ok (.istore_n 3, 1) := by decide +kernel
theorem dX2_find_16 : decode cX2_find 16 = .ok (.iload_n 3, 1) := by decide +kernel
theorem dX2_find_17 : decode cX2_find 17 = .ok (.iload_n 2, 1) := by decide +kernel
theorem dX2_find_18 : decode cX2_find 18 = .ok (.aload_n 0, 1) := by decide +kernel
theorem dX2_find_19 : decode cX2_find 19 = .ok (.getfield 28, 3) := by decide +kernel
theorem dX2_find_22 : decode cX2_find 22 = .ok (.iadd, 1) := by decide +kernel
theorem dX2_find_23 : decode cX2_find 23 = .ok (.if_icmp .ge 30, 3) := by decide +kernel
theorem dX2_find_26 : decode cX2_find 26 = .ok (.aload_n 0, 1) := by decide +kernel
theorem dX2_find_27 : decode cX2_find 27 = .ok (.getfield 15, 3) := by decide +kernel
theorem dX2_find_30 : decode cX2_find 30 = .ok (.iload_n 3, 1) := by decide +kernel
theorem dX2_find_31 : decode cX2_find 31 = .ok (.iaload, 1) := by decide +kernel
theorem dX2_find_32 : decode cX2_find 32 = .ok (.ifCond .eq 15, 3) := by decide +kernel
theorem dX2_find_35 : decode cX2_find 35 = .ok (.aload_n 0, 1) := by decide +kernel
theorem dX2_find_36 : decode cX2_find 36 = .ok (.getfield 9, 3) := by decide +kernel
theorem dX2_find_39 : decode cX2_find 39 = .ok (.iload_n 3, 1) := by decide +kernel
theorem dX2_find_40 : decode cX2_find 40 = .ok (.iaload, 1) := by decide +kernel
theorem dX2_find_41 : decode cX2_find 41 = .ok (.iload_n 1, 1) := by decide +kernel
theorem dX2_find_42 : decode cX2_find 42 = .ok (.if_icmp .ne 5, 3) := by decide +kernel
theorem dX2_find_45 : decode cX2_find 45 = .ok (.iload_n 3, 1) := by decide +kernel
theorem dX2_find_46 : decode cX2_find 46 = .ok (.ireturn, 1) := by decide +kernel
theorem dX2_find_47 : decode cX2_find 47 = .ok (.iinc 3 1, 3) := by decide +kernel
theorem dX2_find_50 : decode cX2_find 50 = .ok (.goto (-34), 3) := by decide +kernel
theorem dX2_find_53 : decode cX2_find 53 = .ok (.iconst (-1), 1) := by decide +kernel
theorem dX2_find_54 : decode cX2_find 54 = .ok (.ireturn, 1) := by decide +kernel
theorem dX2_slotFor_0 : decode cX2_slotFor 0 = .ok (.iload_n 1, 1) := by decide +kernel
theorem dX2_slotFor_1 : decode cX2_slotFor 1 = .ok (.aload_n 0, 1) := by decide +kernel
theorem dX2_slotFor_2 : decode cX2_slotFor 2 = .ok (.getfield 24, 3) := by decide +kernel
theorem dX2_slotFor_5 : decode cX2_slotFor 5 = .ok (.iconst 1, 1) := by decide +kernel
theorem dX2_slotFor_6 : decode cX2_slotFor 6 = .ok (.isub, 1) := by decide +kernel
theorem dX2_slotFor_7 : decode cX2_slotFor 7 = .ok (.iand, 1) := by decide +kernel
theorem dX2_slotFor_8 : decode cX2_slotFor 8 = .ok (.aload_n 0, 1) := by decide +kernel
theorem dX2_slotFor_9 : decode cX2_slotFor 9 = .ok (.getfield 28, 3) := by decide +kernel
theorem dX2_slotFor_12 : decode cX2_slotFor 12 = .ok (.imul, 1) := by decide +kernel
theorem dX2_slotFor_13 : decode cX2_slotFor 13 = .ok (.istore_n 2, 1) := by decide +kernel
theorem dX2_slotFor_14 : decode cX2_slotFor 14 = .ok (.iload_n 2, 1) := by decide +kernel
theorem dX2_slotFor_15 : decode cX2_slotFor 15 = .ok (.istore_n 3, 1) := by decide +kernel
theorem dX2_slotFor_16 : decode cX2_slotFor 16 = .ok (.iload_n 2, 1) := by decide +kernel
theorem dX2_slotFor_17 : decode cX2_slotFor 17 = .ok (.istore 4, 2) := by decide +kernel
theorem dX2_slotFor_19 : decode cX2_slotFor 19 = .ok (.iload 4, 2) := by decide +kernel
theorem dX2_slotFor_21 : decode cX2_slotFor 21 = .ok (.iload_n 2, 1) := by decide +kernel
theorem dX2_slotFor_22 : decode cX2_slotFor 22 = .ok (.aload_n 0, 1) := by decide +kernel
theorem dX2_slotFor_23 : decode cX2_slotFor 23 = .ok (.getfield 28, 3) := by decide +kernel
theorem dX2_slotFor_26 : decode cX2_slotFor 26 = .ok (.iadd, 1) := by decide +kernel
theorem dX2_slotFor_27 : decode cX2_slotFor 27 = .ok (.if_icmp .ge 41, 3) := by decide +kernel
theorem dX2_slotFor_30 : decode cX2_slotFor 30 = .ok (.aload_n 0, 1) := by decide +kernel
theorem dX2_slotFor_31 : decode cX2_slotFor 31 = .ok (.getfield 15, 3) := by decide +kernel
theorem dX2_slotFor_34 : decode cX2_slotFor 34 = .ok (.iload 4, 2) := by decide +kernel
theorem dX2_slotFor_36 : decode cX2_slotFor 36 = .ok (.iaload, 1) := by decide +kernel
theorem dX2_slotFor_37 : decode cX2_slotFor 37 = .ok (.ifCond .ne 6, 3) := by decide +kernel
theorem dX2_slotFor_40 : decode cX2_slotFor 40 = .ok (.iload 4, 2) := by decide +kernel
theorem dX2_slotFor_42 : decode cX2_slotFor 42 = .ok (.ireturn, 1) := by decide +kernel
theorem dX2_slotFor_43 : decode cX2_slotFor 43 = .ok (.aload_n 0, 1) := by decide +kernel
theorem dX2_slotFor_44 : decode cX2_slotFor 44 = .ok (.getfield 18, 3) := by decide +kernel
theorem dX2_slotFor_47 : decode cX2_slotFor 47 = .ok (.iload 4, 2) := by decide +kernel
theorem dX2_slotFor_49 : decode cX2_slotFor 49 = .ok (.iaload, 1) := by decide +kernel
theorem dX2_slotFor_50 : decode cX2_slotFor 50 = .ok (.aload_n 0, 1) := by decide +kernel
theorem dX2_slotFor_51 : decode cX2_slotFor 51 = .ok (.getfield 18, 3) := by decide +kernel
theorem dX2_slotFor_54 : decode cX2_slotFor 54 = .ok (.iload_n 3, 1) := by decide +kernel
theorem dX2_slotFor_55 : decode cX2_slotFor 55 = .ok (.iaload, 1) := by decide +kernel
theorem dX2_slotFor_56 : decode cX2_slotFor 56 = .ok (.if_icmp .ge 6, 3) := by decide +kernel
theorem dX2_slotFor_59 : decode cX2_slotFor 59 = .ok (.iload 4, 2) := by decide +kernel
theorem dX2_slotFor_61 : decode cX2_slotFor 61 = .ok (.istore_n 3, 1) := by decide +kernel
theorem dX2_slotFor_62 : decode cX2_slotFor 62 = .ok (.iinc 4 1, 3) := by decide +kernel
theorem dX2_slotFor_65 : decode cX2_slotFor 65 = .ok (.goto (-46), 3) := by decide +kernel
theorem dX2_slotFor_68 : decode cX2_slotFor 68 = .ok (.iload_n 3, 1) := by decide +kernel
theorem dX2_slotFor_69 : decode cX2_slotFor 69 = .ok (.ireturn, 1) := by decide +kernel
theorem dX2_use_0 : decode cX2_use 0 = .ok (.aload_n 0, 1) := by decide +kernel
theorem dX2_use_1 : decode cX2_use 1 = .ok (.dup, 1) := by decide +kernel
theorem dX2_use_2 : decode cX2_use 2 = .ok (.getfield 31, 3) := by decide +kernel
theorem dX2_use_5 : decode cX2_use 5 = .ok (.iconst 1, 1) := by decide +kernel
theorem dX2_use_6 : decode cX2_use 6 = .ok (.iadd, 1) := by decide +kernel
theorem dX2_use_7 : decode cX2_use 7 = .ok (.putfield 31, 3) := by decide +kernel
theorem dX2_use_10 : decode cX2_use 10 = .ok (.aload_n 0, 1) := by decide +kernel
theorem dX2_use_11 : decode cX2_use 11 = .ok (.getfield 18, 3) := by decide +kernel
theorem dX2_use_14 : decode cX2_use 14 = .ok (.iload_n 1, 1) := by decide +kernel
theorem dX2_use_15 : decode cX2_use 15 = .ok (.aload_n 0, 1) := by decide +kernel
theorem dX2_use_16 : decode cX2_use 16 = .ok (.getfield 31, 3) := by decide +kernel
theorem dX2_use_19 : decode cX2_use 19 = .ok (.iastore, 1) := by decide +kernel
theorem dX2_use_20 : decode cX2_use 20 = .ok (.return_, 1) := by decide +kernel
theorem dX2_put_0 : decode cX2_put 0 = .ok (.aload_n 0, 1) := by decide +kernel
theorem dX2_put_1 : decode cX2_put 1 = .ok (.iload_n 1, 1) := by decide +kernel
theorem dX2_put_2 : decode cX2_put 2 = .ok (.invokevirtual 40, 3) := by decide +kernel
theorem dX2_put_5 : decode cX2_put 5 = .ok (.istore 5, 2) := by decide +kernel
theorem dX2_put_7 : decode cX2_put 7 = .ok (.iload 5, 2) := by decide +kernel
theorem dX2_put_9 : decode cX2_put 9 = .ok (.ifCond .lt 8, 3) := by decide +kernel
theorem dX2_put_12 : decode cX2_put 12 = .ok (.iload 5, 2) := by decide +kernel
theorem dX2_put_14 : decode cX2_put 14 = .ok (.goto 8, 3) := by decide +kernel
theorem dX2_put_17 : decode cX2_put 17 = .ok (.aload_n 0, 1) := by decide +kernel
theorem dX2_put_18 : decode cX2_put 18 = .ok (.iload_n 1, 1) := by decide +kernel
theorem dX2_put_19 : decode cX2_put 19 = .ok (.invokevirtual 44, 3) := by decide +kernel
theorem dX2_put_22 : decode cX2_put 22 = .ok (.istore 6, 2) := by decide +kernel
theorem dX2_put_24 : decode cX2_put 24 = .ok (.aload_n 0, 1) := by decide +kernel
theorem dX2_put_25 : decode cX2_put 25 = .ok (.getfield 9, 3) := by decide +kernel
theorem dX2_put_28 : decode cX2_put 28 = .ok (.iload 6, 2) := by decide +kernel
theorem dX2_put_30 : decode cX2_put 30 = .ok (.iload_n 1, 1) := by decide +kernel
theorem dX2_put_31 : decode cX2_put 31 = .ok (.iastore, 1) := by decide +kernel
theorem dX2_put_32 : decode cX2_put 32 = .ok (.aload_n 0, 1) := by decide +kernel
theorem dX2_put_33 : decode cX2_put 33 = .ok (.getfield 15, 3) := by decide +kernel
theorem dX2_put_36 : decode cX2_put 36 = .ok (.iload 6, 2) := by decide +kernel
theorem dX2_put_38 : decode cX2_put 38 = .ok (.iload_n 2, 1) := by decide +kernel
theorem dX2_put_39 : decode cX2_put 39 = .ok (.iastore, 1) := by decide +kernel
theorem dX2_put_40 : decode cX2_put 40 = .ok (.aload_n 3, 1) := by decide +kernel
theorem dX2_put_41 : decode cX2_put 41 = .ok (.iload 4, 2) := by decide +kernel
theorem dX2_put_43 : decode cX2_put 43 = .ok (.aload_n 0, 1) := by decide +kernel
theorem dX2_put_44 : decode cX2_put 44 = .ok (.getfield 21, 3) := by decide +kernel
theorem dX2_put_47 : decode cX2_put 47 = .ok (.iload 6, 2) := by decide +kernel
theorem dX2_put_49 : decode cX2_put 49 = .ok (.iconst 4, 1) := by decide +kernel
theorem dX2_put_50 : decode cX2_put 50 = .ok (.imul, 1) := by decide +kernel
theorem dX2_put_51 : decode cX2_put 51 = .ok (.iconst 4, 1) := by decide +kernel
theorem dX2_put_52 : decode cX2_put 52 = .ok (.invokestatic 47, 3) := by decide +kernel
theorem dX2_put_55 : decode cX2_put 55 = .ok (.aload_n 0, 1) := by decide +kernel
theorem dX2_put_56 : decode cX2_put 56 = .ok (.iload 6, 2) := by decide +kernel
theorem dX2_put_58 : decode cX2_put 58 = .ok (.invokevirtual 53, 3) := by decide +kernel
theorem dX2_put_61 : decode cX2_put 61 = .ok (.return_, 1) := by decide +kernel
theorem dJ7_fill_53178_0 : decode cJ7_fill_53178 0 = .ok (.iconst 0, 1) := by decide +kernel
theorem dJ7_fill_53178_1 : decode cJ7_fill_53178 1 = .ok (.istore_n 2, 1) := by decide +kernel
theorem dJ7_fill_53178_2 : decode cJ7_fill_53178 2 = .ok (.aload_n 0, 1) := by decide +kernel
theorem dJ7_fill_53178_3 : decode cJ7_fill_53178 3 = .ok (.arraylength, 1) := by decide +kernel
theorem dJ7_fill_53178_4 : decode cJ7_fill_53178 4 = .ok (.istore_n 3, 1) := by decide +kernel
theorem dJ7_fill_53178_5 : decode cJ7_fill_53178 5 = .ok (.iload_n 2, 1) := by decide +kernel
theorem dJ7_fill_53178_6 : decode cJ7_fill_53178 6 = .ok (.iload_n 3, 1) := by decide +kernel
theorem dJ7_fill_53178_7 : decode cJ7_fill_53178 7 = .ok (.if_icmp .ge 13, 3) := by decide +kernel
theorem dJ7_fill_53178_10 : decode cJ7_fill_53178 10 = .ok (.aload_n 0, 1) := by decide +kernel
theorem dJ7_fill_53178_11 : decode cJ7_fill_53178 11 = .ok (.iload_n 2, 1) := by decide +kernel
theorem dJ7_fill_53178_12 : decode cJ7_fill_53178 12 = .ok (.iload_n 1, 1) := by decide +kernel
theorem dJ7_fill_53178_13 : decode cJ7_fill_53178 13 = .ok (.iastore, 1) := by decide +kernel
theorem dJ7_fill_53178_14 : decode cJ7_fill_53178 14 = .ok (.iinc 2 1, 3) := by decide +kernel
theorem dJ7_fill_53178_17 : decode cJ7_fill_53178 17 = .ok (.goto (-12), 3) := by decide +kernel
theorem dJ7_fill_53178_20 : decode cJ7_fill_53178 20 = .ok (.return_, 1) := by decide +kernel
theorem dJ7_copyOf_59c91_0 : decode cJ7_copyOf_59c91 0 = .ok (.iload_n 1, 1) := by decide +kernel
theorem dJ7_copyOf_59c91_1 : decode cJ7_copyOf_59c91 1 = .ok (.aload_n 0, 1) := by decide +kernel
theorem dJ7_copyOf_59c91_2 : decode cJ7_copyOf_59c91 2 = .ok (.arraylength, 1) := by decide +kernel
theorem dJ7_copyOf_59c91_3 : decode cJ7_copyOf_59c91 3 = .ok (.if_icmp .ne 11, 3) := by decide +kernel
theorem dJ7_copyOf_59c91_6 : decode cJ7_copyOf_59c91 6 = .ok (.aload_n 0, 1) := by decide +kernel
theorem dJ7_copyOf_59c91_7 : decode cJ7_copyOf_59c91 7 = .ok (.invokevirtual 316, 3) := by decide +kernel
theorem dJ7_copyOf_59c91_10 : decode cJ7_copyOf_59c91 10 = .ok (.checkcast 317, 3) := by decide +kernel
theorem dJ7_copyOf_59c91_13 : decode cJ7_copyOf_59c91 13 = .ok (.areturn, 1) := by decide +kernel
theorem dJ7_copyOf_59c91_14 : decode cJ7_copyOf_59c91 14 = .ok (.iload_n 1, 1) := by decide +kernel
theorem dJ7_copyOf_59c91_15 : decode cJ7_copyOf_59c91 15 = .ok (.newarray .int, 2) := by decide +kernel
theorem dJ7_copyOf_59c91_17 : decode cJ7_copyOf_59c91 17 = .ok (.astore_n 2, 1) := by decide +kernel
theorem dJ7_copyOf_59c91_18 : decode cJ7_copyOf_59c91 18 = .ok (.aload_n 0, 1) := by decide +kernel
theorem dJ7_copyOf_59c91_19 : decode cJ7_copyOf_59c91 19 = .ok (.iconst 0, 1) := by decide +kernel
theorem dJ7_copyOf_59c91_20 : decode cJ7_copyOf_59c91 20 = .ok (.aload_n 2, 1) := by decide +kernel
theorem dJ7_copyOf_59c91_21 : decode cJ7_copyOf_59c91 21 = .ok (.iconst 0, 1) := by decide +kernel
theorem dJ7_copyOf_59c91_22 : decode cJ7_copyOf_59c91 22 = .ok (.aload_n 0, 1) := by decide +kernel
theorem dJ7_copyOf_59c91_23 : decode cJ7_copyOf_59c91 23 = .ok (.arraylength, 1) := by decide +kernel
theorem dJ7_copyOf_59c91_24 : decode cJ7_copyOf_59c91 24 = .ok (.iload_n 1, 1) := by decide +kernel
theorem dJ7_copyOf_59c91_25 : decode cJ7_copyOf_59c91 25 = .ok (.invokestatic 304, 3) := by decide +kernel
theorem dJ7_copyOf_59c91_28 : decode cJ7_copyOf_59c91 28 = .ok (.invokestatic 150, 3) := by decide +kernel
theorem dJ7_copyOf_59c91_31 : decode cJ7_copyOf_59c91 31 = .ok (.aload_n 2, 1) := by decide +kernel
theorem dJ7_copyOf_59c91_32 : decode cJ7_copyOf_59c91 32 = .ok (.areturn, 1) := by decide +kernel
