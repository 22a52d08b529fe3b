/-! decode rows, laid by program -/
theorem dd_D_init_0 : decode cc_D_init 0 = .ok (.aload_n 0, 1) := by decide +kernel
theorem dd_D_init_1 : decode cc_D_init 1 = .ok (.invokespecial 3, 3) := by decide +kernel
theorem dd_D_init_4 : decode cc_D_init 4 = .ok (.aload_n 0, 1) := by decide +kernel
theorem dd_D_init_5 : decode cc_D_init 5 = .ok (.lload_n 1, 1) := by decide +kernel
theorem dd_D_init_6 : decode cc_D_init 6 = .ok (.putfield 9, 3) := by decide +kernel
theorem dd_D_init_9 : decode cc_D_init 9 = .ok (.return_, 1) := by decide +kernel
theorem dd_D_fillOrder_0 : decode cc_D_fillOrder 0 = .ok (.new 10, 3) := by decide +kernel
theorem dd_D_fillOrder_3 : decode cc_D_fillOrder 3 = .ok (.dup, 1) := by decide +kernel
theorem dd_D_fillOrder_4 : decode cc_D_fillOrder 4 = .ok (.lload_n 0, 1) := by decide +kernel
theorem dd_D_fillOrder_5 : decode cc_D_fillOrder 5 = .ok (.invokespecial 15, 3) := by decide +kernel
theorem dd_D_fillOrder_8 : decode cc_D_fillOrder 8 = .ok (.astore_n 3, 1) := by decide +kernel
theorem dd_D_fillOrder_9 : decode cc_D_fillOrder 9 = .ok (.iconst 0, 1) := by decide +kernel
theorem dd_D_fillOrder_10 : decode cc_D_fillOrder 10 = .ok (.istore 4, 2) := by decide +kernel
theorem dd_D_fillOrder_12 : decode cc_D_fillOrder 12 = .ok (.iload 4, 2) := by decide +kernel
theorem dd_D_fillOrder_14 : decode cc_D_fillOrder 14 = .ok (.bipush (52), 2) := by decide +kernel
theorem dd_D_fillOrder_16 : decode cc_D_fillOrder 16 = .ok (.if_icmp .ge (15), 3) := by decide +kernel
theorem dd_D_fillOrder_19 : decode cc_D_fillOrder 19 = .ok (.aload_n 2, 1) := by decide +kernel
theorem dd_D_fillOrder_20 : decode cc_D_fillOrder 20 = .ok (.iload 4, 2) := by decide +kernel
theorem dd_D_fillOrder_22 : decode cc_D_fillOrder 22 = .ok (.iload 4, 2) := by decide +kernel
theorem dd_D_fillOrder_24 : decode cc_D_fillOrder 24 = .ok (.iastore, 1) := by decide +kernel
theorem dd_D_fillOrder_25 : decode cc_D_fillOrder 25 = .ok (.iinc 4 (1), 3) := by decide +kernel
theorem dd_D_fillOrder_28 : decode cc_D_fillOrder 28 = .ok (.goto (-16), 3) := by decide +kernel
theorem dd_D_fillOrder_31 : decode cc_D_fillOrder 31 = .ok (.bipush (51), 2) := by decide +kernel
theorem dd_D_fillOrder_33 : decode cc_D_fillOrder 33 = .ok (.istore 4, 2) := by decide +kernel
theorem dd_D_fillOrder_35 : decode cc_D_fillOrder 35 = .ok (.iload 4, 2) := by decide +kernel
theorem dd_D_fillOrder_37 : decode cc_D_fillOrder 37 = .ok (.iconst 1, 1) := by decide +kernel
theorem dd_D_fillOrder_38 : decode cc_D_fillOrder 38 = .ok (.if_icmp .lt (40), 3) := by decide +kernel
theorem dd_D_fillOrder_41 : decode cc_D_fillOrder 41 = .ok (.aload_n 3, 1) := by decide +kernel
theorem dd_D_fillOrder_42 : decode cc_D_fillOrder 42 = .ok (.invokevirtual 18, 3) := by decide +kernel
theorem dd_D_fillOrder_45 : decode cc_D_fillOrder 45 = .ok (.iload 4, 2) := by decide +kernel
theorem dd_D_fillOrder_47 : decode cc_D_fillOrder 47 = .ok (.iconst 1, 1) := by decide +kernel
theorem dd_D_fillOrder_48 : decode cc_D_fillOrder 48 = .ok (.iadd, 1) := by decide +kernel
theorem dd_D_fillOrder_49 : decode cc_D_fillOrder 49 = .ok (.irem, 1) := by decide +kernel
theorem dd_D_fillOrder_50 : decode cc_D_fillOrder 50 = .ok (.istore 5, 2) := by decide +kernel
theorem dd_D_fillOrder_52 : decode cc_D_fillOrder 52 = .ok (.aload_n 2, 1) := by decide +kernel
theorem dd_D_fillOrder_53 : decode cc_D_fillOrder 53 = .ok (.iload 4, 2) := by decide +kernel
theorem dd_D_fillOrder_55 : decode cc_D_fillOrder 55 = .ok (.iaload, 1) := by decide +kernel
theorem dd_D_fillOrder_56 : decode cc_D_fillOrder 56 = .ok (.istore 6, 2) := by decide +kernel
theorem dd_D_fillOrder_58 : decode cc_D_fillOrder 58 = .ok (.aload_n 2, 1) := by decide +kernel
theorem dd_D_fillOrder_59 : decode cc_D_fillOrder 59 = .ok (.iload 4, 2) := by decide +kernel
theorem dd_D_fillOrder_61 : decode cc_D_fillOrder 61 = .ok (.aload_n 2, 1) := by decide +kernel
theorem dd_D_fillOrder_62 : decode cc_D_fillOrder 62 = .ok (.iload 5, 2) := by decide +kernel
theorem dd_D_fillOrder_64 : decode cc_D_fillOrder 64 = .ok (.iaload, 1) := by decide +kernel
theorem dd_D_fillOrder_65 : decode cc_D_fillOrder 65 = .ok (.iastore, 1) := by decide +kernel
theorem dd_D_fillOrder_66 : decode cc_D_fillOrder 66 = .ok (.aload_n 2, 1) := by decide +kernel
theorem dd_D_fillOrder_67 : decode cc_D_fillOrder 67 = .ok (.iload 5, 2) := by decide +kernel
theorem dd_D_fillOrder_69 : decode cc_D_fillOrder 69 = .ok (.iload 6, 2) := by decide +kernel
theorem dd_D_fillOrder_71 : decode cc_D_fillOrder 71 = .ok (.iastore, 1) := by decide +kernel
theorem dd_D_fillOrder_72 : decode cc_D_fillOrder 72 = .ok (.iinc 4 (-1), 3) := by decide +kernel
theorem dd_D_fillOrder_75 : decode cc_D_fillOrder 75 = .ok (.goto (-40), 3) := by decide +kernel
theorem dd_D_fillOrder_78 : decode cc_D_fillOrder 78 = .ok (.return_, 1) := by decide +kernel
theorem dd_D_fillLocks_0 : decode cc_D_fillLocks 0 = .ok (.new 10, 3) := by decide +kernel
theorem dd_D_fillLocks_3 : decode cc_D_fillLocks 3 = .ok (.dup, 1) := by decide +kernel
theorem dd_D_fillLocks_4 : decode cc_D_fillLocks 4 = .ok (.lload_n 0, 1) := by decide +kernel
theorem dd_D_fillLocks_5 : decode cc_D_fillLocks 5 = .ok (.invokespecial 15, 3) := by decide +kernel
theorem dd_D_fillLocks_8 : decode cc_D_fillLocks 8 = .ok (.astore 4, 2) := by decide +kernel
theorem dd_D_fillLocks_10 : decode cc_D_fillLocks 10 = .ok (.iconst 0, 1) := by decide +kernel
theorem dd_D_fillLocks_11 : decode cc_D_fillLocks 11 = .ok (.istore 5, 2) := by decide +kernel
theorem dd_D_fillLocks_13 : decode cc_D_fillLocks 13 = .ok (.iload 5, 2) := by decide +kernel
theorem dd_D_fillLocks_15 : decode cc_D_fillLocks 15 = .ok (.bipush (52), 2) := by decide +kernel
theorem dd_D_fillLocks_17 : decode cc_D_fillLocks 17 = .ok (.if_icmp .ge (19), 3) := by decide +kernel
theorem dd_D_fillLocks_20 : decode cc_D_fillLocks 20 = .ok (.aload_n 3, 1) := by decide +kernel
theorem dd_D_fillLocks_21 : decode cc_D_fillLocks 21 = .ok (.iload 5, 2) := by decide +kernel
theorem dd_D_fillLocks_23 : decode cc_D_fillLocks 23 = .ok (.aload 4, 2) := by decide +kernel
theorem dd_D_fillLocks_25 : decode cc_D_fillLocks 25 = .ok (.iload_n 2, 1) := by decide +kernel
theorem dd_D_fillLocks_26 : decode cc_D_fillLocks 26 = .ok (.invokevirtual 22, 3) := by decide +kernel
theorem dd_D_fillLocks_29 : decode cc_D_fillLocks 29 = .ok (.iastore, 1) := by decide +kernel
theorem dd_D_fillLocks_30 : decode cc_D_fillLocks 30 = .ok (.iinc 5 (1), 3) := by decide +kernel
theorem dd_D_fillLocks_33 : decode cc_D_fillLocks 33 = .ok (.goto (-20), 3) := by decide +kernel
theorem dd_D_fillLocks_36 : decode cc_D_fillLocks 36 = .ok (.return_, 1) := by decide +kernel
theorem dd_D_next_0 : decode cc_D_next 0 = .ok (.aload_n 0, 1) := by decide +kernel
theorem dd_D_next_1 : decode cc_D_next 1 = .ok (.aload_n 0, 1) := by decide +kernel
theorem dd_D_next_2 : decode cc_D_next 2 = .ok (.getfield 9, 3) := by decide +kernel
theorem dd_D_next_5 : decode cc_D_next 5 = .ok (.ldc2_w 26, 3) := by decide +kernel
theorem dd_D_next_8 : decode cc_D_next 8 = .ok (.lmul, 1) := by decide +kernel
theorem dd_D_next_9 : decode cc_D_next 9 = .ok (.ldc2_w 28, 3) := by decide +kernel
theorem dd_D_next_12 : decode cc_D_next 12 = .ok (.ladd, 1) := by decide +kernel
theorem dd_D_next_13 : decode cc_D_next 13 = .ok (.putfield 9, 3) := by decide +kernel
theorem dd_D_next_16 : decode cc_D_next 16 = .ok (.aload_n 0, 1) := by decide +kernel
theorem dd_D_next_17 : decode cc_D_next 17 = .ok (.getfield 9, 3) := by decide +kernel
theorem dd_D_next_20 : decode cc_D_next 20 = .ok (.bipush (33), 2) := by decide +kernel
theorem dd_D_next_22 : decode cc_D_next 22 = .ok (.lushr, 1) := by decide +kernel
theorem dd_D_next_23 : decode cc_D_next 23 = .ok (.l2i, 1) := by decide +kernel
theorem dd_D_next_24 : decode cc_D_next 24 = .ok (.ireturn, 1) := by decide +kernel
theorem dd_D_nextExponent_0 : decode cc_D_nextExponent 0 = .ok (.iconst 0, 1) := by decide +kernel
theorem dd_D_nextExponent_1 : decode cc_D_nextExponent 1 = .ok (.istore_n 2, 1) := by decide +kernel
theorem dd_D_nextExponent_2 : decode cc_D_nextExponent 2 = .ok (.iload_n 2, 1) := by decide +kernel
theorem dd_D_nextExponent_3 : decode cc_D_nextExponent 3 = .ok (.ldc 30, 2) := by decide +kernel
theorem dd_D_nextExponent_5 : decode cc_D_nextExponent 5 = .ok (.if_icmp .ge (35), 3) := by decide +kernel
theorem dd_D_nextExponent_8 : decode cc_D_nextExponent 8 = .ok (.iload_n 1, 1) := by decide +kernel
theorem dd_D_nextExponent_9 : decode cc_D_nextExponent 9 = .ok (.iconst 4, 1) := by decide +kernel
theorem dd_D_nextExponent_10 : decode cc_D_nextExponent 10 = .ok (.if_icmp .le (30), 3) := by decide +kernel
theorem dd_D_nextExponent_13 : decode cc_D_nextExponent 13 = .ok (.iconst 3, 1) := by decide +kernel
theorem dd_D_nextExponent_14 : decode cc_D_nextExponent 14 = .ok (.aload_n 0, 1) := by decide +kernel
theorem dd_D_nextExponent_15 : decode cc_D_nextExponent 15 = .ok (.invokevirtual 18, 3) := by decide +kernel
theorem dd_D_nextExponent_18 : decode cc_D_nextExponent 18 = .ok (.iload_n 1, 1) := by decide +kernel
theorem dd_D_nextExponent_19 : decode cc_D_nextExponent 19 = .ok (.iconst 4, 1) := by decide +kernel
theorem dd_D_nextExponent_20 : decode cc_D_nextExponent 20 = .ok (.isub, 1) := by decide +kernel
theorem dd_D_nextExponent_21 : decode cc_D_nextExponent 21 = .ok (.irem, 1) := by decide +kernel
theorem dd_D_nextExponent_22 : decode cc_D_nextExponent 22 = .ok (.iadd, 1) := by decide +kernel
theorem dd_D_nextExponent_23 : decode cc_D_nextExponent 23 = .ok (.istore_n 3, 1) := by decide +kernel
theorem dd_D_nextExponent_24 : decode cc_D_nextExponent 24 = .ok (.iload_n 3, 1) := by decide +kernel
theorem dd_D_nextExponent_25 : decode cc_D_nextExponent 25 = .ok (.iload_n 1, 1) := by decide +kernel
theorem dd_D_nextExponent_26 : decode cc_D_nextExponent 26 = .ok (.invokestatic 33, 3) := by decide +kernel
theorem dd_D_nextExponent_29 : decode cc_D_nextExponent 29 = .ok (.ifCond .eq (5), 3) := by decide +kernel
theorem dd_D_nextExponent_32 : decode cc_D_nextExponent 32 = .ok (.iload_n 3, 1) := by decide +kernel
theorem dd_D_nextExponent_33 : decode cc_D_nextExponent 33 = .ok (.ireturn, 1) := by decide +kernel
theorem dd_D_nextExponent_34 : decode cc_D_nextExponent 34 = .ok (.iinc 2 (1), 3) := by decide +kernel
theorem dd_D_nextExponent_37 : decode cc_D_nextExponent 37 = .ok (.goto (-35), 3) := by decide +kernel
theorem dd_D_nextExponent_40 : decode cc_D_nextExponent 40 = .ok (.iconst 3, 1) := by decide +kernel
theorem dd_D_nextExponent_41 : decode cc_D_nextExponent 41 = .ok (.ireturn, 1) := by decide +kernel
theorem dd_N_isTablePrime_0 : decode cc_N_isTablePrime 0 = .ok (.iload_n 0, 1) := by decide +kernel
theorem dd_N_isTablePrime_1 : decode cc_N_isTablePrime 1 = .ok (.ldc 9, 2) := by decide +kernel
theorem dd_N_isTablePrime_3 : decode cc_N_isTablePrime 3 = .ok (.if_icmp .le (25), 3) := by decide +kernel
theorem dd_N_isTablePrime_6 : decode cc_N_isTablePrime 6 = .ok (.iload_n 0, 1) := by decide +kernel
theorem dd_N_isTablePrime_7 : decode cc_N_isTablePrime 7 = .ok (.invokestatic 10, 3) := by decide +kernel
theorem dd_N_isTablePrime_10 : decode cc_N_isTablePrime 10 = .ok (.ifCond .eq (18), 3) := by decide +kernel
theorem dd_N_isTablePrime_13 : decode cc_N_isTablePrime 13 = .ok (.iload_n 0, 1) := by decide +kernel
theorem dd_N_isTablePrime_14 : decode cc_N_isTablePrime 14 = .ok (.iconst 1, 1) := by decide +kernel
theorem dd_N_isTablePrime_15 : decode cc_N_isTablePrime 15 = .ok (.isub, 1) := by decide +kernel
theorem dd_N_isTablePrime_16 : decode cc_N_isTablePrime 16 = .ok (.iconst 2, 1) := by decide +kernel
theorem dd_N_isTablePrime_17 : decode cc_N_isTablePrime 17 = .ok (.idiv, 1) := by decide +kernel
theorem dd_N_isTablePrime_18 : decode cc_N_isTablePrime 18 = .ok (.invokestatic 10, 3) := by decide +kernel
theorem dd_N_isTablePrime_21 : decode cc_N_isTablePrime 21 = .ok (.ifCond .eq (7), 3) := by decide +kernel
theorem dd_N_isTablePrime_24 : decode cc_N_isTablePrime 24 = .ok (.iconst 1, 1) := by decide +kernel
theorem dd_N_isTablePrime_25 : decode cc_N_isTablePrime 25 = .ok (.goto (4), 3) := by decide +kernel
theorem dd_N_isTablePrime_28 : decode cc_N_isTablePrime 28 = .ok (.iconst 0, 1) := by decide +kernel
theorem dd_N_isTablePrime_29 : decode cc_N_isTablePrime 29 = .ok (.ireturn, 1) := by decide +kernel
theorem dd_N_isPrime_0 : decode cc_N_isPrime 0 = .ok (.iconst 0, 1) := by decide +kernel
theorem dd_N_isPrime_1 : decode cc_N_isPrime 1 = .ok (.istore_n 1, 1) := by decide +kernel
theorem dd_N_isPrime_2 : decode cc_N_isPrime 2 = .ok (.iload_n 1, 1) := by decide +kernel
theorem dd_N_isPrime_3 : decode cc_N_isPrime 3 = .ok (.getstatic 14, 3) := by decide +kernel
theorem dd_N_isPrime_6 : decode cc_N_isPrime 6 = .ok (.arraylength, 1) := by decide +kernel
theorem dd_N_isPrime_7 : decode cc_N_isPrime 7 = .ok (.if_icmp .ge (23), 3) := by decide +kernel
theorem dd_N_isPrime_10 : decode cc_N_isPrime 10 = .ok (.iload_n 0, 1) := by decide +kernel
theorem dd_N_isPrime_11 : decode cc_N_isPrime 11 = .ok (.getstatic 14, 3) := by decide +kernel
theorem dd_N_isPrime_14 : decode cc_N_isPrime 14 = .ok (.iload_n 1, 1) := by decide +kernel
theorem dd_N_isPrime_15 : decode cc_N_isPrime 15 = .ok (.iaload, 1) := by decide +kernel
theorem dd_N_isPrime_16 : decode cc_N_isPrime 16 = .ok (.invokestatic 18, 3) := by decide +kernel
theorem dd_N_isPrime_19 : decode cc_N_isPrime 19 = .ok (.ifCond .ne (5), 3) := by decide +kernel
theorem dd_N_isPrime_22 : decode cc_N_isPrime 22 = .ok (.iconst 0, 1) := by decide +kernel
theorem dd_N_isPrime_23 : decode cc_N_isPrime 23 = .ok (.ireturn, 1) := by decide +kernel
theorem dd_N_isPrime_24 : decode cc_N_isPrime 24 = .ok (.iinc 1 (1), 3) := by decide +kernel
theorem dd_N_isPrime_27 : decode cc_N_isPrime 27 = .ok (.goto (-25), 3) := by decide +kernel
theorem dd_N_isPrime_30 : decode cc_N_isPrime 30 = .ok (.iconst 1, 1) := by decide +kernel
theorem dd_N_isPrime_31 : decode cc_N_isPrime 31 = .ok (.ireturn, 1) := by decide +kernel
theorem dd_N_looksPrime_0 : decode cc_N_looksPrime 0 = .ok (.iload_n 0, 1) := by decide +kernel
theorem dd_N_looksPrime_1 : decode cc_N_looksPrime 1 = .ok (.iconst 1, 1) := by decide +kernel
theorem dd_N_looksPrime_2 : decode cc_N_looksPrime 2 = .ok (.isub, 1) := by decide +kernel
theorem dd_N_looksPrime_3 : decode cc_N_looksPrime 3 = .ok (.istore_n 2, 1) := by decide +kernel
theorem dd_N_looksPrime_4 : decode cc_N_looksPrime 4 = .ok (.iconst 0, 1) := by decide +kernel
theorem dd_N_looksPrime_5 : decode cc_N_looksPrime 5 = .ok (.istore_n 3, 1) := by decide +kernel
theorem dd_N_looksPrime_6 : decode cc_N_looksPrime 6 = .ok (.iconst 0, 1) := by decide +kernel
theorem dd_N_looksPrime_7 : decode cc_N_looksPrime 7 = .ok (.istore 4, 2) := by decide +kernel
theorem dd_N_looksPrime_9 : decode cc_N_looksPrime 9 = .ok (.iload 4, 2) := by decide +kernel
theorem dd_N_looksPrime_11 : decode cc_N_looksPrime 11 = .ok (.bipush (31), 2) := by decide +kernel
theorem dd_N_looksPrime_13 : decode cc_N_looksPrime 13 = .ok (.if_icmp .ge (22), 3) := by decide +kernel
theorem dd_N_looksPrime_16 : decode cc_N_looksPrime 16 = .ok (.iload_n 2, 1) := by decide +kernel
theorem dd_N_looksPrime_17 : decode cc_N_looksPrime 17 = .ok (.iconst 2, 1) := by decide +kernel
theorem dd_N_looksPrime_18 : decode cc_N_looksPrime 18 = .ok (.irem, 1) := by decide +kernel
theorem dd_N_looksPrime_19 : decode cc_N_looksPrime 19 = .ok (.ifCond .ne (16), 3) := by decide +kernel
theorem dd_N_looksPrime_22 : decode cc_N_looksPrime 22 = .ok (.iload_n 2, 1) := by decide +kernel
theorem dd_N_looksPrime_23 : decode cc_N_looksPrime 23 = .ok (.iconst 2, 1) := by decide +kernel
theorem dd_N_looksPrime_24 : decode cc_N_looksPrime 24 = .ok (.idiv, 1) := by decide +kernel
theorem dd_N_looksPrime_25 : decode cc_N_looksPrime 25 = .ok (.istore_n 2, 1) := by decide +kernel
theorem dd_N_looksPrime_26 : decode cc_N_looksPrime 26 = .ok (.iinc 3 (1), 3) := by decide +kernel
theorem dd_N_looksPrime_29 : decode cc_N_looksPrime 29 = .ok (.iinc 4 (1), 3) := by decide +kernel
theorem dd_N_looksPrime_32 : decode cc_N_looksPrime 32 = .ok (.goto (-23), 3) := by decide +kernel
theorem dd_N_looksPrime_35 : decode cc_N_looksPrime 35 = .ok (.iload_n 1, 1) := by decide +kernel
theorem dd_N_looksPrime_36 : decode cc_N_looksPrime 36 = .ok (.iload_n 2, 1) := by decide +kernel
theorem dd_N_looksPrime_37 : decode cc_N_looksPrime 37 = .ok (.iload_n 0, 1) := by decide +kernel
theorem dd_N_looksPrime_38 : decode cc_N_looksPrime 38 = .ok (.invokestatic 22, 3) := by decide +kernel
theorem dd_N_looksPrime_41 : decode cc_N_looksPrime 41 = .ok (.istore 4, 2) := by decide +kernel
theorem dd_N_looksPrime_43 : decode cc_N_looksPrime 43 = .ok (.iload 4, 2) := by decide +kernel
theorem dd_N_looksPrime_45 : decode cc_N_looksPrime 45 = .ok (.iconst 1, 1) := by decide +kernel
theorem dd_N_looksPrime_46 : decode cc_N_looksPrime 46 = .ok (.if_icmp .eq (11), 3) := by decide +kernel
theorem dd_N_looksPrime_49 : decode cc_N_looksPrime 49 = .ok (.iload 4, 2) := by decide +kernel
theorem dd_N_looksPrime_51 : decode cc_N_looksPrime 51 = .ok (.iload_n 0, 1) := by decide +kernel
theorem dd_N_looksPrime_52 : decode cc_N_looksPrime 52 = .ok (.iconst 1, 1) := by decide +kernel
theorem dd_N_looksPrime_53 : decode cc_N_looksPrime 53 = .ok (.isub, 1) := by decide +kernel
theorem dd_N_looksPrime_54 : decode cc_N_looksPrime 54 = .ok (.if_icmp .ne (5), 3) := by decide +kernel
theorem dd_N_looksPrime_57 : decode cc_N_looksPrime 57 = .ok (.iconst 1, 1) := by decide +kernel
theorem dd_N_looksPrime_58 : decode cc_N_looksPrime 58 = .ok (.ireturn, 1) := by decide +kernel
theorem dd_N_looksPrime_59 : decode cc_N_looksPrime 59 = .ok (.iconst 1, 1) := by decide +kernel
theorem dd_N_looksPrime_60 : decode cc_N_looksPrime 60 = .ok (.istore 5, 2) := by decide +kernel
theorem dd_N_looksPrime_62 : decode cc_N_looksPrime 62 = .ok (.iload 5, 2) := by decide +kernel
theorem dd_N_looksPrime_64 : decode cc_N_looksPrime 64 = .ok (.iload_n 3, 1) := by decide +kernel
theorem dd_N_looksPrime_65 : decode cc_N_looksPrime 65 = .ok (.if_icmp .ge (29), 3) := by decide +kernel
theorem dd_N_looksPrime_68 : decode cc_N_looksPrime 68 = .ok (.iload 4, 2) := by decide +kernel
theorem dd_N_looksPrime_70 : decode cc_N_looksPrime 70 = .ok (.iload 4, 2) := by decide +kernel
theorem dd_N_looksPrime_72 : decode cc_N_looksPrime 72 = .ok (.iload_n 0, 1) := by decide +kernel
theorem dd_N_looksPrime_73 : decode cc_N_looksPrime 73 = .ok (.invokestatic 26, 3) := by decide +kernel
theorem dd_N_looksPrime_76 : decode cc_N_looksPrime 76 = .ok (.istore 4, 2) := by decide +kernel
theorem dd_N_looksPrime_78 : decode cc_N_looksPrime 78 = .ok (.iload 4, 2) := by decide +kernel
theorem dd_N_looksPrime_80 : decode cc_N_looksPrime 80 = .ok (.iload_n 0, 1) := by decide +kernel
theorem dd_N_looksPrime_81 : decode cc_N_looksPrime 81 = .ok (.iconst 1, 1) := by decide +kernel
theorem dd_N_looksPrime_82 : decode cc_N_looksPrime 82 = .ok (.isub, 1) := by decide +kernel
theorem dd_N_looksPrime_83 : decode cc_N_looksPrime 83 = .ok (.if_icmp .ne (5), 3) := by decide +kernel
theorem dd_N_looksPrime_86 : decode cc_N_looksPrime 86 = .ok (.iconst 1, 1) := by decide +kernel
theorem dd_N_looksPrime_87 : decode cc_N_looksPrime 87 = .ok (.ireturn, 1) := by decide +kernel
theorem dd_N_looksPrime_88 : decode cc_N_looksPrime 88 = .ok (.iinc 5 (1), 3) := by decide +kernel
theorem dd_N_looksPrime_91 : decode cc_N_looksPrime 91 = .ok (.goto (-29), 3) := by decide +kernel
theorem dd_N_looksPrime_94 : decode cc_N_looksPrime 94 = .ok (.iconst 0, 1) := by decide +kernel
theorem dd_N_looksPrime_95 : decode cc_N_looksPrime 95 = .ok (.ireturn, 1) := by decide +kernel
theorem dd_N_ofCard_0 : decode cc_N_ofCard 0 = .ok (.iload_n 0, 1) := by decide +kernel
theorem dd_N_ofCard_1 : decode cc_N_ofCard 1 = .ok (.iconst 2, 1) := by decide +kernel
theorem dd_N_ofCard_2 : decode cc_N_ofCard 2 = .ok (.iadd, 1) := by decide +kernel
theorem dd_N_ofCard_3 : decode cc_N_ofCard 3 = .ok (.iload_n 0, 1) := by decide +kernel
theorem dd_N_ofCard_4 : decode cc_N_ofCard 4 = .ok (.iconst 2, 1) := by decide +kernel
theorem dd_N_ofCard_5 : decode cc_N_ofCard 5 = .ok (.iadd, 1) := by decide +kernel
theorem dd_N_ofCard_6 : decode cc_N_ofCard 6 = .ok (.iload_n 1, 1) := by decide +kernel
theorem dd_N_ofCard_7 : decode cc_N_ofCard 7 = .ok (.invokestatic 26, 3) := by decide +kernel
theorem dd_N_ofCard_10 : decode cc_N_ofCard 10 = .ok (.ireturn, 1) := by decide +kernel
theorem dd_N_isExponent_0 : decode cc_N_isExponent 0 = .ok (.iload_n 0, 1) := by decide +kernel
theorem dd_N_isExponent_1 : decode cc_N_isExponent 1 = .ok (.iconst 3, 1) := by decide +kernel
theorem dd_N_isExponent_2 : decode cc_N_isExponent 2 = .ok (.if_icmp .lt (30), 3) := by decide +kernel
theorem dd_N_isExponent_5 : decode cc_N_isExponent 5 = .ok (.iload_n 0, 1) := by decide +kernel
theorem dd_N_isExponent_6 : decode cc_N_isExponent 6 = .ok (.iload_n 1, 1) := by decide +kernel
theorem dd_N_isExponent_7 : decode cc_N_isExponent 7 = .ok (.iconst 2, 1) := by decide +kernel
theorem dd_N_isExponent_8 : decode cc_N_isExponent 8 = .ok (.isub, 1) := by decide +kernel
theorem dd_N_isExponent_9 : decode cc_N_isExponent 9 = .ok (.if_icmp .gt (23), 3) := by decide +kernel
theorem dd_N_isExponent_12 : decode cc_N_isExponent 12 = .ok (.iload_n 0, 1) := by decide +kernel
theorem dd_N_isExponent_13 : decode cc_N_isExponent 13 = .ok (.iconst 2, 1) := by decide +kernel
theorem dd_N_isExponent_14 : decode cc_N_isExponent 14 = .ok (.irem, 1) := by decide +kernel
theorem dd_N_isExponent_15 : decode cc_N_isExponent 15 = .ok (.iconst 1, 1) := by decide +kernel
theorem dd_N_isExponent_16 : decode cc_N_isExponent 16 = .ok (.if_icmp .ne (16), 3) := by decide +kernel
theorem dd_N_isExponent_19 : decode cc_N_isExponent 19 = .ok (.iload_n 0, 1) := by decide +kernel
theorem dd_N_isExponent_20 : decode cc_N_isExponent 20 = .ok (.iload_n 1, 1) := by decide +kernel
theorem dd_N_isExponent_21 : decode cc_N_isExponent 21 = .ok (.iconst 1, 1) := by decide +kernel
theorem dd_N_isExponent_22 : decode cc_N_isExponent 22 = .ok (.isub, 1) := by decide +kernel
theorem dd_N_isExponent_23 : decode cc_N_isExponent 23 = .ok (.iconst 2, 1) := by decide +kernel
theorem dd_N_isExponent_24 : decode cc_N_isExponent 24 = .ok (.idiv, 1) := by decide +kernel
theorem dd_N_isExponent_25 : decode cc_N_isExponent 25 = .ok (.if_icmp .eq (7), 3) := by decide +kernel
theorem dd_N_isExponent_28 : decode cc_N_isExponent 28 = .ok (.iconst 1, 1) := by decide +kernel
theorem dd_N_isExponent_29 : decode cc_N_isExponent 29 = .ok (.goto (4), 3) := by decide +kernel
theorem dd_N_isExponent_32 : decode cc_N_isExponent 32 = .ok (.iconst 0, 1) := by decide +kernel
theorem dd_N_isExponent_33 : decode cc_N_isExponent 33 = .ok (.ireturn, 1) := by decide +kernel
theorem dd_N_exponentAbove_0 : decode cc_N_exponentAbove 0 = .ok (.iload_n 0, 1) := by decide +kernel
theorem dd_N_exponentAbove_1 : decode cc_N_exponentAbove 1 = .ok (.iconst 1, 1) := by decide +kernel
theorem dd_N_exponentAbove_2 : decode cc_N_exponentAbove 2 = .ok (.iadd, 1) := by decide +kernel
theorem dd_N_exponentAbove_3 : decode cc_N_exponentAbove 3 = .ok (.istore_n 2, 1) := by decide +kernel
theorem dd_N_exponentAbove_4 : decode cc_N_exponentAbove 4 = .ok (.iload_n 2, 1) := by decide +kernel
theorem dd_N_exponentAbove_5 : decode cc_N_exponentAbove 5 = .ok (.iload_n 1, 1) := by decide +kernel
theorem dd_N_exponentAbove_6 : decode cc_N_exponentAbove 6 = .ok (.iconst 2, 1) := by decide +kernel
theorem dd_N_exponentAbove_7 : decode cc_N_exponentAbove 7 = .ok (.isub, 1) := by decide +kernel
theorem dd_N_exponentAbove_8 : decode cc_N_exponentAbove 8 = .ok (.if_icmp .gt (19), 3) := by decide +kernel
theorem dd_N_exponentAbove_11 : decode cc_N_exponentAbove 11 = .ok (.iload_n 2, 1) := by decide +kernel
theorem dd_N_exponentAbove_12 : decode cc_N_exponentAbove 12 = .ok (.iload_n 1, 1) := by decide +kernel
theorem dd_N_exponentAbove_13 : decode cc_N_exponentAbove 13 = .ok (.invokestatic 29, 3) := by decide +kernel
theorem dd_N_exponentAbove_16 : decode cc_N_exponentAbove 16 = .ok (.ifCond .eq (5), 3) := by decide +kernel
theorem dd_N_exponentAbove_19 : decode cc_N_exponentAbove 19 = .ok (.iload_n 2, 1) := by decide +kernel
theorem dd_N_exponentAbove_20 : decode cc_N_exponentAbove 20 = .ok (.ireturn, 1) := by decide +kernel
theorem dd_N_exponentAbove_21 : decode cc_N_exponentAbove 21 = .ok (.iinc 2 (1), 3) := by decide +kernel
theorem dd_N_exponentAbove_24 : decode cc_N_exponentAbove 24 = .ok (.goto (-20), 3) := by decide +kernel
theorem dd_N_exponentAbove_27 : decode cc_N_exponentAbove 27 = .ok (.iconst 3, 1) := by decide +kernel
theorem dd_N_exponentAbove_28 : decode cc_N_exponentAbove 28 = .ok (.ireturn, 1) := by decide +kernel
theorem dd_N_inverse_0 : decode cc_N_inverse 0 = .ok (.iload_n 0, 1) := by decide +kernel
theorem dd_N_inverse_1 : decode cc_N_inverse 1 = .ok (.iload_n 1, 1) := by decide +kernel
theorem dd_N_inverse_2 : decode cc_N_inverse 2 = .ok (.iconst 1, 1) := by decide +kernel
theorem dd_N_inverse_3 : decode cc_N_inverse 3 = .ok (.isub, 1) := by decide +kernel
theorem dd_N_inverse_4 : decode cc_N_inverse 4 = .ok (.iconst 2, 1) := by decide +kernel
theorem dd_N_inverse_5 : decode cc_N_inverse 5 = .ok (.idiv, 1) := by decide +kernel
theorem dd_N_inverse_6 : decode cc_N_inverse 6 = .ok (.iconst 2, 1) := by decide +kernel
theorem dd_N_inverse_7 : decode cc_N_inverse 7 = .ok (.isub, 1) := by decide +kernel
theorem dd_N_inverse_8 : decode cc_N_inverse 8 = .ok (.iload_n 1, 1) := by decide +kernel
theorem dd_N_inverse_9 : decode cc_N_inverse 9 = .ok (.iconst 1, 1) := by decide +kernel
theorem dd_N_inverse_10 : decode cc_N_inverse 10 = .ok (.isub, 1) := by decide +kernel
theorem dd_N_inverse_11 : decode cc_N_inverse 11 = .ok (.invokestatic 22, 3) := by decide +kernel
theorem dd_N_inverse_14 : decode cc_N_inverse 14 = .ok (.ireturn, 1) := by decide +kernel
theorem dd_N_times_0 : decode cc_N_times 0 = .ok (.iload_n 2, 1) := by decide +kernel
theorem dd_N_times_1 : decode cc_N_times 1 = .ok (.ifCond .le (15), 3) := by decide +kernel
theorem dd_N_times_4 : decode cc_N_times 4 = .ok (.iload_n 0, 1) := by decide +kernel
theorem dd_N_times_5 : decode cc_N_times 5 = .ok (.i2l, 1) := by decide +kernel
theorem dd_N_times_6 : decode cc_N_times 6 = .ok (.iload_n 1, 1) := by decide +kernel
theorem dd_N_times_7 : decode cc_N_times 7 = .ok (.i2l, 1) := by decide +kernel
theorem dd_N_times_8 : decode cc_N_times 8 = .ok (.lmul, 1) := by decide +kernel
theorem dd_N_times_9 : decode cc_N_times 9 = .ok (.iload_n 2, 1) := by decide +kernel
theorem dd_N_times_10 : decode cc_N_times 10 = .ok (.i2l, 1) := by decide +kernel
theorem dd_N_times_11 : decode cc_N_times 11 = .ok (.lrem, 1) := by decide +kernel
theorem dd_N_times_12 : decode cc_N_times 12 = .ok (.l2i, 1) := by decide +kernel
theorem dd_N_times_13 : decode cc_N_times 13 = .ok (.goto (4), 3) := by decide +kernel
theorem dd_N_times_16 : decode cc_N_times 16 = .ok (.iconst 0, 1) := by decide +kernel
theorem dd_N_times_17 : decode cc_N_times 17 = .ok (.ireturn, 1) := by decide +kernel
theorem dd_N_power_0 : decode cc_N_power 0 = .ok (.iconst 1, 1) := by decide +kernel
theorem dd_N_power_1 : decode cc_N_power 1 = .ok (.istore_n 3, 1) := by decide +kernel
theorem dd_N_power_2 : decode cc_N_power 2 = .ok (.iload_n 0, 1) := by decide +kernel
theorem dd_N_power_3 : decode cc_N_power 3 = .ok (.istore 4, 2) := by decide +kernel
theorem dd_N_power_5 : decode cc_N_power 5 = .ok (.iload_n 1, 1) := by decide +kernel
theorem dd_N_power_6 : decode cc_N_power 6 = .ok (.istore 5, 2) := by decide +kernel
theorem dd_N_power_8 : decode cc_N_power 8 = .ok (.iload 5, 2) := by decide +kernel
theorem dd_N_power_10 : decode cc_N_power 10 = .ok (.ifCond .le (38), 3) := by decide +kernel
theorem dd_N_power_13 : decode cc_N_power 13 = .ok (.iload 5, 2) := by decide +kernel
theorem dd_N_power_15 : decode cc_N_power 15 = .ok (.iconst 2, 1) := by decide +kernel
theorem dd_N_power_16 : decode cc_N_power 16 = .ok (.irem, 1) := by decide +kernel
theorem dd_N_power_17 : decode cc_N_power 17 = .ok (.iconst 1, 1) := by decide +kernel
theorem dd_N_power_18 : decode cc_N_power 18 = .ok (.if_icmp .ne (11), 3) := by decide +kernel
theorem dd_N_power_21 : decode cc_N_power 21 = .ok (.iload_n 3, 1) := by decide +kernel
theorem dd_N_power_22 : decode cc_N_power 22 = .ok (.iload 4, 2) := by decide +kernel
theorem dd_N_power_24 : decode cc_N_power 24 = .ok (.iload_n 2, 1) := by decide +kernel
theorem dd_N_power_25 : decode cc_N_power 25 = .ok (.invokestatic 26, 3) := by decide +kernel
theorem dd_N_power_28 : decode cc_N_power 28 = .ok (.istore_n 3, 1) := by decide +kernel
theorem dd_N_power_29 : decode cc_N_power 29 = .ok (.iload 4, 2) := by decide +kernel
theorem dd_N_power_31 : decode cc_N_power 31 = .ok (.iload 4, 2) := by decide +kernel
theorem dd_N_power_33 : decode cc_N_power 33 = .ok (.iload_n 2, 1) := by decide +kernel
theorem dd_N_power_34 : decode cc_N_power 34 = .ok (.invokestatic 26, 3) := by decide +kernel
theorem dd_N_power_37 : decode cc_N_power 37 = .ok (.istore 4, 2) := by decide +kernel
theorem dd_N_power_39 : decode cc_N_power 39 = .ok (.iload 5, 2) := by decide +kernel
theorem dd_N_power_41 : decode cc_N_power 41 = .ok (.iconst 2, 1) := by decide +kernel
theorem dd_N_power_42 : decode cc_N_power 42 = .ok (.idiv, 1) := by decide +kernel
theorem dd_N_power_43 : decode cc_N_power 43 = .ok (.istore 5, 2) := by decide +kernel
theorem dd_N_power_45 : decode cc_N_power 45 = .ok (.goto (-37), 3) := by decide +kernel
theorem dd_N_power_48 : decode cc_N_power 48 = .ok (.iload_n 3, 1) := by decide +kernel
theorem dd_N_power_49 : decode cc_N_power 49 = .ok (.ireturn, 1) := by decide +kernel
theorem dd_P_init_0 : decode cc_P_init 0 = .ok (.aload_n 0, 1) := by decide +kernel
theorem dd_P_init_1 : decode cc_P_init 1 = .ok (.invokespecial 3, 3) := by decide +kernel
theorem dd_P_init_4 : decode cc_P_init 4 = .ok (.aload_n 0, 1) := by decide +kernel
theorem dd_P_init_5 : decode cc_P_init 5 = .ok (.new 9, 3) := by decide +kernel
theorem dd_P_init_8 : decode cc_P_init 8 = .ok (.dup, 1) := by decide +kernel
theorem dd_P_init_9 : decode cc_P_init 9 = .ok (.invokespecial 11, 3) := by decide +kernel
theorem dd_P_init_12 : decode cc_P_init 12 = .ok (.putfield 12, 3) := by decide +kernel
theorem dd_P_init_15 : decode cc_P_init 15 = .ok (.aload_n 0, 1) := by decide +kernel
theorem dd_P_init_16 : decode cc_P_init 16 = .ok (.new 9, 3) := by decide +kernel
theorem dd_P_init_19 : decode cc_P_init 19 = .ok (.dup, 1) := by decide +kernel
theorem dd_P_init_20 : decode cc_P_init 20 = .ok (.invokespecial 11, 3) := by decide +kernel
theorem dd_P_init_23 : decode cc_P_init 23 = .ok (.putfield 18, 3) := by decide +kernel
theorem dd_P_init_26 : decode cc_P_init 26 = .ok (.aload_n 0, 1) := by decide +kernel
theorem dd_P_init_27 : decode cc_P_init 27 = .ok (.bipush (52), 2) := by decide +kernel
theorem dd_P_init_29 : decode cc_P_init 29 = .ok (.newarray .int, 2) := by decide +kernel
theorem dd_P_init_31 : decode cc_P_init 31 = .ok (.putfield 21, 3) := by decide +kernel
theorem dd_P_init_34 : decode cc_P_init 34 = .ok (.aload_n 0, 1) := by decide +kernel
theorem dd_P_init_35 : decode cc_P_init 35 = .ok (.bipush (52), 2) := by decide +kernel
theorem dd_P_init_37 : decode cc_P_init 37 = .ok (.newarray .int, 2) := by decide +kernel
theorem dd_P_init_39 : decode cc_P_init 39 = .ok (.putfield 25, 3) := by decide +kernel
theorem dd_P_init_42 : decode cc_P_init 42 = .ok (.aload_n 0, 1) := by decide +kernel
theorem dd_P_init_43 : decode cc_P_init 43 = .ok (.iconst 5, 1) := by decide +kernel
theorem dd_P_init_44 : decode cc_P_init 44 = .ok (.newarray .long, 2) := by decide +kernel
theorem dd_P_init_46 : decode cc_P_init 46 = .ok (.putfield 28, 3) := by decide +kernel
theorem dd_P_init_49 : decode cc_P_init 49 = .ok (.return_, 1) := by decide +kernel
theorem dd_P_beginHand_0 : decode cc_P_beginHand 0 = .ok (.aload_n 0, 1) := by decide +kernel
theorem dd_P_beginHand_1 : decode cc_P_beginHand 1 = .ok (.iconst 0, 1) := by decide +kernel
theorem dd_P_beginHand_2 : decode cc_P_beginHand 2 = .ok (.putfield 32, 3) := by decide +kernel
theorem dd_P_beginHand_5 : decode cc_P_beginHand 5 = .ok (.aload_n 0, 1) := by decide +kernel
theorem dd_P_beginHand_6 : decode cc_P_beginHand 6 = .ok (.iconst 0, 1) := by decide +kernel
theorem dd_P_beginHand_7 : decode cc_P_beginHand 7 = .ok (.putfield 36, 3) := by decide +kernel
theorem dd_P_beginHand_10 : decode cc_P_beginHand 10 = .ok (.aload_n 0, 1) := by decide +kernel
theorem dd_P_beginHand_11 : decode cc_P_beginHand 11 = .ok (.iconst 0, 1) := by decide +kernel
theorem dd_P_beginHand_12 : decode cc_P_beginHand 12 = .ok (.putfield 39, 3) := by decide +kernel
theorem dd_P_beginHand_15 : decode cc_P_beginHand 15 = .ok (.aload_n 0, 1) := by decide +kernel
theorem dd_P_beginHand_16 : decode cc_P_beginHand 16 = .ok (.iconst 0, 1) := by decide +kernel
theorem dd_P_beginHand_17 : decode cc_P_beginHand 17 = .ok (.putfield 43, 3) := by decide +kernel
theorem dd_P_beginHand_20 : decode cc_P_beginHand 20 = .ok (.aload_n 0, 1) := by decide +kernel
theorem dd_P_beginHand_21 : decode cc_P_beginHand 21 = .ok (.iconst 0, 1) := by decide +kernel
theorem dd_P_beginHand_22 : decode cc_P_beginHand 22 = .ok (.putfield 46, 3) := by decide +kernel
theorem dd_P_beginHand_25 : decode cc_P_beginHand 25 = .ok (.aload_n 0, 1) := by decide +kernel
theorem dd_P_beginHand_26 : decode cc_P_beginHand 26 = .ok (.getfield 25, 3) := by decide +kernel
theorem dd_P_beginHand_29 : decode cc_P_beginHand 29 = .ok (.iconst 0, 1) := by decide +kernel
theorem dd_P_beginHand_30 : decode cc_P_beginHand 30 = .ok (.invokestatic 49, 3) := by decide +kernel
theorem dd_P_beginHand_33 : decode cc_P_beginHand 33 = .ok (.aload_n 0, 1) := by decide +kernel
theorem dd_P_beginHand_34 : decode cc_P_beginHand 34 = .ok (.getfield 28, 3) := by decide +kernel
theorem dd_P_beginHand_37 : decode cc_P_beginHand 37 = .ok (.lconst 0, 1) := by decide +kernel
theorem dd_P_beginHand_38 : decode cc_P_beginHand 38 = .ok (.invokestatic 55, 3) := by decide +kernel
theorem dd_P_beginHand_41 : decode cc_P_beginHand 41 = .ok (.return_, 1) := by decide +kernel
theorem dd_P_canAct_0 : decode cc_P_canAct 0 = .ok (.aload_n 0, 1) := by decide +kernel
theorem dd_P_canAct_1 : decode cc_P_canAct 1 = .ok (.getfield 39, 3) := by decide +kernel
theorem dd_P_canAct_4 : decode cc_P_canAct 4 = .ok (.ifCond .ne (14), 3) := by decide +kernel
theorem dd_P_canAct_7 : decode cc_P_canAct 7 = .ok (.aload_n 0, 1) := by decide +kernel
theorem dd_P_canAct_8 : decode cc_P_canAct 8 = .ok (.getfield 58, 3) := by decide +kernel
theorem dd_P_canAct_11 : decode cc_P_canAct 11 = .ok (.ifCond .le (7), 3) := by decide +kernel
theorem dd_P_canAct_14 : decode cc_P_canAct 14 = .ok (.iconst 1, 1) := by decide +kernel
theorem dd_P_canAct_15 : decode cc_P_canAct 15 = .ok (.goto (4), 3) := by decide +kernel
theorem dd_P_canAct_18 : decode cc_P_canAct 18 = .ok (.iconst 0, 1) := by decide +kernel
theorem dd_P_canAct_19 : decode cc_P_canAct 19 = .ok (.ireturn, 1) := by decide +kernel
theorem dd_P_isInFor_0 : decode cc_P_isInFor 0 = .ok (.aload_n 0, 1) := by decide +kernel
theorem dd_P_isInFor_1 : decode cc_P_isInFor 1 = .ok (.getfield 39, 3) := by decide +kernel
theorem dd_P_isInFor_4 : decode cc_P_isInFor 4 = .ok (.ifCond .ne (14), 3) := by decide +kernel
theorem dd_P_isInFor_7 : decode cc_P_isInFor 7 = .ok (.aload_n 0, 1) := by decide +kernel
theorem dd_P_isInFor_8 : decode cc_P_isInFor 8 = .ok (.getfield 32, 3) := by decide +kernel
theorem dd_P_isInFor_11 : decode cc_P_isInFor 11 = .ok (.ifCond .le (7), 3) := by decide +kernel
theorem dd_P_isInFor_14 : decode cc_P_isInFor 14 = .ok (.iconst 1, 1) := by decide +kernel
theorem dd_P_isInFor_15 : decode cc_P_isInFor 15 = .ok (.goto (4), 3) := by decide +kernel
theorem dd_P_isInFor_18 : decode cc_P_isInFor 18 = .ok (.iconst 0, 1) := by decide +kernel
theorem dd_P_isInFor_19 : decode cc_P_isInFor 19 = .ok (.ireturn, 1) := by decide +kernel
theorem dd_P_putIn_0 : decode cc_P_putIn 0 = .ok (.aload_n 0, 1) := by decide +kernel
theorem dd_P_putIn_1 : decode cc_P_putIn 1 = .ok (.dup, 1) := by decide +kernel
theorem dd_P_putIn_2 : decode cc_P_putIn 2 = .ok (.getfield 58, 3) := by decide +kernel
theorem dd_P_putIn_5 : decode cc_P_putIn 5 = .ok (.iload_n 1, 1) := by decide +kernel
theorem dd_P_putIn_6 : decode cc_P_putIn 6 = .ok (.isub, 1) := by decide +kernel
theorem dd_P_putIn_7 : decode cc_P_putIn 7 = .ok (.putfield 58, 3) := by decide +kernel
theorem dd_P_putIn_10 : decode cc_P_putIn 10 = .ok (.aload_n 0, 1) := by decide +kernel
theorem dd_P_putIn_11 : decode cc_P_putIn 11 = .ok (.dup, 1) := by decide +kernel
theorem dd_P_putIn_12 : decode cc_P_putIn 12 = .ok (.getfield 36, 3) := by decide +kernel
theorem dd_P_putIn_15 : decode cc_P_putIn 15 = .ok (.iload_n 1, 1) := by decide +kernel
theorem dd_P_putIn_16 : decode cc_P_putIn 16 = .ok (.iadd, 1) := by decide +kernel
theorem dd_P_putIn_17 : decode cc_P_putIn 17 = .ok (.putfield 36, 3) := by decide +kernel
theorem dd_P_putIn_20 : decode cc_P_putIn 20 = .ok (.aload_n 0, 1) := by decide +kernel
theorem dd_P_putIn_21 : decode cc_P_putIn 21 = .ok (.dup, 1) := by decide +kernel
theorem dd_P_putIn_22 : decode cc_P_putIn 22 = .ok (.getfield 32, 3) := by decide +kernel
theorem dd_P_putIn_25 : decode cc_P_putIn 25 = .ok (.iload_n 1, 1) := by decide +kernel
theorem dd_P_putIn_26 : decode cc_P_putIn 26 = .ok (.iadd, 1) := by decide +kernel
theorem dd_P_putIn_27 : decode cc_P_putIn 27 = .ok (.putfield 32, 3) := by decide +kernel
theorem dd_P_putIn_30 : decode cc_P_putIn 30 = .ok (.return_, 1) := by decide +kernel
theorem dd_P_hasGiven_0 : decode cc_P_hasGiven 0 = .ok (.aload_n 0, 1) := by decide +kernel
theorem dd_P_hasGiven_1 : decode cc_P_hasGiven 1 = .ok (.getfield 25, 3) := by decide +kernel
theorem dd_P_hasGiven_4 : decode cc_P_hasGiven 4 = .ok (.iload_n 1, 1) := by decide +kernel
theorem dd_P_hasGiven_5 : decode cc_P_hasGiven 5 = .ok (.iaload, 1) := by decide +kernel
theorem dd_P_hasGiven_6 : decode cc_P_hasGiven 6 = .ok (.ifCond .eq (7), 3) := by decide +kernel
theorem dd_P_hasGiven_9 : decode cc_P_hasGiven 9 = .ok (.iconst 1, 1) := by decide +kernel
theorem dd_P_hasGiven_10 : decode cc_P_hasGiven 10 = .ok (.goto (4), 3) := by decide +kernel
theorem dd_P_hasGiven_13 : decode cc_P_hasGiven 13 = .ok (.iconst 0, 1) := by decide +kernel
theorem dd_P_hasGiven_14 : decode cc_P_hasGiven 14 = .ok (.ireturn, 1) := by decide +kernel
theorem dd_P_gaveWrong_0 : decode cc_P_gaveWrong 0 = .ok (.aload_n 0, 1) := by decide +kernel
theorem dd_P_gaveWrong_1 : decode cc_P_gaveWrong 1 = .ok (.iload_n 1, 1) := by decide +kernel
theorem dd_P_gaveWrong_2 : decode cc_P_gaveWrong 2 = .ok (.invokevirtual 61, 3) := by decide +kernel
theorem dd_P_gaveWrong_5 : decode cc_P_gaveWrong 5 = .ok (.ifCond .eq (22), 3) := by decide +kernel
theorem dd_P_gaveWrong_8 : decode cc_P_gaveWrong 8 = .ok (.aload_n 0, 1) := by decide +kernel
theorem dd_P_gaveWrong_9 : decode cc_P_gaveWrong 9 = .ok (.getfield 25, 3) := by decide +kernel
theorem dd_P_gaveWrong_12 : decode cc_P_gaveWrong 12 = .ok (.iload_n 1, 1) := by decide +kernel
theorem dd_P_gaveWrong_13 : decode cc_P_gaveWrong 13 = .ok (.iaload, 1) := by decide +kernel
theorem dd_P_gaveWrong_14 : decode cc_P_gaveWrong 14 = .ok (.aload_n 0, 1) := by decide +kernel
theorem dd_P_gaveWrong_15 : decode cc_P_gaveWrong 15 = .ok (.getfield 21, 3) := by decide +kernel
theorem dd_P_gaveWrong_18 : decode cc_P_gaveWrong 18 = .ok (.iload_n 1, 1) := by decide +kernel
theorem dd_P_gaveWrong_19 : decode cc_P_gaveWrong 19 = .ok (.iaload, 1) := by decide +kernel
theorem dd_P_gaveWrong_20 : decode cc_P_gaveWrong 20 = .ok (.if_icmp .eq (7), 3) := by decide +kernel
theorem dd_P_gaveWrong_23 : decode cc_P_gaveWrong 23 = .ok (.iconst 1, 1) := by decide +kernel
theorem dd_P_gaveWrong_24 : decode cc_P_gaveWrong 24 = .ok (.goto (4), 3) := by decide +kernel
theorem dd_P_gaveWrong_27 : decode cc_P_gaveWrong 27 = .ok (.iconst 0, 1) := by decide +kernel
theorem dd_P_gaveWrong_28 : decode cc_P_gaveWrong 28 = .ok (.ireturn, 1) := by decide +kernel
theorem dd_P_countGiven_0 : decode cc_P_countGiven 0 = .ok (.iconst 0, 1) := by decide +kernel
theorem dd_P_countGiven_1 : decode cc_P_countGiven 1 = .ok (.istore_n 1, 1) := by decide +kernel
theorem dd_P_countGiven_2 : decode cc_P_countGiven 2 = .ok (.iconst 0, 1) := by decide +kernel
theorem dd_P_countGiven_3 : decode cc_P_countGiven 3 = .ok (.istore_n 2, 1) := by decide +kernel
theorem dd_P_countGiven_4 : decode cc_P_countGiven 4 = .ok (.iload_n 2, 1) := by decide +kernel
theorem dd_P_countGiven_5 : decode cc_P_countGiven 5 = .ok (.bipush (52), 2) := by decide +kernel
theorem dd_P_countGiven_7 : decode cc_P_countGiven 7 = .ok (.if_icmp .ge (20), 3) := by decide +kernel
theorem dd_P_countGiven_10 : decode cc_P_countGiven 10 = .ok (.aload_n 0, 1) := by decide +kernel
theorem dd_P_countGiven_11 : decode cc_P_countGiven 11 = .ok (.iload_n 2, 1) := by decide +kernel
theorem dd_P_countGiven_12 : decode cc_P_countGiven 12 = .ok (.invokevirtual 61, 3) := by decide +kernel
theorem dd_P_countGiven_15 : decode cc_P_countGiven 15 = .ok (.ifCond .eq (6), 3) := by decide +kernel
theorem dd_P_countGiven_18 : decode cc_P_countGiven 18 = .ok (.iinc 1 (1), 3) := by decide +kernel
theorem dd_P_countGiven_21 : decode cc_P_countGiven 21 = .ok (.iinc 2 (1), 3) := by decide +kernel
theorem dd_P_countGiven_24 : decode cc_P_countGiven 24 = .ok (.goto (-20), 3) := by decide +kernel
theorem dd_P_countGiven_27 : decode cc_P_countGiven 27 = .ok (.iload_n 1, 1) := by decide +kernel
theorem dd_P_countGiven_28 : decode cc_P_countGiven 28 = .ok (.ireturn, 1) := by decide +kernel
theorem dd_P_cheatsAt_0 : decode cc_P_cheatsAt 0 = .ok (.aload_n 0, 1) := by decide +kernel
theorem dd_P_cheatsAt_1 : decode cc_P_cheatsAt 1 = .ok (.getfield 28, 3) := by decide +kernel
theorem dd_P_cheatsAt_4 : decode cc_P_cheatsAt 4 = .ok (.iload_n 1, 1) := by decide +kernel
theorem dd_P_cheatsAt_5 : decode cc_P_cheatsAt 5 = .ok (.laload, 1) := by decide +kernel
theorem dd_P_cheatsAt_6 : decode cc_P_cheatsAt 6 = .ok (.iload_n 2, 1) := by decide +kernel
theorem dd_P_cheatsAt_7 : decode cc_P_cheatsAt 7 = .ok (.lushr, 1) := by decide +kernel
theorem dd_P_cheatsAt_8 : decode cc_P_cheatsAt 8 = .ok (.lconst 1, 1) := by decide +kernel
theorem dd_P_cheatsAt_9 : decode cc_P_cheatsAt 9 = .ok (.land, 1) := by decide +kernel
theorem dd_P_cheatsAt_10 : decode cc_P_cheatsAt 10 = .ok (.lconst 1, 1) := by decide +kernel
theorem dd_P_cheatsAt_11 : decode cc_P_cheatsAt 11 = .ok (.lcmp, 1) := by decide +kernel
theorem dd_P_cheatsAt_12 : decode cc_P_cheatsAt 12 = .ok (.ifCond .ne (7), 3) := by decide +kernel
theorem dd_P_cheatsAt_15 : decode cc_P_cheatsAt 15 = .ok (.iconst 1, 1) := by decide +kernel
theorem dd_P_cheatsAt_16 : decode cc_P_cheatsAt 16 = .ok (.goto (4), 3) := by decide +kernel
theorem dd_P_cheatsAt_19 : decode cc_P_cheatsAt 19 = .ok (.iconst 0, 1) := by decide +kernel
theorem dd_P_cheatsAt_20 : decode cc_P_cheatsAt 20 = .ok (.ireturn, 1) := by decide +kernel
theorem dd_P_showSecrets_0 : decode cc_P_showSecrets 0 = .ok (.aload_n 0, 1) := by decide +kernel
theorem dd_P_showSecrets_1 : decode cc_P_showSecrets 1 = .ok (.getfield 12, 3) := by decide +kernel
theorem dd_P_showSecrets_4 : decode cc_P_showSecrets 4 = .ok (.getfield 65, 3) := by decide +kernel
theorem dd_P_showSecrets_7 : decode cc_P_showSecrets 7 = .ok (.istore_n 2, 1) := by decide +kernel
theorem dd_P_showSecrets_8 : decode cc_P_showSecrets 8 = .ok (.aload_n 0, 1) := by decide +kernel
theorem dd_P_showSecrets_9 : decode cc_P_showSecrets 9 = .ok (.getfield 12, 3) := by decide +kernel
theorem dd_P_showSecrets_12 : decode cc_P_showSecrets 12 = .ok (.getfield 68, 3) := by decide +kernel
theorem dd_P_showSecrets_15 : decode cc_P_showSecrets 15 = .ok (.lstore_n 3, 1) := by decide +kernel
theorem dd_P_showSecrets_16 : decode cc_P_showSecrets 16 = .ok (.aload_n 0, 1) := by decide +kernel
theorem dd_P_showSecrets_17 : decode cc_P_showSecrets 17 = .ok (.getfield 18, 3) := by decide +kernel
theorem dd_P_showSecrets_20 : decode cc_P_showSecrets 20 = .ok (.aload_n 0, 1) := by decide +kernel
theorem dd_P_showSecrets_21 : decode cc_P_showSecrets 21 = .ok (.getfield 28, 3) := by decide +kernel
theorem dd_P_showSecrets_24 : decode cc_P_showSecrets 24 = .ok (.iconst 3, 1) := by decide +kernel
theorem dd_P_showSecrets_25 : decode cc_P_showSecrets 25 = .ok (.laload, 1) := by decide +kernel
theorem dd_P_showSecrets_26 : decode cc_P_showSecrets 26 = .ok (.lconst 0, 1) := by decide +kernel
theorem dd_P_showSecrets_27 : decode cc_P_showSecrets 27 = .ok (.lcmp, 1) := by decide +kernel
theorem dd_P_showSecrets_28 : decode cc_P_showSecrets 28 = .ok (.ifCond .eq (11), 3) := by decide +kernel
theorem dd_P_showSecrets_31 : decode cc_P_showSecrets 31 = .ok (.iload_n 2, 1) := by decide +kernel
theorem dd_P_showSecrets_32 : decode cc_P_showSecrets 32 = .ok (.iload_n 1, 1) := by decide +kernel
theorem dd_P_showSecrets_33 : decode cc_P_showSecrets 33 = .ok (.invokestatic 72, 3) := by decide +kernel
theorem dd_P_showSecrets_36 : decode cc_P_showSecrets 36 = .ok (.goto (4), 3) := by decide +kernel
theorem dd_P_showSecrets_39 : decode cc_P_showSecrets 39 = .ok (.iload_n 2, 1) := by decide +kernel
theorem dd_P_showSecrets_40 : decode cc_P_showSecrets 40 = .ok (.aload_n 0, 1) := by decide +kernel
theorem dd_P_showSecrets_41 : decode cc_P_showSecrets 41 = .ok (.getfield 28, 3) := by decide +kernel
theorem dd_P_showSecrets_44 : decode cc_P_showSecrets 44 = .ok (.iconst 4, 1) := by decide +kernel
theorem dd_P_showSecrets_45 : decode cc_P_showSecrets 45 = .ok (.laload, 1) := by decide +kernel
theorem dd_P_showSecrets_46 : decode cc_P_showSecrets 46 = .ok (.lconst 0, 1) := by decide +kernel
theorem dd_P_showSecrets_47 : decode cc_P_showSecrets 47 = .ok (.lcmp, 1) := by decide +kernel
theorem dd_P_showSecrets_48 : decode cc_P_showSecrets 48 = .ok (.ifCond .eq (9), 3) := by decide +kernel
theorem dd_P_showSecrets_51 : decode cc_P_showSecrets 51 = .ok (.lload_n 3, 1) := by decide +kernel
theorem dd_P_showSecrets_52 : decode cc_P_showSecrets 52 = .ok (.lconst 1, 1) := by decide +kernel
theorem dd_P_showSecrets_53 : decode cc_P_showSecrets 53 = .ok (.ladd, 1) := by decide +kernel
theorem dd_P_showSecrets_54 : decode cc_P_showSecrets 54 = .ok (.goto (4), 3) := by decide +kernel
theorem dd_P_showSecrets_57 : decode cc_P_showSecrets 57 = .ok (.lload_n 3, 1) := by decide +kernel
theorem dd_P_showSecrets_58 : decode cc_P_showSecrets 58 = .ok (.aload_n 0, 1) := by decide +kernel
theorem dd_P_showSecrets_59 : decode cc_P_showSecrets 59 = .ok (.getfield 12, 3) := by decide +kernel
theorem dd_P_showSecrets_62 : decode cc_P_showSecrets 62 = .ok (.getfield 78, 3) := by decide +kernel
theorem dd_P_showSecrets_65 : decode cc_P_showSecrets 65 = .ok (.invokevirtual 81, 3) := by decide +kernel
theorem dd_P_showSecrets_68 : decode cc_P_showSecrets 68 = .ok (.aload_n 0, 1) := by decide +kernel
theorem dd_P_showSecrets_69 : decode cc_P_showSecrets 69 = .ok (.iconst 1, 1) := by decide +kernel
theorem dd_P_showSecrets_70 : decode cc_P_showSecrets 70 = .ok (.putfield 46, 3) := by decide +kernel
theorem dd_P_showSecrets_73 : decode cc_P_showSecrets 73 = .ok (.return_, 1) := by decide +kernel
theorem dd_S_init_0 : decode cc_S_init 0 = .ok (.aload_n 0, 1) := by decide +kernel
theorem dd_S_init_1 : decode cc_S_init 1 = .ok (.invokespecial 1, 3) := by decide +kernel
theorem dd_S_init_4 : decode cc_S_init 4 = .ok (.return_, 1) := by decide +kernel
theorem dd_S_keep_0 : decode cc_S_keep 0 = .ok (.aload_n 0, 1) := by decide +kernel
theorem dd_S_keep_1 : decode cc_S_keep 1 = .ok (.iload_n 1, 1) := by decide +kernel
theorem dd_S_keep_2 : decode cc_S_keep 2 = .ok (.putfield 7, 3) := by decide +kernel
theorem dd_S_keep_5 : decode cc_S_keep 5 = .ok (.aload_n 0, 1) := by decide +kernel
theorem dd_S_keep_6 : decode cc_S_keep 6 = .ok (.lload_n 2, 1) := by decide +kernel
theorem dd_S_keep_7 : decode cc_S_keep 7 = .ok (.putfield 13, 3) := by decide +kernel
theorem dd_S_keep_10 : decode cc_S_keep 10 = .ok (.aload_n 0, 1) := by decide +kernel
theorem dd_S_keep_11 : decode cc_S_keep 11 = .ok (.lload 4, 2) := by decide +kernel
theorem dd_S_keep_13 : decode cc_S_keep 13 = .ok (.putfield 17, 3) := by decide +kernel
theorem dd_S_keep_16 : decode cc_S_keep 16 = .ok (.return_, 1) := by decide +kernel
theorem dd_S_mark_0 : decode cc_S_mark 0 = .ok (.aload_n 0, 1) := by decide +kernel
theorem dd_S_mark_1 : decode cc_S_mark 1 = .ok (.getfield 7, 3) := by decide +kernel
theorem dd_S_mark_4 : decode cc_S_mark 4 = .ok (.i2l, 1) := by decide +kernel
theorem dd_S_mark_5 : decode cc_S_mark 5 = .ok (.lstore_n 1, 1) := by decide +kernel
theorem dd_S_mark_6 : decode cc_S_mark 6 = .ok (.lload_n 1, 1) := by decide +kernel
theorem dd_S_mark_7 : decode cc_S_mark 7 = .ok (.lload_n 1, 1) := by decide +kernel
theorem dd_S_mark_8 : decode cc_S_mark 8 = .ok (.bipush (29), 2) := by decide +kernel
theorem dd_S_mark_10 : decode cc_S_mark 10 = .ok (.lushr, 1) := by decide +kernel
theorem dd_S_mark_11 : decode cc_S_mark 11 = .ok (.lxor, 1) := by decide +kernel
theorem dd_S_mark_12 : decode cc_S_mark 12 = .ok (.ldc2_w 20, 3) := by decide +kernel
theorem dd_S_mark_15 : decode cc_S_mark 15 = .ok (.lmul, 1) := by decide +kernel
theorem dd_S_mark_16 : decode cc_S_mark 16 = .ok (.aload_n 0, 1) := by decide +kernel
theorem dd_S_mark_17 : decode cc_S_mark 17 = .ok (.getfield 13, 3) := by decide +kernel
theorem dd_S_mark_20 : decode cc_S_mark 20 = .ok (.ladd, 1) := by decide +kernel
theorem dd_S_mark_21 : decode cc_S_mark 21 = .ok (.lstore_n 1, 1) := by decide +kernel
theorem dd_S_mark_22 : decode cc_S_mark 22 = .ok (.lload_n 1, 1) := by decide +kernel
theorem dd_S_mark_23 : decode cc_S_mark 23 = .ok (.lload_n 1, 1) := by decide +kernel
theorem dd_S_mark_24 : decode cc_S_mark 24 = .ok (.bipush (32), 2) := by decide +kernel
theorem dd_S_mark_26 : decode cc_S_mark 26 = .ok (.lushr, 1) := by decide +kernel
theorem dd_S_mark_27 : decode cc_S_mark 27 = .ok (.lxor, 1) := by decide +kernel
theorem dd_S_mark_28 : decode cc_S_mark 28 = .ok (.ldc2_w 22, 3) := by decide +kernel
theorem dd_S_mark_31 : decode cc_S_mark 31 = .ok (.lmul, 1) := by decide +kernel
theorem dd_S_mark_32 : decode cc_S_mark 32 = .ok (.aload_n 0, 1) := by decide +kernel
theorem dd_S_mark_33 : decode cc_S_mark 33 = .ok (.getfield 17, 3) := by decide +kernel
theorem dd_S_mark_36 : decode cc_S_mark 36 = .ok (.ladd, 1) := by decide +kernel
theorem dd_S_mark_37 : decode cc_S_mark 37 = .ok (.lstore_n 1, 1) := by decide +kernel
theorem dd_S_mark_38 : decode cc_S_mark 38 = .ok (.lload_n 1, 1) := by decide +kernel
theorem dd_S_mark_39 : decode cc_S_mark 39 = .ok (.lload_n 1, 1) := by decide +kernel
theorem dd_S_mark_40 : decode cc_S_mark 40 = .ok (.bipush (29), 2) := by decide +kernel
theorem dd_S_mark_42 : decode cc_S_mark 42 = .ok (.lushr, 1) := by decide +kernel
theorem dd_S_mark_43 : decode cc_S_mark 43 = .ok (.lxor, 1) := by decide +kernel
theorem dd_S_mark_44 : decode cc_S_mark 44 = .ok (.ldc2_w 20, 3) := by decide +kernel
theorem dd_S_mark_47 : decode cc_S_mark 47 = .ok (.lmul, 1) := by decide +kernel
theorem dd_S_mark_48 : decode cc_S_mark 48 = .ok (.lstore_n 1, 1) := by decide +kernel
theorem dd_S_mark_49 : decode cc_S_mark 49 = .ok (.lload_n 1, 1) := by decide +kernel
theorem dd_S_mark_50 : decode cc_S_mark 50 = .ok (.lload_n 1, 1) := by decide +kernel
theorem dd_S_mark_51 : decode cc_S_mark 51 = .ok (.bipush (32), 2) := by decide +kernel
theorem dd_S_mark_53 : decode cc_S_mark 53 = .ok (.lushr, 1) := by decide +kernel
theorem dd_S_mark_54 : decode cc_S_mark 54 = .ok (.lxor, 1) := by decide +kernel
theorem dd_S_mark_55 : decode cc_S_mark 55 = .ok (.lreturn, 1) := by decide +kernel
theorem dd_Z_max_0 : decode cc_Z_max 0 = .ok (.iload_n 0, 1) := by decide +kernel
theorem dd_Z_max_1 : decode cc_Z_max 1 = .ok (.iload_n 1, 1) := by decide +kernel
theorem dd_Z_max_2 : decode cc_Z_max 2 = .ok (.if_icmp .lt (7), 3) := by decide +kernel
theorem dd_Z_max_5 : decode cc_Z_max 5 = .ok (.iload_n 0, 1) := by decide +kernel
theorem dd_Z_max_6 : decode cc_Z_max 6 = .ok (.goto (4), 3) := by decide +kernel
theorem dd_Z_max_9 : decode cc_Z_max 9 = .ok (.iload_n 1, 1) := by decide +kernel
theorem dd_Z_max_10 : decode cc_Z_max 10 = .ok (.ireturn, 1) := by decide +kernel
theorem dd_Z_min_0 : decode cc_Z_min 0 = .ok (.iload_n 0, 1) := by decide +kernel
theorem dd_Z_min_1 : decode cc_Z_min 1 = .ok (.iload_n 1, 1) := by decide +kernel
theorem dd_Z_min_2 : decode cc_Z_min 2 = .ok (.if_icmp .gt (7), 3) := by decide +kernel
theorem dd_Z_min_5 : decode cc_Z_min 5 = .ok (.iload_n 0, 1) := by decide +kernel
theorem dd_Z_min_6 : decode cc_Z_min 6 = .ok (.goto (4), 3) := by decide +kernel
theorem dd_Z_min_9 : decode cc_Z_min 9 = .ok (.iload_n 1, 1) := by decide +kernel
theorem dd_Z_min_10 : decode cc_Z_min 10 = .ok (.ireturn, 1) := by decide +kernel
theorem dd_A_fill_0 : decode cc_A_fill 0 = .ok (.iconst 0, 1) := by decide +kernel
theorem dd_A_fill_1 : decode cc_A_fill 1 = .ok (.istore_n 2, 1) := by decide +kernel
theorem dd_A_fill_2 : decode cc_A_fill 2 = .ok (.aload_n 0, 1) := by decide +kernel
theorem dd_A_fill_3 : decode cc_A_fill 3 = .ok (.arraylength, 1) := by decide +kernel
theorem dd_A_fill_4 : decode cc_A_fill 4 = .ok (.istore_n 3, 1) := by decide +kernel
theorem dd_A_fill_5 : decode cc_A_fill 5 = .ok (.iload_n 2, 1) := by decide +kernel
theorem dd_A_fill_6 : decode cc_A_fill 6 = .ok (.iload_n 3, 1) := by decide +kernel
theorem dd_A_fill_7 : decode cc_A_fill 7 = .ok (.if_icmp .ge (13), 3) := by decide +kernel
theorem dd_A_fill_10 : decode cc_A_fill 10 = .ok (.aload_n 0, 1) := by decide +kernel
theorem dd_A_fill_11 : decode cc_A_fill 11 = .ok (.iload_n 2, 1) := by decide +kernel
theorem dd_A_fill_12 : decode cc_A_fill 12 = .ok (.iload_n 1, 1) := by decide +kernel
theorem dd_A_fill_13 : decode cc_A_fill 13 = .ok (.iastore, 1) := by decide +kernel
theorem dd_A_fill_14 : decode cc_A_fill 14 = .ok (.iinc 2 (1), 3) := by decide +kernel
theorem dd_A_fill_17 : decode cc_A_fill 17 = .ok (.goto (-12), 3) := by decide +kernel
theorem dd_A_fill_20 : decode cc_A_fill 20 = .ok (.return_, 1) := by decide +kernel
theorem dd_A_fill2_0 : decode cc_A_fill2 0 = .ok (.iconst 0, 1) := by decide +kernel
theorem dd_A_fill2_1 : decode cc_A_fill2 1 = .ok (.istore_n 3, 1) := by decide +kernel
theorem dd_A_fill2_2 : decode cc_A_fill2 2 = .ok (.aload_n 0, 1) := by decide +kernel
theorem dd_A_fill2_3 : decode cc_A_fill2 3 = .ok (.arraylength, 1) := by decide +kernel
theorem dd_A_fill2_4 : decode cc_A_fill2 4 = .ok (.istore 4, 2) := by decide +kernel
theorem dd_A_fill2_6 : decode cc_A_fill2 6 = .ok (.iload_n 3, 1) := by decide +kernel
theorem dd_A_fill2_7 : decode cc_A_fill2 7 = .ok (.iload 4, 2) := by decide +kernel
theorem dd_A_fill2_9 : decode cc_A_fill2 9 = .ok (.if_icmp .ge (13), 3) := by decide +kernel
theorem dd_A_fill2_12 : decode cc_A_fill2 12 = .ok (.aload_n 0, 1) := by decide +kernel
theorem dd_A_fill2_13 : decode cc_A_fill2 13 = .ok (.iload_n 3, 1) := by decide +kernel
theorem dd_A_fill2_14 : decode cc_A_fill2 14 = .ok (.lload_n 1, 1) := by decide +kernel
theorem dd_A_fill2_15 : decode cc_A_fill2 15 = .ok (.lastore, 1) := by decide +kernel
theorem dd_A_fill2_16 : decode cc_A_fill2 16 = .ok (.iinc 3 (1), 3) := by decide +kernel
theorem dd_A_fill2_19 : decode cc_A_fill2 19 = .ok (.goto (-13), 3) := by decide +kernel
theorem dd_A_fill2_22 : decode cc_A_fill2 22 = .ok (.return_, 1) := by decide +kernel
