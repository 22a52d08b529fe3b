/-! decode rows, laid by program -/
theorem dd_O_init_0 : decode cc_O_init 0 = .ok (.aload_n 0, 1) := by decide +kernel
theorem dd_O_init_1 : decode cc_O_init 1 = .ok (.invokespecial 1, 3) := by decide +kernel
theorem dd_O_init_4 : decode cc_O_init 4 = .ok (.aload_n 0, 1) := by decide +kernel
theorem dd_O_init_5 : decode cc_O_init 5 = .ok (.iconst 4, 1) := by decide +kernel
theorem dd_O_init_6 : decode cc_O_init 6 = .ok (.anewarray 9, 3) := by decide +kernel
theorem dd_O_init_9 : decode cc_O_init 9 = .ok (.putfield 11, 3) := by decide +kernel
theorem dd_O_init_12 : decode cc_O_init 12 = .ok (.iconst 0, 1) := by decide +kernel
theorem dd_O_init_13 : decode cc_O_init 13 = .ok (.istore_n 1, 1) := by decide +kernel
theorem dd_O_init_14 : decode cc_O_init 14 = .ok (.iload_n 1, 1) := by decide +kernel
theorem dd_O_init_15 : decode cc_O_init 15 = .ok (.iconst 4, 1) := by decide +kernel
theorem dd_O_init_16 : decode cc_O_init 16 = .ok (.if_icmp .ge (22), 3) := by decide +kernel
theorem dd_O_init_19 : decode cc_O_init 19 = .ok (.aload_n 0, 1) := by decide +kernel
theorem dd_O_init_20 : decode cc_O_init 20 = .ok (.getfield 11, 3) := by decide +kernel
theorem dd_O_init_23 : decode cc_O_init 23 = .ok (.iload_n 1, 1) := by decide +kernel
theorem dd_O_init_24 : decode cc_O_init 24 = .ok (.new 9, 3) := by decide +kernel
theorem dd_O_init_27 : decode cc_O_init 27 = .ok (.dup, 1) := by decide +kernel
theorem dd_O_init_28 : decode cc_O_init 28 = .ok (.invokespecial 15, 3) := by decide +kernel
theorem dd_O_init_31 : decode cc_O_init 31 = .ok (.aastore, 1) := by decide +kernel
theorem dd_O_init_32 : decode cc_O_init 32 = .ok (.iinc 1 (1), 3) := by decide +kernel
theorem dd_O_init_35 : decode cc_O_init 35 = .ok (.goto (-21), 3) := by decide +kernel
theorem dd_O_init_38 : decode cc_O_init 38 = .ok (.aload_n 0, 1) := by decide +kernel
theorem dd_O_init_39 : decode cc_O_init 39 = .ok (.bipush (9), 2) := by decide +kernel
theorem dd_O_init_41 : decode cc_O_init 41 = .ok (.bipush (52), 2) := by decide +kernel
theorem dd_O_init_43 : decode cc_O_init 43 = .ok (.multianewarray 16 2, 4) := by decide +kernel
theorem dd_O_init_47 : decode cc_O_init 47 = .ok (.putfield 18, 3) := by decide +kernel
theorem dd_O_init_50 : decode cc_O_init 50 = .ok (.aload_n 0, 1) := by decide +kernel
theorem dd_O_init_51 : decode cc_O_init 51 = .ok (.bipush (52), 2) := by decide +kernel
theorem dd_O_init_53 : decode cc_O_init 53 = .ok (.newarray .int, 2) := by decide +kernel
theorem dd_O_init_55 : decode cc_O_init 55 = .ok (.putfield 21, 3) := by decide +kernel
theorem dd_O_init_58 : decode cc_O_init 58 = .ok (.aload_n 0, 1) := by decide +kernel
theorem dd_O_init_59 : decode cc_O_init 59 = .ok (.bipush (52), 2) := by decide +kernel
theorem dd_O_init_61 : decode cc_O_init 61 = .ok (.newarray .int, 2) := by decide +kernel
theorem dd_O_init_63 : decode cc_O_init 63 = .ok (.putfield 25, 3) := by decide +kernel
theorem dd_O_init_66 : decode cc_O_init 66 = .ok (.aload_n 0, 1) := by decide +kernel
theorem dd_O_init_67 : decode cc_O_init 67 = .ok (.bipush (52), 2) := by decide +kernel
theorem dd_O_init_69 : decode cc_O_init 69 = .ok (.newarray .int, 2) := by decide +kernel
theorem dd_O_init_71 : decode cc_O_init 71 = .ok (.putfield 28, 3) := by decide +kernel
theorem dd_O_init_74 : decode cc_O_init 74 = .ok (.aload_n 0, 1) := by decide +kernel
theorem dd_O_init_75 : decode cc_O_init 75 = .ok (.iconst (-1), 1) := by decide +kernel
theorem dd_O_init_76 : decode cc_O_init 76 = .ok (.putfield 31, 3) := by decide +kernel
theorem dd_O_init_79 : decode cc_O_init 79 = .ok (.return_, 1) := by decide +kernel
theorem dd_O_prime_0 : decode cc_O_prime 0 = .ok (.aload_n 0, 1) := by decide +kernel
theorem dd_O_prime_1 : decode cc_O_prime 1 = .ok (.getfield 35, 3) := by decide +kernel
theorem dd_O_prime_4 : decode cc_O_prime 4 = .ok (.ifCond .ne (10), 3) := by decide +kernel
theorem dd_O_prime_7 : decode cc_O_prime 7 = .ok (.iload_n 1, 1) := by decide +kernel
theorem dd_O_prime_8 : decode cc_O_prime 8 = .ok (.invokestatic 38, 3) := by decide +kernel
theorem dd_O_prime_11 : decode cc_O_prime 11 = .ok (.ifCond .ne (5), 3) := by decide +kernel
theorem dd_O_prime_14 : decode cc_O_prime 14 = .ok (.iconst 0, 1) := by decide +kernel
theorem dd_O_prime_15 : decode cc_O_prime 15 = .ok (.ireturn, 1) := by decide +kernel
theorem dd_O_prime_16 : decode cc_O_prime 16 = .ok (.aload_n 0, 1) := by decide +kernel
theorem dd_O_prime_17 : decode cc_O_prime 17 = .ok (.iload_n 1, 1) := by decide +kernel
theorem dd_O_prime_18 : decode cc_O_prime 18 = .ok (.putfield 35, 3) := by decide +kernel
theorem dd_O_prime_21 : decode cc_O_prime 21 = .ok (.iconst 0, 1) := by decide +kernel
theorem dd_O_prime_22 : decode cc_O_prime 22 = .ok (.istore_n 2, 1) := by decide +kernel
theorem dd_O_prime_23 : decode cc_O_prime 23 = .ok (.iload_n 2, 1) := by decide +kernel
theorem dd_O_prime_24 : decode cc_O_prime 24 = .ok (.bipush (52), 2) := by decide +kernel
theorem dd_O_prime_26 : decode cc_O_prime 26 = .ok (.if_icmp .ge (22), 3) := by decide +kernel
theorem dd_O_prime_29 : decode cc_O_prime 29 = .ok (.aload_n 0, 1) := by decide +kernel
theorem dd_O_prime_30 : decode cc_O_prime 30 = .ok (.getfield 18, 3) := by decide +kernel
theorem dd_O_prime_33 : decode cc_O_prime 33 = .ok (.iconst 0, 1) := by decide +kernel
theorem dd_O_prime_34 : decode cc_O_prime 34 = .ok (.aaload, 1) := by decide +kernel
theorem dd_O_prime_35 : decode cc_O_prime 35 = .ok (.iload_n 2, 1) := by decide +kernel
theorem dd_O_prime_36 : decode cc_O_prime 36 = .ok (.iload_n 2, 1) := by decide +kernel
theorem dd_O_prime_37 : decode cc_O_prime 37 = .ok (.iload_n 1, 1) := by decide +kernel
theorem dd_O_prime_38 : decode cc_O_prime 38 = .ok (.invokestatic 44, 3) := by decide +kernel
theorem dd_O_prime_41 : decode cc_O_prime 41 = .ok (.iastore, 1) := by decide +kernel
theorem dd_O_prime_42 : decode cc_O_prime 42 = .ok (.iinc 2 (1), 3) := by decide +kernel
theorem dd_O_prime_45 : decode cc_O_prime 45 = .ok (.goto (-22), 3) := by decide +kernel
theorem dd_O_prime_48 : decode cc_O_prime 48 = .ok (.iconst 1, 1) := by decide +kernel
theorem dd_O_prime_49 : decode cc_O_prime 49 = .ok (.ireturn, 1) := by decide +kernel
theorem dd_O_clear_0 : decode cc_O_clear 0 = .ok (.aload_n 0, 1) := by decide +kernel
theorem dd_O_clear_1 : decode cc_O_clear 1 = .ok (.iconst 0, 1) := by decide +kernel
theorem dd_O_clear_2 : decode cc_O_clear 2 = .ok (.putfield 35, 3) := by decide +kernel
theorem dd_O_clear_5 : decode cc_O_clear 5 = .ok (.aload_n 0, 1) := by decide +kernel
theorem dd_O_clear_6 : decode cc_O_clear 6 = .ok (.iconst 0, 1) := by decide +kernel
theorem dd_O_clear_7 : decode cc_O_clear 7 = .ok (.putfield 48, 3) := by decide +kernel
theorem dd_O_clear_10 : decode cc_O_clear 10 = .ok (.aload_n 0, 1) := by decide +kernel
theorem dd_O_clear_11 : decode cc_O_clear 11 = .ok (.iconst 0, 1) := by decide +kernel
theorem dd_O_clear_12 : decode cc_O_clear 12 = .ok (.putfield 51, 3) := by decide +kernel
theorem dd_O_clear_15 : decode cc_O_clear 15 = .ok (.aload_n 0, 1) := by decide +kernel
theorem dd_O_clear_16 : decode cc_O_clear 16 = .ok (.iconst 0, 1) := by decide +kernel
theorem dd_O_clear_17 : decode cc_O_clear 17 = .ok (.putfield 54, 3) := by decide +kernel
theorem dd_O_clear_20 : decode cc_O_clear 20 = .ok (.aload_n 0, 1) := by decide +kernel
theorem dd_O_clear_21 : decode cc_O_clear 21 = .ok (.iconst (-1), 1) := by decide +kernel
theorem dd_O_clear_22 : decode cc_O_clear 22 = .ok (.putfield 31, 3) := by decide +kernel
theorem dd_O_clear_25 : decode cc_O_clear 25 = .ok (.return_, 1) := by decide +kernel
theorem dd_O_seat_0 : decode cc_O_seat 0 = .ok (.aload_n 0, 1) := by decide +kernel
theorem dd_O_seat_1 : decode cc_O_seat 1 = .ok (.getfield 48, 3) := by decide +kernel
theorem dd_O_seat_4 : decode cc_O_seat 4 = .ok (.ifCond .ne (22), 3) := by decide +kernel
theorem dd_O_seat_7 : decode cc_O_seat 7 = .ok (.aload_n 0, 1) := by decide +kernel
theorem dd_O_seat_8 : decode cc_O_seat 8 = .ok (.getfield 51, 3) := by decide +kernel
theorem dd_O_seat_11 : decode cc_O_seat 11 = .ok (.iconst 4, 1) := by decide +kernel
theorem dd_O_seat_12 : decode cc_O_seat 12 = .ok (.if_icmp .ge (14), 3) := by decide +kernel
theorem dd_O_seat_15 : decode cc_O_seat 15 = .ok (.iload_n 1, 1) := by decide +kernel
theorem dd_O_seat_16 : decode cc_O_seat 16 = .ok (.iconst 1, 1) := by decide +kernel
theorem dd_O_seat_17 : decode cc_O_seat 17 = .ok (.if_icmp .lt (9), 3) := by decide +kernel
theorem dd_O_seat_20 : decode cc_O_seat 20 = .ok (.iload_n 1, 1) := by decide +kernel
theorem dd_O_seat_21 : decode cc_O_seat 21 = .ok (.ldc 57, 2) := by decide +kernel
theorem dd_O_seat_23 : decode cc_O_seat 23 = .ok (.if_icmp .le (5), 3) := by decide +kernel
theorem dd_O_seat_26 : decode cc_O_seat 26 = .ok (.iconst (-1), 1) := by decide +kernel
theorem dd_O_seat_27 : decode cc_O_seat 27 = .ok (.ireturn, 1) := by decide +kernel
theorem dd_O_seat_28 : decode cc_O_seat 28 = .ok (.aload_n 0, 1) := by decide +kernel
theorem dd_O_seat_29 : decode cc_O_seat 29 = .ok (.getfield 11, 3) := by decide +kernel
theorem dd_O_seat_32 : decode cc_O_seat 32 = .ok (.aload_n 0, 1) := by decide +kernel
theorem dd_O_seat_33 : decode cc_O_seat 33 = .ok (.getfield 51, 3) := by decide +kernel
theorem dd_O_seat_36 : decode cc_O_seat 36 = .ok (.aaload, 1) := by decide +kernel
theorem dd_O_seat_37 : decode cc_O_seat 37 = .ok (.iload_n 1, 1) := by decide +kernel
theorem dd_O_seat_38 : decode cc_O_seat 38 = .ok (.putfield 58, 3) := by decide +kernel
theorem dd_O_seat_41 : decode cc_O_seat 41 = .ok (.aload_n 0, 1) := by decide +kernel
theorem dd_O_seat_42 : decode cc_O_seat 42 = .ok (.getfield 11, 3) := by decide +kernel
theorem dd_O_seat_45 : decode cc_O_seat 45 = .ok (.aload_n 0, 1) := by decide +kernel
theorem dd_O_seat_46 : decode cc_O_seat 46 = .ok (.getfield 51, 3) := by decide +kernel
theorem dd_O_seat_49 : decode cc_O_seat 49 = .ok (.aaload, 1) := by decide +kernel
theorem dd_O_seat_50 : decode cc_O_seat 50 = .ok (.invokevirtual 61, 3) := by decide +kernel
theorem dd_O_seat_53 : decode cc_O_seat 53 = .ok (.aload_n 0, 1) := by decide +kernel
theorem dd_O_seat_54 : decode cc_O_seat 54 = .ok (.dup, 1) := by decide +kernel
theorem dd_O_seat_55 : decode cc_O_seat 55 = .ok (.getfield 51, 3) := by decide +kernel
theorem dd_O_seat_58 : decode cc_O_seat 58 = .ok (.iconst 1, 1) := by decide +kernel
theorem dd_O_seat_59 : decode cc_O_seat 59 = .ok (.iadd, 1) := by decide +kernel
theorem dd_O_seat_60 : decode cc_O_seat 60 = .ok (.putfield 51, 3) := by decide +kernel
theorem dd_O_seat_63 : decode cc_O_seat 63 = .ok (.aload_n 0, 1) := by decide +kernel
theorem dd_O_seat_64 : decode cc_O_seat 64 = .ok (.getfield 51, 3) := by decide +kernel
theorem dd_O_seat_67 : decode cc_O_seat 67 = .ok (.iconst 1, 1) := by decide +kernel
theorem dd_O_seat_68 : decode cc_O_seat 68 = .ok (.isub, 1) := by decide +kernel
theorem dd_O_seat_69 : decode cc_O_seat 69 = .ok (.ireturn, 1) := by decide +kernel
theorem dd_O_deal_0 : decode cc_O_deal 0 = .ok (.aload_n 0, 1) := by decide +kernel
theorem dd_O_deal_1 : decode cc_O_deal 1 = .ok (.getfield 35, 3) := by decide +kernel
theorem dd_O_deal_4 : decode cc_O_deal 4 = .ok (.ifCond .eq (27), 3) := by decide +kernel
theorem dd_O_deal_7 : decode cc_O_deal 7 = .ok (.aload_n 0, 1) := by decide +kernel
theorem dd_O_deal_8 : decode cc_O_deal 8 = .ok (.getfield 51, 3) := by decide +kernel
theorem dd_O_deal_11 : decode cc_O_deal 11 = .ok (.iconst 2, 1) := by decide +kernel
theorem dd_O_deal_12 : decode cc_O_deal 12 = .ok (.if_icmp .lt (19), 3) := by decide +kernel
theorem dd_O_deal_15 : decode cc_O_deal 15 = .ok (.aload_n 0, 1) := by decide +kernel
theorem dd_O_deal_16 : decode cc_O_deal 16 = .ok (.getfield 48, 3) := by decide +kernel
theorem dd_O_deal_19 : decode cc_O_deal 19 = .ok (.ifCond .eq (14), 3) := by decide +kernel
theorem dd_O_deal_22 : decode cc_O_deal 22 = .ok (.aload_n 0, 1) := by decide +kernel
theorem dd_O_deal_23 : decode cc_O_deal 23 = .ok (.getfield 48, 3) := by decide +kernel
theorem dd_O_deal_26 : decode cc_O_deal 26 = .ok (.bipush (6), 2) := by decide +kernel
theorem dd_O_deal_28 : decode cc_O_deal 28 = .ok (.if_icmp .eq (5), 3) := by decide +kernel
theorem dd_O_deal_31 : decode cc_O_deal 31 = .ok (.iconst 0, 1) := by decide +kernel
theorem dd_O_deal_32 : decode cc_O_deal 32 = .ok (.ireturn, 1) := by decide +kernel
theorem dd_O_deal_33 : decode cc_O_deal 33 = .ok (.aload_n 0, 1) := by decide +kernel
theorem dd_O_deal_34 : decode cc_O_deal 34 = .ok (.invokevirtual 64, 3) := by decide +kernel
theorem dd_O_deal_37 : decode cc_O_deal 37 = .ok (.aload_n 0, 1) := by decide +kernel
theorem dd_O_deal_38 : decode cc_O_deal 38 = .ok (.getfield 51, 3) := by decide +kernel
theorem dd_O_deal_41 : decode cc_O_deal 41 = .ok (.if_icmp .ge (5), 3) := by decide +kernel
theorem dd_O_deal_44 : decode cc_O_deal 44 = .ok (.iconst 0, 1) := by decide +kernel
theorem dd_O_deal_45 : decode cc_O_deal 45 = .ok (.ireturn, 1) := by decide +kernel
theorem dd_O_deal_46 : decode cc_O_deal 46 = .ok (.iconst 0, 1) := by decide +kernel
theorem dd_O_deal_47 : decode cc_O_deal 47 = .ok (.istore_n 1, 1) := by decide +kernel
theorem dd_O_deal_48 : decode cc_O_deal 48 = .ok (.iload_n 1, 1) := by decide +kernel
theorem dd_O_deal_49 : decode cc_O_deal 49 = .ok (.aload_n 0, 1) := by decide +kernel
theorem dd_O_deal_50 : decode cc_O_deal 50 = .ok (.getfield 51, 3) := by decide +kernel
theorem dd_O_deal_53 : decode cc_O_deal 53 = .ok (.if_icmp .ge (18), 3) := by decide +kernel
theorem dd_O_deal_56 : decode cc_O_deal 56 = .ok (.aload_n 0, 1) := by decide +kernel
theorem dd_O_deal_57 : decode cc_O_deal 57 = .ok (.getfield 11, 3) := by decide +kernel
theorem dd_O_deal_60 : decode cc_O_deal 60 = .ok (.iload_n 1, 1) := by decide +kernel
theorem dd_O_deal_61 : decode cc_O_deal 61 = .ok (.aaload, 1) := by decide +kernel
theorem dd_O_deal_62 : decode cc_O_deal 62 = .ok (.invokevirtual 61, 3) := by decide +kernel
theorem dd_O_deal_65 : decode cc_O_deal 65 = .ok (.iinc 1 (1), 3) := by decide +kernel
theorem dd_O_deal_68 : decode cc_O_deal 68 = .ok (.goto (-20), 3) := by decide +kernel
theorem dd_O_deal_71 : decode cc_O_deal 71 = .ok (.aload_n 0, 1) := by decide +kernel
theorem dd_O_deal_72 : decode cc_O_deal 72 = .ok (.getfield 21, 3) := by decide +kernel
theorem dd_O_deal_75 : decode cc_O_deal 75 = .ok (.bipush (-2), 2) := by decide +kernel
theorem dd_O_deal_77 : decode cc_O_deal 77 = .ok (.invokestatic 68, 3) := by decide +kernel
theorem dd_O_deal_80 : decode cc_O_deal 80 = .ok (.aload_n 0, 1) := by decide +kernel
theorem dd_O_deal_81 : decode cc_O_deal 81 = .ok (.iconst 0, 1) := by decide +kernel
theorem dd_O_deal_82 : decode cc_O_deal 82 = .ok (.putfield 54, 3) := by decide +kernel
theorem dd_O_deal_85 : decode cc_O_deal 85 = .ok (.aload_n 0, 1) := by decide +kernel
theorem dd_O_deal_86 : decode cc_O_deal 86 = .ok (.iconst 1, 1) := by decide +kernel
theorem dd_O_deal_87 : decode cc_O_deal 87 = .ok (.putfield 48, 3) := by decide +kernel
theorem dd_O_deal_90 : decode cc_O_deal 90 = .ok (.iconst 1, 1) := by decide +kernel
theorem dd_O_deal_91 : decode cc_O_deal 91 = .ok (.ireturn, 1) := by decide +kernel
theorem dd_O_seal_0 : decode cc_O_seal 0 = .ok (.aload_n 0, 1) := by decide +kernel
theorem dd_O_seal_1 : decode cc_O_seal 1 = .ok (.getfield 48, 3) := by decide +kernel
theorem dd_O_seal_4 : decode cc_O_seal 4 = .ok (.iconst 1, 1) := by decide +kernel
theorem dd_O_seal_5 : decode cc_O_seal 5 = .ok (.if_icmp .ne (22), 3) := by decide +kernel
theorem dd_O_seal_8 : decode cc_O_seal 8 = .ok (.aload_n 0, 1) := by decide +kernel
theorem dd_O_seal_9 : decode cc_O_seal 9 = .ok (.iload_n 1, 1) := by decide +kernel
theorem dd_O_seal_10 : decode cc_O_seal 10 = .ok (.invokevirtual 74, 3) := by decide +kernel
theorem dd_O_seal_13 : decode cc_O_seal 13 = .ok (.ifCond .eq (14), 3) := by decide +kernel
theorem dd_O_seal_16 : decode cc_O_seal 16 = .ok (.iload_n 2, 1) := by decide +kernel
theorem dd_O_seal_17 : decode cc_O_seal 17 = .ok (.aload_n 0, 1) := by decide +kernel
theorem dd_O_seal_18 : decode cc_O_seal 18 = .ok (.getfield 35, 3) := by decide +kernel
theorem dd_O_seal_21 : decode cc_O_seal 21 = .ok (.invokestatic 77, 3) := by decide +kernel
theorem dd_O_seal_24 : decode cc_O_seal 24 = .ok (.ifCond .ne (5), 3) := by decide +kernel
theorem dd_O_seal_27 : decode cc_O_seal 27 = .ok (.iconst 0, 1) := by decide +kernel
theorem dd_O_seal_28 : decode cc_O_seal 28 = .ok (.ireturn, 1) := by decide +kernel
theorem dd_O_seal_29 : decode cc_O_seal 29 = .ok (.aload_n 0, 1) := by decide +kernel
theorem dd_O_seal_30 : decode cc_O_seal 30 = .ok (.getfield 11, 3) := by decide +kernel
theorem dd_O_seal_33 : decode cc_O_seal 33 = .ok (.iload_n 1, 1) := by decide +kernel
theorem dd_O_seal_34 : decode cc_O_seal 34 = .ok (.aaload, 1) := by decide +kernel
theorem dd_O_seal_35 : decode cc_O_seal 35 = .ok (.astore 7, 2) := by decide +kernel
theorem dd_O_seal_37 : decode cc_O_seal 37 = .ok (.aload 7, 2) := by decide +kernel
theorem dd_O_seal_39 : decode cc_O_seal 39 = .ok (.getfield 81, 3) := by decide +kernel
theorem dd_O_seal_42 : decode cc_O_seal 42 = .ok (.ifCond .eq (5), 3) := by decide +kernel
theorem dd_O_seal_45 : decode cc_O_seal 45 = .ok (.iconst 0, 1) := by decide +kernel
theorem dd_O_seal_46 : decode cc_O_seal 46 = .ok (.ireturn, 1) := by decide +kernel
theorem dd_O_seal_47 : decode cc_O_seal 47 = .ok (.aload 7, 2) := by decide +kernel
theorem dd_O_seal_49 : decode cc_O_seal 49 = .ok (.getfield 85, 3) := by decide +kernel
theorem dd_O_seal_52 : decode cc_O_seal 52 = .ok (.iload_n 2, 1) := by decide +kernel
theorem dd_O_seal_53 : decode cc_O_seal 53 = .ok (.lload_n 3, 1) := by decide +kernel
theorem dd_O_seal_54 : decode cc_O_seal 54 = .ok (.lload 5, 2) := by decide +kernel
theorem dd_O_seal_56 : decode cc_O_seal 56 = .ok (.invokevirtual 89, 3) := by decide +kernel
theorem dd_O_seal_59 : decode cc_O_seal 59 = .ok (.aload 7, 2) := by decide +kernel
theorem dd_O_seal_61 : decode cc_O_seal 61 = .ok (.aload 7, 2) := by decide +kernel
theorem dd_O_seal_63 : decode cc_O_seal 63 = .ok (.getfield 85, 3) := by decide +kernel
theorem dd_O_seal_66 : decode cc_O_seal 66 = .ok (.invokevirtual 95, 3) := by decide +kernel
theorem dd_O_seal_69 : decode cc_O_seal 69 = .ok (.putfield 99, 3) := by decide +kernel
theorem dd_O_seal_72 : decode cc_O_seal 72 = .ok (.aload 7, 2) := by decide +kernel
theorem dd_O_seal_74 : decode cc_O_seal 74 = .ok (.iconst 1, 1) := by decide +kernel
theorem dd_O_seal_75 : decode cc_O_seal 75 = .ok (.putfield 81, 3) := by decide +kernel
theorem dd_O_seal_78 : decode cc_O_seal 78 = .ok (.lload 5, 2) := by decide +kernel
theorem dd_O_seal_80 : decode cc_O_seal 80 = .ok (.aload_n 0, 1) := by decide +kernel
theorem dd_O_seal_81 : decode cc_O_seal 81 = .ok (.getfield 35, 3) := by decide +kernel
theorem dd_O_seal_84 : decode cc_O_seal 84 = .ok (.aload 7, 2) := by decide +kernel
theorem dd_O_seal_86 : decode cc_O_seal 86 = .ok (.getfield 102, 3) := by decide +kernel
theorem dd_O_seal_89 : decode cc_O_seal 89 = .ok (.invokestatic 105, 3) := by decide +kernel
theorem dd_O_seal_92 : decode cc_O_seal 92 = .ok (.aload_n 0, 1) := by decide +kernel
theorem dd_O_seal_93 : decode cc_O_seal 93 = .ok (.invokevirtual 111, 3) := by decide +kernel
theorem dd_O_seal_96 : decode cc_O_seal 96 = .ok (.ifCond .eq (8), 3) := by decide +kernel
theorem dd_O_seal_99 : decode cc_O_seal 99 = .ok (.aload_n 0, 1) := by decide +kernel
theorem dd_O_seal_100 : decode cc_O_seal 100 = .ok (.iconst 2, 1) := by decide +kernel
theorem dd_O_seal_101 : decode cc_O_seal 101 = .ok (.putfield 48, 3) := by decide +kernel
theorem dd_O_seal_104 : decode cc_O_seal 104 = .ok (.iconst 1, 1) := by decide +kernel
theorem dd_O_seal_105 : decode cc_O_seal 105 = .ok (.ireturn, 1) := by decide +kernel
theorem dd_O_sealOf_0 : decode cc_O_sealOf 0 = .ok (.aload_n 0, 1) := by decide +kernel
theorem dd_O_sealOf_1 : decode cc_O_sealOf 1 = .ok (.iload_n 1, 1) := by decide +kernel
theorem dd_O_sealOf_2 : decode cc_O_sealOf 2 = .ok (.invokevirtual 74, 3) := by decide +kernel
theorem dd_O_sealOf_5 : decode cc_O_sealOf 5 = .ok (.ifCond .eq (15), 3) := by decide +kernel
theorem dd_O_sealOf_8 : decode cc_O_sealOf 8 = .ok (.aload_n 0, 1) := by decide +kernel
theorem dd_O_sealOf_9 : decode cc_O_sealOf 9 = .ok (.getfield 11, 3) := by decide +kernel
theorem dd_O_sealOf_12 : decode cc_O_sealOf 12 = .ok (.iload_n 1, 1) := by decide +kernel
theorem dd_O_sealOf_13 : decode cc_O_sealOf 13 = .ok (.aaload, 1) := by decide +kernel
theorem dd_O_sealOf_14 : decode cc_O_sealOf 14 = .ok (.getfield 81, 3) := by decide +kernel
theorem dd_O_sealOf_17 : decode cc_O_sealOf 17 = .ok (.ifCond .ne (13), 3) := by decide +kernel
theorem dd_O_sealOf_20 : decode cc_O_sealOf 20 = .ok (.new 115, 3) := by decide +kernel
theorem dd_O_sealOf_23 : decode cc_O_sealOf 23 = .ok (.dup, 1) := by decide +kernel
theorem dd_O_sealOf_24 : decode cc_O_sealOf 24 = .ok (.ldc 117, 2) := by decide +kernel
theorem dd_O_sealOf_26 : decode cc_O_sealOf 26 = .ok (.invokespecial 119, 3) := by decide +kernel
theorem dd_O_sealOf_29 : decode cc_O_sealOf 29 = .ok (.athrow, 1) := by decide +kernel
theorem dd_O_sealOf_30 : decode cc_O_sealOf 30 = .ok (.aload_n 0, 1) := by decide +kernel
theorem dd_O_sealOf_31 : decode cc_O_sealOf 31 = .ok (.getfield 11, 3) := by decide +kernel
theorem dd_O_sealOf_34 : decode cc_O_sealOf 34 = .ok (.iload_n 1, 1) := by decide +kernel
theorem dd_O_sealOf_35 : decode cc_O_sealOf 35 = .ok (.aaload, 1) := by decide +kernel
theorem dd_O_sealOf_36 : decode cc_O_sealOf 36 = .ok (.getfield 99, 3) := by decide +kernel
theorem dd_O_sealOf_39 : decode cc_O_sealOf 39 = .ok (.lreturn, 1) := by decide +kernel
theorem dd_O_turn_0 : decode cc_O_turn 0 = .ok (.aload_n 0, 1) := by decide +kernel
theorem dd_O_turn_1 : decode cc_O_turn 1 = .ok (.invokevirtual 122, 3) := by decide +kernel
theorem dd_O_turn_4 : decode cc_O_turn 4 = .ok (.istore_n 2, 1) := by decide +kernel
theorem dd_O_turn_5 : decode cc_O_turn 5 = .ok (.iload_n 2, 1) := by decide +kernel
theorem dd_O_turn_6 : decode cc_O_turn 6 = .ok (.iconst (-1), 1) := by decide +kernel
theorem dd_O_turn_7 : decode cc_O_turn 7 = .ok (.if_icmp .eq (8), 3) := by decide +kernel
theorem dd_O_turn_10 : decode cc_O_turn 10 = .ok (.iload_n 1, 1) := by decide +kernel
theorem dd_O_turn_11 : decode cc_O_turn 11 = .ok (.iload_n 2, 1) := by decide +kernel
theorem dd_O_turn_12 : decode cc_O_turn 12 = .ok (.if_icmp .eq (5), 3) := by decide +kernel
theorem dd_O_turn_15 : decode cc_O_turn 15 = .ok (.iconst 0, 1) := by decide +kernel
theorem dd_O_turn_16 : decode cc_O_turn 16 = .ok (.ireturn, 1) := by decide +kernel
theorem dd_O_turn_17 : decode cc_O_turn 17 = .ok (.aload_n 0, 1) := by decide +kernel
theorem dd_O_turn_18 : decode cc_O_turn 18 = .ok (.getfield 11, 3) := by decide +kernel
theorem dd_O_turn_21 : decode cc_O_turn 21 = .ok (.iload_n 1, 1) := by decide +kernel
theorem dd_O_turn_22 : decode cc_O_turn 22 = .ok (.aaload, 1) := by decide +kernel
theorem dd_O_turn_23 : decode cc_O_turn 23 = .ok (.astore_n 3, 1) := by decide +kernel
theorem dd_O_turn_24 : decode cc_O_turn 24 = .ok (.aload_n 0, 1) := by decide +kernel
theorem dd_O_turn_25 : decode cc_O_turn 25 = .ok (.getfield 18, 3) := by decide +kernel
theorem dd_O_turn_28 : decode cc_O_turn 28 = .ok (.aload_n 0, 1) := by decide +kernel
theorem dd_O_turn_29 : decode cc_O_turn 29 = .ok (.getfield 54, 3) := by decide +kernel
theorem dd_O_turn_32 : decode cc_O_turn 32 = .ok (.iconst 1, 1) := by decide +kernel
theorem dd_O_turn_33 : decode cc_O_turn 33 = .ok (.iadd, 1) := by decide +kernel
theorem dd_O_turn_34 : decode cc_O_turn 34 = .ok (.aaload, 1) := by decide +kernel
theorem dd_O_turn_35 : decode cc_O_turn 35 = .ok (.astore 4, 2) := by decide +kernel
theorem dd_O_turn_37 : decode cc_O_turn 37 = .ok (.aload_n 0, 1) := by decide +kernel
theorem dd_O_turn_38 : decode cc_O_turn 38 = .ok (.aload_n 0, 1) := by decide +kernel
theorem dd_O_turn_39 : decode cc_O_turn 39 = .ok (.getfield 54, 3) := by decide +kernel
theorem dd_O_turn_42 : decode cc_O_turn 42 = .ok (.aload_n 3, 1) := by decide +kernel
theorem dd_O_turn_43 : decode cc_O_turn 43 = .ok (.getfield 85, 3) := by decide +kernel
theorem dd_O_turn_46 : decode cc_O_turn 46 = .ok (.aload 4, 2) := by decide +kernel
theorem dd_O_turn_48 : decode cc_O_turn 48 = .ok (.invokevirtual 125, 3) := by decide +kernel
theorem dd_O_turn_51 : decode cc_O_turn 51 = .ok (.aload_n 0, 1) := by decide +kernel
theorem dd_O_turn_52 : decode cc_O_turn 52 = .ok (.aload 4, 2) := by decide +kernel
theorem dd_O_turn_54 : decode cc_O_turn 54 = .ok (.aload_n 3, 1) := by decide +kernel
theorem dd_O_turn_55 : decode cc_O_turn 55 = .ok (.aload_n 0, 1) := by decide +kernel
theorem dd_O_turn_56 : decode cc_O_turn 56 = .ok (.getfield 48, 3) := by decide +kernel
theorem dd_O_turn_59 : decode cc_O_turn 59 = .ok (.iconst 2, 1) := by decide +kernel
theorem dd_O_turn_60 : decode cc_O_turn 60 = .ok (.if_icmp .ne (7), 3) := by decide +kernel
theorem dd_O_turn_63 : decode cc_O_turn 63 = .ok (.iconst 0, 1) := by decide +kernel
theorem dd_O_turn_64 : decode cc_O_turn 64 = .ok (.goto (4), 3) := by decide +kernel
theorem dd_O_turn_67 : decode cc_O_turn 67 = .ok (.iconst 1, 1) := by decide +kernel
theorem dd_O_turn_68 : decode cc_O_turn 68 = .ok (.invokevirtual 129, 3) := by decide +kernel
theorem dd_O_turn_71 : decode cc_O_turn 71 = .ok (.aload_n 0, 1) := by decide +kernel
theorem dd_O_turn_72 : decode cc_O_turn 72 = .ok (.dup, 1) := by decide +kernel
theorem dd_O_turn_73 : decode cc_O_turn 73 = .ok (.getfield 54, 3) := by decide +kernel
theorem dd_O_turn_76 : decode cc_O_turn 76 = .ok (.iconst 1, 1) := by decide +kernel
theorem dd_O_turn_77 : decode cc_O_turn 77 = .ok (.iadd, 1) := by decide +kernel
theorem dd_O_turn_78 : decode cc_O_turn 78 = .ok (.putfield 54, 3) := by decide +kernel
theorem dd_O_turn_81 : decode cc_O_turn 81 = .ok (.aload_n 0, 1) := by decide +kernel
theorem dd_O_turn_82 : decode cc_O_turn 82 = .ok (.getfield 54, 3) := by decide +kernel
theorem dd_O_turn_85 : decode cc_O_turn 85 = .ok (.aload_n 0, 1) := by decide +kernel
theorem dd_O_turn_86 : decode cc_O_turn 86 = .ok (.getfield 51, 3) := by decide +kernel
theorem dd_O_turn_89 : decode cc_O_turn 89 = .ok (.if_icmp .ne (11), 3) := by decide +kernel
theorem dd_O_turn_92 : decode cc_O_turn 92 = .ok (.aload_n 0, 1) := by decide +kernel
theorem dd_O_turn_93 : decode cc_O_turn 93 = .ok (.iconst 3, 1) := by decide +kernel
theorem dd_O_turn_94 : decode cc_O_turn 94 = .ok (.putfield 48, 3) := by decide +kernel
theorem dd_O_turn_97 : decode cc_O_turn 97 = .ok (.goto (21), 3) := by decide +kernel
theorem dd_O_turn_100 : decode cc_O_turn 100 = .ok (.aload_n 0, 1) := by decide +kernel
theorem dd_O_turn_101 : decode cc_O_turn 101 = .ok (.getfield 54, 3) := by decide +kernel
theorem dd_O_turn_104 : decode cc_O_turn 104 = .ok (.iconst 2, 1) := by decide +kernel
theorem dd_O_turn_105 : decode cc_O_turn 105 = .ok (.aload_n 0, 1) := by decide +kernel
theorem dd_O_turn_106 : decode cc_O_turn 106 = .ok (.getfield 51, 3) := by decide +kernel
theorem dd_O_turn_109 : decode cc_O_turn 109 = .ok (.imul, 1) := by decide +kernel
theorem dd_O_turn_110 : decode cc_O_turn 110 = .ok (.if_icmp .ne (8), 3) := by decide +kernel
theorem dd_O_turn_113 : decode cc_O_turn 113 = .ok (.aload_n 0, 1) := by decide +kernel
theorem dd_O_turn_114 : decode cc_O_turn 114 = .ok (.iconst 4, 1) := by decide +kernel
theorem dd_O_turn_115 : decode cc_O_turn 115 = .ok (.putfield 48, 3) := by decide +kernel
theorem dd_O_turn_118 : decode cc_O_turn 118 = .ok (.iconst 1, 1) := by decide +kernel
theorem dd_O_turn_119 : decode cc_O_turn 119 = .ok (.ireturn, 1) := by decide +kernel
theorem dd_O_laid_0 : decode cc_O_laid 0 = .ok (.aload_n 0, 1) := by decide +kernel
theorem dd_O_laid_1 : decode cc_O_laid 1 = .ok (.getfield 35, 3) := by decide +kernel
theorem dd_O_laid_4 : decode cc_O_laid 4 = .ok (.ifCond .eq (10), 3) := by decide +kernel
theorem dd_O_laid_7 : decode cc_O_laid 7 = .ok (.iload_n 1, 1) := by decide +kernel
theorem dd_O_laid_8 : decode cc_O_laid 8 = .ok (.invokestatic 133, 3) := by decide +kernel
theorem dd_O_laid_11 : decode cc_O_laid 11 = .ok (.ifCond .ne (13), 3) := by decide +kernel
theorem dd_O_laid_14 : decode cc_O_laid 14 = .ok (.new 115, 3) := by decide +kernel
theorem dd_O_laid_17 : decode cc_O_laid 17 = .ok (.dup, 1) := by decide +kernel
theorem dd_O_laid_18 : decode cc_O_laid 18 = .ok (.ldc 136, 2) := by decide +kernel
theorem dd_O_laid_20 : decode cc_O_laid 20 = .ok (.invokespecial 119, 3) := by decide +kernel
theorem dd_O_laid_23 : decode cc_O_laid 23 = .ok (.athrow, 1) := by decide +kernel
theorem dd_O_laid_24 : decode cc_O_laid 24 = .ok (.aload_n 0, 1) := by decide +kernel
theorem dd_O_laid_25 : decode cc_O_laid 25 = .ok (.getfield 18, 3) := by decide +kernel
theorem dd_O_laid_28 : decode cc_O_laid 28 = .ok (.aload_n 0, 1) := by decide +kernel
theorem dd_O_laid_29 : decode cc_O_laid 29 = .ok (.getfield 54, 3) := by decide +kernel
theorem dd_O_laid_32 : decode cc_O_laid 32 = .ok (.aaload, 1) := by decide +kernel
theorem dd_O_laid_33 : decode cc_O_laid 33 = .ok (.iload_n 1, 1) := by decide +kernel
theorem dd_O_laid_34 : decode cc_O_laid 34 = .ok (.iaload, 1) := by decide +kernel
theorem dd_O_laid_35 : decode cc_O_laid 35 = .ok (.ireturn, 1) := by decide +kernel
theorem dd_O_assign_0 : decode cc_O_assign 0 = .ok (.aload_n 0, 1) := by decide +kernel
theorem dd_O_assign_1 : decode cc_O_assign 1 = .ok (.getfield 48, 3) := by decide +kernel
theorem dd_O_assign_4 : decode cc_O_assign 4 = .ok (.iconst 4, 1) := by decide +kernel
theorem dd_O_assign_5 : decode cc_O_assign 5 = .ok (.if_icmp .ne (21), 3) := by decide +kernel
theorem dd_O_assign_8 : decode cc_O_assign 8 = .ok (.iload_n 1, 1) := by decide +kernel
theorem dd_O_assign_9 : decode cc_O_assign 9 = .ok (.invokestatic 133, 3) := by decide +kernel
theorem dd_O_assign_12 : decode cc_O_assign 12 = .ok (.ifCond .eq (14), 3) := by decide +kernel
theorem dd_O_assign_15 : decode cc_O_assign 15 = .ok (.aload_n 0, 1) := by decide +kernel
theorem dd_O_assign_16 : decode cc_O_assign 16 = .ok (.getfield 21, 3) := by decide +kernel
theorem dd_O_assign_19 : decode cc_O_assign 19 = .ok (.iload_n 1, 1) := by decide +kernel
theorem dd_O_assign_20 : decode cc_O_assign 20 = .ok (.iaload, 1) := by decide +kernel
theorem dd_O_assign_21 : decode cc_O_assign 21 = .ok (.bipush (-2), 2) := by decide +kernel
theorem dd_O_assign_23 : decode cc_O_assign 23 = .ok (.if_icmp .eq (5), 3) := by decide +kernel
theorem dd_O_assign_26 : decode cc_O_assign 26 = .ok (.iconst 0, 1) := by decide +kernel
theorem dd_O_assign_27 : decode cc_O_assign 27 = .ok (.ireturn, 1) := by decide +kernel
theorem dd_O_assign_28 : decode cc_O_assign 28 = .ok (.iload_n 2, 1) := by decide +kernel
theorem dd_O_assign_29 : decode cc_O_assign 29 = .ok (.iconst (-1), 1) := by decide +kernel
theorem dd_O_assign_30 : decode cc_O_assign 30 = .ok (.if_icmp .eq (13), 3) := by decide +kernel
theorem dd_O_assign_33 : decode cc_O_assign 33 = .ok (.aload_n 0, 1) := by decide +kernel
theorem dd_O_assign_34 : decode cc_O_assign 34 = .ok (.iload_n 2, 1) := by decide +kernel
theorem dd_O_assign_35 : decode cc_O_assign 35 = .ok (.invokevirtual 74, 3) := by decide +kernel
theorem dd_O_assign_38 : decode cc_O_assign 38 = .ok (.ifCond .ne (5), 3) := by decide +kernel
theorem dd_O_assign_41 : decode cc_O_assign 41 = .ok (.iconst 0, 1) := by decide +kernel
theorem dd_O_assign_42 : decode cc_O_assign 42 = .ok (.ireturn, 1) := by decide +kernel
theorem dd_O_assign_43 : decode cc_O_assign 43 = .ok (.aload_n 0, 1) := by decide +kernel
theorem dd_O_assign_44 : decode cc_O_assign 44 = .ok (.getfield 21, 3) := by decide +kernel
theorem dd_O_assign_47 : decode cc_O_assign 47 = .ok (.iload_n 1, 1) := by decide +kernel
theorem dd_O_assign_48 : decode cc_O_assign 48 = .ok (.iload_n 2, 1) := by decide +kernel
theorem dd_O_assign_49 : decode cc_O_assign 49 = .ok (.iastore, 1) := by decide +kernel
theorem dd_O_assign_50 : decode cc_O_assign 50 = .ok (.iconst 1, 1) := by decide +kernel
theorem dd_O_assign_51 : decode cc_O_assign 51 = .ok (.ireturn, 1) := by decide +kernel
theorem dd_O_give_0 : decode cc_O_give 0 = .ok (.aload_n 0, 1) := by decide +kernel
theorem dd_O_give_1 : decode cc_O_give 1 = .ok (.getfield 48, 3) := by decide +kernel
theorem dd_O_give_4 : decode cc_O_give 4 = .ok (.iconst 4, 1) := by decide +kernel
theorem dd_O_give_5 : decode cc_O_give 5 = .ok (.if_icmp .ne (18), 3) := by decide +kernel
theorem dd_O_give_8 : decode cc_O_give 8 = .ok (.aload_n 0, 1) := by decide +kernel
theorem dd_O_give_9 : decode cc_O_give 9 = .ok (.iload_n 1, 1) := by decide +kernel
theorem dd_O_give_10 : decode cc_O_give 10 = .ok (.invokevirtual 74, 3) := by decide +kernel
theorem dd_O_give_13 : decode cc_O_give 13 = .ok (.ifCond .eq (10), 3) := by decide +kernel
theorem dd_O_give_16 : decode cc_O_give 16 = .ok (.iload_n 2, 1) := by decide +kernel
theorem dd_O_give_17 : decode cc_O_give 17 = .ok (.invokestatic 133, 3) := by decide +kernel
theorem dd_O_give_20 : decode cc_O_give 20 = .ok (.ifCond .ne (5), 3) := by decide +kernel
theorem dd_O_give_23 : decode cc_O_give 23 = .ok (.iconst 0, 1) := by decide +kernel
theorem dd_O_give_24 : decode cc_O_give 24 = .ok (.ireturn, 1) := by decide +kernel
theorem dd_O_give_25 : decode cc_O_give 25 = .ok (.aload_n 0, 1) := by decide +kernel
theorem dd_O_give_26 : decode cc_O_give 26 = .ok (.getfield 11, 3) := by decide +kernel
theorem dd_O_give_29 : decode cc_O_give 29 = .ok (.iload_n 1, 1) := by decide +kernel
theorem dd_O_give_30 : decode cc_O_give 30 = .ok (.aaload, 1) := by decide +kernel
theorem dd_O_give_31 : decode cc_O_give 31 = .ok (.astore_n 3, 1) := by decide +kernel
theorem dd_O_give_32 : decode cc_O_give 32 = .ok (.aload_n 0, 1) := by decide +kernel
theorem dd_O_give_33 : decode cc_O_give 33 = .ok (.getfield 21, 3) := by decide +kernel
theorem dd_O_give_36 : decode cc_O_give 36 = .ok (.iload_n 2, 1) := by decide +kernel
theorem dd_O_give_37 : decode cc_O_give 37 = .ok (.iaload, 1) := by decide +kernel
theorem dd_O_give_38 : decode cc_O_give 38 = .ok (.bipush (-2), 2) := by decide +kernel
theorem dd_O_give_40 : decode cc_O_give 40 = .ok (.if_icmp .eq (21), 3) := by decide +kernel
theorem dd_O_give_43 : decode cc_O_give 43 = .ok (.aload_n 0, 1) := by decide +kernel
theorem dd_O_give_44 : decode cc_O_give 44 = .ok (.getfield 21, 3) := by decide +kernel
theorem dd_O_give_47 : decode cc_O_give 47 = .ok (.iload_n 2, 1) := by decide +kernel
theorem dd_O_give_48 : decode cc_O_give 48 = .ok (.iaload, 1) := by decide +kernel
theorem dd_O_give_49 : decode cc_O_give 49 = .ok (.iload_n 1, 1) := by decide +kernel
theorem dd_O_give_50 : decode cc_O_give 50 = .ok (.if_icmp .eq (11), 3) := by decide +kernel
theorem dd_O_give_53 : decode cc_O_give 53 = .ok (.aload_n 3, 1) := by decide +kernel
theorem dd_O_give_54 : decode cc_O_give 54 = .ok (.iload_n 2, 1) := by decide +kernel
theorem dd_O_give_55 : decode cc_O_give 55 = .ok (.invokevirtual 138, 3) := by decide +kernel
theorem dd_O_give_58 : decode cc_O_give 58 = .ok (.ifCond .eq (5), 3) := by decide +kernel
theorem dd_O_give_61 : decode cc_O_give 61 = .ok (.iconst 0, 1) := by decide +kernel
theorem dd_O_give_62 : decode cc_O_give 62 = .ok (.ireturn, 1) := by decide +kernel
theorem dd_O_give_63 : decode cc_O_give 63 = .ok (.aload_n 3, 1) := by decide +kernel
theorem dd_O_give_64 : decode cc_O_give 64 = .ok (.getfield 102, 3) := by decide +kernel
theorem dd_O_give_67 : decode cc_O_give 67 = .ok (.iload_n 2, 1) := by decide +kernel
theorem dd_O_give_68 : decode cc_O_give 68 = .ok (.iaload, 1) := by decide +kernel
theorem dd_O_give_69 : decode cc_O_give 69 = .ok (.istore 4, 2) := by decide +kernel
theorem dd_O_give_71 : decode cc_O_give 71 = .ok (.aload_n 3, 1) := by decide +kernel
theorem dd_O_give_72 : decode cc_O_give 72 = .ok (.getfield 141, 3) := by decide +kernel
theorem dd_O_give_75 : decode cc_O_give 75 = .ok (.iload_n 2, 1) := by decide +kernel
theorem dd_O_give_76 : decode cc_O_give 76 = .ok (.aload_n 3, 1) := by decide +kernel
theorem dd_O_give_77 : decode cc_O_give 77 = .ok (.iconst 2, 1) := by decide +kernel
theorem dd_O_give_78 : decode cc_O_give 78 = .ok (.iload_n 2, 1) := by decide +kernel
theorem dd_O_give_79 : decode cc_O_give 79 = .ok (.invokevirtual 144, 3) := by decide +kernel
theorem dd_O_give_82 : decode cc_O_give 82 = .ok (.ifCond .eq (15), 3) := by decide +kernel
theorem dd_O_give_85 : decode cc_O_give 85 = .ok (.iload 4, 2) := by decide +kernel
theorem dd_O_give_87 : decode cc_O_give 87 = .ok (.aload_n 0, 1) := by decide +kernel
theorem dd_O_give_88 : decode cc_O_give 88 = .ok (.getfield 35, 3) := by decide +kernel
theorem dd_O_give_91 : decode cc_O_give 91 = .ok (.invokestatic 147, 3) := by decide +kernel
theorem dd_O_give_94 : decode cc_O_give 94 = .ok (.goto (5), 3) := by decide +kernel
theorem dd_O_give_97 : decode cc_O_give 97 = .ok (.iload 4, 2) := by decide +kernel
theorem dd_O_give_99 : decode cc_O_give 99 = .ok (.iastore, 1) := by decide +kernel
theorem dd_O_give_100 : decode cc_O_give 100 = .ok (.iconst 1, 1) := by decide +kernel
theorem dd_O_give_101 : decode cc_O_give 101 = .ok (.ireturn, 1) := by decide +kernel
theorem dd_O_open_0 : decode cc_O_open 0 = .ok (.aload_n 0, 1) := by decide +kernel
theorem dd_O_open_1 : decode cc_O_open 1 = .ok (.getfield 48, 3) := by decide +kernel
theorem dd_O_open_4 : decode cc_O_open 4 = .ok (.iconst 4, 1) := by decide +kernel
theorem dd_O_open_5 : decode cc_O_open 5 = .ok (.if_icmp .lt (27), 3) := by decide +kernel
theorem dd_O_open_8 : decode cc_O_open 8 = .ok (.aload_n 0, 1) := by decide +kernel
theorem dd_O_open_9 : decode cc_O_open 9 = .ok (.iload_n 1, 1) := by decide +kernel
theorem dd_O_open_10 : decode cc_O_open 10 = .ok (.invokevirtual 74, 3) := by decide +kernel
theorem dd_O_open_13 : decode cc_O_open 13 = .ok (.ifCond .eq (19), 3) := by decide +kernel
theorem dd_O_open_16 : decode cc_O_open 16 = .ok (.iload_n 2, 1) := by decide +kernel
theorem dd_O_open_17 : decode cc_O_open 17 = .ok (.invokestatic 133, 3) := by decide +kernel
theorem dd_O_open_20 : decode cc_O_open 20 = .ok (.ifCond .eq (12), 3) := by decide +kernel
theorem dd_O_open_23 : decode cc_O_open 23 = .ok (.aload_n 0, 1) := by decide +kernel
theorem dd_O_open_24 : decode cc_O_open 24 = .ok (.iload_n 1, 1) := by decide +kernel
theorem dd_O_open_25 : decode cc_O_open 25 = .ok (.iload_n 2, 1) := by decide +kernel
theorem dd_O_open_26 : decode cc_O_open 26 = .ok (.invokevirtual 150, 3) := by decide +kernel
theorem dd_O_open_29 : decode cc_O_open 29 = .ok (.ifCond .ne (5), 3) := by decide +kernel
theorem dd_O_open_32 : decode cc_O_open 32 = .ok (.iconst (-1), 1) := by decide +kernel
theorem dd_O_open_33 : decode cc_O_open 33 = .ok (.ireturn, 1) := by decide +kernel
theorem dd_O_open_34 : decode cc_O_open 34 = .ok (.aload_n 0, 1) := by decide +kernel
theorem dd_O_open_35 : decode cc_O_open 35 = .ok (.getfield 18, 3) := by decide +kernel
theorem dd_O_open_38 : decode cc_O_open 38 = .ok (.aload_n 0, 1) := by decide +kernel
theorem dd_O_open_39 : decode cc_O_open 39 = .ok (.getfield 54, 3) := by decide +kernel
theorem dd_O_open_42 : decode cc_O_open 42 = .ok (.aaload, 1) := by decide +kernel
theorem dd_O_open_43 : decode cc_O_open 43 = .ok (.iload_n 2, 1) := by decide +kernel
theorem dd_O_open_44 : decode cc_O_open 44 = .ok (.iaload, 1) := by decide +kernel
theorem dd_O_open_45 : decode cc_O_open 45 = .ok (.istore_n 3, 1) := by decide +kernel
theorem dd_O_open_46 : decode cc_O_open 46 = .ok (.iconst 0, 1) := by decide +kernel
theorem dd_O_open_47 : decode cc_O_open 47 = .ok (.istore 4, 2) := by decide +kernel
theorem dd_O_open_49 : decode cc_O_open 49 = .ok (.iload 4, 2) := by decide +kernel
theorem dd_O_open_51 : decode cc_O_open 51 = .ok (.aload_n 0, 1) := by decide +kernel
theorem dd_O_open_52 : decode cc_O_open 52 = .ok (.getfield 51, 3) := by decide +kernel
theorem dd_O_open_55 : decode cc_O_open 55 = .ok (.if_icmp .ge (64), 3) := by decide +kernel
theorem dd_O_open_58 : decode cc_O_open 58 = .ok (.aload_n 0, 1) := by decide +kernel
theorem dd_O_open_59 : decode cc_O_open 59 = .ok (.getfield 11, 3) := by decide +kernel
theorem dd_O_open_62 : decode cc_O_open 62 = .ok (.iload 4, 2) := by decide +kernel
theorem dd_O_open_64 : decode cc_O_open 64 = .ok (.aaload, 1) := by decide +kernel
theorem dd_O_open_65 : decode cc_O_open 65 = .ok (.astore 5, 2) := by decide +kernel
theorem dd_O_open_67 : decode cc_O_open 67 = .ok (.aload 5, 2) := by decide +kernel
theorem dd_O_open_69 : decode cc_O_open 69 = .ok (.iload_n 2, 1) := by decide +kernel
theorem dd_O_open_70 : decode cc_O_open 70 = .ok (.invokevirtual 138, 3) := by decide +kernel
theorem dd_O_open_73 : decode cc_O_open 73 = .ok (.ifCond .eq (13), 3) := by decide +kernel
theorem dd_O_open_76 : decode cc_O_open 76 = .ok (.aload 5, 2) := by decide +kernel
theorem dd_O_open_78 : decode cc_O_open 78 = .ok (.getfield 141, 3) := by decide +kernel
theorem dd_O_open_81 : decode cc_O_open 81 = .ok (.iload_n 2, 1) := by decide +kernel
theorem dd_O_open_82 : decode cc_O_open 82 = .ok (.iaload, 1) := by decide +kernel
theorem dd_O_open_83 : decode cc_O_open 83 = .ok (.goto (10), 3) := by decide +kernel
theorem dd_O_open_86 : decode cc_O_open 86 = .ok (.aload 5, 2) := by decide +kernel
theorem dd_O_open_88 : decode cc_O_open 88 = .ok (.getfield 102, 3) := by decide +kernel
theorem dd_O_open_91 : decode cc_O_open 91 = .ok (.iload_n 2, 1) := by decide +kernel
theorem dd_O_open_92 : decode cc_O_open 92 = .ok (.iaload, 1) := by decide +kernel
theorem dd_O_open_93 : decode cc_O_open 93 = .ok (.istore 6, 2) := by decide +kernel
theorem dd_O_open_95 : decode cc_O_open 95 = .ok (.iload_n 3, 1) := by decide +kernel
theorem dd_O_open_96 : decode cc_O_open 96 = .ok (.iload 6, 2) := by decide +kernel
theorem dd_O_open_98 : decode cc_O_open 98 = .ok (.aload_n 0, 1) := by decide +kernel
theorem dd_O_open_99 : decode cc_O_open 99 = .ok (.getfield 35, 3) := by decide +kernel
theorem dd_O_open_102 : decode cc_O_open 102 = .ok (.invokestatic 153, 3) := by decide +kernel
theorem dd_O_open_105 : decode cc_O_open 105 = .ok (.aload_n 0, 1) := by decide +kernel
theorem dd_O_open_106 : decode cc_O_open 106 = .ok (.getfield 35, 3) := by decide +kernel
theorem dd_O_open_109 : decode cc_O_open 109 = .ok (.invokestatic 156, 3) := by decide +kernel
theorem dd_O_open_112 : decode cc_O_open 112 = .ok (.istore_n 3, 1) := by decide +kernel
theorem dd_O_open_113 : decode cc_O_open 113 = .ok (.iinc 4 (1), 3) := by decide +kernel
theorem dd_O_open_116 : decode cc_O_open 116 = .ok (.goto (-67), 3) := by decide +kernel
theorem dd_O_open_119 : decode cc_O_open 119 = .ok (.aload_n 0, 1) := by decide +kernel
theorem dd_O_open_120 : decode cc_O_open 120 = .ok (.iload_n 3, 1) := by decide +kernel
theorem dd_O_open_121 : decode cc_O_open 121 = .ok (.invokevirtual 160, 3) := by decide +kernel
theorem dd_O_open_124 : decode cc_O_open 124 = .ok (.ireturn, 1) := by decide +kernel
theorem dd_O_round_0 : decode cc_O_round 0 = .ok (.aload_n 0, 1) := by decide +kernel
theorem dd_O_round_1 : decode cc_O_round 1 = .ok (.getfield 48, 3) := by decide +kernel
theorem dd_O_round_4 : decode cc_O_round 4 = .ok (.iconst 4, 1) := by decide +kernel
theorem dd_O_round_5 : decode cc_O_round 5 = .ok (.if_icmp .ne (11), 3) := by decide +kernel
theorem dd_O_round_8 : decode cc_O_round 8 = .ok (.aload_n 0, 1) := by decide +kernel
theorem dd_O_round_9 : decode cc_O_round 9 = .ok (.getfield 31, 3) := by decide +kernel
theorem dd_O_round_12 : decode cc_O_round 12 = .ok (.iconst (-1), 1) := by decide +kernel
theorem dd_O_round_13 : decode cc_O_round 13 = .ok (.if_icmp .eq (5), 3) := by decide +kernel
theorem dd_O_round_16 : decode cc_O_round 16 = .ok (.iconst 0, 1) := by decide +kernel
theorem dd_O_round_17 : decode cc_O_round 17 = .ok (.ireturn, 1) := by decide +kernel
theorem dd_O_round_18 : decode cc_O_round 18 = .ok (.aload_n 0, 1) := by decide +kernel
theorem dd_O_round_19 : decode cc_O_round 19 = .ok (.invokevirtual 164, 3) := by decide +kernel
theorem dd_O_round_22 : decode cc_O_round 22 = .ok (.aload_n 0, 1) := by decide +kernel
theorem dd_O_round_23 : decode cc_O_round 23 = .ok (.invokevirtual 167, 3) := by decide +kernel
theorem dd_O_round_26 : decode cc_O_round 26 = .ok (.iconst 2, 1) := by decide +kernel
theorem dd_O_round_27 : decode cc_O_round 27 = .ok (.if_icmp .lt (12), 3) := by decide +kernel
theorem dd_O_round_30 : decode cc_O_round 30 = .ok (.aload_n 0, 1) := by decide +kernel
theorem dd_O_round_31 : decode cc_O_round 31 = .ok (.aload_n 0, 1) := by decide +kernel
theorem dd_O_round_32 : decode cc_O_round 32 = .ok (.iconst (-1), 1) := by decide +kernel
theorem dd_O_round_33 : decode cc_O_round 33 = .ok (.invokevirtual 170, 3) := by decide +kernel
theorem dd_O_round_36 : decode cc_O_round 36 = .ok (.putfield 31, 3) := by decide +kernel
theorem dd_O_round_39 : decode cc_O_round 39 = .ok (.iconst 1, 1) := by decide +kernel
theorem dd_O_round_40 : decode cc_O_round 40 = .ok (.ireturn, 1) := by decide +kernel
theorem dd_O_bet_0 : decode cc_O_bet 0 = .ok (.aload_n 0, 1) := by decide +kernel
theorem dd_O_bet_1 : decode cc_O_bet 1 = .ok (.getfield 31, 3) := by decide +kernel
theorem dd_O_bet_4 : decode cc_O_bet 4 = .ok (.iconst (-1), 1) := by decide +kernel
theorem dd_O_bet_5 : decode cc_O_bet 5 = .ok (.if_icmp .eq (11), 3) := by decide +kernel
theorem dd_O_bet_8 : decode cc_O_bet 8 = .ok (.iload_n 1, 1) := by decide +kernel
theorem dd_O_bet_9 : decode cc_O_bet 9 = .ok (.aload_n 0, 1) := by decide +kernel
theorem dd_O_bet_10 : decode cc_O_bet 10 = .ok (.getfield 31, 3) := by decide +kernel
theorem dd_O_bet_13 : decode cc_O_bet 13 = .ok (.if_icmp .eq (5), 3) := by decide +kernel
theorem dd_O_bet_16 : decode cc_O_bet 16 = .ok (.iconst 0, 1) := by decide +kernel
theorem dd_O_bet_17 : decode cc_O_bet 17 = .ok (.ireturn, 1) := by decide +kernel
theorem dd_O_bet_18 : decode cc_O_bet 18 = .ok (.aload_n 0, 1) := by decide +kernel
theorem dd_O_bet_19 : decode cc_O_bet 19 = .ok (.getfield 11, 3) := by decide +kernel
theorem dd_O_bet_22 : decode cc_O_bet 22 = .ok (.aload_n 0, 1) := by decide +kernel
theorem dd_O_bet_23 : decode cc_O_bet 23 = .ok (.getfield 31, 3) := by decide +kernel
theorem dd_O_bet_26 : decode cc_O_bet 26 = .ok (.aaload, 1) := by decide +kernel
theorem dd_O_bet_27 : decode cc_O_bet 27 = .ok (.astore 4, 2) := by decide +kernel
theorem dd_O_bet_29 : decode cc_O_bet 29 = .ok (.aload_n 0, 1) := by decide +kernel
theorem dd_O_bet_30 : decode cc_O_bet 30 = .ok (.invokevirtual 173, 3) := by decide +kernel
theorem dd_O_bet_33 : decode cc_O_bet 33 = .ok (.aload 4, 2) := by decide +kernel
theorem dd_O_bet_35 : decode cc_O_bet 35 = .ok (.getfield 176, 3) := by decide +kernel
theorem dd_O_bet_38 : decode cc_O_bet 38 = .ok (.isub, 1) := by decide +kernel
theorem dd_O_bet_39 : decode cc_O_bet 39 = .ok (.istore 5, 2) := by decide +kernel
theorem dd_O_bet_41 : decode cc_O_bet 41 = .ok (.iload_n 2, 1) := by decide +kernel
theorem dd_O_bet_42 : decode cc_O_bet 42 = .ok (.tableswitch (88) (0) (2) #[26, 35, 53], 26) := by decide +kernel
theorem dd_O_bet_68 : decode cc_O_bet 68 = .ok (.aload 4, 2) := by decide +kernel
theorem dd_O_bet_70 : decode cc_O_bet 70 = .ok (.iconst 1, 1) := by decide +kernel
theorem dd_O_bet_71 : decode cc_O_bet 71 = .ok (.putfield 179, 3) := by decide +kernel
theorem dd_O_bet_74 : decode cc_O_bet 74 = .ok (.goto (58), 3) := by decide +kernel
theorem dd_O_bet_77 : decode cc_O_bet 77 = .ok (.aload 4, 2) := by decide +kernel
theorem dd_O_bet_79 : decode cc_O_bet 79 = .ok (.iload 5, 2) := by decide +kernel
theorem dd_O_bet_81 : decode cc_O_bet 81 = .ok (.aload 4, 2) := by decide +kernel
theorem dd_O_bet_83 : decode cc_O_bet 83 = .ok (.getfield 58, 3) := by decide +kernel
theorem dd_O_bet_86 : decode cc_O_bet 86 = .ok (.invokestatic 182, 3) := by decide +kernel
theorem dd_O_bet_89 : decode cc_O_bet 89 = .ok (.invokevirtual 187, 3) := by decide +kernel
theorem dd_O_bet_92 : decode cc_O_bet 92 = .ok (.goto (40), 3) := by decide +kernel
theorem dd_O_bet_95 : decode cc_O_bet 95 = .ok (.iload_n 3, 1) := by decide +kernel
theorem dd_O_bet_96 : decode cc_O_bet 96 = .ok (.iconst 1, 1) := by decide +kernel
theorem dd_O_bet_97 : decode cc_O_bet 97 = .ok (.if_icmp .lt (15), 3) := by decide +kernel
theorem dd_O_bet_100 : decode cc_O_bet 100 = .ok (.iload_n 3, 1) := by decide +kernel
theorem dd_O_bet_101 : decode cc_O_bet 101 = .ok (.aload 4, 2) := by decide +kernel
theorem dd_O_bet_103 : decode cc_O_bet 103 = .ok (.getfield 58, 3) := by decide +kernel
theorem dd_O_bet_106 : decode cc_O_bet 106 = .ok (.iload 5, 2) := by decide +kernel
theorem dd_O_bet_108 : decode cc_O_bet 108 = .ok (.isub, 1) := by decide +kernel
theorem dd_O_bet_109 : decode cc_O_bet 109 = .ok (.if_icmp .le (5), 3) := by decide +kernel
theorem dd_O_bet_112 : decode cc_O_bet 112 = .ok (.iconst 0, 1) := by decide +kernel
theorem dd_O_bet_113 : decode cc_O_bet 113 = .ok (.ireturn, 1) := by decide +kernel
theorem dd_O_bet_114 : decode cc_O_bet 114 = .ok (.aload 4, 2) := by decide +kernel
theorem dd_O_bet_116 : decode cc_O_bet 116 = .ok (.iload 5, 2) := by decide +kernel
theorem dd_O_bet_118 : decode cc_O_bet 118 = .ok (.iload_n 3, 1) := by decide +kernel
theorem dd_O_bet_119 : decode cc_O_bet 119 = .ok (.iadd, 1) := by decide +kernel
theorem dd_O_bet_120 : decode cc_O_bet 120 = .ok (.invokevirtual 187, 3) := by decide +kernel
theorem dd_O_bet_123 : decode cc_O_bet 123 = .ok (.aload_n 0, 1) := by decide +kernel
theorem dd_O_bet_124 : decode cc_O_bet 124 = .ok (.invokevirtual 164, 3) := by decide +kernel
theorem dd_O_bet_127 : decode cc_O_bet 127 = .ok (.goto (5), 3) := by decide +kernel
theorem dd_O_bet_130 : decode cc_O_bet 130 = .ok (.iconst 0, 1) := by decide +kernel
theorem dd_O_bet_131 : decode cc_O_bet 131 = .ok (.ireturn, 1) := by decide +kernel
theorem dd_O_bet_132 : decode cc_O_bet 132 = .ok (.aload 4, 2) := by decide +kernel
theorem dd_O_bet_134 : decode cc_O_bet 134 = .ok (.iconst 1, 1) := by decide +kernel
theorem dd_O_bet_135 : decode cc_O_bet 135 = .ok (.putfield 191, 3) := by decide +kernel
theorem dd_O_bet_138 : decode cc_O_bet 138 = .ok (.aload_n 0, 1) := by decide +kernel
theorem dd_O_bet_139 : decode cc_O_bet 139 = .ok (.invokevirtual 194, 3) := by decide +kernel
theorem dd_O_bet_142 : decode cc_O_bet 142 = .ok (.iconst 1, 1) := by decide +kernel
theorem dd_O_bet_143 : decode cc_O_bet 143 = .ok (.ireturn, 1) := by decide +kernel
theorem dd_O_settle_0 : decode cc_O_settle 0 = .ok (.aload_n 0, 1) := by decide +kernel
theorem dd_O_settle_1 : decode cc_O_settle 1 = .ok (.getfield 48, 3) := by decide +kernel
theorem dd_O_settle_4 : decode cc_O_settle 4 = .ok (.iconst 4, 1) := by decide +kernel
theorem dd_O_settle_5 : decode cc_O_settle 5 = .ok (.if_icmp .ne (11), 3) := by decide +kernel
theorem dd_O_settle_8 : decode cc_O_settle 8 = .ok (.aload_n 0, 1) := by decide +kernel
theorem dd_O_settle_9 : decode cc_O_settle 9 = .ok (.getfield 31, 3) := by decide +kernel
theorem dd_O_settle_12 : decode cc_O_settle 12 = .ok (.iconst (-1), 1) := by decide +kernel
theorem dd_O_settle_13 : decode cc_O_settle 13 = .ok (.if_icmp .eq (5), 3) := by decide +kernel
theorem dd_O_settle_16 : decode cc_O_settle 16 = .ok (.iconst 0, 1) := by decide +kernel
theorem dd_O_settle_17 : decode cc_O_settle 17 = .ok (.ireturn, 1) := by decide +kernel
theorem dd_O_settle_18 : decode cc_O_settle 18 = .ok (.iconst 0, 1) := by decide +kernel
theorem dd_O_settle_19 : decode cc_O_settle 19 = .ok (.istore_n 2, 1) := by decide +kernel
theorem dd_O_settle_20 : decode cc_O_settle 20 = .ok (.iload_n 2, 1) := by decide +kernel
theorem dd_O_settle_21 : decode cc_O_settle 21 = .ok (.aload_n 0, 1) := by decide +kernel
theorem dd_O_settle_22 : decode cc_O_settle 22 = .ok (.getfield 51, 3) := by decide +kernel
theorem dd_O_settle_25 : decode cc_O_settle 25 = .ok (.if_icmp .ge (18), 3) := by decide +kernel
theorem dd_O_settle_28 : decode cc_O_settle 28 = .ok (.aload_n 0, 1) := by decide +kernel
theorem dd_O_settle_29 : decode cc_O_settle 29 = .ok (.aload_n 0, 1) := by decide +kernel
theorem dd_O_settle_30 : decode cc_O_settle 30 = .ok (.invokevirtual 197, 3) := by decide +kernel
theorem dd_O_settle_33 : decode cc_O_settle 33 = .ok (.iload_n 1, 1) := by decide +kernel
theorem dd_O_settle_34 : decode cc_O_settle 34 = .ok (.invokevirtual 200, 3) := by decide +kernel
theorem dd_O_settle_37 : decode cc_O_settle 37 = .ok (.iinc 2 (1), 3) := by decide +kernel
theorem dd_O_settle_40 : decode cc_O_settle 40 = .ok (.goto (-20), 3) := by decide +kernel
theorem dd_O_settle_43 : decode cc_O_settle 43 = .ok (.aload_n 0, 1) := by decide +kernel
theorem dd_O_settle_44 : decode cc_O_settle 44 = .ok (.iconst 5, 1) := by decide +kernel
theorem dd_O_settle_45 : decode cc_O_settle 45 = .ok (.putfield 48, 3) := by decide +kernel
theorem dd_O_settle_48 : decode cc_O_settle 48 = .ok (.iconst 1, 1) := by decide +kernel
theorem dd_O_settle_49 : decode cc_O_settle 49 = .ok (.ireturn, 1) := by decide +kernel
theorem dd_O_show_0 : decode cc_O_show 0 = .ok (.aload_n 0, 1) := by decide +kernel
theorem dd_O_show_1 : decode cc_O_show 1 = .ok (.getfield 48, 3) := by decide +kernel
theorem dd_O_show_4 : decode cc_O_show 4 = .ok (.iconst 5, 1) := by decide +kernel
theorem dd_O_show_5 : decode cc_O_show 5 = .ok (.if_icmp .ne (23), 3) := by decide +kernel
theorem dd_O_show_8 : decode cc_O_show 8 = .ok (.aload_n 0, 1) := by decide +kernel
theorem dd_O_show_9 : decode cc_O_show 9 = .ok (.iload_n 1, 1) := by decide +kernel
theorem dd_O_show_10 : decode cc_O_show 10 = .ok (.invokevirtual 74, 3) := by decide +kernel
theorem dd_O_show_13 : decode cc_O_show 13 = .ok (.ifCond .eq (15), 3) := by decide +kernel
theorem dd_O_show_16 : decode cc_O_show 16 = .ok (.aload_n 0, 1) := by decide +kernel
theorem dd_O_show_17 : decode cc_O_show 17 = .ok (.getfield 11, 3) := by decide +kernel
theorem dd_O_show_20 : decode cc_O_show 20 = .ok (.iload_n 1, 1) := by decide +kernel
theorem dd_O_show_21 : decode cc_O_show 21 = .ok (.aaload, 1) := by decide +kernel
theorem dd_O_show_22 : decode cc_O_show 22 = .ok (.getfield 204, 3) := by decide +kernel
theorem dd_O_show_25 : decode cc_O_show 25 = .ok (.ifCond .eq (5), 3) := by decide +kernel
theorem dd_O_show_28 : decode cc_O_show 28 = .ok (.iconst 0, 1) := by decide +kernel
theorem dd_O_show_29 : decode cc_O_show 29 = .ok (.ireturn, 1) := by decide +kernel
theorem dd_O_show_30 : decode cc_O_show 30 = .ok (.aload_n 0, 1) := by decide +kernel
theorem dd_O_show_31 : decode cc_O_show 31 = .ok (.getfield 11, 3) := by decide +kernel
theorem dd_O_show_34 : decode cc_O_show 34 = .ok (.iload_n 1, 1) := by decide +kernel
theorem dd_O_show_35 : decode cc_O_show 35 = .ok (.aaload, 1) := by decide +kernel
theorem dd_O_show_36 : decode cc_O_show 36 = .ok (.aload_n 0, 1) := by decide +kernel
theorem dd_O_show_37 : decode cc_O_show 37 = .ok (.getfield 35, 3) := by decide +kernel
theorem dd_O_show_40 : decode cc_O_show 40 = .ok (.invokevirtual 207, 3) := by decide +kernel
theorem dd_O_show_43 : decode cc_O_show 43 = .ok (.aload_n 0, 1) := by decide +kernel
theorem dd_O_show_44 : decode cc_O_show 44 = .ok (.invokevirtual 210, 3) := by decide +kernel
theorem dd_O_show_47 : decode cc_O_show 47 = .ok (.ifCond .eq (17), 3) := by decide +kernel
theorem dd_O_show_50 : decode cc_O_show 50 = .ok (.aload_n 0, 1) := by decide +kernel
theorem dd_O_show_51 : decode cc_O_show 51 = .ok (.bipush (6), 2) := by decide +kernel
theorem dd_O_show_53 : decode cc_O_show 53 = .ok (.putfield 48, 3) := by decide +kernel
theorem dd_O_show_56 : decode cc_O_show 56 = .ok (.aload_n 0, 1) := by decide +kernel
theorem dd_O_show_57 : decode cc_O_show 57 = .ok (.aload_n 0, 1) := by decide +kernel
theorem dd_O_show_58 : decode cc_O_show 58 = .ok (.invokevirtual 213, 3) := by decide +kernel
theorem dd_O_show_61 : decode cc_O_show 61 = .ok (.putfield 216, 3) := by decide +kernel
theorem dd_O_show_64 : decode cc_O_show 64 = .ok (.iconst 1, 1) := by decide +kernel
theorem dd_O_show_65 : decode cc_O_show 65 = .ok (.ireturn, 1) := by decide +kernel
theorem dd_O_audit_0 : decode cc_O_audit 0 = .ok (.aload_n 0, 1) := by decide +kernel
theorem dd_O_audit_1 : decode cc_O_audit 1 = .ok (.getfield 48, 3) := by decide +kernel
theorem dd_O_audit_4 : decode cc_O_audit 4 = .ok (.bipush (6), 2) := by decide +kernel
theorem dd_O_audit_6 : decode cc_O_audit 6 = .ok (.if_icmp .eq (13), 3) := by decide +kernel
theorem dd_O_audit_9 : decode cc_O_audit 9 = .ok (.new 219, 3) := by decide +kernel
theorem dd_O_audit_12 : decode cc_O_audit 12 = .ok (.dup, 1) := by decide +kernel
theorem dd_O_audit_13 : decode cc_O_audit 13 = .ok (.ldc 221, 2) := by decide +kernel
theorem dd_O_audit_15 : decode cc_O_audit 15 = .ok (.invokespecial 223, 3) := by decide +kernel
theorem dd_O_audit_18 : decode cc_O_audit 18 = .ok (.athrow, 1) := by decide +kernel
theorem dd_O_audit_19 : decode cc_O_audit 19 = .ok (.aload_n 0, 1) := by decide +kernel
theorem dd_O_audit_20 : decode cc_O_audit 20 = .ok (.getfield 216, 3) := by decide +kernel
theorem dd_O_audit_23 : decode cc_O_audit 23 = .ok (.ireturn, 1) := by decide +kernel
theorem dd_O_cheat_0 : decode cc_O_cheat 0 = .ok (.aload_n 0, 1) := by decide +kernel
theorem dd_O_cheat_1 : decode cc_O_cheat 1 = .ok (.getfield 48, 3) := by decide +kernel
theorem dd_O_cheat_4 : decode cc_O_cheat 4 = .ok (.iconst 1, 1) := by decide +kernel
theorem dd_O_cheat_5 : decode cc_O_cheat 5 = .ok (.if_icmp .lt (19), 3) := by decide +kernel
theorem dd_O_cheat_8 : decode cc_O_cheat 8 = .ok (.aload_n 0, 1) := by decide +kernel
theorem dd_O_cheat_9 : decode cc_O_cheat 9 = .ok (.getfield 48, 3) := by decide +kernel
theorem dd_O_cheat_12 : decode cc_O_cheat 12 = .ok (.iconst 5, 1) := by decide +kernel
theorem dd_O_cheat_13 : decode cc_O_cheat 13 = .ok (.if_icmp .gt (11), 3) := by decide +kernel
theorem dd_O_cheat_16 : decode cc_O_cheat 16 = .ok (.aload_n 0, 1) := by decide +kernel
theorem dd_O_cheat_17 : decode cc_O_cheat 17 = .ok (.iload_n 1, 1) := by decide +kernel
theorem dd_O_cheat_18 : decode cc_O_cheat 18 = .ok (.invokevirtual 74, 3) := by decide +kernel
theorem dd_O_cheat_21 : decode cc_O_cheat 21 = .ok (.ifCond .ne (5), 3) := by decide +kernel
theorem dd_O_cheat_24 : decode cc_O_cheat 24 = .ok (.iconst 0, 1) := by decide +kernel
theorem dd_O_cheat_25 : decode cc_O_cheat 25 = .ok (.ireturn, 1) := by decide +kernel
theorem dd_O_cheat_26 : decode cc_O_cheat 26 = .ok (.iload_n 2, 1) := by decide +kernel
theorem dd_O_cheat_27 : decode cc_O_cheat 27 = .ok (.ifCond .lt (15), 3) := by decide +kernel
theorem dd_O_cheat_30 : decode cc_O_cheat 30 = .ok (.iload_n 2, 1) := by decide +kernel
theorem dd_O_cheat_31 : decode cc_O_cheat 31 = .ok (.iconst 5, 1) := by decide +kernel
theorem dd_O_cheat_32 : decode cc_O_cheat 32 = .ok (.if_icmp .ge (10), 3) := by decide +kernel
theorem dd_O_cheat_35 : decode cc_O_cheat 35 = .ok (.iload_n 3, 1) := by decide +kernel
theorem dd_O_cheat_36 : decode cc_O_cheat 36 = .ok (.invokestatic 133, 3) := by decide +kernel
theorem dd_O_cheat_39 : decode cc_O_cheat 39 = .ok (.ifCond .ne (5), 3) := by decide +kernel
theorem dd_O_cheat_42 : decode cc_O_cheat 42 = .ok (.iconst 0, 1) := by decide +kernel
theorem dd_O_cheat_43 : decode cc_O_cheat 43 = .ok (.ireturn, 1) := by decide +kernel
theorem dd_O_cheat_44 : decode cc_O_cheat 44 = .ok (.aload_n 0, 1) := by decide +kernel
theorem dd_O_cheat_45 : decode cc_O_cheat 45 = .ok (.getfield 11, 3) := by decide +kernel
theorem dd_O_cheat_48 : decode cc_O_cheat 48 = .ok (.iload_n 1, 1) := by decide +kernel
theorem dd_O_cheat_49 : decode cc_O_cheat 49 = .ok (.aaload, 1) := by decide +kernel
theorem dd_O_cheat_50 : decode cc_O_cheat 50 = .ok (.getfield 224, 3) := by decide +kernel
theorem dd_O_cheat_53 : decode cc_O_cheat 53 = .ok (.iload_n 2, 1) := by decide +kernel
theorem dd_O_cheat_54 : decode cc_O_cheat 54 = .ok (.dup2, 1) := by decide +kernel
theorem dd_O_cheat_55 : decode cc_O_cheat 55 = .ok (.laload, 1) := by decide +kernel
theorem dd_O_cheat_56 : decode cc_O_cheat 56 = .ok (.lconst 1, 1) := by decide +kernel
theorem dd_O_cheat_57 : decode cc_O_cheat 57 = .ok (.iload_n 3, 1) := by decide +kernel
theorem dd_O_cheat_58 : decode cc_O_cheat 58 = .ok (.lshl, 1) := by decide +kernel
theorem dd_O_cheat_59 : decode cc_O_cheat 59 = .ok (.lor, 1) := by decide +kernel
theorem dd_O_cheat_60 : decode cc_O_cheat 60 = .ok (.lastore, 1) := by decide +kernel
theorem dd_O_cheat_61 : decode cc_O_cheat 61 = .ok (.iconst 1, 1) := by decide +kernel
theorem dd_O_cheat_62 : decode cc_O_cheat 62 = .ok (.ireturn, 1) := by decide +kernel
theorem dd_O_state_0 : decode cc_O_state 0 = .ok (.iload_n 1, 1) := by decide +kernel
theorem dd_O_state_1 : decode cc_O_state 1 = .ok (.tableswitch (75) (0) (4) #[35, 40, 45, 65, 70], 35) := by decide +kernel
theorem dd_O_state_36 : decode cc_O_state 36 = .ok (.aload_n 0, 1) := by decide +kernel
theorem dd_O_state_37 : decode cc_O_state 37 = .ok (.getfield 48, 3) := by decide +kernel
theorem dd_O_state_40 : decode cc_O_state 40 = .ok (.ireturn, 1) := by decide +kernel
theorem dd_O_state_41 : decode cc_O_state 41 = .ok (.aload_n 0, 1) := by decide +kernel
theorem dd_O_state_42 : decode cc_O_state 42 = .ok (.getfield 51, 3) := by decide +kernel
theorem dd_O_state_45 : decode cc_O_state 45 = .ok (.ireturn, 1) := by decide +kernel
theorem dd_O_state_46 : decode cc_O_state 46 = .ok (.aload_n 0, 1) := by decide +kernel
theorem dd_O_state_47 : decode cc_O_state 47 = .ok (.getfield 31, 3) := by decide +kernel
theorem dd_O_state_50 : decode cc_O_state 50 = .ok (.iconst (-1), 1) := by decide +kernel
theorem dd_O_state_51 : decode cc_O_state 51 = .ok (.if_icmp .eq (10), 3) := by decide +kernel
theorem dd_O_state_54 : decode cc_O_state 54 = .ok (.aload_n 0, 1) := by decide +kernel
theorem dd_O_state_55 : decode cc_O_state 55 = .ok (.getfield 31, 3) := by decide +kernel
theorem dd_O_state_58 : decode cc_O_state 58 = .ok (.goto (7), 3) := by decide +kernel
theorem dd_O_state_61 : decode cc_O_state 61 = .ok (.aload_n 0, 1) := by decide +kernel
theorem dd_O_state_62 : decode cc_O_state 62 = .ok (.invokevirtual 122, 3) := by decide +kernel
theorem dd_O_state_65 : decode cc_O_state 65 = .ok (.ireturn, 1) := by decide +kernel
theorem dd_O_state_66 : decode cc_O_state 66 = .ok (.aload_n 0, 1) := by decide +kernel
theorem dd_O_state_67 : decode cc_O_state 67 = .ok (.invokevirtual 228, 3) := by decide +kernel
theorem dd_O_state_70 : decode cc_O_state 70 = .ok (.ireturn, 1) := by decide +kernel
theorem dd_O_state_71 : decode cc_O_state 71 = .ok (.aload_n 0, 1) := by decide +kernel
theorem dd_O_state_72 : decode cc_O_state 72 = .ok (.invokevirtual 173, 3) := by decide +kernel
theorem dd_O_state_75 : decode cc_O_state 75 = .ok (.ireturn, 1) := by decide +kernel
theorem dd_O_state_76 : decode cc_O_state 76 = .ok (.iconst (-1), 1) := by decide +kernel
theorem dd_O_state_77 : decode cc_O_state 77 = .ok (.ireturn, 1) := by decide +kernel
theorem dd_O_player_0 : decode cc_O_player 0 = .ok (.aload_n 0, 1) := by decide +kernel
theorem dd_O_player_1 : decode cc_O_player 1 = .ok (.iload_n 1, 1) := by decide +kernel
theorem dd_O_player_2 : decode cc_O_player 2 = .ok (.invokevirtual 74, 3) := by decide +kernel
theorem dd_O_player_5 : decode cc_O_player 5 = .ok (.ifCond .ne (5), 3) := by decide +kernel
theorem dd_O_player_8 : decode cc_O_player 8 = .ok (.iconst (-1), 1) := by decide +kernel
theorem dd_O_player_9 : decode cc_O_player 9 = .ok (.ireturn, 1) := by decide +kernel
theorem dd_O_player_10 : decode cc_O_player 10 = .ok (.aload_n 0, 1) := by decide +kernel
theorem dd_O_player_11 : decode cc_O_player 11 = .ok (.getfield 11, 3) := by decide +kernel
theorem dd_O_player_14 : decode cc_O_player 14 = .ok (.iload_n 1, 1) := by decide +kernel
theorem dd_O_player_15 : decode cc_O_player 15 = .ok (.aaload, 1) := by decide +kernel
theorem dd_O_player_16 : decode cc_O_player 16 = .ok (.astore_n 3, 1) := by decide +kernel
theorem dd_O_player_17 : decode cc_O_player 17 = .ok (.iload_n 2, 1) := by decide +kernel
theorem dd_O_player_18 : decode cc_O_player 18 = .ok (.tableswitch (75) (0) (4) #[34, 39, 44, 49, 70], 34) := by decide +kernel
theorem dd_O_player_52 : decode cc_O_player 52 = .ok (.aload_n 3, 1) := by decide +kernel
theorem dd_O_player_53 : decode cc_O_player 53 = .ok (.getfield 58, 3) := by decide +kernel
theorem dd_O_player_56 : decode cc_O_player 56 = .ok (.ireturn, 1) := by decide +kernel
theorem dd_O_player_57 : decode cc_O_player 57 = .ok (.aload_n 3, 1) := by decide +kernel
theorem dd_O_player_58 : decode cc_O_player 58 = .ok (.getfield 231, 3) := by decide +kernel
theorem dd_O_player_61 : decode cc_O_player 61 = .ok (.ireturn, 1) := by decide +kernel
theorem dd_O_player_62 : decode cc_O_player 62 = .ok (.aload_n 3, 1) := by decide +kernel
theorem dd_O_player_63 : decode cc_O_player 63 = .ok (.getfield 176, 3) := by decide +kernel
theorem dd_O_player_66 : decode cc_O_player 66 = .ok (.ireturn, 1) := by decide +kernel
theorem dd_O_player_67 : decode cc_O_player 67 = .ok (.aload_n 0, 1) := by decide +kernel
theorem dd_O_player_68 : decode cc_O_player 68 = .ok (.getfield 48, 3) := by decide +kernel
theorem dd_O_player_71 : decode cc_O_player 71 = .ok (.iconst 4, 1) := by decide +kernel
theorem dd_O_player_72 : decode cc_O_player 72 = .ok (.if_icmp .lt (14), 3) := by decide +kernel
theorem dd_O_player_75 : decode cc_O_player 75 = .ok (.aload_n 3, 1) := by decide +kernel
theorem dd_O_player_76 : decode cc_O_player 76 = .ok (.getfield 179, 3) := by decide +kernel
theorem dd_O_player_79 : decode cc_O_player 79 = .ok (.ifCond .ne (7), 3) := by decide +kernel
theorem dd_O_player_82 : decode cc_O_player 82 = .ok (.iconst 1, 1) := by decide +kernel
theorem dd_O_player_83 : decode cc_O_player 83 = .ok (.goto (4), 3) := by decide +kernel
theorem dd_O_player_86 : decode cc_O_player 86 = .ok (.iconst 0, 1) := by decide +kernel
theorem dd_O_player_87 : decode cc_O_player 87 = .ok (.ireturn, 1) := by decide +kernel
theorem dd_O_player_88 : decode cc_O_player 88 = .ok (.aload_n 3, 1) := by decide +kernel
theorem dd_O_player_89 : decode cc_O_player 89 = .ok (.invokevirtual 234, 3) := by decide +kernel
theorem dd_O_player_92 : decode cc_O_player 92 = .ok (.ireturn, 1) := by decide +kernel
theorem dd_O_player_93 : decode cc_O_player 93 = .ok (.iconst (-1), 1) := by decide +kernel
theorem dd_O_player_94 : decode cc_O_player 94 = .ok (.ireturn, 1) := by decide +kernel
theorem dd_O_isSeated_0 : decode cc_O_isSeated 0 = .ok (.iload_n 1, 1) := by decide +kernel
theorem dd_O_isSeated_1 : decode cc_O_isSeated 1 = .ok (.ifCond .lt (15), 3) := by decide +kernel
theorem dd_O_isSeated_4 : decode cc_O_isSeated 4 = .ok (.iload_n 1, 1) := by decide +kernel
theorem dd_O_isSeated_5 : decode cc_O_isSeated 5 = .ok (.aload_n 0, 1) := by decide +kernel
theorem dd_O_isSeated_6 : decode cc_O_isSeated 6 = .ok (.getfield 51, 3) := by decide +kernel
theorem dd_O_isSeated_9 : decode cc_O_isSeated 9 = .ok (.if_icmp .ge (7), 3) := by decide +kernel
theorem dd_O_isSeated_12 : decode cc_O_isSeated 12 = .ok (.iconst 1, 1) := by decide +kernel
theorem dd_O_isSeated_13 : decode cc_O_isSeated 13 = .ok (.goto (4), 3) := by decide +kernel
theorem dd_O_isSeated_16 : decode cc_O_isSeated 16 = .ok (.iconst 0, 1) := by decide +kernel
theorem dd_O_isSeated_17 : decode cc_O_isSeated 17 = .ok (.ireturn, 1) := by decide +kernel
theorem dd_O_isPlace_0 : decode cc_O_isPlace 0 = .ok (.iload_n 0, 1) := by decide +kernel
theorem dd_O_isPlace_1 : decode cc_O_isPlace 1 = .ok (.ifCond .lt (13), 3) := by decide +kernel
theorem dd_O_isPlace_4 : decode cc_O_isPlace 4 = .ok (.iload_n 0, 1) := by decide +kernel
theorem dd_O_isPlace_5 : decode cc_O_isPlace 5 = .ok (.bipush (52), 2) := by decide +kernel
theorem dd_O_isPlace_7 : decode cc_O_isPlace 7 = .ok (.if_icmp .ge (7), 3) := by decide +kernel
theorem dd_O_isPlace_10 : decode cc_O_isPlace 10 = .ok (.iconst 1, 1) := by decide +kernel
theorem dd_O_isPlace_11 : decode cc_O_isPlace 11 = .ok (.goto (4), 3) := by decide +kernel
theorem dd_O_isPlace_14 : decode cc_O_isPlace 14 = .ok (.iconst 0, 1) := by decide +kernel
theorem dd_O_isPlace_15 : decode cc_O_isPlace 15 = .ok (.ireturn, 1) := by decide +kernel
theorem dd_O_countWithChips_0 : decode cc_O_countWithChips 0 = .ok (.iconst 0, 1) := by decide +kernel
theorem dd_O_countWithChips_1 : decode cc_O_countWithChips 1 = .ok (.istore_n 1, 1) := by decide +kernel
theorem dd_O_countWithChips_2 : decode cc_O_countWithChips 2 = .ok (.iconst 0, 1) := by decide +kernel
theorem dd_O_countWithChips_3 : decode cc_O_countWithChips 3 = .ok (.istore_n 2, 1) := by decide +kernel
theorem dd_O_countWithChips_4 : decode cc_O_countWithChips 4 = .ok (.iload_n 2, 1) := by decide +kernel
theorem dd_O_countWithChips_5 : decode cc_O_countWithChips 5 = .ok (.aload_n 0, 1) := by decide +kernel
theorem dd_O_countWithChips_6 : decode cc_O_countWithChips 6 = .ok (.getfield 51, 3) := by decide +kernel
theorem dd_O_countWithChips_9 : decode cc_O_countWithChips 9 = .ok (.if_icmp .ge (24), 3) := by decide +kernel
theorem dd_O_countWithChips_12 : decode cc_O_countWithChips 12 = .ok (.aload_n 0, 1) := by decide +kernel
theorem dd_O_countWithChips_13 : decode cc_O_countWithChips 13 = .ok (.getfield 11, 3) := by decide +kernel
theorem dd_O_countWithChips_16 : decode cc_O_countWithChips 16 = .ok (.iload_n 2, 1) := by decide +kernel
theorem dd_O_countWithChips_17 : decode cc_O_countWithChips 17 = .ok (.aaload, 1) := by decide +kernel
theorem dd_O_countWithChips_18 : decode cc_O_countWithChips 18 = .ok (.getfield 58, 3) := by decide +kernel
theorem dd_O_countWithChips_21 : decode cc_O_countWithChips 21 = .ok (.ifCond .le (6), 3) := by decide +kernel
theorem dd_O_countWithChips_24 : decode cc_O_countWithChips 24 = .ok (.iinc 1 (1), 3) := by decide +kernel
theorem dd_O_countWithChips_27 : decode cc_O_countWithChips 27 = .ok (.iinc 2 (1), 3) := by decide +kernel
theorem dd_O_countWithChips_30 : decode cc_O_countWithChips 30 = .ok (.goto (-26), 3) := by decide +kernel
theorem dd_O_countWithChips_33 : decode cc_O_countWithChips 33 = .ok (.iload_n 1, 1) := by decide +kernel
theorem dd_O_countWithChips_34 : decode cc_O_countWithChips 34 = .ok (.ireturn, 1) := by decide +kernel
theorem dd_O_allSealed_0 : decode cc_O_allSealed 0 = .ok (.iconst 0, 1) := by decide +kernel
theorem dd_O_allSealed_1 : decode cc_O_allSealed 1 = .ok (.istore_n 1, 1) := by decide +kernel
theorem dd_O_allSealed_2 : decode cc_O_allSealed 2 = .ok (.iload_n 1, 1) := by decide +kernel
theorem dd_O_allSealed_3 : decode cc_O_allSealed 3 = .ok (.aload_n 0, 1) := by decide +kernel
theorem dd_O_allSealed_4 : decode cc_O_allSealed 4 = .ok (.getfield 51, 3) := by decide +kernel
theorem dd_O_allSealed_7 : decode cc_O_allSealed 7 = .ok (.if_icmp .ge (23), 3) := by decide +kernel
theorem dd_O_allSealed_10 : decode cc_O_allSealed 10 = .ok (.aload_n 0, 1) := by decide +kernel
theorem dd_O_allSealed_11 : decode cc_O_allSealed 11 = .ok (.getfield 11, 3) := by decide +kernel
theorem dd_O_allSealed_14 : decode cc_O_allSealed 14 = .ok (.iload_n 1, 1) := by decide +kernel
theorem dd_O_allSealed_15 : decode cc_O_allSealed 15 = .ok (.aaload, 1) := by decide +kernel
theorem dd_O_allSealed_16 : decode cc_O_allSealed 16 = .ok (.getfield 81, 3) := by decide +kernel
theorem dd_O_allSealed_19 : decode cc_O_allSealed 19 = .ok (.ifCond .ne (5), 3) := by decide +kernel
theorem dd_O_allSealed_22 : decode cc_O_allSealed 22 = .ok (.iconst 0, 1) := by decide +kernel
theorem dd_O_allSealed_23 : decode cc_O_allSealed 23 = .ok (.ireturn, 1) := by decide +kernel
theorem dd_O_allSealed_24 : decode cc_O_allSealed 24 = .ok (.iinc 1 (1), 3) := by decide +kernel
theorem dd_O_allSealed_27 : decode cc_O_allSealed 27 = .ok (.goto (-25), 3) := by decide +kernel
theorem dd_O_allSealed_30 : decode cc_O_allSealed 30 = .ok (.iconst 1, 1) := by decide +kernel
theorem dd_O_allSealed_31 : decode cc_O_allSealed 31 = .ok (.ireturn, 1) := by decide +kernel
theorem dd_O_allShown_0 : decode cc_O_allShown 0 = .ok (.iconst 0, 1) := by decide +kernel
theorem dd_O_allShown_1 : decode cc_O_allShown 1 = .ok (.istore_n 1, 1) := by decide +kernel
theorem dd_O_allShown_2 : decode cc_O_allShown 2 = .ok (.iload_n 1, 1) := by decide +kernel
theorem dd_O_allShown_3 : decode cc_O_allShown 3 = .ok (.aload_n 0, 1) := by decide +kernel
theorem dd_O_allShown_4 : decode cc_O_allShown 4 = .ok (.getfield 51, 3) := by decide +kernel
theorem dd_O_allShown_7 : decode cc_O_allShown 7 = .ok (.if_icmp .ge (23), 3) := by decide +kernel
theorem dd_O_allShown_10 : decode cc_O_allShown 10 = .ok (.aload_n 0, 1) := by decide +kernel
theorem dd_O_allShown_11 : decode cc_O_allShown 11 = .ok (.getfield 11, 3) := by decide +kernel
theorem dd_O_allShown_14 : decode cc_O_allShown 14 = .ok (.iload_n 1, 1) := by decide +kernel
theorem dd_O_allShown_15 : decode cc_O_allShown 15 = .ok (.aaload, 1) := by decide +kernel
theorem dd_O_allShown_16 : decode cc_O_allShown 16 = .ok (.getfield 204, 3) := by decide +kernel
theorem dd_O_allShown_19 : decode cc_O_allShown 19 = .ok (.ifCond .ne (5), 3) := by decide +kernel
theorem dd_O_allShown_22 : decode cc_O_allShown 22 = .ok (.iconst 0, 1) := by decide +kernel
theorem dd_O_allShown_23 : decode cc_O_allShown 23 = .ok (.ireturn, 1) := by decide +kernel
theorem dd_O_allShown_24 : decode cc_O_allShown 24 = .ok (.iinc 1 (1), 3) := by decide +kernel
theorem dd_O_allShown_27 : decode cc_O_allShown 27 = .ok (.goto (-25), 3) := by decide +kernel
theorem dd_O_allShown_30 : decode cc_O_allShown 30 = .ok (.iconst 1, 1) := by decide +kernel
theorem dd_O_allShown_31 : decode cc_O_allShown 31 = .ok (.ireturn, 1) := by decide +kernel
theorem dd_O_nextToTurn_0 : decode cc_O_nextToTurn 0 = .ok (.aload_n 0, 1) := by decide +kernel
theorem dd_O_nextToTurn_1 : decode cc_O_nextToTurn 1 = .ok (.getfield 48, 3) := by decide +kernel
theorem dd_O_nextToTurn_4 : decode cc_O_nextToTurn 4 = .ok (.iconst 2, 1) := by decide +kernel
theorem dd_O_nextToTurn_5 : decode cc_O_nextToTurn 5 = .ok (.if_icmp .eq (13), 3) := by decide +kernel
theorem dd_O_nextToTurn_8 : decode cc_O_nextToTurn 8 = .ok (.aload_n 0, 1) := by decide +kernel
theorem dd_O_nextToTurn_9 : decode cc_O_nextToTurn 9 = .ok (.getfield 48, 3) := by decide +kernel
theorem dd_O_nextToTurn_12 : decode cc_O_nextToTurn 12 = .ok (.iconst 3, 1) := by decide +kernel
theorem dd_O_nextToTurn_13 : decode cc_O_nextToTurn 13 = .ok (.if_icmp .eq (5), 3) := by decide +kernel
theorem dd_O_nextToTurn_16 : decode cc_O_nextToTurn 16 = .ok (.iconst (-1), 1) := by decide +kernel
theorem dd_O_nextToTurn_17 : decode cc_O_nextToTurn 17 = .ok (.ireturn, 1) := by decide +kernel
theorem dd_O_nextToTurn_18 : decode cc_O_nextToTurn 18 = .ok (.aload_n 0, 1) := by decide +kernel
theorem dd_O_nextToTurn_19 : decode cc_O_nextToTurn 19 = .ok (.aload_n 0, 1) := by decide +kernel
theorem dd_O_nextToTurn_20 : decode cc_O_nextToTurn 20 = .ok (.getfield 54, 3) := by decide +kernel
theorem dd_O_nextToTurn_23 : decode cc_O_nextToTurn 23 = .ok (.invokevirtual 237, 3) := by decide +kernel
theorem dd_O_nextToTurn_26 : decode cc_O_nextToTurn 26 = .ok (.ireturn, 1) := by decide +kernel
theorem dd_O_playerOfTurn_0 : decode cc_O_playerOfTurn 0 = .ok (.iload_n 1, 1) := by decide +kernel
theorem dd_O_playerOfTurn_1 : decode cc_O_playerOfTurn 1 = .ok (.aload_n 0, 1) := by decide +kernel
theorem dd_O_playerOfTurn_2 : decode cc_O_playerOfTurn 2 = .ok (.getfield 51, 3) := by decide +kernel
theorem dd_O_playerOfTurn_5 : decode cc_O_playerOfTurn 5 = .ok (.if_icmp .ge (7), 3) := by decide +kernel
theorem dd_O_playerOfTurn_8 : decode cc_O_playerOfTurn 8 = .ok (.iload_n 1, 1) := by decide +kernel
theorem dd_O_playerOfTurn_9 : decode cc_O_playerOfTurn 9 = .ok (.goto (9), 3) := by decide +kernel
theorem dd_O_playerOfTurn_12 : decode cc_O_playerOfTurn 12 = .ok (.iload_n 1, 1) := by decide +kernel
theorem dd_O_playerOfTurn_13 : decode cc_O_playerOfTurn 13 = .ok (.aload_n 0, 1) := by decide +kernel
theorem dd_O_playerOfTurn_14 : decode cc_O_playerOfTurn 14 = .ok (.getfield 51, 3) := by decide +kernel
theorem dd_O_playerOfTurn_17 : decode cc_O_playerOfTurn 17 = .ok (.isub, 1) := by decide +kernel
theorem dd_O_playerOfTurn_18 : decode cc_O_playerOfTurn 18 = .ok (.ireturn, 1) := by decide +kernel
theorem dd_O_reckonTurn_0 : decode cc_O_reckonTurn 0 = .ok (.aload_n 0, 1) := by decide +kernel
theorem dd_O_reckonTurn_1 : decode cc_O_reckonTurn 1 = .ok (.getfield 18, 3) := by decide +kernel
theorem dd_O_reckonTurn_4 : decode cc_O_reckonTurn 4 = .ok (.iload_n 1, 1) := by decide +kernel
theorem dd_O_reckonTurn_5 : decode cc_O_reckonTurn 5 = .ok (.aaload, 1) := by decide +kernel
theorem dd_O_reckonTurn_6 : decode cc_O_reckonTurn 6 = .ok (.astore 4, 2) := by decide +kernel
theorem dd_O_reckonTurn_8 : decode cc_O_reckonTurn 8 = .ok (.iload_n 1, 1) := by decide +kernel
theorem dd_O_reckonTurn_9 : decode cc_O_reckonTurn 9 = .ok (.aload_n 0, 1) := by decide +kernel
theorem dd_O_reckonTurn_10 : decode cc_O_reckonTurn 10 = .ok (.getfield 51, 3) := by decide +kernel
theorem dd_O_reckonTurn_13 : decode cc_O_reckonTurn 13 = .ok (.if_icmp .ge (56), 3) := by decide +kernel
theorem dd_O_reckonTurn_16 : decode cc_O_reckonTurn 16 = .ok (.aload_n 2, 1) := by decide +kernel
theorem dd_O_reckonTurn_17 : decode cc_O_reckonTurn 17 = .ok (.getfield 240, 3) := by decide +kernel
theorem dd_O_reckonTurn_20 : decode cc_O_reckonTurn 20 = .ok (.aload_n 0, 1) := by decide +kernel
theorem dd_O_reckonTurn_21 : decode cc_O_reckonTurn 21 = .ok (.getfield 25, 3) := by decide +kernel
theorem dd_O_reckonTurn_24 : decode cc_O_reckonTurn 24 = .ok (.invokestatic 243, 3) := by decide +kernel
theorem dd_O_reckonTurn_27 : decode cc_O_reckonTurn 27 = .ok (.iconst 0, 1) := by decide +kernel
theorem dd_O_reckonTurn_28 : decode cc_O_reckonTurn 28 = .ok (.istore 5, 2) := by decide +kernel
theorem dd_O_reckonTurn_30 : decode cc_O_reckonTurn 30 = .ok (.iload 5, 2) := by decide +kernel
theorem dd_O_reckonTurn_32 : decode cc_O_reckonTurn 32 = .ok (.bipush (52), 2) := by decide +kernel
theorem dd_O_reckonTurn_34 : decode cc_O_reckonTurn 34 = .ok (.if_icmp .ge (34), 3) := by decide +kernel
theorem dd_O_reckonTurn_37 : decode cc_O_reckonTurn 37 = .ok (.aload_n 3, 1) := by decide +kernel
theorem dd_O_reckonTurn_38 : decode cc_O_reckonTurn 38 = .ok (.iload 5, 2) := by decide +kernel
theorem dd_O_reckonTurn_40 : decode cc_O_reckonTurn 40 = .ok (.aload 4, 2) := by decide +kernel
theorem dd_O_reckonTurn_42 : decode cc_O_reckonTurn 42 = .ok (.aload_n 0, 1) := by decide +kernel
theorem dd_O_reckonTurn_43 : decode cc_O_reckonTurn 43 = .ok (.getfield 25, 3) := by decide +kernel
theorem dd_O_reckonTurn_46 : decode cc_O_reckonTurn 46 = .ok (.iload 5, 2) := by decide +kernel
theorem dd_O_reckonTurn_48 : decode cc_O_reckonTurn 48 = .ok (.iaload, 1) := by decide +kernel
theorem dd_O_reckonTurn_49 : decode cc_O_reckonTurn 49 = .ok (.iaload, 1) := by decide +kernel
theorem dd_O_reckonTurn_50 : decode cc_O_reckonTurn 50 = .ok (.aload_n 2, 1) := by decide +kernel
theorem dd_O_reckonTurn_51 : decode cc_O_reckonTurn 51 = .ok (.getfield 247, 3) := by decide +kernel
theorem dd_O_reckonTurn_54 : decode cc_O_reckonTurn 54 = .ok (.aload_n 0, 1) := by decide +kernel
theorem dd_O_reckonTurn_55 : decode cc_O_reckonTurn 55 = .ok (.getfield 35, 3) := by decide +kernel
theorem dd_O_reckonTurn_58 : decode cc_O_reckonTurn 58 = .ok (.invokestatic 156, 3) := by decide +kernel
theorem dd_O_reckonTurn_61 : decode cc_O_reckonTurn 61 = .ok (.iastore, 1) := by decide +kernel
theorem dd_O_reckonTurn_62 : decode cc_O_reckonTurn 62 = .ok (.iinc 5 (1), 3) := by decide +kernel
theorem dd_O_reckonTurn_65 : decode cc_O_reckonTurn 65 = .ok (.goto (-35), 3) := by decide +kernel
theorem dd_O_reckonTurn_68 : decode cc_O_reckonTurn 68 = .ok (.return_, 1) := by decide +kernel
theorem dd_O_reckonTurn_69 : decode cc_O_reckonTurn 69 = .ok (.aload_n 0, 1) := by decide +kernel
theorem dd_O_reckonTurn_70 : decode cc_O_reckonTurn 70 = .ok (.getfield 11, 3) := by decide +kernel
theorem dd_O_reckonTurn_73 : decode cc_O_reckonTurn 73 = .ok (.aload_n 0, 1) := by decide +kernel
theorem dd_O_reckonTurn_74 : decode cc_O_reckonTurn 74 = .ok (.iload_n 1, 1) := by decide +kernel
theorem dd_O_reckonTurn_75 : decode cc_O_reckonTurn 75 = .ok (.invokevirtual 237, 3) := by decide +kernel
theorem dd_O_reckonTurn_78 : decode cc_O_reckonTurn 78 = .ok (.aaload, 1) := by decide +kernel
theorem dd_O_reckonTurn_79 : decode cc_O_reckonTurn 79 = .ok (.getfield 102, 3) := by decide +kernel
theorem dd_O_reckonTurn_82 : decode cc_O_reckonTurn 82 = .ok (.astore 5, 2) := by decide +kernel
theorem dd_O_reckonTurn_84 : decode cc_O_reckonTurn 84 = .ok (.aload_n 2, 1) := by decide +kernel
theorem dd_O_reckonTurn_85 : decode cc_O_reckonTurn 85 = .ok (.getfield 247, 3) := by decide +kernel
theorem dd_O_reckonTurn_88 : decode cc_O_reckonTurn 88 = .ok (.aload_n 0, 1) := by decide +kernel
theorem dd_O_reckonTurn_89 : decode cc_O_reckonTurn 89 = .ok (.getfield 35, 3) := by decide +kernel
theorem dd_O_reckonTurn_92 : decode cc_O_reckonTurn 92 = .ok (.invokestatic 153, 3) := by decide +kernel
theorem dd_O_reckonTurn_95 : decode cc_O_reckonTurn 95 = .ok (.istore 6, 2) := by decide +kernel
theorem dd_O_reckonTurn_97 : decode cc_O_reckonTurn 97 = .ok (.iconst 0, 1) := by decide +kernel
theorem dd_O_reckonTurn_98 : decode cc_O_reckonTurn 98 = .ok (.istore 7, 2) := by decide +kernel
theorem dd_O_reckonTurn_100 : decode cc_O_reckonTurn 100 = .ok (.iload 7, 2) := by decide +kernel
theorem dd_O_reckonTurn_102 : decode cc_O_reckonTurn 102 = .ok (.bipush (52), 2) := by decide +kernel
theorem dd_O_reckonTurn_104 : decode cc_O_reckonTurn 104 = .ok (.if_icmp .ge (41), 3) := by decide +kernel
theorem dd_O_reckonTurn_107 : decode cc_O_reckonTurn 107 = .ok (.aload_n 3, 1) := by decide +kernel
theorem dd_O_reckonTurn_108 : decode cc_O_reckonTurn 108 = .ok (.iload 7, 2) := by decide +kernel
theorem dd_O_reckonTurn_110 : decode cc_O_reckonTurn 110 = .ok (.aload 4, 2) := by decide +kernel
theorem dd_O_reckonTurn_112 : decode cc_O_reckonTurn 112 = .ok (.iload 7, 2) := by decide +kernel
theorem dd_O_reckonTurn_114 : decode cc_O_reckonTurn 114 = .ok (.iaload, 1) := by decide +kernel
theorem dd_O_reckonTurn_115 : decode cc_O_reckonTurn 115 = .ok (.iload 6, 2) := by decide +kernel
theorem dd_O_reckonTurn_117 : decode cc_O_reckonTurn 117 = .ok (.aload 5, 2) := by decide +kernel
theorem dd_O_reckonTurn_119 : decode cc_O_reckonTurn 119 = .ok (.iload 7, 2) := by decide +kernel
theorem dd_O_reckonTurn_121 : decode cc_O_reckonTurn 121 = .ok (.iaload, 1) := by decide +kernel
theorem dd_O_reckonTurn_122 : decode cc_O_reckonTurn 122 = .ok (.aload_n 0, 1) := by decide +kernel
theorem dd_O_reckonTurn_123 : decode cc_O_reckonTurn 123 = .ok (.getfield 35, 3) := by decide +kernel
theorem dd_O_reckonTurn_126 : decode cc_O_reckonTurn 126 = .ok (.iconst 1, 1) := by decide +kernel
theorem dd_O_reckonTurn_127 : decode cc_O_reckonTurn 127 = .ok (.isub, 1) := by decide +kernel
theorem dd_O_reckonTurn_128 : decode cc_O_reckonTurn 128 = .ok (.invokestatic 250, 3) := by decide +kernel
theorem dd_O_reckonTurn_131 : decode cc_O_reckonTurn 131 = .ok (.aload_n 0, 1) := by decide +kernel
theorem dd_O_reckonTurn_132 : decode cc_O_reckonTurn 132 = .ok (.getfield 35, 3) := by decide +kernel
theorem dd_O_reckonTurn_135 : decode cc_O_reckonTurn 135 = .ok (.invokestatic 156, 3) := by decide +kernel
theorem dd_O_reckonTurn_138 : decode cc_O_reckonTurn 138 = .ok (.iastore, 1) := by decide +kernel
theorem dd_O_reckonTurn_139 : decode cc_O_reckonTurn 139 = .ok (.iinc 7 (1), 3) := by decide +kernel
theorem dd_O_reckonTurn_142 : decode cc_O_reckonTurn 142 = .ok (.goto (-42), 3) := by decide +kernel
theorem dd_O_reckonTurn_145 : decode cc_O_reckonTurn 145 = .ok (.return_, 1) := by decide +kernel
theorem dd_O_spoil_0 : decode cc_O_spoil 0 = .ok (.iconst 0, 1) := by decide +kernel
theorem dd_O_spoil_1 : decode cc_O_spoil 1 = .ok (.istore 4, 2) := by decide +kernel
theorem dd_O_spoil_3 : decode cc_O_spoil 3 = .ok (.iload 4, 2) := by decide +kernel
theorem dd_O_spoil_5 : decode cc_O_spoil 5 = .ok (.bipush (52), 2) := by decide +kernel
theorem dd_O_spoil_7 : decode cc_O_spoil 7 = .ok (.if_icmp .ge (46), 3) := by decide +kernel
theorem dd_O_spoil_10 : decode cc_O_spoil 10 = .ok (.aload_n 2, 1) := by decide +kernel
theorem dd_O_spoil_11 : decode cc_O_spoil 11 = .ok (.iload_n 3, 1) := by decide +kernel
theorem dd_O_spoil_12 : decode cc_O_spoil 12 = .ok (.iload 4, 2) := by decide +kernel
theorem dd_O_spoil_14 : decode cc_O_spoil 14 = .ok (.invokevirtual 144, 3) := by decide +kernel
theorem dd_O_spoil_17 : decode cc_O_spoil 17 = .ok (.ifCond .eq (30), 3) := by decide +kernel
theorem dd_O_spoil_20 : decode cc_O_spoil 20 = .ok (.aload_n 1, 1) := by decide +kernel
theorem dd_O_spoil_21 : decode cc_O_spoil 21 = .ok (.iload 4, 2) := by decide +kernel
theorem dd_O_spoil_23 : decode cc_O_spoil 23 = .ok (.aload_n 1, 1) := by decide +kernel
theorem dd_O_spoil_24 : decode cc_O_spoil 24 = .ok (.iload 4, 2) := by decide +kernel
theorem dd_O_spoil_26 : decode cc_O_spoil 26 = .ok (.iaload, 1) := by decide +kernel
theorem dd_O_spoil_27 : decode cc_O_spoil 27 = .ok (.aload_n 0, 1) := by decide +kernel
theorem dd_O_spoil_28 : decode cc_O_spoil 28 = .ok (.getfield 35, 3) := by decide +kernel
theorem dd_O_spoil_31 : decode cc_O_spoil 31 = .ok (.iconst 1, 1) := by decide +kernel
theorem dd_O_spoil_32 : decode cc_O_spoil 32 = .ok (.isub, 1) := by decide +kernel
theorem dd_O_spoil_33 : decode cc_O_spoil 33 = .ok (.if_icmp .ne (7), 3) := by decide +kernel
theorem dd_O_spoil_36 : decode cc_O_spoil 36 = .ok (.iconst 1, 1) := by decide +kernel
theorem dd_O_spoil_37 : decode cc_O_spoil 37 = .ok (.goto (9), 3) := by decide +kernel
theorem dd_O_spoil_40 : decode cc_O_spoil 40 = .ok (.aload_n 1, 1) := by decide +kernel
theorem dd_O_spoil_41 : decode cc_O_spoil 41 = .ok (.iload 4, 2) := by decide +kernel
theorem dd_O_spoil_43 : decode cc_O_spoil 43 = .ok (.iaload, 1) := by decide +kernel
theorem dd_O_spoil_44 : decode cc_O_spoil 44 = .ok (.iconst 1, 1) := by decide +kernel
theorem dd_O_spoil_45 : decode cc_O_spoil 45 = .ok (.iadd, 1) := by decide +kernel
theorem dd_O_spoil_46 : decode cc_O_spoil 46 = .ok (.iastore, 1) := by decide +kernel
theorem dd_O_spoil_47 : decode cc_O_spoil 47 = .ok (.iinc 4 (1), 3) := by decide +kernel
theorem dd_O_spoil_50 : decode cc_O_spoil 50 = .ok (.goto (-47), 3) := by decide +kernel
theorem dd_O_spoil_53 : decode cc_O_spoil 53 = .ok (.return_, 1) := by decide +kernel
theorem dd_O_mayOpen_0 : decode cc_O_mayOpen 0 = .ok (.aload_n 0, 1) := by decide +kernel
theorem dd_O_mayOpen_1 : decode cc_O_mayOpen 1 = .ok (.getfield 21, 3) := by decide +kernel
theorem dd_O_mayOpen_4 : decode cc_O_mayOpen 4 = .ok (.iload_n 2, 1) := by decide +kernel
theorem dd_O_mayOpen_5 : decode cc_O_mayOpen 5 = .ok (.iaload, 1) := by decide +kernel
theorem dd_O_mayOpen_6 : decode cc_O_mayOpen 6 = .ok (.istore_n 3, 1) := by decide +kernel
theorem dd_O_mayOpen_7 : decode cc_O_mayOpen 7 = .ok (.iload_n 3, 1) := by decide +kernel
theorem dd_O_mayOpen_8 : decode cc_O_mayOpen 8 = .ok (.bipush (-2), 2) := by decide +kernel
theorem dd_O_mayOpen_10 : decode cc_O_mayOpen 10 = .ok (.if_icmp .eq (13), 3) := by decide +kernel
theorem dd_O_mayOpen_13 : decode cc_O_mayOpen 13 = .ok (.iload_n 3, 1) := by decide +kernel
theorem dd_O_mayOpen_14 : decode cc_O_mayOpen 14 = .ok (.iconst (-1), 1) := by decide +kernel
theorem dd_O_mayOpen_15 : decode cc_O_mayOpen 15 = .ok (.if_icmp .eq (10), 3) := by decide +kernel
theorem dd_O_mayOpen_18 : decode cc_O_mayOpen 18 = .ok (.iload_n 3, 1) := by decide +kernel
theorem dd_O_mayOpen_19 : decode cc_O_mayOpen 19 = .ok (.iload_n 1, 1) := by decide +kernel
theorem dd_O_mayOpen_20 : decode cc_O_mayOpen 20 = .ok (.if_icmp .eq (5), 3) := by decide +kernel
theorem dd_O_mayOpen_23 : decode cc_O_mayOpen 23 = .ok (.iconst 0, 1) := by decide +kernel
theorem dd_O_mayOpen_24 : decode cc_O_mayOpen 24 = .ok (.ireturn, 1) := by decide +kernel
theorem dd_O_mayOpen_25 : decode cc_O_mayOpen 25 = .ok (.iconst 0, 1) := by decide +kernel
theorem dd_O_mayOpen_26 : decode cc_O_mayOpen 26 = .ok (.istore 4, 2) := by decide +kernel
theorem dd_O_mayOpen_28 : decode cc_O_mayOpen 28 = .ok (.iload 4, 2) := by decide +kernel
theorem dd_O_mayOpen_30 : decode cc_O_mayOpen 30 = .ok (.aload_n 0, 1) := by decide +kernel
theorem dd_O_mayOpen_31 : decode cc_O_mayOpen 31 = .ok (.getfield 51, 3) := by decide +kernel
theorem dd_O_mayOpen_34 : decode cc_O_mayOpen 34 = .ok (.if_icmp .ge (31), 3) := by decide +kernel
theorem dd_O_mayOpen_37 : decode cc_O_mayOpen 37 = .ok (.iload 4, 2) := by decide +kernel
theorem dd_O_mayOpen_39 : decode cc_O_mayOpen 39 = .ok (.iload_n 3, 1) := by decide +kernel
theorem dd_O_mayOpen_40 : decode cc_O_mayOpen 40 = .ok (.if_icmp .eq (19), 3) := by decide +kernel
theorem dd_O_mayOpen_43 : decode cc_O_mayOpen 43 = .ok (.aload_n 0, 1) := by decide +kernel
theorem dd_O_mayOpen_44 : decode cc_O_mayOpen 44 = .ok (.getfield 11, 3) := by decide +kernel
theorem dd_O_mayOpen_47 : decode cc_O_mayOpen 47 = .ok (.iload 4, 2) := by decide +kernel
theorem dd_O_mayOpen_49 : decode cc_O_mayOpen 49 = .ok (.aaload, 1) := by decide +kernel
theorem dd_O_mayOpen_50 : decode cc_O_mayOpen 50 = .ok (.iload_n 2, 1) := by decide +kernel
theorem dd_O_mayOpen_51 : decode cc_O_mayOpen 51 = .ok (.invokevirtual 138, 3) := by decide +kernel
theorem dd_O_mayOpen_54 : decode cc_O_mayOpen 54 = .ok (.ifCond .ne (5), 3) := by decide +kernel
theorem dd_O_mayOpen_57 : decode cc_O_mayOpen 57 = .ok (.iconst 0, 1) := by decide +kernel
theorem dd_O_mayOpen_58 : decode cc_O_mayOpen 58 = .ok (.ireturn, 1) := by decide +kernel
theorem dd_O_mayOpen_59 : decode cc_O_mayOpen 59 = .ok (.iinc 4 (1), 3) := by decide +kernel
theorem dd_O_mayOpen_62 : decode cc_O_mayOpen 62 = .ok (.goto (-34), 3) := by decide +kernel
theorem dd_O_mayOpen_65 : decode cc_O_mayOpen 65 = .ok (.iconst 1, 1) := by decide +kernel
theorem dd_O_mayOpen_66 : decode cc_O_mayOpen 66 = .ok (.ireturn, 1) := by decide +kernel
theorem dd_O_cardOf_0 : decode cc_O_cardOf 0 = .ok (.iconst 0, 1) := by decide +kernel
theorem dd_O_cardOf_1 : decode cc_O_cardOf 1 = .ok (.istore_n 2, 1) := by decide +kernel
theorem dd_O_cardOf_2 : decode cc_O_cardOf 2 = .ok (.iload_n 2, 1) := by decide +kernel
theorem dd_O_cardOf_3 : decode cc_O_cardOf 3 = .ok (.bipush (52), 2) := by decide +kernel
theorem dd_O_cardOf_5 : decode cc_O_cardOf 5 = .ok (.if_icmp .ge (23), 3) := by decide +kernel
theorem dd_O_cardOf_8 : decode cc_O_cardOf 8 = .ok (.aload_n 0, 1) := by decide +kernel
theorem dd_O_cardOf_9 : decode cc_O_cardOf 9 = .ok (.getfield 18, 3) := by decide +kernel
theorem dd_O_cardOf_12 : decode cc_O_cardOf 12 = .ok (.iconst 0, 1) := by decide +kernel
theorem dd_O_cardOf_13 : decode cc_O_cardOf 13 = .ok (.aaload, 1) := by decide +kernel
theorem dd_O_cardOf_14 : decode cc_O_cardOf 14 = .ok (.iload_n 2, 1) := by decide +kernel
theorem dd_O_cardOf_15 : decode cc_O_cardOf 15 = .ok (.iaload, 1) := by decide +kernel
theorem dd_O_cardOf_16 : decode cc_O_cardOf 16 = .ok (.iload_n 1, 1) := by decide +kernel
theorem dd_O_cardOf_17 : decode cc_O_cardOf 17 = .ok (.if_icmp .ne (5), 3) := by decide +kernel
theorem dd_O_cardOf_20 : decode cc_O_cardOf 20 = .ok (.iload_n 2, 1) := by decide +kernel
theorem dd_O_cardOf_21 : decode cc_O_cardOf 21 = .ok (.ireturn, 1) := by decide +kernel
theorem dd_O_cardOf_22 : decode cc_O_cardOf 22 = .ok (.iinc 2 (1), 3) := by decide +kernel
theorem dd_O_cardOf_25 : decode cc_O_cardOf 25 = .ok (.goto (-23), 3) := by decide +kernel
theorem dd_O_cardOf_28 : decode cc_O_cardOf 28 = .ok (.bipush (52), 2) := by decide +kernel
theorem dd_O_cardOf_30 : decode cc_O_cardOf 30 = .ok (.ireturn, 1) := by decide +kernel
theorem dd_O_awaitAll_0 : decode cc_O_awaitAll 0 = .ok (.iconst 0, 1) := by decide +kernel
theorem dd_O_awaitAll_1 : decode cc_O_awaitAll 1 = .ok (.istore_n 1, 1) := by decide +kernel
theorem dd_O_awaitAll_2 : decode cc_O_awaitAll 2 = .ok (.iload_n 1, 1) := by decide +kernel
theorem dd_O_awaitAll_3 : decode cc_O_awaitAll 3 = .ok (.aload_n 0, 1) := by decide +kernel
theorem dd_O_awaitAll_4 : decode cc_O_awaitAll 4 = .ok (.getfield 51, 3) := by decide +kernel
theorem dd_O_awaitAll_7 : decode cc_O_awaitAll 7 = .ok (.if_icmp .ge (19), 3) := by decide +kernel
theorem dd_O_awaitAll_10 : decode cc_O_awaitAll 10 = .ok (.aload_n 0, 1) := by decide +kernel
theorem dd_O_awaitAll_11 : decode cc_O_awaitAll 11 = .ok (.getfield 11, 3) := by decide +kernel
theorem dd_O_awaitAll_14 : decode cc_O_awaitAll 14 = .ok (.iload_n 1, 1) := by decide +kernel
theorem dd_O_awaitAll_15 : decode cc_O_awaitAll 15 = .ok (.aaload, 1) := by decide +kernel
theorem dd_O_awaitAll_16 : decode cc_O_awaitAll 16 = .ok (.iconst 0, 1) := by decide +kernel
theorem dd_O_awaitAll_17 : decode cc_O_awaitAll 17 = .ok (.putfield 191, 3) := by decide +kernel
theorem dd_O_awaitAll_20 : decode cc_O_awaitAll 20 = .ok (.iinc 1 (1), 3) := by decide +kernel
theorem dd_O_awaitAll_23 : decode cc_O_awaitAll 23 = .ok (.goto (-21), 3) := by decide +kernel
theorem dd_O_awaitAll_26 : decode cc_O_awaitAll 26 = .ok (.return_, 1) := by decide +kernel
theorem dd_O_goOnWithRound_0 : decode cc_O_goOnWithRound 0 = .ok (.aload_n 0, 1) := by decide +kernel
theorem dd_O_goOnWithRound_1 : decode cc_O_goOnWithRound 1 = .ok (.aload_n 0, 1) := by decide +kernel
theorem dd_O_goOnWithRound_2 : decode cc_O_goOnWithRound 2 = .ok (.invokevirtual 253, 3) := by decide +kernel
theorem dd_O_goOnWithRound_5 : decode cc_O_goOnWithRound 5 = .ok (.iconst 2, 1) := by decide +kernel
theorem dd_O_goOnWithRound_6 : decode cc_O_goOnWithRound 6 = .ok (.if_icmp .ge (7), 3) := by decide +kernel
theorem dd_O_goOnWithRound_9 : decode cc_O_goOnWithRound 9 = .ok (.iconst (-1), 1) := by decide +kernel
theorem dd_O_goOnWithRound_10 : decode cc_O_goOnWithRound 10 = .ok (.goto (11), 3) := by decide +kernel
theorem dd_O_goOnWithRound_13 : decode cc_O_goOnWithRound 13 = .ok (.aload_n 0, 1) := by decide +kernel
theorem dd_O_goOnWithRound_14 : decode cc_O_goOnWithRound 14 = .ok (.aload_n 0, 1) := by decide +kernel
theorem dd_O_goOnWithRound_15 : decode cc_O_goOnWithRound 15 = .ok (.getfield 31, 3) := by decide +kernel
theorem dd_O_goOnWithRound_18 : decode cc_O_goOnWithRound 18 = .ok (.invokevirtual 170, 3) := by decide +kernel
theorem dd_O_goOnWithRound_21 : decode cc_O_goOnWithRound 21 = .ok (.putfield 31, 3) := by decide +kernel
theorem dd_O_goOnWithRound_24 : decode cc_O_goOnWithRound 24 = .ok (.aload_n 0, 1) := by decide +kernel
theorem dd_O_goOnWithRound_25 : decode cc_O_goOnWithRound 25 = .ok (.getfield 31, 3) := by decide +kernel
theorem dd_O_goOnWithRound_28 : decode cc_O_goOnWithRound 28 = .ok (.iconst (-1), 1) := by decide +kernel
theorem dd_O_goOnWithRound_29 : decode cc_O_goOnWithRound 29 = .ok (.if_icmp .eq (4), 3) := by decide +kernel
theorem dd_O_goOnWithRound_32 : decode cc_O_goOnWithRound 32 = .ok (.return_, 1) := by decide +kernel
theorem dd_O_goOnWithRound_33 : decode cc_O_goOnWithRound 33 = .ok (.iconst 0, 1) := by decide +kernel
theorem dd_O_goOnWithRound_34 : decode cc_O_goOnWithRound 34 = .ok (.istore_n 1, 1) := by decide +kernel
theorem dd_O_goOnWithRound_35 : decode cc_O_goOnWithRound 35 = .ok (.iload_n 1, 1) := by decide +kernel
theorem dd_O_goOnWithRound_36 : decode cc_O_goOnWithRound 36 = .ok (.aload_n 0, 1) := by decide +kernel
theorem dd_O_goOnWithRound_37 : decode cc_O_goOnWithRound 37 = .ok (.getfield 51, 3) := by decide +kernel
theorem dd_O_goOnWithRound_40 : decode cc_O_goOnWithRound 40 = .ok (.if_icmp .ge (19), 3) := by decide +kernel
theorem dd_O_goOnWithRound_43 : decode cc_O_goOnWithRound 43 = .ok (.aload_n 0, 1) := by decide +kernel
theorem dd_O_goOnWithRound_44 : decode cc_O_goOnWithRound 44 = .ok (.getfield 11, 3) := by decide +kernel
theorem dd_O_goOnWithRound_47 : decode cc_O_goOnWithRound 47 = .ok (.iload_n 1, 1) := by decide +kernel
theorem dd_O_goOnWithRound_48 : decode cc_O_goOnWithRound 48 = .ok (.aaload, 1) := by decide +kernel
theorem dd_O_goOnWithRound_49 : decode cc_O_goOnWithRound 49 = .ok (.iconst 0, 1) := by decide +kernel
theorem dd_O_goOnWithRound_50 : decode cc_O_goOnWithRound 50 = .ok (.putfield 176, 3) := by decide +kernel
theorem dd_O_goOnWithRound_53 : decode cc_O_goOnWithRound 53 = .ok (.iinc 1 (1), 3) := by decide +kernel
theorem dd_O_goOnWithRound_56 : decode cc_O_goOnWithRound 56 = .ok (.goto (-21), 3) := by decide +kernel
theorem dd_O_goOnWithRound_59 : decode cc_O_goOnWithRound 59 = .ok (.return_, 1) := by decide +kernel
theorem dd_O_nextToAct_0 : decode cc_O_nextToAct 0 = .ok (.iconst 1, 1) := by decide +kernel
theorem dd_O_nextToAct_1 : decode cc_O_nextToAct 1 = .ok (.istore_n 2, 1) := by decide +kernel
theorem dd_O_nextToAct_2 : decode cc_O_nextToAct 2 = .ok (.iload_n 2, 1) := by decide +kernel
theorem dd_O_nextToAct_3 : decode cc_O_nextToAct 3 = .ok (.aload_n 0, 1) := by decide +kernel
theorem dd_O_nextToAct_4 : decode cc_O_nextToAct 4 = .ok (.getfield 51, 3) := by decide +kernel
theorem dd_O_nextToAct_7 : decode cc_O_nextToAct 7 = .ok (.if_icmp .gt (68), 3) := by decide +kernel
theorem dd_O_nextToAct_10 : decode cc_O_nextToAct 10 = .ok (.iload_n 1, 1) := by decide +kernel
theorem dd_O_nextToAct_11 : decode cc_O_nextToAct 11 = .ok (.iload_n 2, 1) := by decide +kernel
theorem dd_O_nextToAct_12 : decode cc_O_nextToAct 12 = .ok (.iadd, 1) := by decide +kernel
theorem dd_O_nextToAct_13 : decode cc_O_nextToAct 13 = .ok (.aload_n 0, 1) := by decide +kernel
theorem dd_O_nextToAct_14 : decode cc_O_nextToAct 14 = .ok (.getfield 51, 3) := by decide +kernel
theorem dd_O_nextToAct_17 : decode cc_O_nextToAct 17 = .ok (.if_icmp .ge (9), 3) := by decide +kernel
theorem dd_O_nextToAct_20 : decode cc_O_nextToAct 20 = .ok (.iload_n 1, 1) := by decide +kernel
theorem dd_O_nextToAct_21 : decode cc_O_nextToAct 21 = .ok (.iload_n 2, 1) := by decide +kernel
theorem dd_O_nextToAct_22 : decode cc_O_nextToAct 22 = .ok (.iadd, 1) := by decide +kernel
theorem dd_O_nextToAct_23 : decode cc_O_nextToAct 23 = .ok (.goto (11), 3) := by decide +kernel
theorem dd_O_nextToAct_26 : decode cc_O_nextToAct 26 = .ok (.iload_n 1, 1) := by decide +kernel
theorem dd_O_nextToAct_27 : decode cc_O_nextToAct 27 = .ok (.iload_n 2, 1) := by decide +kernel
theorem dd_O_nextToAct_28 : decode cc_O_nextToAct 28 = .ok (.iadd, 1) := by decide +kernel
theorem dd_O_nextToAct_29 : decode cc_O_nextToAct 29 = .ok (.aload_n 0, 1) := by decide +kernel
theorem dd_O_nextToAct_30 : decode cc_O_nextToAct 30 = .ok (.getfield 51, 3) := by decide +kernel
theorem dd_O_nextToAct_33 : decode cc_O_nextToAct 33 = .ok (.isub, 1) := by decide +kernel
theorem dd_O_nextToAct_34 : decode cc_O_nextToAct 34 = .ok (.istore_n 3, 1) := by decide +kernel
theorem dd_O_nextToAct_35 : decode cc_O_nextToAct 35 = .ok (.aload_n 0, 1) := by decide +kernel
theorem dd_O_nextToAct_36 : decode cc_O_nextToAct 36 = .ok (.iload_n 3, 1) := by decide +kernel
theorem dd_O_nextToAct_37 : decode cc_O_nextToAct 37 = .ok (.invokevirtual 74, 3) := by decide +kernel
theorem dd_O_nextToAct_40 : decode cc_O_nextToAct 40 = .ok (.ifCond .eq (29), 3) := by decide +kernel
theorem dd_O_nextToAct_43 : decode cc_O_nextToAct 43 = .ok (.aload_n 0, 1) := by decide +kernel
theorem dd_O_nextToAct_44 : decode cc_O_nextToAct 44 = .ok (.getfield 11, 3) := by decide +kernel
theorem dd_O_nextToAct_47 : decode cc_O_nextToAct 47 = .ok (.iload_n 3, 1) := by decide +kernel
theorem dd_O_nextToAct_48 : decode cc_O_nextToAct 48 = .ok (.aaload, 1) := by decide +kernel
theorem dd_O_nextToAct_49 : decode cc_O_nextToAct 49 = .ok (.invokevirtual 256, 3) := by decide +kernel
theorem dd_O_nextToAct_52 : decode cc_O_nextToAct 52 = .ok (.ifCond .eq (17), 3) := by decide +kernel
theorem dd_O_nextToAct_55 : decode cc_O_nextToAct 55 = .ok (.aload_n 0, 1) := by decide +kernel
theorem dd_O_nextToAct_56 : decode cc_O_nextToAct 56 = .ok (.getfield 11, 3) := by decide +kernel
theorem dd_O_nextToAct_59 : decode cc_O_nextToAct 59 = .ok (.iload_n 3, 1) := by decide +kernel
theorem dd_O_nextToAct_60 : decode cc_O_nextToAct 60 = .ok (.aaload, 1) := by decide +kernel
theorem dd_O_nextToAct_61 : decode cc_O_nextToAct 61 = .ok (.getfield 191, 3) := by decide +kernel
theorem dd_O_nextToAct_64 : decode cc_O_nextToAct 64 = .ok (.ifCond .ne (5), 3) := by decide +kernel
theorem dd_O_nextToAct_67 : decode cc_O_nextToAct 67 = .ok (.iload_n 3, 1) := by decide +kernel
theorem dd_O_nextToAct_68 : decode cc_O_nextToAct 68 = .ok (.ireturn, 1) := by decide +kernel
theorem dd_O_nextToAct_69 : decode cc_O_nextToAct 69 = .ok (.iinc 2 (1), 3) := by decide +kernel
theorem dd_O_nextToAct_72 : decode cc_O_nextToAct 72 = .ok (.goto (-70), 3) := by decide +kernel
theorem dd_O_nextToAct_75 : decode cc_O_nextToAct 75 = .ok (.iconst (-1), 1) := by decide +kernel
theorem dd_O_nextToAct_76 : decode cc_O_nextToAct 76 = .ok (.ireturn, 1) := by decide +kernel
theorem dd_O_countIn_0 : decode cc_O_countIn 0 = .ok (.iconst 0, 1) := by decide +kernel
theorem dd_O_countIn_1 : decode cc_O_countIn 1 = .ok (.istore_n 1, 1) := by decide +kernel
theorem dd_O_countIn_2 : decode cc_O_countIn 2 = .ok (.iconst 0, 1) := by decide +kernel
theorem dd_O_countIn_3 : decode cc_O_countIn 3 = .ok (.istore_n 2, 1) := by decide +kernel
theorem dd_O_countIn_4 : decode cc_O_countIn 4 = .ok (.iload_n 2, 1) := by decide +kernel
theorem dd_O_countIn_5 : decode cc_O_countIn 5 = .ok (.aload_n 0, 1) := by decide +kernel
theorem dd_O_countIn_6 : decode cc_O_countIn 6 = .ok (.getfield 51, 3) := by decide +kernel
theorem dd_O_countIn_9 : decode cc_O_countIn 9 = .ok (.if_icmp .ge (24), 3) := by decide +kernel
theorem dd_O_countIn_12 : decode cc_O_countIn 12 = .ok (.aload_n 0, 1) := by decide +kernel
theorem dd_O_countIn_13 : decode cc_O_countIn 13 = .ok (.getfield 11, 3) := by decide +kernel
theorem dd_O_countIn_16 : decode cc_O_countIn 16 = .ok (.iload_n 2, 1) := by decide +kernel
theorem dd_O_countIn_17 : decode cc_O_countIn 17 = .ok (.aaload, 1) := by decide +kernel
theorem dd_O_countIn_18 : decode cc_O_countIn 18 = .ok (.getfield 179, 3) := by decide +kernel
theorem dd_O_countIn_21 : decode cc_O_countIn 21 = .ok (.ifCond .ne (6), 3) := by decide +kernel
theorem dd_O_countIn_24 : decode cc_O_countIn 24 = .ok (.iinc 1 (1), 3) := by decide +kernel
theorem dd_O_countIn_27 : decode cc_O_countIn 27 = .ok (.iinc 2 (1), 3) := by decide +kernel
theorem dd_O_countIn_30 : decode cc_O_countIn 30 = .ok (.goto (-26), 3) := by decide +kernel
theorem dd_O_countIn_33 : decode cc_O_countIn 33 = .ok (.iload_n 1, 1) := by decide +kernel
theorem dd_O_countIn_34 : decode cc_O_countIn 34 = .ok (.ireturn, 1) := by decide +kernel
theorem dd_O_countAbleToAct_0 : decode cc_O_countAbleToAct 0 = .ok (.iconst 0, 1) := by decide +kernel
theorem dd_O_countAbleToAct_1 : decode cc_O_countAbleToAct 1 = .ok (.istore_n 1, 1) := by decide +kernel
theorem dd_O_countAbleToAct_2 : decode cc_O_countAbleToAct 2 = .ok (.iconst 0, 1) := by decide +kernel
theorem dd_O_countAbleToAct_3 : decode cc_O_countAbleToAct 3 = .ok (.istore_n 2, 1) := by decide +kernel
theorem dd_O_countAbleToAct_4 : decode cc_O_countAbleToAct 4 = .ok (.iload_n 2, 1) := by decide +kernel
theorem dd_O_countAbleToAct_5 : decode cc_O_countAbleToAct 5 = .ok (.aload_n 0, 1) := by decide +kernel
theorem dd_O_countAbleToAct_6 : decode cc_O_countAbleToAct 6 = .ok (.getfield 51, 3) := by decide +kernel
theorem dd_O_countAbleToAct_9 : decode cc_O_countAbleToAct 9 = .ok (.if_icmp .ge (24), 3) := by decide +kernel
theorem dd_O_countAbleToAct_12 : decode cc_O_countAbleToAct 12 = .ok (.aload_n 0, 1) := by decide +kernel
theorem dd_O_countAbleToAct_13 : decode cc_O_countAbleToAct 13 = .ok (.getfield 11, 3) := by decide +kernel
theorem dd_O_countAbleToAct_16 : decode cc_O_countAbleToAct 16 = .ok (.iload_n 2, 1) := by decide +kernel
theorem dd_O_countAbleToAct_17 : decode cc_O_countAbleToAct 17 = .ok (.aaload, 1) := by decide +kernel
theorem dd_O_countAbleToAct_18 : decode cc_O_countAbleToAct 18 = .ok (.invokevirtual 256, 3) := by decide +kernel
theorem dd_O_countAbleToAct_21 : decode cc_O_countAbleToAct 21 = .ok (.ifCond .eq (6), 3) := by decide +kernel
theorem dd_O_countAbleToAct_24 : decode cc_O_countAbleToAct 24 = .ok (.iinc 1 (1), 3) := by decide +kernel
theorem dd_O_countAbleToAct_27 : decode cc_O_countAbleToAct 27 = .ok (.iinc 2 (1), 3) := by decide +kernel
theorem dd_O_countAbleToAct_30 : decode cc_O_countAbleToAct 30 = .ok (.goto (-26), 3) := by decide +kernel
theorem dd_O_countAbleToAct_33 : decode cc_O_countAbleToAct 33 = .ok (.iload_n 1, 1) := by decide +kernel
theorem dd_O_countAbleToAct_34 : decode cc_O_countAbleToAct 34 = .ok (.ireturn, 1) := by decide +kernel
theorem dd_O_mostInRound_0 : decode cc_O_mostInRound 0 = .ok (.iconst 0, 1) := by decide +kernel
theorem dd_O_mostInRound_1 : decode cc_O_mostInRound 1 = .ok (.istore_n 1, 1) := by decide +kernel
theorem dd_O_mostInRound_2 : decode cc_O_mostInRound 2 = .ok (.iconst 0, 1) := by decide +kernel
theorem dd_O_mostInRound_3 : decode cc_O_mostInRound 3 = .ok (.istore_n 2, 1) := by decide +kernel
theorem dd_O_mostInRound_4 : decode cc_O_mostInRound 4 = .ok (.iload_n 2, 1) := by decide +kernel
theorem dd_O_mostInRound_5 : decode cc_O_mostInRound 5 = .ok (.aload_n 0, 1) := by decide +kernel
theorem dd_O_mostInRound_6 : decode cc_O_mostInRound 6 = .ok (.getfield 51, 3) := by decide +kernel
theorem dd_O_mostInRound_9 : decode cc_O_mostInRound 9 = .ok (.if_icmp .ge (23), 3) := by decide +kernel
theorem dd_O_mostInRound_12 : decode cc_O_mostInRound 12 = .ok (.iload_n 1, 1) := by decide +kernel
theorem dd_O_mostInRound_13 : decode cc_O_mostInRound 13 = .ok (.aload_n 0, 1) := by decide +kernel
theorem dd_O_mostInRound_14 : decode cc_O_mostInRound 14 = .ok (.getfield 11, 3) := by decide +kernel
theorem dd_O_mostInRound_17 : decode cc_O_mostInRound 17 = .ok (.iload_n 2, 1) := by decide +kernel
theorem dd_O_mostInRound_18 : decode cc_O_mostInRound 18 = .ok (.aaload, 1) := by decide +kernel
theorem dd_O_mostInRound_19 : decode cc_O_mostInRound 19 = .ok (.getfield 176, 3) := by decide +kernel
theorem dd_O_mostInRound_22 : decode cc_O_mostInRound 22 = .ok (.invokestatic 259, 3) := by decide +kernel
theorem dd_O_mostInRound_25 : decode cc_O_mostInRound 25 = .ok (.istore_n 1, 1) := by decide +kernel
theorem dd_O_mostInRound_26 : decode cc_O_mostInRound 26 = .ok (.iinc 2 (1), 3) := by decide +kernel
theorem dd_O_mostInRound_29 : decode cc_O_mostInRound 29 = .ok (.goto (-25), 3) := by decide +kernel
theorem dd_O_mostInRound_32 : decode cc_O_mostInRound 32 = .ok (.iload_n 1, 1) := by decide +kernel
theorem dd_O_mostInRound_33 : decode cc_O_mostInRound 33 = .ok (.ireturn, 1) := by decide +kernel
theorem dd_O_sumInHand_0 : decode cc_O_sumInHand 0 = .ok (.iconst 0, 1) := by decide +kernel
theorem dd_O_sumInHand_1 : decode cc_O_sumInHand 1 = .ok (.istore_n 1, 1) := by decide +kernel
theorem dd_O_sumInHand_2 : decode cc_O_sumInHand 2 = .ok (.iconst 0, 1) := by decide +kernel
theorem dd_O_sumInHand_3 : decode cc_O_sumInHand 3 = .ok (.istore_n 2, 1) := by decide +kernel
theorem dd_O_sumInHand_4 : decode cc_O_sumInHand 4 = .ok (.iload_n 2, 1) := by decide +kernel
theorem dd_O_sumInHand_5 : decode cc_O_sumInHand 5 = .ok (.aload_n 0, 1) := by decide +kernel
theorem dd_O_sumInHand_6 : decode cc_O_sumInHand 6 = .ok (.getfield 51, 3) := by decide +kernel
theorem dd_O_sumInHand_9 : decode cc_O_sumInHand 9 = .ok (.if_icmp .ge (21), 3) := by decide +kernel
theorem dd_O_sumInHand_12 : decode cc_O_sumInHand 12 = .ok (.iload_n 1, 1) := by decide +kernel
theorem dd_O_sumInHand_13 : decode cc_O_sumInHand 13 = .ok (.aload_n 0, 1) := by decide +kernel
theorem dd_O_sumInHand_14 : decode cc_O_sumInHand 14 = .ok (.getfield 11, 3) := by decide +kernel
theorem dd_O_sumInHand_17 : decode cc_O_sumInHand 17 = .ok (.iload_n 2, 1) := by decide +kernel
theorem dd_O_sumInHand_18 : decode cc_O_sumInHand 18 = .ok (.aaload, 1) := by decide +kernel
theorem dd_O_sumInHand_19 : decode cc_O_sumInHand 19 = .ok (.getfield 231, 3) := by decide +kernel
theorem dd_O_sumInHand_22 : decode cc_O_sumInHand 22 = .ok (.iadd, 1) := by decide +kernel
theorem dd_O_sumInHand_23 : decode cc_O_sumInHand 23 = .ok (.istore_n 1, 1) := by decide +kernel
theorem dd_O_sumInHand_24 : decode cc_O_sumInHand 24 = .ok (.iinc 2 (1), 3) := by decide +kernel
theorem dd_O_sumInHand_27 : decode cc_O_sumInHand 27 = .ok (.goto (-23), 3) := by decide +kernel
theorem dd_O_sumInHand_30 : decode cc_O_sumInHand 30 = .ok (.iload_n 1, 1) := by decide +kernel
theorem dd_O_sumInHand_31 : decode cc_O_sumInHand 31 = .ok (.ireturn, 1) := by decide +kernel
theorem dd_O_leastInHand_0 : decode cc_O_leastInHand 0 = .ok (.iconst 0, 1) := by decide +kernel
theorem dd_O_leastInHand_1 : decode cc_O_leastInHand 1 = .ok (.istore_n 1, 1) := by decide +kernel
theorem dd_O_leastInHand_2 : decode cc_O_leastInHand 2 = .ok (.iconst 0, 1) := by decide +kernel
theorem dd_O_leastInHand_3 : decode cc_O_leastInHand 3 = .ok (.istore_n 2, 1) := by decide +kernel
theorem dd_O_leastInHand_4 : decode cc_O_leastInHand 4 = .ok (.iload_n 2, 1) := by decide +kernel
theorem dd_O_leastInHand_5 : decode cc_O_leastInHand 5 = .ok (.aload_n 0, 1) := by decide +kernel
theorem dd_O_leastInHand_6 : decode cc_O_leastInHand 6 = .ok (.getfield 51, 3) := by decide +kernel
theorem dd_O_leastInHand_9 : decode cc_O_leastInHand 9 = .ok (.if_icmp .ge (34), 3) := by decide +kernel
theorem dd_O_leastInHand_12 : decode cc_O_leastInHand 12 = .ok (.aload_n 0, 1) := by decide +kernel
theorem dd_O_leastInHand_13 : decode cc_O_leastInHand 13 = .ok (.getfield 11, 3) := by decide +kernel
theorem dd_O_leastInHand_16 : decode cc_O_leastInHand 16 = .ok (.iload_n 2, 1) := by decide +kernel
theorem dd_O_leastInHand_17 : decode cc_O_leastInHand 17 = .ok (.aaload, 1) := by decide +kernel
theorem dd_O_leastInHand_18 : decode cc_O_leastInHand 18 = .ok (.getfield 231, 3) := by decide +kernel
theorem dd_O_leastInHand_21 : decode cc_O_leastInHand 21 = .ok (.istore_n 3, 1) := by decide +kernel
theorem dd_O_leastInHand_22 : decode cc_O_leastInHand 22 = .ok (.iload_n 3, 1) := by decide +kernel
theorem dd_O_leastInHand_23 : decode cc_O_leastInHand 23 = .ok (.ifCond .le (14), 3) := by decide +kernel
theorem dd_O_leastInHand_26 : decode cc_O_leastInHand 26 = .ok (.iload_n 1, 1) := by decide +kernel
theorem dd_O_leastInHand_27 : decode cc_O_leastInHand 27 = .ok (.ifCond .eq (8), 3) := by decide +kernel
theorem dd_O_leastInHand_30 : decode cc_O_leastInHand 30 = .ok (.iload_n 3, 1) := by decide +kernel
theorem dd_O_leastInHand_31 : decode cc_O_leastInHand 31 = .ok (.iload_n 1, 1) := by decide +kernel
theorem dd_O_leastInHand_32 : decode cc_O_leastInHand 32 = .ok (.if_icmp .ge (5), 3) := by decide +kernel
theorem dd_O_leastInHand_35 : decode cc_O_leastInHand 35 = .ok (.iload_n 3, 1) := by decide +kernel
theorem dd_O_leastInHand_36 : decode cc_O_leastInHand 36 = .ok (.istore_n 1, 1) := by decide +kernel
theorem dd_O_leastInHand_37 : decode cc_O_leastInHand 37 = .ok (.iinc 2 (1), 3) := by decide +kernel
theorem dd_O_leastInHand_40 : decode cc_O_leastInHand 40 = .ok (.goto (-36), 3) := by decide +kernel
theorem dd_O_leastInHand_43 : decode cc_O_leastInHand 43 = .ok (.iload_n 1, 1) := by decide +kernel
theorem dd_O_leastInHand_44 : decode cc_O_leastInHand 44 = .ok (.ireturn, 1) := by decide +kernel
theorem dd_O_payLayer_0 : decode cc_O_payLayer 0 = .ok (.aload_n 0, 1) := by decide +kernel
theorem dd_O_payLayer_1 : decode cc_O_payLayer 1 = .ok (.iload_n 2, 1) := by decide +kernel
theorem dd_O_payLayer_2 : decode cc_O_payLayer 2 = .ok (.invokevirtual 262, 3) := by decide +kernel
theorem dd_O_payLayer_5 : decode cc_O_payLayer 5 = .ok (.istore_n 3, 1) := by decide +kernel
theorem dd_O_payLayer_6 : decode cc_O_payLayer 6 = .ok (.iconst 0, 1) := by decide +kernel
theorem dd_O_payLayer_7 : decode cc_O_payLayer 7 = .ok (.istore 4, 2) := by decide +kernel
theorem dd_O_payLayer_9 : decode cc_O_payLayer 9 = .ok (.iconst 0, 1) := by decide +kernel
theorem dd_O_payLayer_10 : decode cc_O_payLayer 10 = .ok (.istore 5, 2) := by decide +kernel
theorem dd_O_payLayer_12 : decode cc_O_payLayer 12 = .ok (.iconst 0, 1) := by decide +kernel
theorem dd_O_payLayer_13 : decode cc_O_payLayer 13 = .ok (.istore 6, 2) := by decide +kernel
theorem dd_O_payLayer_15 : decode cc_O_payLayer 15 = .ok (.iload 6, 2) := by decide +kernel
theorem dd_O_payLayer_17 : decode cc_O_payLayer 17 = .ok (.aload_n 0, 1) := by decide +kernel
theorem dd_O_payLayer_18 : decode cc_O_payLayer 18 = .ok (.getfield 51, 3) := by decide +kernel
theorem dd_O_payLayer_21 : decode cc_O_payLayer 21 = .ok (.if_icmp .ge (42), 3) := by decide +kernel
theorem dd_O_payLayer_24 : decode cc_O_payLayer 24 = .ok (.aload_n 0, 1) := by decide +kernel
theorem dd_O_payLayer_25 : decode cc_O_payLayer 25 = .ok (.getfield 11, 3) := by decide +kernel
theorem dd_O_payLayer_28 : decode cc_O_payLayer 28 = .ok (.iload 6, 2) := by decide +kernel
theorem dd_O_payLayer_30 : decode cc_O_payLayer 30 = .ok (.aaload, 1) := by decide +kernel
theorem dd_O_payLayer_31 : decode cc_O_payLayer 31 = .ok (.getfield 231, 3) := by decide +kernel
theorem dd_O_payLayer_34 : decode cc_O_payLayer 34 = .ok (.ifCond .le (9), 3) := by decide +kernel
theorem dd_O_payLayer_37 : decode cc_O_payLayer 37 = .ok (.iload 4, 2) := by decide +kernel
theorem dd_O_payLayer_39 : decode cc_O_payLayer 39 = .ok (.iload_n 1, 1) := by decide +kernel
theorem dd_O_payLayer_40 : decode cc_O_payLayer 40 = .ok (.iadd, 1) := by decide +kernel
theorem dd_O_payLayer_41 : decode cc_O_payLayer 41 = .ok (.istore 4, 2) := by decide +kernel
theorem dd_O_payLayer_43 : decode cc_O_payLayer 43 = .ok (.aload_n 0, 1) := by decide +kernel
theorem dd_O_payLayer_44 : decode cc_O_payLayer 44 = .ok (.iload 6, 2) := by decide +kernel
theorem dd_O_payLayer_46 : decode cc_O_payLayer 46 = .ok (.iload_n 2, 1) := by decide +kernel
theorem dd_O_payLayer_47 : decode cc_O_payLayer 47 = .ok (.iload_n 3, 1) := by decide +kernel
theorem dd_O_payLayer_48 : decode cc_O_payLayer 48 = .ok (.invokevirtual 265, 3) := by decide +kernel
theorem dd_O_payLayer_51 : decode cc_O_payLayer 51 = .ok (.ifCond .eq (6), 3) := by decide +kernel
theorem dd_O_payLayer_54 : decode cc_O_payLayer 54 = .ok (.iinc 5 (1), 3) := by decide +kernel
theorem dd_O_payLayer_57 : decode cc_O_payLayer 57 = .ok (.iinc 6 (1), 3) := by decide +kernel
theorem dd_O_payLayer_60 : decode cc_O_payLayer 60 = .ok (.goto (-45), 3) := by decide +kernel
theorem dd_O_payLayer_63 : decode cc_O_payLayer 63 = .ok (.iload 5, 2) := by decide +kernel
theorem dd_O_payLayer_65 : decode cc_O_payLayer 65 = .ok (.ifCond .le (11), 3) := by decide +kernel
theorem dd_O_payLayer_68 : decode cc_O_payLayer 68 = .ok (.iload 4, 2) := by decide +kernel
theorem dd_O_payLayer_70 : decode cc_O_payLayer 70 = .ok (.iload 5, 2) := by decide +kernel
theorem dd_O_payLayer_72 : decode cc_O_payLayer 72 = .ok (.idiv, 1) := by decide +kernel
theorem dd_O_payLayer_73 : decode cc_O_payLayer 73 = .ok (.goto (4), 3) := by decide +kernel
theorem dd_O_payLayer_76 : decode cc_O_payLayer 76 = .ok (.iconst 0, 1) := by decide +kernel
theorem dd_O_payLayer_77 : decode cc_O_payLayer 77 = .ok (.istore 6, 2) := by decide +kernel
theorem dd_O_payLayer_79 : decode cc_O_payLayer 79 = .ok (.iload 4, 2) := by decide +kernel
theorem dd_O_payLayer_81 : decode cc_O_payLayer 81 = .ok (.iload 6, 2) := by decide +kernel
theorem dd_O_payLayer_83 : decode cc_O_payLayer 83 = .ok (.iload 5, 2) := by decide +kernel
theorem dd_O_payLayer_85 : decode cc_O_payLayer 85 = .ok (.imul, 1) := by decide +kernel
theorem dd_O_payLayer_86 : decode cc_O_payLayer 86 = .ok (.isub, 1) := by decide +kernel
theorem dd_O_payLayer_87 : decode cc_O_payLayer 87 = .ok (.istore 7, 2) := by decide +kernel
theorem dd_O_payLayer_89 : decode cc_O_payLayer 89 = .ok (.iconst 0, 1) := by decide +kernel
theorem dd_O_payLayer_90 : decode cc_O_payLayer 90 = .ok (.istore 8, 2) := by decide +kernel
theorem dd_O_payLayer_92 : decode cc_O_payLayer 92 = .ok (.iload 8, 2) := by decide +kernel
theorem dd_O_payLayer_94 : decode cc_O_payLayer 94 = .ok (.aload_n 0, 1) := by decide +kernel
theorem dd_O_payLayer_95 : decode cc_O_payLayer 95 = .ok (.getfield 51, 3) := by decide +kernel
theorem dd_O_payLayer_98 : decode cc_O_payLayer 98 = .ok (.if_icmp .ge (97), 3) := by decide +kernel
theorem dd_O_payLayer_101 : decode cc_O_payLayer 101 = .ok (.aload_n 0, 1) := by decide +kernel
theorem dd_O_payLayer_102 : decode cc_O_payLayer 102 = .ok (.getfield 11, 3) := by decide +kernel
theorem dd_O_payLayer_105 : decode cc_O_payLayer 105 = .ok (.iload 8, 2) := by decide +kernel
theorem dd_O_payLayer_107 : decode cc_O_payLayer 107 = .ok (.aaload, 1) := by decide +kernel
theorem dd_O_payLayer_108 : decode cc_O_payLayer 108 = .ok (.astore 9, 2) := by decide +kernel
theorem dd_O_payLayer_110 : decode cc_O_payLayer 110 = .ok (.iload 5, 2) := by decide +kernel
theorem dd_O_payLayer_112 : decode cc_O_payLayer 112 = .ok (.ifCond .ne (25), 3) := by decide +kernel
theorem dd_O_payLayer_115 : decode cc_O_payLayer 115 = .ok (.aload 9, 2) := by decide +kernel
theorem dd_O_payLayer_117 : decode cc_O_payLayer 117 = .ok (.getfield 231, 3) := by decide +kernel
theorem dd_O_payLayer_120 : decode cc_O_payLayer 120 = .ok (.ifCond .le (17), 3) := by decide +kernel
theorem dd_O_payLayer_123 : decode cc_O_payLayer 123 = .ok (.aload 9, 2) := by decide +kernel
theorem dd_O_payLayer_125 : decode cc_O_payLayer 125 = .ok (.dup, 1) := by decide +kernel
theorem dd_O_payLayer_126 : decode cc_O_payLayer 126 = .ok (.getfield 58, 3) := by decide +kernel
theorem dd_O_payLayer_129 : decode cc_O_payLayer 129 = .ok (.iload_n 1, 1) := by decide +kernel
theorem dd_O_payLayer_130 : decode cc_O_payLayer 130 = .ok (.iadd, 1) := by decide +kernel
theorem dd_O_payLayer_131 : decode cc_O_payLayer 131 = .ok (.putfield 58, 3) := by decide +kernel
theorem dd_O_payLayer_134 : decode cc_O_payLayer 134 = .ok (.goto (32), 3) := by decide +kernel
theorem dd_O_payLayer_137 : decode cc_O_payLayer 137 = .ok (.aload_n 0, 1) := by decide +kernel
theorem dd_O_payLayer_138 : decode cc_O_payLayer 138 = .ok (.iload 8, 2) := by decide +kernel
theorem dd_O_payLayer_140 : decode cc_O_payLayer 140 = .ok (.iload_n 2, 1) := by decide +kernel
theorem dd_O_payLayer_141 : decode cc_O_payLayer 141 = .ok (.iload_n 3, 1) := by decide +kernel
theorem dd_O_payLayer_142 : decode cc_O_payLayer 142 = .ok (.invokevirtual 265, 3) := by decide +kernel
theorem dd_O_payLayer_145 : decode cc_O_payLayer 145 = .ok (.ifCond .eq (21), 3) := by decide +kernel
theorem dd_O_payLayer_148 : decode cc_O_payLayer 148 = .ok (.aload 9, 2) := by decide +kernel
theorem dd_O_payLayer_150 : decode cc_O_payLayer 150 = .ok (.dup, 1) := by decide +kernel
theorem dd_O_payLayer_151 : decode cc_O_payLayer 151 = .ok (.getfield 58, 3) := by decide +kernel
theorem dd_O_payLayer_154 : decode cc_O_payLayer 154 = .ok (.iload 6, 2) := by decide +kernel
theorem dd_O_payLayer_156 : decode cc_O_payLayer 156 = .ok (.iload 7, 2) := by decide +kernel
theorem dd_O_payLayer_158 : decode cc_O_payLayer 158 = .ok (.iadd, 1) := by decide +kernel
theorem dd_O_payLayer_159 : decode cc_O_payLayer 159 = .ok (.iadd, 1) := by decide +kernel
theorem dd_O_payLayer_160 : decode cc_O_payLayer 160 = .ok (.putfield 58, 3) := by decide +kernel
theorem dd_O_payLayer_163 : decode cc_O_payLayer 163 = .ok (.iconst 0, 1) := by decide +kernel
theorem dd_O_payLayer_164 : decode cc_O_payLayer 164 = .ok (.istore 7, 2) := by decide +kernel
theorem dd_O_payLayer_166 : decode cc_O_payLayer 166 = .ok (.aload 9, 2) := by decide +kernel
theorem dd_O_payLayer_168 : decode cc_O_payLayer 168 = .ok (.dup, 1) := by decide +kernel
theorem dd_O_payLayer_169 : decode cc_O_payLayer 169 = .ok (.getfield 231, 3) := by decide +kernel
theorem dd_O_payLayer_172 : decode cc_O_payLayer 172 = .ok (.aload 9, 2) := by decide +kernel
theorem dd_O_payLayer_174 : decode cc_O_payLayer 174 = .ok (.getfield 231, 3) := by decide +kernel
theorem dd_O_payLayer_177 : decode cc_O_payLayer 177 = .ok (.ifCond .le (7), 3) := by decide +kernel
theorem dd_O_payLayer_180 : decode cc_O_payLayer 180 = .ok (.iload_n 1, 1) := by decide +kernel
theorem dd_O_payLayer_181 : decode cc_O_payLayer 181 = .ok (.goto (4), 3) := by decide +kernel
theorem dd_O_payLayer_184 : decode cc_O_payLayer 184 = .ok (.iconst 0, 1) := by decide +kernel
theorem dd_O_payLayer_185 : decode cc_O_payLayer 185 = .ok (.isub, 1) := by decide +kernel
theorem dd_O_payLayer_186 : decode cc_O_payLayer 186 = .ok (.putfield 231, 3) := by decide +kernel
theorem dd_O_payLayer_189 : decode cc_O_payLayer 189 = .ok (.iinc 8 (1), 3) := by decide +kernel
theorem dd_O_payLayer_192 : decode cc_O_payLayer 192 = .ok (.goto (-100), 3) := by decide +kernel
theorem dd_O_payLayer_195 : decode cc_O_payLayer 195 = .ok (.return_, 1) := by decide +kernel
theorem dd_O_winsLayer_0 : decode cc_O_winsLayer 0 = .ok (.aload_n 0, 1) := by decide +kernel
theorem dd_O_winsLayer_1 : decode cc_O_winsLayer 1 = .ok (.getfield 11, 3) := by decide +kernel
theorem dd_O_winsLayer_4 : decode cc_O_winsLayer 4 = .ok (.iload_n 1, 1) := by decide +kernel
theorem dd_O_winsLayer_5 : decode cc_O_winsLayer 5 = .ok (.aaload, 1) := by decide +kernel
theorem dd_O_winsLayer_6 : decode cc_O_winsLayer 6 = .ok (.invokevirtual 269, 3) := by decide +kernel
theorem dd_O_winsLayer_9 : decode cc_O_winsLayer 9 = .ok (.ifCond .eq (16), 3) := by decide +kernel
theorem dd_O_winsLayer_12 : decode cc_O_winsLayer 12 = .ok (.iload_n 1, 1) := by decide +kernel
theorem dd_O_winsLayer_13 : decode cc_O_winsLayer 13 = .ok (.iload_n 2, 1) := by decide +kernel
theorem dd_O_winsLayer_14 : decode cc_O_winsLayer 14 = .ok (.invokestatic 272, 3) := by decide +kernel
theorem dd_O_winsLayer_17 : decode cc_O_winsLayer 17 = .ok (.iload_n 3, 1) := by decide +kernel
theorem dd_O_winsLayer_18 : decode cc_O_winsLayer 18 = .ok (.if_icmp .ne (7), 3) := by decide +kernel
theorem dd_O_winsLayer_21 : decode cc_O_winsLayer 21 = .ok (.iconst 1, 1) := by decide +kernel
theorem dd_O_winsLayer_22 : decode cc_O_winsLayer 22 = .ok (.goto (4), 3) := by decide +kernel
theorem dd_O_winsLayer_25 : decode cc_O_winsLayer 25 = .ok (.iconst 0, 1) := by decide +kernel
theorem dd_O_winsLayer_26 : decode cc_O_winsLayer 26 = .ok (.ireturn, 1) := by decide +kernel
theorem dd_O_bestRank_0 : decode cc_O_bestRank 0 = .ok (.iconst (-1), 1) := by decide +kernel
theorem dd_O_bestRank_1 : decode cc_O_bestRank 1 = .ok (.istore_n 2, 1) := by decide +kernel
theorem dd_O_bestRank_2 : decode cc_O_bestRank 2 = .ok (.iconst 0, 1) := by decide +kernel
theorem dd_O_bestRank_3 : decode cc_O_bestRank 3 = .ok (.istore_n 3, 1) := by decide +kernel
theorem dd_O_bestRank_4 : decode cc_O_bestRank 4 = .ok (.iload_n 3, 1) := by decide +kernel
theorem dd_O_bestRank_5 : decode cc_O_bestRank 5 = .ok (.aload_n 0, 1) := by decide +kernel
theorem dd_O_bestRank_6 : decode cc_O_bestRank 6 = .ok (.getfield 51, 3) := by decide +kernel
theorem dd_O_bestRank_9 : decode cc_O_bestRank 9 = .ok (.if_icmp .ge (31), 3) := by decide +kernel
theorem dd_O_bestRank_12 : decode cc_O_bestRank 12 = .ok (.aload_n 0, 1) := by decide +kernel
theorem dd_O_bestRank_13 : decode cc_O_bestRank 13 = .ok (.getfield 11, 3) := by decide +kernel
theorem dd_O_bestRank_16 : decode cc_O_bestRank 16 = .ok (.iload_n 3, 1) := by decide +kernel
theorem dd_O_bestRank_17 : decode cc_O_bestRank 17 = .ok (.aaload, 1) := by decide +kernel
theorem dd_O_bestRank_18 : decode cc_O_bestRank 18 = .ok (.invokevirtual 269, 3) := by decide +kernel
theorem dd_O_bestRank_21 : decode cc_O_bestRank 21 = .ok (.ifCond .eq (13), 3) := by decide +kernel
theorem dd_O_bestRank_24 : decode cc_O_bestRank 24 = .ok (.iload_n 2, 1) := by decide +kernel
theorem dd_O_bestRank_25 : decode cc_O_bestRank 25 = .ok (.iload_n 3, 1) := by decide +kernel
theorem dd_O_bestRank_26 : decode cc_O_bestRank 26 = .ok (.iload_n 1, 1) := by decide +kernel
theorem dd_O_bestRank_27 : decode cc_O_bestRank 27 = .ok (.invokestatic 272, 3) := by decide +kernel
theorem dd_O_bestRank_30 : decode cc_O_bestRank 30 = .ok (.invokestatic 259, 3) := by decide +kernel
theorem dd_O_bestRank_33 : decode cc_O_bestRank 33 = .ok (.istore_n 2, 1) := by decide +kernel
theorem dd_O_bestRank_34 : decode cc_O_bestRank 34 = .ok (.iinc 3 (1), 3) := by decide +kernel
theorem dd_O_bestRank_37 : decode cc_O_bestRank 37 = .ok (.goto (-33), 3) := by decide +kernel
theorem dd_O_bestRank_40 : decode cc_O_bestRank 40 = .ok (.iload_n 2, 1) := by decide +kernel
theorem dd_O_bestRank_41 : decode cc_O_bestRank 41 = .ok (.ireturn, 1) := by decide +kernel
theorem dd_O_rankOf_0 : decode cc_O_rankOf 0 = .ok (.iload_n 1, 1) := by decide +kernel
theorem dd_O_rankOf_1 : decode cc_O_rankOf 1 = .ok (.iconst 4, 1) := by decide +kernel
theorem dd_O_rankOf_2 : decode cc_O_rankOf 2 = .ok (.iload_n 0, 1) := by decide +kernel
theorem dd_O_rankOf_3 : decode cc_O_rankOf 3 = .ok (.imul, 1) := by decide +kernel
theorem dd_O_rankOf_4 : decode cc_O_rankOf 4 = .ok (.iushr, 1) := by decide +kernel
theorem dd_O_rankOf_5 : decode cc_O_rankOf 5 = .ok (.bipush (15), 2) := by decide +kernel
theorem dd_O_rankOf_7 : decode cc_O_rankOf 7 = .ok (.iand, 1) := by decide +kernel
theorem dd_O_rankOf_8 : decode cc_O_rankOf 8 = .ok (.ireturn, 1) := by decide +kernel
theorem dd_O_reckonAudit_0 : decode cc_O_reckonAudit 0 = .ok (.iconst 0, 1) := by decide +kernel
theorem dd_O_reckonAudit_1 : decode cc_O_reckonAudit 1 = .ok (.istore_n 1, 1) := by decide +kernel
theorem dd_O_reckonAudit_2 : decode cc_O_reckonAudit 2 = .ok (.iload_n 1, 1) := by decide +kernel
theorem dd_O_reckonAudit_3 : decode cc_O_reckonAudit 3 = .ok (.aload_n 0, 1) := by decide +kernel
theorem dd_O_reckonAudit_4 : decode cc_O_reckonAudit 4 = .ok (.getfield 51, 3) := by decide +kernel
theorem dd_O_reckonAudit_7 : decode cc_O_reckonAudit 7 = .ok (.if_icmp .ge (41), 3) := by decide +kernel
theorem dd_O_reckonAudit_10 : decode cc_O_reckonAudit 10 = .ok (.aload_n 0, 1) := by decide +kernel
theorem dd_O_reckonAudit_11 : decode cc_O_reckonAudit 11 = .ok (.getfield 11, 3) := by decide +kernel
theorem dd_O_reckonAudit_14 : decode cc_O_reckonAudit 14 = .ok (.iload_n 1, 1) := by decide +kernel
theorem dd_O_reckonAudit_15 : decode cc_O_reckonAudit 15 = .ok (.aaload, 1) := by decide +kernel
theorem dd_O_reckonAudit_16 : decode cc_O_reckonAudit 16 = .ok (.getfield 99, 3) := by decide +kernel
theorem dd_O_reckonAudit_19 : decode cc_O_reckonAudit 19 = .ok (.aload_n 0, 1) := by decide +kernel
theorem dd_O_reckonAudit_20 : decode cc_O_reckonAudit 20 = .ok (.getfield 11, 3) := by decide +kernel
theorem dd_O_reckonAudit_23 : decode cc_O_reckonAudit 23 = .ok (.iload_n 1, 1) := by decide +kernel
theorem dd_O_reckonAudit_24 : decode cc_O_reckonAudit 24 = .ok (.aaload, 1) := by decide +kernel
theorem dd_O_reckonAudit_25 : decode cc_O_reckonAudit 25 = .ok (.getfield 275, 3) := by decide +kernel
theorem dd_O_reckonAudit_28 : decode cc_O_reckonAudit 28 = .ok (.invokevirtual 95, 3) := by decide +kernel
theorem dd_O_reckonAudit_31 : decode cc_O_reckonAudit 31 = .ok (.lcmp, 1) := by decide +kernel
theorem dd_O_reckonAudit_32 : decode cc_O_reckonAudit 32 = .ok (.ifCond .eq (10), 3) := by decide +kernel
theorem dd_O_reckonAudit_35 : decode cc_O_reckonAudit 35 = .ok (.bipush (16), 2) := by decide +kernel
theorem dd_O_reckonAudit_37 : decode cc_O_reckonAudit 37 = .ok (.iload_n 1, 1) := by decide +kernel
theorem dd_O_reckonAudit_38 : decode cc_O_reckonAudit 38 = .ok (.imul, 1) := by decide +kernel
theorem dd_O_reckonAudit_39 : decode cc_O_reckonAudit 39 = .ok (.iconst 1, 1) := by decide +kernel
theorem dd_O_reckonAudit_40 : decode cc_O_reckonAudit 40 = .ok (.iadd, 1) := by decide +kernel
theorem dd_O_reckonAudit_41 : decode cc_O_reckonAudit 41 = .ok (.ireturn, 1) := by decide +kernel
theorem dd_O_reckonAudit_42 : decode cc_O_reckonAudit 42 = .ok (.iinc 1 (1), 3) := by decide +kernel
theorem dd_O_reckonAudit_45 : decode cc_O_reckonAudit 45 = .ok (.goto (-43), 3) := by decide +kernel
theorem dd_O_reckonAudit_48 : decode cc_O_reckonAudit 48 = .ok (.iconst 0, 1) := by decide +kernel
theorem dd_O_reckonAudit_49 : decode cc_O_reckonAudit 49 = .ok (.istore_n 1, 1) := by decide +kernel
theorem dd_O_reckonAudit_50 : decode cc_O_reckonAudit 50 = .ok (.iload_n 1, 1) := by decide +kernel
theorem dd_O_reckonAudit_51 : decode cc_O_reckonAudit 51 = .ok (.iconst 2, 1) := by decide +kernel
theorem dd_O_reckonAudit_52 : decode cc_O_reckonAudit 52 = .ok (.aload_n 0, 1) := by decide +kernel
theorem dd_O_reckonAudit_53 : decode cc_O_reckonAudit 53 = .ok (.getfield 51, 3) := by decide +kernel
theorem dd_O_reckonAudit_56 : decode cc_O_reckonAudit 56 = .ok (.imul, 1) := by decide +kernel
theorem dd_O_reckonAudit_57 : decode cc_O_reckonAudit 57 = .ok (.if_icmp .ge (70), 3) := by decide +kernel
theorem dd_O_reckonAudit_60 : decode cc_O_reckonAudit 60 = .ok (.aload_n 0, 1) := by decide +kernel
theorem dd_O_reckonAudit_61 : decode cc_O_reckonAudit 61 = .ok (.iload_n 1, 1) := by decide +kernel
theorem dd_O_reckonAudit_62 : decode cc_O_reckonAudit 62 = .ok (.invokevirtual 237, 3) := by decide +kernel
theorem dd_O_reckonAudit_65 : decode cc_O_reckonAudit 65 = .ok (.istore_n 2, 1) := by decide +kernel
theorem dd_O_reckonAudit_66 : decode cc_O_reckonAudit 66 = .ok (.aload_n 0, 1) := by decide +kernel
theorem dd_O_reckonAudit_67 : decode cc_O_reckonAudit 67 = .ok (.iload_n 1, 1) := by decide +kernel
theorem dd_O_reckonAudit_68 : decode cc_O_reckonAudit 68 = .ok (.aload_n 0, 1) := by decide +kernel
theorem dd_O_reckonAudit_69 : decode cc_O_reckonAudit 69 = .ok (.getfield 11, 3) := by decide +kernel
theorem dd_O_reckonAudit_72 : decode cc_O_reckonAudit 72 = .ok (.iload_n 2, 1) := by decide +kernel
theorem dd_O_reckonAudit_73 : decode cc_O_reckonAudit 73 = .ok (.aaload, 1) := by decide +kernel
theorem dd_O_reckonAudit_74 : decode cc_O_reckonAudit 74 = .ok (.getfield 275, 3) := by decide +kernel
theorem dd_O_reckonAudit_77 : decode cc_O_reckonAudit 77 = .ok (.aload_n 0, 1) := by decide +kernel
theorem dd_O_reckonAudit_78 : decode cc_O_reckonAudit 78 = .ok (.getfield 28, 3) := by decide +kernel
theorem dd_O_reckonAudit_81 : decode cc_O_reckonAudit 81 = .ok (.invokevirtual 125, 3) := by decide +kernel
theorem dd_O_reckonAudit_84 : decode cc_O_reckonAudit 84 = .ok (.aload_n 0, 1) := by decide +kernel
theorem dd_O_reckonAudit_85 : decode cc_O_reckonAudit 85 = .ok (.getfield 28, 3) := by decide +kernel
theorem dd_O_reckonAudit_88 : decode cc_O_reckonAudit 88 = .ok (.aload_n 0, 1) := by decide +kernel
theorem dd_O_reckonAudit_89 : decode cc_O_reckonAudit 89 = .ok (.getfield 18, 3) := by decide +kernel
theorem dd_O_reckonAudit_92 : decode cc_O_reckonAudit 92 = .ok (.iload_n 1, 1) := by decide +kernel
theorem dd_O_reckonAudit_93 : decode cc_O_reckonAudit 93 = .ok (.iconst 1, 1) := by decide +kernel
theorem dd_O_reckonAudit_94 : decode cc_O_reckonAudit 94 = .ok (.iadd, 1) := by decide +kernel
theorem dd_O_reckonAudit_95 : decode cc_O_reckonAudit 95 = .ok (.aaload, 1) := by decide +kernel
theorem dd_O_reckonAudit_96 : decode cc_O_reckonAudit 96 = .ok (.invokestatic 278, 3) := by decide +kernel
theorem dd_O_reckonAudit_99 : decode cc_O_reckonAudit 99 = .ok (.ifCond .ne (22), 3) := by decide +kernel
theorem dd_O_reckonAudit_102 : decode cc_O_reckonAudit 102 = .ok (.bipush (16), 2) := by decide +kernel
theorem dd_O_reckonAudit_104 : decode cc_O_reckonAudit 104 = .ok (.iload_n 2, 1) := by decide +kernel
theorem dd_O_reckonAudit_105 : decode cc_O_reckonAudit 105 = .ok (.imul, 1) := by decide +kernel
theorem dd_O_reckonAudit_106 : decode cc_O_reckonAudit 106 = .ok (.iload_n 1, 1) := by decide +kernel
theorem dd_O_reckonAudit_107 : decode cc_O_reckonAudit 107 = .ok (.aload_n 0, 1) := by decide +kernel
theorem dd_O_reckonAudit_108 : decode cc_O_reckonAudit 108 = .ok (.getfield 51, 3) := by decide +kernel
theorem dd_O_reckonAudit_111 : decode cc_O_reckonAudit 111 = .ok (.if_icmp .ge (7), 3) := by decide +kernel
theorem dd_O_reckonAudit_114 : decode cc_O_reckonAudit 114 = .ok (.iconst 2, 1) := by decide +kernel
theorem dd_O_reckonAudit_115 : decode cc_O_reckonAudit 115 = .ok (.goto (4), 3) := by decide +kernel
theorem dd_O_reckonAudit_118 : decode cc_O_reckonAudit 118 = .ok (.iconst 3, 1) := by decide +kernel
theorem dd_O_reckonAudit_119 : decode cc_O_reckonAudit 119 = .ok (.iadd, 1) := by decide +kernel
theorem dd_O_reckonAudit_120 : decode cc_O_reckonAudit 120 = .ok (.ireturn, 1) := by decide +kernel
theorem dd_O_reckonAudit_121 : decode cc_O_reckonAudit 121 = .ok (.iinc 1 (1), 3) := by decide +kernel
theorem dd_O_reckonAudit_124 : decode cc_O_reckonAudit 124 = .ok (.goto (-74), 3) := by decide +kernel
theorem dd_O_reckonAudit_127 : decode cc_O_reckonAudit 127 = .ok (.iconst 0, 1) := by decide +kernel
theorem dd_O_reckonAudit_128 : decode cc_O_reckonAudit 128 = .ok (.istore_n 1, 1) := by decide +kernel
theorem dd_O_reckonAudit_129 : decode cc_O_reckonAudit 129 = .ok (.iload_n 1, 1) := by decide +kernel
theorem dd_O_reckonAudit_130 : decode cc_O_reckonAudit 130 = .ok (.bipush (52), 2) := by decide +kernel
theorem dd_O_reckonAudit_132 : decode cc_O_reckonAudit 132 = .ok (.if_icmp .ge (45), 3) := by decide +kernel
theorem dd_O_reckonAudit_135 : decode cc_O_reckonAudit 135 = .ok (.iconst 0, 1) := by decide +kernel
theorem dd_O_reckonAudit_136 : decode cc_O_reckonAudit 136 = .ok (.istore_n 2, 1) := by decide +kernel
theorem dd_O_reckonAudit_137 : decode cc_O_reckonAudit 137 = .ok (.iload_n 2, 1) := by decide +kernel
theorem dd_O_reckonAudit_138 : decode cc_O_reckonAudit 138 = .ok (.aload_n 0, 1) := by decide +kernel
theorem dd_O_reckonAudit_139 : decode cc_O_reckonAudit 139 = .ok (.getfield 51, 3) := by decide +kernel
theorem dd_O_reckonAudit_142 : decode cc_O_reckonAudit 142 = .ok (.if_icmp .ge (29), 3) := by decide +kernel
theorem dd_O_reckonAudit_145 : decode cc_O_reckonAudit 145 = .ok (.aload_n 0, 1) := by decide +kernel
theorem dd_O_reckonAudit_146 : decode cc_O_reckonAudit 146 = .ok (.getfield 11, 3) := by decide +kernel
theorem dd_O_reckonAudit_149 : decode cc_O_reckonAudit 149 = .ok (.iload_n 2, 1) := by decide +kernel
theorem dd_O_reckonAudit_150 : decode cc_O_reckonAudit 150 = .ok (.aaload, 1) := by decide +kernel
theorem dd_O_reckonAudit_151 : decode cc_O_reckonAudit 151 = .ok (.iload_n 1, 1) := by decide +kernel
theorem dd_O_reckonAudit_152 : decode cc_O_reckonAudit 152 = .ok (.invokevirtual 282, 3) := by decide +kernel
theorem dd_O_reckonAudit_155 : decode cc_O_reckonAudit 155 = .ok (.ifCond .eq (10), 3) := by decide +kernel
theorem dd_O_reckonAudit_158 : decode cc_O_reckonAudit 158 = .ok (.bipush (16), 2) := by decide +kernel
theorem dd_O_reckonAudit_160 : decode cc_O_reckonAudit 160 = .ok (.iload_n 2, 1) := by decide +kernel
theorem dd_O_reckonAudit_161 : decode cc_O_reckonAudit 161 = .ok (.imul, 1) := by decide +kernel
theorem dd_O_reckonAudit_162 : decode cc_O_reckonAudit 162 = .ok (.iconst 4, 1) := by decide +kernel
theorem dd_O_reckonAudit_163 : decode cc_O_reckonAudit 163 = .ok (.iadd, 1) := by decide +kernel
theorem dd_O_reckonAudit_164 : decode cc_O_reckonAudit 164 = .ok (.ireturn, 1) := by decide +kernel
theorem dd_O_reckonAudit_165 : decode cc_O_reckonAudit 165 = .ok (.iinc 2 (1), 3) := by decide +kernel
theorem dd_O_reckonAudit_168 : decode cc_O_reckonAudit 168 = .ok (.goto (-31), 3) := by decide +kernel
theorem dd_O_reckonAudit_171 : decode cc_O_reckonAudit 171 = .ok (.iinc 1 (1), 3) := by decide +kernel
theorem dd_O_reckonAudit_174 : decode cc_O_reckonAudit 174 = .ok (.goto (-45), 3) := by decide +kernel
theorem dd_O_reckonAudit_177 : decode cc_O_reckonAudit 177 = .ok (.iconst 0, 1) := by decide +kernel
theorem dd_O_reckonAudit_178 : decode cc_O_reckonAudit 178 = .ok (.ireturn, 1) := by decide +kernel
theorem dd_O_isSameDeck_0 : decode cc_O_isSameDeck 0 = .ok (.iconst 0, 1) := by decide +kernel
theorem dd_O_isSameDeck_1 : decode cc_O_isSameDeck 1 = .ok (.istore_n 2, 1) := by decide +kernel
theorem dd_O_isSameDeck_2 : decode cc_O_isSameDeck 2 = .ok (.iload_n 2, 1) := by decide +kernel
theorem dd_O_isSameDeck_3 : decode cc_O_isSameDeck 3 = .ok (.bipush (52), 2) := by decide +kernel
theorem dd_O_isSameDeck_5 : decode cc_O_isSameDeck 5 = .ok (.if_icmp .ge (20), 3) := by decide +kernel
theorem dd_O_isSameDeck_8 : decode cc_O_isSameDeck 8 = .ok (.aload_n 0, 1) := by decide +kernel
theorem dd_O_isSameDeck_9 : decode cc_O_isSameDeck 9 = .ok (.iload_n 2, 1) := by decide +kernel
theorem dd_O_isSameDeck_10 : decode cc_O_isSameDeck 10 = .ok (.iaload, 1) := by decide +kernel
theorem dd_O_isSameDeck_11 : decode cc_O_isSameDeck 11 = .ok (.aload_n 1, 1) := by decide +kernel
theorem dd_O_isSameDeck_12 : decode cc_O_isSameDeck 12 = .ok (.iload_n 2, 1) := by decide +kernel
theorem dd_O_isSameDeck_13 : decode cc_O_isSameDeck 13 = .ok (.iaload, 1) := by decide +kernel
theorem dd_O_isSameDeck_14 : decode cc_O_isSameDeck 14 = .ok (.if_icmp .eq (5), 3) := by decide +kernel
theorem dd_O_isSameDeck_17 : decode cc_O_isSameDeck 17 = .ok (.iconst 0, 1) := by decide +kernel
theorem dd_O_isSameDeck_18 : decode cc_O_isSameDeck 18 = .ok (.ireturn, 1) := by decide +kernel
theorem dd_O_isSameDeck_19 : decode cc_O_isSameDeck 19 = .ok (.iinc 2 (1), 3) := by decide +kernel
theorem dd_O_isSameDeck_22 : decode cc_O_isSameDeck 22 = .ok (.goto (-20), 3) := by decide +kernel
theorem dd_O_isSameDeck_25 : decode cc_O_isSameDeck 25 = .ok (.iconst 1, 1) := by decide +kernel
theorem dd_O_isSameDeck_26 : decode cc_O_isSameDeck 26 = .ok (.ireturn, 1) := by decide +kernel
