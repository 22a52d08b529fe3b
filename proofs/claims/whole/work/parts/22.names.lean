/-! names and decode rows, laid by program -/
abbrev cc_N_times : ByteArray := prog_3_method_9_code
abbrev yy_N_times : MethodName := ⟨"OpenDeal$Numbers", "times", "(III)I"⟩
abbrev cc_N_power : ByteArray := prog_3_method_10_code
abbrev yy_N_power : MethodName := ⟨"OpenDeal$Numbers", "power", "(III)I"⟩
abbrev cc_N_ofCard : ByteArray := prog_3_method_5_code
abbrev yy_N_ofCard : MethodName := ⟨"OpenDeal$Numbers", "ofCard", "(II)I"⟩
abbrev cc_N_isExponent : ByteArray := prog_3_method_6_code
abbrev yy_N_isExponent : MethodName := ⟨"OpenDeal$Numbers", "isExponent", "(II)Z"⟩
abbrev cc_N_exponentAbove : ByteArray := prog_3_method_7_code
abbrev yy_N_exponentAbove : MethodName := ⟨"OpenDeal$Numbers", "exponentAbove", "(II)I"⟩
abbrev cc_N_inverse : ByteArray := prog_3_method_8_code
abbrev yy_N_inverse : MethodName := ⟨"OpenDeal$Numbers", "inverse", "(II)I"⟩
abbrev cc_N_looksPrime : ByteArray := prog_3_method_4_code
abbrev yy_N_looksPrime : MethodName := ⟨"OpenDeal$Numbers", "looksPrime", "(II)Z"⟩
abbrev cc_M_isPrime : ByteArray := prog_7_method_4_code
abbrev yy_M_isPrime : MethodName := ⟨"OpenDealModel", "isPrime", "(I)Z"⟩
abbrev cc_M_power : ByteArray := prog_7_method_12_code
abbrev yy_M_power : MethodName := ⟨"OpenDealModel", "power", "(III)I"⟩
abbrev cc_M_isPlace : ByteArray := prog_7_method_10_code
abbrev yy_M_isPlace : MethodName := ⟨"OpenDealModel", "isPlace", "(I)Z"⟩
abbrev cc_O_isPlace : ByteArray := prog_1_method_22_code
abbrev yy_O_isPlace : MethodName := ⟨"OpenDeal", "isPlace", "(I)Z"⟩
abbrev cc_O_rankOf : ByteArray := prog_1_method_43_code
abbrev yy_O_rankOf : MethodName := ⟨"OpenDeal", "rankOf", "(II)I"⟩
abbrev cc_M_sealOf : ByteArray := prog_7_method_19_code
abbrev yy_M_sealOf : MethodName := ⟨"OpenDealModel", "sealOf", "(IJJ)J"⟩
theorem dd_N_times_0 : decode cc_N_times 0 = .ok (.iload_n 2, 1) := by decide +kernel
theorem dd_N_times_1 : decode cc_N_times 1 = .ok (.ifCond .le (15), 3) := by decide +kernel
theorem dd_N_times_4 : decode cc_N_times 4 = .ok (.iload_n 0, 1) := by decide +kernel
theorem dd_N_times_5 : decode cc_N_times 5 = .ok (.i2l, 1) := by decide +kernel
theorem dd_N_times_6 : decode cc_N_times 6 = .ok (.iload_n 1, 1) := by decide +kernel
theorem dd_N_times_7 : decode cc_N_times 7 = .ok (.i2l, 1) := by decide +kernel
theorem dd_N_times_8 : decode cc_N_times 8 = .ok (.lmul, 1) := by decide +kernel
theorem dd_N_times_9 : decode cc_N_times 9 = .ok (.iload_n 2, 1) := by decide +kernel
theorem dd_N_times_10 : decode cc_N_times 10 = .ok (.i2l, 1) := by decide +kernel
theorem dd_N_times_11 : decode cc_N_times 11 = .ok (.lrem, 1) := by decide +kernel
theorem dd_N_times_12 : decode cc_N_times 12 = .ok (.l2i, 1) := by decide +kernel
theorem dd_N_times_13 : decode cc_N_times 13 = .ok (.goto (4), 3) := by decide +kernel
theorem dd_N_times_16 : decode cc_N_times 16 = .ok (.iconst 0, 1) := by decide +kernel
theorem dd_N_times_17 : decode cc_N_times 17 = .ok (.ireturn, 1) := by decide +kernel
theorem dd_N_power_0 : decode cc_N_power 0 = .ok (.iconst 1, 1) := by decide +kernel
theorem dd_N_power_1 : decode cc_N_power 1 = .ok (.istore_n 3, 1) := by decide +kernel
theorem dd_N_power_2 : decode cc_N_power 2 = .ok (.iload_n 0, 1) := by decide +kernel
theorem dd_N_power_3 : decode cc_N_power 3 = .ok (.istore 4, 2) := by decide +kernel
theorem dd_N_power_5 : decode cc_N_power 5 = .ok (.iload_n 1, 1) := by decide +kernel
theorem dd_N_power_6 : decode cc_N_power 6 = .ok (.istore 5, 2) := by decide +kernel
theorem dd_N_power_8 : decode cc_N_power 8 = .ok (.iload 5, 2) := by decide +kernel
theorem dd_N_power_10 : decode cc_N_power 10 = .ok (.ifCond .le (38), 3) := by decide +kernel
theorem dd_N_power_13 : decode cc_N_power 13 = .ok (.iload 5, 2) := by decide +kernel
theorem dd_N_power_15 : decode cc_N_power 15 = .ok (.iconst 2, 1) := by decide +kernel
theorem dd_N_power_16 : decode cc_N_power 16 = .ok (.irem, 1) := by decide +kernel
theorem dd_N_power_17 : decode cc_N_power 17 = .ok (.iconst 1, 1) := by decide +kernel
theorem dd_N_power_18 : decode cc_N_power 18 = .ok (.if_icmp .ne (11), 3) := by decide +kernel
theorem dd_N_power_21 : decode cc_N_power 21 = .ok (.iload_n 3, 1) := by decide +kernel
theorem dd_N_power_22 : decode cc_N_power 22 = .ok (.iload 4, 2) := by decide +kernel
theorem dd_N_power_24 : decode cc_N_power 24 = .ok (.iload_n 2, 1) := by decide +kernel
theorem dd_N_power_25 : decode cc_N_power 25 = .ok (.invokestatic 26, 3) := by decide +kernel
theorem dd_N_power_28 : decode cc_N_power 28 = .ok (.istore_n 3, 1) := by decide +kernel
theorem dd_N_power_29 : decode cc_N_power 29 = .ok (.iload 4, 2) := by decide +kernel
theorem dd_N_power_31 : decode cc_N_power 31 = .ok (.iload 4, 2) := by decide +kernel
theorem dd_N_power_33 : decode cc_N_power 33 = .ok (.iload_n 2, 1) := by decide +kernel
theorem dd_N_power_34 : decode cc_N_power 34 = .ok (.invokestatic 26, 3) := by decide +kernel
theorem dd_N_power_37 : decode cc_N_power 37 = .ok (.istore 4, 2) := by decide +kernel
theorem dd_N_power_39 : decode cc_N_power 39 = .ok (.iload 5, 2) := by decide +kernel
theorem dd_N_power_41 : decode cc_N_power 41 = .ok (.iconst 2, 1) := by decide +kernel
theorem dd_N_power_42 : decode cc_N_power 42 = .ok (.idiv, 1) := by decide +kernel
theorem dd_N_power_43 : decode cc_N_power 43 = .ok (.istore 5, 2) := by decide +kernel
theorem dd_N_power_45 : decode cc_N_power 45 = .ok (.goto (-37), 3) := by decide +kernel
theorem dd_N_power_48 : decode cc_N_power 48 = .ok (.iload_n 3, 1) := by decide +kernel
theorem dd_N_power_49 : decode cc_N_power 49 = .ok (.ireturn, 1) := by decide +kernel
theorem dd_N_ofCard_0 : decode cc_N_ofCard 0 = .ok (.iload_n 0, 1) := by decide +kernel
theorem dd_N_ofCard_1 : decode cc_N_ofCard 1 = .ok (.iconst 2, 1) := by decide +kernel
theorem dd_N_ofCard_2 : decode cc_N_ofCard 2 = .ok (.iadd, 1) := by decide +kernel
theorem dd_N_ofCard_3 : decode cc_N_ofCard 3 = .ok (.iload_n 0, 1) := by decide +kernel
theorem dd_N_ofCard_4 : decode cc_N_ofCard 4 = .ok (.iconst 2, 1) := by decide +kernel
theorem dd_N_ofCard_5 : decode cc_N_ofCard 5 = .ok (.iadd, 1) := by decide +kernel
theorem dd_N_ofCard_6 : decode cc_N_ofCard 6 = .ok (.iload_n 1, 1) := by decide +kernel
theorem dd_N_ofCard_7 : decode cc_N_ofCard 7 = .ok (.invokestatic 26, 3) := by decide +kernel
theorem dd_N_ofCard_10 : decode cc_N_ofCard 10 = .ok (.ireturn, 1) := by decide +kernel
theorem dd_N_isExponent_0 : decode cc_N_isExponent 0 = .ok (.iload_n 0, 1) := by decide +kernel
theorem dd_N_isExponent_1 : decode cc_N_isExponent 1 = .ok (.iconst 3, 1) := by decide +kernel
theorem dd_N_isExponent_2 : decode cc_N_isExponent 2 = .ok (.if_icmp .lt (30), 3) := by decide +kernel
theorem dd_N_isExponent_5 : decode cc_N_isExponent 5 = .ok (.iload_n 0, 1) := by decide +kernel
theorem dd_N_isExponent_6 : decode cc_N_isExponent 6 = .ok (.iload_n 1, 1) := by decide +kernel
theorem dd_N_isExponent_7 : decode cc_N_isExponent 7 = .ok (.iconst 2, 1) := by decide +kernel
theorem dd_N_isExponent_8 : decode cc_N_isExponent 8 = .ok (.isub, 1) := by decide +kernel
theorem dd_N_isExponent_9 : decode cc_N_isExponent 9 = .ok (.if_icmp .gt (23), 3) := by decide +kernel
theorem dd_N_isExponent_12 : decode cc_N_isExponent 12 = .ok (.iload_n 0, 1) := by decide +kernel
theorem dd_N_isExponent_13 : decode cc_N_isExponent 13 = .ok (.iconst 2, 1) := by decide +kernel
theorem dd_N_isExponent_14 : decode cc_N_isExponent 14 = .ok (.irem, 1) := by decide +kernel
theorem dd_N_isExponent_15 : decode cc_N_isExponent 15 = .ok (.iconst 1, 1) := by decide +kernel
theorem dd_N_isExponent_16 : decode cc_N_isExponent 16 = .ok (.if_icmp .ne (16), 3) := by decide +kernel
theorem dd_N_isExponent_19 : decode cc_N_isExponent 19 = .ok (.iload_n 0, 1) := by decide +kernel
theorem dd_N_isExponent_20 : decode cc_N_isExponent 20 = .ok (.iload_n 1, 1) := by decide +kernel
theorem dd_N_isExponent_21 : decode cc_N_isExponent 21 = .ok (.iconst 1, 1) := by decide +kernel
theorem dd_N_isExponent_22 : decode cc_N_isExponent 22 = .ok (.isub, 1) := by decide +kernel
theorem dd_N_isExponent_23 : decode cc_N_isExponent 23 = .ok (.iconst 2, 1) := by decide +kernel
theorem dd_N_isExponent_24 : decode cc_N_isExponent 24 = .ok (.idiv, 1) := by decide +kernel
theorem dd_N_isExponent_25 : decode cc_N_isExponent 25 = .ok (.if_icmp .eq (7), 3) := by decide +kernel
theorem dd_N_isExponent_28 : decode cc_N_isExponent 28 = .ok (.iconst 1, 1) := by decide +kernel
theorem dd_N_isExponent_29 : decode cc_N_isExponent 29 = .ok (.goto (4), 3) := by decide +kernel
theorem dd_N_isExponent_32 : decode cc_N_isExponent 32 = .ok (.iconst 0, 1) := by decide +kernel
theorem dd_N_isExponent_33 : decode cc_N_isExponent 33 = .ok (.ireturn, 1) := by decide +kernel
theorem dd_N_exponentAbove_0 : decode cc_N_exponentAbove 0 = .ok (.iload_n 0, 1) := by decide +kernel
theorem dd_N_exponentAbove_1 : decode cc_N_exponentAbove 1 = .ok (.iconst 1, 1) := by decide +kernel
theorem dd_N_exponentAbove_2 : decode cc_N_exponentAbove 2 = .ok (.iadd, 1) := by decide +kernel
theorem dd_N_exponentAbove_3 : decode cc_N_exponentAbove 3 = .ok (.istore_n 2, 1) := by decide +kernel
theorem dd_N_exponentAbove_4 : decode cc_N_exponentAbove 4 = .ok (.iload_n 2, 1) := by decide +kernel
theorem dd_N_exponentAbove_5 : decode cc_N_exponentAbove 5 = .ok (.iload_n 1, 1) := by decide +kernel
theorem dd_N_exponentAbove_6 : decode cc_N_exponentAbove 6 = .ok (.iconst 2, 1) := by decide +kernel
theorem dd_N_exponentAbove_7 : decode cc_N_exponentAbove 7 = .ok (.isub, 1) := by decide +kernel
theorem dd_N_exponentAbove_8 : decode cc_N_exponentAbove 8 = .ok (.if_icmp .gt (19), 3) := by decide +kernel
theorem dd_N_exponentAbove_11 : decode cc_N_exponentAbove 11 = .ok (.iload_n 2, 1) := by decide +kernel
theorem dd_N_exponentAbove_12 : decode cc_N_exponentAbove 12 = .ok (.iload_n 1, 1) := by decide +kernel
theorem dd_N_exponentAbove_13 : decode cc_N_exponentAbove 13 = .ok (.invokestatic 29, 3) := by decide +kernel
theorem dd_N_exponentAbove_16 : decode cc_N_exponentAbove 16 = .ok (.ifCond .eq (5), 3) := by decide +kernel
theorem dd_N_exponentAbove_19 : decode cc_N_exponentAbove 19 = .ok (.iload_n 2, 1) := by decide +kernel
theorem dd_N_exponentAbove_20 : decode cc_N_exponentAbove 20 = .ok (.ireturn, 1) := by decide +kernel
theorem dd_N_exponentAbove_21 : decode cc_N_exponentAbove 21 = .ok (.iinc 2 (1), 3) := by decide +kernel
theorem dd_N_exponentAbove_24 : decode cc_N_exponentAbove 24 = .ok (.goto (-20), 3) := by decide +kernel
theorem dd_N_exponentAbove_27 : decode cc_N_exponentAbove 27 = .ok (.iconst 3, 1) := by decide +kernel
theorem dd_N_exponentAbove_28 : decode cc_N_exponentAbove 28 = .ok (.ireturn, 1) := by decide +kernel
theorem dd_N_inverse_0 : decode cc_N_inverse 0 = .ok (.iload_n 0, 1) := by decide +kernel
theorem dd_N_inverse_1 : decode cc_N_inverse 1 = .ok (.iload_n 1, 1) := by decide +kernel
theorem dd_N_inverse_2 : decode cc_N_inverse 2 = .ok (.iconst 1, 1) := by decide +kernel
theorem dd_N_inverse_3 : decode cc_N_inverse 3 = .ok (.isub, 1) := by decide +kernel
theorem dd_N_inverse_4 : decode cc_N_inverse 4 = .ok (.iconst 2, 1) := by decide +kernel
theorem dd_N_inverse_5 : decode cc_N_inverse 5 = .ok (.idiv, 1) := by decide +kernel
theorem dd_N_inverse_6 : decode cc_N_inverse 6 = .ok (.iconst 2, 1) := by decide +kernel
theorem dd_N_inverse_7 : decode cc_N_inverse 7 = .ok (.isub, 1) := by decide +kernel
theorem dd_N_inverse_8 : decode cc_N_inverse 8 = .ok (.iload_n 1, 1) := by decide +kernel
theorem dd_N_inverse_9 : decode cc_N_inverse 9 = .ok (.iconst 1, 1) := by decide +kernel
theorem dd_N_inverse_10 : decode cc_N_inverse 10 = .ok (.isub, 1) := by decide +kernel
theorem dd_N_inverse_11 : decode cc_N_inverse 11 = .ok (.invokestatic 22, 3) := by decide +kernel
theorem dd_N_inverse_14 : decode cc_N_inverse 14 = .ok (.ireturn, 1) := by decide +kernel
theorem dd_N_looksPrime_0 : decode cc_N_looksPrime 0 = .ok (.iload_n 0, 1) := by decide +kernel
theorem dd_N_looksPrime_1 : decode cc_N_looksPrime 1 = .ok (.iconst 1, 1) := by decide +kernel
theorem dd_N_looksPrime_2 : decode cc_N_looksPrime 2 = .ok (.isub, 1) := by decide +kernel
theorem dd_N_looksPrime_3 : decode cc_N_looksPrime 3 = .ok (.istore_n 2, 1) := by decide +kernel
theorem dd_N_looksPrime_4 : decode cc_N_looksPrime 4 = .ok (.iconst 0, 1) := by decide +kernel
theorem dd_N_looksPrime_5 : decode cc_N_looksPrime 5 = .ok (.istore_n 3, 1) := by decide +kernel
theorem dd_N_looksPrime_6 : decode cc_N_looksPrime 6 = .ok (.iconst 0, 1) := by decide +kernel
theorem dd_N_looksPrime_7 : decode cc_N_looksPrime 7 = .ok (.istore 4, 2) := by decide +kernel
theorem dd_N_looksPrime_9 : decode cc_N_looksPrime 9 = .ok (.iload 4, 2) := by decide +kernel
theorem dd_N_looksPrime_11 : decode cc_N_looksPrime 11 = .ok (.bipush (31), 2) := by decide +kernel
theorem dd_N_looksPrime_13 : decode cc_N_looksPrime 13 = .ok (.if_icmp .ge (22), 3) := by decide +kernel
theorem dd_N_looksPrime_16 : decode cc_N_looksPrime 16 = .ok (.iload_n 2, 1) := by decide +kernel
theorem dd_N_looksPrime_17 : decode cc_N_looksPrime 17 = .ok (.iconst 2, 1) := by decide +kernel
theorem dd_N_looksPrime_18 : decode cc_N_looksPrime 18 = .ok (.irem, 1) := by decide +kernel
theorem dd_N_looksPrime_19 : decode cc_N_looksPrime 19 = .ok (.ifCond .ne (16), 3) := by decide +kernel
theorem dd_N_looksPrime_22 : decode cc_N_looksPrime 22 = .ok (.iload_n 2, 1) := by decide +kernel
theorem dd_N_looksPrime_23 : decode cc_N_looksPrime 23 = .ok (.iconst 2, 1) := by decide +kernel
theorem dd_N_looksPrime_24 : decode cc_N_looksPrime 24 = .ok (.idiv, 1) := by decide +kernel
theorem dd_N_looksPrime_25 : decode cc_N_looksPrime 25 = .ok (.istore_n 2, 1) := by decide +kernel
theorem dd_N_looksPrime_26 : decode cc_N_looksPrime 26 = .ok (.iinc 3 (1), 3) := by decide +kernel
theorem dd_N_looksPrime_29 : decode cc_N_looksPrime 29 = .ok (.iinc 4 (1), 3) := by decide +kernel
theorem dd_N_looksPrime_32 : decode cc_N_looksPrime 32 = .ok (.goto (-23), 3) := by decide +kernel
theorem dd_N_looksPrime_35 : decode cc_N_looksPrime 35 = .ok (.iload_n 1, 1) := by decide +kernel
theorem dd_N_looksPrime_36 : decode cc_N_looksPrime 36 = .ok (.iload_n 2, 1) := by decide +kernel
theorem dd_N_looksPrime_37 : decode cc_N_looksPrime 37 = .ok (.iload_n 0, 1) := by decide +kernel
theorem dd_N_looksPrime_38 : decode cc_N_looksPrime 38 = .ok (.invokestatic 22, 3) := by decide +kernel
theorem dd_N_looksPrime_41 : decode cc_N_looksPrime 41 = .ok (.istore 4, 2) := by decide +kernel
theorem dd_N_looksPrime_43 : decode cc_N_looksPrime 43 = .ok (.iload 4, 2) := by decide +kernel
theorem dd_N_looksPrime_45 : decode cc_N_looksPrime 45 = .ok (.iconst 1, 1) := by decide +kernel
theorem dd_N_looksPrime_46 : decode cc_N_looksPrime 46 = .ok (.if_icmp .eq (11), 3) := by decide +kernel
theorem dd_N_looksPrime_49 : decode cc_N_looksPrime 49 = .ok (.iload 4, 2) := by decide +kernel
theorem dd_N_looksPrime_51 : decode cc_N_looksPrime 51 = .ok (.iload_n 0, 1) := by decide +kernel
theorem dd_N_looksPrime_52 : decode cc_N_looksPrime 52 = .ok (.iconst 1, 1) := by decide +kernel
theorem dd_N_looksPrime_53 : decode cc_N_looksPrime 53 = .ok (.isub, 1) := by decide +kernel
theorem dd_N_looksPrime_54 : decode cc_N_looksPrime 54 = .ok (.if_icmp .ne (5), 3) := by decide +kernel
theorem dd_N_looksPrime_57 : decode cc_N_looksPrime 57 = .ok (.iconst 1, 1) := by decide +kernel
theorem dd_N_looksPrime_58 : decode cc_N_looksPrime 58 = .ok (.ireturn, 1) := by decide +kernel
theorem dd_N_looksPrime_59 : decode cc_N_looksPrime 59 = .ok (.iconst 1, 1) := by decide +kernel
theorem dd_N_looksPrime_60 : decode cc_N_looksPrime 60 = .ok (.istore 5, 2) := by decide +kernel
theorem dd_N_looksPrime_62 : decode cc_N_looksPrime 62 = .ok (.iload 5, 2) := by decide +kernel
theorem dd_N_looksPrime_64 : decode cc_N_looksPrime 64 = .ok (.iload_n 3, 1) := by decide +kernel
theorem dd_N_looksPrime_65 : decode cc_N_looksPrime 65 = .ok (.if_icmp .ge (29), 3) := by decide +kernel
theorem dd_N_looksPrime_68 : decode cc_N_looksPrime 68 = .ok (.iload 4, 2) := by decide +kernel
theorem dd_N_looksPrime_70 : decode cc_N_looksPrime 70 = .ok (.iload 4, 2) := by decide +kernel
theorem dd_N_looksPrime_72 : decode cc_N_looksPrime 72 = .ok (.iload_n 0, 1) := by decide +kernel
theorem dd_N_looksPrime_73 : decode cc_N_looksPrime 73 = .ok (.invokestatic 26, 3) := by decide +kernel
theorem dd_N_looksPrime_76 : decode cc_N_looksPrime 76 = .ok (.istore 4, 2) := by decide +kernel
theorem dd_N_looksPrime_78 : decode cc_N_looksPrime 78 = .ok (.iload 4, 2) := by decide +kernel
theorem dd_N_looksPrime_80 : decode cc_N_looksPrime 80 = .ok (.iload_n 0, 1) := by decide +kernel
theorem dd_N_looksPrime_81 : decode cc_N_looksPrime 81 = .ok (.iconst 1, 1) := by decide +kernel
theorem dd_N_looksPrime_82 : decode cc_N_looksPrime 82 = .ok (.isub, 1) := by decide +kernel
theorem dd_N_looksPrime_83 : decode cc_N_looksPrime 83 = .ok (.if_icmp .ne (5), 3) := by decide +kernel
theorem dd_N_looksPrime_86 : decode cc_N_looksPrime 86 = .ok (.iconst 1, 1) := by decide +kernel
theorem dd_N_looksPrime_87 : decode cc_N_looksPrime 87 = .ok (.ireturn, 1) := by decide +kernel
theorem dd_N_looksPrime_88 : decode cc_N_looksPrime 88 = .ok (.iinc 5 (1), 3) := by decide +kernel
theorem dd_N_looksPrime_91 : decode cc_N_looksPrime 91 = .ok (.goto (-29), 3) := by decide +kernel
theorem dd_N_looksPrime_94 : decode cc_N_looksPrime 94 = .ok (.iconst 0, 1) := by decide +kernel
theorem dd_N_looksPrime_95 : decode cc_N_looksPrime 95 = .ok (.ireturn, 1) := by decide +kernel
theorem dd_M_isPrime_0 : decode cc_M_isPrime 0 = .ok (.iconst 2, 1) := by decide +kernel
theorem dd_M_isPrime_1 : decode cc_M_isPrime 1 = .ok (.istore_n 1, 1) := by decide +kernel
theorem dd_M_isPrime_2 : decode cc_M_isPrime 2 = .ok (.iload_n 1, 1) := by decide +kernel
theorem dd_M_isPrime_3 : decode cc_M_isPrime 3 = .ok (.i2l, 1) := by decide +kernel
theorem dd_M_isPrime_4 : decode cc_M_isPrime 4 = .ok (.iload_n 1, 1) := by decide +kernel
theorem dd_M_isPrime_5 : decode cc_M_isPrime 5 = .ok (.i2l, 1) := by decide +kernel
theorem dd_M_isPrime_6 : decode cc_M_isPrime 6 = .ok (.lmul, 1) := by decide +kernel
theorem dd_M_isPrime_7 : decode cc_M_isPrime 7 = .ok (.iload_n 0, 1) := by decide +kernel
theorem dd_M_isPrime_8 : decode cc_M_isPrime 8 = .ok (.i2l, 1) := by decide +kernel
theorem dd_M_isPrime_9 : decode cc_M_isPrime 9 = .ok (.lcmp, 1) := by decide +kernel
theorem dd_M_isPrime_10 : decode cc_M_isPrime 10 = .ok (.ifCond .gt (17), 3) := by decide +kernel
theorem dd_M_isPrime_13 : decode cc_M_isPrime 13 = .ok (.iload_n 0, 1) := by decide +kernel
theorem dd_M_isPrime_14 : decode cc_M_isPrime 14 = .ok (.iload_n 1, 1) := by decide +kernel
theorem dd_M_isPrime_15 : decode cc_M_isPrime 15 = .ok (.irem, 1) := by decide +kernel
theorem dd_M_isPrime_16 : decode cc_M_isPrime 16 = .ok (.ifCond .ne (5), 3) := by decide +kernel
theorem dd_M_isPrime_19 : decode cc_M_isPrime 19 = .ok (.iconst 0, 1) := by decide +kernel
theorem dd_M_isPrime_20 : decode cc_M_isPrime 20 = .ok (.ireturn, 1) := by decide +kernel
theorem dd_M_isPrime_21 : decode cc_M_isPrime 21 = .ok (.iinc 1 (1), 3) := by decide +kernel
theorem dd_M_isPrime_24 : decode cc_M_isPrime 24 = .ok (.goto (-22), 3) := by decide +kernel
theorem dd_M_isPrime_27 : decode cc_M_isPrime 27 = .ok (.iload_n 0, 1) := by decide +kernel
theorem dd_M_isPrime_28 : decode cc_M_isPrime 28 = .ok (.iconst 1, 1) := by decide +kernel
theorem dd_M_isPrime_29 : decode cc_M_isPrime 29 = .ok (.if_icmp .le (7), 3) := by decide +kernel
theorem dd_M_isPrime_32 : decode cc_M_isPrime 32 = .ok (.iconst 1, 1) := by decide +kernel
theorem dd_M_isPrime_33 : decode cc_M_isPrime 33 = .ok (.goto (4), 3) := by decide +kernel
theorem dd_M_isPrime_36 : decode cc_M_isPrime 36 = .ok (.iconst 0, 1) := by decide +kernel
theorem dd_M_isPrime_37 : decode cc_M_isPrime 37 = .ok (.ireturn, 1) := by decide +kernel
theorem dd_M_power_0 : decode cc_M_power 0 = .ok (.lconst 1, 1) := by decide +kernel
theorem dd_M_power_1 : decode cc_M_power 1 = .ok (.lstore_n 3, 1) := by decide +kernel
theorem dd_M_power_2 : decode cc_M_power 2 = .ok (.iload_n 0, 1) := by decide +kernel
theorem dd_M_power_3 : decode cc_M_power 3 = .ok (.iload_n 2, 1) := by decide +kernel
theorem dd_M_power_4 : decode cc_M_power 4 = .ok (.irem, 1) := by decide +kernel
theorem dd_M_power_5 : decode cc_M_power 5 = .ok (.i2l, 1) := by decide +kernel
theorem dd_M_power_6 : decode cc_M_power 6 = .ok (.lstore 5, 2) := by decide +kernel
theorem dd_M_power_8 : decode cc_M_power 8 = .ok (.iload_n 1, 1) := by decide +kernel
theorem dd_M_power_9 : decode cc_M_power 9 = .ok (.istore 7, 2) := by decide +kernel
theorem dd_M_power_11 : decode cc_M_power 11 = .ok (.iload 7, 2) := by decide +kernel
theorem dd_M_power_13 : decode cc_M_power 13 = .ok (.ifCond .le (38), 3) := by decide +kernel
theorem dd_M_power_16 : decode cc_M_power 16 = .ok (.iload 7, 2) := by decide +kernel
theorem dd_M_power_18 : decode cc_M_power 18 = .ok (.iconst 2, 1) := by decide +kernel
theorem dd_M_power_19 : decode cc_M_power 19 = .ok (.irem, 1) := by decide +kernel
theorem dd_M_power_20 : decode cc_M_power 20 = .ok (.iconst 1, 1) := by decide +kernel
theorem dd_M_power_21 : decode cc_M_power 21 = .ok (.if_icmp .ne (11), 3) := by decide +kernel
theorem dd_M_power_24 : decode cc_M_power 24 = .ok (.lload_n 3, 1) := by decide +kernel
theorem dd_M_power_25 : decode cc_M_power 25 = .ok (.lload 5, 2) := by decide +kernel
theorem dd_M_power_27 : decode cc_M_power 27 = .ok (.lmul, 1) := by decide +kernel
theorem dd_M_power_28 : decode cc_M_power 28 = .ok (.iload_n 2, 1) := by decide +kernel
theorem dd_M_power_29 : decode cc_M_power 29 = .ok (.i2l, 1) := by decide +kernel
theorem dd_M_power_30 : decode cc_M_power 30 = .ok (.lrem, 1) := by decide +kernel
theorem dd_M_power_31 : decode cc_M_power 31 = .ok (.lstore_n 3, 1) := by decide +kernel
theorem dd_M_power_32 : decode cc_M_power 32 = .ok (.lload 5, 2) := by decide +kernel
theorem dd_M_power_34 : decode cc_M_power 34 = .ok (.lload 5, 2) := by decide +kernel
theorem dd_M_power_36 : decode cc_M_power 36 = .ok (.lmul, 1) := by decide +kernel
theorem dd_M_power_37 : decode cc_M_power 37 = .ok (.iload_n 2, 1) := by decide +kernel
theorem dd_M_power_38 : decode cc_M_power 38 = .ok (.i2l, 1) := by decide +kernel
theorem dd_M_power_39 : decode cc_M_power 39 = .ok (.lrem, 1) := by decide +kernel
theorem dd_M_power_40 : decode cc_M_power 40 = .ok (.lstore 5, 2) := by decide +kernel
theorem dd_M_power_42 : decode cc_M_power 42 = .ok (.iload 7, 2) := by decide +kernel
theorem dd_M_power_44 : decode cc_M_power 44 = .ok (.iconst 2, 1) := by decide +kernel
theorem dd_M_power_45 : decode cc_M_power 45 = .ok (.idiv, 1) := by decide +kernel
theorem dd_M_power_46 : decode cc_M_power 46 = .ok (.istore 7, 2) := by decide +kernel
theorem dd_M_power_48 : decode cc_M_power 48 = .ok (.goto (-37), 3) := by decide +kernel
theorem dd_M_power_51 : decode cc_M_power 51 = .ok (.lload_n 3, 1) := by decide +kernel
theorem dd_M_power_52 : decode cc_M_power 52 = .ok (.l2i, 1) := by decide +kernel
theorem dd_M_power_53 : decode cc_M_power 53 = .ok (.ireturn, 1) := by decide +kernel
theorem dd_M_isPlace_0 : decode cc_M_isPlace 0 = .ok (.iload_n 0, 1) := by decide +kernel
theorem dd_M_isPlace_1 : decode cc_M_isPlace 1 = .ok (.ifCond .lt (13), 3) := by decide +kernel
theorem dd_M_isPlace_4 : decode cc_M_isPlace 4 = .ok (.iload_n 0, 1) := by decide +kernel
theorem dd_M_isPlace_5 : decode cc_M_isPlace 5 = .ok (.bipush (52), 2) := by decide +kernel
theorem dd_M_isPlace_7 : decode cc_M_isPlace 7 = .ok (.if_icmp .ge (7), 3) := by decide +kernel
theorem dd_M_isPlace_10 : decode cc_M_isPlace 10 = .ok (.iconst 1, 1) := by decide +kernel
theorem dd_M_isPlace_11 : decode cc_M_isPlace 11 = .ok (.goto (4), 3) := by decide +kernel
theorem dd_M_isPlace_14 : decode cc_M_isPlace 14 = .ok (.iconst 0, 1) := by decide +kernel
theorem dd_M_isPlace_15 : decode cc_M_isPlace 15 = .ok (.ireturn, 1) := by decide +kernel
theorem dd_O_isPlace_0 : decode cc_O_isPlace 0 = .ok (.iload_n 0, 1) := by decide +kernel
theorem dd_O_isPlace_1 : decode cc_O_isPlace 1 = .ok (.ifCond .lt (13), 3) := by decide +kernel
theorem dd_O_isPlace_4 : decode cc_O_isPlace 4 = .ok (.iload_n 0, 1) := by decide +kernel
theorem dd_O_isPlace_5 : decode cc_O_isPlace 5 = .ok (.bipush (52), 2) := by decide +kernel
theorem dd_O_isPlace_7 : decode cc_O_isPlace 7 = .ok (.if_icmp .ge (7), 3) := by decide +kernel
theorem dd_O_isPlace_10 : decode cc_O_isPlace 10 = .ok (.iconst 1, 1) := by decide +kernel
theorem dd_O_isPlace_11 : decode cc_O_isPlace 11 = .ok (.goto (4), 3) := by decide +kernel
theorem dd_O_isPlace_14 : decode cc_O_isPlace 14 = .ok (.iconst 0, 1) := by decide +kernel
theorem dd_O_isPlace_15 : decode cc_O_isPlace 15 = .ok (.ireturn, 1) := by decide +kernel
theorem dd_O_rankOf_0 : decode cc_O_rankOf 0 = .ok (.iload_n 1, 1) := by decide +kernel
theorem dd_O_rankOf_1 : decode cc_O_rankOf 1 = .ok (.iconst 4, 1) := by decide +kernel
theorem dd_O_rankOf_2 : decode cc_O_rankOf 2 = .ok (.iload_n 0, 1) := by decide +kernel
theorem dd_O_rankOf_3 : decode cc_O_rankOf 3 = .ok (.imul, 1) := by decide +kernel
theorem dd_O_rankOf_4 : decode cc_O_rankOf 4 = .ok (.iushr, 1) := by decide +kernel
theorem dd_O_rankOf_5 : decode cc_O_rankOf 5 = .ok (.bipush (15), 2) := by decide +kernel
theorem dd_O_rankOf_7 : decode cc_O_rankOf 7 = .ok (.iand, 1) := by decide +kernel
theorem dd_O_rankOf_8 : decode cc_O_rankOf 8 = .ok (.ireturn, 1) := by decide +kernel
theorem dd_M_sealOf_0 : decode cc_M_sealOf 0 = .ok (.iload_n 0, 1) := by decide +kernel
theorem dd_M_sealOf_1 : decode cc_M_sealOf 1 = .ok (.i2l, 1) := by decide +kernel
theorem dd_M_sealOf_2 : decode cc_M_sealOf 2 = .ok (.lstore 5, 2) := by decide +kernel
theorem dd_M_sealOf_4 : decode cc_M_sealOf 4 = .ok (.lload 5, 2) := by decide +kernel
theorem dd_M_sealOf_6 : decode cc_M_sealOf 6 = .ok (.lload 5, 2) := by decide +kernel
theorem dd_M_sealOf_8 : decode cc_M_sealOf 8 = .ok (.bipush (29), 2) := by decide +kernel
theorem dd_M_sealOf_10 : decode cc_M_sealOf 10 = .ok (.lushr, 1) := by decide +kernel
theorem dd_M_sealOf_11 : decode cc_M_sealOf 11 = .ok (.lxor, 1) := by decide +kernel
theorem dd_M_sealOf_12 : decode cc_M_sealOf 12 = .ok (.ldc2_w 135, 3) := by decide +kernel
theorem dd_M_sealOf_15 : decode cc_M_sealOf 15 = .ok (.lmul, 1) := by decide +kernel
theorem dd_M_sealOf_16 : decode cc_M_sealOf 16 = .ok (.lload_n 1, 1) := by decide +kernel
theorem dd_M_sealOf_17 : decode cc_M_sealOf 17 = .ok (.ladd, 1) := by decide +kernel
theorem dd_M_sealOf_18 : decode cc_M_sealOf 18 = .ok (.lstore 5, 2) := by decide +kernel
theorem dd_M_sealOf_20 : decode cc_M_sealOf 20 = .ok (.lload 5, 2) := by decide +kernel
theorem dd_M_sealOf_22 : decode cc_M_sealOf 22 = .ok (.lload 5, 2) := by decide +kernel
theorem dd_M_sealOf_24 : decode cc_M_sealOf 24 = .ok (.bipush (32), 2) := by decide +kernel
theorem dd_M_sealOf_26 : decode cc_M_sealOf 26 = .ok (.lushr, 1) := by decide +kernel
theorem dd_M_sealOf_27 : decode cc_M_sealOf 27 = .ok (.lxor, 1) := by decide +kernel
theorem dd_M_sealOf_28 : decode cc_M_sealOf 28 = .ok (.ldc2_w 137, 3) := by decide +kernel
theorem dd_M_sealOf_31 : decode cc_M_sealOf 31 = .ok (.lmul, 1) := by decide +kernel
theorem dd_M_sealOf_32 : decode cc_M_sealOf 32 = .ok (.lload_n 3, 1) := by decide +kernel
theorem dd_M_sealOf_33 : decode cc_M_sealOf 33 = .ok (.ladd, 1) := by decide +kernel
theorem dd_M_sealOf_34 : decode cc_M_sealOf 34 = .ok (.lstore 5, 2) := by decide +kernel
theorem dd_M_sealOf_36 : decode cc_M_sealOf 36 = .ok (.lload 5, 2) := by decide +kernel
theorem dd_M_sealOf_38 : decode cc_M_sealOf 38 = .ok (.lload 5, 2) := by decide +kernel
theorem dd_M_sealOf_40 : decode cc_M_sealOf 40 = .ok (.bipush (29), 2) := by decide +kernel
theorem dd_M_sealOf_42 : decode cc_M_sealOf 42 = .ok (.lushr, 1) := by decide +kernel
theorem dd_M_sealOf_43 : decode cc_M_sealOf 43 = .ok (.lxor, 1) := by decide +kernel
theorem dd_M_sealOf_44 : decode cc_M_sealOf 44 = .ok (.ldc2_w 135, 3) := by decide +kernel
theorem dd_M_sealOf_47 : decode cc_M_sealOf 47 = .ok (.lmul, 1) := by decide +kernel
theorem dd_M_sealOf_48 : decode cc_M_sealOf 48 = .ok (.lstore 5, 2) := by decide +kernel
theorem dd_M_sealOf_50 : decode cc_M_sealOf 50 = .ok (.lload 5, 2) := by decide +kernel
theorem dd_M_sealOf_52 : decode cc_M_sealOf 52 = .ok (.lload 5, 2) := by decide +kernel
theorem dd_M_sealOf_54 : decode cc_M_sealOf 54 = .ok (.bipush (32), 2) := by decide +kernel
theorem dd_M_sealOf_56 : decode cc_M_sealOf 56 = .ok (.lushr, 1) := by decide +kernel
theorem dd_M_sealOf_57 : decode cc_M_sealOf 57 = .ok (.lxor, 1) := by decide +kernel
theorem dd_M_sealOf_58 : decode cc_M_sealOf 58 = .ok (.lreturn, 1) := by decide +kernel
theorem kw_5 : (Jvm.Cond.initialized "OpenDeal$Numbers") ∈ kw := kw_of (List.mem_append_right _ (List.mem_of_getElem? (i := 5) (by decide +kernel))) (by decide +kernel)
theorem kw_155 : (Jvm.Cond.methodLink "OpenDeal$Numbers" (22 : Nat) ({ cls := "OpenDeal$Numbers", name := "power", desc := "(III)I" } : Jvm.MethodName)) ∈ kw := kw_of (List.mem_append_right _ (List.mem_of_getElem? (i := 155) (by decide +kernel))) (by decide +kernel)
theorem kw_156 : (Jvm.Cond.static ({ cls := "OpenDeal$Numbers", name := "power", desc := "(III)I" } : Jvm.MethodName)) ∈ kw := kw_of (List.mem_append_right _ (List.mem_of_getElem? (i := 156) (by decide +kernel))) (by decide +kernel)
theorem kw_157 : (Jvm.Cond.code ({ cls := "OpenDeal$Numbers", name := "power", desc := "(III)I" } : Jvm.MethodName) prog_3_method_10_code (6 : Nat) (Option.some Jvm.ClassFile.FieldType.int)) ∈ kw := kw_of (List.mem_append_right _ (List.mem_of_getElem? (i := 157) rfl)) (by decide +kernel)
theorem kw_158 : (Jvm.Cond.methodLink "OpenDeal$Numbers" (26 : Nat) ({ cls := "OpenDeal$Numbers", name := "times", desc := "(III)I" } : Jvm.MethodName)) ∈ kw := kw_of (List.mem_append_right _ (List.mem_of_getElem? (i := 158) (by decide +kernel))) (by decide +kernel)
theorem kw_159 : (Jvm.Cond.static ({ cls := "OpenDeal$Numbers", name := "times", desc := "(III)I" } : Jvm.MethodName)) ∈ kw := kw_of (List.mem_append_right _ (List.mem_of_getElem? (i := 159) (by decide +kernel))) (by decide +kernel)
theorem kw_160 : (Jvm.Cond.code ({ cls := "OpenDeal$Numbers", name := "times", desc := "(III)I" } : Jvm.MethodName) prog_3_method_9_code (3 : Nat) (Option.some Jvm.ClassFile.FieldType.int)) ∈ kw := kw_of (List.mem_append_right _ (List.mem_of_getElem? (i := 160) rfl)) (by decide +kernel)
theorem kw_201 : (Jvm.Cond.static ({ cls := "OpenDeal$Numbers", name := "isExponent", desc := "(II)Z" } : Jvm.MethodName)) ∈ kw := kw_of (List.mem_append_right _ (List.mem_of_getElem? (i := 201) (by decide +kernel))) (by decide +kernel)
theorem kw_202 : (Jvm.Cond.code ({ cls := "OpenDeal$Numbers", name := "isExponent", desc := "(II)Z" } : Jvm.MethodName) prog_3_method_6_code (2 : Nat) (Option.some Jvm.ClassFile.FieldType.boolean)) ∈ kw := kw_of (List.mem_append_right _ (List.mem_of_getElem? (i := 202) rfl)) (by decide +kernel)
theorem kw_292 : (Jvm.Cond.methodLink "OpenDeal$Numbers" (29 : Nat) ({ cls := "OpenDeal$Numbers", name := "isExponent", desc := "(II)Z" } : Jvm.MethodName)) ∈ kw := kw_of (List.mem_append_right _ (List.mem_of_getElem? (i := 292) (by decide +kernel))) (by decide +kernel)
theorem kw_679 : (Jvm.Cond.constantLong "OpenDealModel" (135 : Nat) (-4658895280553007687 : Int64)) ∈ kw := kw_of (List.mem_append_right _ (List.mem_of_getElem? (i := 679) (by decide +kernel))) (by decide +kernel)
theorem kw_680 : (Jvm.Cond.constantLong "OpenDealModel" (137 : Nat) (-7723592293110705685 : Int64)) ∈ kw := kw_of (List.mem_append_right _ (List.mem_of_getElem? (i := 680) (by decide +kernel))) (by decide +kernel)
