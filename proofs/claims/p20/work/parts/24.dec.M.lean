/-! decode rows, laid by program -/
theorem dd_M_init_0 : decode cc_M_init 0 = .ok (.aload_n 0, 1) := by decide +kernel
theorem dd_M_init_1 : decode cc_M_init 1 = .ok (.invokespecial 1, 3) := by decide +kernel
theorem dd_M_init_4 : decode cc_M_init 4 = .ok (.aload_n 0, 1) := by decide +kernel
theorem dd_M_init_5 : decode cc_M_init 5 = .ok (.iconst 4, 1) := by decide +kernel
theorem dd_M_init_6 : decode cc_M_init 6 = .ok (.newarray .int, 2) := by decide +kernel
theorem dd_M_init_8 : decode cc_M_init 8 = .ok (.putfield 7, 3) := by decide +kernel
theorem dd_M_init_11 : decode cc_M_init 11 = .ok (.aload_n 0, 1) := by decide +kernel
theorem dd_M_init_12 : decode cc_M_init 12 = .ok (.iconst 4, 1) := by decide +kernel
theorem dd_M_init_13 : decode cc_M_init 13 = .ok (.newarray .boolean, 2) := by decide +kernel
theorem dd_M_init_15 : decode cc_M_init 15 = .ok (.putfield 13, 3) := by decide +kernel
theorem dd_M_init_18 : decode cc_M_init 18 = .ok (.aload_n 0, 1) := by decide +kernel
theorem dd_M_init_19 : decode cc_M_init 19 = .ok (.iconst 4, 1) := by decide +kernel
theorem dd_M_init_20 : decode cc_M_init 20 = .ok (.newarray .long, 2) := by decide +kernel
theorem dd_M_init_22 : decode cc_M_init 22 = .ok (.putfield 17, 3) := by decide +kernel
theorem dd_M_init_25 : decode cc_M_init 25 = .ok (.aload_n 0, 1) := by decide +kernel
theorem dd_M_init_26 : decode cc_M_init 26 = .ok (.iconst 4, 1) := by decide +kernel
theorem dd_M_init_27 : decode cc_M_init 27 = .ok (.newarray .int, 2) := by decide +kernel
theorem dd_M_init_29 : decode cc_M_init 29 = .ok (.putfield 21, 3) := by decide +kernel
theorem dd_M_init_32 : decode cc_M_init 32 = .ok (.aload_n 0, 1) := by decide +kernel
theorem dd_M_init_33 : decode cc_M_init 33 = .ok (.iconst 4, 1) := by decide +kernel
theorem dd_M_init_34 : decode cc_M_init 34 = .ok (.newarray .long, 2) := by decide +kernel
theorem dd_M_init_36 : decode cc_M_init 36 = .ok (.putfield 24, 3) := by decide +kernel
theorem dd_M_init_39 : decode cc_M_init 39 = .ok (.aload_n 0, 1) := by decide +kernel
theorem dd_M_init_40 : decode cc_M_init 40 = .ok (.iconst 4, 1) := by decide +kernel
theorem dd_M_init_41 : decode cc_M_init 41 = .ok (.newarray .long, 2) := by decide +kernel
theorem dd_M_init_43 : decode cc_M_init 43 = .ok (.putfield 27, 3) := by decide +kernel
theorem dd_M_init_46 : decode cc_M_init 46 = .ok (.aload_n 0, 1) := by decide +kernel
theorem dd_M_init_47 : decode cc_M_init 47 = .ok (.iconst 4, 1) := by decide +kernel
theorem dd_M_init_48 : decode cc_M_init 48 = .ok (.newarray .boolean, 2) := by decide +kernel
theorem dd_M_init_50 : decode cc_M_init 50 = .ok (.putfield 30, 3) := by decide +kernel
theorem dd_M_init_53 : decode cc_M_init 53 = .ok (.aload_n 0, 1) := by decide +kernel
theorem dd_M_init_54 : decode cc_M_init 54 = .ok (.iconst 4, 1) := by decide +kernel
theorem dd_M_init_55 : decode cc_M_init 55 = .ok (.newarray .int, 2) := by decide +kernel
theorem dd_M_init_57 : decode cc_M_init 57 = .ok (.putfield 33, 3) := by decide +kernel
theorem dd_M_init_60 : decode cc_M_init 60 = .ok (.aload_n 0, 1) := by decide +kernel
theorem dd_M_init_61 : decode cc_M_init 61 = .ok (.iconst 4, 1) := by decide +kernel
theorem dd_M_init_62 : decode cc_M_init 62 = .ok (.newarray .long, 2) := by decide +kernel
theorem dd_M_init_64 : decode cc_M_init 64 = .ok (.putfield 36, 3) := by decide +kernel
theorem dd_M_init_67 : decode cc_M_init 67 = .ok (.aload_n 0, 1) := by decide +kernel
theorem dd_M_init_68 : decode cc_M_init 68 = .ok (.iconst 4, 1) := by decide +kernel
theorem dd_M_init_69 : decode cc_M_init 69 = .ok (.newarray .long, 2) := by decide +kernel
theorem dd_M_init_71 : decode cc_M_init 71 = .ok (.putfield 39, 3) := by decide +kernel
theorem dd_M_init_74 : decode cc_M_init 74 = .ok (.aload_n 0, 1) := by decide +kernel
theorem dd_M_init_75 : decode cc_M_init 75 = .ok (.iconst 4, 1) := by decide +kernel
theorem dd_M_init_76 : decode cc_M_init 76 = .ok (.newarray .long, 2) := by decide +kernel
theorem dd_M_init_78 : decode cc_M_init 78 = .ok (.putfield 42, 3) := by decide +kernel
theorem dd_M_init_81 : decode cc_M_init 81 = .ok (.aload_n 0, 1) := by decide +kernel
theorem dd_M_init_82 : decode cc_M_init 82 = .ok (.iconst 4, 1) := by decide +kernel
theorem dd_M_init_83 : decode cc_M_init 83 = .ok (.newarray .long, 2) := by decide +kernel
theorem dd_M_init_85 : decode cc_M_init 85 = .ok (.putfield 45, 3) := by decide +kernel
theorem dd_M_init_88 : decode cc_M_init 88 = .ok (.aload_n 0, 1) := by decide +kernel
theorem dd_M_init_89 : decode cc_M_init 89 = .ok (.iconst 4, 1) := by decide +kernel
theorem dd_M_init_90 : decode cc_M_init 90 = .ok (.newarray .boolean, 2) := by decide +kernel
theorem dd_M_init_92 : decode cc_M_init 92 = .ok (.putfield 48, 3) := by decide +kernel
theorem dd_M_init_95 : decode cc_M_init 95 = .ok (.aload_n 0, 1) := by decide +kernel
theorem dd_M_init_96 : decode cc_M_init 96 = .ok (.iconst 4, 1) := by decide +kernel
theorem dd_M_init_97 : decode cc_M_init 97 = .ok (.newarray .boolean, 2) := by decide +kernel
theorem dd_M_init_99 : decode cc_M_init 99 = .ok (.putfield 51, 3) := by decide +kernel
theorem dd_M_init_102 : decode cc_M_init 102 = .ok (.aload_n 0, 1) := by decide +kernel
theorem dd_M_init_103 : decode cc_M_init 103 = .ok (.sipush (468), 3) := by decide +kernel
theorem dd_M_init_106 : decode cc_M_init 106 = .ok (.newarray .int, 2) := by decide +kernel
theorem dd_M_init_108 : decode cc_M_init 108 = .ok (.putfield 54, 3) := by decide +kernel
theorem dd_M_init_111 : decode cc_M_init 111 = .ok (.aload_n 0, 1) := by decide +kernel
theorem dd_M_init_112 : decode cc_M_init 112 = .ok (.bipush (52), 2) := by decide +kernel
theorem dd_M_init_114 : decode cc_M_init 114 = .ok (.newarray .int, 2) := by decide +kernel
theorem dd_M_init_116 : decode cc_M_init 116 = .ok (.putfield 57, 3) := by decide +kernel
theorem dd_M_init_119 : decode cc_M_init 119 = .ok (.aload_n 0, 1) := by decide +kernel
theorem dd_M_init_120 : decode cc_M_init 120 = .ok (.bipush (52), 2) := by decide +kernel
theorem dd_M_init_122 : decode cc_M_init 122 = .ok (.newarray .int, 2) := by decide +kernel
theorem dd_M_init_124 : decode cc_M_init 124 = .ok (.putfield 60, 3) := by decide +kernel
theorem dd_M_init_127 : decode cc_M_init 127 = .ok (.aload_n 0, 1) := by decide +kernel
theorem dd_M_init_128 : decode cc_M_init 128 = .ok (.bipush (52), 2) := by decide +kernel
theorem dd_M_init_130 : decode cc_M_init 130 = .ok (.newarray .int, 2) := by decide +kernel
theorem dd_M_init_132 : decode cc_M_init 132 = .ok (.putfield 63, 3) := by decide +kernel
theorem dd_M_init_135 : decode cc_M_init 135 = .ok (.aload_n 0, 1) := by decide +kernel
theorem dd_M_init_136 : decode cc_M_init 136 = .ok (.sipush (208), 3) := by decide +kernel
theorem dd_M_init_139 : decode cc_M_init 139 = .ok (.newarray .int, 2) := by decide +kernel
theorem dd_M_init_141 : decode cc_M_init 141 = .ok (.putfield 66, 3) := by decide +kernel
theorem dd_M_init_144 : decode cc_M_init 144 = .ok (.aload_n 0, 1) := by decide +kernel
theorem dd_M_init_145 : decode cc_M_init 145 = .ok (.iconst 4, 1) := by decide +kernel
theorem dd_M_init_146 : decode cc_M_init 146 = .ok (.newarray .boolean, 2) := by decide +kernel
theorem dd_M_init_148 : decode cc_M_init 148 = .ok (.putfield 69, 3) := by decide +kernel
theorem dd_M_init_151 : decode cc_M_init 151 = .ok (.aload_n 0, 1) := by decide +kernel
theorem dd_M_init_152 : decode cc_M_init 152 = .ok (.iconst 4, 1) := by decide +kernel
theorem dd_M_init_153 : decode cc_M_init 153 = .ok (.newarray .int, 2) := by decide +kernel
theorem dd_M_init_155 : decode cc_M_init 155 = .ok (.putfield 72, 3) := by decide +kernel
theorem dd_M_init_158 : decode cc_M_init 158 = .ok (.aload_n 0, 1) := by decide +kernel
theorem dd_M_init_159 : decode cc_M_init 159 = .ok (.iconst 4, 1) := by decide +kernel
theorem dd_M_init_160 : decode cc_M_init 160 = .ok (.newarray .int, 2) := by decide +kernel
theorem dd_M_init_162 : decode cc_M_init 162 = .ok (.putfield 75, 3) := by decide +kernel
theorem dd_M_init_165 : decode cc_M_init 165 = .ok (.aload_n 0, 1) := by decide +kernel
theorem dd_M_init_166 : decode cc_M_init 166 = .ok (.iconst 4, 1) := by decide +kernel
theorem dd_M_init_167 : decode cc_M_init 167 = .ok (.newarray .boolean, 2) := by decide +kernel
theorem dd_M_init_169 : decode cc_M_init 169 = .ok (.putfield 78, 3) := by decide +kernel
theorem dd_M_init_172 : decode cc_M_init 172 = .ok (.aload_n 0, 1) := by decide +kernel
theorem dd_M_init_173 : decode cc_M_init 173 = .ok (.iconst (-1), 1) := by decide +kernel
theorem dd_M_init_174 : decode cc_M_init 174 = .ok (.putfield 81, 3) := by decide +kernel
theorem dd_M_init_177 : decode cc_M_init 177 = .ok (.return_, 1) := by decide +kernel
theorem dd_M_raise_0 : decode cc_M_raise 0 = .ok (.aload_n 0, 1) := by decide +kernel
theorem dd_M_raise_1 : decode cc_M_raise 1 = .ok (.iload_n 1, 1) := by decide +kernel
theorem dd_M_raise_2 : decode cc_M_raise 2 = .ok (.putfield 85, 3) := by decide +kernel
theorem dd_M_raise_5 : decode cc_M_raise 5 = .ok (.iconst 0, 1) := by decide +kernel
theorem dd_M_raise_6 : decode cc_M_raise 6 = .ok (.ireturn, 1) := by decide +kernel
theorem dd_M_isPrime_0 : decode cc_M_isPrime 0 = .ok (.iconst 2, 1) := by decide +kernel
theorem dd_M_isPrime_1 : decode cc_M_isPrime 1 = .ok (.istore_n 1, 1) := by decide +kernel
theorem dd_M_isPrime_2 : decode cc_M_isPrime 2 = .ok (.iload_n 1, 1) := by decide +kernel
theorem dd_M_isPrime_3 : decode cc_M_isPrime 3 = .ok (.i2l, 1) := by decide +kernel
theorem dd_M_isPrime_4 : decode cc_M_isPrime 4 = .ok (.iload_n 1, 1) := by decide +kernel
theorem dd_M_isPrime_5 : decode cc_M_isPrime 5 = .ok (.i2l, 1) := by decide +kernel
theorem dd_M_isPrime_6 : decode cc_M_isPrime 6 = .ok (.lmul, 1) := by decide +kernel
theorem dd_M_isPrime_7 : decode cc_M_isPrime 7 = .ok (.iload_n 0, 1) := by decide +kernel
theorem dd_M_isPrime_8 : decode cc_M_isPrime 8 = .ok (.i2l, 1) := by decide +kernel
theorem dd_M_isPrime_9 : decode cc_M_isPrime 9 = .ok (.lcmp, 1) := by decide +kernel
theorem dd_M_isPrime_10 : decode cc_M_isPrime 10 = .ok (.ifCond .gt (17), 3) := by decide +kernel
theorem dd_M_isPrime_13 : decode cc_M_isPrime 13 = .ok (.iload_n 0, 1) := by decide +kernel
theorem dd_M_isPrime_14 : decode cc_M_isPrime 14 = .ok (.iload_n 1, 1) := by decide +kernel
theorem dd_M_isPrime_15 : decode cc_M_isPrime 15 = .ok (.irem, 1) := by decide +kernel
theorem dd_M_isPrime_16 : decode cc_M_isPrime 16 = .ok (.ifCond .ne (5), 3) := by decide +kernel
theorem dd_M_isPrime_19 : decode cc_M_isPrime 19 = .ok (.iconst 0, 1) := by decide +kernel
theorem dd_M_isPrime_20 : decode cc_M_isPrime 20 = .ok (.ireturn, 1) := by decide +kernel
theorem dd_M_isPrime_21 : decode cc_M_isPrime 21 = .ok (.iinc 1 (1), 3) := by decide +kernel
theorem dd_M_isPrime_24 : decode cc_M_isPrime 24 = .ok (.goto (-22), 3) := by decide +kernel
theorem dd_M_isPrime_27 : decode cc_M_isPrime 27 = .ok (.iload_n 0, 1) := by decide +kernel
theorem dd_M_isPrime_28 : decode cc_M_isPrime 28 = .ok (.iconst 1, 1) := by decide +kernel
theorem dd_M_isPrime_29 : decode cc_M_isPrime 29 = .ok (.if_icmp .le (7), 3) := by decide +kernel
theorem dd_M_isPrime_32 : decode cc_M_isPrime 32 = .ok (.iconst 1, 1) := by decide +kernel
theorem dd_M_isPrime_33 : decode cc_M_isPrime 33 = .ok (.goto (4), 3) := by decide +kernel
theorem dd_M_isPrime_36 : decode cc_M_isPrime 36 = .ok (.iconst 0, 1) := by decide +kernel
theorem dd_M_isPrime_37 : decode cc_M_isPrime 37 = .ok (.ireturn, 1) := by decide +kernel
theorem dd_M_prime_0 : decode cc_M_prime 0 = .ok (.aload_n 0, 1) := by decide +kernel
theorem dd_M_prime_1 : decode cc_M_prime 1 = .ok (.iconst 0, 1) := by decide +kernel
theorem dd_M_prime_2 : decode cc_M_prime 2 = .ok (.putfield 85, 3) := by decide +kernel
theorem dd_M_prime_5 : decode cc_M_prime 5 = .ok (.aload_n 0, 1) := by decide +kernel
theorem dd_M_prime_6 : decode cc_M_prime 6 = .ok (.getfield 88, 3) := by decide +kernel
theorem dd_M_prime_9 : decode cc_M_prime 9 = .ok (.ifCond .ne (33), 3) := by decide +kernel
theorem dd_M_prime_12 : decode cc_M_prime 12 = .ok (.iload_n 1, 1) := by decide +kernel
theorem dd_M_prime_13 : decode cc_M_prime 13 = .ok (.ldc 91, 2) := by decide +kernel
theorem dd_M_prime_15 : decode cc_M_prime 15 = .ok (.if_icmp .le (27), 3) := by decide +kernel
theorem dd_M_prime_18 : decode cc_M_prime 18 = .ok (.iload_n 1, 1) := by decide +kernel
theorem dd_M_prime_19 : decode cc_M_prime 19 = .ok (.iconst 2, 1) := by decide +kernel
theorem dd_M_prime_20 : decode cc_M_prime 20 = .ok (.irem, 1) := by decide +kernel
theorem dd_M_prime_21 : decode cc_M_prime 21 = .ok (.ifCond .eq (21), 3) := by decide +kernel
theorem dd_M_prime_24 : decode cc_M_prime 24 = .ok (.iload_n 1, 1) := by decide +kernel
theorem dd_M_prime_25 : decode cc_M_prime 25 = .ok (.invokestatic 92, 3) := by decide +kernel
theorem dd_M_prime_28 : decode cc_M_prime 28 = .ok (.ifCond .eq (14), 3) := by decide +kernel
theorem dd_M_prime_31 : decode cc_M_prime 31 = .ok (.iload_n 1, 1) := by decide +kernel
theorem dd_M_prime_32 : decode cc_M_prime 32 = .ok (.iconst 1, 1) := by decide +kernel
theorem dd_M_prime_33 : decode cc_M_prime 33 = .ok (.isub, 1) := by decide +kernel
theorem dd_M_prime_34 : decode cc_M_prime 34 = .ok (.iconst 2, 1) := by decide +kernel
theorem dd_M_prime_35 : decode cc_M_prime 35 = .ok (.idiv, 1) := by decide +kernel
theorem dd_M_prime_36 : decode cc_M_prime 36 = .ok (.invokestatic 92, 3) := by decide +kernel
theorem dd_M_prime_39 : decode cc_M_prime 39 = .ok (.ifCond .ne (5), 3) := by decide +kernel
theorem dd_M_prime_42 : decode cc_M_prime 42 = .ok (.iconst 0, 1) := by decide +kernel
theorem dd_M_prime_43 : decode cc_M_prime 43 = .ok (.ireturn, 1) := by decide +kernel
theorem dd_M_prime_44 : decode cc_M_prime 44 = .ok (.aload_n 0, 1) := by decide +kernel
theorem dd_M_prime_45 : decode cc_M_prime 45 = .ok (.iload_n 1, 1) := by decide +kernel
theorem dd_M_prime_46 : decode cc_M_prime 46 = .ok (.putfield 88, 3) := by decide +kernel
theorem dd_M_prime_49 : decode cc_M_prime 49 = .ok (.aload_n 0, 1) := by decide +kernel
theorem dd_M_prime_50 : decode cc_M_prime 50 = .ok (.iload_n 1, 1) := by decide +kernel
theorem dd_M_prime_51 : decode cc_M_prime 51 = .ok (.iconst 1, 1) := by decide +kernel
theorem dd_M_prime_52 : decode cc_M_prime 52 = .ok (.isub, 1) := by decide +kernel
theorem dd_M_prime_53 : decode cc_M_prime 53 = .ok (.iconst 2, 1) := by decide +kernel
theorem dd_M_prime_54 : decode cc_M_prime 54 = .ok (.idiv, 1) := by decide +kernel
theorem dd_M_prime_55 : decode cc_M_prime 55 = .ok (.putfield 96, 3) := by decide +kernel
theorem dd_M_prime_58 : decode cc_M_prime 58 = .ok (.aload_n 0, 1) := by decide +kernel
theorem dd_M_prime_59 : decode cc_M_prime 59 = .ok (.invokevirtual 99, 3) := by decide +kernel
theorem dd_M_prime_62 : decode cc_M_prime 62 = .ok (.iconst 1, 1) := by decide +kernel
theorem dd_M_prime_63 : decode cc_M_prime 63 = .ok (.ireturn, 1) := by decide +kernel
theorem dd_M_beginDeck_0 : decode cc_M_beginDeck 0 = .ok (.iconst 0, 1) := by decide +kernel
theorem dd_M_beginDeck_1 : decode cc_M_beginDeck 1 = .ok (.istore_n 1, 1) := by decide +kernel
theorem dd_M_beginDeck_2 : decode cc_M_beginDeck 2 = .ok (.iload_n 1, 1) := by decide +kernel
theorem dd_M_beginDeck_3 : decode cc_M_beginDeck 3 = .ok (.bipush (52), 2) := by decide +kernel
theorem dd_M_beginDeck_5 : decode cc_M_beginDeck 5 = .ok (.if_icmp .ge (27), 3) := by decide +kernel
theorem dd_M_beginDeck_8 : decode cc_M_beginDeck 8 = .ok (.aload_n 0, 1) := by decide +kernel
theorem dd_M_beginDeck_9 : decode cc_M_beginDeck 9 = .ok (.getfield 54, 3) := by decide +kernel
theorem dd_M_beginDeck_12 : decode cc_M_beginDeck 12 = .ok (.iload_n 1, 1) := by decide +kernel
theorem dd_M_beginDeck_13 : decode cc_M_beginDeck 13 = .ok (.iload_n 1, 1) := by decide +kernel
theorem dd_M_beginDeck_14 : decode cc_M_beginDeck 14 = .ok (.iconst 2, 1) := by decide +kernel
theorem dd_M_beginDeck_15 : decode cc_M_beginDeck 15 = .ok (.iadd, 1) := by decide +kernel
theorem dd_M_beginDeck_16 : decode cc_M_beginDeck 16 = .ok (.iload_n 1, 1) := by decide +kernel
theorem dd_M_beginDeck_17 : decode cc_M_beginDeck 17 = .ok (.iconst 2, 1) := by decide +kernel
theorem dd_M_beginDeck_18 : decode cc_M_beginDeck 18 = .ok (.iadd, 1) := by decide +kernel
theorem dd_M_beginDeck_19 : decode cc_M_beginDeck 19 = .ok (.imul, 1) := by decide +kernel
theorem dd_M_beginDeck_20 : decode cc_M_beginDeck 20 = .ok (.aload_n 0, 1) := by decide +kernel
theorem dd_M_beginDeck_21 : decode cc_M_beginDeck 21 = .ok (.getfield 88, 3) := by decide +kernel
theorem dd_M_beginDeck_24 : decode cc_M_beginDeck 24 = .ok (.irem, 1) := by decide +kernel
theorem dd_M_beginDeck_25 : decode cc_M_beginDeck 25 = .ok (.iastore, 1) := by decide +kernel
theorem dd_M_beginDeck_26 : decode cc_M_beginDeck 26 = .ok (.iinc 1 (1), 3) := by decide +kernel
theorem dd_M_beginDeck_29 : decode cc_M_beginDeck 29 = .ok (.goto (-27), 3) := by decide +kernel
theorem dd_M_beginDeck_32 : decode cc_M_beginDeck 32 = .ok (.aload_n 0, 1) := by decide +kernel
theorem dd_M_beginDeck_33 : decode cc_M_beginDeck 33 = .ok (.iconst 0, 1) := by decide +kernel
theorem dd_M_beginDeck_34 : decode cc_M_beginDeck 34 = .ok (.putfield 102, 3) := by decide +kernel
theorem dd_M_beginDeck_37 : decode cc_M_beginDeck 37 = .ok (.return_, 1) := by decide +kernel
theorem dd_M_clear_0 : decode cc_M_clear 0 = .ok (.aload_n 0, 1) := by decide +kernel
theorem dd_M_clear_1 : decode cc_M_clear 1 = .ok (.iconst 0, 1) := by decide +kernel
theorem dd_M_clear_2 : decode cc_M_clear 2 = .ok (.putfield 85, 3) := by decide +kernel
theorem dd_M_clear_5 : decode cc_M_clear 5 = .ok (.aload_n 0, 1) := by decide +kernel
theorem dd_M_clear_6 : decode cc_M_clear 6 = .ok (.iconst 0, 1) := by decide +kernel
theorem dd_M_clear_7 : decode cc_M_clear 7 = .ok (.putfield 88, 3) := by decide +kernel
theorem dd_M_clear_10 : decode cc_M_clear 10 = .ok (.aload_n 0, 1) := by decide +kernel
theorem dd_M_clear_11 : decode cc_M_clear 11 = .ok (.iconst 0, 1) := by decide +kernel
theorem dd_M_clear_12 : decode cc_M_clear 12 = .ok (.putfield 105, 3) := by decide +kernel
theorem dd_M_clear_15 : decode cc_M_clear 15 = .ok (.aload_n 0, 1) := by decide +kernel
theorem dd_M_clear_16 : decode cc_M_clear 16 = .ok (.iconst 0, 1) := by decide +kernel
theorem dd_M_clear_17 : decode cc_M_clear 17 = .ok (.putfield 108, 3) := by decide +kernel
theorem dd_M_clear_20 : decode cc_M_clear 20 = .ok (.aload_n 0, 1) := by decide +kernel
theorem dd_M_clear_21 : decode cc_M_clear 21 = .ok (.iconst 0, 1) := by decide +kernel
theorem dd_M_clear_22 : decode cc_M_clear 22 = .ok (.putfield 111, 3) := by decide +kernel
theorem dd_M_clear_25 : decode cc_M_clear 25 = .ok (.aload_n 0, 1) := by decide +kernel
theorem dd_M_clear_26 : decode cc_M_clear 26 = .ok (.iconst (-1), 1) := by decide +kernel
theorem dd_M_clear_27 : decode cc_M_clear 27 = .ok (.putfield 81, 3) := by decide +kernel
theorem dd_M_clear_30 : decode cc_M_clear 30 = .ok (.iconst 0, 1) := by decide +kernel
theorem dd_M_clear_31 : decode cc_M_clear 31 = .ok (.istore_n 1, 1) := by decide +kernel
theorem dd_M_clear_32 : decode cc_M_clear 32 = .ok (.iload_n 1, 1) := by decide +kernel
theorem dd_M_clear_33 : decode cc_M_clear 33 = .ok (.iconst 4, 1) := by decide +kernel
theorem dd_M_clear_34 : decode cc_M_clear 34 = .ok (.if_icmp .ge (37), 3) := by decide +kernel
theorem dd_M_clear_37 : decode cc_M_clear 37 = .ok (.aload_n 0, 1) := by decide +kernel
theorem dd_M_clear_38 : decode cc_M_clear 38 = .ok (.getfield 13, 3) := by decide +kernel
theorem dd_M_clear_41 : decode cc_M_clear 41 = .ok (.iload_n 1, 1) := by decide +kernel
theorem dd_M_clear_42 : decode cc_M_clear 42 = .ok (.iconst 0, 1) := by decide +kernel
theorem dd_M_clear_43 : decode cc_M_clear 43 = .ok (.bastore, 1) := by decide +kernel
theorem dd_M_clear_44 : decode cc_M_clear 44 = .ok (.aload_n 0, 1) := by decide +kernel
theorem dd_M_clear_45 : decode cc_M_clear 45 = .ok (.getfield 72, 3) := by decide +kernel
theorem dd_M_clear_48 : decode cc_M_clear 48 = .ok (.iload_n 1, 1) := by decide +kernel
theorem dd_M_clear_49 : decode cc_M_clear 49 = .ok (.iconst 0, 1) := by decide +kernel
theorem dd_M_clear_50 : decode cc_M_clear 50 = .ok (.iastore, 1) := by decide +kernel
theorem dd_M_clear_51 : decode cc_M_clear 51 = .ok (.aload_n 0, 1) := by decide +kernel
theorem dd_M_clear_52 : decode cc_M_clear 52 = .ok (.getfield 75, 3) := by decide +kernel
theorem dd_M_clear_55 : decode cc_M_clear 55 = .ok (.iload_n 1, 1) := by decide +kernel
theorem dd_M_clear_56 : decode cc_M_clear 56 = .ok (.iconst 0, 1) := by decide +kernel
theorem dd_M_clear_57 : decode cc_M_clear 57 = .ok (.iastore, 1) := by decide +kernel
theorem dd_M_clear_58 : decode cc_M_clear 58 = .ok (.aload_n 0, 1) := by decide +kernel
theorem dd_M_clear_59 : decode cc_M_clear 59 = .ok (.getfield 69, 3) := by decide +kernel
theorem dd_M_clear_62 : decode cc_M_clear 62 = .ok (.iload_n 1, 1) := by decide +kernel
theorem dd_M_clear_63 : decode cc_M_clear 63 = .ok (.iconst 0, 1) := by decide +kernel
theorem dd_M_clear_64 : decode cc_M_clear 64 = .ok (.bastore, 1) := by decide +kernel
theorem dd_M_clear_65 : decode cc_M_clear 65 = .ok (.iinc 1 (1), 3) := by decide +kernel
theorem dd_M_clear_68 : decode cc_M_clear 68 = .ok (.goto (-36), 3) := by decide +kernel
theorem dd_M_clear_71 : decode cc_M_clear 71 = .ok (.iconst 0, 1) := by decide +kernel
theorem dd_M_clear_72 : decode cc_M_clear 72 = .ok (.istore_n 1, 1) := by decide +kernel
theorem dd_M_clear_73 : decode cc_M_clear 73 = .ok (.iload_n 1, 1) := by decide +kernel
theorem dd_M_clear_74 : decode cc_M_clear 74 = .ok (.sipush (208), 3) := by decide +kernel
theorem dd_M_clear_77 : decode cc_M_clear 77 = .ok (.if_icmp .ge (16), 3) := by decide +kernel
theorem dd_M_clear_80 : decode cc_M_clear 80 = .ok (.aload_n 0, 1) := by decide +kernel
theorem dd_M_clear_81 : decode cc_M_clear 81 = .ok (.getfield 66, 3) := by decide +kernel
theorem dd_M_clear_84 : decode cc_M_clear 84 = .ok (.iload_n 1, 1) := by decide +kernel
theorem dd_M_clear_85 : decode cc_M_clear 85 = .ok (.iconst 0, 1) := by decide +kernel
theorem dd_M_clear_86 : decode cc_M_clear 86 = .ok (.iastore, 1) := by decide +kernel
theorem dd_M_clear_87 : decode cc_M_clear 87 = .ok (.iinc 1 (1), 3) := by decide +kernel
theorem dd_M_clear_90 : decode cc_M_clear 90 = .ok (.goto (-17), 3) := by decide +kernel
theorem dd_M_clear_93 : decode cc_M_clear 93 = .ok (.return_, 1) := by decide +kernel
theorem dd_M_seat_0 : decode cc_M_seat 0 = .ok (.aload_n 0, 1) := by decide +kernel
theorem dd_M_seat_1 : decode cc_M_seat 1 = .ok (.iconst 0, 1) := by decide +kernel
theorem dd_M_seat_2 : decode cc_M_seat 2 = .ok (.putfield 85, 3) := by decide +kernel
theorem dd_M_seat_5 : decode cc_M_seat 5 = .ok (.aload_n 0, 1) := by decide +kernel
theorem dd_M_seat_6 : decode cc_M_seat 6 = .ok (.getfield 105, 3) := by decide +kernel
theorem dd_M_seat_9 : decode cc_M_seat 9 = .ok (.iconst 4, 1) := by decide +kernel
theorem dd_M_seat_10 : decode cc_M_seat 10 = .ok (.if_icmp .eq (21), 3) := by decide +kernel
theorem dd_M_seat_13 : decode cc_M_seat 13 = .ok (.aload_n 0, 1) := by decide +kernel
theorem dd_M_seat_14 : decode cc_M_seat 14 = .ok (.getfield 108, 3) := by decide +kernel
theorem dd_M_seat_17 : decode cc_M_seat 17 = .ok (.ifCond .ne (14), 3) := by decide +kernel
theorem dd_M_seat_20 : decode cc_M_seat 20 = .ok (.iload_n 1, 1) := by decide +kernel
theorem dd_M_seat_21 : decode cc_M_seat 21 = .ok (.iconst 1, 1) := by decide +kernel
theorem dd_M_seat_22 : decode cc_M_seat 22 = .ok (.if_icmp .lt (9), 3) := by decide +kernel
theorem dd_M_seat_25 : decode cc_M_seat 25 = .ok (.iload_n 1, 1) := by decide +kernel
theorem dd_M_seat_26 : decode cc_M_seat 26 = .ok (.ldc 115, 2) := by decide +kernel
theorem dd_M_seat_28 : decode cc_M_seat 28 = .ok (.if_icmp .le (5), 3) := by decide +kernel
theorem dd_M_seat_31 : decode cc_M_seat 31 = .ok (.iconst (-1), 1) := by decide +kernel
theorem dd_M_seat_32 : decode cc_M_seat 32 = .ok (.ireturn, 1) := by decide +kernel
theorem dd_M_seat_33 : decode cc_M_seat 33 = .ok (.aload_n 0, 1) := by decide +kernel
theorem dd_M_seat_34 : decode cc_M_seat 34 = .ok (.getfield 7, 3) := by decide +kernel
theorem dd_M_seat_37 : decode cc_M_seat 37 = .ok (.aload_n 0, 1) := by decide +kernel
theorem dd_M_seat_38 : decode cc_M_seat 38 = .ok (.getfield 105, 3) := by decide +kernel
theorem dd_M_seat_41 : decode cc_M_seat 41 = .ok (.iload_n 1, 1) := by decide +kernel
theorem dd_M_seat_42 : decode cc_M_seat 42 = .ok (.iastore, 1) := by decide +kernel
theorem dd_M_seat_43 : decode cc_M_seat 43 = .ok (.aload_n 0, 1) := by decide +kernel
theorem dd_M_seat_44 : decode cc_M_seat 44 = .ok (.getfield 72, 3) := by decide +kernel
theorem dd_M_seat_47 : decode cc_M_seat 47 = .ok (.aload_n 0, 1) := by decide +kernel
theorem dd_M_seat_48 : decode cc_M_seat 48 = .ok (.getfield 105, 3) := by decide +kernel
theorem dd_M_seat_51 : decode cc_M_seat 51 = .ok (.iconst 0, 1) := by decide +kernel
theorem dd_M_seat_52 : decode cc_M_seat 52 = .ok (.iastore, 1) := by decide +kernel
theorem dd_M_seat_53 : decode cc_M_seat 53 = .ok (.aload_n 0, 1) := by decide +kernel
theorem dd_M_seat_54 : decode cc_M_seat 54 = .ok (.dup, 1) := by decide +kernel
theorem dd_M_seat_55 : decode cc_M_seat 55 = .ok (.getfield 105, 3) := by decide +kernel
theorem dd_M_seat_58 : decode cc_M_seat 58 = .ok (.iconst 1, 1) := by decide +kernel
theorem dd_M_seat_59 : decode cc_M_seat 59 = .ok (.iadd, 1) := by decide +kernel
theorem dd_M_seat_60 : decode cc_M_seat 60 = .ok (.putfield 105, 3) := by decide +kernel
theorem dd_M_seat_63 : decode cc_M_seat 63 = .ok (.aload_n 0, 1) := by decide +kernel
theorem dd_M_seat_64 : decode cc_M_seat 64 = .ok (.getfield 105, 3) := by decide +kernel
theorem dd_M_seat_67 : decode cc_M_seat 67 = .ok (.iconst 1, 1) := by decide +kernel
theorem dd_M_seat_68 : decode cc_M_seat 68 = .ok (.isub, 1) := by decide +kernel
theorem dd_M_seat_69 : decode cc_M_seat 69 = .ok (.ireturn, 1) := by decide +kernel
theorem dd_M_isPlayer_0 : decode cc_M_isPlayer 0 = .ok (.iload_n 1, 1) := by decide +kernel
theorem dd_M_isPlayer_1 : decode cc_M_isPlayer 1 = .ok (.ifCond .lt (15), 3) := by decide +kernel
theorem dd_M_isPlayer_4 : decode cc_M_isPlayer 4 = .ok (.iload_n 1, 1) := by decide +kernel
theorem dd_M_isPlayer_5 : decode cc_M_isPlayer 5 = .ok (.aload_n 0, 1) := by decide +kernel
theorem dd_M_isPlayer_6 : decode cc_M_isPlayer 6 = .ok (.getfield 105, 3) := by decide +kernel
theorem dd_M_isPlayer_9 : decode cc_M_isPlayer 9 = .ok (.if_icmp .ge (7), 3) := by decide +kernel
theorem dd_M_isPlayer_12 : decode cc_M_isPlayer 12 = .ok (.iconst 1, 1) := by decide +kernel
theorem dd_M_isPlayer_13 : decode cc_M_isPlayer 13 = .ok (.goto (4), 3) := by decide +kernel
theorem dd_M_isPlayer_16 : decode cc_M_isPlayer 16 = .ok (.iconst 0, 1) := by decide +kernel
theorem dd_M_isPlayer_17 : decode cc_M_isPlayer 17 = .ok (.ireturn, 1) := by decide +kernel
theorem dd_M_isPlace_0 : decode cc_M_isPlace 0 = .ok (.iload_n 0, 1) := by decide +kernel
theorem dd_M_isPlace_1 : decode cc_M_isPlace 1 = .ok (.ifCond .lt (13), 3) := by decide +kernel
theorem dd_M_isPlace_4 : decode cc_M_isPlace 4 = .ok (.iload_n 0, 1) := by decide +kernel
theorem dd_M_isPlace_5 : decode cc_M_isPlace 5 = .ok (.bipush (52), 2) := by decide +kernel
theorem dd_M_isPlace_7 : decode cc_M_isPlace 7 = .ok (.if_icmp .ge (7), 3) := by decide +kernel
theorem dd_M_isPlace_10 : decode cc_M_isPlace 10 = .ok (.iconst 1, 1) := by decide +kernel
theorem dd_M_isPlace_11 : decode cc_M_isPlace 11 = .ok (.goto (4), 3) := by decide +kernel
theorem dd_M_isPlace_14 : decode cc_M_isPlace 14 = .ok (.iconst 0, 1) := by decide +kernel
theorem dd_M_isPlace_15 : decode cc_M_isPlace 15 = .ok (.ireturn, 1) := by decide +kernel
theorem dd_M_deal_0 : decode cc_M_deal 0 = .ok (.aload_n 0, 1) := by decide +kernel
theorem dd_M_deal_1 : decode cc_M_deal 1 = .ok (.iconst 0, 1) := by decide +kernel
theorem dd_M_deal_2 : decode cc_M_deal 2 = .ok (.putfield 85, 3) := by decide +kernel
theorem dd_M_deal_5 : decode cc_M_deal 5 = .ok (.aload_n 0, 1) := by decide +kernel
theorem dd_M_deal_6 : decode cc_M_deal 6 = .ok (.getfield 88, 3) := by decide +kernel
theorem dd_M_deal_9 : decode cc_M_deal 9 = .ok (.ifCond .eq (31), 3) := by decide +kernel
theorem dd_M_deal_12 : decode cc_M_deal 12 = .ok (.aload_n 0, 1) := by decide +kernel
theorem dd_M_deal_13 : decode cc_M_deal 13 = .ok (.getfield 105, 3) := by decide +kernel
theorem dd_M_deal_16 : decode cc_M_deal 16 = .ok (.iconst 1, 1) := by decide +kernel
theorem dd_M_deal_17 : decode cc_M_deal 17 = .ok (.if_icmp .le (23), 3) := by decide +kernel
theorem dd_M_deal_20 : decode cc_M_deal 20 = .ok (.aload_n 0, 1) := by decide +kernel
theorem dd_M_deal_21 : decode cc_M_deal 21 = .ok (.getfield 108, 3) := by decide +kernel
theorem dd_M_deal_24 : decode cc_M_deal 24 = .ok (.ifCond .eq (12), 3) := by decide +kernel
theorem dd_M_deal_27 : decode cc_M_deal 27 = .ok (.aload_n 0, 1) := by decide +kernel
theorem dd_M_deal_28 : decode cc_M_deal 28 = .ok (.getfield 108, 3) := by decide +kernel
theorem dd_M_deal_31 : decode cc_M_deal 31 = .ok (.bipush (6), 2) := by decide +kernel
theorem dd_M_deal_33 : decode cc_M_deal 33 = .ok (.if_icmp .ne (7), 3) := by decide +kernel
theorem dd_M_deal_36 : decode cc_M_deal 36 = .ok (.iconst 1, 1) := by decide +kernel
theorem dd_M_deal_37 : decode cc_M_deal 37 = .ok (.goto (4), 3) := by decide +kernel
theorem dd_M_deal_40 : decode cc_M_deal 40 = .ok (.iconst 0, 1) := by decide +kernel
theorem dd_M_deal_41 : decode cc_M_deal 41 = .ok (.istore_n 1, 1) := by decide +kernel
theorem dd_M_deal_42 : decode cc_M_deal 42 = .ok (.iconst 0, 1) := by decide +kernel
theorem dd_M_deal_43 : decode cc_M_deal 43 = .ok (.istore_n 2, 1) := by decide +kernel
theorem dd_M_deal_44 : decode cc_M_deal 44 = .ok (.iload_n 2, 1) := by decide +kernel
theorem dd_M_deal_45 : decode cc_M_deal 45 = .ok (.aload_n 0, 1) := by decide +kernel
theorem dd_M_deal_46 : decode cc_M_deal 46 = .ok (.getfield 105, 3) := by decide +kernel
theorem dd_M_deal_49 : decode cc_M_deal 49 = .ok (.if_icmp .ge (28), 3) := by decide +kernel
theorem dd_M_deal_52 : decode cc_M_deal 52 = .ok (.iload_n 1, 1) := by decide +kernel
theorem dd_M_deal_53 : decode cc_M_deal 53 = .ok (.ifCond .eq (16), 3) := by decide +kernel
theorem dd_M_deal_56 : decode cc_M_deal 56 = .ok (.aload_n 0, 1) := by decide +kernel
theorem dd_M_deal_57 : decode cc_M_deal 57 = .ok (.getfield 7, 3) := by decide +kernel
theorem dd_M_deal_60 : decode cc_M_deal 60 = .ok (.iload_n 2, 1) := by decide +kernel
theorem dd_M_deal_61 : decode cc_M_deal 61 = .ok (.iaload, 1) := by decide +kernel
theorem dd_M_deal_62 : decode cc_M_deal 62 = .ok (.ifCond .le (7), 3) := by decide +kernel
theorem dd_M_deal_65 : decode cc_M_deal 65 = .ok (.iconst 1, 1) := by decide +kernel
theorem dd_M_deal_66 : decode cc_M_deal 66 = .ok (.goto (4), 3) := by decide +kernel
theorem dd_M_deal_69 : decode cc_M_deal 69 = .ok (.iconst 0, 1) := by decide +kernel
theorem dd_M_deal_70 : decode cc_M_deal 70 = .ok (.istore_n 1, 1) := by decide +kernel
theorem dd_M_deal_71 : decode cc_M_deal 71 = .ok (.iinc 2 (1), 3) := by decide +kernel
theorem dd_M_deal_74 : decode cc_M_deal 74 = .ok (.goto (-30), 3) := by decide +kernel
theorem dd_M_deal_77 : decode cc_M_deal 77 = .ok (.iload_n 1, 1) := by decide +kernel
theorem dd_M_deal_78 : decode cc_M_deal 78 = .ok (.ifCond .ne (5), 3) := by decide +kernel
theorem dd_M_deal_81 : decode cc_M_deal 81 = .ok (.iconst 0, 1) := by decide +kernel
theorem dd_M_deal_82 : decode cc_M_deal 82 = .ok (.ireturn, 1) := by decide +kernel
theorem dd_M_deal_83 : decode cc_M_deal 83 = .ok (.aload_n 0, 1) := by decide +kernel
theorem dd_M_deal_84 : decode cc_M_deal 84 = .ok (.iconst 1, 1) := by decide +kernel
theorem dd_M_deal_85 : decode cc_M_deal 85 = .ok (.putfield 108, 3) := by decide +kernel
theorem dd_M_deal_88 : decode cc_M_deal 88 = .ok (.aload_n 0, 1) := by decide +kernel
theorem dd_M_deal_89 : decode cc_M_deal 89 = .ok (.invokevirtual 99, 3) := by decide +kernel
theorem dd_M_deal_92 : decode cc_M_deal 92 = .ok (.aload_n 0, 1) := by decide +kernel
theorem dd_M_deal_93 : decode cc_M_deal 93 = .ok (.iconst 0, 1) := by decide +kernel
theorem dd_M_deal_94 : decode cc_M_deal 94 = .ok (.putfield 111, 3) := by decide +kernel
theorem dd_M_deal_97 : decode cc_M_deal 97 = .ok (.aload_n 0, 1) := by decide +kernel
theorem dd_M_deal_98 : decode cc_M_deal 98 = .ok (.iconst (-1), 1) := by decide +kernel
theorem dd_M_deal_99 : decode cc_M_deal 99 = .ok (.putfield 81, 3) := by decide +kernel
theorem dd_M_deal_102 : decode cc_M_deal 102 = .ok (.iconst 0, 1) := by decide +kernel
theorem dd_M_deal_103 : decode cc_M_deal 103 = .ok (.istore_n 2, 1) := by decide +kernel
theorem dd_M_deal_104 : decode cc_M_deal 104 = .ok (.iload_n 2, 1) := by decide +kernel
theorem dd_M_deal_105 : decode cc_M_deal 105 = .ok (.iconst 4, 1) := by decide +kernel
theorem dd_M_deal_106 : decode cc_M_deal 106 = .ok (.if_icmp .ge (79), 3) := by decide +kernel
theorem dd_M_deal_109 : decode cc_M_deal 109 = .ok (.aload_n 0, 1) := by decide +kernel
theorem dd_M_deal_110 : decode cc_M_deal 110 = .ok (.getfield 13, 3) := by decide +kernel
theorem dd_M_deal_113 : decode cc_M_deal 113 = .ok (.iload_n 2, 1) := by decide +kernel
theorem dd_M_deal_114 : decode cc_M_deal 114 = .ok (.iconst 0, 1) := by decide +kernel
theorem dd_M_deal_115 : decode cc_M_deal 115 = .ok (.bastore, 1) := by decide +kernel
theorem dd_M_deal_116 : decode cc_M_deal 116 = .ok (.aload_n 0, 1) := by decide +kernel
theorem dd_M_deal_117 : decode cc_M_deal 117 = .ok (.getfield 30, 3) := by decide +kernel
theorem dd_M_deal_120 : decode cc_M_deal 120 = .ok (.iload_n 2, 1) := by decide +kernel
theorem dd_M_deal_121 : decode cc_M_deal 121 = .ok (.iconst 0, 1) := by decide +kernel
theorem dd_M_deal_122 : decode cc_M_deal 122 = .ok (.bastore, 1) := by decide +kernel
theorem dd_M_deal_123 : decode cc_M_deal 123 = .ok (.aload_n 0, 1) := by decide +kernel
theorem dd_M_deal_124 : decode cc_M_deal 124 = .ok (.getfield 39, 3) := by decide +kernel
theorem dd_M_deal_127 : decode cc_M_deal 127 = .ok (.iload_n 2, 1) := by decide +kernel
theorem dd_M_deal_128 : decode cc_M_deal 128 = .ok (.lconst 0, 1) := by decide +kernel
theorem dd_M_deal_129 : decode cc_M_deal 129 = .ok (.lastore, 1) := by decide +kernel
theorem dd_M_deal_130 : decode cc_M_deal 130 = .ok (.aload_n 0, 1) := by decide +kernel
theorem dd_M_deal_131 : decode cc_M_deal 131 = .ok (.getfield 42, 3) := by decide +kernel
theorem dd_M_deal_134 : decode cc_M_deal 134 = .ok (.iload_n 2, 1) := by decide +kernel
theorem dd_M_deal_135 : decode cc_M_deal 135 = .ok (.lconst 0, 1) := by decide +kernel
theorem dd_M_deal_136 : decode cc_M_deal 136 = .ok (.lastore, 1) := by decide +kernel
theorem dd_M_deal_137 : decode cc_M_deal 137 = .ok (.aload_n 0, 1) := by decide +kernel
theorem dd_M_deal_138 : decode cc_M_deal 138 = .ok (.getfield 45, 3) := by decide +kernel
theorem dd_M_deal_141 : decode cc_M_deal 141 = .ok (.iload_n 2, 1) := by decide +kernel
theorem dd_M_deal_142 : decode cc_M_deal 142 = .ok (.lconst 0, 1) := by decide +kernel
theorem dd_M_deal_143 : decode cc_M_deal 143 = .ok (.lastore, 1) := by decide +kernel
theorem dd_M_deal_144 : decode cc_M_deal 144 = .ok (.aload_n 0, 1) := by decide +kernel
theorem dd_M_deal_145 : decode cc_M_deal 145 = .ok (.getfield 48, 3) := by decide +kernel
theorem dd_M_deal_148 : decode cc_M_deal 148 = .ok (.iload_n 2, 1) := by decide +kernel
theorem dd_M_deal_149 : decode cc_M_deal 149 = .ok (.iconst 0, 1) := by decide +kernel
theorem dd_M_deal_150 : decode cc_M_deal 150 = .ok (.bastore, 1) := by decide +kernel
theorem dd_M_deal_151 : decode cc_M_deal 151 = .ok (.aload_n 0, 1) := by decide +kernel
theorem dd_M_deal_152 : decode cc_M_deal 152 = .ok (.getfield 51, 3) := by decide +kernel
theorem dd_M_deal_155 : decode cc_M_deal 155 = .ok (.iload_n 2, 1) := by decide +kernel
theorem dd_M_deal_156 : decode cc_M_deal 156 = .ok (.iconst 0, 1) := by decide +kernel
theorem dd_M_deal_157 : decode cc_M_deal 157 = .ok (.bastore, 1) := by decide +kernel
theorem dd_M_deal_158 : decode cc_M_deal 158 = .ok (.aload_n 0, 1) := by decide +kernel
theorem dd_M_deal_159 : decode cc_M_deal 159 = .ok (.getfield 69, 3) := by decide +kernel
theorem dd_M_deal_162 : decode cc_M_deal 162 = .ok (.iload_n 2, 1) := by decide +kernel
theorem dd_M_deal_163 : decode cc_M_deal 163 = .ok (.iconst 1, 1) := by decide +kernel
theorem dd_M_deal_164 : decode cc_M_deal 164 = .ok (.bastore, 1) := by decide +kernel
theorem dd_M_deal_165 : decode cc_M_deal 165 = .ok (.aload_n 0, 1) := by decide +kernel
theorem dd_M_deal_166 : decode cc_M_deal 166 = .ok (.getfield 72, 3) := by decide +kernel
theorem dd_M_deal_169 : decode cc_M_deal 169 = .ok (.iload_n 2, 1) := by decide +kernel
theorem dd_M_deal_170 : decode cc_M_deal 170 = .ok (.iconst 0, 1) := by decide +kernel
theorem dd_M_deal_171 : decode cc_M_deal 171 = .ok (.iastore, 1) := by decide +kernel
theorem dd_M_deal_172 : decode cc_M_deal 172 = .ok (.aload_n 0, 1) := by decide +kernel
theorem dd_M_deal_173 : decode cc_M_deal 173 = .ok (.getfield 75, 3) := by decide +kernel
theorem dd_M_deal_176 : decode cc_M_deal 176 = .ok (.iload_n 2, 1) := by decide +kernel
theorem dd_M_deal_177 : decode cc_M_deal 177 = .ok (.iconst 0, 1) := by decide +kernel
theorem dd_M_deal_178 : decode cc_M_deal 178 = .ok (.iastore, 1) := by decide +kernel
theorem dd_M_deal_179 : decode cc_M_deal 179 = .ok (.iinc 2 (1), 3) := by decide +kernel
theorem dd_M_deal_182 : decode cc_M_deal 182 = .ok (.goto (-78), 3) := by decide +kernel
theorem dd_M_deal_185 : decode cc_M_deal 185 = .ok (.iconst 0, 1) := by decide +kernel
theorem dd_M_deal_186 : decode cc_M_deal 186 = .ok (.istore_n 2, 1) := by decide +kernel
theorem dd_M_deal_187 : decode cc_M_deal 187 = .ok (.iload_n 2, 1) := by decide +kernel
theorem dd_M_deal_188 : decode cc_M_deal 188 = .ok (.bipush (52), 2) := by decide +kernel
theorem dd_M_deal_190 : decode cc_M_deal 190 = .ok (.if_icmp .ge (17), 3) := by decide +kernel
theorem dd_M_deal_193 : decode cc_M_deal 193 = .ok (.aload_n 0, 1) := by decide +kernel
theorem dd_M_deal_194 : decode cc_M_deal 194 = .ok (.getfield 63, 3) := by decide +kernel
theorem dd_M_deal_197 : decode cc_M_deal 197 = .ok (.iload_n 2, 1) := by decide +kernel
theorem dd_M_deal_198 : decode cc_M_deal 198 = .ok (.bipush (-2), 2) := by decide +kernel
theorem dd_M_deal_200 : decode cc_M_deal 200 = .ok (.iastore, 1) := by decide +kernel
theorem dd_M_deal_201 : decode cc_M_deal 201 = .ok (.iinc 2 (1), 3) := by decide +kernel
theorem dd_M_deal_204 : decode cc_M_deal 204 = .ok (.goto (-17), 3) := by decide +kernel
theorem dd_M_deal_207 : decode cc_M_deal 207 = .ok (.iconst 0, 1) := by decide +kernel
theorem dd_M_deal_208 : decode cc_M_deal 208 = .ok (.istore_n 2, 1) := by decide +kernel
theorem dd_M_deal_209 : decode cc_M_deal 209 = .ok (.iload_n 2, 1) := by decide +kernel
theorem dd_M_deal_210 : decode cc_M_deal 210 = .ok (.sipush (208), 3) := by decide +kernel
theorem dd_M_deal_213 : decode cc_M_deal 213 = .ok (.if_icmp .ge (16), 3) := by decide +kernel
theorem dd_M_deal_216 : decode cc_M_deal 216 = .ok (.aload_n 0, 1) := by decide +kernel
theorem dd_M_deal_217 : decode cc_M_deal 217 = .ok (.getfield 66, 3) := by decide +kernel
theorem dd_M_deal_220 : decode cc_M_deal 220 = .ok (.iload_n 2, 1) := by decide +kernel
theorem dd_M_deal_221 : decode cc_M_deal 221 = .ok (.iconst 0, 1) := by decide +kernel
theorem dd_M_deal_222 : decode cc_M_deal 222 = .ok (.iastore, 1) := by decide +kernel
theorem dd_M_deal_223 : decode cc_M_deal 223 = .ok (.iinc 2 (1), 3) := by decide +kernel
theorem dd_M_deal_226 : decode cc_M_deal 226 = .ok (.goto (-17), 3) := by decide +kernel
theorem dd_M_deal_229 : decode cc_M_deal 229 = .ok (.iconst 1, 1) := by decide +kernel
theorem dd_M_deal_230 : decode cc_M_deal 230 = .ok (.ireturn, 1) := by decide +kernel
theorem dd_M_power_0 : decode cc_M_power 0 = .ok (.lconst 1, 1) := by decide +kernel
theorem dd_M_power_1 : decode cc_M_power 1 = .ok (.lstore_n 3, 1) := by decide +kernel
theorem dd_M_power_2 : decode cc_M_power 2 = .ok (.iload_n 0, 1) := by decide +kernel
theorem dd_M_power_3 : decode cc_M_power 3 = .ok (.iload_n 2, 1) := by decide +kernel
theorem dd_M_power_4 : decode cc_M_power 4 = .ok (.irem, 1) := by decide +kernel
theorem dd_M_power_5 : decode cc_M_power 5 = .ok (.i2l, 1) := by decide +kernel
theorem dd_M_power_6 : decode cc_M_power 6 = .ok (.lstore 5, 2) := by decide +kernel
theorem dd_M_power_8 : decode cc_M_power 8 = .ok (.iload_n 1, 1) := by decide +kernel
theorem dd_M_power_9 : decode cc_M_power 9 = .ok (.istore 7, 2) := by decide +kernel
theorem dd_M_power_11 : decode cc_M_power 11 = .ok (.iload 7, 2) := by decide +kernel
theorem dd_M_power_13 : decode cc_M_power 13 = .ok (.ifCond .le (38), 3) := by decide +kernel
theorem dd_M_power_16 : decode cc_M_power 16 = .ok (.iload 7, 2) := by decide +kernel
theorem dd_M_power_18 : decode cc_M_power 18 = .ok (.iconst 2, 1) := by decide +kernel
theorem dd_M_power_19 : decode cc_M_power 19 = .ok (.irem, 1) := by decide +kernel
theorem dd_M_power_20 : decode cc_M_power 20 = .ok (.iconst 1, 1) := by decide +kernel
theorem dd_M_power_21 : decode cc_M_power 21 = .ok (.if_icmp .ne (11), 3) := by decide +kernel
theorem dd_M_power_24 : decode cc_M_power 24 = .ok (.lload_n 3, 1) := by decide +kernel
theorem dd_M_power_25 : decode cc_M_power 25 = .ok (.lload 5, 2) := by decide +kernel
theorem dd_M_power_27 : decode cc_M_power 27 = .ok (.lmul, 1) := by decide +kernel
theorem dd_M_power_28 : decode cc_M_power 28 = .ok (.iload_n 2, 1) := by decide +kernel
theorem dd_M_power_29 : decode cc_M_power 29 = .ok (.i2l, 1) := by decide +kernel
theorem dd_M_power_30 : decode cc_M_power 30 = .ok (.lrem, 1) := by decide +kernel
theorem dd_M_power_31 : decode cc_M_power 31 = .ok (.lstore_n 3, 1) := by decide +kernel
theorem dd_M_power_32 : decode cc_M_power 32 = .ok (.lload 5, 2) := by decide +kernel
theorem dd_M_power_34 : decode cc_M_power 34 = .ok (.lload 5, 2) := by decide +kernel
theorem dd_M_power_36 : decode cc_M_power 36 = .ok (.lmul, 1) := by decide +kernel
theorem dd_M_power_37 : decode cc_M_power 37 = .ok (.iload_n 2, 1) := by decide +kernel
theorem dd_M_power_38 : decode cc_M_power 38 = .ok (.i2l, 1) := by decide +kernel
theorem dd_M_power_39 : decode cc_M_power 39 = .ok (.lrem, 1) := by decide +kernel
theorem dd_M_power_40 : decode cc_M_power 40 = .ok (.lstore 5, 2) := by decide +kernel
theorem dd_M_power_42 : decode cc_M_power 42 = .ok (.iload 7, 2) := by decide +kernel
theorem dd_M_power_44 : decode cc_M_power 44 = .ok (.iconst 2, 1) := by decide +kernel
theorem dd_M_power_45 : decode cc_M_power 45 = .ok (.idiv, 1) := by decide +kernel
theorem dd_M_power_46 : decode cc_M_power 46 = .ok (.istore 7, 2) := by decide +kernel
theorem dd_M_power_48 : decode cc_M_power 48 = .ok (.goto (-37), 3) := by decide +kernel
theorem dd_M_power_51 : decode cc_M_power 51 = .ok (.lload_n 3, 1) := by decide +kernel
theorem dd_M_power_52 : decode cc_M_power 52 = .ok (.l2i, 1) := by decide +kernel
theorem dd_M_power_53 : decode cc_M_power 53 = .ok (.ireturn, 1) := by decide +kernel
theorem dd_M_isExponent_0 : decode cc_M_isExponent 0 = .ok (.iload_n 1, 1) := by decide +kernel
theorem dd_M_isExponent_1 : decode cc_M_isExponent 1 = .ok (.iconst 3, 1) := by decide +kernel
theorem dd_M_isExponent_2 : decode cc_M_isExponent 2 = .ok (.if_icmp .lt (32), 3) := by decide +kernel
theorem dd_M_isExponent_5 : decode cc_M_isExponent 5 = .ok (.iload_n 1, 1) := by decide +kernel
theorem dd_M_isExponent_6 : decode cc_M_isExponent 6 = .ok (.aload_n 0, 1) := by decide +kernel
theorem dd_M_isExponent_7 : decode cc_M_isExponent 7 = .ok (.getfield 88, 3) := by decide +kernel
theorem dd_M_isExponent_10 : decode cc_M_isExponent 10 = .ok (.iconst 2, 1) := by decide +kernel
theorem dd_M_isExponent_11 : decode cc_M_isExponent 11 = .ok (.isub, 1) := by decide +kernel
theorem dd_M_isExponent_12 : decode cc_M_isExponent 12 = .ok (.if_icmp .gt (22), 3) := by decide +kernel
theorem dd_M_isExponent_15 : decode cc_M_isExponent 15 = .ok (.iload_n 1, 1) := by decide +kernel
theorem dd_M_isExponent_16 : decode cc_M_isExponent 16 = .ok (.iconst 2, 1) := by decide +kernel
theorem dd_M_isExponent_17 : decode cc_M_isExponent 17 = .ok (.irem, 1) := by decide +kernel
theorem dd_M_isExponent_18 : decode cc_M_isExponent 18 = .ok (.iconst 1, 1) := by decide +kernel
theorem dd_M_isExponent_19 : decode cc_M_isExponent 19 = .ok (.if_icmp .ne (15), 3) := by decide +kernel
theorem dd_M_isExponent_22 : decode cc_M_isExponent 22 = .ok (.iload_n 1, 1) := by decide +kernel
theorem dd_M_isExponent_23 : decode cc_M_isExponent 23 = .ok (.aload_n 0, 1) := by decide +kernel
theorem dd_M_isExponent_24 : decode cc_M_isExponent 24 = .ok (.getfield 96, 3) := by decide +kernel
theorem dd_M_isExponent_27 : decode cc_M_isExponent 27 = .ok (.if_icmp .eq (7), 3) := by decide +kernel
theorem dd_M_isExponent_30 : decode cc_M_isExponent 30 = .ok (.iconst 1, 1) := by decide +kernel
theorem dd_M_isExponent_31 : decode cc_M_isExponent 31 = .ok (.goto (4), 3) := by decide +kernel
theorem dd_M_isExponent_34 : decode cc_M_isExponent 34 = .ok (.iconst 0, 1) := by decide +kernel
theorem dd_M_isExponent_35 : decode cc_M_isExponent 35 = .ok (.ireturn, 1) := by decide +kernel
theorem dd_M_inverse_0 : decode cc_M_inverse 0 = .ok (.iload_n 1, 1) := by decide +kernel
theorem dd_M_inverse_1 : decode cc_M_inverse 1 = .ok (.aload_n 0, 1) := by decide +kernel
theorem dd_M_inverse_2 : decode cc_M_inverse 2 = .ok (.getfield 96, 3) := by decide +kernel
theorem dd_M_inverse_5 : decode cc_M_inverse 5 = .ok (.iconst 2, 1) := by decide +kernel
theorem dd_M_inverse_6 : decode cc_M_inverse 6 = .ok (.isub, 1) := by decide +kernel
theorem dd_M_inverse_7 : decode cc_M_inverse 7 = .ok (.aload_n 0, 1) := by decide +kernel
theorem dd_M_inverse_8 : decode cc_M_inverse 8 = .ok (.getfield 88, 3) := by decide +kernel
theorem dd_M_inverse_11 : decode cc_M_inverse 11 = .ok (.iconst 1, 1) := by decide +kernel
theorem dd_M_inverse_12 : decode cc_M_inverse 12 = .ok (.isub, 1) := by decide +kernel
theorem dd_M_inverse_13 : decode cc_M_inverse 13 = .ok (.invokestatic 116, 3) := by decide +kernel
theorem dd_M_inverse_16 : decode cc_M_inverse 16 = .ok (.ireturn, 1) := by decide +kernel
theorem dd_M_leastAbove_0 : decode cc_M_leastAbove 0 = .ok (.iload_n 1, 1) := by decide +kernel
theorem dd_M_leastAbove_1 : decode cc_M_leastAbove 1 = .ok (.iconst 1, 1) := by decide +kernel
theorem dd_M_leastAbove_2 : decode cc_M_leastAbove 2 = .ok (.iadd, 1) := by decide +kernel
theorem dd_M_leastAbove_3 : decode cc_M_leastAbove 3 = .ok (.istore_n 2, 1) := by decide +kernel
theorem dd_M_leastAbove_4 : decode cc_M_leastAbove 4 = .ok (.iload_n 2, 1) := by decide +kernel
theorem dd_M_leastAbove_5 : decode cc_M_leastAbove 5 = .ok (.aload_n 0, 1) := by decide +kernel
theorem dd_M_leastAbove_6 : decode cc_M_leastAbove 6 = .ok (.getfield 88, 3) := by decide +kernel
theorem dd_M_leastAbove_9 : decode cc_M_leastAbove 9 = .ok (.iconst 2, 1) := by decide +kernel
theorem dd_M_leastAbove_10 : decode cc_M_leastAbove 10 = .ok (.isub, 1) := by decide +kernel
theorem dd_M_leastAbove_11 : decode cc_M_leastAbove 11 = .ok (.if_icmp .gt (17), 3) := by decide +kernel
theorem dd_M_leastAbove_14 : decode cc_M_leastAbove 14 = .ok (.aload_n 0, 1) := by decide +kernel
theorem dd_M_leastAbove_15 : decode cc_M_leastAbove 15 = .ok (.iload_n 2, 1) := by decide +kernel
theorem dd_M_leastAbove_16 : decode cc_M_leastAbove 16 = .ok (.invokevirtual 120, 3) := by decide +kernel
theorem dd_M_leastAbove_19 : decode cc_M_leastAbove 19 = .ok (.ifCond .ne (9), 3) := by decide +kernel
theorem dd_M_leastAbove_22 : decode cc_M_leastAbove 22 = .ok (.iinc 2 (1), 3) := by decide +kernel
theorem dd_M_leastAbove_25 : decode cc_M_leastAbove 25 = .ok (.goto (-21), 3) := by decide +kernel
theorem dd_M_leastAbove_28 : decode cc_M_leastAbove 28 = .ok (.iload_n 2, 1) := by decide +kernel
theorem dd_M_leastAbove_29 : decode cc_M_leastAbove 29 = .ok (.aload_n 0, 1) := by decide +kernel
theorem dd_M_leastAbove_30 : decode cc_M_leastAbove 30 = .ok (.getfield 88, 3) := by decide +kernel
theorem dd_M_leastAbove_33 : decode cc_M_leastAbove 33 = .ok (.iconst 2, 1) := by decide +kernel
theorem dd_M_leastAbove_34 : decode cc_M_leastAbove 34 = .ok (.isub, 1) := by decide +kernel
theorem dd_M_leastAbove_35 : decode cc_M_leastAbove 35 = .ok (.if_icmp .gt (7), 3) := by decide +kernel
theorem dd_M_leastAbove_38 : decode cc_M_leastAbove 38 = .ok (.iload_n 2, 1) := by decide +kernel
theorem dd_M_leastAbove_39 : decode cc_M_leastAbove 39 = .ok (.goto (4), 3) := by decide +kernel
theorem dd_M_leastAbove_42 : decode cc_M_leastAbove 42 = .ok (.iconst 3, 1) := by decide +kernel
theorem dd_M_leastAbove_43 : decode cc_M_leastAbove 43 = .ok (.ireturn, 1) := by decide +kernel
theorem dd_M_nextDraw_0 : decode cc_M_nextDraw 0 = .ok (.aload_n 0, 1) := by decide +kernel
theorem dd_M_nextDraw_1 : decode cc_M_nextDraw 1 = .ok (.aload_n 0, 1) := by decide +kernel
theorem dd_M_nextDraw_2 : decode cc_M_nextDraw 2 = .ok (.getfield 123, 3) := by decide +kernel
theorem dd_M_nextDraw_5 : decode cc_M_nextDraw 5 = .ok (.ldc2_w 127, 3) := by decide +kernel
theorem dd_M_nextDraw_8 : decode cc_M_nextDraw 8 = .ok (.lmul, 1) := by decide +kernel
theorem dd_M_nextDraw_9 : decode cc_M_nextDraw 9 = .ok (.ldc2_w 129, 3) := by decide +kernel
theorem dd_M_nextDraw_12 : decode cc_M_nextDraw 12 = .ok (.ladd, 1) := by decide +kernel
theorem dd_M_nextDraw_13 : decode cc_M_nextDraw 13 = .ok (.putfield 123, 3) := by decide +kernel
theorem dd_M_nextDraw_16 : decode cc_M_nextDraw 16 = .ok (.aload_n 0, 1) := by decide +kernel
theorem dd_M_nextDraw_17 : decode cc_M_nextDraw 17 = .ok (.getfield 123, 3) := by decide +kernel
theorem dd_M_nextDraw_20 : decode cc_M_nextDraw 20 = .ok (.bipush (33), 2) := by decide +kernel
theorem dd_M_nextDraw_22 : decode cc_M_nextDraw 22 = .ok (.lushr, 1) := by decide +kernel
theorem dd_M_nextDraw_23 : decode cc_M_nextDraw 23 = .ok (.l2i, 1) := by decide +kernel
theorem dd_M_nextDraw_24 : decode cc_M_nextDraw 24 = .ok (.ireturn, 1) := by decide +kernel
theorem dd_M_makeOrder_0 : decode cc_M_makeOrder 0 = .ok (.aload_n 0, 1) := by decide +kernel
theorem dd_M_makeOrder_1 : decode cc_M_makeOrder 1 = .ok (.lload_n 1, 1) := by decide +kernel
theorem dd_M_makeOrder_2 : decode cc_M_makeOrder 2 = .ok (.putfield 123, 3) := by decide +kernel
theorem dd_M_makeOrder_5 : decode cc_M_makeOrder 5 = .ok (.iconst 0, 1) := by decide +kernel
theorem dd_M_makeOrder_6 : decode cc_M_makeOrder 6 = .ok (.istore_n 3, 1) := by decide +kernel
theorem dd_M_makeOrder_7 : decode cc_M_makeOrder 7 = .ok (.iload_n 3, 1) := by decide +kernel
theorem dd_M_makeOrder_8 : decode cc_M_makeOrder 8 = .ok (.bipush (52), 2) := by decide +kernel
theorem dd_M_makeOrder_10 : decode cc_M_makeOrder 10 = .ok (.if_icmp .ge (16), 3) := by decide +kernel
theorem dd_M_makeOrder_13 : decode cc_M_makeOrder 13 = .ok (.aload_n 0, 1) := by decide +kernel
theorem dd_M_makeOrder_14 : decode cc_M_makeOrder 14 = .ok (.getfield 57, 3) := by decide +kernel
theorem dd_M_makeOrder_17 : decode cc_M_makeOrder 17 = .ok (.iload_n 3, 1) := by decide +kernel
theorem dd_M_makeOrder_18 : decode cc_M_makeOrder 18 = .ok (.iload_n 3, 1) := by decide +kernel
theorem dd_M_makeOrder_19 : decode cc_M_makeOrder 19 = .ok (.iastore, 1) := by decide +kernel
theorem dd_M_makeOrder_20 : decode cc_M_makeOrder 20 = .ok (.iinc 3 (1), 3) := by decide +kernel
theorem dd_M_makeOrder_23 : decode cc_M_makeOrder 23 = .ok (.goto (-16), 3) := by decide +kernel
theorem dd_M_makeOrder_26 : decode cc_M_makeOrder 26 = .ok (.bipush (51), 2) := by decide +kernel
theorem dd_M_makeOrder_28 : decode cc_M_makeOrder 28 = .ok (.istore_n 3, 1) := by decide +kernel
theorem dd_M_makeOrder_29 : decode cc_M_makeOrder 29 = .ok (.iload_n 3, 1) := by decide +kernel
theorem dd_M_makeOrder_30 : decode cc_M_makeOrder 30 = .ok (.ifCond .le (49), 3) := by decide +kernel
theorem dd_M_makeOrder_33 : decode cc_M_makeOrder 33 = .ok (.aload_n 0, 1) := by decide +kernel
theorem dd_M_makeOrder_34 : decode cc_M_makeOrder 34 = .ok (.invokevirtual 131, 3) := by decide +kernel
theorem dd_M_makeOrder_37 : decode cc_M_makeOrder 37 = .ok (.iload_n 3, 1) := by decide +kernel
theorem dd_M_makeOrder_38 : decode cc_M_makeOrder 38 = .ok (.iconst 1, 1) := by decide +kernel
theorem dd_M_makeOrder_39 : decode cc_M_makeOrder 39 = .ok (.iadd, 1) := by decide +kernel
theorem dd_M_makeOrder_40 : decode cc_M_makeOrder 40 = .ok (.irem, 1) := by decide +kernel
theorem dd_M_makeOrder_41 : decode cc_M_makeOrder 41 = .ok (.istore 4, 2) := by decide +kernel
theorem dd_M_makeOrder_43 : decode cc_M_makeOrder 43 = .ok (.aload_n 0, 1) := by decide +kernel
theorem dd_M_makeOrder_44 : decode cc_M_makeOrder 44 = .ok (.getfield 57, 3) := by decide +kernel
theorem dd_M_makeOrder_47 : decode cc_M_makeOrder 47 = .ok (.iload_n 3, 1) := by decide +kernel
theorem dd_M_makeOrder_48 : decode cc_M_makeOrder 48 = .ok (.iaload, 1) := by decide +kernel
theorem dd_M_makeOrder_49 : decode cc_M_makeOrder 49 = .ok (.istore 5, 2) := by decide +kernel
theorem dd_M_makeOrder_51 : decode cc_M_makeOrder 51 = .ok (.aload_n 0, 1) := by decide +kernel
theorem dd_M_makeOrder_52 : decode cc_M_makeOrder 52 = .ok (.getfield 57, 3) := by decide +kernel
theorem dd_M_makeOrder_55 : decode cc_M_makeOrder 55 = .ok (.iload_n 3, 1) := by decide +kernel
theorem dd_M_makeOrder_56 : decode cc_M_makeOrder 56 = .ok (.aload_n 0, 1) := by decide +kernel
theorem dd_M_makeOrder_57 : decode cc_M_makeOrder 57 = .ok (.getfield 57, 3) := by decide +kernel
theorem dd_M_makeOrder_60 : decode cc_M_makeOrder 60 = .ok (.iload 4, 2) := by decide +kernel
theorem dd_M_makeOrder_62 : decode cc_M_makeOrder 62 = .ok (.iaload, 1) := by decide +kernel
theorem dd_M_makeOrder_63 : decode cc_M_makeOrder 63 = .ok (.iastore, 1) := by decide +kernel
theorem dd_M_makeOrder_64 : decode cc_M_makeOrder 64 = .ok (.aload_n 0, 1) := by decide +kernel
theorem dd_M_makeOrder_65 : decode cc_M_makeOrder 65 = .ok (.getfield 57, 3) := by decide +kernel
theorem dd_M_makeOrder_68 : decode cc_M_makeOrder 68 = .ok (.iload 4, 2) := by decide +kernel
theorem dd_M_makeOrder_70 : decode cc_M_makeOrder 70 = .ok (.iload 5, 2) := by decide +kernel
theorem dd_M_makeOrder_72 : decode cc_M_makeOrder 72 = .ok (.iastore, 1) := by decide +kernel
theorem dd_M_makeOrder_73 : decode cc_M_makeOrder 73 = .ok (.iinc 3 (-1), 3) := by decide +kernel
theorem dd_M_makeOrder_76 : decode cc_M_makeOrder 76 = .ok (.goto (-47), 3) := by decide +kernel
theorem dd_M_makeOrder_79 : decode cc_M_makeOrder 79 = .ok (.return_, 1) := by decide +kernel
theorem dd_M_makeLocks_0 : decode cc_M_makeLocks 0 = .ok (.aload_n 0, 1) := by decide +kernel
theorem dd_M_makeLocks_1 : decode cc_M_makeLocks 1 = .ok (.lload_n 1, 1) := by decide +kernel
theorem dd_M_makeLocks_2 : decode cc_M_makeLocks 2 = .ok (.putfield 123, 3) := by decide +kernel
theorem dd_M_makeLocks_5 : decode cc_M_makeLocks 5 = .ok (.iconst 0, 1) := by decide +kernel
theorem dd_M_makeLocks_6 : decode cc_M_makeLocks 6 = .ok (.istore_n 3, 1) := by decide +kernel
theorem dd_M_makeLocks_7 : decode cc_M_makeLocks 7 = .ok (.iload_n 3, 1) := by decide +kernel
theorem dd_M_makeLocks_8 : decode cc_M_makeLocks 8 = .ok (.bipush (52), 2) := by decide +kernel
theorem dd_M_makeLocks_10 : decode cc_M_makeLocks 10 = .ok (.if_icmp .ge (51), 3) := by decide +kernel
theorem dd_M_makeLocks_13 : decode cc_M_makeLocks 13 = .ok (.aload_n 0, 1) := by decide +kernel
theorem dd_M_makeLocks_14 : decode cc_M_makeLocks 14 = .ok (.getfield 60, 3) := by decide +kernel
theorem dd_M_makeLocks_17 : decode cc_M_makeLocks 17 = .ok (.iload_n 3, 1) := by decide +kernel
theorem dd_M_makeLocks_18 : decode cc_M_makeLocks 18 = .ok (.iconst 0, 1) := by decide +kernel
theorem dd_M_makeLocks_19 : decode cc_M_makeLocks 19 = .ok (.iastore, 1) := by decide +kernel
theorem dd_M_makeLocks_20 : decode cc_M_makeLocks 20 = .ok (.aload_n 0, 1) := by decide +kernel
theorem dd_M_makeLocks_21 : decode cc_M_makeLocks 21 = .ok (.aload_n 0, 1) := by decide +kernel
theorem dd_M_makeLocks_22 : decode cc_M_makeLocks 22 = .ok (.getfield 60, 3) := by decide +kernel
theorem dd_M_makeLocks_25 : decode cc_M_makeLocks 25 = .ok (.iload_n 3, 1) := by decide +kernel
theorem dd_M_makeLocks_26 : decode cc_M_makeLocks 26 = .ok (.iaload, 1) := by decide +kernel
theorem dd_M_makeLocks_27 : decode cc_M_makeLocks 27 = .ok (.invokevirtual 120, 3) := by decide +kernel
theorem dd_M_makeLocks_30 : decode cc_M_makeLocks 30 = .ok (.ifCond .ne (25), 3) := by decide +kernel
theorem dd_M_makeLocks_33 : decode cc_M_makeLocks 33 = .ok (.aload_n 0, 1) := by decide +kernel
theorem dd_M_makeLocks_34 : decode cc_M_makeLocks 34 = .ok (.getfield 60, 3) := by decide +kernel
theorem dd_M_makeLocks_37 : decode cc_M_makeLocks 37 = .ok (.iload_n 3, 1) := by decide +kernel
theorem dd_M_makeLocks_38 : decode cc_M_makeLocks 38 = .ok (.iconst 3, 1) := by decide +kernel
theorem dd_M_makeLocks_39 : decode cc_M_makeLocks 39 = .ok (.aload_n 0, 1) := by decide +kernel
theorem dd_M_makeLocks_40 : decode cc_M_makeLocks 40 = .ok (.invokevirtual 131, 3) := by decide +kernel
theorem dd_M_makeLocks_43 : decode cc_M_makeLocks 43 = .ok (.aload_n 0, 1) := by decide +kernel
theorem dd_M_makeLocks_44 : decode cc_M_makeLocks 44 = .ok (.getfield 88, 3) := by decide +kernel
theorem dd_M_makeLocks_47 : decode cc_M_makeLocks 47 = .ok (.iconst 4, 1) := by decide +kernel
theorem dd_M_makeLocks_48 : decode cc_M_makeLocks 48 = .ok (.isub, 1) := by decide +kernel
theorem dd_M_makeLocks_49 : decode cc_M_makeLocks 49 = .ok (.irem, 1) := by decide +kernel
theorem dd_M_makeLocks_50 : decode cc_M_makeLocks 50 = .ok (.iadd, 1) := by decide +kernel
theorem dd_M_makeLocks_51 : decode cc_M_makeLocks 51 = .ok (.iastore, 1) := by decide +kernel
theorem dd_M_makeLocks_52 : decode cc_M_makeLocks 52 = .ok (.goto (-32), 3) := by decide +kernel
theorem dd_M_makeLocks_55 : decode cc_M_makeLocks 55 = .ok (.iinc 3 (1), 3) := by decide +kernel
theorem dd_M_makeLocks_58 : decode cc_M_makeLocks 58 = .ok (.goto (-51), 3) := by decide +kernel
theorem dd_M_makeLocks_61 : decode cc_M_makeLocks 61 = .ok (.return_, 1) := by decide +kernel
theorem dd_M_sealOf_0 : decode cc_M_sealOf 0 = .ok (.iload_n 0, 1) := by decide +kernel
theorem dd_M_sealOf_1 : decode cc_M_sealOf 1 = .ok (.i2l, 1) := by decide +kernel
theorem dd_M_sealOf_2 : decode cc_M_sealOf 2 = .ok (.lstore 5, 2) := by decide +kernel
theorem dd_M_sealOf_4 : decode cc_M_sealOf 4 = .ok (.lload 5, 2) := by decide +kernel
theorem dd_M_sealOf_6 : decode cc_M_sealOf 6 = .ok (.lload 5, 2) := by decide +kernel
theorem dd_M_sealOf_8 : decode cc_M_sealOf 8 = .ok (.bipush (29), 2) := by decide +kernel
theorem dd_M_sealOf_10 : decode cc_M_sealOf 10 = .ok (.lushr, 1) := by decide +kernel
theorem dd_M_sealOf_11 : decode cc_M_sealOf 11 = .ok (.lxor, 1) := by decide +kernel
theorem dd_M_sealOf_12 : decode cc_M_sealOf 12 = .ok (.ldc2_w 135, 3) := by decide +kernel
theorem dd_M_sealOf_15 : decode cc_M_sealOf 15 = .ok (.lmul, 1) := by decide +kernel
theorem dd_M_sealOf_16 : decode cc_M_sealOf 16 = .ok (.lload_n 1, 1) := by decide +kernel
theorem dd_M_sealOf_17 : decode cc_M_sealOf 17 = .ok (.ladd, 1) := by decide +kernel
theorem dd_M_sealOf_18 : decode cc_M_sealOf 18 = .ok (.lstore 5, 2) := by decide +kernel
theorem dd_M_sealOf_20 : decode cc_M_sealOf 20 = .ok (.lload 5, 2) := by decide +kernel
theorem dd_M_sealOf_22 : decode cc_M_sealOf 22 = .ok (.lload 5, 2) := by decide +kernel
theorem dd_M_sealOf_24 : decode cc_M_sealOf 24 = .ok (.bipush (32), 2) := by decide +kernel
theorem dd_M_sealOf_26 : decode cc_M_sealOf 26 = .ok (.lushr, 1) := by decide +kernel
theorem dd_M_sealOf_27 : decode cc_M_sealOf 27 = .ok (.lxor, 1) := by decide +kernel
theorem dd_M_sealOf_28 : decode cc_M_sealOf 28 = .ok (.ldc2_w 137, 3) := by decide +kernel
theorem dd_M_sealOf_31 : decode cc_M_sealOf 31 = .ok (.lmul, 1) := by decide +kernel
theorem dd_M_sealOf_32 : decode cc_M_sealOf 32 = .ok (.lload_n 3, 1) := by decide +kernel
theorem dd_M_sealOf_33 : decode cc_M_sealOf 33 = .ok (.ladd, 1) := by decide +kernel
theorem dd_M_sealOf_34 : decode cc_M_sealOf 34 = .ok (.lstore 5, 2) := by decide +kernel
theorem dd_M_sealOf_36 : decode cc_M_sealOf 36 = .ok (.lload 5, 2) := by decide +kernel
theorem dd_M_sealOf_38 : decode cc_M_sealOf 38 = .ok (.lload 5, 2) := by decide +kernel
theorem dd_M_sealOf_40 : decode cc_M_sealOf 40 = .ok (.bipush (29), 2) := by decide +kernel
theorem dd_M_sealOf_42 : decode cc_M_sealOf 42 = .ok (.lushr, 1) := by decide +kernel
theorem dd_M_sealOf_43 : decode cc_M_sealOf 43 = .ok (.lxor, 1) := by decide +kernel
theorem dd_M_sealOf_44 : decode cc_M_sealOf 44 = .ok (.ldc2_w 135, 3) := by decide +kernel
theorem dd_M_sealOf_47 : decode cc_M_sealOf 47 = .ok (.lmul, 1) := by decide +kernel
theorem dd_M_sealOf_48 : decode cc_M_sealOf 48 = .ok (.lstore 5, 2) := by decide +kernel
theorem dd_M_sealOf_50 : decode cc_M_sealOf 50 = .ok (.lload 5, 2) := by decide +kernel
theorem dd_M_sealOf_52 : decode cc_M_sealOf 52 = .ok (.lload 5, 2) := by decide +kernel
theorem dd_M_sealOf_54 : decode cc_M_sealOf 54 = .ok (.bipush (32), 2) := by decide +kernel
theorem dd_M_sealOf_56 : decode cc_M_sealOf 56 = .ok (.lushr, 1) := by decide +kernel
theorem dd_M_sealOf_57 : decode cc_M_sealOf 57 = .ok (.lxor, 1) := by decide +kernel
theorem dd_M_sealOf_58 : decode cc_M_sealOf 58 = .ok (.lreturn, 1) := by decide +kernel
theorem dd_M_sealOf2_0 : decode cc_M_sealOf2 0 = .ok (.aload_n 0, 1) := by decide +kernel
theorem dd_M_sealOf2_1 : decode cc_M_sealOf2 1 = .ok (.iload_n 1, 1) := by decide +kernel
theorem dd_M_sealOf2_2 : decode cc_M_sealOf2 2 = .ok (.invokevirtual 139, 3) := by decide +kernel
theorem dd_M_sealOf2_5 : decode cc_M_sealOf2 5 = .ok (.ifCond .eq (12), 3) := by decide +kernel
theorem dd_M_sealOf2_8 : decode cc_M_sealOf2 8 = .ok (.aload_n 0, 1) := by decide +kernel
theorem dd_M_sealOf2_9 : decode cc_M_sealOf2 9 = .ok (.getfield 13, 3) := by decide +kernel
theorem dd_M_sealOf2_12 : decode cc_M_sealOf2 12 = .ok (.iload_n 1, 1) := by decide +kernel
theorem dd_M_sealOf2_13 : decode cc_M_sealOf2 13 = .ok (.baload, 1) := by decide +kernel
theorem dd_M_sealOf2_14 : decode cc_M_sealOf2 14 = .ok (.ifCond .ne (10), 3) := by decide +kernel
theorem dd_M_sealOf2_17 : decode cc_M_sealOf2 17 = .ok (.aload_n 0, 1) := by decide +kernel
theorem dd_M_sealOf2_18 : decode cc_M_sealOf2 18 = .ok (.iconst 1, 1) := by decide +kernel
theorem dd_M_sealOf2_19 : decode cc_M_sealOf2 19 = .ok (.invokevirtual 146, 3) := by decide +kernel
theorem dd_M_sealOf2_22 : decode cc_M_sealOf2 22 = .ok (.i2l, 1) := by decide +kernel
theorem dd_M_sealOf2_23 : decode cc_M_sealOf2 23 = .ok (.lreturn, 1) := by decide +kernel
theorem dd_M_sealOf2_24 : decode cc_M_sealOf2 24 = .ok (.aload_n 0, 1) := by decide +kernel
theorem dd_M_sealOf2_25 : decode cc_M_sealOf2 25 = .ok (.iconst 0, 1) := by decide +kernel
theorem dd_M_sealOf2_26 : decode cc_M_sealOf2 26 = .ok (.putfield 85, 3) := by decide +kernel
theorem dd_M_sealOf2_29 : decode cc_M_sealOf2 29 = .ok (.aload_n 0, 1) := by decide +kernel
theorem dd_M_sealOf2_30 : decode cc_M_sealOf2 30 = .ok (.getfield 17, 3) := by decide +kernel
theorem dd_M_sealOf2_33 : decode cc_M_sealOf2 33 = .ok (.iload_n 1, 1) := by decide +kernel
theorem dd_M_sealOf2_34 : decode cc_M_sealOf2 34 = .ok (.laload, 1) := by decide +kernel
theorem dd_M_sealOf2_35 : decode cc_M_sealOf2 35 = .ok (.lreturn, 1) := by decide +kernel
theorem dd_M_seal_0 : decode cc_M_seal 0 = .ok (.aload_n 0, 1) := by decide +kernel
theorem dd_M_seal_1 : decode cc_M_seal 1 = .ok (.iconst 0, 1) := by decide +kernel
theorem dd_M_seal_2 : decode cc_M_seal 2 = .ok (.putfield 85, 3) := by decide +kernel
theorem dd_M_seal_5 : decode cc_M_seal 5 = .ok (.aload_n 0, 1) := by decide +kernel
theorem dd_M_seal_6 : decode cc_M_seal 6 = .ok (.iload_n 1, 1) := by decide +kernel
theorem dd_M_seal_7 : decode cc_M_seal 7 = .ok (.invokevirtual 139, 3) := by decide +kernel
theorem dd_M_seal_10 : decode cc_M_seal 10 = .ok (.ifCond .eq (28), 3) := by decide +kernel
theorem dd_M_seal_13 : decode cc_M_seal 13 = .ok (.aload_n 0, 1) := by decide +kernel
theorem dd_M_seal_14 : decode cc_M_seal 14 = .ok (.getfield 108, 3) := by decide +kernel
theorem dd_M_seal_17 : decode cc_M_seal 17 = .ok (.iconst 1, 1) := by decide +kernel
theorem dd_M_seal_18 : decode cc_M_seal 18 = .ok (.if_icmp .ne (20), 3) := by decide +kernel
theorem dd_M_seal_21 : decode cc_M_seal 21 = .ok (.aload_n 0, 1) := by decide +kernel
theorem dd_M_seal_22 : decode cc_M_seal 22 = .ok (.getfield 13, 3) := by decide +kernel
theorem dd_M_seal_25 : decode cc_M_seal 25 = .ok (.iload_n 1, 1) := by decide +kernel
theorem dd_M_seal_26 : decode cc_M_seal 26 = .ok (.baload, 1) := by decide +kernel
theorem dd_M_seal_27 : decode cc_M_seal 27 = .ok (.ifCond .ne (11), 3) := by decide +kernel
theorem dd_M_seal_30 : decode cc_M_seal 30 = .ok (.aload_n 0, 1) := by decide +kernel
theorem dd_M_seal_31 : decode cc_M_seal 31 = .ok (.iload_n 2, 1) := by decide +kernel
theorem dd_M_seal_32 : decode cc_M_seal 32 = .ok (.invokevirtual 120, 3) := by decide +kernel
theorem dd_M_seal_35 : decode cc_M_seal 35 = .ok (.ifCond .ne (5), 3) := by decide +kernel
theorem dd_M_seal_38 : decode cc_M_seal 38 = .ok (.iconst 0, 1) := by decide +kernel
theorem dd_M_seal_39 : decode cc_M_seal 39 = .ok (.ireturn, 1) := by decide +kernel
theorem dd_M_seal_40 : decode cc_M_seal 40 = .ok (.aload_n 0, 1) := by decide +kernel
theorem dd_M_seal_41 : decode cc_M_seal 41 = .ok (.getfield 13, 3) := by decide +kernel
theorem dd_M_seal_44 : decode cc_M_seal 44 = .ok (.iload_n 1, 1) := by decide +kernel
theorem dd_M_seal_45 : decode cc_M_seal 45 = .ok (.iconst 1, 1) := by decide +kernel
theorem dd_M_seal_46 : decode cc_M_seal 46 = .ok (.bastore, 1) := by decide +kernel
theorem dd_M_seal_47 : decode cc_M_seal 47 = .ok (.aload_n 0, 1) := by decide +kernel
theorem dd_M_seal_48 : decode cc_M_seal 48 = .ok (.getfield 21, 3) := by decide +kernel
theorem dd_M_seal_51 : decode cc_M_seal 51 = .ok (.iload_n 1, 1) := by decide +kernel
theorem dd_M_seal_52 : decode cc_M_seal 52 = .ok (.iload_n 2, 1) := by decide +kernel
theorem dd_M_seal_53 : decode cc_M_seal 53 = .ok (.iastore, 1) := by decide +kernel
theorem dd_M_seal_54 : decode cc_M_seal 54 = .ok (.aload_n 0, 1) := by decide +kernel
theorem dd_M_seal_55 : decode cc_M_seal 55 = .ok (.getfield 24, 3) := by decide +kernel
theorem dd_M_seal_58 : decode cc_M_seal 58 = .ok (.iload_n 1, 1) := by decide +kernel
theorem dd_M_seal_59 : decode cc_M_seal 59 = .ok (.lload_n 3, 1) := by decide +kernel
theorem dd_M_seal_60 : decode cc_M_seal 60 = .ok (.lastore, 1) := by decide +kernel
theorem dd_M_seal_61 : decode cc_M_seal 61 = .ok (.aload_n 0, 1) := by decide +kernel
theorem dd_M_seal_62 : decode cc_M_seal 62 = .ok (.getfield 27, 3) := by decide +kernel
theorem dd_M_seal_65 : decode cc_M_seal 65 = .ok (.iload_n 1, 1) := by decide +kernel
theorem dd_M_seal_66 : decode cc_M_seal 66 = .ok (.lload 5, 2) := by decide +kernel
theorem dd_M_seal_68 : decode cc_M_seal 68 = .ok (.lastore, 1) := by decide +kernel
theorem dd_M_seal_69 : decode cc_M_seal 69 = .ok (.aload_n 0, 1) := by decide +kernel
theorem dd_M_seal_70 : decode cc_M_seal 70 = .ok (.getfield 17, 3) := by decide +kernel
theorem dd_M_seal_73 : decode cc_M_seal 73 = .ok (.iload_n 1, 1) := by decide +kernel
theorem dd_M_seal_74 : decode cc_M_seal 74 = .ok (.iload_n 2, 1) := by decide +kernel
theorem dd_M_seal_75 : decode cc_M_seal 75 = .ok (.lload_n 3, 1) := by decide +kernel
theorem dd_M_seal_76 : decode cc_M_seal 76 = .ok (.lload 5, 2) := by decide +kernel
theorem dd_M_seal_78 : decode cc_M_seal 78 = .ok (.invokestatic 142, 3) := by decide +kernel
theorem dd_M_seal_81 : decode cc_M_seal 81 = .ok (.lastore, 1) := by decide +kernel
theorem dd_M_seal_82 : decode cc_M_seal 82 = .ok (.iconst 1, 1) := by decide +kernel
theorem dd_M_seal_83 : decode cc_M_seal 83 = .ok (.istore 7, 2) := by decide +kernel
theorem dd_M_seal_85 : decode cc_M_seal 85 = .ok (.iconst 0, 1) := by decide +kernel
theorem dd_M_seal_86 : decode cc_M_seal 86 = .ok (.istore 8, 2) := by decide +kernel
theorem dd_M_seal_88 : decode cc_M_seal 88 = .ok (.iload 8, 2) := by decide +kernel
theorem dd_M_seal_90 : decode cc_M_seal 90 = .ok (.aload_n 0, 1) := by decide +kernel
theorem dd_M_seal_91 : decode cc_M_seal 91 = .ok (.getfield 105, 3) := by decide +kernel
theorem dd_M_seal_94 : decode cc_M_seal 94 = .ok (.if_icmp .ge (31), 3) := by decide +kernel
theorem dd_M_seal_97 : decode cc_M_seal 97 = .ok (.iload 7, 2) := by decide +kernel
theorem dd_M_seal_99 : decode cc_M_seal 99 = .ok (.ifCond .eq (17), 3) := by decide +kernel
theorem dd_M_seal_102 : decode cc_M_seal 102 = .ok (.aload_n 0, 1) := by decide +kernel
theorem dd_M_seal_103 : decode cc_M_seal 103 = .ok (.getfield 13, 3) := by decide +kernel
theorem dd_M_seal_106 : decode cc_M_seal 106 = .ok (.iload 8, 2) := by decide +kernel
theorem dd_M_seal_108 : decode cc_M_seal 108 = .ok (.baload, 1) := by decide +kernel
theorem dd_M_seal_109 : decode cc_M_seal 109 = .ok (.ifCond .eq (7), 3) := by decide +kernel
theorem dd_M_seal_112 : decode cc_M_seal 112 = .ok (.iconst 1, 1) := by decide +kernel
theorem dd_M_seal_113 : decode cc_M_seal 113 = .ok (.goto (4), 3) := by decide +kernel
theorem dd_M_seal_116 : decode cc_M_seal 116 = .ok (.iconst 0, 1) := by decide +kernel
theorem dd_M_seal_117 : decode cc_M_seal 117 = .ok (.istore 7, 2) := by decide +kernel
theorem dd_M_seal_119 : decode cc_M_seal 119 = .ok (.iinc 8 (1), 3) := by decide +kernel
theorem dd_M_seal_122 : decode cc_M_seal 122 = .ok (.goto (-34), 3) := by decide +kernel
theorem dd_M_seal_125 : decode cc_M_seal 125 = .ok (.iload 7, 2) := by decide +kernel
theorem dd_M_seal_127 : decode cc_M_seal 127 = .ok (.ifCond .eq (8), 3) := by decide +kernel
theorem dd_M_seal_130 : decode cc_M_seal 130 = .ok (.aload_n 0, 1) := by decide +kernel
theorem dd_M_seal_131 : decode cc_M_seal 131 = .ok (.iconst 2, 1) := by decide +kernel
theorem dd_M_seal_132 : decode cc_M_seal 132 = .ok (.putfield 108, 3) := by decide +kernel
theorem dd_M_seal_135 : decode cc_M_seal 135 = .ok (.iconst 1, 1) := by decide +kernel
theorem dd_M_seal_136 : decode cc_M_seal 136 = .ok (.ireturn, 1) := by decide +kernel
theorem dd_M_lockedAt_0 : decode cc_M_lockedAt 0 = .ok (.aload_n 0, 1) := by decide +kernel
theorem dd_M_lockedAt_1 : decode cc_M_lockedAt 1 = .ok (.getfield 54, 3) := by decide +kernel
theorem dd_M_lockedAt_4 : decode cc_M_lockedAt 4 = .ok (.bipush (52), 2) := by decide +kernel
theorem dd_M_lockedAt_6 : decode cc_M_lockedAt 6 = .ok (.iload_n 1, 1) := by decide +kernel
theorem dd_M_lockedAt_7 : decode cc_M_lockedAt 7 = .ok (.imul, 1) := by decide +kernel
theorem dd_M_lockedAt_8 : decode cc_M_lockedAt 8 = .ok (.aload_n 0, 1) := by decide +kernel
theorem dd_M_lockedAt_9 : decode cc_M_lockedAt 9 = .ok (.getfield 57, 3) := by decide +kernel
theorem dd_M_lockedAt_12 : decode cc_M_lockedAt 12 = .ok (.iload_n 2, 1) := by decide +kernel
theorem dd_M_lockedAt_13 : decode cc_M_lockedAt 13 = .ok (.iaload, 1) := by decide +kernel
theorem dd_M_lockedAt_14 : decode cc_M_lockedAt 14 = .ok (.iadd, 1) := by decide +kernel
theorem dd_M_lockedAt_15 : decode cc_M_lockedAt 15 = .ok (.iaload, 1) := by decide +kernel
theorem dd_M_lockedAt_16 : decode cc_M_lockedAt 16 = .ok (.iload_n 3, 1) := by decide +kernel
theorem dd_M_lockedAt_17 : decode cc_M_lockedAt 17 = .ok (.aload_n 0, 1) := by decide +kernel
theorem dd_M_lockedAt_18 : decode cc_M_lockedAt 18 = .ok (.getfield 88, 3) := by decide +kernel
theorem dd_M_lockedAt_21 : decode cc_M_lockedAt 21 = .ok (.invokestatic 116, 3) := by decide +kernel
theorem dd_M_lockedAt_24 : decode cc_M_lockedAt 24 = .ok (.ireturn, 1) := by decide +kernel
theorem dd_M_relockedAt_0 : decode cc_M_relockedAt 0 = .ok (.aload_n 0, 1) := by decide +kernel
theorem dd_M_relockedAt_1 : decode cc_M_relockedAt 1 = .ok (.getfield 54, 3) := by decide +kernel
theorem dd_M_relockedAt_4 : decode cc_M_relockedAt 4 = .ok (.bipush (52), 2) := by decide +kernel
theorem dd_M_relockedAt_6 : decode cc_M_relockedAt 6 = .ok (.iload_n 1, 1) := by decide +kernel
theorem dd_M_relockedAt_7 : decode cc_M_relockedAt 7 = .ok (.imul, 1) := by decide +kernel
theorem dd_M_relockedAt_8 : decode cc_M_relockedAt 8 = .ok (.iload_n 2, 1) := by decide +kernel
theorem dd_M_relockedAt_9 : decode cc_M_relockedAt 9 = .ok (.iadd, 1) := by decide +kernel
theorem dd_M_relockedAt_10 : decode cc_M_relockedAt 10 = .ok (.iaload, 1) := by decide +kernel
theorem dd_M_relockedAt_11 : decode cc_M_relockedAt 11 = .ok (.aload_n 0, 1) := by decide +kernel
theorem dd_M_relockedAt_12 : decode cc_M_relockedAt 12 = .ok (.iload_n 3, 1) := by decide +kernel
theorem dd_M_relockedAt_13 : decode cc_M_relockedAt 13 = .ok (.invokevirtual 150, 3) := by decide +kernel
theorem dd_M_relockedAt_16 : decode cc_M_relockedAt 16 = .ok (.aload_n 0, 1) := by decide +kernel
theorem dd_M_relockedAt_17 : decode cc_M_relockedAt 17 = .ok (.getfield 88, 3) := by decide +kernel
theorem dd_M_relockedAt_20 : decode cc_M_relockedAt 20 = .ok (.invokestatic 116, 3) := by decide +kernel
theorem dd_M_relockedAt_23 : decode cc_M_relockedAt 23 = .ok (.aload_n 0, 1) := by decide +kernel
theorem dd_M_relockedAt_24 : decode cc_M_relockedAt 24 = .ok (.getfield 60, 3) := by decide +kernel
theorem dd_M_relockedAt_27 : decode cc_M_relockedAt 27 = .ok (.iload_n 2, 1) := by decide +kernel
theorem dd_M_relockedAt_28 : decode cc_M_relockedAt 28 = .ok (.iaload, 1) := by decide +kernel
theorem dd_M_relockedAt_29 : decode cc_M_relockedAt 29 = .ok (.aload_n 0, 1) := by decide +kernel
theorem dd_M_relockedAt_30 : decode cc_M_relockedAt 30 = .ok (.getfield 88, 3) := by decide +kernel
theorem dd_M_relockedAt_33 : decode cc_M_relockedAt 33 = .ok (.invokestatic 116, 3) := by decide +kernel
theorem dd_M_relockedAt_36 : decode cc_M_relockedAt 36 = .ok (.ireturn, 1) := by decide +kernel
theorem dd_M_cheated_0 : decode cc_M_cheated 0 = .ok (.lload_n 1, 1) := by decide +kernel
theorem dd_M_cheated_1 : decode cc_M_cheated 1 = .ok (.iload_n 3, 1) := by decide +kernel
theorem dd_M_cheated_2 : decode cc_M_cheated 2 = .ok (.lshr, 1) := by decide +kernel
theorem dd_M_cheated_3 : decode cc_M_cheated 3 = .ok (.lconst 1, 1) := by decide +kernel
theorem dd_M_cheated_4 : decode cc_M_cheated 4 = .ok (.land, 1) := by decide +kernel
theorem dd_M_cheated_5 : decode cc_M_cheated 5 = .ok (.lconst 0, 1) := by decide +kernel
theorem dd_M_cheated_6 : decode cc_M_cheated 6 = .ok (.lcmp, 1) := by decide +kernel
theorem dd_M_cheated_7 : decode cc_M_cheated 7 = .ok (.ifCond .ne (8), 3) := by decide +kernel
theorem dd_M_cheated_10 : decode cc_M_cheated 10 = .ok (.iload 4, 2) := by decide +kernel
theorem dd_M_cheated_12 : decode cc_M_cheated 12 = .ok (.goto (22), 3) := by decide +kernel
theorem dd_M_cheated_15 : decode cc_M_cheated 15 = .ok (.iload 4, 2) := by decide +kernel
theorem dd_M_cheated_17 : decode cc_M_cheated 17 = .ok (.aload_n 0, 1) := by decide +kernel
theorem dd_M_cheated_18 : decode cc_M_cheated 18 = .ok (.getfield 88, 3) := by decide +kernel
theorem dd_M_cheated_21 : decode cc_M_cheated 21 = .ok (.iconst 1, 1) := by decide +kernel
theorem dd_M_cheated_22 : decode cc_M_cheated 22 = .ok (.isub, 1) := by decide +kernel
theorem dd_M_cheated_23 : decode cc_M_cheated 23 = .ok (.if_icmp .ne (7), 3) := by decide +kernel
theorem dd_M_cheated_26 : decode cc_M_cheated 26 = .ok (.iconst 1, 1) := by decide +kernel
theorem dd_M_cheated_27 : decode cc_M_cheated 27 = .ok (.goto (7), 3) := by decide +kernel
theorem dd_M_cheated_30 : decode cc_M_cheated 30 = .ok (.iload 4, 2) := by decide +kernel
theorem dd_M_cheated_32 : decode cc_M_cheated 32 = .ok (.iconst 1, 1) := by decide +kernel
theorem dd_M_cheated_33 : decode cc_M_cheated 33 = .ok (.iadd, 1) := by decide +kernel
theorem dd_M_cheated_34 : decode cc_M_cheated 34 = .ok (.ireturn, 1) := by decide +kernel
theorem dd_M_turn_0 : decode cc_M_turn 0 = .ok (.aload_n 0, 1) := by decide +kernel
theorem dd_M_turn_1 : decode cc_M_turn 1 = .ok (.iconst 0, 1) := by decide +kernel
theorem dd_M_turn_2 : decode cc_M_turn 2 = .ok (.putfield 85, 3) := by decide +kernel
theorem dd_M_turn_5 : decode cc_M_turn 5 = .ok (.aload_n 0, 1) := by decide +kernel
theorem dd_M_turn_6 : decode cc_M_turn 6 = .ok (.getfield 108, 3) := by decide +kernel
theorem dd_M_turn_9 : decode cc_M_turn 9 = .ok (.iconst 2, 1) := by decide +kernel
theorem dd_M_turn_10 : decode cc_M_turn 10 = .ok (.if_icmp .eq (11), 3) := by decide +kernel
theorem dd_M_turn_13 : decode cc_M_turn 13 = .ok (.aload_n 0, 1) := by decide +kernel
theorem dd_M_turn_14 : decode cc_M_turn 14 = .ok (.getfield 108, 3) := by decide +kernel
theorem dd_M_turn_17 : decode cc_M_turn 17 = .ok (.iconst 3, 1) := by decide +kernel
theorem dd_M_turn_18 : decode cc_M_turn 18 = .ok (.if_icmp .ne (24), 3) := by decide +kernel
theorem dd_M_turn_21 : decode cc_M_turn 21 = .ok (.aload_n 0, 1) := by decide +kernel
theorem dd_M_turn_22 : decode cc_M_turn 22 = .ok (.iload_n 1, 1) := by decide +kernel
theorem dd_M_turn_23 : decode cc_M_turn 23 = .ok (.invokevirtual 139, 3) := by decide +kernel
theorem dd_M_turn_26 : decode cc_M_turn 26 = .ok (.ifCond .eq (16), 3) := by decide +kernel
theorem dd_M_turn_29 : decode cc_M_turn 29 = .ok (.aload_n 0, 1) := by decide +kernel
theorem dd_M_turn_30 : decode cc_M_turn 30 = .ok (.getfield 102, 3) := by decide +kernel
theorem dd_M_turn_33 : decode cc_M_turn 33 = .ok (.aload_n 0, 1) := by decide +kernel
theorem dd_M_turn_34 : decode cc_M_turn 34 = .ok (.getfield 105, 3) := by decide +kernel
theorem dd_M_turn_37 : decode cc_M_turn 37 = .ok (.irem, 1) := by decide +kernel
theorem dd_M_turn_38 : decode cc_M_turn 38 = .ok (.iload_n 1, 1) := by decide +kernel
theorem dd_M_turn_39 : decode cc_M_turn 39 = .ok (.if_icmp .eq (5), 3) := by decide +kernel
theorem dd_M_turn_42 : decode cc_M_turn 42 = .ok (.iconst 0, 1) := by decide +kernel
theorem dd_M_turn_43 : decode cc_M_turn 43 = .ok (.ireturn, 1) := by decide +kernel
theorem dd_M_turn_44 : decode cc_M_turn 44 = .ok (.aload_n 0, 1) := by decide +kernel
theorem dd_M_turn_45 : decode cc_M_turn 45 = .ok (.getfield 108, 3) := by decide +kernel
theorem dd_M_turn_48 : decode cc_M_turn 48 = .ok (.iconst 2, 1) := by decide +kernel
theorem dd_M_turn_49 : decode cc_M_turn 49 = .ok (.if_icmp .ne (16), 3) := by decide +kernel
theorem dd_M_turn_52 : decode cc_M_turn 52 = .ok (.aload_n 0, 1) := by decide +kernel
theorem dd_M_turn_53 : decode cc_M_turn 53 = .ok (.aload_n 0, 1) := by decide +kernel
theorem dd_M_turn_54 : decode cc_M_turn 54 = .ok (.getfield 24, 3) := by decide +kernel
theorem dd_M_turn_57 : decode cc_M_turn 57 = .ok (.iload_n 1, 1) := by decide +kernel
theorem dd_M_turn_58 : decode cc_M_turn 58 = .ok (.laload, 1) := by decide +kernel
theorem dd_M_turn_59 : decode cc_M_turn 59 = .ok (.invokevirtual 153, 3) := by decide +kernel
theorem dd_M_turn_62 : decode cc_M_turn 62 = .ok (.goto (13), 3) := by decide +kernel
theorem dd_M_turn_65 : decode cc_M_turn 65 = .ok (.aload_n 0, 1) := by decide +kernel
theorem dd_M_turn_66 : decode cc_M_turn 66 = .ok (.aload_n 0, 1) := by decide +kernel
theorem dd_M_turn_67 : decode cc_M_turn 67 = .ok (.getfield 27, 3) := by decide +kernel
theorem dd_M_turn_70 : decode cc_M_turn 70 = .ok (.iload_n 1, 1) := by decide +kernel
theorem dd_M_turn_71 : decode cc_M_turn 71 = .ok (.laload, 1) := by decide +kernel
theorem dd_M_turn_72 : decode cc_M_turn 72 = .ok (.invokevirtual 157, 3) := by decide +kernel
theorem dd_M_turn_75 : decode cc_M_turn 75 = .ok (.iconst 0, 1) := by decide +kernel
theorem dd_M_turn_76 : decode cc_M_turn 76 = .ok (.istore_n 2, 1) := by decide +kernel
theorem dd_M_turn_77 : decode cc_M_turn 77 = .ok (.iload_n 2, 1) := by decide +kernel
theorem dd_M_turn_78 : decode cc_M_turn 78 = .ok (.bipush (52), 2) := by decide +kernel
theorem dd_M_turn_80 : decode cc_M_turn 80 = .ok (.if_icmp .ge (96), 3) := by decide +kernel
theorem dd_M_turn_83 : decode cc_M_turn 83 = .ok (.aload_n 0, 1) := by decide +kernel
theorem dd_M_turn_84 : decode cc_M_turn 84 = .ok (.getfield 108, 3) := by decide +kernel
theorem dd_M_turn_87 : decode cc_M_turn 87 = .ok (.iconst 2, 1) := by decide +kernel
theorem dd_M_turn_88 : decode cc_M_turn 88 = .ok (.if_icmp .ne (21), 3) := by decide +kernel
theorem dd_M_turn_91 : decode cc_M_turn 91 = .ok (.aload_n 0, 1) := by decide +kernel
theorem dd_M_turn_92 : decode cc_M_turn 92 = .ok (.aload_n 0, 1) := by decide +kernel
theorem dd_M_turn_93 : decode cc_M_turn 93 = .ok (.getfield 102, 3) := by decide +kernel
theorem dd_M_turn_96 : decode cc_M_turn 96 = .ok (.iload_n 2, 1) := by decide +kernel
theorem dd_M_turn_97 : decode cc_M_turn 97 = .ok (.aload_n 0, 1) := by decide +kernel
theorem dd_M_turn_98 : decode cc_M_turn 98 = .ok (.getfield 21, 3) := by decide +kernel
theorem dd_M_turn_101 : decode cc_M_turn 101 = .ok (.iload_n 1, 1) := by decide +kernel
theorem dd_M_turn_102 : decode cc_M_turn 102 = .ok (.iaload, 1) := by decide +kernel
theorem dd_M_turn_103 : decode cc_M_turn 103 = .ok (.invokevirtual 160, 3) := by decide +kernel
theorem dd_M_turn_106 : decode cc_M_turn 106 = .ok (.goto (18), 3) := by decide +kernel
theorem dd_M_turn_109 : decode cc_M_turn 109 = .ok (.aload_n 0, 1) := by decide +kernel
theorem dd_M_turn_110 : decode cc_M_turn 110 = .ok (.aload_n 0, 1) := by decide +kernel
theorem dd_M_turn_111 : decode cc_M_turn 111 = .ok (.getfield 102, 3) := by decide +kernel
theorem dd_M_turn_114 : decode cc_M_turn 114 = .ok (.iload_n 2, 1) := by decide +kernel
theorem dd_M_turn_115 : decode cc_M_turn 115 = .ok (.aload_n 0, 1) := by decide +kernel
theorem dd_M_turn_116 : decode cc_M_turn 116 = .ok (.getfield 21, 3) := by decide +kernel
theorem dd_M_turn_119 : decode cc_M_turn 119 = .ok (.iload_n 1, 1) := by decide +kernel
theorem dd_M_turn_120 : decode cc_M_turn 120 = .ok (.iaload, 1) := by decide +kernel
theorem dd_M_turn_121 : decode cc_M_turn 121 = .ok (.invokevirtual 163, 3) := by decide +kernel
theorem dd_M_turn_124 : decode cc_M_turn 124 = .ok (.istore_n 3, 1) := by decide +kernel
theorem dd_M_turn_125 : decode cc_M_turn 125 = .ok (.aload_n 0, 1) := by decide +kernel
theorem dd_M_turn_126 : decode cc_M_turn 126 = .ok (.getfield 54, 3) := by decide +kernel
theorem dd_M_turn_129 : decode cc_M_turn 129 = .ok (.bipush (52), 2) := by decide +kernel
theorem dd_M_turn_131 : decode cc_M_turn 131 = .ok (.aload_n 0, 1) := by decide +kernel
theorem dd_M_turn_132 : decode cc_M_turn 132 = .ok (.getfield 102, 3) := by decide +kernel
theorem dd_M_turn_135 : decode cc_M_turn 135 = .ok (.iconst 1, 1) := by decide +kernel
theorem dd_M_turn_136 : decode cc_M_turn 136 = .ok (.iadd, 1) := by decide +kernel
theorem dd_M_turn_137 : decode cc_M_turn 137 = .ok (.imul, 1) := by decide +kernel
theorem dd_M_turn_138 : decode cc_M_turn 138 = .ok (.iload_n 2, 1) := by decide +kernel
theorem dd_M_turn_139 : decode cc_M_turn 139 = .ok (.iadd, 1) := by decide +kernel
theorem dd_M_turn_140 : decode cc_M_turn 140 = .ok (.aload_n 0, 1) := by decide +kernel
theorem dd_M_turn_141 : decode cc_M_turn 141 = .ok (.aload_n 0, 1) := by decide +kernel
theorem dd_M_turn_142 : decode cc_M_turn 142 = .ok (.getfield 108, 3) := by decide +kernel
theorem dd_M_turn_145 : decode cc_M_turn 145 = .ok (.iconst 2, 1) := by decide +kernel
theorem dd_M_turn_146 : decode cc_M_turn 146 = .ok (.if_icmp .ne (12), 3) := by decide +kernel
theorem dd_M_turn_149 : decode cc_M_turn 149 = .ok (.aload_n 0, 1) := by decide +kernel
theorem dd_M_turn_150 : decode cc_M_turn 150 = .ok (.getfield 39, 3) := by decide +kernel
theorem dd_M_turn_153 : decode cc_M_turn 153 = .ok (.iload_n 1, 1) := by decide +kernel
theorem dd_M_turn_154 : decode cc_M_turn 154 = .ok (.laload, 1) := by decide +kernel
theorem dd_M_turn_155 : decode cc_M_turn 155 = .ok (.goto (9), 3) := by decide +kernel
theorem dd_M_turn_158 : decode cc_M_turn 158 = .ok (.aload_n 0, 1) := by decide +kernel
theorem dd_M_turn_159 : decode cc_M_turn 159 = .ok (.getfield 42, 3) := by decide +kernel
theorem dd_M_turn_162 : decode cc_M_turn 162 = .ok (.iload_n 1, 1) := by decide +kernel
theorem dd_M_turn_163 : decode cc_M_turn 163 = .ok (.laload, 1) := by decide +kernel
theorem dd_M_turn_164 : decode cc_M_turn 164 = .ok (.iload_n 2, 1) := by decide +kernel
theorem dd_M_turn_165 : decode cc_M_turn 165 = .ok (.iload_n 3, 1) := by decide +kernel
theorem dd_M_turn_166 : decode cc_M_turn 166 = .ok (.invokevirtual 166, 3) := by decide +kernel
theorem dd_M_turn_169 : decode cc_M_turn 169 = .ok (.iastore, 1) := by decide +kernel
theorem dd_M_turn_170 : decode cc_M_turn 170 = .ok (.iinc 2 (1), 3) := by decide +kernel
theorem dd_M_turn_173 : decode cc_M_turn 173 = .ok (.goto (-96), 3) := by decide +kernel
theorem dd_M_turn_176 : decode cc_M_turn 176 = .ok (.aload_n 0, 1) := by decide +kernel
theorem dd_M_turn_177 : decode cc_M_turn 177 = .ok (.dup, 1) := by decide +kernel
theorem dd_M_turn_178 : decode cc_M_turn 178 = .ok (.getfield 102, 3) := by decide +kernel
theorem dd_M_turn_181 : decode cc_M_turn 181 = .ok (.iconst 1, 1) := by decide +kernel
theorem dd_M_turn_182 : decode cc_M_turn 182 = .ok (.iadd, 1) := by decide +kernel
theorem dd_M_turn_183 : decode cc_M_turn 183 = .ok (.putfield 102, 3) := by decide +kernel
theorem dd_M_turn_186 : decode cc_M_turn 186 = .ok (.aload_n 0, 1) := by decide +kernel
theorem dd_M_turn_187 : decode cc_M_turn 187 = .ok (.getfield 102, 3) := by decide +kernel
theorem dd_M_turn_190 : decode cc_M_turn 190 = .ok (.aload_n 0, 1) := by decide +kernel
theorem dd_M_turn_191 : decode cc_M_turn 191 = .ok (.getfield 105, 3) := by decide +kernel
theorem dd_M_turn_194 : decode cc_M_turn 194 = .ok (.irem, 1) := by decide +kernel
theorem dd_M_turn_195 : decode cc_M_turn 195 = .ok (.ifCond .ne (13), 3) := by decide +kernel
theorem dd_M_turn_198 : decode cc_M_turn 198 = .ok (.aload_n 0, 1) := by decide +kernel
theorem dd_M_turn_199 : decode cc_M_turn 199 = .ok (.dup, 1) := by decide +kernel
theorem dd_M_turn_200 : decode cc_M_turn 200 = .ok (.getfield 108, 3) := by decide +kernel
theorem dd_M_turn_203 : decode cc_M_turn 203 = .ok (.iconst 1, 1) := by decide +kernel
theorem dd_M_turn_204 : decode cc_M_turn 204 = .ok (.iadd, 1) := by decide +kernel
theorem dd_M_turn_205 : decode cc_M_turn 205 = .ok (.putfield 108, 3) := by decide +kernel
theorem dd_M_turn_208 : decode cc_M_turn 208 = .ok (.iconst 1, 1) := by decide +kernel
theorem dd_M_turn_209 : decode cc_M_turn 209 = .ok (.ireturn, 1) := by decide +kernel
theorem dd_M_laid_0 : decode cc_M_laid 0 = .ok (.iload_n 1, 1) := by decide +kernel
theorem dd_M_laid_1 : decode cc_M_laid 1 = .ok (.invokestatic 170, 3) := by decide +kernel
theorem dd_M_laid_4 : decode cc_M_laid 4 = .ok (.ifCond .eq (10), 3) := by decide +kernel
theorem dd_M_laid_7 : decode cc_M_laid 7 = .ok (.aload_n 0, 1) := by decide +kernel
theorem dd_M_laid_8 : decode cc_M_laid 8 = .ok (.getfield 88, 3) := by decide +kernel
theorem dd_M_laid_11 : decode cc_M_laid 11 = .ok (.ifCond .ne (9), 3) := by decide +kernel
theorem dd_M_laid_14 : decode cc_M_laid 14 = .ok (.aload_n 0, 1) := by decide +kernel
theorem dd_M_laid_15 : decode cc_M_laid 15 = .ok (.iconst 1, 1) := by decide +kernel
theorem dd_M_laid_16 : decode cc_M_laid 16 = .ok (.invokevirtual 146, 3) := by decide +kernel
theorem dd_M_laid_19 : decode cc_M_laid 19 = .ok (.ireturn, 1) := by decide +kernel
theorem dd_M_laid_20 : decode cc_M_laid 20 = .ok (.aload_n 0, 1) := by decide +kernel
theorem dd_M_laid_21 : decode cc_M_laid 21 = .ok (.iconst 0, 1) := by decide +kernel
theorem dd_M_laid_22 : decode cc_M_laid 22 = .ok (.putfield 85, 3) := by decide +kernel
theorem dd_M_laid_25 : decode cc_M_laid 25 = .ok (.aload_n 0, 1) := by decide +kernel
theorem dd_M_laid_26 : decode cc_M_laid 26 = .ok (.getfield 54, 3) := by decide +kernel
theorem dd_M_laid_29 : decode cc_M_laid 29 = .ok (.bipush (52), 2) := by decide +kernel
theorem dd_M_laid_31 : decode cc_M_laid 31 = .ok (.aload_n 0, 1) := by decide +kernel
theorem dd_M_laid_32 : decode cc_M_laid 32 = .ok (.getfield 102, 3) := by decide +kernel
theorem dd_M_laid_35 : decode cc_M_laid 35 = .ok (.imul, 1) := by decide +kernel
theorem dd_M_laid_36 : decode cc_M_laid 36 = .ok (.iload_n 1, 1) := by decide +kernel
theorem dd_M_laid_37 : decode cc_M_laid 37 = .ok (.iadd, 1) := by decide +kernel
theorem dd_M_laid_38 : decode cc_M_laid 38 = .ok (.iaload, 1) := by decide +kernel
theorem dd_M_laid_39 : decode cc_M_laid 39 = .ok (.ireturn, 1) := by decide +kernel
theorem dd_M_assign_0 : decode cc_M_assign 0 = .ok (.aload_n 0, 1) := by decide +kernel
theorem dd_M_assign_1 : decode cc_M_assign 1 = .ok (.iconst 0, 1) := by decide +kernel
theorem dd_M_assign_2 : decode cc_M_assign 2 = .ok (.putfield 85, 3) := by decide +kernel
theorem dd_M_assign_5 : decode cc_M_assign 5 = .ok (.iload_n 1, 1) := by decide +kernel
theorem dd_M_assign_6 : decode cc_M_assign 6 = .ok (.invokestatic 170, 3) := by decide +kernel
theorem dd_M_assign_9 : decode cc_M_assign 9 = .ok (.ifCond .eq (35), 3) := by decide +kernel
theorem dd_M_assign_12 : decode cc_M_assign 12 = .ok (.aload_n 0, 1) := by decide +kernel
theorem dd_M_assign_13 : decode cc_M_assign 13 = .ok (.getfield 108, 3) := by decide +kernel
theorem dd_M_assign_16 : decode cc_M_assign 16 = .ok (.iconst 4, 1) := by decide +kernel
theorem dd_M_assign_17 : decode cc_M_assign 17 = .ok (.if_icmp .ne (27), 3) := by decide +kernel
theorem dd_M_assign_20 : decode cc_M_assign 20 = .ok (.aload_n 0, 1) := by decide +kernel
theorem dd_M_assign_21 : decode cc_M_assign 21 = .ok (.getfield 63, 3) := by decide +kernel
theorem dd_M_assign_24 : decode cc_M_assign 24 = .ok (.iload_n 1, 1) := by decide +kernel
theorem dd_M_assign_25 : decode cc_M_assign 25 = .ok (.iaload, 1) := by decide +kernel
theorem dd_M_assign_26 : decode cc_M_assign 26 = .ok (.bipush (-2), 2) := by decide +kernel
theorem dd_M_assign_28 : decode cc_M_assign 28 = .ok (.if_icmp .ne (16), 3) := by decide +kernel
theorem dd_M_assign_31 : decode cc_M_assign 31 = .ok (.iload_n 2, 1) := by decide +kernel
theorem dd_M_assign_32 : decode cc_M_assign 32 = .ok (.iconst (-1), 1) := by decide +kernel
theorem dd_M_assign_33 : decode cc_M_assign 33 = .ok (.if_icmp .eq (13), 3) := by decide +kernel
theorem dd_M_assign_36 : decode cc_M_assign 36 = .ok (.aload_n 0, 1) := by decide +kernel
theorem dd_M_assign_37 : decode cc_M_assign 37 = .ok (.iload_n 2, 1) := by decide +kernel
theorem dd_M_assign_38 : decode cc_M_assign 38 = .ok (.invokevirtual 139, 3) := by decide +kernel
theorem dd_M_assign_41 : decode cc_M_assign 41 = .ok (.ifCond .ne (5), 3) := by decide +kernel
theorem dd_M_assign_44 : decode cc_M_assign 44 = .ok (.iconst 0, 1) := by decide +kernel
theorem dd_M_assign_45 : decode cc_M_assign 45 = .ok (.ireturn, 1) := by decide +kernel
theorem dd_M_assign_46 : decode cc_M_assign 46 = .ok (.aload_n 0, 1) := by decide +kernel
theorem dd_M_assign_47 : decode cc_M_assign 47 = .ok (.getfield 63, 3) := by decide +kernel
theorem dd_M_assign_50 : decode cc_M_assign 50 = .ok (.iload_n 1, 1) := by decide +kernel
theorem dd_M_assign_51 : decode cc_M_assign 51 = .ok (.iload_n 2, 1) := by decide +kernel
theorem dd_M_assign_52 : decode cc_M_assign 52 = .ok (.iastore, 1) := by decide +kernel
theorem dd_M_assign_53 : decode cc_M_assign 53 = .ok (.iconst 1, 1) := by decide +kernel
theorem dd_M_assign_54 : decode cc_M_assign 54 = .ok (.ireturn, 1) := by decide +kernel
theorem dd_M_lockOf_0 : decode cc_M_lockOf 0 = .ok (.aload_n 0, 1) := by decide +kernel
theorem dd_M_lockOf_1 : decode cc_M_lockOf 1 = .ok (.aload_n 0, 1) := by decide +kernel
theorem dd_M_lockOf_2 : decode cc_M_lockOf 2 = .ok (.getfield 27, 3) := by decide +kernel
theorem dd_M_lockOf_5 : decode cc_M_lockOf 5 = .ok (.iload_n 1, 1) := by decide +kernel
theorem dd_M_lockOf_6 : decode cc_M_lockOf 6 = .ok (.laload, 1) := by decide +kernel
theorem dd_M_lockOf_7 : decode cc_M_lockOf 7 = .ok (.invokevirtual 157, 3) := by decide +kernel
theorem dd_M_lockOf_10 : decode cc_M_lockOf 10 = .ok (.aload_n 0, 1) := by decide +kernel
theorem dd_M_lockOf_11 : decode cc_M_lockOf 11 = .ok (.getfield 60, 3) := by decide +kernel
theorem dd_M_lockOf_14 : decode cc_M_lockOf 14 = .ok (.iload_n 2, 1) := by decide +kernel
theorem dd_M_lockOf_15 : decode cc_M_lockOf 15 = .ok (.iaload, 1) := by decide +kernel
theorem dd_M_lockOf_16 : decode cc_M_lockOf 16 = .ok (.ireturn, 1) := by decide +kernel
theorem dd_M_give_0 : decode cc_M_give 0 = .ok (.aload_n 0, 1) := by decide +kernel
theorem dd_M_give_1 : decode cc_M_give 1 = .ok (.iconst 0, 1) := by decide +kernel
theorem dd_M_give_2 : decode cc_M_give 2 = .ok (.putfield 85, 3) := by decide +kernel
theorem dd_M_give_5 : decode cc_M_give 5 = .ok (.aload_n 0, 1) := by decide +kernel
theorem dd_M_give_6 : decode cc_M_give 6 = .ok (.iload_n 1, 1) := by decide +kernel
theorem dd_M_give_7 : decode cc_M_give 7 = .ok (.invokevirtual 139, 3) := by decide +kernel
theorem dd_M_give_10 : decode cc_M_give 10 = .ok (.ifCond .eq (53), 3) := by decide +kernel
theorem dd_M_give_13 : decode cc_M_give 13 = .ok (.iload_n 2, 1) := by decide +kernel
theorem dd_M_give_14 : decode cc_M_give 14 = .ok (.invokestatic 170, 3) := by decide +kernel
theorem dd_M_give_17 : decode cc_M_give 17 = .ok (.ifCond .eq (46), 3) := by decide +kernel
theorem dd_M_give_20 : decode cc_M_give 20 = .ok (.aload_n 0, 1) := by decide +kernel
theorem dd_M_give_21 : decode cc_M_give 21 = .ok (.getfield 108, 3) := by decide +kernel
theorem dd_M_give_24 : decode cc_M_give 24 = .ok (.iconst 4, 1) := by decide +kernel
theorem dd_M_give_25 : decode cc_M_give 25 = .ok (.if_icmp .ne (38), 3) := by decide +kernel
theorem dd_M_give_28 : decode cc_M_give 28 = .ok (.aload_n 0, 1) := by decide +kernel
theorem dd_M_give_29 : decode cc_M_give 29 = .ok (.getfield 63, 3) := by decide +kernel
theorem dd_M_give_32 : decode cc_M_give 32 = .ok (.iload_n 2, 1) := by decide +kernel
theorem dd_M_give_33 : decode cc_M_give 33 = .ok (.iaload, 1) := by decide +kernel
theorem dd_M_give_34 : decode cc_M_give 34 = .ok (.bipush (-2), 2) := by decide +kernel
theorem dd_M_give_36 : decode cc_M_give 36 = .ok (.if_icmp .eq (27), 3) := by decide +kernel
theorem dd_M_give_39 : decode cc_M_give 39 = .ok (.aload_n 0, 1) := by decide +kernel
theorem dd_M_give_40 : decode cc_M_give 40 = .ok (.getfield 63, 3) := by decide +kernel
theorem dd_M_give_43 : decode cc_M_give 43 = .ok (.iload_n 2, 1) := by decide +kernel
theorem dd_M_give_44 : decode cc_M_give 44 = .ok (.iaload, 1) := by decide +kernel
theorem dd_M_give_45 : decode cc_M_give 45 = .ok (.iload_n 1, 1) := by decide +kernel
theorem dd_M_give_46 : decode cc_M_give 46 = .ok (.if_icmp .eq (17), 3) := by decide +kernel
theorem dd_M_give_49 : decode cc_M_give 49 = .ok (.aload_n 0, 1) := by decide +kernel
theorem dd_M_give_50 : decode cc_M_give 50 = .ok (.getfield 66, 3) := by decide +kernel
theorem dd_M_give_53 : decode cc_M_give 53 = .ok (.bipush (52), 2) := by decide +kernel
theorem dd_M_give_55 : decode cc_M_give 55 = .ok (.iload_n 1, 1) := by decide +kernel
theorem dd_M_give_56 : decode cc_M_give 56 = .ok (.imul, 1) := by decide +kernel
theorem dd_M_give_57 : decode cc_M_give 57 = .ok (.iload_n 2, 1) := by decide +kernel
theorem dd_M_give_58 : decode cc_M_give 58 = .ok (.iadd, 1) := by decide +kernel
theorem dd_M_give_59 : decode cc_M_give 59 = .ok (.iaload, 1) := by decide +kernel
theorem dd_M_give_60 : decode cc_M_give 60 = .ok (.ifCond .eq (5), 3) := by decide +kernel
theorem dd_M_give_63 : decode cc_M_give 63 = .ok (.iconst 0, 1) := by decide +kernel
theorem dd_M_give_64 : decode cc_M_give 64 = .ok (.ireturn, 1) := by decide +kernel
theorem dd_M_give_65 : decode cc_M_give 65 = .ok (.aload_n 0, 1) := by decide +kernel
theorem dd_M_give_66 : decode cc_M_give 66 = .ok (.iload_n 1, 1) := by decide +kernel
theorem dd_M_give_67 : decode cc_M_give 67 = .ok (.iload_n 2, 1) := by decide +kernel
theorem dd_M_give_68 : decode cc_M_give 68 = .ok (.invokevirtual 173, 3) := by decide +kernel
theorem dd_M_give_71 : decode cc_M_give 71 = .ok (.istore_n 3, 1) := by decide +kernel
theorem dd_M_give_72 : decode cc_M_give 72 = .ok (.aload_n 0, 1) := by decide +kernel
theorem dd_M_give_73 : decode cc_M_give 73 = .ok (.getfield 66, 3) := by decide +kernel
theorem dd_M_give_76 : decode cc_M_give 76 = .ok (.bipush (52), 2) := by decide +kernel
theorem dd_M_give_78 : decode cc_M_give 78 = .ok (.iload_n 1, 1) := by decide +kernel
theorem dd_M_give_79 : decode cc_M_give 79 = .ok (.imul, 1) := by decide +kernel
theorem dd_M_give_80 : decode cc_M_give 80 = .ok (.iload_n 2, 1) := by decide +kernel
theorem dd_M_give_81 : decode cc_M_give 81 = .ok (.iadd, 1) := by decide +kernel
theorem dd_M_give_82 : decode cc_M_give 82 = .ok (.aload_n 0, 1) := by decide +kernel
theorem dd_M_give_83 : decode cc_M_give 83 = .ok (.getfield 45, 3) := by decide +kernel
theorem dd_M_give_86 : decode cc_M_give 86 = .ok (.iload_n 1, 1) := by decide +kernel
theorem dd_M_give_87 : decode cc_M_give 87 = .ok (.laload, 1) := by decide +kernel
theorem dd_M_give_88 : decode cc_M_give 88 = .ok (.iload_n 2, 1) := by decide +kernel
theorem dd_M_give_89 : decode cc_M_give 89 = .ok (.lshr, 1) := by decide +kernel
theorem dd_M_give_90 : decode cc_M_give 90 = .ok (.lconst 1, 1) := by decide +kernel
theorem dd_M_give_91 : decode cc_M_give 91 = .ok (.land, 1) := by decide +kernel
theorem dd_M_give_92 : decode cc_M_give 92 = .ok (.lconst 1, 1) := by decide +kernel
theorem dd_M_give_93 : decode cc_M_give 93 = .ok (.lcmp, 1) := by decide +kernel
theorem dd_M_give_94 : decode cc_M_give 94 = .ok (.ifCond .ne (11), 3) := by decide +kernel
theorem dd_M_give_97 : decode cc_M_give 97 = .ok (.aload_n 0, 1) := by decide +kernel
theorem dd_M_give_98 : decode cc_M_give 98 = .ok (.iload_n 3, 1) := by decide +kernel
theorem dd_M_give_99 : decode cc_M_give 99 = .ok (.invokevirtual 177, 3) := by decide +kernel
theorem dd_M_give_102 : decode cc_M_give 102 = .ok (.goto (4), 3) := by decide +kernel
theorem dd_M_give_105 : decode cc_M_give 105 = .ok (.iload_n 3, 1) := by decide +kernel
theorem dd_M_give_106 : decode cc_M_give 106 = .ok (.iastore, 1) := by decide +kernel
theorem dd_M_give_107 : decode cc_M_give 107 = .ok (.iconst 1, 1) := by decide +kernel
theorem dd_M_give_108 : decode cc_M_give 108 = .ok (.ireturn, 1) := by decide +kernel
theorem dd_M_open_0 : decode cc_M_open 0 = .ok (.aload_n 0, 1) := by decide +kernel
theorem dd_M_open_1 : decode cc_M_open 1 = .ok (.iconst 0, 1) := by decide +kernel
theorem dd_M_open_2 : decode cc_M_open 2 = .ok (.putfield 85, 3) := by decide +kernel
theorem dd_M_open_5 : decode cc_M_open 5 = .ok (.aload_n 0, 1) := by decide +kernel
theorem dd_M_open_6 : decode cc_M_open 6 = .ok (.iload_n 1, 1) := by decide +kernel
theorem dd_M_open_7 : decode cc_M_open 7 = .ok (.invokevirtual 139, 3) := by decide +kernel
theorem dd_M_open_10 : decode cc_M_open 10 = .ok (.ifCond .eq (49), 3) := by decide +kernel
theorem dd_M_open_13 : decode cc_M_open 13 = .ok (.iload_n 2, 1) := by decide +kernel
theorem dd_M_open_14 : decode cc_M_open 14 = .ok (.invokestatic 170, 3) := by decide +kernel
theorem dd_M_open_17 : decode cc_M_open 17 = .ok (.ifCond .eq (42), 3) := by decide +kernel
theorem dd_M_open_20 : decode cc_M_open 20 = .ok (.aload_n 0, 1) := by decide +kernel
theorem dd_M_open_21 : decode cc_M_open 21 = .ok (.getfield 108, 3) := by decide +kernel
theorem dd_M_open_24 : decode cc_M_open 24 = .ok (.iconst 4, 1) := by decide +kernel
theorem dd_M_open_25 : decode cc_M_open 25 = .ok (.if_icmp .lt (34), 3) := by decide +kernel
theorem dd_M_open_28 : decode cc_M_open 28 = .ok (.aload_n 0, 1) := by decide +kernel
theorem dd_M_open_29 : decode cc_M_open 29 = .ok (.getfield 63, 3) := by decide +kernel
theorem dd_M_open_32 : decode cc_M_open 32 = .ok (.iload_n 2, 1) := by decide +kernel
theorem dd_M_open_33 : decode cc_M_open 33 = .ok (.iaload, 1) := by decide +kernel
theorem dd_M_open_34 : decode cc_M_open 34 = .ok (.bipush (-2), 2) := by decide +kernel
theorem dd_M_open_36 : decode cc_M_open 36 = .ok (.if_icmp .eq (23), 3) := by decide +kernel
theorem dd_M_open_39 : decode cc_M_open 39 = .ok (.aload_n 0, 1) := by decide +kernel
theorem dd_M_open_40 : decode cc_M_open 40 = .ok (.getfield 63, 3) := by decide +kernel
theorem dd_M_open_43 : decode cc_M_open 43 = .ok (.iload_n 2, 1) := by decide +kernel
theorem dd_M_open_44 : decode cc_M_open 44 = .ok (.iaload, 1) := by decide +kernel
theorem dd_M_open_45 : decode cc_M_open 45 = .ok (.iconst (-1), 1) := by decide +kernel
theorem dd_M_open_46 : decode cc_M_open 46 = .ok (.if_icmp .eq (15), 3) := by decide +kernel
theorem dd_M_open_49 : decode cc_M_open 49 = .ok (.aload_n 0, 1) := by decide +kernel
theorem dd_M_open_50 : decode cc_M_open 50 = .ok (.getfield 63, 3) := by decide +kernel
theorem dd_M_open_53 : decode cc_M_open 53 = .ok (.iload_n 2, 1) := by decide +kernel
theorem dd_M_open_54 : decode cc_M_open 54 = .ok (.iaload, 1) := by decide +kernel
theorem dd_M_open_55 : decode cc_M_open 55 = .ok (.iload_n 1, 1) := by decide +kernel
theorem dd_M_open_56 : decode cc_M_open 56 = .ok (.if_icmp .eq (5), 3) := by decide +kernel
theorem dd_M_open_59 : decode cc_M_open 59 = .ok (.iconst (-1), 1) := by decide +kernel
theorem dd_M_open_60 : decode cc_M_open 60 = .ok (.ireturn, 1) := by decide +kernel
theorem dd_M_open_61 : decode cc_M_open 61 = .ok (.aload_n 0, 1) := by decide +kernel
theorem dd_M_open_62 : decode cc_M_open 62 = .ok (.getfield 54, 3) := by decide +kernel
theorem dd_M_open_65 : decode cc_M_open 65 = .ok (.bipush (52), 2) := by decide +kernel
theorem dd_M_open_67 : decode cc_M_open 67 = .ok (.aload_n 0, 1) := by decide +kernel
theorem dd_M_open_68 : decode cc_M_open 68 = .ok (.getfield 102, 3) := by decide +kernel
theorem dd_M_open_71 : decode cc_M_open 71 = .ok (.imul, 1) := by decide +kernel
theorem dd_M_open_72 : decode cc_M_open 72 = .ok (.iload_n 2, 1) := by decide +kernel
theorem dd_M_open_73 : decode cc_M_open 73 = .ok (.iadd, 1) := by decide +kernel
theorem dd_M_open_74 : decode cc_M_open 74 = .ok (.iaload, 1) := by decide +kernel
theorem dd_M_open_75 : decode cc_M_open 75 = .ok (.istore_n 3, 1) := by decide +kernel
theorem dd_M_open_76 : decode cc_M_open 76 = .ok (.iconst 0, 1) := by decide +kernel
theorem dd_M_open_77 : decode cc_M_open 77 = .ok (.istore 4, 2) := by decide +kernel
theorem dd_M_open_79 : decode cc_M_open 79 = .ok (.iload 4, 2) := by decide +kernel
theorem dd_M_open_81 : decode cc_M_open 81 = .ok (.aload_n 0, 1) := by decide +kernel
theorem dd_M_open_82 : decode cc_M_open 82 = .ok (.getfield 105, 3) := by decide +kernel
theorem dd_M_open_85 : decode cc_M_open 85 = .ok (.if_icmp .ge (71), 3) := by decide +kernel
theorem dd_M_open_88 : decode cc_M_open 88 = .ok (.aload_n 0, 1) := by decide +kernel
theorem dd_M_open_89 : decode cc_M_open 89 = .ok (.getfield 66, 3) := by decide +kernel
theorem dd_M_open_92 : decode cc_M_open 92 = .ok (.bipush (52), 2) := by decide +kernel
theorem dd_M_open_94 : decode cc_M_open 94 = .ok (.iload 4, 2) := by decide +kernel
theorem dd_M_open_96 : decode cc_M_open 96 = .ok (.imul, 1) := by decide +kernel
theorem dd_M_open_97 : decode cc_M_open 97 = .ok (.iload_n 2, 1) := by decide +kernel
theorem dd_M_open_98 : decode cc_M_open 98 = .ok (.iadd, 1) := by decide +kernel
theorem dd_M_open_99 : decode cc_M_open 99 = .ok (.iaload, 1) := by decide +kernel
theorem dd_M_open_100 : decode cc_M_open 100 = .ok (.istore 5, 2) := by decide +kernel
theorem dd_M_open_102 : decode cc_M_open 102 = .ok (.iload 5, 2) := by decide +kernel
theorem dd_M_open_104 : decode cc_M_open 104 = .ok (.ifCond .ne (16), 3) := by decide +kernel
theorem dd_M_open_107 : decode cc_M_open 107 = .ok (.aload_n 0, 1) := by decide +kernel
theorem dd_M_open_108 : decode cc_M_open 108 = .ok (.getfield 63, 3) := by decide +kernel
theorem dd_M_open_111 : decode cc_M_open 111 = .ok (.iload_n 2, 1) := by decide +kernel
theorem dd_M_open_112 : decode cc_M_open 112 = .ok (.iaload, 1) := by decide +kernel
theorem dd_M_open_113 : decode cc_M_open 113 = .ok (.iload 4, 2) := by decide +kernel
theorem dd_M_open_115 : decode cc_M_open 115 = .ok (.if_icmp .eq (5), 3) := by decide +kernel
theorem dd_M_open_118 : decode cc_M_open 118 = .ok (.iconst (-1), 1) := by decide +kernel
theorem dd_M_open_119 : decode cc_M_open 119 = .ok (.ireturn, 1) := by decide +kernel
theorem dd_M_open_120 : decode cc_M_open 120 = .ok (.iload_n 3, 1) := by decide +kernel
theorem dd_M_open_121 : decode cc_M_open 121 = .ok (.aload_n 0, 1) := by decide +kernel
theorem dd_M_open_122 : decode cc_M_open 122 = .ok (.iload 5, 2) := by decide +kernel
theorem dd_M_open_124 : decode cc_M_open 124 = .ok (.ifCond .ne (13), 3) := by decide +kernel
theorem dd_M_open_127 : decode cc_M_open 127 = .ok (.aload_n 0, 1) := by decide +kernel
theorem dd_M_open_128 : decode cc_M_open 128 = .ok (.iload 4, 2) := by decide +kernel
theorem dd_M_open_130 : decode cc_M_open 130 = .ok (.iload_n 2, 1) := by decide +kernel
theorem dd_M_open_131 : decode cc_M_open 131 = .ok (.invokevirtual 173, 3) := by decide +kernel
theorem dd_M_open_134 : decode cc_M_open 134 = .ok (.goto (5), 3) := by decide +kernel
theorem dd_M_open_137 : decode cc_M_open 137 = .ok (.iload 5, 2) := by decide +kernel
theorem dd_M_open_139 : decode cc_M_open 139 = .ok (.invokevirtual 150, 3) := by decide +kernel
theorem dd_M_open_142 : decode cc_M_open 142 = .ok (.aload_n 0, 1) := by decide +kernel
theorem dd_M_open_143 : decode cc_M_open 143 = .ok (.getfield 88, 3) := by decide +kernel
theorem dd_M_open_146 : decode cc_M_open 146 = .ok (.invokestatic 116, 3) := by decide +kernel
theorem dd_M_open_149 : decode cc_M_open 149 = .ok (.istore_n 3, 1) := by decide +kernel
theorem dd_M_open_150 : decode cc_M_open 150 = .ok (.iinc 4 (1), 3) := by decide +kernel
theorem dd_M_open_153 : decode cc_M_open 153 = .ok (.goto (-74), 3) := by decide +kernel
theorem dd_M_open_156 : decode cc_M_open 156 = .ok (.iconst 0, 1) := by decide +kernel
theorem dd_M_open_157 : decode cc_M_open 157 = .ok (.istore 4, 2) := by decide +kernel
theorem dd_M_open_159 : decode cc_M_open 159 = .ok (.iload 4, 2) := by decide +kernel
theorem dd_M_open_161 : decode cc_M_open 161 = .ok (.bipush (52), 2) := by decide +kernel
theorem dd_M_open_163 : decode cc_M_open 163 = .ok (.if_icmp .ge (23), 3) := by decide +kernel
theorem dd_M_open_166 : decode cc_M_open 166 = .ok (.aload_n 0, 1) := by decide +kernel
theorem dd_M_open_167 : decode cc_M_open 167 = .ok (.getfield 54, 3) := by decide +kernel
theorem dd_M_open_170 : decode cc_M_open 170 = .ok (.iload 4, 2) := by decide +kernel
theorem dd_M_open_172 : decode cc_M_open 172 = .ok (.iaload, 1) := by decide +kernel
theorem dd_M_open_173 : decode cc_M_open 173 = .ok (.iload_n 3, 1) := by decide +kernel
theorem dd_M_open_174 : decode cc_M_open 174 = .ok (.if_icmp .ne (6), 3) := by decide +kernel
theorem dd_M_open_177 : decode cc_M_open 177 = .ok (.iload 4, 2) := by decide +kernel
theorem dd_M_open_179 : decode cc_M_open 179 = .ok (.ireturn, 1) := by decide +kernel
theorem dd_M_open_180 : decode cc_M_open 180 = .ok (.iinc 4 (1), 3) := by decide +kernel
theorem dd_M_open_183 : decode cc_M_open 183 = .ok (.goto (-24), 3) := by decide +kernel
theorem dd_M_open_186 : decode cc_M_open 186 = .ok (.bipush (52), 2) := by decide +kernel
theorem dd_M_open_188 : decode cc_M_open 188 = .ok (.ireturn, 1) := by decide +kernel
theorem dd_M_canAct_0 : decode cc_M_canAct 0 = .ok (.aload_n 0, 1) := by decide +kernel
theorem dd_M_canAct_1 : decode cc_M_canAct 1 = .ok (.getfield 69, 3) := by decide +kernel
theorem dd_M_canAct_4 : decode cc_M_canAct 4 = .ok (.iload_n 1, 1) := by decide +kernel
theorem dd_M_canAct_5 : decode cc_M_canAct 5 = .ok (.baload, 1) := by decide +kernel
theorem dd_M_canAct_6 : decode cc_M_canAct 6 = .ok (.ifCond .eq (16), 3) := by decide +kernel
theorem dd_M_canAct_9 : decode cc_M_canAct 9 = .ok (.aload_n 0, 1) := by decide +kernel
theorem dd_M_canAct_10 : decode cc_M_canAct 10 = .ok (.getfield 7, 3) := by decide +kernel
theorem dd_M_canAct_13 : decode cc_M_canAct 13 = .ok (.iload_n 1, 1) := by decide +kernel
theorem dd_M_canAct_14 : decode cc_M_canAct 14 = .ok (.iaload, 1) := by decide +kernel
theorem dd_M_canAct_15 : decode cc_M_canAct 15 = .ok (.ifCond .le (7), 3) := by decide +kernel
theorem dd_M_canAct_18 : decode cc_M_canAct 18 = .ok (.iconst 1, 1) := by decide +kernel
theorem dd_M_canAct_19 : decode cc_M_canAct 19 = .ok (.goto (4), 3) := by decide +kernel
theorem dd_M_canAct_22 : decode cc_M_canAct 22 = .ok (.iconst 0, 1) := by decide +kernel
theorem dd_M_canAct_23 : decode cc_M_canAct 23 = .ok (.ireturn, 1) := by decide +kernel
theorem dd_M_many_0 : decode cc_M_many 0 = .ok (.iconst 0, 1) := by decide +kernel
theorem dd_M_many_1 : decode cc_M_many 1 = .ok (.istore_n 1, 1) := by decide +kernel
theorem dd_M_many_2 : decode cc_M_many 2 = .ok (.iconst 0, 1) := by decide +kernel
theorem dd_M_many_3 : decode cc_M_many 3 = .ok (.istore_n 2, 1) := by decide +kernel
theorem dd_M_many_4 : decode cc_M_many 4 = .ok (.iload_n 2, 1) := by decide +kernel
theorem dd_M_many_5 : decode cc_M_many 5 = .ok (.aload_n 0, 1) := by decide +kernel
theorem dd_M_many_6 : decode cc_M_many 6 = .ok (.getfield 105, 3) := by decide +kernel
theorem dd_M_many_9 : decode cc_M_many 9 = .ok (.if_icmp .ge (26), 3) := by decide +kernel
theorem dd_M_many_12 : decode cc_M_many 12 = .ok (.iload_n 1, 1) := by decide +kernel
theorem dd_M_many_13 : decode cc_M_many 13 = .ok (.aload_n 0, 1) := by decide +kernel
theorem dd_M_many_14 : decode cc_M_many 14 = .ok (.getfield 69, 3) := by decide +kernel
theorem dd_M_many_17 : decode cc_M_many 17 = .ok (.iload_n 2, 1) := by decide +kernel
theorem dd_M_many_18 : decode cc_M_many 18 = .ok (.baload, 1) := by decide +kernel
theorem dd_M_many_19 : decode cc_M_many 19 = .ok (.ifCond .eq (7), 3) := by decide +kernel
theorem dd_M_many_22 : decode cc_M_many 22 = .ok (.iconst 1, 1) := by decide +kernel
theorem dd_M_many_23 : decode cc_M_many 23 = .ok (.goto (4), 3) := by decide +kernel
theorem dd_M_many_26 : decode cc_M_many 26 = .ok (.iconst 0, 1) := by decide +kernel
theorem dd_M_many_27 : decode cc_M_many 27 = .ok (.iadd, 1) := by decide +kernel
theorem dd_M_many_28 : decode cc_M_many 28 = .ok (.istore_n 1, 1) := by decide +kernel
theorem dd_M_many_29 : decode cc_M_many 29 = .ok (.iinc 2 (1), 3) := by decide +kernel
theorem dd_M_many_32 : decode cc_M_many 32 = .ok (.goto (-28), 3) := by decide +kernel
theorem dd_M_many_35 : decode cc_M_many 35 = .ok (.iload_n 1, 1) := by decide +kernel
theorem dd_M_many_36 : decode cc_M_many 36 = .ok (.ireturn, 1) := by decide +kernel
theorem dd_M_most_0 : decode cc_M_most 0 = .ok (.iconst 0, 1) := by decide +kernel
theorem dd_M_most_1 : decode cc_M_most 1 = .ok (.istore_n 1, 1) := by decide +kernel
theorem dd_M_most_2 : decode cc_M_most 2 = .ok (.iconst 0, 1) := by decide +kernel
theorem dd_M_most_3 : decode cc_M_most 3 = .ok (.istore_n 2, 1) := by decide +kernel
theorem dd_M_most_4 : decode cc_M_most 4 = .ok (.iload_n 2, 1) := by decide +kernel
theorem dd_M_most_5 : decode cc_M_most 5 = .ok (.aload_n 0, 1) := by decide +kernel
theorem dd_M_most_6 : decode cc_M_most 6 = .ok (.getfield 105, 3) := by decide +kernel
theorem dd_M_most_9 : decode cc_M_most 9 = .ok (.if_icmp .ge (30), 3) := by decide +kernel
theorem dd_M_most_12 : decode cc_M_most 12 = .ok (.aload_n 0, 1) := by decide +kernel
theorem dd_M_most_13 : decode cc_M_most 13 = .ok (.getfield 75, 3) := by decide +kernel
theorem dd_M_most_16 : decode cc_M_most 16 = .ok (.iload_n 2, 1) := by decide +kernel
theorem dd_M_most_17 : decode cc_M_most 17 = .ok (.iaload, 1) := by decide +kernel
theorem dd_M_most_18 : decode cc_M_most 18 = .ok (.iload_n 1, 1) := by decide +kernel
theorem dd_M_most_19 : decode cc_M_most 19 = .ok (.if_icmp .le (12), 3) := by decide +kernel
theorem dd_M_most_22 : decode cc_M_most 22 = .ok (.aload_n 0, 1) := by decide +kernel
theorem dd_M_most_23 : decode cc_M_most 23 = .ok (.getfield 75, 3) := by decide +kernel
theorem dd_M_most_26 : decode cc_M_most 26 = .ok (.iload_n 2, 1) := by decide +kernel
theorem dd_M_most_27 : decode cc_M_most 27 = .ok (.iaload, 1) := by decide +kernel
theorem dd_M_most_28 : decode cc_M_most 28 = .ok (.goto (4), 3) := by decide +kernel
theorem dd_M_most_31 : decode cc_M_most 31 = .ok (.iload_n 1, 1) := by decide +kernel
theorem dd_M_most_32 : decode cc_M_most 32 = .ok (.istore_n 1, 1) := by decide +kernel
theorem dd_M_most_33 : decode cc_M_most 33 = .ok (.iinc 2 (1), 3) := by decide +kernel
theorem dd_M_most_36 : decode cc_M_most 36 = .ok (.goto (-32), 3) := by decide +kernel
theorem dd_M_most_39 : decode cc_M_most 39 = .ok (.iload_n 1, 1) := by decide +kernel
theorem dd_M_most_40 : decode cc_M_most 40 = .ok (.ireturn, 1) := by decide +kernel
theorem dd_M_findNext_0 : decode cc_M_findNext 0 = .ok (.aload_n 0, 1) := by decide +kernel
theorem dd_M_findNext_1 : decode cc_M_findNext 1 = .ok (.iconst (-1), 1) := by decide +kernel
theorem dd_M_findNext_2 : decode cc_M_findNext 2 = .ok (.putfield 81, 3) := by decide +kernel
theorem dd_M_findNext_5 : decode cc_M_findNext 5 = .ok (.iconst 0, 1) := by decide +kernel
theorem dd_M_findNext_6 : decode cc_M_findNext 6 = .ok (.istore_n 2, 1) := by decide +kernel
theorem dd_M_findNext_7 : decode cc_M_findNext 7 = .ok (.iload_n 2, 1) := by decide +kernel
theorem dd_M_findNext_8 : decode cc_M_findNext 8 = .ok (.aload_n 0, 1) := by decide +kernel
theorem dd_M_findNext_9 : decode cc_M_findNext 9 = .ok (.getfield 105, 3) := by decide +kernel
theorem dd_M_findNext_12 : decode cc_M_findNext 12 = .ok (.if_icmp .ge (48), 3) := by decide +kernel
theorem dd_M_findNext_15 : decode cc_M_findNext 15 = .ok (.aload_n 0, 1) := by decide +kernel
theorem dd_M_findNext_16 : decode cc_M_findNext 16 = .ok (.getfield 81, 3) := by decide +kernel
theorem dd_M_findNext_19 : decode cc_M_findNext 19 = .ok (.iconst (-1), 1) := by decide +kernel
theorem dd_M_findNext_20 : decode cc_M_findNext 20 = .ok (.if_icmp .ne (40), 3) := by decide +kernel
theorem dd_M_findNext_23 : decode cc_M_findNext 23 = .ok (.iload_n 1, 1) := by decide +kernel
theorem dd_M_findNext_24 : decode cc_M_findNext 24 = .ok (.iload_n 2, 1) := by decide +kernel
theorem dd_M_findNext_25 : decode cc_M_findNext 25 = .ok (.iadd, 1) := by decide +kernel
theorem dd_M_findNext_26 : decode cc_M_findNext 26 = .ok (.aload_n 0, 1) := by decide +kernel
theorem dd_M_findNext_27 : decode cc_M_findNext 27 = .ok (.getfield 105, 3) := by decide +kernel
theorem dd_M_findNext_30 : decode cc_M_findNext 30 = .ok (.irem, 1) := by decide +kernel
theorem dd_M_findNext_31 : decode cc_M_findNext 31 = .ok (.istore_n 3, 1) := by decide +kernel
theorem dd_M_findNext_32 : decode cc_M_findNext 32 = .ok (.aload_n 0, 1) := by decide +kernel
theorem dd_M_findNext_33 : decode cc_M_findNext 33 = .ok (.iload_n 3, 1) := by decide +kernel
theorem dd_M_findNext_34 : decode cc_M_findNext 34 = .ok (.invokevirtual 180, 3) := by decide +kernel
theorem dd_M_findNext_37 : decode cc_M_findNext 37 = .ok (.ifCond .eq (17), 3) := by decide +kernel
theorem dd_M_findNext_40 : decode cc_M_findNext 40 = .ok (.aload_n 0, 1) := by decide +kernel
theorem dd_M_findNext_41 : decode cc_M_findNext 41 = .ok (.getfield 78, 3) := by decide +kernel
theorem dd_M_findNext_44 : decode cc_M_findNext 44 = .ok (.iload_n 3, 1) := by decide +kernel
theorem dd_M_findNext_45 : decode cc_M_findNext 45 = .ok (.baload, 1) := by decide +kernel
theorem dd_M_findNext_46 : decode cc_M_findNext 46 = .ok (.ifCond .ne (8), 3) := by decide +kernel
theorem dd_M_findNext_49 : decode cc_M_findNext 49 = .ok (.aload_n 0, 1) := by decide +kernel
theorem dd_M_findNext_50 : decode cc_M_findNext 50 = .ok (.iload_n 3, 1) := by decide +kernel
theorem dd_M_findNext_51 : decode cc_M_findNext 51 = .ok (.putfield 81, 3) := by decide +kernel
theorem dd_M_findNext_54 : decode cc_M_findNext 54 = .ok (.iinc 2 (1), 3) := by decide +kernel
theorem dd_M_findNext_57 : decode cc_M_findNext 57 = .ok (.goto (-50), 3) := by decide +kernel
theorem dd_M_findNext_60 : decode cc_M_findNext 60 = .ok (.aload_n 0, 1) := by decide +kernel
theorem dd_M_findNext_61 : decode cc_M_findNext 61 = .ok (.getfield 81, 3) := by decide +kernel
theorem dd_M_findNext_64 : decode cc_M_findNext 64 = .ok (.iconst (-1), 1) := by decide +kernel
theorem dd_M_findNext_65 : decode cc_M_findNext 65 = .ok (.if_icmp .eq (11), 3) := by decide +kernel
theorem dd_M_findNext_68 : decode cc_M_findNext 68 = .ok (.aload_n 0, 1) := by decide +kernel
theorem dd_M_findNext_69 : decode cc_M_findNext 69 = .ok (.invokevirtual 183, 3) := by decide +kernel
theorem dd_M_findNext_72 : decode cc_M_findNext 72 = .ok (.iconst 2, 1) := by decide +kernel
theorem dd_M_findNext_73 : decode cc_M_findNext 73 = .ok (.if_icmp .ge (7), 3) := by decide +kernel
theorem dd_M_findNext_76 : decode cc_M_findNext 76 = .ok (.aload_n 0, 1) := by decide +kernel
theorem dd_M_findNext_77 : decode cc_M_findNext 77 = .ok (.invokevirtual 186, 3) := by decide +kernel
theorem dd_M_findNext_80 : decode cc_M_findNext 80 = .ok (.return_, 1) := by decide +kernel
theorem dd_M_endRound_0 : decode cc_M_endRound 0 = .ok (.aload_n 0, 1) := by decide +kernel
theorem dd_M_endRound_1 : decode cc_M_endRound 1 = .ok (.iconst 0, 1) := by decide +kernel
theorem dd_M_endRound_2 : decode cc_M_endRound 2 = .ok (.putfield 111, 3) := by decide +kernel
theorem dd_M_endRound_5 : decode cc_M_endRound 5 = .ok (.aload_n 0, 1) := by decide +kernel
theorem dd_M_endRound_6 : decode cc_M_endRound 6 = .ok (.iconst (-1), 1) := by decide +kernel
theorem dd_M_endRound_7 : decode cc_M_endRound 7 = .ok (.putfield 81, 3) := by decide +kernel
theorem dd_M_endRound_10 : decode cc_M_endRound 10 = .ok (.iconst 0, 1) := by decide +kernel
theorem dd_M_endRound_11 : decode cc_M_endRound 11 = .ok (.istore_n 1, 1) := by decide +kernel
theorem dd_M_endRound_12 : decode cc_M_endRound 12 = .ok (.iload_n 1, 1) := by decide +kernel
theorem dd_M_endRound_13 : decode cc_M_endRound 13 = .ok (.iconst 4, 1) := by decide +kernel
theorem dd_M_endRound_14 : decode cc_M_endRound 14 = .ok (.if_icmp .ge (16), 3) := by decide +kernel
theorem dd_M_endRound_17 : decode cc_M_endRound 17 = .ok (.aload_n 0, 1) := by decide +kernel
theorem dd_M_endRound_18 : decode cc_M_endRound 18 = .ok (.getfield 75, 3) := by decide +kernel
theorem dd_M_endRound_21 : decode cc_M_endRound 21 = .ok (.iload_n 1, 1) := by decide +kernel
theorem dd_M_endRound_22 : decode cc_M_endRound 22 = .ok (.iconst 0, 1) := by decide +kernel
theorem dd_M_endRound_23 : decode cc_M_endRound 23 = .ok (.iastore, 1) := by decide +kernel
theorem dd_M_endRound_24 : decode cc_M_endRound 24 = .ok (.iinc 1 (1), 3) := by decide +kernel
theorem dd_M_endRound_27 : decode cc_M_endRound 27 = .ok (.goto (-15), 3) := by decide +kernel
theorem dd_M_endRound_30 : decode cc_M_endRound 30 = .ok (.return_, 1) := by decide +kernel
theorem dd_M_round_0 : decode cc_M_round 0 = .ok (.aload_n 0, 1) := by decide +kernel
theorem dd_M_round_1 : decode cc_M_round 1 = .ok (.iconst 0, 1) := by decide +kernel
theorem dd_M_round_2 : decode cc_M_round 2 = .ok (.putfield 85, 3) := by decide +kernel
theorem dd_M_round_5 : decode cc_M_round 5 = .ok (.aload_n 0, 1) := by decide +kernel
theorem dd_M_round_6 : decode cc_M_round 6 = .ok (.getfield 108, 3) := by decide +kernel
theorem dd_M_round_9 : decode cc_M_round 9 = .ok (.iconst 4, 1) := by decide +kernel
theorem dd_M_round_10 : decode cc_M_round 10 = .ok (.if_icmp .ne (10), 3) := by decide +kernel
theorem dd_M_round_13 : decode cc_M_round 13 = .ok (.aload_n 0, 1) := by decide +kernel
theorem dd_M_round_14 : decode cc_M_round 14 = .ok (.getfield 111, 3) := by decide +kernel
theorem dd_M_round_17 : decode cc_M_round 17 = .ok (.ifCond .eq (5), 3) := by decide +kernel
theorem dd_M_round_20 : decode cc_M_round 20 = .ok (.iconst 0, 1) := by decide +kernel
theorem dd_M_round_21 : decode cc_M_round 21 = .ok (.ireturn, 1) := by decide +kernel
theorem dd_M_round_22 : decode cc_M_round 22 = .ok (.iconst 0, 1) := by decide +kernel
theorem dd_M_round_23 : decode cc_M_round 23 = .ok (.istore_n 1, 1) := by decide +kernel
theorem dd_M_round_24 : decode cc_M_round 24 = .ok (.iconst 0, 1) := by decide +kernel
theorem dd_M_round_25 : decode cc_M_round 25 = .ok (.istore_n 2, 1) := by decide +kernel
theorem dd_M_round_26 : decode cc_M_round 26 = .ok (.iload_n 2, 1) := by decide +kernel
theorem dd_M_round_27 : decode cc_M_round 27 = .ok (.aload_n 0, 1) := by decide +kernel
theorem dd_M_round_28 : decode cc_M_round 28 = .ok (.getfield 105, 3) := by decide +kernel
theorem dd_M_round_31 : decode cc_M_round 31 = .ok (.if_icmp .ge (39), 3) := by decide +kernel
theorem dd_M_round_34 : decode cc_M_round 34 = .ok (.aload_n 0, 1) := by decide +kernel
theorem dd_M_round_35 : decode cc_M_round 35 = .ok (.getfield 78, 3) := by decide +kernel
theorem dd_M_round_38 : decode cc_M_round 38 = .ok (.iload_n 2, 1) := by decide +kernel
theorem dd_M_round_39 : decode cc_M_round 39 = .ok (.iconst 0, 1) := by decide +kernel
theorem dd_M_round_40 : decode cc_M_round 40 = .ok (.bastore, 1) := by decide +kernel
theorem dd_M_round_41 : decode cc_M_round 41 = .ok (.aload_n 0, 1) := by decide +kernel
theorem dd_M_round_42 : decode cc_M_round 42 = .ok (.getfield 75, 3) := by decide +kernel
theorem dd_M_round_45 : decode cc_M_round 45 = .ok (.iload_n 2, 1) := by decide +kernel
theorem dd_M_round_46 : decode cc_M_round 46 = .ok (.iconst 0, 1) := by decide +kernel
theorem dd_M_round_47 : decode cc_M_round 47 = .ok (.iastore, 1) := by decide +kernel
theorem dd_M_round_48 : decode cc_M_round 48 = .ok (.iload_n 1, 1) := by decide +kernel
theorem dd_M_round_49 : decode cc_M_round 49 = .ok (.aload_n 0, 1) := by decide +kernel
theorem dd_M_round_50 : decode cc_M_round 50 = .ok (.iload_n 2, 1) := by decide +kernel
theorem dd_M_round_51 : decode cc_M_round 51 = .ok (.invokevirtual 180, 3) := by decide +kernel
theorem dd_M_round_54 : decode cc_M_round 54 = .ok (.ifCond .eq (7), 3) := by decide +kernel
theorem dd_M_round_57 : decode cc_M_round 57 = .ok (.iconst 1, 1) := by decide +kernel
theorem dd_M_round_58 : decode cc_M_round 58 = .ok (.goto (4), 3) := by decide +kernel
theorem dd_M_round_61 : decode cc_M_round 61 = .ok (.iconst 0, 1) := by decide +kernel
theorem dd_M_round_62 : decode cc_M_round 62 = .ok (.iadd, 1) := by decide +kernel
theorem dd_M_round_63 : decode cc_M_round 63 = .ok (.istore_n 1, 1) := by decide +kernel
theorem dd_M_round_64 : decode cc_M_round 64 = .ok (.iinc 2 (1), 3) := by decide +kernel
theorem dd_M_round_67 : decode cc_M_round 67 = .ok (.goto (-41), 3) := by decide +kernel
theorem dd_M_round_70 : decode cc_M_round 70 = .ok (.aload_n 0, 1) := by decide +kernel
theorem dd_M_round_71 : decode cc_M_round 71 = .ok (.iload_n 1, 1) := by decide +kernel
theorem dd_M_round_72 : decode cc_M_round 72 = .ok (.iconst 1, 1) := by decide +kernel
theorem dd_M_round_73 : decode cc_M_round 73 = .ok (.if_icmp .le (7), 3) := by decide +kernel
theorem dd_M_round_76 : decode cc_M_round 76 = .ok (.iconst 1, 1) := by decide +kernel
theorem dd_M_round_77 : decode cc_M_round 77 = .ok (.goto (4), 3) := by decide +kernel
theorem dd_M_round_80 : decode cc_M_round 80 = .ok (.iconst 0, 1) := by decide +kernel
theorem dd_M_round_81 : decode cc_M_round 81 = .ok (.putfield 111, 3) := by decide +kernel
theorem dd_M_round_84 : decode cc_M_round 84 = .ok (.aload_n 0, 1) := by decide +kernel
theorem dd_M_round_85 : decode cc_M_round 85 = .ok (.getfield 111, 3) := by decide +kernel
theorem dd_M_round_88 : decode cc_M_round 88 = .ok (.ifCond .eq (8), 3) := by decide +kernel
theorem dd_M_round_91 : decode cc_M_round 91 = .ok (.aload_n 0, 1) := by decide +kernel
theorem dd_M_round_92 : decode cc_M_round 92 = .ok (.iconst 0, 1) := by decide +kernel
theorem dd_M_round_93 : decode cc_M_round 93 = .ok (.invokevirtual 189, 3) := by decide +kernel
theorem dd_M_round_96 : decode cc_M_round 96 = .ok (.iconst 1, 1) := by decide +kernel
theorem dd_M_round_97 : decode cc_M_round 97 = .ok (.ireturn, 1) := by decide +kernel
theorem dd_M_pay_0 : decode cc_M_pay 0 = .ok (.aload_n 0, 1) := by decide +kernel
theorem dd_M_pay_1 : decode cc_M_pay 1 = .ok (.getfield 7, 3) := by decide +kernel
theorem dd_M_pay_4 : decode cc_M_pay 4 = .ok (.iload_n 1, 1) := by decide +kernel
theorem dd_M_pay_5 : decode cc_M_pay 5 = .ok (.dup2, 1) := by decide +kernel
theorem dd_M_pay_6 : decode cc_M_pay 6 = .ok (.iaload, 1) := by decide +kernel
theorem dd_M_pay_7 : decode cc_M_pay 7 = .ok (.iload_n 2, 1) := by decide +kernel
theorem dd_M_pay_8 : decode cc_M_pay 8 = .ok (.isub, 1) := by decide +kernel
theorem dd_M_pay_9 : decode cc_M_pay 9 = .ok (.iastore, 1) := by decide +kernel
theorem dd_M_pay_10 : decode cc_M_pay 10 = .ok (.aload_n 0, 1) := by decide +kernel
theorem dd_M_pay_11 : decode cc_M_pay 11 = .ok (.getfield 72, 3) := by decide +kernel
theorem dd_M_pay_14 : decode cc_M_pay 14 = .ok (.iload_n 1, 1) := by decide +kernel
theorem dd_M_pay_15 : decode cc_M_pay 15 = .ok (.dup2, 1) := by decide +kernel
theorem dd_M_pay_16 : decode cc_M_pay 16 = .ok (.iaload, 1) := by decide +kernel
theorem dd_M_pay_17 : decode cc_M_pay 17 = .ok (.iload_n 2, 1) := by decide +kernel
theorem dd_M_pay_18 : decode cc_M_pay 18 = .ok (.iadd, 1) := by decide +kernel
theorem dd_M_pay_19 : decode cc_M_pay 19 = .ok (.iastore, 1) := by decide +kernel
theorem dd_M_pay_20 : decode cc_M_pay 20 = .ok (.aload_n 0, 1) := by decide +kernel
theorem dd_M_pay_21 : decode cc_M_pay 21 = .ok (.getfield 75, 3) := by decide +kernel
theorem dd_M_pay_24 : decode cc_M_pay 24 = .ok (.iload_n 1, 1) := by decide +kernel
theorem dd_M_pay_25 : decode cc_M_pay 25 = .ok (.dup2, 1) := by decide +kernel
theorem dd_M_pay_26 : decode cc_M_pay 26 = .ok (.iaload, 1) := by decide +kernel
theorem dd_M_pay_27 : decode cc_M_pay 27 = .ok (.iload_n 2, 1) := by decide +kernel
theorem dd_M_pay_28 : decode cc_M_pay 28 = .ok (.iadd, 1) := by decide +kernel
theorem dd_M_pay_29 : decode cc_M_pay 29 = .ok (.iastore, 1) := by decide +kernel
theorem dd_M_pay_30 : decode cc_M_pay 30 = .ok (.return_, 1) := by decide +kernel
theorem dd_M_bet_0 : decode cc_M_bet 0 = .ok (.aload_n 0, 1) := by decide +kernel
theorem dd_M_bet_1 : decode cc_M_bet 1 = .ok (.iconst 0, 1) := by decide +kernel
theorem dd_M_bet_2 : decode cc_M_bet 2 = .ok (.putfield 85, 3) := by decide +kernel
theorem dd_M_bet_5 : decode cc_M_bet 5 = .ok (.aload_n 0, 1) := by decide +kernel
theorem dd_M_bet_6 : decode cc_M_bet 6 = .ok (.getfield 111, 3) := by decide +kernel
theorem dd_M_bet_9 : decode cc_M_bet 9 = .ok (.ifCond .eq (20), 3) := by decide +kernel
theorem dd_M_bet_12 : decode cc_M_bet 12 = .ok (.iload_n 1, 1) := by decide +kernel
theorem dd_M_bet_13 : decode cc_M_bet 13 = .ok (.aload_n 0, 1) := by decide +kernel
theorem dd_M_bet_14 : decode cc_M_bet 14 = .ok (.getfield 81, 3) := by decide +kernel
theorem dd_M_bet_17 : decode cc_M_bet 17 = .ok (.if_icmp .ne (12), 3) := by decide +kernel
theorem dd_M_bet_20 : decode cc_M_bet 20 = .ok (.iload_n 2, 1) := by decide +kernel
theorem dd_M_bet_21 : decode cc_M_bet 21 = .ok (.ifCond .lt (8), 3) := by decide +kernel
theorem dd_M_bet_24 : decode cc_M_bet 24 = .ok (.iload_n 2, 1) := by decide +kernel
theorem dd_M_bet_25 : decode cc_M_bet 25 = .ok (.iconst 2, 1) := by decide +kernel
theorem dd_M_bet_26 : decode cc_M_bet 26 = .ok (.if_icmp .le (5), 3) := by decide +kernel
theorem dd_M_bet_29 : decode cc_M_bet 29 = .ok (.iconst 0, 1) := by decide +kernel
theorem dd_M_bet_30 : decode cc_M_bet 30 = .ok (.ireturn, 1) := by decide +kernel
theorem dd_M_bet_31 : decode cc_M_bet 31 = .ok (.aload_n 0, 1) := by decide +kernel
theorem dd_M_bet_32 : decode cc_M_bet 32 = .ok (.invokevirtual 193, 3) := by decide +kernel
theorem dd_M_bet_35 : decode cc_M_bet 35 = .ok (.aload_n 0, 1) := by decide +kernel
theorem dd_M_bet_36 : decode cc_M_bet 36 = .ok (.getfield 75, 3) := by decide +kernel
theorem dd_M_bet_39 : decode cc_M_bet 39 = .ok (.iload_n 1, 1) := by decide +kernel
theorem dd_M_bet_40 : decode cc_M_bet 40 = .ok (.iaload, 1) := by decide +kernel
theorem dd_M_bet_41 : decode cc_M_bet 41 = .ok (.isub, 1) := by decide +kernel
theorem dd_M_bet_42 : decode cc_M_bet 42 = .ok (.istore 4, 2) := by decide +kernel
theorem dd_M_bet_44 : decode cc_M_bet 44 = .ok (.iload_n 2, 1) := by decide +kernel
theorem dd_M_bet_45 : decode cc_M_bet 45 = .ok (.iconst 2, 1) := by decide +kernel
theorem dd_M_bet_46 : decode cc_M_bet 46 = .ok (.if_icmp .ne (23), 3) := by decide +kernel
theorem dd_M_bet_49 : decode cc_M_bet 49 = .ok (.iload_n 3, 1) := by decide +kernel
theorem dd_M_bet_50 : decode cc_M_bet 50 = .ok (.iconst 1, 1) := by decide +kernel
theorem dd_M_bet_51 : decode cc_M_bet 51 = .ok (.if_icmp .lt (16), 3) := by decide +kernel
theorem dd_M_bet_54 : decode cc_M_bet 54 = .ok (.iload_n 3, 1) := by decide +kernel
theorem dd_M_bet_55 : decode cc_M_bet 55 = .ok (.aload_n 0, 1) := by decide +kernel
theorem dd_M_bet_56 : decode cc_M_bet 56 = .ok (.getfield 7, 3) := by decide +kernel
theorem dd_M_bet_59 : decode cc_M_bet 59 = .ok (.iload_n 1, 1) := by decide +kernel
theorem dd_M_bet_60 : decode cc_M_bet 60 = .ok (.iaload, 1) := by decide +kernel
theorem dd_M_bet_61 : decode cc_M_bet 61 = .ok (.iload 4, 2) := by decide +kernel
theorem dd_M_bet_63 : decode cc_M_bet 63 = .ok (.isub, 1) := by decide +kernel
theorem dd_M_bet_64 : decode cc_M_bet 64 = .ok (.if_icmp .le (5), 3) := by decide +kernel
theorem dd_M_bet_67 : decode cc_M_bet 67 = .ok (.iconst 0, 1) := by decide +kernel
theorem dd_M_bet_68 : decode cc_M_bet 68 = .ok (.ireturn, 1) := by decide +kernel
theorem dd_M_bet_69 : decode cc_M_bet 69 = .ok (.iload_n 2, 1) := by decide +kernel
theorem dd_M_bet_70 : decode cc_M_bet 70 = .ok (.ifCond .ne (10), 3) := by decide +kernel
theorem dd_M_bet_73 : decode cc_M_bet 73 = .ok (.aload_n 0, 1) := by decide +kernel
theorem dd_M_bet_74 : decode cc_M_bet 74 = .ok (.getfield 69, 3) := by decide +kernel
theorem dd_M_bet_77 : decode cc_M_bet 77 = .ok (.iload_n 1, 1) := by decide +kernel
theorem dd_M_bet_78 : decode cc_M_bet 78 = .ok (.iconst 0, 1) := by decide +kernel
theorem dd_M_bet_79 : decode cc_M_bet 79 = .ok (.bastore, 1) := by decide +kernel
theorem dd_M_bet_80 : decode cc_M_bet 80 = .ok (.iload_n 2, 1) := by decide +kernel
theorem dd_M_bet_81 : decode cc_M_bet 81 = .ok (.iconst 1, 1) := by decide +kernel
theorem dd_M_bet_82 : decode cc_M_bet 82 = .ok (.if_icmp .ne (30), 3) := by decide +kernel
theorem dd_M_bet_85 : decode cc_M_bet 85 = .ok (.aload_n 0, 1) := by decide +kernel
theorem dd_M_bet_86 : decode cc_M_bet 86 = .ok (.iload_n 1, 1) := by decide +kernel
theorem dd_M_bet_87 : decode cc_M_bet 87 = .ok (.iload 4, 2) := by decide +kernel
theorem dd_M_bet_89 : decode cc_M_bet 89 = .ok (.aload_n 0, 1) := by decide +kernel
theorem dd_M_bet_90 : decode cc_M_bet 90 = .ok (.getfield 7, 3) := by decide +kernel
theorem dd_M_bet_93 : decode cc_M_bet 93 = .ok (.iload_n 1, 1) := by decide +kernel
theorem dd_M_bet_94 : decode cc_M_bet 94 = .ok (.iaload, 1) := by decide +kernel
theorem dd_M_bet_95 : decode cc_M_bet 95 = .ok (.if_icmp .ge (8), 3) := by decide +kernel
theorem dd_M_bet_98 : decode cc_M_bet 98 = .ok (.iload 4, 2) := by decide +kernel
theorem dd_M_bet_100 : decode cc_M_bet 100 = .ok (.goto (9), 3) := by decide +kernel
theorem dd_M_bet_103 : decode cc_M_bet 103 = .ok (.aload_n 0, 1) := by decide +kernel
theorem dd_M_bet_104 : decode cc_M_bet 104 = .ok (.getfield 7, 3) := by decide +kernel
theorem dd_M_bet_107 : decode cc_M_bet 107 = .ok (.iload_n 1, 1) := by decide +kernel
theorem dd_M_bet_108 : decode cc_M_bet 108 = .ok (.iaload, 1) := by decide +kernel
theorem dd_M_bet_109 : decode cc_M_bet 109 = .ok (.invokevirtual 196, 3) := by decide +kernel
theorem dd_M_bet_112 : decode cc_M_bet 112 = .ok (.iload_n 2, 1) := by decide +kernel
theorem dd_M_bet_113 : decode cc_M_bet 113 = .ok (.iconst 2, 1) := by decide +kernel
theorem dd_M_bet_114 : decode cc_M_bet 114 = .ok (.if_icmp .ne (38), 3) := by decide +kernel
theorem dd_M_bet_117 : decode cc_M_bet 117 = .ok (.aload_n 0, 1) := by decide +kernel
theorem dd_M_bet_118 : decode cc_M_bet 118 = .ok (.iload_n 1, 1) := by decide +kernel
theorem dd_M_bet_119 : decode cc_M_bet 119 = .ok (.iload 4, 2) := by decide +kernel
theorem dd_M_bet_121 : decode cc_M_bet 121 = .ok (.iload_n 3, 1) := by decide +kernel
theorem dd_M_bet_122 : decode cc_M_bet 122 = .ok (.iadd, 1) := by decide +kernel
theorem dd_M_bet_123 : decode cc_M_bet 123 = .ok (.invokevirtual 196, 3) := by decide +kernel
theorem dd_M_bet_126 : decode cc_M_bet 126 = .ok (.iconst 0, 1) := by decide +kernel
theorem dd_M_bet_127 : decode cc_M_bet 127 = .ok (.istore 5, 2) := by decide +kernel
theorem dd_M_bet_129 : decode cc_M_bet 129 = .ok (.iload 5, 2) := by decide +kernel
theorem dd_M_bet_131 : decode cc_M_bet 131 = .ok (.aload_n 0, 1) := by decide +kernel
theorem dd_M_bet_132 : decode cc_M_bet 132 = .ok (.getfield 105, 3) := by decide +kernel
theorem dd_M_bet_135 : decode cc_M_bet 135 = .ok (.if_icmp .ge (17), 3) := by decide +kernel
theorem dd_M_bet_138 : decode cc_M_bet 138 = .ok (.aload_n 0, 1) := by decide +kernel
theorem dd_M_bet_139 : decode cc_M_bet 139 = .ok (.getfield 78, 3) := by decide +kernel
theorem dd_M_bet_142 : decode cc_M_bet 142 = .ok (.iload 5, 2) := by decide +kernel
theorem dd_M_bet_144 : decode cc_M_bet 144 = .ok (.iconst 0, 1) := by decide +kernel
theorem dd_M_bet_145 : decode cc_M_bet 145 = .ok (.bastore, 1) := by decide +kernel
theorem dd_M_bet_146 : decode cc_M_bet 146 = .ok (.iinc 5 (1), 3) := by decide +kernel
theorem dd_M_bet_149 : decode cc_M_bet 149 = .ok (.goto (-20), 3) := by decide +kernel
theorem dd_M_bet_152 : decode cc_M_bet 152 = .ok (.aload_n 0, 1) := by decide +kernel
theorem dd_M_bet_153 : decode cc_M_bet 153 = .ok (.getfield 78, 3) := by decide +kernel
theorem dd_M_bet_156 : decode cc_M_bet 156 = .ok (.iload_n 1, 1) := by decide +kernel
theorem dd_M_bet_157 : decode cc_M_bet 157 = .ok (.iconst 1, 1) := by decide +kernel
theorem dd_M_bet_158 : decode cc_M_bet 158 = .ok (.bastore, 1) := by decide +kernel
theorem dd_M_bet_159 : decode cc_M_bet 159 = .ok (.aload_n 0, 1) := by decide +kernel
theorem dd_M_bet_160 : decode cc_M_bet 160 = .ok (.iload_n 1, 1) := by decide +kernel
theorem dd_M_bet_161 : decode cc_M_bet 161 = .ok (.iconst 1, 1) := by decide +kernel
theorem dd_M_bet_162 : decode cc_M_bet 162 = .ok (.iadd, 1) := by decide +kernel
theorem dd_M_bet_163 : decode cc_M_bet 163 = .ok (.invokevirtual 189, 3) := by decide +kernel
theorem dd_M_bet_166 : decode cc_M_bet 166 = .ok (.iconst 1, 1) := by decide +kernel
theorem dd_M_bet_167 : decode cc_M_bet 167 = .ok (.ireturn, 1) := by decide +kernel
theorem dd_M_payLayer_0 : decode cc_M_payLayer 0 = .ok (.iconst 0, 1) := by decide +kernel
theorem dd_M_payLayer_1 : decode cc_M_payLayer 1 = .ok (.istore_n 2, 1) := by decide +kernel
theorem dd_M_payLayer_2 : decode cc_M_payLayer 2 = .ok (.iconst 0, 1) := by decide +kernel
theorem dd_M_payLayer_3 : decode cc_M_payLayer 3 = .ok (.istore_n 3, 1) := by decide +kernel
theorem dd_M_payLayer_4 : decode cc_M_payLayer 4 = .ok (.iload_n 3, 1) := by decide +kernel
theorem dd_M_payLayer_5 : decode cc_M_payLayer 5 = .ok (.aload_n 0, 1) := by decide +kernel
theorem dd_M_payLayer_6 : decode cc_M_payLayer 6 = .ok (.getfield 105, 3) := by decide +kernel
theorem dd_M_payLayer_9 : decode cc_M_payLayer 9 = .ok (.if_icmp .ge (43), 3) := by decide +kernel
theorem dd_M_payLayer_12 : decode cc_M_payLayer 12 = .ok (.aload_n 0, 1) := by decide +kernel
theorem dd_M_payLayer_13 : decode cc_M_payLayer 13 = .ok (.getfield 72, 3) := by decide +kernel
theorem dd_M_payLayer_16 : decode cc_M_payLayer 16 = .ok (.iload_n 3, 1) := by decide +kernel
theorem dd_M_payLayer_17 : decode cc_M_payLayer 17 = .ok (.iaload, 1) := by decide +kernel
theorem dd_M_payLayer_18 : decode cc_M_payLayer 18 = .ok (.ifCond .le (26), 3) := by decide +kernel
theorem dd_M_payLayer_21 : decode cc_M_payLayer 21 = .ok (.iload_n 2, 1) := by decide +kernel
theorem dd_M_payLayer_22 : decode cc_M_payLayer 22 = .ok (.ifCond .eq (13), 3) := by decide +kernel
theorem dd_M_payLayer_25 : decode cc_M_payLayer 25 = .ok (.aload_n 0, 1) := by decide +kernel
theorem dd_M_payLayer_26 : decode cc_M_payLayer 26 = .ok (.getfield 72, 3) := by decide +kernel
theorem dd_M_payLayer_29 : decode cc_M_payLayer 29 = .ok (.iload_n 3, 1) := by decide +kernel
theorem dd_M_payLayer_30 : decode cc_M_payLayer 30 = .ok (.iaload, 1) := by decide +kernel
theorem dd_M_payLayer_31 : decode cc_M_payLayer 31 = .ok (.iload_n 2, 1) := by decide +kernel
theorem dd_M_payLayer_32 : decode cc_M_payLayer 32 = .ok (.if_icmp .ge (12), 3) := by decide +kernel
theorem dd_M_payLayer_35 : decode cc_M_payLayer 35 = .ok (.aload_n 0, 1) := by decide +kernel
theorem dd_M_payLayer_36 : decode cc_M_payLayer 36 = .ok (.getfield 72, 3) := by decide +kernel
theorem dd_M_payLayer_39 : decode cc_M_payLayer 39 = .ok (.iload_n 3, 1) := by decide +kernel
theorem dd_M_payLayer_40 : decode cc_M_payLayer 40 = .ok (.iaload, 1) := by decide +kernel
theorem dd_M_payLayer_41 : decode cc_M_payLayer 41 = .ok (.goto (4), 3) := by decide +kernel
theorem dd_M_payLayer_44 : decode cc_M_payLayer 44 = .ok (.iload_n 2, 1) := by decide +kernel
theorem dd_M_payLayer_45 : decode cc_M_payLayer 45 = .ok (.istore_n 2, 1) := by decide +kernel
theorem dd_M_payLayer_46 : decode cc_M_payLayer 46 = .ok (.iinc 3 (1), 3) := by decide +kernel
theorem dd_M_payLayer_49 : decode cc_M_payLayer 49 = .ok (.goto (-45), 3) := by decide +kernel
theorem dd_M_payLayer_52 : decode cc_M_payLayer 52 = .ok (.iload_n 2, 1) := by decide +kernel
theorem dd_M_payLayer_53 : decode cc_M_payLayer 53 = .ok (.ifCond .ne (5), 3) := by decide +kernel
theorem dd_M_payLayer_56 : decode cc_M_payLayer 56 = .ok (.iconst 0, 1) := by decide +kernel
theorem dd_M_payLayer_57 : decode cc_M_payLayer 57 = .ok (.ireturn, 1) := by decide +kernel
theorem dd_M_payLayer_58 : decode cc_M_payLayer 58 = .ok (.iconst 0, 1) := by decide +kernel
theorem dd_M_payLayer_59 : decode cc_M_payLayer 59 = .ok (.istore_n 3, 1) := by decide +kernel
theorem dd_M_payLayer_60 : decode cc_M_payLayer 60 = .ok (.iconst (-1), 1) := by decide +kernel
theorem dd_M_payLayer_61 : decode cc_M_payLayer 61 = .ok (.istore 4, 2) := by decide +kernel
theorem dd_M_payLayer_63 : decode cc_M_payLayer 63 = .ok (.iconst 0, 1) := by decide +kernel
theorem dd_M_payLayer_64 : decode cc_M_payLayer 64 = .ok (.istore 5, 2) := by decide +kernel
theorem dd_M_payLayer_66 : decode cc_M_payLayer 66 = .ok (.iload 5, 2) := by decide +kernel
theorem dd_M_payLayer_68 : decode cc_M_payLayer 68 = .ok (.aload_n 0, 1) := by decide +kernel
theorem dd_M_payLayer_69 : decode cc_M_payLayer 69 = .ok (.getfield 105, 3) := by decide +kernel
theorem dd_M_payLayer_72 : decode cc_M_payLayer 72 = .ok (.if_icmp .ge (63), 3) := by decide +kernel
theorem dd_M_payLayer_75 : decode cc_M_payLayer 75 = .ok (.aload_n 0, 1) := by decide +kernel
theorem dd_M_payLayer_76 : decode cc_M_payLayer 76 = .ok (.getfield 72, 3) := by decide +kernel
theorem dd_M_payLayer_79 : decode cc_M_payLayer 79 = .ok (.iload 5, 2) := by decide +kernel
theorem dd_M_payLayer_81 : decode cc_M_payLayer 81 = .ok (.iaload, 1) := by decide +kernel
theorem dd_M_payLayer_82 : decode cc_M_payLayer 82 = .ok (.ifCond .ne (6), 3) := by decide +kernel
theorem dd_M_payLayer_85 : decode cc_M_payLayer 85 = .ok (.goto (44), 3) := by decide +kernel
theorem dd_M_payLayer_88 : decode cc_M_payLayer 88 = .ok (.iload_n 3, 1) := by decide +kernel
theorem dd_M_payLayer_89 : decode cc_M_payLayer 89 = .ok (.iload_n 2, 1) := by decide +kernel
theorem dd_M_payLayer_90 : decode cc_M_payLayer 90 = .ok (.iadd, 1) := by decide +kernel
theorem dd_M_payLayer_91 : decode cc_M_payLayer 91 = .ok (.istore_n 3, 1) := by decide +kernel
theorem dd_M_payLayer_92 : decode cc_M_payLayer 92 = .ok (.iload_n 1, 1) := by decide +kernel
theorem dd_M_payLayer_93 : decode cc_M_payLayer 93 = .ok (.iconst 4, 1) := by decide +kernel
theorem dd_M_payLayer_94 : decode cc_M_payLayer 94 = .ok (.iload 5, 2) := by decide +kernel
theorem dd_M_payLayer_96 : decode cc_M_payLayer 96 = .ok (.imul, 1) := by decide +kernel
theorem dd_M_payLayer_97 : decode cc_M_payLayer 97 = .ok (.ishr, 1) := by decide +kernel
theorem dd_M_payLayer_98 : decode cc_M_payLayer 98 = .ok (.bipush (15), 2) := by decide +kernel
theorem dd_M_payLayer_100 : decode cc_M_payLayer 100 = .ok (.iand, 1) := by decide +kernel
theorem dd_M_payLayer_101 : decode cc_M_payLayer 101 = .ok (.istore 6, 2) := by decide +kernel
theorem dd_M_payLayer_103 : decode cc_M_payLayer 103 = .ok (.aload_n 0, 1) := by decide +kernel
theorem dd_M_payLayer_104 : decode cc_M_payLayer 104 = .ok (.getfield 69, 3) := by decide +kernel
theorem dd_M_payLayer_107 : decode cc_M_payLayer 107 = .ok (.iload 5, 2) := by decide +kernel
theorem dd_M_payLayer_109 : decode cc_M_payLayer 109 = .ok (.baload, 1) := by decide +kernel
theorem dd_M_payLayer_110 : decode cc_M_payLayer 110 = .ok (.ifCond .eq (15), 3) := by decide +kernel
theorem dd_M_payLayer_113 : decode cc_M_payLayer 113 = .ok (.iload 6, 2) := by decide +kernel
theorem dd_M_payLayer_115 : decode cc_M_payLayer 115 = .ok (.iload 4, 2) := by decide +kernel
theorem dd_M_payLayer_117 : decode cc_M_payLayer 117 = .ok (.if_icmp .le (8), 3) := by decide +kernel
theorem dd_M_payLayer_120 : decode cc_M_payLayer 120 = .ok (.iload 6, 2) := by decide +kernel
theorem dd_M_payLayer_122 : decode cc_M_payLayer 122 = .ok (.goto (5), 3) := by decide +kernel
theorem dd_M_payLayer_125 : decode cc_M_payLayer 125 = .ok (.iload 4, 2) := by decide +kernel
theorem dd_M_payLayer_127 : decode cc_M_payLayer 127 = .ok (.istore 4, 2) := by decide +kernel
theorem dd_M_payLayer_129 : decode cc_M_payLayer 129 = .ok (.iinc 5 (1), 3) := by decide +kernel
theorem dd_M_payLayer_132 : decode cc_M_payLayer 132 = .ok (.goto (-66), 3) := by decide +kernel
theorem dd_M_payLayer_135 : decode cc_M_payLayer 135 = .ok (.iconst 0, 1) := by decide +kernel
theorem dd_M_payLayer_136 : decode cc_M_payLayer 136 = .ok (.istore 5, 2) := by decide +kernel
theorem dd_M_payLayer_138 : decode cc_M_payLayer 138 = .ok (.iconst 0, 1) := by decide +kernel
theorem dd_M_payLayer_139 : decode cc_M_payLayer 139 = .ok (.istore 6, 2) := by decide +kernel
theorem dd_M_payLayer_141 : decode cc_M_payLayer 141 = .ok (.iload 6, 2) := by decide +kernel
theorem dd_M_payLayer_143 : decode cc_M_payLayer 143 = .ok (.aload_n 0, 1) := by decide +kernel
theorem dd_M_payLayer_144 : decode cc_M_payLayer 144 = .ok (.getfield 105, 3) := by decide +kernel
theorem dd_M_payLayer_147 : decode cc_M_payLayer 147 = .ok (.if_icmp .ge (53), 3) := by decide +kernel
theorem dd_M_payLayer_150 : decode cc_M_payLayer 150 = .ok (.iload 5, 2) := by decide +kernel
theorem dd_M_payLayer_152 : decode cc_M_payLayer 152 = .ok (.aload_n 0, 1) := by decide +kernel
theorem dd_M_payLayer_153 : decode cc_M_payLayer 153 = .ok (.getfield 72, 3) := by decide +kernel
theorem dd_M_payLayer_156 : decode cc_M_payLayer 156 = .ok (.iload 6, 2) := by decide +kernel
theorem dd_M_payLayer_158 : decode cc_M_payLayer 158 = .ok (.iaload, 1) := by decide +kernel
theorem dd_M_payLayer_159 : decode cc_M_payLayer 159 = .ok (.ifCond .le (31), 3) := by decide +kernel
theorem dd_M_payLayer_162 : decode cc_M_payLayer 162 = .ok (.aload_n 0, 1) := by decide +kernel
theorem dd_M_payLayer_163 : decode cc_M_payLayer 163 = .ok (.getfield 69, 3) := by decide +kernel
theorem dd_M_payLayer_166 : decode cc_M_payLayer 166 = .ok (.iload 6, 2) := by decide +kernel
theorem dd_M_payLayer_168 : decode cc_M_payLayer 168 = .ok (.baload, 1) := by decide +kernel
theorem dd_M_payLayer_169 : decode cc_M_payLayer 169 = .ok (.ifCond .eq (21), 3) := by decide +kernel
theorem dd_M_payLayer_172 : decode cc_M_payLayer 172 = .ok (.iload_n 1, 1) := by decide +kernel
theorem dd_M_payLayer_173 : decode cc_M_payLayer 173 = .ok (.iconst 4, 1) := by decide +kernel
theorem dd_M_payLayer_174 : decode cc_M_payLayer 174 = .ok (.iload 6, 2) := by decide +kernel
theorem dd_M_payLayer_176 : decode cc_M_payLayer 176 = .ok (.imul, 1) := by decide +kernel
theorem dd_M_payLayer_177 : decode cc_M_payLayer 177 = .ok (.ishr, 1) := by decide +kernel
theorem dd_M_payLayer_178 : decode cc_M_payLayer 178 = .ok (.bipush (15), 2) := by decide +kernel
theorem dd_M_payLayer_180 : decode cc_M_payLayer 180 = .ok (.iand, 1) := by decide +kernel
theorem dd_M_payLayer_181 : decode cc_M_payLayer 181 = .ok (.iload 4, 2) := by decide +kernel
theorem dd_M_payLayer_183 : decode cc_M_payLayer 183 = .ok (.if_icmp .ne (7), 3) := by decide +kernel
theorem dd_M_payLayer_186 : decode cc_M_payLayer 186 = .ok (.iconst 1, 1) := by decide +kernel
theorem dd_M_payLayer_187 : decode cc_M_payLayer 187 = .ok (.goto (4), 3) := by decide +kernel
theorem dd_M_payLayer_190 : decode cc_M_payLayer 190 = .ok (.iconst 0, 1) := by decide +kernel
theorem dd_M_payLayer_191 : decode cc_M_payLayer 191 = .ok (.iadd, 1) := by decide +kernel
theorem dd_M_payLayer_192 : decode cc_M_payLayer 192 = .ok (.istore 5, 2) := by decide +kernel
theorem dd_M_payLayer_194 : decode cc_M_payLayer 194 = .ok (.iinc 6 (1), 3) := by decide +kernel
theorem dd_M_payLayer_197 : decode cc_M_payLayer 197 = .ok (.goto (-56), 3) := by decide +kernel
theorem dd_M_payLayer_200 : decode cc_M_payLayer 200 = .ok (.iconst 1, 1) := by decide +kernel
theorem dd_M_payLayer_201 : decode cc_M_payLayer 201 = .ok (.istore 6, 2) := by decide +kernel
theorem dd_M_payLayer_203 : decode cc_M_payLayer 203 = .ok (.iconst 0, 1) := by decide +kernel
theorem dd_M_payLayer_204 : decode cc_M_payLayer 204 = .ok (.istore 7, 2) := by decide +kernel
theorem dd_M_payLayer_206 : decode cc_M_payLayer 206 = .ok (.iload 7, 2) := by decide +kernel
theorem dd_M_payLayer_208 : decode cc_M_payLayer 208 = .ok (.aload_n 0, 1) := by decide +kernel
theorem dd_M_payLayer_209 : decode cc_M_payLayer 209 = .ok (.getfield 105, 3) := by decide +kernel
theorem dd_M_payLayer_212 : decode cc_M_payLayer 212 = .ok (.if_icmp .ge (96), 3) := by decide +kernel
theorem dd_M_payLayer_215 : decode cc_M_payLayer 215 = .ok (.aload_n 0, 1) := by decide +kernel
theorem dd_M_payLayer_216 : decode cc_M_payLayer 216 = .ok (.getfield 72, 3) := by decide +kernel
theorem dd_M_payLayer_219 : decode cc_M_payLayer 219 = .ok (.iload 7, 2) := by decide +kernel
theorem dd_M_payLayer_221 : decode cc_M_payLayer 221 = .ok (.iaload, 1) := by decide +kernel
theorem dd_M_payLayer_222 : decode cc_M_payLayer 222 = .ok (.ifCond .ne (6), 3) := by decide +kernel
theorem dd_M_payLayer_225 : decode cc_M_payLayer 225 = .ok (.goto (77), 3) := by decide +kernel
theorem dd_M_payLayer_228 : decode cc_M_payLayer 228 = .ok (.iload 5, 2) := by decide +kernel
theorem dd_M_payLayer_230 : decode cc_M_payLayer 230 = .ok (.ifCond .ne (17), 3) := by decide +kernel
theorem dd_M_payLayer_233 : decode cc_M_payLayer 233 = .ok (.aload_n 0, 1) := by decide +kernel
theorem dd_M_payLayer_234 : decode cc_M_payLayer 234 = .ok (.getfield 7, 3) := by decide +kernel
theorem dd_M_payLayer_237 : decode cc_M_payLayer 237 = .ok (.iload 7, 2) := by decide +kernel
theorem dd_M_payLayer_239 : decode cc_M_payLayer 239 = .ok (.dup2, 1) := by decide +kernel
theorem dd_M_payLayer_240 : decode cc_M_payLayer 240 = .ok (.iaload, 1) := by decide +kernel
theorem dd_M_payLayer_241 : decode cc_M_payLayer 241 = .ok (.iload_n 2, 1) := by decide +kernel
theorem dd_M_payLayer_242 : decode cc_M_payLayer 242 = .ok (.iadd, 1) := by decide +kernel
theorem dd_M_payLayer_243 : decode cc_M_payLayer 243 = .ok (.iastore, 1) := by decide +kernel
theorem dd_M_payLayer_244 : decode cc_M_payLayer 244 = .ok (.goto (58), 3) := by decide +kernel
theorem dd_M_payLayer_247 : decode cc_M_payLayer 247 = .ok (.aload_n 0, 1) := by decide +kernel
theorem dd_M_payLayer_248 : decode cc_M_payLayer 248 = .ok (.getfield 69, 3) := by decide +kernel
theorem dd_M_payLayer_251 : decode cc_M_payLayer 251 = .ok (.iload 7, 2) := by decide +kernel
theorem dd_M_payLayer_253 : decode cc_M_payLayer 253 = .ok (.baload, 1) := by decide +kernel
theorem dd_M_payLayer_254 : decode cc_M_payLayer 254 = .ok (.ifCond .eq (48), 3) := by decide +kernel
theorem dd_M_payLayer_257 : decode cc_M_payLayer 257 = .ok (.iload_n 1, 1) := by decide +kernel
theorem dd_M_payLayer_258 : decode cc_M_payLayer 258 = .ok (.iconst 4, 1) := by decide +kernel
theorem dd_M_payLayer_259 : decode cc_M_payLayer 259 = .ok (.iload 7, 2) := by decide +kernel
theorem dd_M_payLayer_261 : decode cc_M_payLayer 261 = .ok (.imul, 1) := by decide +kernel
theorem dd_M_payLayer_262 : decode cc_M_payLayer 262 = .ok (.ishr, 1) := by decide +kernel
theorem dd_M_payLayer_263 : decode cc_M_payLayer 263 = .ok (.bipush (15), 2) := by decide +kernel
theorem dd_M_payLayer_265 : decode cc_M_payLayer 265 = .ok (.iand, 1) := by decide +kernel
theorem dd_M_payLayer_266 : decode cc_M_payLayer 266 = .ok (.iload 4, 2) := by decide +kernel
theorem dd_M_payLayer_268 : decode cc_M_payLayer 268 = .ok (.if_icmp .ne (34), 3) := by decide +kernel
theorem dd_M_payLayer_271 : decode cc_M_payLayer 271 = .ok (.aload_n 0, 1) := by decide +kernel
theorem dd_M_payLayer_272 : decode cc_M_payLayer 272 = .ok (.getfield 7, 3) := by decide +kernel
theorem dd_M_payLayer_275 : decode cc_M_payLayer 275 = .ok (.iload 7, 2) := by decide +kernel
theorem dd_M_payLayer_277 : decode cc_M_payLayer 277 = .ok (.dup2, 1) := by decide +kernel
theorem dd_M_payLayer_278 : decode cc_M_payLayer 278 = .ok (.iaload, 1) := by decide +kernel
theorem dd_M_payLayer_279 : decode cc_M_payLayer 279 = .ok (.iload_n 3, 1) := by decide +kernel
theorem dd_M_payLayer_280 : decode cc_M_payLayer 280 = .ok (.iload 5, 2) := by decide +kernel
theorem dd_M_payLayer_282 : decode cc_M_payLayer 282 = .ok (.idiv, 1) := by decide +kernel
theorem dd_M_payLayer_283 : decode cc_M_payLayer 283 = .ok (.iload 6, 2) := by decide +kernel
theorem dd_M_payLayer_285 : decode cc_M_payLayer 285 = .ok (.ifCond .eq (10), 3) := by decide +kernel
theorem dd_M_payLayer_288 : decode cc_M_payLayer 288 = .ok (.iload_n 3, 1) := by decide +kernel
theorem dd_M_payLayer_289 : decode cc_M_payLayer 289 = .ok (.iload 5, 2) := by decide +kernel
theorem dd_M_payLayer_291 : decode cc_M_payLayer 291 = .ok (.irem, 1) := by decide +kernel
theorem dd_M_payLayer_292 : decode cc_M_payLayer 292 = .ok (.goto (4), 3) := by decide +kernel
theorem dd_M_payLayer_295 : decode cc_M_payLayer 295 = .ok (.iconst 0, 1) := by decide +kernel
theorem dd_M_payLayer_296 : decode cc_M_payLayer 296 = .ok (.iadd, 1) := by decide +kernel
theorem dd_M_payLayer_297 : decode cc_M_payLayer 297 = .ok (.iadd, 1) := by decide +kernel
theorem dd_M_payLayer_298 : decode cc_M_payLayer 298 = .ok (.iastore, 1) := by decide +kernel
theorem dd_M_payLayer_299 : decode cc_M_payLayer 299 = .ok (.iconst 0, 1) := by decide +kernel
theorem dd_M_payLayer_300 : decode cc_M_payLayer 300 = .ok (.istore 6, 2) := by decide +kernel
theorem dd_M_payLayer_302 : decode cc_M_payLayer 302 = .ok (.iinc 7 (1), 3) := by decide +kernel
theorem dd_M_payLayer_305 : decode cc_M_payLayer 305 = .ok (.goto (-99), 3) := by decide +kernel
theorem dd_M_payLayer_308 : decode cc_M_payLayer 308 = .ok (.iconst 0, 1) := by decide +kernel
theorem dd_M_payLayer_309 : decode cc_M_payLayer 309 = .ok (.istore 7, 2) := by decide +kernel
theorem dd_M_payLayer_311 : decode cc_M_payLayer 311 = .ok (.iload 7, 2) := by decide +kernel
theorem dd_M_payLayer_313 : decode cc_M_payLayer 313 = .ok (.aload_n 0, 1) := by decide +kernel
theorem dd_M_payLayer_314 : decode cc_M_payLayer 314 = .ok (.getfield 105, 3) := by decide +kernel
theorem dd_M_payLayer_317 : decode cc_M_payLayer 317 = .ok (.if_icmp .ge (34), 3) := by decide +kernel
theorem dd_M_payLayer_320 : decode cc_M_payLayer 320 = .ok (.aload_n 0, 1) := by decide +kernel
theorem dd_M_payLayer_321 : decode cc_M_payLayer 321 = .ok (.getfield 72, 3) := by decide +kernel
theorem dd_M_payLayer_324 : decode cc_M_payLayer 324 = .ok (.iload 7, 2) := by decide +kernel
theorem dd_M_payLayer_326 : decode cc_M_payLayer 326 = .ok (.dup2, 1) := by decide +kernel
theorem dd_M_payLayer_327 : decode cc_M_payLayer 327 = .ok (.iaload, 1) := by decide +kernel
theorem dd_M_payLayer_328 : decode cc_M_payLayer 328 = .ok (.aload_n 0, 1) := by decide +kernel
theorem dd_M_payLayer_329 : decode cc_M_payLayer 329 = .ok (.getfield 72, 3) := by decide +kernel
theorem dd_M_payLayer_332 : decode cc_M_payLayer 332 = .ok (.iload 7, 2) := by decide +kernel
theorem dd_M_payLayer_334 : decode cc_M_payLayer 334 = .ok (.iaload, 1) := by decide +kernel
theorem dd_M_payLayer_335 : decode cc_M_payLayer 335 = .ok (.ifCond .le (7), 3) := by decide +kernel
theorem dd_M_payLayer_338 : decode cc_M_payLayer 338 = .ok (.iload_n 2, 1) := by decide +kernel
theorem dd_M_payLayer_339 : decode cc_M_payLayer 339 = .ok (.goto (4), 3) := by decide +kernel
theorem dd_M_payLayer_342 : decode cc_M_payLayer 342 = .ok (.iconst 0, 1) := by decide +kernel
theorem dd_M_payLayer_343 : decode cc_M_payLayer 343 = .ok (.isub, 1) := by decide +kernel
theorem dd_M_payLayer_344 : decode cc_M_payLayer 344 = .ok (.iastore, 1) := by decide +kernel
theorem dd_M_payLayer_345 : decode cc_M_payLayer 345 = .ok (.iinc 7 (1), 3) := by decide +kernel
theorem dd_M_payLayer_348 : decode cc_M_payLayer 348 = .ok (.goto (-37), 3) := by decide +kernel
theorem dd_M_payLayer_351 : decode cc_M_payLayer 351 = .ok (.iconst 1, 1) := by decide +kernel
theorem dd_M_payLayer_352 : decode cc_M_payLayer 352 = .ok (.ireturn, 1) := by decide +kernel
theorem dd_M_settle_0 : decode cc_M_settle 0 = .ok (.aload_n 0, 1) := by decide +kernel
theorem dd_M_settle_1 : decode cc_M_settle 1 = .ok (.iconst 0, 1) := by decide +kernel
theorem dd_M_settle_2 : decode cc_M_settle 2 = .ok (.putfield 85, 3) := by decide +kernel
theorem dd_M_settle_5 : decode cc_M_settle 5 = .ok (.aload_n 0, 1) := by decide +kernel
theorem dd_M_settle_6 : decode cc_M_settle 6 = .ok (.getfield 108, 3) := by decide +kernel
theorem dd_M_settle_9 : decode cc_M_settle 9 = .ok (.iconst 4, 1) := by decide +kernel
theorem dd_M_settle_10 : decode cc_M_settle 10 = .ok (.if_icmp .ne (10), 3) := by decide +kernel
theorem dd_M_settle_13 : decode cc_M_settle 13 = .ok (.aload_n 0, 1) := by decide +kernel
theorem dd_M_settle_14 : decode cc_M_settle 14 = .ok (.getfield 111, 3) := by decide +kernel
theorem dd_M_settle_17 : decode cc_M_settle 17 = .ok (.ifCond .eq (5), 3) := by decide +kernel
theorem dd_M_settle_20 : decode cc_M_settle 20 = .ok (.iconst 0, 1) := by decide +kernel
theorem dd_M_settle_21 : decode cc_M_settle 21 = .ok (.ireturn, 1) := by decide +kernel
theorem dd_M_settle_22 : decode cc_M_settle 22 = .ok (.iconst 1, 1) := by decide +kernel
theorem dd_M_settle_23 : decode cc_M_settle 23 = .ok (.istore_n 2, 1) := by decide +kernel
theorem dd_M_settle_24 : decode cc_M_settle 24 = .ok (.iload_n 2, 1) := by decide +kernel
theorem dd_M_settle_25 : decode cc_M_settle 25 = .ok (.ifCond .eq (12), 3) := by decide +kernel
theorem dd_M_settle_28 : decode cc_M_settle 28 = .ok (.aload_n 0, 1) := by decide +kernel
theorem dd_M_settle_29 : decode cc_M_settle 29 = .ok (.iload_n 1, 1) := by decide +kernel
theorem dd_M_settle_30 : decode cc_M_settle 30 = .ok (.invokevirtual 200, 3) := by decide +kernel
theorem dd_M_settle_33 : decode cc_M_settle 33 = .ok (.istore_n 2, 1) := by decide +kernel
theorem dd_M_settle_34 : decode cc_M_settle 34 = .ok (.goto (-10), 3) := by decide +kernel
theorem dd_M_settle_37 : decode cc_M_settle 37 = .ok (.aload_n 0, 1) := by decide +kernel
theorem dd_M_settle_38 : decode cc_M_settle 38 = .ok (.iconst 5, 1) := by decide +kernel
theorem dd_M_settle_39 : decode cc_M_settle 39 = .ok (.putfield 108, 3) := by decide +kernel
theorem dd_M_settle_42 : decode cc_M_settle 42 = .ok (.iconst 1, 1) := by decide +kernel
theorem dd_M_settle_43 : decode cc_M_settle 43 = .ok (.ireturn, 1) := by decide +kernel
theorem dd_M_show_0 : decode cc_M_show 0 = .ok (.aload_n 0, 1) := by decide +kernel
theorem dd_M_show_1 : decode cc_M_show 1 = .ok (.iconst 0, 1) := by decide +kernel
theorem dd_M_show_2 : decode cc_M_show 2 = .ok (.putfield 85, 3) := by decide +kernel
theorem dd_M_show_5 : decode cc_M_show 5 = .ok (.aload_n 0, 1) := by decide +kernel
theorem dd_M_show_6 : decode cc_M_show 6 = .ok (.iload_n 1, 1) := by decide +kernel
theorem dd_M_show_7 : decode cc_M_show 7 = .ok (.invokevirtual 139, 3) := by decide +kernel
theorem dd_M_show_10 : decode cc_M_show 10 = .ok (.ifCond .eq (20), 3) := by decide +kernel
theorem dd_M_show_13 : decode cc_M_show 13 = .ok (.aload_n 0, 1) := by decide +kernel
theorem dd_M_show_14 : decode cc_M_show 14 = .ok (.getfield 108, 3) := by decide +kernel
theorem dd_M_show_17 : decode cc_M_show 17 = .ok (.iconst 5, 1) := by decide +kernel
theorem dd_M_show_18 : decode cc_M_show 18 = .ok (.if_icmp .ne (12), 3) := by decide +kernel
theorem dd_M_show_21 : decode cc_M_show 21 = .ok (.aload_n 0, 1) := by decide +kernel
theorem dd_M_show_22 : decode cc_M_show 22 = .ok (.getfield 30, 3) := by decide +kernel
theorem dd_M_show_25 : decode cc_M_show 25 = .ok (.iload_n 1, 1) := by decide +kernel
theorem dd_M_show_26 : decode cc_M_show 26 = .ok (.baload, 1) := by decide +kernel
theorem dd_M_show_27 : decode cc_M_show 27 = .ok (.ifCond .eq (5), 3) := by decide +kernel
theorem dd_M_show_30 : decode cc_M_show 30 = .ok (.iconst 0, 1) := by decide +kernel
theorem dd_M_show_31 : decode cc_M_show 31 = .ok (.ireturn, 1) := by decide +kernel
theorem dd_M_show_32 : decode cc_M_show 32 = .ok (.aload_n 0, 1) := by decide +kernel
theorem dd_M_show_33 : decode cc_M_show 33 = .ok (.getfield 30, 3) := by decide +kernel
theorem dd_M_show_36 : decode cc_M_show 36 = .ok (.iload_n 1, 1) := by decide +kernel
theorem dd_M_show_37 : decode cc_M_show 37 = .ok (.iconst 1, 1) := by decide +kernel
theorem dd_M_show_38 : decode cc_M_show 38 = .ok (.bastore, 1) := by decide +kernel
theorem dd_M_show_39 : decode cc_M_show 39 = .ok (.aload_n 0, 1) := by decide +kernel
theorem dd_M_show_40 : decode cc_M_show 40 = .ok (.getfield 33, 3) := by decide +kernel
theorem dd_M_show_43 : decode cc_M_show 43 = .ok (.iload_n 1, 1) := by decide +kernel
theorem dd_M_show_44 : decode cc_M_show 44 = .ok (.aload_n 0, 1) := by decide +kernel
theorem dd_M_show_45 : decode cc_M_show 45 = .ok (.getfield 48, 3) := by decide +kernel
theorem dd_M_show_48 : decode cc_M_show 48 = .ok (.iload_n 1, 1) := by decide +kernel
theorem dd_M_show_49 : decode cc_M_show 49 = .ok (.baload, 1) := by decide +kernel
theorem dd_M_show_50 : decode cc_M_show 50 = .ok (.ifCond .eq (16), 3) := by decide +kernel
theorem dd_M_show_53 : decode cc_M_show 53 = .ok (.aload_n 0, 1) := by decide +kernel
theorem dd_M_show_54 : decode cc_M_show 54 = .ok (.aload_n 0, 1) := by decide +kernel
theorem dd_M_show_55 : decode cc_M_show 55 = .ok (.getfield 21, 3) := by decide +kernel
theorem dd_M_show_58 : decode cc_M_show 58 = .ok (.iload_n 1, 1) := by decide +kernel
theorem dd_M_show_59 : decode cc_M_show 59 = .ok (.iaload, 1) := by decide +kernel
theorem dd_M_show_60 : decode cc_M_show 60 = .ok (.invokevirtual 177, 3) := by decide +kernel
theorem dd_M_show_63 : decode cc_M_show 63 = .ok (.goto (9), 3) := by decide +kernel
theorem dd_M_show_66 : decode cc_M_show 66 = .ok (.aload_n 0, 1) := by decide +kernel
theorem dd_M_show_67 : decode cc_M_show 67 = .ok (.getfield 21, 3) := by decide +kernel
theorem dd_M_show_70 : decode cc_M_show 70 = .ok (.iload_n 1, 1) := by decide +kernel
theorem dd_M_show_71 : decode cc_M_show 71 = .ok (.iaload, 1) := by decide +kernel
theorem dd_M_show_72 : decode cc_M_show 72 = .ok (.iastore, 1) := by decide +kernel
theorem dd_M_show_73 : decode cc_M_show 73 = .ok (.aload_n 0, 1) := by decide +kernel
theorem dd_M_show_74 : decode cc_M_show 74 = .ok (.getfield 36, 3) := by decide +kernel
theorem dd_M_show_77 : decode cc_M_show 77 = .ok (.iload_n 1, 1) := by decide +kernel
theorem dd_M_show_78 : decode cc_M_show 78 = .ok (.aload_n 0, 1) := by decide +kernel
theorem dd_M_show_79 : decode cc_M_show 79 = .ok (.getfield 24, 3) := by decide +kernel
theorem dd_M_show_82 : decode cc_M_show 82 = .ok (.iload_n 1, 1) := by decide +kernel
theorem dd_M_show_83 : decode cc_M_show 83 = .ok (.laload, 1) := by decide +kernel
theorem dd_M_show_84 : decode cc_M_show 84 = .ok (.aload_n 0, 1) := by decide +kernel
theorem dd_M_show_85 : decode cc_M_show 85 = .ok (.getfield 51, 3) := by decide +kernel
theorem dd_M_show_88 : decode cc_M_show 88 = .ok (.iload_n 1, 1) := by decide +kernel
theorem dd_M_show_89 : decode cc_M_show 89 = .ok (.baload, 1) := by decide +kernel
theorem dd_M_show_90 : decode cc_M_show 90 = .ok (.ifCond .eq (7), 3) := by decide +kernel
theorem dd_M_show_93 : decode cc_M_show 93 = .ok (.lconst 1, 1) := by decide +kernel
theorem dd_M_show_94 : decode cc_M_show 94 = .ok (.goto (4), 3) := by decide +kernel
theorem dd_M_show_97 : decode cc_M_show 97 = .ok (.lconst 0, 1) := by decide +kernel
theorem dd_M_show_98 : decode cc_M_show 98 = .ok (.ladd, 1) := by decide +kernel
theorem dd_M_show_99 : decode cc_M_show 99 = .ok (.lastore, 1) := by decide +kernel
theorem dd_M_show_100 : decode cc_M_show 100 = .ok (.iconst 1, 1) := by decide +kernel
theorem dd_M_show_101 : decode cc_M_show 101 = .ok (.istore_n 2, 1) := by decide +kernel
theorem dd_M_show_102 : decode cc_M_show 102 = .ok (.iconst 0, 1) := by decide +kernel
theorem dd_M_show_103 : decode cc_M_show 103 = .ok (.istore_n 3, 1) := by decide +kernel
theorem dd_M_show_104 : decode cc_M_show 104 = .ok (.iload_n 3, 1) := by decide +kernel
theorem dd_M_show_105 : decode cc_M_show 105 = .ok (.aload_n 0, 1) := by decide +kernel
theorem dd_M_show_106 : decode cc_M_show 106 = .ok (.getfield 105, 3) := by decide +kernel
theorem dd_M_show_109 : decode cc_M_show 109 = .ok (.if_icmp .ge (28), 3) := by decide +kernel
theorem dd_M_show_112 : decode cc_M_show 112 = .ok (.iload_n 2, 1) := by decide +kernel
theorem dd_M_show_113 : decode cc_M_show 113 = .ok (.ifCond .eq (16), 3) := by decide +kernel
theorem dd_M_show_116 : decode cc_M_show 116 = .ok (.aload_n 0, 1) := by decide +kernel
theorem dd_M_show_117 : decode cc_M_show 117 = .ok (.getfield 30, 3) := by decide +kernel
theorem dd_M_show_120 : decode cc_M_show 120 = .ok (.iload_n 3, 1) := by decide +kernel
theorem dd_M_show_121 : decode cc_M_show 121 = .ok (.baload, 1) := by decide +kernel
theorem dd_M_show_122 : decode cc_M_show 122 = .ok (.ifCond .eq (7), 3) := by decide +kernel
theorem dd_M_show_125 : decode cc_M_show 125 = .ok (.iconst 1, 1) := by decide +kernel
theorem dd_M_show_126 : decode cc_M_show 126 = .ok (.goto (4), 3) := by decide +kernel
theorem dd_M_show_129 : decode cc_M_show 129 = .ok (.iconst 0, 1) := by decide +kernel
theorem dd_M_show_130 : decode cc_M_show 130 = .ok (.istore_n 2, 1) := by decide +kernel
theorem dd_M_show_131 : decode cc_M_show 131 = .ok (.iinc 3 (1), 3) := by decide +kernel
theorem dd_M_show_134 : decode cc_M_show 134 = .ok (.goto (-30), 3) := by decide +kernel
theorem dd_M_show_137 : decode cc_M_show 137 = .ok (.iload_n 2, 1) := by decide +kernel
theorem dd_M_show_138 : decode cc_M_show 138 = .ok (.ifCond .eq (9), 3) := by decide +kernel
theorem dd_M_show_141 : decode cc_M_show 141 = .ok (.aload_n 0, 1) := by decide +kernel
theorem dd_M_show_142 : decode cc_M_show 142 = .ok (.bipush (6), 2) := by decide +kernel
theorem dd_M_show_144 : decode cc_M_show 144 = .ok (.putfield 108, 3) := by decide +kernel
theorem dd_M_show_147 : decode cc_M_show 147 = .ok (.iconst 1, 1) := by decide +kernel
theorem dd_M_show_148 : decode cc_M_show 148 = .ok (.ireturn, 1) := by decide +kernel
theorem dd_M_fitsLocked_0 : decode cc_M_fitsLocked 0 = .ok (.aload_n 0, 1) := by decide +kernel
theorem dd_M_fitsLocked_1 : decode cc_M_fitsLocked 1 = .ok (.aload_n 0, 1) := by decide +kernel
theorem dd_M_fitsLocked_2 : decode cc_M_fitsLocked 2 = .ok (.getfield 36, 3) := by decide +kernel
theorem dd_M_fitsLocked_5 : decode cc_M_fitsLocked 5 = .ok (.iload_n 1, 1) := by decide +kernel
theorem dd_M_fitsLocked_6 : decode cc_M_fitsLocked 6 = .ok (.laload, 1) := by decide +kernel
theorem dd_M_fitsLocked_7 : decode cc_M_fitsLocked 7 = .ok (.invokevirtual 153, 3) := by decide +kernel
theorem dd_M_fitsLocked_10 : decode cc_M_fitsLocked 10 = .ok (.iconst 0, 1) := by decide +kernel
theorem dd_M_fitsLocked_11 : decode cc_M_fitsLocked 11 = .ok (.istore_n 2, 1) := by decide +kernel
theorem dd_M_fitsLocked_12 : decode cc_M_fitsLocked 12 = .ok (.iload_n 2, 1) := by decide +kernel
theorem dd_M_fitsLocked_13 : decode cc_M_fitsLocked 13 = .ok (.bipush (52), 2) := by decide +kernel
theorem dd_M_fitsLocked_15 : decode cc_M_fitsLocked 15 = .ok (.if_icmp .ge (39), 3) := by decide +kernel
theorem dd_M_fitsLocked_18 : decode cc_M_fitsLocked 18 = .ok (.aload_n 0, 1) := by decide +kernel
theorem dd_M_fitsLocked_19 : decode cc_M_fitsLocked 19 = .ok (.getfield 54, 3) := by decide +kernel
theorem dd_M_fitsLocked_22 : decode cc_M_fitsLocked 22 = .ok (.bipush (52), 2) := by decide +kernel
theorem dd_M_fitsLocked_24 : decode cc_M_fitsLocked 24 = .ok (.iload_n 1, 1) := by decide +kernel
theorem dd_M_fitsLocked_25 : decode cc_M_fitsLocked 25 = .ok (.iconst 1, 1) := by decide +kernel
theorem dd_M_fitsLocked_26 : decode cc_M_fitsLocked 26 = .ok (.iadd, 1) := by decide +kernel
theorem dd_M_fitsLocked_27 : decode cc_M_fitsLocked 27 = .ok (.imul, 1) := by decide +kernel
theorem dd_M_fitsLocked_28 : decode cc_M_fitsLocked 28 = .ok (.iload_n 2, 1) := by decide +kernel
theorem dd_M_fitsLocked_29 : decode cc_M_fitsLocked 29 = .ok (.iadd, 1) := by decide +kernel
theorem dd_M_fitsLocked_30 : decode cc_M_fitsLocked 30 = .ok (.iaload, 1) := by decide +kernel
theorem dd_M_fitsLocked_31 : decode cc_M_fitsLocked 31 = .ok (.aload_n 0, 1) := by decide +kernel
theorem dd_M_fitsLocked_32 : decode cc_M_fitsLocked 32 = .ok (.iload_n 1, 1) := by decide +kernel
theorem dd_M_fitsLocked_33 : decode cc_M_fitsLocked 33 = .ok (.iload_n 2, 1) := by decide +kernel
theorem dd_M_fitsLocked_34 : decode cc_M_fitsLocked 34 = .ok (.aload_n 0, 1) := by decide +kernel
theorem dd_M_fitsLocked_35 : decode cc_M_fitsLocked 35 = .ok (.getfield 33, 3) := by decide +kernel
theorem dd_M_fitsLocked_38 : decode cc_M_fitsLocked 38 = .ok (.iload_n 1, 1) := by decide +kernel
theorem dd_M_fitsLocked_39 : decode cc_M_fitsLocked 39 = .ok (.iaload, 1) := by decide +kernel
theorem dd_M_fitsLocked_40 : decode cc_M_fitsLocked 40 = .ok (.invokevirtual 160, 3) := by decide +kernel
theorem dd_M_fitsLocked_43 : decode cc_M_fitsLocked 43 = .ok (.if_icmp .eq (5), 3) := by decide +kernel
theorem dd_M_fitsLocked_46 : decode cc_M_fitsLocked 46 = .ok (.iconst 0, 1) := by decide +kernel
theorem dd_M_fitsLocked_47 : decode cc_M_fitsLocked 47 = .ok (.ireturn, 1) := by decide +kernel
theorem dd_M_fitsLocked_48 : decode cc_M_fitsLocked 48 = .ok (.iinc 2 (1), 3) := by decide +kernel
theorem dd_M_fitsLocked_51 : decode cc_M_fitsLocked 51 = .ok (.goto (-39), 3) := by decide +kernel
theorem dd_M_fitsLocked_54 : decode cc_M_fitsLocked 54 = .ok (.iconst 1, 1) := by decide +kernel
theorem dd_M_fitsLocked_55 : decode cc_M_fitsLocked 55 = .ok (.ireturn, 1) := by decide +kernel
theorem dd_M_fitsRelocked_0 : decode cc_M_fitsRelocked 0 = .ok (.aload_n 0, 1) := by decide +kernel
theorem dd_M_fitsRelocked_1 : decode cc_M_fitsRelocked 1 = .ok (.aload_n 0, 1) := by decide +kernel
theorem dd_M_fitsRelocked_2 : decode cc_M_fitsRelocked 2 = .ok (.getfield 27, 3) := by decide +kernel
theorem dd_M_fitsRelocked_5 : decode cc_M_fitsRelocked 5 = .ok (.iload_n 1, 1) := by decide +kernel
theorem dd_M_fitsRelocked_6 : decode cc_M_fitsRelocked 6 = .ok (.laload, 1) := by decide +kernel
theorem dd_M_fitsRelocked_7 : decode cc_M_fitsRelocked 7 = .ok (.invokevirtual 157, 3) := by decide +kernel
theorem dd_M_fitsRelocked_10 : decode cc_M_fitsRelocked 10 = .ok (.iconst 0, 1) := by decide +kernel
theorem dd_M_fitsRelocked_11 : decode cc_M_fitsRelocked 11 = .ok (.istore_n 2, 1) := by decide +kernel
theorem dd_M_fitsRelocked_12 : decode cc_M_fitsRelocked 12 = .ok (.iload_n 2, 1) := by decide +kernel
theorem dd_M_fitsRelocked_13 : decode cc_M_fitsRelocked 13 = .ok (.bipush (52), 2) := by decide +kernel
theorem dd_M_fitsRelocked_15 : decode cc_M_fitsRelocked 15 = .ok (.if_icmp .ge (49), 3) := by decide +kernel
theorem dd_M_fitsRelocked_18 : decode cc_M_fitsRelocked 18 = .ok (.aload_n 0, 1) := by decide +kernel
theorem dd_M_fitsRelocked_19 : decode cc_M_fitsRelocked 19 = .ok (.getfield 54, 3) := by decide +kernel
theorem dd_M_fitsRelocked_22 : decode cc_M_fitsRelocked 22 = .ok (.bipush (52), 2) := by decide +kernel
theorem dd_M_fitsRelocked_24 : decode cc_M_fitsRelocked 24 = .ok (.aload_n 0, 1) := by decide +kernel
theorem dd_M_fitsRelocked_25 : decode cc_M_fitsRelocked 25 = .ok (.getfield 105, 3) := by decide +kernel
theorem dd_M_fitsRelocked_28 : decode cc_M_fitsRelocked 28 = .ok (.iload_n 1, 1) := by decide +kernel
theorem dd_M_fitsRelocked_29 : decode cc_M_fitsRelocked 29 = .ok (.iadd, 1) := by decide +kernel
theorem dd_M_fitsRelocked_30 : decode cc_M_fitsRelocked 30 = .ok (.iconst 1, 1) := by decide +kernel
theorem dd_M_fitsRelocked_31 : decode cc_M_fitsRelocked 31 = .ok (.iadd, 1) := by decide +kernel
theorem dd_M_fitsRelocked_32 : decode cc_M_fitsRelocked 32 = .ok (.imul, 1) := by decide +kernel
theorem dd_M_fitsRelocked_33 : decode cc_M_fitsRelocked 33 = .ok (.iload_n 2, 1) := by decide +kernel
theorem dd_M_fitsRelocked_34 : decode cc_M_fitsRelocked 34 = .ok (.iadd, 1) := by decide +kernel
theorem dd_M_fitsRelocked_35 : decode cc_M_fitsRelocked 35 = .ok (.iaload, 1) := by decide +kernel
theorem dd_M_fitsRelocked_36 : decode cc_M_fitsRelocked 36 = .ok (.aload_n 0, 1) := by decide +kernel
theorem dd_M_fitsRelocked_37 : decode cc_M_fitsRelocked 37 = .ok (.aload_n 0, 1) := by decide +kernel
theorem dd_M_fitsRelocked_38 : decode cc_M_fitsRelocked 38 = .ok (.getfield 105, 3) := by decide +kernel
theorem dd_M_fitsRelocked_41 : decode cc_M_fitsRelocked 41 = .ok (.iload_n 1, 1) := by decide +kernel
theorem dd_M_fitsRelocked_42 : decode cc_M_fitsRelocked 42 = .ok (.iadd, 1) := by decide +kernel
theorem dd_M_fitsRelocked_43 : decode cc_M_fitsRelocked 43 = .ok (.iload_n 2, 1) := by decide +kernel
theorem dd_M_fitsRelocked_44 : decode cc_M_fitsRelocked 44 = .ok (.aload_n 0, 1) := by decide +kernel
theorem dd_M_fitsRelocked_45 : decode cc_M_fitsRelocked 45 = .ok (.getfield 33, 3) := by decide +kernel
theorem dd_M_fitsRelocked_48 : decode cc_M_fitsRelocked 48 = .ok (.iload_n 1, 1) := by decide +kernel
theorem dd_M_fitsRelocked_49 : decode cc_M_fitsRelocked 49 = .ok (.iaload, 1) := by decide +kernel
theorem dd_M_fitsRelocked_50 : decode cc_M_fitsRelocked 50 = .ok (.invokevirtual 163, 3) := by decide +kernel
theorem dd_M_fitsRelocked_53 : decode cc_M_fitsRelocked 53 = .ok (.if_icmp .eq (5), 3) := by decide +kernel
theorem dd_M_fitsRelocked_56 : decode cc_M_fitsRelocked 56 = .ok (.iconst 0, 1) := by decide +kernel
theorem dd_M_fitsRelocked_57 : decode cc_M_fitsRelocked 57 = .ok (.ireturn, 1) := by decide +kernel
theorem dd_M_fitsRelocked_58 : decode cc_M_fitsRelocked 58 = .ok (.iinc 2 (1), 3) := by decide +kernel
theorem dd_M_fitsRelocked_61 : decode cc_M_fitsRelocked 61 = .ok (.goto (-49), 3) := by decide +kernel
theorem dd_M_fitsRelocked_64 : decode cc_M_fitsRelocked 64 = .ok (.iconst 1, 1) := by decide +kernel
theorem dd_M_fitsRelocked_65 : decode cc_M_fitsRelocked 65 = .ok (.ireturn, 1) := by decide +kernel
theorem dd_M_audit_0 : decode cc_M_audit 0 = .ok (.aload_n 0, 1) := by decide +kernel
theorem dd_M_audit_1 : decode cc_M_audit 1 = .ok (.getfield 108, 3) := by decide +kernel
theorem dd_M_audit_4 : decode cc_M_audit 4 = .ok (.bipush (6), 2) := by decide +kernel
theorem dd_M_audit_6 : decode cc_M_audit 6 = .ok (.if_icmp .eq (9), 3) := by decide +kernel
theorem dd_M_audit_9 : decode cc_M_audit 9 = .ok (.aload_n 0, 1) := by decide +kernel
theorem dd_M_audit_10 : decode cc_M_audit 10 = .ok (.iconst 1, 1) := by decide +kernel
theorem dd_M_audit_11 : decode cc_M_audit 11 = .ok (.invokevirtual 146, 3) := by decide +kernel
theorem dd_M_audit_14 : decode cc_M_audit 14 = .ok (.ireturn, 1) := by decide +kernel
theorem dd_M_audit_15 : decode cc_M_audit 15 = .ok (.aload_n 0, 1) := by decide +kernel
theorem dd_M_audit_16 : decode cc_M_audit 16 = .ok (.iconst 0, 1) := by decide +kernel
theorem dd_M_audit_17 : decode cc_M_audit 17 = .ok (.putfield 85, 3) := by decide +kernel
theorem dd_M_audit_20 : decode cc_M_audit 20 = .ok (.iconst 0, 1) := by decide +kernel
theorem dd_M_audit_21 : decode cc_M_audit 21 = .ok (.istore_n 1, 1) := by decide +kernel
theorem dd_M_audit_22 : decode cc_M_audit 22 = .ok (.iload_n 1, 1) := by decide +kernel
theorem dd_M_audit_23 : decode cc_M_audit 23 = .ok (.aload_n 0, 1) := by decide +kernel
theorem dd_M_audit_24 : decode cc_M_audit 24 = .ok (.getfield 105, 3) := by decide +kernel
theorem dd_M_audit_27 : decode cc_M_audit 27 = .ok (.if_icmp .ge (47), 3) := by decide +kernel
theorem dd_M_audit_30 : decode cc_M_audit 30 = .ok (.aload_n 0, 1) := by decide +kernel
theorem dd_M_audit_31 : decode cc_M_audit 31 = .ok (.getfield 17, 3) := by decide +kernel
theorem dd_M_audit_34 : decode cc_M_audit 34 = .ok (.iload_n 1, 1) := by decide +kernel
theorem dd_M_audit_35 : decode cc_M_audit 35 = .ok (.laload, 1) := by decide +kernel
theorem dd_M_audit_36 : decode cc_M_audit 36 = .ok (.aload_n 0, 1) := by decide +kernel
theorem dd_M_audit_37 : decode cc_M_audit 37 = .ok (.getfield 33, 3) := by decide +kernel
theorem dd_M_audit_40 : decode cc_M_audit 40 = .ok (.iload_n 1, 1) := by decide +kernel
theorem dd_M_audit_41 : decode cc_M_audit 41 = .ok (.iaload, 1) := by decide +kernel
theorem dd_M_audit_42 : decode cc_M_audit 42 = .ok (.aload_n 0, 1) := by decide +kernel
theorem dd_M_audit_43 : decode cc_M_audit 43 = .ok (.getfield 36, 3) := by decide +kernel
theorem dd_M_audit_46 : decode cc_M_audit 46 = .ok (.iload_n 1, 1) := by decide +kernel
theorem dd_M_audit_47 : decode cc_M_audit 47 = .ok (.laload, 1) := by decide +kernel
theorem dd_M_audit_48 : decode cc_M_audit 48 = .ok (.aload_n 0, 1) := by decide +kernel
theorem dd_M_audit_49 : decode cc_M_audit 49 = .ok (.getfield 27, 3) := by decide +kernel
theorem dd_M_audit_52 : decode cc_M_audit 52 = .ok (.iload_n 1, 1) := by decide +kernel
theorem dd_M_audit_53 : decode cc_M_audit 53 = .ok (.laload, 1) := by decide +kernel
theorem dd_M_audit_54 : decode cc_M_audit 54 = .ok (.invokestatic 142, 3) := by decide +kernel
theorem dd_M_audit_57 : decode cc_M_audit 57 = .ok (.lcmp, 1) := by decide +kernel
theorem dd_M_audit_58 : decode cc_M_audit 58 = .ok (.ifCond .eq (10), 3) := by decide +kernel
theorem dd_M_audit_61 : decode cc_M_audit 61 = .ok (.bipush (16), 2) := by decide +kernel
theorem dd_M_audit_63 : decode cc_M_audit 63 = .ok (.iload_n 1, 1) := by decide +kernel
theorem dd_M_audit_64 : decode cc_M_audit 64 = .ok (.imul, 1) := by decide +kernel
theorem dd_M_audit_65 : decode cc_M_audit 65 = .ok (.iconst 1, 1) := by decide +kernel
theorem dd_M_audit_66 : decode cc_M_audit 66 = .ok (.iadd, 1) := by decide +kernel
theorem dd_M_audit_67 : decode cc_M_audit 67 = .ok (.ireturn, 1) := by decide +kernel
theorem dd_M_audit_68 : decode cc_M_audit 68 = .ok (.iinc 1 (1), 3) := by decide +kernel
theorem dd_M_audit_71 : decode cc_M_audit 71 = .ok (.goto (-49), 3) := by decide +kernel
theorem dd_M_audit_74 : decode cc_M_audit 74 = .ok (.iconst 0, 1) := by decide +kernel
theorem dd_M_audit_75 : decode cc_M_audit 75 = .ok (.istore_n 1, 1) := by decide +kernel
theorem dd_M_audit_76 : decode cc_M_audit 76 = .ok (.iload_n 1, 1) := by decide +kernel
theorem dd_M_audit_77 : decode cc_M_audit 77 = .ok (.aload_n 0, 1) := by decide +kernel
theorem dd_M_audit_78 : decode cc_M_audit 78 = .ok (.getfield 105, 3) := by decide +kernel
theorem dd_M_audit_81 : decode cc_M_audit 81 = .ok (.if_icmp .ge (24), 3) := by decide +kernel
theorem dd_M_audit_84 : decode cc_M_audit 84 = .ok (.aload_n 0, 1) := by decide +kernel
theorem dd_M_audit_85 : decode cc_M_audit 85 = .ok (.iload_n 1, 1) := by decide +kernel
theorem dd_M_audit_86 : decode cc_M_audit 86 = .ok (.invokevirtual 203, 3) := by decide +kernel
theorem dd_M_audit_89 : decode cc_M_audit 89 = .ok (.ifCond .ne (10), 3) := by decide +kernel
theorem dd_M_audit_92 : decode cc_M_audit 92 = .ok (.bipush (16), 2) := by decide +kernel
theorem dd_M_audit_94 : decode cc_M_audit 94 = .ok (.iload_n 1, 1) := by decide +kernel
theorem dd_M_audit_95 : decode cc_M_audit 95 = .ok (.imul, 1) := by decide +kernel
theorem dd_M_audit_96 : decode cc_M_audit 96 = .ok (.iconst 2, 1) := by decide +kernel
theorem dd_M_audit_97 : decode cc_M_audit 97 = .ok (.iadd, 1) := by decide +kernel
theorem dd_M_audit_98 : decode cc_M_audit 98 = .ok (.ireturn, 1) := by decide +kernel
theorem dd_M_audit_99 : decode cc_M_audit 99 = .ok (.iinc 1 (1), 3) := by decide +kernel
theorem dd_M_audit_102 : decode cc_M_audit 102 = .ok (.goto (-26), 3) := by decide +kernel
theorem dd_M_audit_105 : decode cc_M_audit 105 = .ok (.iconst 0, 1) := by decide +kernel
theorem dd_M_audit_106 : decode cc_M_audit 106 = .ok (.istore_n 1, 1) := by decide +kernel
theorem dd_M_audit_107 : decode cc_M_audit 107 = .ok (.iload_n 1, 1) := by decide +kernel
theorem dd_M_audit_108 : decode cc_M_audit 108 = .ok (.aload_n 0, 1) := by decide +kernel
theorem dd_M_audit_109 : decode cc_M_audit 109 = .ok (.getfield 105, 3) := by decide +kernel
theorem dd_M_audit_112 : decode cc_M_audit 112 = .ok (.if_icmp .ge (24), 3) := by decide +kernel
theorem dd_M_audit_115 : decode cc_M_audit 115 = .ok (.aload_n 0, 1) := by decide +kernel
theorem dd_M_audit_116 : decode cc_M_audit 116 = .ok (.iload_n 1, 1) := by decide +kernel
theorem dd_M_audit_117 : decode cc_M_audit 117 = .ok (.invokevirtual 206, 3) := by decide +kernel
theorem dd_M_audit_120 : decode cc_M_audit 120 = .ok (.ifCond .ne (10), 3) := by decide +kernel
theorem dd_M_audit_123 : decode cc_M_audit 123 = .ok (.bipush (16), 2) := by decide +kernel
theorem dd_M_audit_125 : decode cc_M_audit 125 = .ok (.iload_n 1, 1) := by decide +kernel
theorem dd_M_audit_126 : decode cc_M_audit 126 = .ok (.imul, 1) := by decide +kernel
theorem dd_M_audit_127 : decode cc_M_audit 127 = .ok (.iconst 3, 1) := by decide +kernel
theorem dd_M_audit_128 : decode cc_M_audit 128 = .ok (.iadd, 1) := by decide +kernel
theorem dd_M_audit_129 : decode cc_M_audit 129 = .ok (.ireturn, 1) := by decide +kernel
theorem dd_M_audit_130 : decode cc_M_audit 130 = .ok (.iinc 1 (1), 3) := by decide +kernel
theorem dd_M_audit_133 : decode cc_M_audit 133 = .ok (.goto (-26), 3) := by decide +kernel
theorem dd_M_audit_136 : decode cc_M_audit 136 = .ok (.iconst 0, 1) := by decide +kernel
theorem dd_M_audit_137 : decode cc_M_audit 137 = .ok (.istore_n 1, 1) := by decide +kernel
theorem dd_M_audit_138 : decode cc_M_audit 138 = .ok (.iload_n 1, 1) := by decide +kernel
theorem dd_M_audit_139 : decode cc_M_audit 139 = .ok (.bipush (52), 2) := by decide +kernel
theorem dd_M_audit_141 : decode cc_M_audit 141 = .ok (.if_icmp .ge (58), 3) := by decide +kernel
theorem dd_M_audit_144 : decode cc_M_audit 144 = .ok (.iconst 0, 1) := by decide +kernel
theorem dd_M_audit_145 : decode cc_M_audit 145 = .ok (.istore_n 2, 1) := by decide +kernel
theorem dd_M_audit_146 : decode cc_M_audit 146 = .ok (.iload_n 2, 1) := by decide +kernel
theorem dd_M_audit_147 : decode cc_M_audit 147 = .ok (.aload_n 0, 1) := by decide +kernel
theorem dd_M_audit_148 : decode cc_M_audit 148 = .ok (.getfield 105, 3) := by decide +kernel
theorem dd_M_audit_151 : decode cc_M_audit 151 = .ok (.if_icmp .ge (42), 3) := by decide +kernel
theorem dd_M_audit_154 : decode cc_M_audit 154 = .ok (.aload_n 0, 1) := by decide +kernel
theorem dd_M_audit_155 : decode cc_M_audit 155 = .ok (.getfield 66, 3) := by decide +kernel
theorem dd_M_audit_158 : decode cc_M_audit 158 = .ok (.bipush (52), 2) := by decide +kernel
theorem dd_M_audit_160 : decode cc_M_audit 160 = .ok (.iload_n 2, 1) := by decide +kernel
theorem dd_M_audit_161 : decode cc_M_audit 161 = .ok (.imul, 1) := by decide +kernel
theorem dd_M_audit_162 : decode cc_M_audit 162 = .ok (.iload_n 1, 1) := by decide +kernel
theorem dd_M_audit_163 : decode cc_M_audit 163 = .ok (.iadd, 1) := by decide +kernel
theorem dd_M_audit_164 : decode cc_M_audit 164 = .ok (.iaload, 1) := by decide +kernel
theorem dd_M_audit_165 : decode cc_M_audit 165 = .ok (.istore_n 3, 1) := by decide +kernel
theorem dd_M_audit_166 : decode cc_M_audit 166 = .ok (.iload_n 3, 1) := by decide +kernel
theorem dd_M_audit_167 : decode cc_M_audit 167 = .ok (.ifCond .eq (20), 3) := by decide +kernel
theorem dd_M_audit_170 : decode cc_M_audit 170 = .ok (.iload_n 3, 1) := by decide +kernel
theorem dd_M_audit_171 : decode cc_M_audit 171 = .ok (.aload_n 0, 1) := by decide +kernel
theorem dd_M_audit_172 : decode cc_M_audit 172 = .ok (.iload_n 2, 1) := by decide +kernel
theorem dd_M_audit_173 : decode cc_M_audit 173 = .ok (.iload_n 1, 1) := by decide +kernel
theorem dd_M_audit_174 : decode cc_M_audit 174 = .ok (.invokevirtual 173, 3) := by decide +kernel
theorem dd_M_audit_177 : decode cc_M_audit 177 = .ok (.if_icmp .eq (10), 3) := by decide +kernel
theorem dd_M_audit_180 : decode cc_M_audit 180 = .ok (.bipush (16), 2) := by decide +kernel
theorem dd_M_audit_182 : decode cc_M_audit 182 = .ok (.iload_n 2, 1) := by decide +kernel
theorem dd_M_audit_183 : decode cc_M_audit 183 = .ok (.imul, 1) := by decide +kernel
theorem dd_M_audit_184 : decode cc_M_audit 184 = .ok (.iconst 4, 1) := by decide +kernel
theorem dd_M_audit_185 : decode cc_M_audit 185 = .ok (.iadd, 1) := by decide +kernel
theorem dd_M_audit_186 : decode cc_M_audit 186 = .ok (.ireturn, 1) := by decide +kernel
theorem dd_M_audit_187 : decode cc_M_audit 187 = .ok (.iinc 2 (1), 3) := by decide +kernel
theorem dd_M_audit_190 : decode cc_M_audit 190 = .ok (.goto (-44), 3) := by decide +kernel
theorem dd_M_audit_193 : decode cc_M_audit 193 = .ok (.iinc 1 (1), 3) := by decide +kernel
theorem dd_M_audit_196 : decode cc_M_audit 196 = .ok (.goto (-58), 3) := by decide +kernel
theorem dd_M_audit_199 : decode cc_M_audit 199 = .ok (.iconst 0, 1) := by decide +kernel
theorem dd_M_audit_200 : decode cc_M_audit 200 = .ok (.ireturn, 1) := by decide +kernel
theorem dd_M_cheat_0 : decode cc_M_cheat 0 = .ok (.aload_n 0, 1) := by decide +kernel
theorem dd_M_cheat_1 : decode cc_M_cheat 1 = .ok (.iconst 0, 1) := by decide +kernel
theorem dd_M_cheat_2 : decode cc_M_cheat 2 = .ok (.putfield 85, 3) := by decide +kernel
theorem dd_M_cheat_5 : decode cc_M_cheat 5 = .ok (.aload_n 0, 1) := by decide +kernel
theorem dd_M_cheat_6 : decode cc_M_cheat 6 = .ok (.iload_n 1, 1) := by decide +kernel
theorem dd_M_cheat_7 : decode cc_M_cheat 7 = .ok (.invokevirtual 139, 3) := by decide +kernel
theorem dd_M_cheat_10 : decode cc_M_cheat 10 = .ok (.ifCond .eq (35), 3) := by decide +kernel
theorem dd_M_cheat_13 : decode cc_M_cheat 13 = .ok (.iload_n 2, 1) := by decide +kernel
theorem dd_M_cheat_14 : decode cc_M_cheat 14 = .ok (.ifCond .lt (31), 3) := by decide +kernel
theorem dd_M_cheat_17 : decode cc_M_cheat 17 = .ok (.iload_n 2, 1) := by decide +kernel
theorem dd_M_cheat_18 : decode cc_M_cheat 18 = .ok (.iconst 4, 1) := by decide +kernel
theorem dd_M_cheat_19 : decode cc_M_cheat 19 = .ok (.if_icmp .gt (26), 3) := by decide +kernel
theorem dd_M_cheat_22 : decode cc_M_cheat 22 = .ok (.iload_n 3, 1) := by decide +kernel
theorem dd_M_cheat_23 : decode cc_M_cheat 23 = .ok (.invokestatic 170, 3) := by decide +kernel
theorem dd_M_cheat_26 : decode cc_M_cheat 26 = .ok (.ifCond .eq (19), 3) := by decide +kernel
theorem dd_M_cheat_29 : decode cc_M_cheat 29 = .ok (.aload_n 0, 1) := by decide +kernel
theorem dd_M_cheat_30 : decode cc_M_cheat 30 = .ok (.getfield 108, 3) := by decide +kernel
theorem dd_M_cheat_33 : decode cc_M_cheat 33 = .ok (.iconst 1, 1) := by decide +kernel
theorem dd_M_cheat_34 : decode cc_M_cheat 34 = .ok (.if_icmp .lt (11), 3) := by decide +kernel
theorem dd_M_cheat_37 : decode cc_M_cheat 37 = .ok (.aload_n 0, 1) := by decide +kernel
theorem dd_M_cheat_38 : decode cc_M_cheat 38 = .ok (.getfield 108, 3) := by decide +kernel
theorem dd_M_cheat_41 : decode cc_M_cheat 41 = .ok (.iconst 5, 1) := by decide +kernel
theorem dd_M_cheat_42 : decode cc_M_cheat 42 = .ok (.if_icmp .le (5), 3) := by decide +kernel
theorem dd_M_cheat_45 : decode cc_M_cheat 45 = .ok (.iconst 0, 1) := by decide +kernel
theorem dd_M_cheat_46 : decode cc_M_cheat 46 = .ok (.ireturn, 1) := by decide +kernel
theorem dd_M_cheat_47 : decode cc_M_cheat 47 = .ok (.lconst 1, 1) := by decide +kernel
theorem dd_M_cheat_48 : decode cc_M_cheat 48 = .ok (.iload_n 3, 1) := by decide +kernel
theorem dd_M_cheat_49 : decode cc_M_cheat 49 = .ok (.lshl, 1) := by decide +kernel
theorem dd_M_cheat_50 : decode cc_M_cheat 50 = .ok (.lstore 4, 2) := by decide +kernel
theorem dd_M_cheat_52 : decode cc_M_cheat 52 = .ok (.iload_n 2, 1) := by decide +kernel
theorem dd_M_cheat_53 : decode cc_M_cheat 53 = .ok (.ifCond .ne (14), 3) := by decide +kernel
theorem dd_M_cheat_56 : decode cc_M_cheat 56 = .ok (.aload_n 0, 1) := by decide +kernel
theorem dd_M_cheat_57 : decode cc_M_cheat 57 = .ok (.getfield 39, 3) := by decide +kernel
theorem dd_M_cheat_60 : decode cc_M_cheat 60 = .ok (.iload_n 1, 1) := by decide +kernel
theorem dd_M_cheat_61 : decode cc_M_cheat 61 = .ok (.dup2, 1) := by decide +kernel
theorem dd_M_cheat_62 : decode cc_M_cheat 62 = .ok (.laload, 1) := by decide +kernel
theorem dd_M_cheat_63 : decode cc_M_cheat 63 = .ok (.lload 4, 2) := by decide +kernel
theorem dd_M_cheat_65 : decode cc_M_cheat 65 = .ok (.lor, 1) := by decide +kernel
theorem dd_M_cheat_66 : decode cc_M_cheat 66 = .ok (.lastore, 1) := by decide +kernel
theorem dd_M_cheat_67 : decode cc_M_cheat 67 = .ok (.iload_n 2, 1) := by decide +kernel
theorem dd_M_cheat_68 : decode cc_M_cheat 68 = .ok (.iconst 1, 1) := by decide +kernel
theorem dd_M_cheat_69 : decode cc_M_cheat 69 = .ok (.if_icmp .ne (14), 3) := by decide +kernel
theorem dd_M_cheat_72 : decode cc_M_cheat 72 = .ok (.aload_n 0, 1) := by decide +kernel
theorem dd_M_cheat_73 : decode cc_M_cheat 73 = .ok (.getfield 42, 3) := by decide +kernel
theorem dd_M_cheat_76 : decode cc_M_cheat 76 = .ok (.iload_n 1, 1) := by decide +kernel
theorem dd_M_cheat_77 : decode cc_M_cheat 77 = .ok (.dup2, 1) := by decide +kernel
theorem dd_M_cheat_78 : decode cc_M_cheat 78 = .ok (.laload, 1) := by decide +kernel
theorem dd_M_cheat_79 : decode cc_M_cheat 79 = .ok (.lload 4, 2) := by decide +kernel
theorem dd_M_cheat_81 : decode cc_M_cheat 81 = .ok (.lor, 1) := by decide +kernel
theorem dd_M_cheat_82 : decode cc_M_cheat 82 = .ok (.lastore, 1) := by decide +kernel
theorem dd_M_cheat_83 : decode cc_M_cheat 83 = .ok (.iload_n 2, 1) := by decide +kernel
theorem dd_M_cheat_84 : decode cc_M_cheat 84 = .ok (.iconst 2, 1) := by decide +kernel
theorem dd_M_cheat_85 : decode cc_M_cheat 85 = .ok (.if_icmp .ne (14), 3) := by decide +kernel
theorem dd_M_cheat_88 : decode cc_M_cheat 88 = .ok (.aload_n 0, 1) := by decide +kernel
theorem dd_M_cheat_89 : decode cc_M_cheat 89 = .ok (.getfield 45, 3) := by decide +kernel
theorem dd_M_cheat_92 : decode cc_M_cheat 92 = .ok (.iload_n 1, 1) := by decide +kernel
theorem dd_M_cheat_93 : decode cc_M_cheat 93 = .ok (.dup2, 1) := by decide +kernel
theorem dd_M_cheat_94 : decode cc_M_cheat 94 = .ok (.laload, 1) := by decide +kernel
theorem dd_M_cheat_95 : decode cc_M_cheat 95 = .ok (.lload 4, 2) := by decide +kernel
theorem dd_M_cheat_97 : decode cc_M_cheat 97 = .ok (.lor, 1) := by decide +kernel
theorem dd_M_cheat_98 : decode cc_M_cheat 98 = .ok (.lastore, 1) := by decide +kernel
theorem dd_M_cheat_99 : decode cc_M_cheat 99 = .ok (.iload_n 2, 1) := by decide +kernel
theorem dd_M_cheat_100 : decode cc_M_cheat 100 = .ok (.iconst 3, 1) := by decide +kernel
theorem dd_M_cheat_101 : decode cc_M_cheat 101 = .ok (.if_icmp .ne (10), 3) := by decide +kernel
theorem dd_M_cheat_104 : decode cc_M_cheat 104 = .ok (.aload_n 0, 1) := by decide +kernel
theorem dd_M_cheat_105 : decode cc_M_cheat 105 = .ok (.getfield 48, 3) := by decide +kernel
theorem dd_M_cheat_108 : decode cc_M_cheat 108 = .ok (.iload_n 1, 1) := by decide +kernel
theorem dd_M_cheat_109 : decode cc_M_cheat 109 = .ok (.iconst 1, 1) := by decide +kernel
theorem dd_M_cheat_110 : decode cc_M_cheat 110 = .ok (.bastore, 1) := by decide +kernel
theorem dd_M_cheat_111 : decode cc_M_cheat 111 = .ok (.iload_n 2, 1) := by decide +kernel
theorem dd_M_cheat_112 : decode cc_M_cheat 112 = .ok (.iconst 4, 1) := by decide +kernel
theorem dd_M_cheat_113 : decode cc_M_cheat 113 = .ok (.if_icmp .ne (10), 3) := by decide +kernel
theorem dd_M_cheat_116 : decode cc_M_cheat 116 = .ok (.aload_n 0, 1) := by decide +kernel
theorem dd_M_cheat_117 : decode cc_M_cheat 117 = .ok (.getfield 51, 3) := by decide +kernel
theorem dd_M_cheat_120 : decode cc_M_cheat 120 = .ok (.iload_n 1, 1) := by decide +kernel
theorem dd_M_cheat_121 : decode cc_M_cheat 121 = .ok (.iconst 1, 1) := by decide +kernel
theorem dd_M_cheat_122 : decode cc_M_cheat 122 = .ok (.bastore, 1) := by decide +kernel
theorem dd_M_cheat_123 : decode cc_M_cheat 123 = .ok (.iconst 1, 1) := by decide +kernel
theorem dd_M_cheat_124 : decode cc_M_cheat 124 = .ok (.ireturn, 1) := by decide +kernel
theorem dd_M_state_0 : decode cc_M_state 0 = .ok (.aload_n 0, 1) := by decide +kernel
theorem dd_M_state_1 : decode cc_M_state 1 = .ok (.iconst 0, 1) := by decide +kernel
theorem dd_M_state_2 : decode cc_M_state 2 = .ok (.putfield 85, 3) := by decide +kernel
theorem dd_M_state_5 : decode cc_M_state 5 = .ok (.iconst 0, 1) := by decide +kernel
theorem dd_M_state_6 : decode cc_M_state 6 = .ok (.istore_n 2, 1) := by decide +kernel
theorem dd_M_state_7 : decode cc_M_state 7 = .ok (.iconst 0, 1) := by decide +kernel
theorem dd_M_state_8 : decode cc_M_state 8 = .ok (.istore_n 3, 1) := by decide +kernel
theorem dd_M_state_9 : decode cc_M_state 9 = .ok (.iload_n 3, 1) := by decide +kernel
theorem dd_M_state_10 : decode cc_M_state 10 = .ok (.aload_n 0, 1) := by decide +kernel
theorem dd_M_state_11 : decode cc_M_state 11 = .ok (.getfield 105, 3) := by decide +kernel
theorem dd_M_state_14 : decode cc_M_state 14 = .ok (.if_icmp .ge (18), 3) := by decide +kernel
theorem dd_M_state_17 : decode cc_M_state 17 = .ok (.iload_n 2, 1) := by decide +kernel
theorem dd_M_state_18 : decode cc_M_state 18 = .ok (.aload_n 0, 1) := by decide +kernel
theorem dd_M_state_19 : decode cc_M_state 19 = .ok (.getfield 72, 3) := by decide +kernel
theorem dd_M_state_22 : decode cc_M_state 22 = .ok (.iload_n 3, 1) := by decide +kernel
theorem dd_M_state_23 : decode cc_M_state 23 = .ok (.iaload, 1) := by decide +kernel
theorem dd_M_state_24 : decode cc_M_state 24 = .ok (.iadd, 1) := by decide +kernel
theorem dd_M_state_25 : decode cc_M_state 25 = .ok (.istore_n 2, 1) := by decide +kernel
theorem dd_M_state_26 : decode cc_M_state 26 = .ok (.iinc 3 (1), 3) := by decide +kernel
theorem dd_M_state_29 : decode cc_M_state 29 = .ok (.goto (-20), 3) := by decide +kernel
theorem dd_M_state_32 : decode cc_M_state 32 = .ok (.iload_n 1, 1) := by decide +kernel
theorem dd_M_state_33 : decode cc_M_state 33 = .ok (.tableswitch (96) (0) (4) #[35, 40, 45, 78, 80], 35) := by decide +kernel
theorem dd_M_state_68 : decode cc_M_state 68 = .ok (.aload_n 0, 1) := by decide +kernel
theorem dd_M_state_69 : decode cc_M_state 69 = .ok (.getfield 108, 3) := by decide +kernel
theorem dd_M_state_72 : decode cc_M_state 72 = .ok (.ireturn, 1) := by decide +kernel
theorem dd_M_state_73 : decode cc_M_state 73 = .ok (.aload_n 0, 1) := by decide +kernel
theorem dd_M_state_74 : decode cc_M_state 74 = .ok (.getfield 105, 3) := by decide +kernel
theorem dd_M_state_77 : decode cc_M_state 77 = .ok (.ireturn, 1) := by decide +kernel
theorem dd_M_state_78 : decode cc_M_state 78 = .ok (.aload_n 0, 1) := by decide +kernel
theorem dd_M_state_79 : decode cc_M_state 79 = .ok (.getfield 108, 3) := by decide +kernel
theorem dd_M_state_82 : decode cc_M_state 82 = .ok (.iconst 2, 1) := by decide +kernel
theorem dd_M_state_83 : decode cc_M_state 83 = .ok (.if_icmp .eq (11), 3) := by decide +kernel
theorem dd_M_state_86 : decode cc_M_state 86 = .ok (.aload_n 0, 1) := by decide +kernel
theorem dd_M_state_87 : decode cc_M_state 87 = .ok (.getfield 108, 3) := by decide +kernel
theorem dd_M_state_90 : decode cc_M_state 90 = .ok (.iconst 3, 1) := by decide +kernel
theorem dd_M_state_91 : decode cc_M_state 91 = .ok (.if_icmp .ne (15), 3) := by decide +kernel
theorem dd_M_state_94 : decode cc_M_state 94 = .ok (.aload_n 0, 1) := by decide +kernel
theorem dd_M_state_95 : decode cc_M_state 95 = .ok (.getfield 102, 3) := by decide +kernel
theorem dd_M_state_98 : decode cc_M_state 98 = .ok (.aload_n 0, 1) := by decide +kernel
theorem dd_M_state_99 : decode cc_M_state 99 = .ok (.getfield 105, 3) := by decide +kernel
theorem dd_M_state_102 : decode cc_M_state 102 = .ok (.irem, 1) := by decide +kernel
theorem dd_M_state_103 : decode cc_M_state 103 = .ok (.goto (7), 3) := by decide +kernel
theorem dd_M_state_106 : decode cc_M_state 106 = .ok (.aload_n 0, 1) := by decide +kernel
theorem dd_M_state_107 : decode cc_M_state 107 = .ok (.getfield 81, 3) := by decide +kernel
theorem dd_M_state_110 : decode cc_M_state 110 = .ok (.ireturn, 1) := by decide +kernel
theorem dd_M_state_111 : decode cc_M_state 111 = .ok (.iload_n 2, 1) := by decide +kernel
theorem dd_M_state_112 : decode cc_M_state 112 = .ok (.ireturn, 1) := by decide +kernel
theorem dd_M_state_113 : decode cc_M_state 113 = .ok (.aload_n 0, 1) := by decide +kernel
theorem dd_M_state_114 : decode cc_M_state 114 = .ok (.getfield 111, 3) := by decide +kernel
theorem dd_M_state_117 : decode cc_M_state 117 = .ok (.ifCond .eq (10), 3) := by decide +kernel
theorem dd_M_state_120 : decode cc_M_state 120 = .ok (.aload_n 0, 1) := by decide +kernel
theorem dd_M_state_121 : decode cc_M_state 121 = .ok (.invokevirtual 193, 3) := by decide +kernel
theorem dd_M_state_124 : decode cc_M_state 124 = .ok (.goto (4), 3) := by decide +kernel
theorem dd_M_state_127 : decode cc_M_state 127 = .ok (.iconst 0, 1) := by decide +kernel
theorem dd_M_state_128 : decode cc_M_state 128 = .ok (.ireturn, 1) := by decide +kernel
theorem dd_M_state_129 : decode cc_M_state 129 = .ok (.iconst (-1), 1) := by decide +kernel
theorem dd_M_state_130 : decode cc_M_state 130 = .ok (.ireturn, 1) := by decide +kernel
theorem dd_M_player_0 : decode cc_M_player 0 = .ok (.aload_n 0, 1) := by decide +kernel
theorem dd_M_player_1 : decode cc_M_player 1 = .ok (.iconst 0, 1) := by decide +kernel
theorem dd_M_player_2 : decode cc_M_player 2 = .ok (.putfield 85, 3) := by decide +kernel
theorem dd_M_player_5 : decode cc_M_player 5 = .ok (.aload_n 0, 1) := by decide +kernel
theorem dd_M_player_6 : decode cc_M_player 6 = .ok (.iload_n 1, 1) := by decide +kernel
theorem dd_M_player_7 : decode cc_M_player 7 = .ok (.invokevirtual 139, 3) := by decide +kernel
theorem dd_M_player_10 : decode cc_M_player 10 = .ok (.ifCond .ne (5), 3) := by decide +kernel
theorem dd_M_player_13 : decode cc_M_player 13 = .ok (.iconst (-1), 1) := by decide +kernel
theorem dd_M_player_14 : decode cc_M_player 14 = .ok (.ireturn, 1) := by decide +kernel
theorem dd_M_player_15 : decode cc_M_player 15 = .ok (.iconst 0, 1) := by decide +kernel
theorem dd_M_player_16 : decode cc_M_player 16 = .ok (.istore_n 3, 1) := by decide +kernel
theorem dd_M_player_17 : decode cc_M_player 17 = .ok (.iconst 0, 1) := by decide +kernel
theorem dd_M_player_18 : decode cc_M_player 18 = .ok (.istore 4, 2) := by decide +kernel
theorem dd_M_player_20 : decode cc_M_player 20 = .ok (.iload 4, 2) := by decide +kernel
theorem dd_M_player_22 : decode cc_M_player 22 = .ok (.bipush (52), 2) := by decide +kernel
theorem dd_M_player_24 : decode cc_M_player 24 = .ok (.if_icmp .ge (32), 3) := by decide +kernel
theorem dd_M_player_27 : decode cc_M_player 27 = .ok (.iload_n 3, 1) := by decide +kernel
theorem dd_M_player_28 : decode cc_M_player 28 = .ok (.aload_n 0, 1) := by decide +kernel
theorem dd_M_player_29 : decode cc_M_player 29 = .ok (.getfield 66, 3) := by decide +kernel
theorem dd_M_player_32 : decode cc_M_player 32 = .ok (.bipush (52), 2) := by decide +kernel
theorem dd_M_player_34 : decode cc_M_player 34 = .ok (.iload_n 1, 1) := by decide +kernel
theorem dd_M_player_35 : decode cc_M_player 35 = .ok (.imul, 1) := by decide +kernel
theorem dd_M_player_36 : decode cc_M_player 36 = .ok (.iload 4, 2) := by decide +kernel
theorem dd_M_player_38 : decode cc_M_player 38 = .ok (.iadd, 1) := by decide +kernel
theorem dd_M_player_39 : decode cc_M_player 39 = .ok (.iaload, 1) := by decide +kernel
theorem dd_M_player_40 : decode cc_M_player 40 = .ok (.ifCond .eq (7), 3) := by decide +kernel
theorem dd_M_player_43 : decode cc_M_player 43 = .ok (.iconst 1, 1) := by decide +kernel
theorem dd_M_player_44 : decode cc_M_player 44 = .ok (.goto (4), 3) := by decide +kernel
theorem dd_M_player_47 : decode cc_M_player 47 = .ok (.iconst 0, 1) := by decide +kernel
theorem dd_M_player_48 : decode cc_M_player 48 = .ok (.iadd, 1) := by decide +kernel
theorem dd_M_player_49 : decode cc_M_player 49 = .ok (.istore_n 3, 1) := by decide +kernel
theorem dd_M_player_50 : decode cc_M_player 50 = .ok (.iinc 4 (1), 3) := by decide +kernel
theorem dd_M_player_53 : decode cc_M_player 53 = .ok (.goto (-33), 3) := by decide +kernel
theorem dd_M_player_56 : decode cc_M_player 56 = .ok (.iload_n 2, 1) := by decide +kernel
theorem dd_M_player_57 : decode cc_M_player 57 = .ok (.tableswitch (92) (0) (4) #[35, 42, 49, 67, 90], 35) := by decide +kernel
theorem dd_M_player_92 : decode cc_M_player 92 = .ok (.aload_n 0, 1) := by decide +kernel
theorem dd_M_player_93 : decode cc_M_player 93 = .ok (.getfield 7, 3) := by decide +kernel
theorem dd_M_player_96 : decode cc_M_player 96 = .ok (.iload_n 1, 1) := by decide +kernel
theorem dd_M_player_97 : decode cc_M_player 97 = .ok (.iaload, 1) := by decide +kernel
theorem dd_M_player_98 : decode cc_M_player 98 = .ok (.ireturn, 1) := by decide +kernel
theorem dd_M_player_99 : decode cc_M_player 99 = .ok (.aload_n 0, 1) := by decide +kernel
theorem dd_M_player_100 : decode cc_M_player 100 = .ok (.getfield 72, 3) := by decide +kernel
theorem dd_M_player_103 : decode cc_M_player 103 = .ok (.iload_n 1, 1) := by decide +kernel
theorem dd_M_player_104 : decode cc_M_player 104 = .ok (.iaload, 1) := by decide +kernel
theorem dd_M_player_105 : decode cc_M_player 105 = .ok (.ireturn, 1) := by decide +kernel
theorem dd_M_player_106 : decode cc_M_player 106 = .ok (.aload_n 0, 1) := by decide +kernel
theorem dd_M_player_107 : decode cc_M_player 107 = .ok (.getfield 111, 3) := by decide +kernel
theorem dd_M_player_110 : decode cc_M_player 110 = .ok (.ifCond .eq (12), 3) := by decide +kernel
theorem dd_M_player_113 : decode cc_M_player 113 = .ok (.aload_n 0, 1) := by decide +kernel
theorem dd_M_player_114 : decode cc_M_player 114 = .ok (.getfield 75, 3) := by decide +kernel
theorem dd_M_player_117 : decode cc_M_player 117 = .ok (.iload_n 1, 1) := by decide +kernel
theorem dd_M_player_118 : decode cc_M_player 118 = .ok (.iaload, 1) := by decide +kernel
theorem dd_M_player_119 : decode cc_M_player 119 = .ok (.goto (4), 3) := by decide +kernel
theorem dd_M_player_122 : decode cc_M_player 122 = .ok (.iconst 0, 1) := by decide +kernel
theorem dd_M_player_123 : decode cc_M_player 123 = .ok (.ireturn, 1) := by decide +kernel
theorem dd_M_player_124 : decode cc_M_player 124 = .ok (.aload_n 0, 1) := by decide +kernel
theorem dd_M_player_125 : decode cc_M_player 125 = .ok (.getfield 108, 3) := by decide +kernel
theorem dd_M_player_128 : decode cc_M_player 128 = .ok (.iconst 3, 1) := by decide +kernel
theorem dd_M_player_129 : decode cc_M_player 129 = .ok (.if_icmp .le (16), 3) := by decide +kernel
theorem dd_M_player_132 : decode cc_M_player 132 = .ok (.aload_n 0, 1) := by decide +kernel
theorem dd_M_player_133 : decode cc_M_player 133 = .ok (.getfield 69, 3) := by decide +kernel
theorem dd_M_player_136 : decode cc_M_player 136 = .ok (.iload_n 1, 1) := by decide +kernel
theorem dd_M_player_137 : decode cc_M_player 137 = .ok (.baload, 1) := by decide +kernel
theorem dd_M_player_138 : decode cc_M_player 138 = .ok (.ifCond .eq (7), 3) := by decide +kernel
theorem dd_M_player_141 : decode cc_M_player 141 = .ok (.iconst 1, 1) := by decide +kernel
theorem dd_M_player_142 : decode cc_M_player 142 = .ok (.goto (4), 3) := by decide +kernel
theorem dd_M_player_145 : decode cc_M_player 145 = .ok (.iconst 0, 1) := by decide +kernel
theorem dd_M_player_146 : decode cc_M_player 146 = .ok (.ireturn, 1) := by decide +kernel
theorem dd_M_player_147 : decode cc_M_player 147 = .ok (.iload_n 3, 1) := by decide +kernel
theorem dd_M_player_148 : decode cc_M_player 148 = .ok (.ireturn, 1) := by decide +kernel
theorem dd_M_player_149 : decode cc_M_player 149 = .ok (.iconst (-1), 1) := by decide +kernel
theorem dd_M_player_150 : decode cc_M_player 150 = .ok (.ireturn, 1) := by decide +kernel
