theorem dX7_init_0 : decode cX7_init 0 = .ok (.aload_n 0, 1) := by decide +kernel
theorem dX7_init_1 : decode cX7_init 1 = .ok (.invokespecial 3, 3) := by decide +kernel
theorem dX7_init_4 : decode cX7_init 4 = .ok (.aload_n 0, 1) := by decide +kernel
theorem dX7_init_5 : decode cX7_init 5 = .ok (.sipush 398, 3) := by decide +kernel
theorem dX7_init_8 : decode cX7_init 8 = .ok (.newarray .int, 2) := by decide +kernel
theorem dX7_init_10 : decode cX7_init 10 = .ok (.putfield 9, 3) := by decide +kernel
theorem dX7_init_13 : decode cX7_init 13 = .ok (.aload_n 0, 1) := by decide +kernel
theorem dX7_init_14 : decode cX7_init 14 = .ok (.sipush 398, 3) := by decide +kernel
theorem dX7_init_17 : decode cX7_init 17 = .ok (.newarray .int, 2) := by decide +kernel
theorem dX7_init_19 : decode cX7_init 19 = .ok (.putfield 13, 3) := by decide +kernel
theorem dX7_init_22 : decode cX7_init 22 = .ok (.aload_n 0, 1) := by decide +kernel
theorem dX7_init_23 : decode cX7_init 23 = .ok (.sipush 398, 3) := by decide +kernel
theorem dX7_init_26 : decode cX7_init 26 = .ok (.newarray .int, 2) := by decide +kernel
theorem dX7_init_28 : decode cX7_init 28 = .ok (.putfield 16, 3) := by decide +kernel
theorem dX7_init_31 : decode cX7_init 31 = .ok (.aload_n 0, 1) := by decide +kernel
theorem dX7_init_32 : decode cX7_init 32 = .ok (.bipush 7, 2) := by decide +kernel
theorem dX7_init_34 : decode cX7_init 34 = .ok (.newarray .int, 2) := by decide +kernel
theorem dX7_init_36 : decode cX7_init 36 = .ok (.putfield 19, 3) := by decide +kernel
theorem dX7_init_39 : decode cX7_init 39 = .ok (.aload_n 0, 1) := by decide +kernel
theorem dX7_init_40 : decode cX7_init 40 = .ok (.iconst 4, 1) := by decide +kernel
theorem dX7_init_41 : decode cX7_init 41 = .ok (.newarray .int, 2) := by decide +kernel
theorem dX7_init_43 : decode cX7_init 43 = .ok (.putfield 22, 3) := by decide +kernel
theorem dX7_init_46 : decode cX7_init 46 = .ok (.aload_n 0, 1) := by decide +kernel
theorem dX7_init_47 : decode cX7_init 47 = .ok (.iconst 4, 1) := by decide +kernel
theorem dX7_init_48 : decode cX7_init 48 = .ok (.newarray .int, 2) := by decide +kernel
theorem dX7_init_50 : decode cX7_init 50 = .ok (.putfield 25, 3) := by decide +kernel
theorem dX7_init_53 : decode cX7_init 53 = .ok (.aload_n 0, 1) := by decide +kernel
theorem dX7_init_54 : decode cX7_init 54 = .ok (.bipush 96, 2) := by decide +kernel
theorem dX7_init_56 : decode cX7_init 56 = .ok (.newarray .int, 2) := by decide +kernel
theorem dX7_init_58 : decode cX7_init 58 = .ok (.putfield 28, 3) := by decide +kernel
theorem dX7_init_61 : decode cX7_init 61 = .ok (.aload_n 0, 1) := by decide +kernel
theorem dX7_init_62 : decode cX7_init 62 = .ok (.bipush 60, 2) := by decide +kernel
theorem dX7_init_64 : decode cX7_init 64 = .ok (.newarray .int, 2) := by decide +kernel
theorem dX7_init_66 : decode cX7_init 66 = .ok (.putfield 31, 3) := by decide +kernel
theorem dX7_init_69 : decode cX7_init 69 = .ok (.aload_n 0, 1) := by decide +kernel
theorem dX7_init_70 : decode cX7_init 70 = .ok (.bipush 60, 2) := by decide +kernel
theorem dX7_init_72 : decode cX7_init 72 = .ok (.newarray .int, 2) := by decide +kernel
theorem dX7_init_74 : decode cX7_init 74 = .ok (.putfield 34, 3) := by decide +kernel
theorem dX7_init_77 : decode cX7_init 77 = .ok (.aload_n 0, 1) := by decide +kernel
theorem dX7_init_78 : decode cX7_init 78 = .ok (.iconst 3, 1) := by decide +kernel
theorem dX7_init_79 : decode cX7_init 79 = .ok (.newarray .int, 2) := by decide +kernel
theorem dX7_init_81 : decode cX7_init 81 = .ok (.putfield 37, 3) := by decide +kernel
theorem dX7_init_84 : decode cX7_init 84 = .ok (.aload_n 0, 1) := by decide +kernel
theorem dX7_init_85 : decode cX7_init 85 = .ok (.bipush 60, 2) := by decide +kernel
theorem dX7_init_87 : decode cX7_init 87 = .ok (.newarray .int, 2) := by decide +kernel
theorem dX7_init_89 : decode cX7_init 89 = .ok (.putfield 40, 3) := by decide +kernel
theorem dX7_init_92 : decode cX7_init 92 = .ok (.aload_n 0, 1) := by decide +kernel
theorem dX7_init_93 : decode cX7_init 93 = .ok (.bipush 9, 2) := by decide +kernel
theorem dX7_init_95 : decode cX7_init 95 = .ok (.newarray .int, 2) := by decide +kernel
theorem dX7_init_97 : decode cX7_init 97 = .ok (.putfield 43, 3) := by decide +kernel
theorem dX7_init_100 : decode cX7_init 100 = .ok (.aload_n 0, 1) := by decide +kernel
theorem dX7_init_101 : decode cX7_init 101 = .ok (.bipush 30, 2) := by decide +kernel
theorem dX7_init_103 : decode cX7_init 103 = .ok (.newarray .int, 2) := by decide +kernel
theorem dX7_init_105 : decode cX7_init 105 = .ok (.putfield 46, 3) := by decide +kernel
theorem dX7_init_108 : decode cX7_init 108 = .ok (.aload_n 0, 1) := by decide +kernel
theorem dX7_init_109 : decode cX7_init 109 = .ok (.getfield 9, 3) := by decide +kernel
theorem dX7_init_112 : decode cX7_init 112 = .ok (.iconst 1, 1) := by decide +kernel
theorem dX7_init_113 : decode cX7_init 113 = .ok (.iconst 1, 1) := by decide +kernel
theorem dX7_init_114 : decode cX7_init 114 = .ok (.iastore, 1) := by decide +kernel
theorem dX7_init_115 : decode cX7_init 115 = .ok (.aload_n 0, 1) := by decide +kernel
theorem dX7_init_116 : decode cX7_init 116 = .ok (.getfield 9, 3) := by decide +kernel
theorem dX7_init_119 : decode cX7_init 119 = .ok (.iconst 3, 1) := by decide +kernel
theorem dX7_init_120 : decode cX7_init 120 = .ok (.sipush 200, 3) := by decide +kernel
theorem dX7_init_123 : decode cX7_init 123 = .ok (.iastore, 1) := by decide +kernel
theorem dX7_init_124 : decode cX7_init 124 = .ok (.return_, 1) := by decide +kernel
theorem dX7_error_0 : decode cX7_error 0 = .ok (.aload_n 0, 1) := by decide +kernel
theorem dX7_error_1 : decode cX7_error 1 = .ok (.getfield 19, 3) := by decide +kernel
theorem dX7_error_4 : decode cX7_error 4 = .ok (.ldc 49, 2) := by decide +kernel
theorem dX7_error_6 : decode cX7_error 6 = .ok (.iload_n 1, 1) := by decide +kernel
theorem dX7_error_7 : decode cX7_error 7 = .ok (.isub, 1) := by decide +kernel
theorem dX7_error_8 : decode cX7_error 8 = .ok (.dup2, 1) := by decide +kernel
theorem dX7_error_9 : decode cX7_error 9 = .ok (.iaload, 1) := by decide +kernel
theorem dX7_error_10 : decode cX7_error 10 = .ok (.iconst 1, 1) := by decide +kernel
theorem dX7_error_11 : decode cX7_error 11 = .ok (.iadd, 1) := by decide +kernel
theorem dX7_error_12 : decode cX7_error 12 = .ok (.iastore, 1) := by decide +kernel
theorem dX7_error_13 : decode cX7_error 13 = .ok (.iload_n 1, 1) := by decide +kernel
theorem dX7_error_14 : decode cX7_error 14 = .ok (.ireturn, 1) := by decide +kernel
theorem dX7_in_0 : decode cX7_in 0 = .ok (.iload_n 0, 1) := by decide +kernel
theorem dX7_in_1 : decode cX7_in 1 = .ok (.iload_n 1, 1) := by decide +kernel
theorem dX7_in_2 : decode cX7_in 2 = .ok (.if_icmp .lt 12, 3) := by decide +kernel
theorem dX7_in_5 : decode cX7_in 5 = .ok (.iload_n 0, 1) := by decide +kernel
theorem dX7_in_6 : decode cX7_in 6 = .ok (.iload_n 2, 1) := by decide +kernel
theorem dX7_in_7 : decode cX7_in 7 = .ok (.if_icmp .gt 7, 3) := by decide +kernel
theorem dX7_in_10 : decode cX7_in 10 = .ok (.iconst 1, 1) := by decide +kernel
theorem dX7_in_11 : decode cX7_in 11 = .ok (.goto 4, 3) := by decide +kernel
theorem dX7_in_14 : decode cX7_in 14 = .ok (.iconst 0, 1) := by decide +kernel
theorem dX7_in_15 : decode cX7_in 15 = .ok (.ireturn, 1) := by decide +kernel
theorem dX7_held_0 : decode cX7_held 0 = .ok (.iload_n 0, 1) := by decide +kernel
theorem dX7_held_1 : decode cX7_held 1 = .ok (.iload_n 1, 1) := by decide +kernel
theorem dX7_held_2 : decode cX7_held 2 = .ok (.if_icmp .ge 7, 3) := by decide +kernel
theorem dX7_held_5 : decode cX7_held 5 = .ok (.iload_n 1, 1) := by decide +kernel
theorem dX7_held_6 : decode cX7_held 6 = .ok (.goto 13, 3) := by decide +kernel
theorem dX7_held_9 : decode cX7_held 9 = .ok (.iload_n 0, 1) := by decide +kernel
theorem dX7_held_10 : decode cX7_held 10 = .ok (.iload_n 2, 1) := by decide +kernel
theorem dX7_held_11 : decode cX7_held 11 = .ok (.if_icmp .le 7, 3) := by decide +kernel
theorem dX7_held_14 : decode cX7_held 14 = .ok (.iload_n 2, 1) := by decide +kernel
theorem dX7_held_15 : decode cX7_held 15 = .ok (.goto 4, 3) := by decide +kernel
theorem dX7_held_18 : decode cX7_held 18 = .ok (.iload_n 0, 1) := by decide +kernel
theorem dX7_held_19 : decode cX7_held 19 = .ok (.ireturn, 1) := by decide +kernel
theorem dX7_copyAll_0 : decode cX7_copyAll 0 = .ok (.iconst 0, 1) := by decide +kernel
theorem dX7_copyAll_1 : decode cX7_copyAll 1 = .ok (.istore_n 2, 1) := by decide +kernel
theorem dX7_copyAll_2 : decode cX7_copyAll 2 = .ok (.iload_n 2, 1) := by decide +kernel
theorem dX7_copyAll_3 : decode cX7_copyAll 3 = .ok (.sipush 398, 3) := by decide +kernel
theorem dX7_copyAll_6 : decode cX7_copyAll 6 = .ok (.if_icmp .ge 15, 3) := by decide +kernel
theorem dX7_copyAll_9 : decode cX7_copyAll 9 = .ok (.aload_n 1, 1) := by decide +kernel
theorem dX7_copyAll_10 : decode cX7_copyAll 10 = .ok (.iload_n 2, 1) := by decide +kernel
theorem dX7_copyAll_11 : decode cX7_copyAll 11 = .ok (.aload_n 0, 1) := by decide +kernel
theorem dX7_copyAll_12 : decode cX7_copyAll 12 = .ok (.iload_n 2, 1) := by decide +kernel
theorem dX7_copyAll_13 : decode cX7_copyAll 13 = .ok (.iaload, 1) := by decide +kernel
theorem dX7_copyAll_14 : decode cX7_copyAll 14 = .ok (.iastore, 1) := by decide +kernel
theorem dX7_copyAll_15 : decode cX7_copyAll 15 = .ok (.iinc 2 1, 3) := by decide +kernel
theorem dX7_copyAll_18 : decode cX7_copyAll 18 = .ok (.goto (-16), 3) := by decide +kernel
theorem dX7_copyAll_21 : decode cX7_copyAll 21 = .ok (.return_, 1) := by decide +kernel
theorem dX7_thinks_0 : decode cX7_thinks 0 = .ok (.aload_n 0, 1) := by decide +kernel
theorem dX7_thinks_1 : decode cX7_thinks 1 = .ok (.getfield 9, 3) := by decide +kernel
theorem dX7_thinks_4 : decode cX7_thinks 4 = .ok (.aload_n 0, 1) := by decide +kernel
theorem dX7_thinks_5 : decode cX7_thinks 5 = .ok (.getfield 16, 3) := by decide +kernel
theorem dX7_thinks_8 : decode cX7_thinks 8 = .ok (.invokestatic 50, 3) := by decide +kernel
theorem dX7_thinks_11 : decode cX7_thinks 11 = .ok (.return_, 1) := by decide +kernel
theorem dX7_putsBack_0 : decode cX7_putsBack 0 = .ok (.aload_n 0, 1) := by decide +kernel
theorem dX7_putsBack_1 : decode cX7_putsBack 1 = .ok (.getfield 16, 3) := by decide +kernel
theorem dX7_putsBack_4 : decode cX7_putsBack 4 = .ok (.aload_n 0, 1) := by decide +kernel
theorem dX7_putsBack_5 : decode cX7_putsBack 5 = .ok (.getfield 9, 3) := by decide +kernel
theorem dX7_putsBack_8 : decode cX7_putsBack 8 = .ok (.invokestatic 50, 3) := by decide +kernel
theorem dX7_putsBack_11 : decode cX7_putsBack 11 = .ok (.return_, 1) := by decide +kernel
theorem dX7_bits_0 : decode cX7_bits 0 = .ok (.iconst 0, 1) := by decide +kernel
theorem dX7_bits_1 : decode cX7_bits 1 = .ok (.istore_n 1, 1) := by decide +kernel
theorem dX7_bits_2 : decode cX7_bits 2 = .ok (.iload_n 0, 1) := by decide +kernel
theorem dX7_bits_3 : decode cX7_bits 3 = .ok (.istore_n 2, 1) := by decide +kernel
theorem dX7_bits_4 : decode cX7_bits 4 = .ok (.iload_n 2, 1) := by decide +kernel
theorem dX7_bits_5 : decode cX7_bits 5 = .ok (.ifCond .eq 15, 3) := by decide +kernel
theorem dX7_bits_8 : decode cX7_bits 8 = .ok (.iinc 1 1, 3) := by decide +kernel
theorem dX7_bits_11 : decode cX7_bits 11 = .ok (.iload_n 2, 1) := by decide +kernel
theorem dX7_bits_12 : decode cX7_bits 12 = .ok (.iload_n 2, 1) := by decide +kernel
theorem dX7_bits_13 : decode cX7_bits 13 = .ok (.iconst 1, 1) := by decide +kernel
theorem dX7_bits_14 : decode cX7_bits 14 = .ok (.isub, 1) := by decide +kernel
theorem dX7_bits_15 : decode cX7_bits 15 = .ok (.iand, 1) := by decide +kernel
theorem dX7_bits_16 : decode cX7_bits 16 = .ok (.istore_n 2, 1) := by decide +kernel
theorem dX7_bits_17 : decode cX7_bits 17 = .ok (.goto (-13), 3) := by decide +kernel
theorem dX7_bits_20 : decode cX7_bits 20 = .ok (.iload_n 1, 1) := by decide +kernel
theorem dX7_bits_21 : decode cX7_bits 21 = .ok (.ireturn, 1) := by decide +kernel
theorem dX7_isSpan_0 : decode cX7_isSpan 0 = .ok (.iload_n 1, 1) := by decide +kernel
theorem dX7_isSpan_1 : decode cX7_isSpan 1 = .ok (.iconst 0, 1) := by decide +kernel
theorem dX7_isSpan_2 : decode cX7_isSpan 2 = .ok (.aload_n 0, 1) := by decide +kernel
theorem dX7_isSpan_3 : decode cX7_isSpan 3 = .ok (.getfield 9, 3) := by decide +kernel
theorem dX7_isSpan_6 : decode cX7_isSpan 6 = .ok (.iconst 2, 1) := by decide +kernel
theorem dX7_isSpan_7 : decode cX7_isSpan 7 = .ok (.iaload, 1) := by decide +kernel
theorem dX7_isSpan_8 : decode cX7_isSpan 8 = .ok (.iconst 1, 1) := by decide +kernel
theorem dX7_isSpan_9 : decode cX7_isSpan 9 = .ok (.isub, 1) := by decide +kernel
theorem dX7_isSpan_10 : decode cX7_isSpan 10 = .ok (.invokestatic 54, 3) := by decide +kernel
theorem dX7_isSpan_13 : decode cX7_isSpan 13 = .ok (.ireturn, 1) := by decide +kernel
theorem dX7_isPlace_0 : decode cX7_isPlace 0 = .ok (.iload_n 0, 1) := by decide +kernel
theorem dX7_isPlace_1 : decode cX7_isPlace 1 = .ok (.iconst 0, 1) := by decide +kernel
theorem dX7_isPlace_2 : decode cX7_isPlace 2 = .ok (.bipush 7, 2) := by decide +kernel
theorem dX7_isPlace_4 : decode cX7_isPlace 4 = .ok (.invokestatic 54, 3) := by decide +kernel
theorem dX7_isPlace_7 : decode cX7_isPlace 7 = .ok (.ireturn, 1) := by decide +kernel
theorem dX7_areTwo_0 : decode cX7_areTwo 0 = .ok (.iload_n 0, 1) := by decide +kernel
theorem dX7_areTwo_1 : decode cX7_areTwo 1 = .ok (.invokestatic 58, 3) := by decide +kernel
theorem dX7_areTwo_4 : decode cX7_areTwo 4 = .ok (.ifCond .eq 19, 3) := by decide +kernel
theorem dX7_areTwo_7 : decode cX7_areTwo 7 = .ok (.iload_n 1, 1) := by decide +kernel
theorem dX7_areTwo_8 : decode cX7_areTwo 8 = .ok (.invokestatic 58, 3) := by decide +kernel
theorem dX7_areTwo_11 : decode cX7_areTwo 11 = .ok (.ifCond .eq 12, 3) := by decide +kernel
theorem dX7_areTwo_14 : decode cX7_areTwo 14 = .ok (.iload_n 0, 1) := by decide +kernel
theorem dX7_areTwo_15 : decode cX7_areTwo 15 = .ok (.iload_n 1, 1) := by decide +kernel
theorem dX7_areTwo_16 : decode cX7_areTwo 16 = .ok (.if_icmp .eq 7, 3) := by decide +kernel
theorem dX7_areTwo_19 : decode cX7_areTwo 19 = .ok (.iconst 1, 1) := by decide +kernel
theorem dX7_areTwo_20 : decode cX7_areTwo 20 = .ok (.goto 4, 3) := by decide +kernel
theorem dX7_areTwo_23 : decode cX7_areTwo 23 = .ok (.iconst 0, 1) := by decide +kernel
theorem dX7_areTwo_24 : decode cX7_areTwo 24 = .ok (.ireturn, 1) := by decide +kernel
theorem dX7_isLoad_0 : decode cX7_isLoad 0 = .ok (.iload_n 0, 1) := by decide +kernel
theorem dX7_isLoad_1 : decode cX7_isLoad 1 = .ok (.iconst 0, 1) := by decide +kernel
theorem dX7_isLoad_2 : decode cX7_isLoad 2 = .ok (.bipush 99, 2) := by decide +kernel
theorem dX7_isLoad_4 : decode cX7_isLoad 4 = .ok (.invokestatic 54, 3) := by decide +kernel
theorem dX7_isLoad_7 : decode cX7_isLoad 7 = .ok (.ireturn, 1) := by decide +kernel
theorem dX7_becomes_0 : decode cX7_becomes 0 = .ok (.aload_n 0, 1) := by decide +kernel
theorem dX7_becomes_1 : decode cX7_becomes 1 = .ok (.getfield 9, 3) := by decide +kernel
theorem dX7_becomes_4 : decode cX7_becomes 4 = .ok (.iload_n 1, 1) := by decide +kernel
theorem dX7_becomes_5 : decode cX7_becomes 5 = .ok (.iaload, 1) := by decide +kernel
theorem dX7_becomes_6 : decode cX7_becomes 6 = .ok (.istore_n 3, 1) := by decide +kernel
theorem dX7_becomes_7 : decode cX7_becomes 7 = .ok (.aload_n 0, 1) := by decide +kernel
theorem dX7_becomes_8 : decode cX7_becomes 8 = .ok (.getfield 9, 3) := by decide +kernel
theorem dX7_becomes_11 : decode cX7_becomes 11 = .ok (.iload_n 1, 1) := by decide +kernel
theorem dX7_becomes_12 : decode cX7_becomes 12 = .ok (.iload_n 2, 1) := by decide +kernel
theorem dX7_becomes_13 : decode cX7_becomes 13 = .ok (.iastore, 1) := by decide +kernel
theorem dX7_becomes_14 : decode cX7_becomes 14 = .ok (.iload_n 3, 1) := by decide +kernel
theorem dX7_becomes_15 : decode cX7_becomes 15 = .ok (.ireturn, 1) := by decide +kernel
theorem dX7_of_0 : decode cX7_of 0 = .ok (.aload_n 0, 1) := by decide +kernel
theorem dX7_of_1 : decode cX7_of 1 = .ok (.getfield 9, 3) := by decide +kernel
theorem dX7_of_4 : decode cX7_of 4 = .ok (.bipush 9, 2) := by decide +kernel
theorem dX7_of_6 : decode cX7_of 6 = .ok (.bipush 7, 2) := by decide +kernel
theorem dX7_of_8 : decode cX7_of 8 = .ok (.iload_n 1, 1) := by decide +kernel
theorem dX7_of_9 : decode cX7_of 9 = .ok (.imul, 1) := by decide +kernel
theorem dX7_of_10 : decode cX7_of 10 = .ok (.iadd, 1) := by decide +kernel
theorem dX7_of_11 : decode cX7_of 11 = .ok (.iload_n 2, 1) := by decide +kernel
theorem dX7_of_12 : decode cX7_of 12 = .ok (.iadd, 1) := by decide +kernel
theorem dX7_of_13 : decode cX7_of 13 = .ok (.iaload, 1) := by decide +kernel
theorem dX7_of_14 : decode cX7_of 14 = .ok (.ireturn, 1) := by decide +kernel
theorem dX7_lets_0 : decode cX7_lets 0 = .ok (.aload_n 0, 1) := by decide +kernel
theorem dX7_lets_1 : decode cX7_lets 1 = .ok (.getfield 9, 3) := by decide +kernel
theorem dX7_lets_4 : decode cX7_lets 4 = .ok (.bipush 9, 2) := by decide +kernel
theorem dX7_lets_6 : decode cX7_lets 6 = .ok (.bipush 7, 2) := by decide +kernel
theorem dX7_lets_8 : decode cX7_lets 8 = .ok (.iload_n 1, 1) := by decide +kernel
theorem dX7_lets_9 : decode cX7_lets 9 = .ok (.imul, 1) := by decide +kernel
theorem dX7_lets_10 : decode cX7_lets 10 = .ok (.iadd, 1) := by decide +kernel
theorem dX7_lets_11 : decode cX7_lets 11 = .ok (.iload_n 2, 1) := by decide +kernel
theorem dX7_lets_12 : decode cX7_lets 12 = .ok (.iadd, 1) := by decide +kernel
theorem dX7_lets_13 : decode cX7_lets 13 = .ok (.iload_n 3, 1) := by decide +kernel
theorem dX7_lets_14 : decode cX7_lets 14 = .ok (.iastore, 1) := by decide +kernel
theorem dX7_lets_15 : decode cX7_lets 15 = .ok (.return_, 1) := by decide +kernel
theorem dX7_bearsBy_0 : decode cX7_bearsBy 0 = .ok (.aload_n 0, 1) := by decide +kernel
theorem dX7_bearsBy_1 : decode cX7_bearsBy 1 = .ok (.iload_n 1, 1) := by decide +kernel
theorem dX7_bearsBy_2 : decode cX7_bearsBy 2 = .ok (.iconst 1, 1) := by decide +kernel
theorem dX7_bearsBy_3 : decode cX7_bearsBy 3 = .ok (.invokevirtual 62, 3) := by decide +kernel
theorem dX7_bearsBy_6 : decode cX7_bearsBy 6 = .ok (.istore 4, 2) := by decide +kernel
theorem dX7_bearsBy_8 : decode cX7_bearsBy 8 = .ok (.bipush 20, 2) := by decide +kernel
theorem dX7_bearsBy_10 : decode cX7_bearsBy 10 = .ok (.iconst 2, 1) := by decide +kernel
theorem dX7_bearsBy_11 : decode cX7_bearsBy 11 = .ok (.iload_n 2, 1) := by decide +kernel
theorem dX7_bearsBy_12 : decode cX7_bearsBy 12 = .ok (.imul, 1) := by decide +kernel
theorem dX7_bearsBy_13 : decode cX7_bearsBy 13 = .ok (.isub, 1) := by decide +kernel
theorem dX7_bearsBy_14 : decode cX7_bearsBy 14 = .ok (.iconst 3, 1) := by decide +kernel
theorem dX7_bearsBy_15 : decode cX7_bearsBy 15 = .ok (.iload_n 3, 1) := by decide +kernel
theorem dX7_bearsBy_16 : decode cX7_bearsBy 16 = .ok (.imul, 1) := by decide +kernel
theorem dX7_bearsBy_17 : decode cX7_bearsBy 17 = .ok (.isub, 1) := by decide +kernel
theorem dX7_bearsBy_18 : decode cX7_bearsBy 18 = .ok (.iconst 0, 1) := by decide +kernel
theorem dX7_bearsBy_19 : decode cX7_bearsBy 19 = .ok (.bipush 20, 2) := by decide +kernel
theorem dX7_bearsBy_21 : decode cX7_bearsBy 21 = .ok (.invokestatic 66, 3) := by decide +kernel
theorem dX7_bearsBy_24 : decode cX7_bearsBy 24 = .ok (.iload 4, 2) := by decide +kernel
theorem dX7_bearsBy_26 : decode cX7_bearsBy 26 = .ok (.iadd, 1) := by decide +kernel
theorem dX7_bearsBy_27 : decode cX7_bearsBy 27 = .ok (.istore 5, 2) := by decide +kernel
theorem dX7_bearsBy_29 : decode cX7_bearsBy 29 = .ok (.iload 5, 2) := by decide +kernel
theorem dX7_bearsBy_31 : decode cX7_bearsBy 31 = .ok (.bipush 8, 2) := by decide +kernel
theorem dX7_bearsBy_33 : decode cX7_bearsBy 33 = .ok (.if_icmp .le 11, 3) := by decide +kernel
theorem dX7_bearsBy_36 : decode cX7_bearsBy 36 = .ok (.iload 5, 2) := by decide +kernel
theorem dX7_bearsBy_38 : decode cX7_bearsBy 38 = .ok (.bipush 8, 2) := by decide +kernel
theorem dX7_bearsBy_40 : decode cX7_bearsBy 40 = .ok (.isub, 1) := by decide +kernel
theorem dX7_bearsBy_41 : decode cX7_bearsBy 41 = .ok (.goto 4, 3) := by decide +kernel
theorem dX7_bearsBy_44 : decode cX7_bearsBy 44 = .ok (.iconst 0, 1) := by decide +kernel
theorem dX7_bearsBy_45 : decode cX7_bearsBy 45 = .ok (.istore 6, 2) := by decide +kernel
theorem dX7_bearsBy_47 : decode cX7_bearsBy 47 = .ok (.aload_n 0, 1) := by decide +kernel
theorem dX7_bearsBy_48 : decode cX7_bearsBy 48 = .ok (.iload_n 1, 1) := by decide +kernel
theorem dX7_bearsBy_49 : decode cX7_bearsBy 49 = .ok (.iconst 0, 1) := by decide +kernel
theorem dX7_bearsBy_50 : decode cX7_bearsBy 50 = .ok (.invokevirtual 62, 3) := by decide +kernel
theorem dX7_bearsBy_53 : decode cX7_bearsBy 53 = .ok (.tableswitch 101 1 6 #[39, 45, 48, 61, 81, 88], 39) := by decide +kernel
theorem dX7_bearsBy_92 : decode cX7_bearsBy 92 = .ok (.iload 5, 2) := by decide +kernel
theorem dX7_bearsBy_94 : decode cX7_bearsBy 94 = .ok (.bipush 10, 2) := by decide +kernel
theorem dX7_bearsBy_96 : decode cX7_bearsBy 96 = .ok (.iadd, 1) := by decide +kernel
theorem dX7_bearsBy_97 : decode cX7_bearsBy 97 = .ok (.ireturn, 1) := by decide +kernel
theorem dX7_bearsBy_98 : decode cX7_bearsBy 98 = .ok (.iload 6, 2) := by decide +kernel
theorem dX7_bearsBy_100 : decode cX7_bearsBy 100 = .ok (.ireturn, 1) := by decide +kernel
theorem dX7_bearsBy_101 : decode cX7_bearsBy 101 = .ok (.bipush 8, 2) := by decide +kernel
theorem dX7_bearsBy_103 : decode cX7_bearsBy 103 = .ok (.iconst 2, 1) := by decide +kernel
theorem dX7_bearsBy_104 : decode cX7_bearsBy 104 = .ok (.iload_n 2, 1) := by decide +kernel
theorem dX7_bearsBy_105 : decode cX7_bearsBy 105 = .ok (.imul, 1) := by decide +kernel
theorem dX7_bearsBy_106 : decode cX7_bearsBy 106 = .ok (.iadd, 1) := by decide +kernel
theorem dX7_bearsBy_107 : decode cX7_bearsBy 107 = .ok (.iconst 0, 1) := by decide +kernel
theorem dX7_bearsBy_108 : decode cX7_bearsBy 108 = .ok (.bipush 40, 2) := by decide +kernel
theorem dX7_bearsBy_110 : decode cX7_bearsBy 110 = .ok (.invokestatic 66, 3) := by decide +kernel
theorem dX7_bearsBy_113 : decode cX7_bearsBy 113 = .ok (.ireturn, 1) := by decide +kernel
theorem dX7_bearsBy_114 : decode cX7_bearsBy 114 = .ok (.iload_n 2, 1) := by decide +kernel
theorem dX7_bearsBy_115 : decode cX7_bearsBy 115 = .ok (.bipush 10, 2) := by decide +kernel
theorem dX7_bearsBy_117 : decode cX7_bearsBy 117 = .ok (.if_icmp .le 11, 3) := by decide +kernel
theorem dX7_bearsBy_120 : decode cX7_bearsBy 120 = .ok (.bipush 60, 2) := by decide +kernel
theorem dX7_bearsBy_122 : decode cX7_bearsBy 122 = .ok (.iload 4, 2) := by decide +kernel
theorem dX7_bearsBy_124 : decode cX7_bearsBy 124 = .ok (.iadd, 1) := by decide +kernel
theorem dX7_bearsBy_125 : decode cX7_bearsBy 125 = .ok (.goto 8, 3) := by decide +kernel
theorem dX7_bearsBy_128 : decode cX7_bearsBy 128 = .ok (.iload 5, 2) := by decide +kernel
theorem dX7_bearsBy_130 : decode cX7_bearsBy 130 = .ok (.bipush 10, 2) := by decide +kernel
theorem dX7_bearsBy_132 : decode cX7_bearsBy 132 = .ok (.iadd, 1) := by decide +kernel
theorem dX7_bearsBy_133 : decode cX7_bearsBy 133 = .ok (.ireturn, 1) := by decide +kernel
theorem dX7_bearsBy_134 : decode cX7_bearsBy 134 = .ok (.iload 6, 2) := by decide +kernel
theorem dX7_bearsBy_136 : decode cX7_bearsBy 136 = .ok (.iconst 2, 1) := by decide +kernel
theorem dX7_bearsBy_137 : decode cX7_bearsBy 137 = .ok (.iload_n 3, 1) := by decide +kernel
theorem dX7_bearsBy_138 : decode cX7_bearsBy 138 = .ok (.imul, 1) := by decide +kernel
theorem dX7_bearsBy_139 : decode cX7_bearsBy 139 = .ok (.iadd, 1) := by decide +kernel
theorem dX7_bearsBy_140 : decode cX7_bearsBy 140 = .ok (.ireturn, 1) := by decide +kernel
theorem dX7_bearsBy_141 : decode cX7_bearsBy 141 = .ok (.iload 5, 2) := by decide +kernel
theorem dX7_bearsBy_143 : decode cX7_bearsBy 143 = .ok (.aload_n 0, 1) := by decide +kernel
theorem dX7_bearsBy_144 : decode cX7_bearsBy 144 = .ok (.getfield 9, 3) := by decide +kernel
theorem dX7_bearsBy_147 : decode cX7_bearsBy 147 = .ok (.iconst 0, 1) := by decide +kernel
theorem dX7_bearsBy_148 : decode cX7_bearsBy 148 = .ok (.iaload, 1) := by decide +kernel
theorem dX7_bearsBy_149 : decode cX7_bearsBy 149 = .ok (.bipush 7, 2) := by decide +kernel
theorem dX7_bearsBy_151 : decode cX7_bearsBy 151 = .ok (.irem, 1) := by decide +kernel
theorem dX7_bearsBy_152 : decode cX7_bearsBy 152 = .ok (.iadd, 1) := by decide +kernel
theorem dX7_bearsBy_153 : decode cX7_bearsBy 153 = .ok (.ireturn, 1) := by decide +kernel
theorem dX7_bearsBy_154 : decode cX7_bearsBy 154 = .ok (.iload 5, 2) := by decide +kernel
theorem dX7_bearsBy_156 : decode cX7_bearsBy 156 = .ok (.ireturn, 1) := by decide +kernel
theorem dX7_bearsOf_0 : decode cX7_bearsOf 0 = .ok (.aload_n 0, 1) := by decide +kernel
theorem dX7_bearsOf_1 : decode cX7_bearsOf 1 = .ok (.iload_n 1, 1) := by decide +kernel
theorem dX7_bearsOf_2 : decode cX7_bearsOf 2 = .ok (.bipush 6, 2) := by decide +kernel
theorem dX7_bearsOf_4 : decode cX7_bearsOf 4 = .ok (.invokevirtual 62, 3) := by decide +kernel
theorem dX7_bearsOf_7 : decode cX7_bearsOf 7 = .ok (.iconst 1, 1) := by decide +kernel
theorem dX7_bearsOf_8 : decode cX7_bearsOf 8 = .ok (.if_icmp .ne 7, 3) := by decide +kernel
theorem dX7_bearsOf_11 : decode cX7_bearsOf 11 = .ok (.iconst (-1), 1) := by decide +kernel
theorem dX7_bearsOf_12 : decode cX7_bearsOf 12 = .ok (.goto 20, 3) := by decide +kernel
theorem dX7_bearsOf_15 : decode cX7_bearsOf 15 = .ok (.aload_n 0, 1) := by decide +kernel
theorem dX7_bearsOf_16 : decode cX7_bearsOf 16 = .ok (.iload_n 1, 1) := by decide +kernel
theorem dX7_bearsOf_17 : decode cX7_bearsOf 17 = .ok (.aload_n 0, 1) := by decide +kernel
theorem dX7_bearsOf_18 : decode cX7_bearsOf 18 = .ok (.iload_n 1, 1) := by decide +kernel
theorem dX7_bearsOf_19 : decode cX7_bearsOf 19 = .ok (.iconst 4, 1) := by decide +kernel
theorem dX7_bearsOf_20 : decode cX7_bearsOf 20 = .ok (.invokevirtual 62, 3) := by decide +kernel
theorem dX7_bearsOf_23 : decode cX7_bearsOf 23 = .ok (.aload_n 0, 1) := by decide +kernel
theorem dX7_bearsOf_24 : decode cX7_bearsOf 24 = .ok (.iload_n 1, 1) := by decide +kernel
theorem dX7_bearsOf_25 : decode cX7_bearsOf 25 = .ok (.iconst 5, 1) := by decide +kernel
theorem dX7_bearsOf_26 : decode cX7_bearsOf 26 = .ok (.invokevirtual 62, 3) := by decide +kernel
theorem dX7_bearsOf_29 : decode cX7_bearsOf 29 = .ok (.invokevirtual 70, 3) := by decide +kernel
theorem dX7_bearsOf_32 : decode cX7_bearsOf 32 = .ok (.ireturn, 1) := by decide +kernel
theorem dX7_takesOf_0 : decode cX7_takesOf 0 = .ok (.aload_n 0, 1) := by decide +kernel
theorem dX7_takesOf_1 : decode cX7_takesOf 1 = .ok (.iload_n 1, 1) := by decide +kernel
theorem dX7_takesOf_2 : decode cX7_takesOf 2 = .ok (.iconst 1, 1) := by decide +kernel
theorem dX7_takesOf_3 : decode cX7_takesOf 3 = .ok (.invokevirtual 62, 3) := by decide +kernel
theorem dX7_takesOf_6 : decode cX7_takesOf 6 = .ok (.istore_n 2, 1) := by decide +kernel
theorem dX7_takesOf_7 : decode cX7_takesOf 7 = .ok (.aload_n 0, 1) := by decide +kernel
theorem dX7_takesOf_8 : decode cX7_takesOf 8 = .ok (.iload_n 1, 1) := by decide +kernel
theorem dX7_takesOf_9 : decode cX7_takesOf 9 = .ok (.iconst 0, 1) := by decide +kernel
theorem dX7_takesOf_10 : decode cX7_takesOf 10 = .ok (.invokevirtual 62, 3) := by decide +kernel
theorem dX7_takesOf_13 : decode cX7_takesOf 13 = .ok (.tableswitch 73 1 6 #[39, 44, 73, 51, 55, 71], 39) := by decide +kernel
theorem dX7_takesOf_52 : decode cX7_takesOf 52 = .ok (.bipush 8, 2) := by decide +kernel
theorem dX7_takesOf_54 : decode cX7_takesOf 54 = .ok (.iload_n 2, 1) := by decide +kernel
theorem dX7_takesOf_55 : decode cX7_takesOf 55 = .ok (.iadd, 1) := by decide +kernel
theorem dX7_takesOf_56 : decode cX7_takesOf 56 = .ok (.ireturn, 1) := by decide +kernel
theorem dX7_takesOf_57 : decode cX7_takesOf 57 = .ok (.bipush 10, 2) := by decide +kernel
theorem dX7_takesOf_59 : decode cX7_takesOf 59 = .ok (.iconst 2, 1) := by decide +kernel
theorem dX7_takesOf_60 : decode cX7_takesOf 60 = .ok (.iload_n 2, 1) := by decide +kernel
theorem dX7_takesOf_61 : decode cX7_takesOf 61 = .ok (.imul, 1) := by decide +kernel
theorem dX7_takesOf_62 : decode cX7_takesOf 62 = .ok (.iadd, 1) := by decide +kernel
theorem dX7_takesOf_63 : decode cX7_takesOf 63 = .ok (.ireturn, 1) := by decide +kernel
theorem dX7_takesOf_64 : decode cX7_takesOf 64 = .ok (.iconst 4, 1) := by decide +kernel
theorem dX7_takesOf_65 : decode cX7_takesOf 65 = .ok (.iload_n 2, 1) := by decide +kernel
theorem dX7_takesOf_66 : decode cX7_takesOf 66 = .ok (.iadd, 1) := by decide +kernel
theorem dX7_takesOf_67 : decode cX7_takesOf 67 = .ok (.ireturn, 1) := by decide +kernel
theorem dX7_takesOf_68 : decode cX7_takesOf 68 = .ok (.bipush 10, 2) := by decide +kernel
theorem dX7_takesOf_70 : decode cX7_takesOf 70 = .ok (.iconst 2, 1) := by decide +kernel
theorem dX7_takesOf_71 : decode cX7_takesOf 71 = .ok (.iload_n 2, 1) := by decide +kernel
theorem dX7_takesOf_72 : decode cX7_takesOf 72 = .ok (.imul, 1) := by decide +kernel
theorem dX7_takesOf_73 : decode cX7_takesOf 73 = .ok (.iadd, 1) := by decide +kernel
theorem dX7_takesOf_74 : decode cX7_takesOf 74 = .ok (.aload_n 0, 1) := by decide +kernel
theorem dX7_takesOf_75 : decode cX7_takesOf 75 = .ok (.iload_n 1, 1) := by decide +kernel
theorem dX7_takesOf_76 : decode cX7_takesOf 76 = .ok (.iconst 4, 1) := by decide +kernel
theorem dX7_takesOf_77 : decode cX7_takesOf 77 = .ok (.invokevirtual 62, 3) := by decide +kernel
theorem dX7_takesOf_80 : decode cX7_takesOf 80 = .ok (.iconst 3, 1) := by decide +kernel
theorem dX7_takesOf_81 : decode cX7_takesOf 81 = .ok (.irem, 1) := by decide +kernel
theorem dX7_takesOf_82 : decode cX7_takesOf 82 = .ok (.iadd, 1) := by decide +kernel
theorem dX7_takesOf_83 : decode cX7_takesOf 83 = .ok (.ireturn, 1) := by decide +kernel
theorem dX7_takesOf_84 : decode cX7_takesOf 84 = .ok (.iconst 0, 1) := by decide +kernel
theorem dX7_takesOf_85 : decode cX7_takesOf 85 = .ok (.ireturn, 1) := by decide +kernel
theorem dX7_takesOf_86 : decode cX7_takesOf 86 = .ok (.iconst 5, 1) := by decide +kernel
theorem dX7_takesOf_87 : decode cX7_takesOf 87 = .ok (.iload_n 2, 1) := by decide +kernel
theorem dX7_takesOf_88 : decode cX7_takesOf 88 = .ok (.iadd, 1) := by decide +kernel
theorem dX7_takesOf_89 : decode cX7_takesOf 89 = .ok (.ireturn, 1) := by decide +kernel
theorem dX7_isKm_0 : decode cX7_isKm 0 = .ok (.iload_n 0, 1) := by decide +kernel
theorem dX7_isKm_1 : decode cX7_isKm 1 = .ok (.iconst 0, 1) := by decide +kernel
theorem dX7_isKm_2 : decode cX7_isKm 2 = .ok (.bipush 69, 2) := by decide +kernel
theorem dX7_isKm_4 : decode cX7_isKm 4 = .ok (.invokestatic 54, 3) := by decide +kernel
theorem dX7_isKm_7 : decode cX7_isKm 7 = .ok (.ireturn, 1) := by decide +kernel
theorem dX7_span_0 : decode cX7_span 0 = .ok (.iload_n 1, 1) := by decide +kernel
theorem dX7_span_1 : decode cX7_span 1 = .ok (.invokestatic 73, 3) := by decide +kernel
theorem dX7_span_4 : decode cX7_span 4 = .ok (.ifCond .eq 11, 3) := by decide +kernel
theorem dX7_span_7 : decode cX7_span 7 = .ok (.iload_n 2, 1) := by decide +kernel
theorem dX7_span_8 : decode cX7_span 8 = .ok (.iload_n 3, 1) := by decide +kernel
theorem dX7_span_9 : decode cX7_span 9 = .ok (.invokestatic 76, 3) := by decide +kernel
theorem dX7_span_12 : decode cX7_span 12 = .ok (.ifCond .ne 10, 3) := by decide +kernel
theorem dX7_span_15 : decode cX7_span 15 = .ok (.aload_n 0, 1) := by decide +kernel
theorem dX7_span_16 : decode cX7_span 16 = .ok (.ldc 80, 2) := by decide +kernel
theorem dX7_span_18 : decode cX7_span 18 = .ok (.invokevirtual 81, 3) := by decide +kernel
theorem dX7_span_21 : decode cX7_span 21 = .ok (.ireturn, 1) := by decide +kernel
theorem dX7_span_22 : decode cX7_span 22 = .ok (.aload_n 0, 1) := by decide +kernel
theorem dX7_span_23 : decode cX7_span 23 = .ok (.getfield 9, 3) := by decide +kernel
theorem dX7_span_26 : decode cX7_span 26 = .ok (.iconst 2, 1) := by decide +kernel
theorem dX7_span_27 : decode cX7_span 27 = .ok (.iaload, 1) := by decide +kernel
theorem dX7_span_28 : decode cX7_span 28 = .ok (.istore 4, 2) := by decide +kernel
theorem dX7_span_30 : decode cX7_span 30 = .ok (.iload 4, 2) := by decide +kernel
theorem dX7_span_32 : decode cX7_span 32 = .ok (.bipush 9, 2) := by decide +kernel
theorem dX7_span_34 : decode cX7_span 34 = .ok (.if_icmp .ne 10, 3) := by decide +kernel
theorem dX7_span_37 : decode cX7_span 37 = .ok (.aload_n 0, 1) := by decide +kernel
theorem dX7_span_38 : decode cX7_span 38 = .ok (.ldc 85, 2) := by decide +kernel
theorem dX7_span_40 : decode cX7_span 40 = .ok (.invokevirtual 81, 3) := by decide +kernel
theorem dX7_span_43 : decode cX7_span 43 = .ok (.ireturn, 1) := by decide +kernel
theorem dX7_span_44 : decode cX7_span 44 = .ok (.aload_n 0, 1) := by decide +kernel
theorem dX7_span_45 : decode cX7_span 45 = .ok (.getfield 9, 3) := by decide +kernel
theorem dX7_span_48 : decode cX7_span 48 = .ok (.iconst 2, 1) := by decide +kernel
theorem dX7_span_49 : decode cX7_span 49 = .ok (.dup2, 1) := by decide +kernel
theorem dX7_span_50 : decode cX7_span 50 = .ok (.iaload, 1) := by decide +kernel
theorem dX7_span_51 : decode cX7_span 51 = .ok (.iconst 1, 1) := by decide +kernel
theorem dX7_span_52 : decode cX7_span 52 = .ok (.iadd, 1) := by decide +kernel
theorem dX7_span_53 : decode cX7_span 53 = .ok (.iastore, 1) := by decide +kernel
theorem dX7_span_54 : decode cX7_span 54 = .ok (.aload_n 0, 1) := by decide +kernel
theorem dX7_span_55 : decode cX7_span 55 = .ok (.iload 4, 2) := by decide +kernel
theorem dX7_span_57 : decode cX7_span 57 = .ok (.iconst 0, 1) := by decide +kernel
theorem dX7_span_58 : decode cX7_span 58 = .ok (.iload_n 1, 1) := by decide +kernel
theorem dX7_span_59 : decode cX7_span 59 = .ok (.bipush 10, 2) := by decide +kernel
theorem dX7_span_61 : decode cX7_span 61 = .ok (.idiv, 1) := by decide +kernel
theorem dX7_span_62 : decode cX7_span 62 = .ok (.invokevirtual 86, 3) := by decide +kernel
theorem dX7_span_65 : decode cX7_span 65 = .ok (.aload_n 0, 1) := by decide +kernel
theorem dX7_span_66 : decode cX7_span 66 = .ok (.iload 4, 2) := by decide +kernel
theorem dX7_span_68 : decode cX7_span 68 = .ok (.iconst 1, 1) := by decide +kernel
theorem dX7_span_69 : decode cX7_span 69 = .ok (.iload_n 1, 1) := by decide +kernel
theorem dX7_span_70 : decode cX7_span 70 = .ok (.bipush 10, 2) := by decide +kernel
theorem dX7_span_72 : decode cX7_span 72 = .ok (.irem, 1) := by decide +kernel
theorem dX7_span_73 : decode cX7_span 73 = .ok (.invokevirtual 86, 3) := by decide +kernel
theorem dX7_span_76 : decode cX7_span 76 = .ok (.aload_n 0, 1) := by decide +kernel
theorem dX7_span_77 : decode cX7_span 77 = .ok (.iload 4, 2) := by decide +kernel
theorem dX7_span_79 : decode cX7_span 79 = .ok (.iconst 2, 1) := by decide +kernel
theorem dX7_span_80 : decode cX7_span 80 = .ok (.iload_n 2, 1) := by decide +kernel
theorem dX7_span_81 : decode cX7_span 81 = .ok (.invokevirtual 86, 3) := by decide +kernel
theorem dX7_span_84 : decode cX7_span 84 = .ok (.aload_n 0, 1) := by decide +kernel
theorem dX7_span_85 : decode cX7_span 85 = .ok (.iload 4, 2) := by decide +kernel
theorem dX7_span_87 : decode cX7_span 87 = .ok (.iconst 3, 1) := by decide +kernel
theorem dX7_span_88 : decode cX7_span 88 = .ok (.iload_n 3, 1) := by decide +kernel
theorem dX7_span_89 : decode cX7_span 89 = .ok (.invokevirtual 86, 3) := by decide +kernel
theorem dX7_span_92 : decode cX7_span 92 = .ok (.aload_n 0, 1) := by decide +kernel
theorem dX7_span_93 : decode cX7_span 93 = .ok (.iload 4, 2) := by decide +kernel
theorem dX7_span_95 : decode cX7_span 95 = .ok (.iconst 4, 1) := by decide +kernel
theorem dX7_span_96 : decode cX7_span 96 = .ok (.iconst 0, 1) := by decide +kernel
theorem dX7_span_97 : decode cX7_span 97 = .ok (.invokevirtual 86, 3) := by decide +kernel
theorem dX7_span_100 : decode cX7_span 100 = .ok (.aload_n 0, 1) := by decide +kernel
theorem dX7_span_101 : decode cX7_span 101 = .ok (.iload 4, 2) := by decide +kernel
theorem dX7_span_103 : decode cX7_span 103 = .ok (.iconst 5, 1) := by decide +kernel
theorem dX7_span_104 : decode cX7_span 104 = .ok (.iconst 0, 1) := by decide +kernel
theorem dX7_span_105 : decode cX7_span 105 = .ok (.invokevirtual 86, 3) := by decide +kernel
theorem dX7_span_108 : decode cX7_span 108 = .ok (.aload_n 0, 1) := by decide +kernel
theorem dX7_span_109 : decode cX7_span 109 = .ok (.iload 4, 2) := by decide +kernel
theorem dX7_span_111 : decode cX7_span 111 = .ok (.bipush 6, 2) := by decide +kernel
theorem dX7_span_113 : decode cX7_span 113 = .ok (.iconst 0, 1) := by decide +kernel
theorem dX7_span_114 : decode cX7_span 114 = .ok (.invokevirtual 86, 3) := by decide +kernel
theorem dX7_span_117 : decode cX7_span 117 = .ok (.iload 4, 2) := by decide +kernel
theorem dX7_span_119 : decode cX7_span 119 = .ok (.ireturn, 1) := by decide +kernel
theorem dX7_spanIs_0 : decode cX7_spanIs 0 = .ok (.aload_n 0, 1) := by decide +kernel
theorem dX7_spanIs_1 : decode cX7_spanIs 1 = .ok (.iload_n 1, 1) := by decide +kernel
theorem dX7_spanIs_2 : decode cX7_spanIs 2 = .ok (.invokevirtual 90, 3) := by decide +kernel
theorem dX7_spanIs_5 : decode cX7_spanIs 5 = .ok (.ifCond .eq 13, 3) := by decide +kernel
theorem dX7_spanIs_8 : decode cX7_spanIs 8 = .ok (.iload_n 2, 1) := by decide +kernel
theorem dX7_spanIs_9 : decode cX7_spanIs 9 = .ok (.iconst 0, 1) := by decide +kernel
theorem dX7_spanIs_10 : decode cX7_spanIs 10 = .ok (.bipush 8, 2) := by decide +kernel
theorem dX7_spanIs_12 : decode cX7_spanIs 12 = .ok (.invokestatic 54, 3) := by decide +kernel
theorem dX7_spanIs_15 : decode cX7_spanIs 15 = .ok (.ifCond .ne 10, 3) := by decide +kernel
theorem dX7_spanIs_18 : decode cX7_spanIs 18 = .ok (.aload_n 0, 1) := by decide +kernel
theorem dX7_spanIs_19 : decode cX7_spanIs 19 = .ok (.ldc 80, 2) := by decide +kernel
theorem dX7_spanIs_21 : decode cX7_spanIs 21 = .ok (.invokevirtual 81, 3) := by decide +kernel
theorem dX7_spanIs_24 : decode cX7_spanIs 24 = .ok (.ireturn, 1) := by decide +kernel
theorem dX7_spanIs_25 : decode cX7_spanIs 25 = .ok (.iload_n 2, 1) := by decide +kernel
theorem dX7_spanIs_26 : decode cX7_spanIs 26 = .ok (.bipush 7, 2) := by decide +kernel
theorem dX7_spanIs_28 : decode cX7_spanIs 28 = .ok (.if_icmp .ge 12, 3) := by decide +kernel
theorem dX7_spanIs_31 : decode cX7_spanIs 31 = .ok (.aload_n 0, 1) := by decide +kernel
theorem dX7_spanIs_32 : decode cX7_spanIs 32 = .ok (.iload_n 1, 1) := by decide +kernel
theorem dX7_spanIs_33 : decode cX7_spanIs 33 = .ok (.iload_n 2, 1) := by decide +kernel
theorem dX7_spanIs_34 : decode cX7_spanIs 34 = .ok (.invokevirtual 62, 3) := by decide +kernel
theorem dX7_spanIs_37 : decode cX7_spanIs 37 = .ok (.goto 22, 3) := by decide +kernel
theorem dX7_spanIs_40 : decode cX7_spanIs 40 = .ok (.iload_n 2, 1) := by decide +kernel
theorem dX7_spanIs_41 : decode cX7_spanIs 41 = .ok (.bipush 7, 2) := by decide +kernel
theorem dX7_spanIs_43 : decode cX7_spanIs 43 = .ok (.if_icmp .ne 11, 3) := by decide +kernel
theorem dX7_spanIs_46 : decode cX7_spanIs 46 = .ok (.aload_n 0, 1) := by decide +kernel
theorem dX7_spanIs_47 : decode cX7_spanIs 47 = .ok (.iload_n 1, 1) := by decide +kernel
theorem dX7_spanIs_48 : decode cX7_spanIs 48 = .ok (.invokevirtual 93, 3) := by decide +kernel
theorem dX7_spanIs_51 : decode cX7_spanIs 51 = .ok (.goto 8, 3) := by decide +kernel
theorem dX7_spanIs_54 : decode cX7_spanIs 54 = .ok (.aload_n 0, 1) := by decide +kernel
theorem dX7_spanIs_55 : decode cX7_spanIs 55 = .ok (.iload_n 1, 1) := by decide +kernel
theorem dX7_spanIs_56 : decode cX7_spanIs 56 = .ok (.invokevirtual 96, 3) := by decide +kernel
theorem dX7_spanIs_59 : decode cX7_spanIs 59 = .ok (.ireturn, 1) := by decide +kernel
theorem dX7_become_0 : decode cX7_become 0 = .ok (.aload_n 0, 1) := by decide +kernel
theorem dX7_become_1 : decode cX7_become 1 = .ok (.iload_n 1, 1) := by decide +kernel
theorem dX7_become_2 : decode cX7_become 2 = .ok (.invokevirtual 90, 3) := by decide +kernel
theorem dX7_become_5 : decode cX7_become 5 = .ok (.ifCond .eq 10, 3) := by decide +kernel
theorem dX7_become_8 : decode cX7_become 8 = .ok (.iload_n 2, 1) := by decide +kernel
theorem dX7_become_9 : decode cX7_become 9 = .ok (.invokestatic 73, 3) := by decide +kernel
theorem dX7_become_12 : decode cX7_become 12 = .ok (.ifCond .ne 10, 3) := by decide +kernel
theorem dX7_become_15 : decode cX7_become 15 = .ok (.aload_n 0, 1) := by decide +kernel
theorem dX7_become_16 : decode cX7_become 16 = .ok (.ldc 80, 2) := by decide +kernel
theorem dX7_become_18 : decode cX7_become 18 = .ok (.invokevirtual 81, 3) := by decide +kernel
theorem dX7_become_21 : decode cX7_become 21 = .ok (.ireturn, 1) := by decide +kernel
theorem dX7_become_22 : decode cX7_become 22 = .ok (.aload_n 0, 1) := by decide +kernel
theorem dX7_become_23 : decode cX7_become 23 = .ok (.iload_n 1, 1) := by decide +kernel
theorem dX7_become_24 : decode cX7_become 24 = .ok (.iconst 1, 1) := by decide +kernel
theorem dX7_become_25 : decode cX7_become 25 = .ok (.iload_n 2, 1) := by decide +kernel
theorem dX7_become_26 : decode cX7_become 26 = .ok (.bipush 10, 2) := by decide +kernel
theorem dX7_become_28 : decode cX7_become 28 = .ok (.irem, 1) := by decide +kernel
theorem dX7_become_29 : decode cX7_become 29 = .ok (.invokevirtual 86, 3) := by decide +kernel
theorem dX7_become_32 : decode cX7_become 32 = .ok (.aload_n 0, 1) := by decide +kernel
theorem dX7_become_33 : decode cX7_become 33 = .ok (.bipush 9, 2) := by decide +kernel
theorem dX7_become_35 : decode cX7_become 35 = .ok (.bipush 7, 2) := by decide +kernel
theorem dX7_become_37 : decode cX7_become 37 = .ok (.iload_n 1, 1) := by decide +kernel
theorem dX7_become_38 : decode cX7_become 38 = .ok (.imul, 1) := by decide +kernel
theorem dX7_become_39 : decode cX7_become 39 = .ok (.iadd, 1) := by decide +kernel
theorem dX7_become_40 : decode cX7_become 40 = .ok (.iload_n 2, 1) := by decide +kernel
theorem dX7_become_41 : decode cX7_become 41 = .ok (.bipush 10, 2) := by decide +kernel
theorem dX7_become_43 : decode cX7_become 43 = .ok (.idiv, 1) := by decide +kernel
theorem dX7_become_44 : decode cX7_become 44 = .ok (.invokevirtual 99, 3) := by decide +kernel
theorem dX7_become_47 : decode cX7_become 47 = .ok (.ireturn, 1) := by decide +kernel
theorem dX7_as_0 : decode cX7_as 0 = .ok (.aload_n 0, 1) := by decide +kernel
theorem dX7_as_1 : decode cX7_as 1 = .ok (.iload_n 1, 1) := by decide +kernel
theorem dX7_as_2 : decode cX7_as 2 = .ok (.invokevirtual 90, 3) := by decide +kernel
theorem dX7_as_5 : decode cX7_as 5 = .ok (.ifCond .eq 13, 3) := by decide +kernel
theorem dX7_as_8 : decode cX7_as 8 = .ok (.iload_n 2, 1) := by decide +kernel
theorem dX7_as_9 : decode cX7_as 9 = .ok (.iconst 0, 1) := by decide +kernel
theorem dX7_as_10 : decode cX7_as 10 = .ok (.bipush 6, 2) := by decide +kernel
theorem dX7_as_12 : decode cX7_as 12 = .ok (.invokestatic 54, 3) := by decide +kernel
theorem dX7_as_15 : decode cX7_as 15 = .ok (.ifCond .ne 10, 3) := by decide +kernel
theorem dX7_as_18 : decode cX7_as 18 = .ok (.aload_n 0, 1) := by decide +kernel
theorem dX7_as_19 : decode cX7_as 19 = .ok (.ldc 80, 2) := by decide +kernel
theorem dX7_as_21 : decode cX7_as 21 = .ok (.invokevirtual 81, 3) := by decide +kernel
theorem dX7_as_24 : decode cX7_as 24 = .ok (.ireturn, 1) := by decide +kernel
theorem dX7_as_25 : decode cX7_as 25 = .ok (.aload_n 0, 1) := by decide +kernel
theorem dX7_as_26 : decode cX7_as 26 = .ok (.iload_n 1, 1) := by decide +kernel
theorem dX7_as_27 : decode cX7_as 27 = .ok (.iconst 0, 1) := by decide +kernel
theorem dX7_as_28 : decode cX7_as 28 = .ok (.invokevirtual 62, 3) := by decide +kernel
theorem dX7_as_31 : decode cX7_as 31 = .ok (.istore_n 3, 1) := by decide +kernel
theorem dX7_as_32 : decode cX7_as 32 = .ok (.iload_n 2, 1) := by decide +kernel
theorem dX7_as_33 : decode cX7_as 33 = .ok (.ifCond .eq 28, 3) := by decide +kernel
theorem dX7_as_36 : decode cX7_as 36 = .ok (.iload_n 2, 1) := by decide +kernel
theorem dX7_as_37 : decode cX7_as 37 = .ok (.iload_n 3, 1) := by decide +kernel
theorem dX7_as_38 : decode cX7_as 38 = .ok (.if_icmp .eq 23, 3) := by decide +kernel
theorem dX7_as_41 : decode cX7_as 41 = .ok (.iload_n 2, 1) := by decide +kernel
theorem dX7_as_42 : decode cX7_as 42 = .ok (.iconst 1, 1) := by decide +kernel
theorem dX7_as_43 : decode cX7_as 43 = .ok (.if_icmp .ne 8, 3) := by decide +kernel
theorem dX7_as_46 : decode cX7_as 46 = .ok (.iload_n 3, 1) := by decide +kernel
theorem dX7_as_47 : decode cX7_as 47 = .ok (.iconst 4, 1) := by decide +kernel
theorem dX7_as_48 : decode cX7_as 48 = .ok (.if_icmp .eq 13, 3) := by decide +kernel
theorem dX7_as_51 : decode cX7_as 51 = .ok (.iload_n 2, 1) := by decide +kernel
theorem dX7_as_52 : decode cX7_as 52 = .ok (.iconst 2, 1) := by decide +kernel
theorem dX7_as_53 : decode cX7_as 53 = .ok (.if_icmp .ne 12, 3) := by decide +kernel
theorem dX7_as_56 : decode cX7_as 56 = .ok (.iload_n 3, 1) := by decide +kernel
theorem dX7_as_57 : decode cX7_as 57 = .ok (.iconst 5, 1) := by decide +kernel
theorem dX7_as_58 : decode cX7_as 58 = .ok (.if_icmp .ne 7, 3) := by decide +kernel
theorem dX7_as_61 : decode cX7_as 61 = .ok (.iconst 1, 1) := by decide +kernel
theorem dX7_as_62 : decode cX7_as 62 = .ok (.goto 4, 3) := by decide +kernel
theorem dX7_as_65 : decode cX7_as 65 = .ok (.iconst 0, 1) := by decide +kernel
theorem dX7_as_66 : decode cX7_as 66 = .ok (.istore 4, 2) := by decide +kernel
theorem dX7_as_68 : decode cX7_as 68 = .ok (.iload 4, 2) := by decide +kernel
theorem dX7_as_70 : decode cX7_as 70 = .ok (.ifCond .eq 12, 3) := by decide +kernel
theorem dX7_as_73 : decode cX7_as 73 = .ok (.aload_n 0, 1) := by decide +kernel
theorem dX7_as_74 : decode cX7_as 74 = .ok (.iload_n 1, 1) := by decide +kernel
theorem dX7_as_75 : decode cX7_as 75 = .ok (.iconst 1, 1) := by decide +kernel
theorem dX7_as_76 : decode cX7_as 76 = .ok (.invokevirtual 62, 3) := by decide +kernel
theorem dX7_as_79 : decode cX7_as 79 = .ok (.goto 9, 3) := by decide +kernel
theorem dX7_as_82 : decode cX7_as 82 = .ok (.aload_n 0, 1) := by decide +kernel
theorem dX7_as_83 : decode cX7_as 83 = .ok (.ldc 102, 2) := by decide +kernel
theorem dX7_as_85 : decode cX7_as 85 = .ok (.invokevirtual 81, 3) := by decide +kernel
theorem dX7_as_88 : decode cX7_as 88 = .ok (.ireturn, 1) := by decide +kernel
theorem dX7_soak_0 : decode cX7_soak 0 = .ok (.aload_n 0, 1) := by decide +kernel
theorem dX7_soak_1 : decode cX7_soak 1 = .ok (.iload_n 1, 1) := by decide +kernel
theorem dX7_soak_2 : decode cX7_soak 2 = .ok (.invokevirtual 90, 3) := by decide +kernel
theorem dX7_soak_5 : decode cX7_soak 5 = .ok (.ifCond .eq 30, 3) := by decide +kernel
theorem dX7_soak_8 : decode cX7_soak 8 = .ok (.iload_n 2, 1) := by decide +kernel
theorem dX7_soak_9 : decode cX7_soak 9 = .ok (.iconst 0, 1) := by decide +kernel
theorem dX7_soak_10 : decode cX7_soak 10 = .ok (.bipush 9, 2) := by decide +kernel
theorem dX7_soak_12 : decode cX7_soak 12 = .ok (.invokestatic 54, 3) := by decide +kernel
theorem dX7_soak_15 : decode cX7_soak 15 = .ok (.ifCond .eq 20, 3) := by decide +kernel
theorem dX7_soak_18 : decode cX7_soak 18 = .ok (.aload_n 0, 1) := by decide +kernel
theorem dX7_soak_19 : decode cX7_soak 19 = .ok (.bipush 9, 2) := by decide +kernel
theorem dX7_soak_21 : decode cX7_soak 21 = .ok (.bipush 7, 2) := by decide +kernel
theorem dX7_soak_23 : decode cX7_soak 23 = .ok (.iload_n 1, 1) := by decide +kernel
theorem dX7_soak_24 : decode cX7_soak 24 = .ok (.imul, 1) := by decide +kernel
theorem dX7_soak_25 : decode cX7_soak 25 = .ok (.iadd, 1) := by decide +kernel
theorem dX7_soak_26 : decode cX7_soak 26 = .ok (.iconst 5, 1) := by decide +kernel
theorem dX7_soak_27 : decode cX7_soak 27 = .ok (.iadd, 1) := by decide +kernel
theorem dX7_soak_28 : decode cX7_soak 28 = .ok (.iload_n 2, 1) := by decide +kernel
theorem dX7_soak_29 : decode cX7_soak 29 = .ok (.invokevirtual 99, 3) := by decide +kernel
theorem dX7_soak_32 : decode cX7_soak 32 = .ok (.goto 9, 3) := by decide +kernel
theorem dX7_soak_35 : decode cX7_soak 35 = .ok (.aload_n 0, 1) := by decide +kernel
theorem dX7_soak_36 : decode cX7_soak 36 = .ok (.ldc 80, 2) := by decide +kernel
theorem dX7_soak_38 : decode cX7_soak 38 = .ok (.invokevirtual 81, 3) := by decide +kernel
theorem dX7_soak_41 : decode cX7_soak 41 = .ok (.ireturn, 1) := by decide +kernel
theorem dX7_bakes_0 : decode cX7_bakes 0 = .ok (.aload_n 0, 1) := by decide +kernel
theorem dX7_bakes_1 : decode cX7_bakes 1 = .ok (.iload_n 1, 1) := by decide +kernel
theorem dX7_bakes_2 : decode cX7_bakes 2 = .ok (.invokevirtual 90, 3) := by decide +kernel
theorem dX7_bakes_5 : decode cX7_bakes 5 = .ok (.ifCond .ne 10, 3) := by decide +kernel
theorem dX7_bakes_8 : decode cX7_bakes 8 = .ok (.aload_n 0, 1) := by decide +kernel
theorem dX7_bakes_9 : decode cX7_bakes 9 = .ok (.ldc 80, 2) := by decide +kernel
theorem dX7_bakes_11 : decode cX7_bakes 11 = .ok (.invokevirtual 81, 3) := by decide +kernel
theorem dX7_bakes_14 : decode cX7_bakes 14 = .ok (.ireturn, 1) := by decide +kernel
theorem dX7_bakes_15 : decode cX7_bakes 15 = .ok (.aload_n 0, 1) := by decide +kernel
theorem dX7_bakes_16 : decode cX7_bakes 16 = .ok (.iload_n 1, 1) := by decide +kernel
theorem dX7_bakes_17 : decode cX7_bakes 17 = .ok (.invokevirtual 96, 3) := by decide +kernel
theorem dX7_bakes_20 : decode cX7_bakes 20 = .ok (.istore_n 2, 1) := by decide +kernel
theorem dX7_bakes_21 : decode cX7_bakes 21 = .ok (.aload_n 0, 1) := by decide +kernel
theorem dX7_bakes_22 : decode cX7_bakes 22 = .ok (.getfield 9, 3) := by decide +kernel
theorem dX7_bakes_25 : decode cX7_bakes 25 = .ok (.iconst 3, 1) := by decide +kernel
theorem dX7_bakes_26 : decode cX7_bakes 26 = .ok (.iaload, 1) := by decide +kernel
theorem dX7_bakes_27 : decode cX7_bakes 27 = .ok (.iload_n 2, 1) := by decide +kernel
theorem dX7_bakes_28 : decode cX7_bakes 28 = .ok (.if_icmp .ge 10, 3) := by decide +kernel
theorem dX7_bakes_31 : decode cX7_bakes 31 = .ok (.aload_n 0, 1) := by decide +kernel
theorem dX7_bakes_32 : decode cX7_bakes 32 = .ok (.ldc 103, 2) := by decide +kernel
theorem dX7_bakes_34 : decode cX7_bakes 34 = .ok (.invokevirtual 81, 3) := by decide +kernel
theorem dX7_bakes_37 : decode cX7_bakes 37 = .ok (.ireturn, 1) := by decide +kernel
theorem dX7_bakes_38 : decode cX7_bakes 38 = .ok (.aload_n 0, 1) := by decide +kernel
theorem dX7_bakes_39 : decode cX7_bakes 39 = .ok (.getfield 9, 3) := by decide +kernel
theorem dX7_bakes_42 : decode cX7_bakes 42 = .ok (.iconst 3, 1) := by decide +kernel
theorem dX7_bakes_43 : decode cX7_bakes 43 = .ok (.dup2, 1) := by decide +kernel
theorem dX7_bakes_44 : decode cX7_bakes 44 = .ok (.iaload, 1) := by decide +kernel
theorem dX7_bakes_45 : decode cX7_bakes 45 = .ok (.iload_n 2, 1) := by decide +kernel
theorem dX7_bakes_46 : decode cX7_bakes 46 = .ok (.isub, 1) := by decide +kernel
theorem dX7_bakes_47 : decode cX7_bakes 47 = .ok (.iastore, 1) := by decide +kernel
theorem dX7_bakes_48 : decode cX7_bakes 48 = .ok (.aload_n 0, 1) := by decide +kernel
theorem dX7_bakes_49 : decode cX7_bakes 49 = .ok (.iload_n 1, 1) := by decide +kernel
theorem dX7_bakes_50 : decode cX7_bakes 50 = .ok (.iconst 4, 1) := by decide +kernel
theorem dX7_bakes_51 : decode cX7_bakes 51 = .ok (.iconst 0, 1) := by decide +kernel
theorem dX7_bakes_52 : decode cX7_bakes 52 = .ok (.invokevirtual 86, 3) := by decide +kernel
theorem dX7_bakes_55 : decode cX7_bakes 55 = .ok (.aload_n 0, 1) := by decide +kernel
theorem dX7_bakes_56 : decode cX7_bakes 56 = .ok (.iload_n 1, 1) := by decide +kernel
theorem dX7_bakes_57 : decode cX7_bakes 57 = .ok (.iconst 5, 1) := by decide +kernel
theorem dX7_bakes_58 : decode cX7_bakes 58 = .ok (.iconst 0, 1) := by decide +kernel
theorem dX7_bakes_59 : decode cX7_bakes 59 = .ok (.invokevirtual 86, 3) := by decide +kernel
theorem dX7_bakes_62 : decode cX7_bakes 62 = .ok (.aload_n 0, 1) := by decide +kernel
theorem dX7_bakes_63 : decode cX7_bakes 63 = .ok (.iload_n 1, 1) := by decide +kernel
theorem dX7_bakes_64 : decode cX7_bakes 64 = .ok (.bipush 6, 2) := by decide +kernel
theorem dX7_bakes_66 : decode cX7_bakes 66 = .ok (.iconst 0, 1) := by decide +kernel
theorem dX7_bakes_67 : decode cX7_bakes 67 = .ok (.invokevirtual 86, 3) := by decide +kernel
theorem dX7_bakes_70 : decode cX7_bakes 70 = .ok (.iload_n 2, 1) := by decide +kernel
theorem dX7_bakes_71 : decode cX7_bakes 71 = .ok (.ireturn, 1) := by decide +kernel
theorem dX7_eat_0 : decode cX7_eat 0 = .ok (.aload_n 0, 1) := by decide +kernel
theorem dX7_eat_1 : decode cX7_eat 1 = .ok (.iload_n 1, 1) := by decide +kernel
theorem dX7_eat_2 : decode cX7_eat 2 = .ok (.invokevirtual 90, 3) := by decide +kernel
theorem dX7_eat_5 : decode cX7_eat 5 = .ok (.ifCond .eq 21, 3) := by decide +kernel
theorem dX7_eat_8 : decode cX7_eat 8 = .ok (.aload_n 0, 1) := by decide +kernel
theorem dX7_eat_9 : decode cX7_eat 9 = .ok (.bipush 9, 2) := by decide +kernel
theorem dX7_eat_11 : decode cX7_eat 11 = .ok (.bipush 7, 2) := by decide +kernel
theorem dX7_eat_13 : decode cX7_eat 13 = .ok (.iload_n 1, 1) := by decide +kernel
theorem dX7_eat_14 : decode cX7_eat 14 = .ok (.imul, 1) := by decide +kernel
theorem dX7_eat_15 : decode cX7_eat 15 = .ok (.iadd, 1) := by decide +kernel
theorem dX7_eat_16 : decode cX7_eat 16 = .ok (.bipush 6, 2) := by decide +kernel
theorem dX7_eat_18 : decode cX7_eat 18 = .ok (.iadd, 1) := by decide +kernel
theorem dX7_eat_19 : decode cX7_eat 19 = .ok (.iconst 1, 1) := by decide +kernel
theorem dX7_eat_20 : decode cX7_eat 20 = .ok (.invokevirtual 99, 3) := by decide +kernel
theorem dX7_eat_23 : decode cX7_eat 23 = .ok (.goto 9, 3) := by decide +kernel
theorem dX7_eat_26 : decode cX7_eat 26 = .ok (.aload_n 0, 1) := by decide +kernel
theorem dX7_eat_27 : decode cX7_eat 27 = .ok (.ldc 80, 2) := by decide +kernel
theorem dX7_eat_29 : decode cX7_eat 29 = .ok (.invokevirtual 81, 3) := by decide +kernel
theorem dX7_eat_32 : decode cX7_eat 32 = .ok (.ireturn, 1) := by decide +kernel
theorem dX7_store_0 : decode cX7_store 0 = .ok (.iload_n 1, 1) := by decide +kernel
theorem dX7_store_1 : decode cX7_store 1 = .ok (.iconst 0, 1) := by decide +kernel
theorem dX7_store_2 : decode cX7_store 2 = .ok (.iconst 1, 1) := by decide +kernel
theorem dX7_store_3 : decode cX7_store 3 = .ok (.invokestatic 54, 3) := by decide +kernel
theorem dX7_store_6 : decode cX7_store 6 = .ok (.ifCond .eq 27, 3) := by decide +kernel
theorem dX7_store_9 : decode cX7_store 9 = .ok (.iload_n 2, 1) := by decide +kernel
theorem dX7_store_10 : decode cX7_store 10 = .ok (.iconst 0, 1) := by decide +kernel
theorem dX7_store_11 : decode cX7_store 11 = .ok (.iload_n 1, 1) := by decide +kernel
theorem dX7_store_12 : decode cX7_store 12 = .ok (.ifCond .ne 9, 3) := by decide +kernel
theorem dX7_store_15 : decode cX7_store 15 = .ok (.sipush 9999, 3) := by decide +kernel
theorem dX7_store_18 : decode cX7_store 18 = .ok (.goto 5, 3) := by decide +kernel
theorem dX7_store_21 : decode cX7_store 21 = .ok (.bipush 9, 2) := by decide +kernel
theorem dX7_store_23 : decode cX7_store 23 = .ok (.invokestatic 54, 3) := by decide +kernel
theorem dX7_store_26 : decode cX7_store 26 = .ok (.ifCond .eq 7, 3) := by decide +kernel
theorem dX7_store_29 : decode cX7_store 29 = .ok (.iconst 1, 1) := by decide +kernel
theorem dX7_store_30 : decode cX7_store 30 = .ok (.goto 4, 3) := by decide +kernel
theorem dX7_store_33 : decode cX7_store 33 = .ok (.iconst 0, 1) := by decide +kernel
theorem dX7_store_34 : decode cX7_store 34 = .ok (.istore_n 3, 1) := by decide +kernel
theorem dX7_store_35 : decode cX7_store 35 = .ok (.iload_n 3, 1) := by decide +kernel
theorem dX7_store_36 : decode cX7_store 36 = .ok (.ifCond .eq 14, 3) := by decide +kernel
theorem dX7_store_39 : decode cX7_store 39 = .ok (.aload_n 0, 1) := by decide +kernel
theorem dX7_store_40 : decode cX7_store 40 = .ok (.iconst 3, 1) := by decide +kernel
theorem dX7_store_41 : decode cX7_store 41 = .ok (.iload_n 1, 1) := by decide +kernel
theorem dX7_store_42 : decode cX7_store 42 = .ok (.iadd, 1) := by decide +kernel
theorem dX7_store_43 : decode cX7_store 43 = .ok (.iload_n 2, 1) := by decide +kernel
theorem dX7_store_44 : decode cX7_store 44 = .ok (.invokevirtual 99, 3) := by decide +kernel
theorem dX7_store_47 : decode cX7_store 47 = .ok (.goto 9, 3) := by decide +kernel
theorem dX7_store_50 : decode cX7_store 50 = .ok (.aload_n 0, 1) := by decide +kernel
theorem dX7_store_51 : decode cX7_store 51 = .ok (.ldc 80, 2) := by decide +kernel
theorem dX7_store_53 : decode cX7_store 53 = .ok (.invokevirtual 81, 3) := by decide +kernel
theorem dX7_store_56 : decode cX7_store 56 = .ok (.ireturn, 1) := by decide +kernel
theorem dX7_crosses_0 : decode cX7_crosses 0 = .ok (.aload_n 0, 1) := by decide +kernel
theorem dX7_crosses_1 : decode cX7_crosses 1 = .ok (.iload_n 1, 1) := by decide +kernel
theorem dX7_crosses_2 : decode cX7_crosses 2 = .ok (.invokevirtual 93, 3) := by decide +kernel
theorem dX7_crosses_5 : decode cX7_crosses 5 = .ok (.istore_n 3, 1) := by decide +kernel
theorem dX7_crosses_6 : decode cX7_crosses 6 = .ok (.iload_n 3, 1) := by decide +kernel
theorem dX7_crosses_7 : decode cX7_crosses 7 = .ok (.iload_n 2, 1) := by decide +kernel
theorem dX7_crosses_8 : decode cX7_crosses 8 = .ok (.if_icmp .ge 33, 3) := by decide +kernel
theorem dX7_crosses_11 : decode cX7_crosses 11 = .ok (.aload_n 0, 1) := by decide +kernel
theorem dX7_crosses_12 : decode cX7_crosses 12 = .ok (.iload_n 1, 1) := by decide +kernel
theorem dX7_crosses_13 : decode cX7_crosses 13 = .ok (.bipush 6, 2) := by decide +kernel
theorem dX7_crosses_15 : decode cX7_crosses 15 = .ok (.iconst 1, 1) := by decide +kernel
theorem dX7_crosses_16 : decode cX7_crosses 16 = .ok (.invokevirtual 86, 3) := by decide +kernel
theorem dX7_crosses_19 : decode cX7_crosses 19 = .ok (.aload_n 0, 1) := by decide +kernel
theorem dX7_crosses_20 : decode cX7_crosses 20 = .ok (.getfield 9, 3) := by decide +kernel
theorem dX7_crosses_23 : decode cX7_crosses 23 = .ok (.iconst 5, 1) := by decide +kernel
theorem dX7_crosses_24 : decode cX7_crosses 24 = .ok (.aload_n 0, 1) := by decide +kernel
theorem dX7_crosses_25 : decode cX7_crosses 25 = .ok (.getfield 9, 3) := by decide +kernel
theorem dX7_crosses_28 : decode cX7_crosses 28 = .ok (.iconst 5, 1) := by decide +kernel
theorem dX7_crosses_29 : decode cX7_crosses 29 = .ok (.iaload, 1) := by decide +kernel
theorem dX7_crosses_30 : decode cX7_crosses 30 = .ok (.iload_n 2, 1) := by decide +kernel
theorem dX7_crosses_31 : decode cX7_crosses 31 = .ok (.iadd, 1) := by decide +kernel
theorem dX7_crosses_32 : decode cX7_crosses 32 = .ok (.iconst 0, 1) := by decide +kernel
theorem dX7_crosses_33 : decode cX7_crosses 33 = .ok (.ldc 104, 2) := by decide +kernel
theorem dX7_crosses_35 : decode cX7_crosses 35 = .ok (.invokestatic 66, 3) := by decide +kernel
theorem dX7_crosses_38 : decode cX7_crosses 38 = .ok (.iastore, 1) := by decide +kernel
theorem dX7_crosses_39 : decode cX7_crosses 39 = .ok (.iconst (-1), 1) := by decide +kernel
theorem dX7_crosses_40 : decode cX7_crosses 40 = .ok (.ireturn, 1) := by decide +kernel
theorem dX7_crosses_41 : decode cX7_crosses 41 = .ok (.aload_n 0, 1) := by decide +kernel
theorem dX7_crosses_42 : decode cX7_crosses 42 = .ok (.iconst 1, 1) := by decide +kernel
theorem dX7_crosses_43 : decode cX7_crosses 43 = .ok (.iload_n 2, 1) := by decide +kernel
theorem dX7_crosses_44 : decode cX7_crosses 44 = .ok (.iload_n 3, 1) := by decide +kernel
theorem dX7_crosses_45 : decode cX7_crosses 45 = .ok (.aload_n 0, 1) := by decide +kernel
theorem dX7_crosses_46 : decode cX7_crosses 46 = .ok (.iload_n 1, 1) := by decide +kernel
theorem dX7_crosses_47 : decode cX7_crosses 47 = .ok (.iconst 1, 1) := by decide +kernel
theorem dX7_crosses_48 : decode cX7_crosses 48 = .ok (.invokevirtual 62, 3) := by decide +kernel
theorem dX7_crosses_51 : decode cX7_crosses 51 = .ok (.invokevirtual 105, 3) := by decide +kernel
theorem dX7_crosses_54 : decode cX7_crosses 54 = .ok (.istore 4, 2) := by decide +kernel
theorem dX7_crosses_56 : decode cX7_crosses 56 = .ok (.aload_n 0, 1) := by decide +kernel
theorem dX7_crosses_57 : decode cX7_crosses 57 = .ok (.getfield 9, 3) := by decide +kernel
theorem dX7_crosses_60 : decode cX7_crosses 60 = .ok (.bipush 6, 2) := by decide +kernel
theorem dX7_crosses_62 : decode cX7_crosses 62 = .ok (.aload_n 0, 1) := by decide +kernel
theorem dX7_crosses_63 : decode cX7_crosses 63 = .ok (.getfield 9, 3) := by decide +kernel
theorem dX7_crosses_66 : decode cX7_crosses 66 = .ok (.bipush 6, 2) := by decide +kernel
theorem dX7_crosses_68 : decode cX7_crosses 68 = .ok (.iaload, 1) := by decide +kernel
theorem dX7_crosses_69 : decode cX7_crosses 69 = .ok (.iload 4, 2) := by decide +kernel
theorem dX7_crosses_71 : decode cX7_crosses 71 = .ok (.iadd, 1) := by decide +kernel
theorem dX7_crosses_72 : decode cX7_crosses 72 = .ok (.iconst 0, 1) := by decide +kernel
theorem dX7_crosses_73 : decode cX7_crosses 73 = .ok (.ldc 104, 2) := by decide +kernel
theorem dX7_crosses_75 : decode cX7_crosses 75 = .ok (.invokestatic 66, 3) := by decide +kernel
theorem dX7_crosses_78 : decode cX7_crosses 78 = .ok (.iastore, 1) := by decide +kernel
theorem dX7_crosses_79 : decode cX7_crosses 79 = .ok (.iload 4, 2) := by decide +kernel
theorem dX7_crosses_81 : decode cX7_crosses 81 = .ok (.ireturn, 1) := by decide +kernel
theorem dX7_cross_0 : decode cX7_cross 0 = .ok (.aload_n 0, 1) := by decide +kernel
theorem dX7_cross_1 : decode cX7_cross 1 = .ok (.iload_n 1, 1) := by decide +kernel
theorem dX7_cross_2 : decode cX7_cross 2 = .ok (.invokevirtual 90, 3) := by decide +kernel
theorem dX7_cross_5 : decode cX7_cross 5 = .ok (.ifCond .eq 10, 3) := by decide +kernel
theorem dX7_cross_8 : decode cX7_cross 8 = .ok (.iload_n 2, 1) := by decide +kernel
theorem dX7_cross_9 : decode cX7_cross 9 = .ok (.invokestatic 109, 3) := by decide +kernel
theorem dX7_cross_12 : decode cX7_cross 12 = .ok (.ifCond .ne 10, 3) := by decide +kernel
theorem dX7_cross_15 : decode cX7_cross 15 = .ok (.aload_n 0, 1) := by decide +kernel
theorem dX7_cross_16 : decode cX7_cross 16 = .ok (.ldc 80, 2) := by decide +kernel
theorem dX7_cross_18 : decode cX7_cross 18 = .ok (.invokevirtual 81, 3) := by decide +kernel
theorem dX7_cross_21 : decode cX7_cross 21 = .ok (.ireturn, 1) := by decide +kernel
theorem dX7_cross_22 : decode cX7_cross 22 = .ok (.aload_n 0, 1) := by decide +kernel
theorem dX7_cross_23 : decode cX7_cross 23 = .ok (.iload_n 1, 1) := by decide +kernel
theorem dX7_cross_24 : decode cX7_cross 24 = .ok (.bipush 6, 2) := by decide +kernel
theorem dX7_cross_26 : decode cX7_cross 26 = .ok (.invokevirtual 62, 3) := by decide +kernel
theorem dX7_cross_29 : decode cX7_cross 29 = .ok (.iconst 1, 1) := by decide +kernel
theorem dX7_cross_30 : decode cX7_cross 30 = .ok (.if_icmp .ne 12, 3) := by decide +kernel
theorem dX7_cross_33 : decode cX7_cross 33 = .ok (.aload_n 0, 1) := by decide +kernel
theorem dX7_cross_34 : decode cX7_cross 34 = .ok (.ldc 103, 2) := by decide +kernel
theorem dX7_cross_36 : decode cX7_cross 36 = .ok (.invokevirtual 81, 3) := by decide +kernel
theorem dX7_cross_39 : decode cX7_cross 39 = .ok (.goto 9, 3) := by decide +kernel
theorem dX7_cross_42 : decode cX7_cross 42 = .ok (.aload_n 0, 1) := by decide +kernel
theorem dX7_cross_43 : decode cX7_cross 43 = .ok (.iload_n 1, 1) := by decide +kernel
theorem dX7_cross_44 : decode cX7_cross 44 = .ok (.iload_n 2, 1) := by decide +kernel
theorem dX7_cross_45 : decode cX7_cross 45 = .ok (.invokevirtual 112, 3) := by decide +kernel
theorem dX7_cross_48 : decode cX7_cross 48 = .ok (.ireturn, 1) := by decide +kernel
theorem dX7_feed_0 : decode cX7_feed 0 = .ok (.iload_n 3, 1) := by decide +kernel
theorem dX7_feed_1 : decode cX7_feed 1 = .ok (.iconst 1, 1) := by decide +kernel
theorem dX7_feed_2 : decode cX7_feed 2 = .ok (.bipush 8, 2) := by decide +kernel
theorem dX7_feed_4 : decode cX7_feed 4 = .ok (.invokestatic 54, 3) := by decide +kernel
theorem dX7_feed_7 : decode cX7_feed 7 = .ok (.ifCond .ne 10, 3) := by decide +kernel
theorem dX7_feed_10 : decode cX7_feed 10 = .ok (.aload_n 0, 1) := by decide +kernel
theorem dX7_feed_11 : decode cX7_feed 11 = .ok (.ldc 80, 2) := by decide +kernel
theorem dX7_feed_13 : decode cX7_feed 13 = .ok (.invokevirtual 81, 3) := by decide +kernel
theorem dX7_feed_16 : decode cX7_feed 16 = .ok (.ireturn, 1) := by decide +kernel
theorem dX7_feed_17 : decode cX7_feed 17 = .ok (.aload_n 0, 1) := by decide +kernel
theorem dX7_feed_18 : decode cX7_feed 18 = .ok (.getfield 9, 3) := by decide +kernel
theorem dX7_feed_21 : decode cX7_feed 21 = .ok (.bipush 7, 2) := by decide +kernel
theorem dX7_feed_23 : decode cX7_feed 23 = .ok (.iaload, 1) := by decide +kernel
theorem dX7_feed_24 : decode cX7_feed 24 = .ok (.iload_n 3, 1) := by decide +kernel
theorem dX7_feed_25 : decode cX7_feed 25 = .ok (.iadd, 1) := by decide +kernel
theorem dX7_feed_26 : decode cX7_feed 26 = .ok (.bipush 60, 2) := by decide +kernel
theorem dX7_feed_28 : decode cX7_feed 28 = .ok (.if_icmp .le 10, 3) := by decide +kernel
theorem dX7_feed_31 : decode cX7_feed 31 = .ok (.aload_n 0, 1) := by decide +kernel
theorem dX7_feed_32 : decode cX7_feed 32 = .ok (.ldc 85, 2) := by decide +kernel
theorem dX7_feed_34 : decode cX7_feed 34 = .ok (.invokevirtual 81, 3) := by decide +kernel
theorem dX7_feed_37 : decode cX7_feed 37 = .ok (.ireturn, 1) := by decide +kernel
theorem dX7_feed_38 : decode cX7_feed 38 = .ok (.iconst 0, 1) := by decide +kernel
theorem dX7_feed_39 : decode cX7_feed 39 = .ok (.istore 4, 2) := by decide +kernel
theorem dX7_feed_41 : decode cX7_feed 41 = .ok (.iload 4, 2) := by decide +kernel
theorem dX7_feed_43 : decode cX7_feed 43 = .ok (.iload_n 3, 1) := by decide +kernel
theorem dX7_feed_44 : decode cX7_feed 44 = .ok (.if_icmp .ge 47, 3) := by decide +kernel
theorem dX7_feed_47 : decode cX7_feed 47 = .ok (.aload_n 0, 1) := by decide +kernel
theorem dX7_feed_48 : decode cX7_feed 48 = .ok (.getfield 9, 3) := by decide +kernel
theorem dX7_feed_51 : decode cX7_feed 51 = .ok (.bipush 72, 2) := by decide +kernel
theorem dX7_feed_53 : decode cX7_feed 53 = .ok (.aload_n 0, 1) := by decide +kernel
theorem dX7_feed_54 : decode cX7_feed 54 = .ok (.getfield 9, 3) := by decide +kernel
theorem dX7_feed_57 : decode cX7_feed 57 = .ok (.bipush 7, 2) := by decide +kernel
theorem dX7_feed_59 : decode cX7_feed 59 = .ok (.iaload, 1) := by decide +kernel
theorem dX7_feed_60 : decode cX7_feed 60 = .ok (.iadd, 1) := by decide +kernel
theorem dX7_feed_61 : decode cX7_feed 61 = .ok (.lload_n 1, 1) := by decide +kernel
theorem dX7_feed_62 : decode cX7_feed 62 = .ok (.bipush 8, 2) := by decide +kernel
theorem dX7_feed_64 : decode cX7_feed 64 = .ok (.iload 4, 2) := by decide +kernel
theorem dX7_feed_66 : decode cX7_feed 66 = .ok (.imul, 1) := by decide +kernel
theorem dX7_feed_67 : decode cX7_feed 67 = .ok (.lshr, 1) := by decide +kernel
theorem dX7_feed_68 : decode cX7_feed 68 = .ok (.ldc2_w 115, 3) := by decide +kernel
theorem dX7_feed_71 : decode cX7_feed 71 = .ok (.land, 1) := by decide +kernel
theorem dX7_feed_72 : decode cX7_feed 72 = .ok (.l2i, 1) := by decide +kernel
theorem dX7_feed_73 : decode cX7_feed 73 = .ok (.iastore, 1) := by decide +kernel
theorem dX7_feed_74 : decode cX7_feed 74 = .ok (.aload_n 0, 1) := by decide +kernel
theorem dX7_feed_75 : decode cX7_feed 75 = .ok (.getfield 9, 3) := by decide +kernel
theorem dX7_feed_78 : decode cX7_feed 78 = .ok (.bipush 7, 2) := by decide +kernel
theorem dX7_feed_80 : decode cX7_feed 80 = .ok (.dup2, 1) := by decide +kernel
theorem dX7_feed_81 : decode cX7_feed 81 = .ok (.iaload, 1) := by decide +kernel
theorem dX7_feed_82 : decode cX7_feed 82 = .ok (.iconst 1, 1) := by decide +kernel
theorem dX7_feed_83 : decode cX7_feed 83 = .ok (.iadd, 1) := by decide +kernel
theorem dX7_feed_84 : decode cX7_feed 84 = .ok (.iastore, 1) := by decide +kernel
theorem dX7_feed_85 : decode cX7_feed 85 = .ok (.iinc 4 1, 3) := by decide +kernel
theorem dX7_feed_88 : decode cX7_feed 88 = .ok (.goto (-47), 3) := by decide +kernel
theorem dX7_feed_91 : decode cX7_feed 91 = .ok (.aload_n 0, 1) := by decide +kernel
theorem dX7_feed_92 : decode cX7_feed 92 = .ok (.getfield 9, 3) := by decide +kernel
theorem dX7_feed_95 : decode cX7_feed 95 = .ok (.bipush 7, 2) := by decide +kernel
theorem dX7_feed_97 : decode cX7_feed 97 = .ok (.iaload, 1) := by decide +kernel
theorem dX7_feed_98 : decode cX7_feed 98 = .ok (.ireturn, 1) := by decide +kernel
theorem dX7_look_0 : decode cX7_look 0 = .ok (.aload_n 0, 1) := by decide +kernel
theorem dX7_look_1 : decode cX7_look 1 = .ok (.getfield 117, 3) := by decide +kernel
theorem dX7_look_4 : decode cX7_look 4 = .ok (.aload_n 0, 1) := by decide +kernel
theorem dX7_look_5 : decode cX7_look 5 = .ok (.getfield 9, 3) := by decide +kernel
theorem dX7_look_8 : decode cX7_look 8 = .ok (.bipush 7, 2) := by decide +kernel
theorem dX7_look_10 : decode cX7_look 10 = .ok (.iaload, 1) := by decide +kernel
theorem dX7_look_11 : decode cX7_look 11 = .ok (.if_icmp .ge 18, 3) := by decide +kernel
theorem dX7_look_14 : decode cX7_look 14 = .ok (.aload_n 0, 1) := by decide +kernel
theorem dX7_look_15 : decode cX7_look 15 = .ok (.getfield 9, 3) := by decide +kernel
theorem dX7_look_18 : decode cX7_look 18 = .ok (.bipush 72, 2) := by decide +kernel
theorem dX7_look_20 : decode cX7_look 20 = .ok (.aload_n 0, 1) := by decide +kernel
theorem dX7_look_21 : decode cX7_look 21 = .ok (.getfield 117, 3) := by decide +kernel
theorem dX7_look_24 : decode cX7_look 24 = .ok (.iadd, 1) := by decide +kernel
theorem dX7_look_25 : decode cX7_look 25 = .ok (.iaload, 1) := by decide +kernel
theorem dX7_look_26 : decode cX7_look 26 = .ok (.goto 4, 3) := by decide +kernel
theorem dX7_look_29 : decode cX7_look 29 = .ok (.iconst (-1), 1) := by decide +kernel
theorem dX7_look_30 : decode cX7_look 30 = .ok (.ireturn, 1) := by decide +kernel
theorem dX7_step_0 : decode cX7_step 0 = .ok (.aload_n 0, 1) := by decide +kernel
theorem dX7_step_1 : decode cX7_step 1 = .ok (.getfield 121, 3) := by decide +kernel
theorem dX7_step_4 : decode cX7_step 4 = .ok (.aload_n 0, 1) := by decide +kernel
theorem dX7_step_5 : decode cX7_step 5 = .ok (.getfield 31, 3) := by decide +kernel
theorem dX7_step_8 : decode cX7_step 8 = .ok (.arraylength, 1) := by decide +kernel
theorem dX7_step_9 : decode cX7_step 9 = .ok (.if_icmp .ge 33, 3) := by decide +kernel
theorem dX7_step_12 : decode cX7_step 12 = .ok (.aload_n 0, 1) := by decide +kernel
theorem dX7_step_13 : decode cX7_step 13 = .ok (.getfield 31, 3) := by decide +kernel
theorem dX7_step_16 : decode cX7_step 16 = .ok (.aload_n 0, 1) := by decide +kernel
theorem dX7_step_17 : decode cX7_step 17 = .ok (.getfield 121, 3) := by decide +kernel
theorem dX7_step_20 : decode cX7_step 20 = .ok (.iload_n 1, 1) := by decide +kernel
theorem dX7_step_21 : decode cX7_step 21 = .ok (.iastore, 1) := by decide +kernel
theorem dX7_step_22 : decode cX7_step 22 = .ok (.aload_n 0, 1) := by decide +kernel
theorem dX7_step_23 : decode cX7_step 23 = .ok (.getfield 34, 3) := by decide +kernel
theorem dX7_step_26 : decode cX7_step 26 = .ok (.aload_n 0, 1) := by decide +kernel
theorem dX7_step_27 : decode cX7_step 27 = .ok (.getfield 121, 3) := by decide +kernel
theorem dX7_step_30 : decode cX7_step 30 = .ok (.iload_n 2, 1) := by decide +kernel
theorem dX7_step_31 : decode cX7_step 31 = .ok (.iastore, 1) := by decide +kernel
theorem dX7_step_32 : decode cX7_step 32 = .ok (.aload_n 0, 1) := by decide +kernel
theorem dX7_step_33 : decode cX7_step 33 = .ok (.dup, 1) := by decide +kernel
theorem dX7_step_34 : decode cX7_step 34 = .ok (.getfield 121, 3) := by decide +kernel
theorem dX7_step_37 : decode cX7_step 37 = .ok (.iconst 1, 1) := by decide +kernel
theorem dX7_step_38 : decode cX7_step 38 = .ok (.iadd, 1) := by decide +kernel
theorem dX7_step_39 : decode cX7_step 39 = .ok (.putfield 121, 3) := by decide +kernel
theorem dX7_step_42 : decode cX7_step 42 = .ok (.return_, 1) := by decide +kernel
theorem dX7_nameOf_0 : decode cX7_nameOf 0 = .ok (.iload_n 1, 1) := by decide +kernel
theorem dX7_nameOf_1 : decode cX7_nameOf 1 = .ok (.lookupswitch 126 #[(98, 92), (107, 59), (108, 92), (109, 92), (114, 59), (119, 59)], 59) := by decide +kernel
theorem dX7_nameOf_60 : decode cX7_nameOf 60 = .ok (.aload_n 0, 1) := by decide +kernel
theorem dX7_nameOf_61 : decode cX7_nameOf 61 = .ok (.getfield 124, 3) := by decide +kernel
theorem dX7_nameOf_64 : decode cX7_nameOf 64 = .ok (.ifCond .eq 7, 3) := by decide +kernel
theorem dX7_nameOf_67 : decode cX7_nameOf 67 = .ok (.iconst (-1), 1) := by decide +kernel
theorem dX7_nameOf_68 : decode cX7_nameOf 68 = .ok (.goto 24, 3) := by decide +kernel
theorem dX7_nameOf_71 : decode cX7_nameOf 71 = .ok (.iload_n 1, 1) := by decide +kernel
theorem dX7_nameOf_72 : decode cX7_nameOf 72 = .ok (.bipush 114, 2) := by decide +kernel
theorem dX7_nameOf_74 : decode cX7_nameOf 74 = .ok (.if_icmp .ne 7, 3) := by decide +kernel
theorem dX7_nameOf_77 : decode cX7_nameOf 77 = .ok (.iconst 0, 1) := by decide +kernel
theorem dX7_nameOf_78 : decode cX7_nameOf 78 = .ok (.goto 14, 3) := by decide +kernel
theorem dX7_nameOf_81 : decode cX7_nameOf 81 = .ok (.iload_n 1, 1) := by decide +kernel
theorem dX7_nameOf_82 : decode cX7_nameOf 82 = .ok (.bipush 119, 2) := by decide +kernel
theorem dX7_nameOf_84 : decode cX7_nameOf 84 = .ok (.if_icmp .ne 7, 3) := by decide +kernel
theorem dX7_nameOf_87 : decode cX7_nameOf 87 = .ok (.iconst 1, 1) := by decide +kernel
theorem dX7_nameOf_88 : decode cX7_nameOf 88 = .ok (.goto 4, 3) := by decide +kernel
theorem dX7_nameOf_91 : decode cX7_nameOf 91 = .ok (.iconst 2, 1) := by decide +kernel
theorem dX7_nameOf_92 : decode cX7_nameOf 92 = .ok (.ireturn, 1) := by decide +kernel
theorem dX7_nameOf_93 : decode cX7_nameOf 93 = .ok (.aload_n 0, 1) := by decide +kernel
theorem dX7_nameOf_94 : decode cX7_nameOf 94 = .ok (.getfield 124, 3) := by decide +kernel
theorem dX7_nameOf_97 : decode cX7_nameOf 97 = .ok (.iconst 1, 1) := by decide +kernel
theorem dX7_nameOf_98 : decode cX7_nameOf 98 = .ok (.if_icmp .eq 7, 3) := by decide +kernel
theorem dX7_nameOf_101 : decode cX7_nameOf 101 = .ok (.iconst (-1), 1) := by decide +kernel
theorem dX7_nameOf_102 : decode cX7_nameOf 102 = .ok (.goto 24, 3) := by decide +kernel
theorem dX7_nameOf_105 : decode cX7_nameOf 105 = .ok (.iload_n 1, 1) := by decide +kernel
theorem dX7_nameOf_106 : decode cX7_nameOf 106 = .ok (.bipush 108, 2) := by decide +kernel
theorem dX7_nameOf_108 : decode cX7_nameOf 108 = .ok (.if_icmp .ne 7, 3) := by decide +kernel
theorem dX7_nameOf_111 : decode cX7_nameOf 111 = .ok (.iconst 0, 1) := by decide +kernel
theorem dX7_nameOf_112 : decode cX7_nameOf 112 = .ok (.goto 14, 3) := by decide +kernel
theorem dX7_nameOf_115 : decode cX7_nameOf 115 = .ok (.iload_n 1, 1) := by decide +kernel
theorem dX7_nameOf_116 : decode cX7_nameOf 116 = .ok (.bipush 98, 2) := by decide +kernel
theorem dX7_nameOf_118 : decode cX7_nameOf 118 = .ok (.if_icmp .ne 7, 3) := by decide +kernel
theorem dX7_nameOf_121 : decode cX7_nameOf 121 = .ok (.iconst 1, 1) := by decide +kernel
theorem dX7_nameOf_122 : decode cX7_nameOf 122 = .ok (.goto 4, 3) := by decide +kernel
theorem dX7_nameOf_125 : decode cX7_nameOf 125 = .ok (.iconst 2, 1) := by decide +kernel
theorem dX7_nameOf_126 : decode cX7_nameOf 126 = .ok (.ireturn, 1) := by decide +kernel
theorem dX7_nameOf_127 : decode cX7_nameOf 127 = .ok (.iconst (-1), 1) := by decide +kernel
theorem dX7_nameOf_128 : decode cX7_nameOf 128 = .ok (.ireturn, 1) := by decide +kernel
theorem dX7_number_0 : decode cX7_number 0 = .ok (.iconst 0, 1) := by decide +kernel
theorem dX7_number_1 : decode cX7_number 1 = .ok (.istore_n 1, 1) := by decide +kernel
theorem dX7_number_2 : decode cX7_number 2 = .ok (.iconst 0, 1) := by decide +kernel
theorem dX7_number_3 : decode cX7_number 3 = .ok (.istore_n 2, 1) := by decide +kernel
theorem dX7_number_4 : decode cX7_number 4 = .ok (.iload_n 2, 1) := by decide +kernel
theorem dX7_number_5 : decode cX7_number 5 = .ok (.iconst 4, 1) := by decide +kernel
theorem dX7_number_6 : decode cX7_number 6 = .ok (.if_icmp .ge 46, 3) := by decide +kernel
theorem dX7_number_9 : decode cX7_number 9 = .ok (.aload_n 0, 1) := by decide +kernel
theorem dX7_number_10 : decode cX7_number 10 = .ok (.invokevirtual 127, 3) := by decide +kernel
theorem dX7_number_13 : decode cX7_number 13 = .ok (.bipush 48, 2) := by decide +kernel
theorem dX7_number_15 : decode cX7_number 15 = .ok (.bipush 57, 2) := by decide +kernel
theorem dX7_number_17 : decode cX7_number 17 = .ok (.invokestatic 54, 3) := by decide +kernel
theorem dX7_number_20 : decode cX7_number 20 = .ok (.ifCond .eq 32, 3) := by decide +kernel
theorem dX7_number_23 : decode cX7_number 23 = .ok (.bipush 10, 2) := by decide +kernel
theorem dX7_number_25 : decode cX7_number 25 = .ok (.iload_n 1, 1) := by decide +kernel
theorem dX7_number_26 : decode cX7_number 26 = .ok (.imul, 1) := by decide +kernel
theorem dX7_number_27 : decode cX7_number 27 = .ok (.aload_n 0, 1) := by decide +kernel
theorem dX7_number_28 : decode cX7_number 28 = .ok (.invokevirtual 127, 3) := by decide +kernel
theorem dX7_number_31 : decode cX7_number 31 = .ok (.iadd, 1) := by decide +kernel
theorem dX7_number_32 : decode cX7_number 32 = .ok (.bipush 48, 2) := by decide +kernel
theorem dX7_number_34 : decode cX7_number 34 = .ok (.isub, 1) := by decide +kernel
theorem dX7_number_35 : decode cX7_number 35 = .ok (.istore_n 1, 1) := by decide +kernel
theorem dX7_number_36 : decode cX7_number 36 = .ok (.aload_n 0, 1) := by decide +kernel
theorem dX7_number_37 : decode cX7_number 37 = .ok (.dup, 1) := by decide +kernel
theorem dX7_number_38 : decode cX7_number 38 = .ok (.getfield 117, 3) := by decide +kernel
theorem dX7_number_41 : decode cX7_number 41 = .ok (.iconst 1, 1) := by decide +kernel
theorem dX7_number_42 : decode cX7_number 42 = .ok (.iadd, 1) := by decide +kernel
theorem dX7_number_43 : decode cX7_number 43 = .ok (.putfield 117, 3) := by decide +kernel
theorem dX7_number_46 : decode cX7_number 46 = .ok (.iinc 2 1, 3) := by decide +kernel
theorem dX7_number_49 : decode cX7_number 49 = .ok (.goto (-45), 3) := by decide +kernel
theorem dX7_number_52 : decode cX7_number 52 = .ok (.aload_n 0, 1) := by decide +kernel
theorem dX7_number_53 : decode cX7_number 53 = .ok (.iload_n 2, 1) := by decide +kernel
theorem dX7_number_54 : decode cX7_number 54 = .ok (.ifCond .ne 7, 3) := by decide +kernel
theorem dX7_number_57 : decode cX7_number 57 = .ok (.iconst 1, 1) := by decide +kernel
theorem dX7_number_58 : decode cX7_number 58 = .ok (.goto 4, 3) := by decide +kernel
theorem dX7_number_61 : decode cX7_number 61 = .ok (.iconst 0, 1) := by decide +kernel
theorem dX7_number_62 : decode cX7_number 62 = .ok (.putfield 131, 3) := by decide +kernel
theorem dX7_number_65 : decode cX7_number 65 = .ok (.aload_n 0, 1) := by decide +kernel
theorem dX7_number_66 : decode cX7_number 66 = .ok (.iconst 1, 1) := by decide +kernel
theorem dX7_number_67 : decode cX7_number 67 = .ok (.iload_n 1, 1) := by decide +kernel
theorem dX7_number_68 : decode cX7_number 68 = .ok (.invokevirtual 135, 3) := by decide +kernel
theorem dX7_number_71 : decode cX7_number 71 = .ok (.return_, 1) := by decide +kernel
theorem dX7_opens_0 : decode cX7_opens 0 = .ok (.aload_n 0, 1) := by decide +kernel
theorem dX7_opens_1 : decode cX7_opens 1 = .ok (.getfield 139, 3) := by decide +kernel
theorem dX7_opens_4 : decode cX7_opens 4 = .ok (.iconst 5, 1) := by decide +kernel
theorem dX7_opens_5 : decode cX7_opens 5 = .ok (.if_icmp .ne 9, 3) := by decide +kernel
theorem dX7_opens_8 : decode cX7_opens 8 = .ok (.aload_n 0, 1) := by decide +kernel
theorem dX7_opens_9 : decode cX7_opens 9 = .ok (.iconst 1, 1) := by decide +kernel
theorem dX7_opens_10 : decode cX7_opens 10 = .ok (.putfield 131, 3) := by decide +kernel
theorem dX7_opens_13 : decode cX7_opens 13 = .ok (.return_, 1) := by decide +kernel
theorem dX7_opens_14 : decode cX7_opens 14 = .ok (.aload_n 0, 1) := by decide +kernel
theorem dX7_opens_15 : decode cX7_opens 15 = .ok (.dup, 1) := by decide +kernel
theorem dX7_opens_16 : decode cX7_opens 16 = .ok (.getfield 139, 3) := by decide +kernel
theorem dX7_opens_19 : decode cX7_opens 19 = .ok (.iconst 1, 1) := by decide +kernel
theorem dX7_opens_20 : decode cX7_opens 20 = .ok (.iadd, 1) := by decide +kernel
theorem dX7_opens_21 : decode cX7_opens 21 = .ok (.putfield 139, 3) := by decide +kernel
theorem dX7_opens_24 : decode cX7_opens 24 = .ok (.aload_n 0, 1) := by decide +kernel
theorem dX7_opens_25 : decode cX7_opens 25 = .ok (.dup, 1) := by decide +kernel
theorem dX7_opens_26 : decode cX7_opens 26 = .ok (.getfield 117, 3) := by decide +kernel
theorem dX7_opens_29 : decode cX7_opens 29 = .ok (.iconst 1, 1) := by decide +kernel
theorem dX7_opens_30 : decode cX7_opens 30 = .ok (.iadd, 1) := by decide +kernel
theorem dX7_opens_31 : decode cX7_opens 31 = .ok (.putfield 117, 3) := by decide +kernel
theorem dX7_opens_34 : decode cX7_opens 34 = .ok (.iload_n 1, 1) := by decide +kernel
theorem dX7_opens_35 : decode cX7_opens 35 = .ok (.bipush 33, 2) := by decide +kernel
theorem dX7_opens_37 : decode cX7_opens 37 = .ok (.if_icmp .ne 16, 3) := by decide +kernel
theorem dX7_opens_40 : decode cX7_opens 40 = .ok (.aload_n 0, 1) := by decide +kernel
theorem dX7_opens_41 : decode cX7_opens 41 = .ok (.invokevirtual 142, 3) := by decide +kernel
theorem dX7_opens_44 : decode cX7_opens 44 = .ok (.aload_n 0, 1) := by decide +kernel
theorem dX7_opens_45 : decode cX7_opens 45 = .ok (.iconst 3, 1) := by decide +kernel
theorem dX7_opens_46 : decode cX7_opens 46 = .ok (.iconst 0, 1) := by decide +kernel
theorem dX7_opens_47 : decode cX7_opens 47 = .ok (.invokevirtual 135, 3) := by decide +kernel
theorem dX7_opens_50 : decode cX7_opens 50 = .ok (.goto 53, 3) := by decide +kernel
theorem dX7_opens_53 : decode cX7_opens 53 = .ok (.aload_n 0, 1) := by decide +kernel
theorem dX7_opens_54 : decode cX7_opens 54 = .ok (.invokevirtual 145, 3) := by decide +kernel
theorem dX7_opens_57 : decode cX7_opens 57 = .ok (.aload_n 0, 1) := by decide +kernel
theorem dX7_opens_58 : decode cX7_opens 58 = .ok (.aload_n 0, 1) := by decide +kernel
theorem dX7_opens_59 : decode cX7_opens 59 = .ok (.getfield 131, 3) := by decide +kernel
theorem dX7_opens_62 : decode cX7_opens 62 = .ok (.ifCond .ne 12, 3) := by decide +kernel
theorem dX7_opens_65 : decode cX7_opens 65 = .ok (.aload_n 0, 1) := by decide +kernel
theorem dX7_opens_66 : decode cX7_opens 66 = .ok (.invokevirtual 127, 3) := by decide +kernel
theorem dX7_opens_69 : decode cX7_opens 69 = .ok (.bipush 41, 2) := by decide +kernel
theorem dX7_opens_71 : decode cX7_opens 71 = .ok (.if_icmp .eq 7, 3) := by decide +kernel
theorem dX7_opens_74 : decode cX7_opens 74 = .ok (.iconst 1, 1) := by decide +kernel
theorem dX7_opens_75 : decode cX7_opens 75 = .ok (.goto 4, 3) := by decide +kernel
theorem dX7_opens_78 : decode cX7_opens 78 = .ok (.iconst 0, 1) := by decide +kernel
theorem dX7_opens_79 : decode cX7_opens 79 = .ok (.putfield 131, 3) := by decide +kernel
theorem dX7_opens_82 : decode cX7_opens 82 = .ok (.aload_n 0, 1) := by decide +kernel
theorem dX7_opens_83 : decode cX7_opens 83 = .ok (.dup, 1) := by decide +kernel
theorem dX7_opens_84 : decode cX7_opens 84 = .ok (.getfield 117, 3) := by decide +kernel
theorem dX7_opens_87 : decode cX7_opens 87 = .ok (.aload_n 0, 1) := by decide +kernel
theorem dX7_opens_88 : decode cX7_opens 88 = .ok (.getfield 131, 3) := by decide +kernel
theorem dX7_opens_91 : decode cX7_opens 91 = .ok (.ifCond .eq 7, 3) := by decide +kernel
theorem dX7_opens_94 : decode cX7_opens 94 = .ok (.iconst 0, 1) := by decide +kernel
theorem dX7_opens_95 : decode cX7_opens 95 = .ok (.goto 4, 3) := by decide +kernel
theorem dX7_opens_98 : decode cX7_opens 98 = .ok (.iconst 1, 1) := by decide +kernel
theorem dX7_opens_99 : decode cX7_opens 99 = .ok (.iadd, 1) := by decide +kernel
theorem dX7_opens_100 : decode cX7_opens 100 = .ok (.putfield 117, 3) := by decide +kernel
theorem dX7_opens_103 : decode cX7_opens 103 = .ok (.aload_n 0, 1) := by decide +kernel
theorem dX7_opens_104 : decode cX7_opens 104 = .ok (.dup, 1) := by decide +kernel
theorem dX7_opens_105 : decode cX7_opens 105 = .ok (.getfield 139, 3) := by decide +kernel
theorem dX7_opens_108 : decode cX7_opens 108 = .ok (.iconst 1, 1) := by decide +kernel
theorem dX7_opens_109 : decode cX7_opens 109 = .ok (.isub, 1) := by decide +kernel
theorem dX7_opens_110 : decode cX7_opens 110 = .ok (.putfield 139, 3) := by decide +kernel
theorem dX7_opens_113 : decode cX7_opens 113 = .ok (.return_, 1) := by decide +kernel
theorem dX7_one_0 : decode cX7_one 0 = .ok (.aload_n 0, 1) := by decide +kernel
theorem dX7_one_1 : decode cX7_one 1 = .ok (.invokevirtual 127, 3) := by decide +kernel
theorem dX7_one_4 : decode cX7_one 4 = .ok (.istore_n 1, 1) := by decide +kernel
theorem dX7_one_5 : decode cX7_one 5 = .ok (.aload_n 0, 1) := by decide +kernel
theorem dX7_one_6 : decode cX7_one 6 = .ok (.iload_n 1, 1) := by decide +kernel
theorem dX7_one_7 : decode cX7_one 7 = .ok (.invokevirtual 148, 3) := by decide +kernel
theorem dX7_one_10 : decode cX7_one 10 = .ok (.istore_n 2, 1) := by decide +kernel
theorem dX7_one_11 : decode cX7_one 11 = .ok (.iload_n 2, 1) := by decide +kernel
theorem dX7_one_12 : decode cX7_one 12 = .ok (.ifCond .lt 22, 3) := by decide +kernel
theorem dX7_one_15 : decode cX7_one 15 = .ok (.aload_n 0, 1) := by decide +kernel
theorem dX7_one_16 : decode cX7_one 16 = .ok (.dup, 1) := by decide +kernel
theorem dX7_one_17 : decode cX7_one 17 = .ok (.getfield 117, 3) := by decide +kernel
theorem dX7_one_20 : decode cX7_one 20 = .ok (.iconst 1, 1) := by decide +kernel
theorem dX7_one_21 : decode cX7_one 21 = .ok (.iadd, 1) := by decide +kernel
theorem dX7_one_22 : decode cX7_one 22 = .ok (.putfield 117, 3) := by decide +kernel
theorem dX7_one_25 : decode cX7_one 25 = .ok (.aload_n 0, 1) := by decide +kernel
theorem dX7_one_26 : decode cX7_one 26 = .ok (.iconst 2, 1) := by decide +kernel
theorem dX7_one_27 : decode cX7_one 27 = .ok (.iload_n 2, 1) := by decide +kernel
theorem dX7_one_28 : decode cX7_one 28 = .ok (.invokevirtual 135, 3) := by decide +kernel
theorem dX7_one_31 : decode cX7_one 31 = .ok (.goto 27, 3) := by decide +kernel
theorem dX7_one_34 : decode cX7_one 34 = .ok (.iload_n 1, 1) := by decide +kernel
theorem dX7_one_35 : decode cX7_one 35 = .ok (.bipush 33, 2) := by decide +kernel
theorem dX7_one_37 : decode cX7_one 37 = .ok (.if_icmp .eq 9, 3) := by decide +kernel
theorem dX7_one_40 : decode cX7_one 40 = .ok (.iload_n 1, 1) := by decide +kernel
theorem dX7_one_41 : decode cX7_one 41 = .ok (.bipush 40, 2) := by decide +kernel
theorem dX7_one_43 : decode cX7_one 43 = .ok (.if_icmp .ne 11, 3) := by decide +kernel
theorem dX7_one_46 : decode cX7_one 46 = .ok (.aload_n 0, 1) := by decide +kernel
theorem dX7_one_47 : decode cX7_one 47 = .ok (.iload_n 1, 1) := by decide +kernel
theorem dX7_one_48 : decode cX7_one 48 = .ok (.invokevirtual 151, 3) := by decide +kernel
theorem dX7_one_51 : decode cX7_one 51 = .ok (.goto 7, 3) := by decide +kernel
theorem dX7_one_54 : decode cX7_one 54 = .ok (.aload_n 0, 1) := by decide +kernel
theorem dX7_one_55 : decode cX7_one 55 = .ok (.invokevirtual 155, 3) := by decide +kernel
theorem dX7_one_58 : decode cX7_one 58 = .ok (.return_, 1) := by decide +kernel
theorem dX7_times_0 : decode cX7_times 0 = .ok (.aload_n 0, 1) := by decide +kernel
theorem dX7_times_1 : decode cX7_times 1 = .ok (.invokevirtual 142, 3) := by decide +kernel
theorem dX7_times_4 : decode cX7_times 4 = .ok (.aload_n 0, 1) := by decide +kernel
theorem dX7_times_5 : decode cX7_times 5 = .ok (.getfield 131, 3) := by decide +kernel
theorem dX7_times_8 : decode cX7_times 8 = .ok (.ifCond .ne 58, 3) := by decide +kernel
theorem dX7_times_11 : decode cX7_times 11 = .ok (.aload_n 0, 1) := by decide +kernel
theorem dX7_times_12 : decode cX7_times 12 = .ok (.invokevirtual 127, 3) := by decide +kernel
theorem dX7_times_15 : decode cX7_times 15 = .ok (.bipush 42, 2) := by decide +kernel
theorem dX7_times_17 : decode cX7_times 17 = .ok (.if_icmp .eq 21, 3) := by decide +kernel
theorem dX7_times_20 : decode cX7_times 20 = .ok (.aload_n 0, 1) := by decide +kernel
theorem dX7_times_21 : decode cX7_times 21 = .ok (.invokevirtual 127, 3) := by decide +kernel
theorem dX7_times_24 : decode cX7_times 24 = .ok (.bipush 47, 2) := by decide +kernel
theorem dX7_times_26 : decode cX7_times 26 = .ok (.if_icmp .eq 12, 3) := by decide +kernel
theorem dX7_times_29 : decode cX7_times 29 = .ok (.aload_n 0, 1) := by decide +kernel
theorem dX7_times_30 : decode cX7_times 30 = .ok (.invokevirtual 127, 3) := by decide +kernel
theorem dX7_times_33 : decode cX7_times 33 = .ok (.bipush 37, 2) := by decide +kernel
theorem dX7_times_35 : decode cX7_times 35 = .ok (.if_icmp .ne 31, 3) := by decide +kernel
theorem dX7_times_38 : decode cX7_times 38 = .ok (.aload_n 0, 1) := by decide +kernel
theorem dX7_times_39 : decode cX7_times 39 = .ok (.invokevirtual 127, 3) := by decide +kernel
theorem dX7_times_42 : decode cX7_times 42 = .ok (.istore_n 1, 1) := by decide +kernel
theorem dX7_times_43 : decode cX7_times 43 = .ok (.aload_n 0, 1) := by decide +kernel
theorem dX7_times_44 : decode cX7_times 44 = .ok (.dup, 1) := by decide +kernel
theorem dX7_times_45 : decode cX7_times 45 = .ok (.getfield 117, 3) := by decide +kernel
theorem dX7_times_48 : decode cX7_times 48 = .ok (.iconst 1, 1) := by decide +kernel
theorem dX7_times_49 : decode cX7_times 49 = .ok (.iadd, 1) := by decide +kernel
theorem dX7_times_50 : decode cX7_times 50 = .ok (.putfield 117, 3) := by decide +kernel
theorem dX7_times_53 : decode cX7_times 53 = .ok (.aload_n 0, 1) := by decide +kernel
theorem dX7_times_54 : decode cX7_times 54 = .ok (.invokevirtual 142, 3) := by decide +kernel
theorem dX7_times_57 : decode cX7_times 57 = .ok (.aload_n 0, 1) := by decide +kernel
theorem dX7_times_58 : decode cX7_times 58 = .ok (.iload_n 1, 1) := by decide +kernel
theorem dX7_times_59 : decode cX7_times 59 = .ok (.iconst 0, 1) := by decide +kernel
theorem dX7_times_60 : decode cX7_times 60 = .ok (.invokevirtual 135, 3) := by decide +kernel
theorem dX7_times_63 : decode cX7_times 63 = .ok (.goto (-59), 3) := by decide +kernel
theorem dX7_times_66 : decode cX7_times 66 = .ok (.return_, 1) := by decide +kernel
theorem dX7_sum_0 : decode cX7_sum 0 = .ok (.aload_n 0, 1) := by decide +kernel
theorem dX7_sum_1 : decode cX7_sum 1 = .ok (.invokevirtual 158, 3) := by decide +kernel
theorem dX7_sum_4 : decode cX7_sum 4 = .ok (.aload_n 0, 1) := by decide +kernel
theorem dX7_sum_5 : decode cX7_sum 5 = .ok (.getfield 131, 3) := by decide +kernel
theorem dX7_sum_8 : decode cX7_sum 8 = .ok (.ifCond .ne 49, 3) := by decide +kernel
theorem dX7_sum_11 : decode cX7_sum 11 = .ok (.aload_n 0, 1) := by decide +kernel
theorem dX7_sum_12 : decode cX7_sum 12 = .ok (.invokevirtual 127, 3) := by decide +kernel
theorem dX7_sum_15 : decode cX7_sum 15 = .ok (.bipush 43, 2) := by decide +kernel
theorem dX7_sum_17 : decode cX7_sum 17 = .ok (.if_icmp .eq 12, 3) := by decide +kernel
theorem dX7_sum_20 : decode cX7_sum 20 = .ok (.aload_n 0, 1) := by decide +kernel
theorem dX7_sum_21 : decode cX7_sum 21 = .ok (.invokevirtual 127, 3) := by decide +kernel
theorem dX7_sum_24 : decode cX7_sum 24 = .ok (.bipush 45, 2) := by decide +kernel
theorem dX7_sum_26 : decode cX7_sum 26 = .ok (.if_icmp .ne 31, 3) := by decide +kernel
theorem dX7_sum_29 : decode cX7_sum 29 = .ok (.aload_n 0, 1) := by decide +kernel
theorem dX7_sum_30 : decode cX7_sum 30 = .ok (.invokevirtual 127, 3) := by decide +kernel
theorem dX7_sum_33 : decode cX7_sum 33 = .ok (.istore_n 1, 1) := by decide +kernel
theorem dX7_sum_34 : decode cX7_sum 34 = .ok (.aload_n 0, 1) := by decide +kernel
theorem dX7_sum_35 : decode cX7_sum 35 = .ok (.dup, 1) := by decide +kernel
theorem dX7_sum_36 : decode cX7_sum 36 = .ok (.getfield 117, 3) := by decide +kernel
theorem dX7_sum_39 : decode cX7_sum 39 = .ok (.iconst 1, 1) := by decide +kernel
theorem dX7_sum_40 : decode cX7_sum 40 = .ok (.iadd, 1) := by decide +kernel
theorem dX7_sum_41 : decode cX7_sum 41 = .ok (.putfield 117, 3) := by decide +kernel
theorem dX7_sum_44 : decode cX7_sum 44 = .ok (.aload_n 0, 1) := by decide +kernel
theorem dX7_sum_45 : decode cX7_sum 45 = .ok (.invokevirtual 158, 3) := by decide +kernel
theorem dX7_sum_48 : decode cX7_sum 48 = .ok (.aload_n 0, 1) := by decide +kernel
theorem dX7_sum_49 : decode cX7_sum 49 = .ok (.iload_n 1, 1) := by decide +kernel
theorem dX7_sum_50 : decode cX7_sum 50 = .ok (.iconst 0, 1) := by decide +kernel
theorem dX7_sum_51 : decode cX7_sum 51 = .ok (.invokevirtual 135, 3) := by decide +kernel
theorem dX7_sum_54 : decode cX7_sum 54 = .ok (.goto (-50), 3) := by decide +kernel
theorem dX7_sum_57 : decode cX7_sum 57 = .ok (.return_, 1) := by decide +kernel
theorem dX7_compares_0 : decode cX7_compares 0 = .ok (.aload_n 0, 1) := by decide +kernel
theorem dX7_compares_1 : decode cX7_compares 1 = .ok (.invokevirtual 161, 3) := by decide +kernel
theorem dX7_compares_4 : decode cX7_compares 4 = .ok (.aload_n 0, 1) := by decide +kernel
theorem dX7_compares_5 : decode cX7_compares 5 = .ok (.invokevirtual 127, 3) := by decide +kernel
theorem dX7_compares_8 : decode cX7_compares 8 = .ok (.istore_n 1, 1) := by decide +kernel
theorem dX7_compares_9 : decode cX7_compares 9 = .ok (.aload_n 0, 1) := by decide +kernel
theorem dX7_compares_10 : decode cX7_compares 10 = .ok (.getfield 131, 3) := by decide +kernel
theorem dX7_compares_13 : decode cX7_compares 13 = .ok (.ifCond .ne 41, 3) := by decide +kernel
theorem dX7_compares_16 : decode cX7_compares 16 = .ok (.iload_n 1, 1) := by decide +kernel
theorem dX7_compares_17 : decode cX7_compares 17 = .ok (.bipush 60, 2) := by decide +kernel
theorem dX7_compares_19 : decode cX7_compares 19 = .ok (.if_icmp .eq 15, 3) := by decide +kernel
theorem dX7_compares_22 : decode cX7_compares 22 = .ok (.iload_n 1, 1) := by decide +kernel
theorem dX7_compares_23 : decode cX7_compares 23 = .ok (.bipush 61, 2) := by decide +kernel
theorem dX7_compares_25 : decode cX7_compares 25 = .ok (.if_icmp .eq 9, 3) := by decide +kernel
theorem dX7_compares_28 : decode cX7_compares 28 = .ok (.iload_n 1, 1) := by decide +kernel
theorem dX7_compares_29 : decode cX7_compares 29 = .ok (.bipush 62, 2) := by decide +kernel
theorem dX7_compares_31 : decode cX7_compares 31 = .ok (.if_icmp .ne 23, 3) := by decide +kernel
theorem dX7_compares_34 : decode cX7_compares 34 = .ok (.aload_n 0, 1) := by decide +kernel
theorem dX7_compares_35 : decode cX7_compares 35 = .ok (.dup, 1) := by decide +kernel
theorem dX7_compares_36 : decode cX7_compares 36 = .ok (.getfield 117, 3) := by decide +kernel
theorem dX7_compares_39 : decode cX7_compares 39 = .ok (.iconst 1, 1) := by decide +kernel
theorem dX7_compares_40 : decode cX7_compares 40 = .ok (.iadd, 1) := by decide +kernel
theorem dX7_compares_41 : decode cX7_compares 41 = .ok (.putfield 117, 3) := by decide +kernel
theorem dX7_compares_44 : decode cX7_compares 44 = .ok (.aload_n 0, 1) := by decide +kernel
theorem dX7_compares_45 : decode cX7_compares 45 = .ok (.invokevirtual 161, 3) := by decide +kernel
theorem dX7_compares_48 : decode cX7_compares 48 = .ok (.aload_n 0, 1) := by decide +kernel
theorem dX7_compares_49 : decode cX7_compares 49 = .ok (.iload_n 1, 1) := by decide +kernel
theorem dX7_compares_50 : decode cX7_compares 50 = .ok (.iconst 0, 1) := by decide +kernel
theorem dX7_compares_51 : decode cX7_compares 51 = .ok (.invokevirtual 135, 3) := by decide +kernel
theorem dX7_compares_54 : decode cX7_compares 54 = .ok (.return_, 1) := by decide +kernel
theorem dX7_all_0 : decode cX7_all 0 = .ok (.aload_n 0, 1) := by decide +kernel
theorem dX7_all_1 : decode cX7_all 1 = .ok (.invokevirtual 164, 3) := by decide +kernel
theorem dX7_all_4 : decode cX7_all 4 = .ok (.aload_n 0, 1) := by decide +kernel
theorem dX7_all_5 : decode cX7_all 5 = .ok (.getfield 131, 3) := by decide +kernel
theorem dX7_all_8 : decode cX7_all 8 = .ok (.ifCond .ne 36, 3) := by decide +kernel
theorem dX7_all_11 : decode cX7_all 11 = .ok (.aload_n 0, 1) := by decide +kernel
theorem dX7_all_12 : decode cX7_all 12 = .ok (.invokevirtual 127, 3) := by decide +kernel
theorem dX7_all_15 : decode cX7_all 15 = .ok (.bipush 38, 2) := by decide +kernel
theorem dX7_all_17 : decode cX7_all 17 = .ok (.if_icmp .ne 27, 3) := by decide +kernel
theorem dX7_all_20 : decode cX7_all 20 = .ok (.aload_n 0, 1) := by decide +kernel
theorem dX7_all_21 : decode cX7_all 21 = .ok (.dup, 1) := by decide +kernel
theorem dX7_all_22 : decode cX7_all 22 = .ok (.getfield 117, 3) := by decide +kernel
theorem dX7_all_25 : decode cX7_all 25 = .ok (.iconst 1, 1) := by decide +kernel
theorem dX7_all_26 : decode cX7_all 26 = .ok (.iadd, 1) := by decide +kernel
theorem dX7_all_27 : decode cX7_all 27 = .ok (.putfield 117, 3) := by decide +kernel
theorem dX7_all_30 : decode cX7_all 30 = .ok (.aload_n 0, 1) := by decide +kernel
theorem dX7_all_31 : decode cX7_all 31 = .ok (.invokevirtual 164, 3) := by decide +kernel
theorem dX7_all_34 : decode cX7_all 34 = .ok (.aload_n 0, 1) := by decide +kernel
theorem dX7_all_35 : decode cX7_all 35 = .ok (.bipush 38, 2) := by decide +kernel
theorem dX7_all_37 : decode cX7_all 37 = .ok (.iconst 0, 1) := by decide +kernel
theorem dX7_all_38 : decode cX7_all 38 = .ok (.invokevirtual 135, 3) := by decide +kernel
theorem dX7_all_41 : decode cX7_all 41 = .ok (.goto (-37), 3) := by decide +kernel
theorem dX7_all_44 : decode cX7_all 44 = .ok (.return_, 1) := by decide +kernel
theorem dX7_any_0 : decode cX7_any 0 = .ok (.aload_n 0, 1) := by decide +kernel
theorem dX7_any_1 : decode cX7_any 1 = .ok (.invokevirtual 167, 3) := by decide +kernel
theorem dX7_any_4 : decode cX7_any 4 = .ok (.aload_n 0, 1) := by decide +kernel
theorem dX7_any_5 : decode cX7_any 5 = .ok (.getfield 131, 3) := by decide +kernel
theorem dX7_any_8 : decode cX7_any 8 = .ok (.ifCond .ne 36, 3) := by decide +kernel
theorem dX7_any_11 : decode cX7_any 11 = .ok (.aload_n 0, 1) := by decide +kernel
theorem dX7_any_12 : decode cX7_any 12 = .ok (.invokevirtual 127, 3) := by decide +kernel
theorem dX7_any_15 : decode cX7_any 15 = .ok (.bipush 124, 2) := by decide +kernel
theorem dX7_any_17 : decode cX7_any 17 = .ok (.if_icmp .ne 27, 3) := by decide +kernel
theorem dX7_any_20 : decode cX7_any 20 = .ok (.aload_n 0, 1) := by decide +kernel
theorem dX7_any_21 : decode cX7_any 21 = .ok (.dup, 1) := by decide +kernel
theorem dX7_any_22 : decode cX7_any 22 = .ok (.getfield 117, 3) := by decide +kernel
theorem dX7_any_25 : decode cX7_any 25 = .ok (.iconst 1, 1) := by decide +kernel
theorem dX7_any_26 : decode cX7_any 26 = .ok (.iadd, 1) := by decide +kernel
theorem dX7_any_27 : decode cX7_any 27 = .ok (.putfield 117, 3) := by decide +kernel
theorem dX7_any_30 : decode cX7_any 30 = .ok (.aload_n 0, 1) := by decide +kernel
theorem dX7_any_31 : decode cX7_any 31 = .ok (.invokevirtual 167, 3) := by decide +kernel
theorem dX7_any_34 : decode cX7_any 34 = .ok (.aload_n 0, 1) := by decide +kernel
theorem dX7_any_35 : decode cX7_any 35 = .ok (.bipush 124, 2) := by decide +kernel
theorem dX7_any_37 : decode cX7_any 37 = .ok (.iconst 0, 1) := by decide +kernel
theorem dX7_any_38 : decode cX7_any 38 = .ok (.invokevirtual 135, 3) := by decide +kernel
theorem dX7_any_41 : decode cX7_any 41 = .ok (.goto (-37), 3) := by decide +kernel
theorem dX7_any_44 : decode cX7_any 44 = .ok (.return_, 1) := by decide +kernel
theorem dX7_text_0 : decode cX7_text 0 = .ok (.iload_n 1, 1) := by decide +kernel
theorem dX7_text_1 : decode cX7_text 1 = .ok (.iconst 0, 1) := by decide +kernel
theorem dX7_text_2 : decode cX7_text 2 = .ok (.iconst 1, 1) := by decide +kernel
theorem dX7_text_3 : decode cX7_text 3 = .ok (.invokestatic 54, 3) := by decide +kernel
theorem dX7_text_6 : decode cX7_text 6 = .ok (.ifCond .ne 10, 3) := by decide +kernel
theorem dX7_text_9 : decode cX7_text 9 = .ok (.aload_n 0, 1) := by decide +kernel
theorem dX7_text_10 : decode cX7_text 10 = .ok (.ldc 80, 2) := by decide +kernel
theorem dX7_text_12 : decode cX7_text 12 = .ok (.invokevirtual 81, 3) := by decide +kernel
theorem dX7_text_15 : decode cX7_text 15 = .ok (.ireturn, 1) := by decide +kernel
theorem dX7_text_16 : decode cX7_text 16 = .ok (.aload_n 0, 1) := by decide +kernel
theorem dX7_text_17 : decode cX7_text 17 = .ok (.iload_n 1, 1) := by decide +kernel
theorem dX7_text_18 : decode cX7_text 18 = .ok (.putfield 124, 3) := by decide +kernel
theorem dX7_text_21 : decode cX7_text 21 = .ok (.aload_n 0, 1) := by decide +kernel
theorem dX7_text_22 : decode cX7_text 22 = .ok (.iconst 0, 1) := by decide +kernel
theorem dX7_text_23 : decode cX7_text 23 = .ok (.putfield 121, 3) := by decide +kernel
theorem dX7_text_26 : decode cX7_text 26 = .ok (.aload_n 0, 1) := by decide +kernel
theorem dX7_text_27 : decode cX7_text 27 = .ok (.iconst 0, 1) := by decide +kernel
theorem dX7_text_28 : decode cX7_text 28 = .ok (.putfield 117, 3) := by decide +kernel
theorem dX7_text_31 : decode cX7_text 31 = .ok (.aload_n 0, 1) := by decide +kernel
theorem dX7_text_32 : decode cX7_text 32 = .ok (.iconst 0, 1) := by decide +kernel
theorem dX7_text_33 : decode cX7_text 33 = .ok (.putfield 139, 3) := by decide +kernel
theorem dX7_text_36 : decode cX7_text 36 = .ok (.aload_n 0, 1) := by decide +kernel
theorem dX7_text_37 : decode cX7_text 37 = .ok (.iconst 0, 1) := by decide +kernel
theorem dX7_text_38 : decode cX7_text 38 = .ok (.putfield 131, 3) := by decide +kernel
theorem dX7_text_41 : decode cX7_text 41 = .ok (.aload_n 0, 1) := by decide +kernel
theorem dX7_text_42 : decode cX7_text 42 = .ok (.invokevirtual 145, 3) := by decide +kernel
theorem dX7_text_45 : decode cX7_text 45 = .ok (.aload_n 0, 1) := by decide +kernel
theorem dX7_text_46 : decode cX7_text 46 = .ok (.aload_n 0, 1) := by decide +kernel
theorem dX7_text_47 : decode cX7_text 47 = .ok (.getfield 131, 3) := by decide +kernel
theorem dX7_text_50 : decode cX7_text 50 = .ok (.ifCond .ne 17, 3) := by decide +kernel
theorem dX7_text_53 : decode cX7_text 53 = .ok (.aload_n 0, 1) := by decide +kernel
theorem dX7_text_54 : decode cX7_text 54 = .ok (.getfield 117, 3) := by decide +kernel
theorem dX7_text_57 : decode cX7_text 57 = .ok (.aload_n 0, 1) := by decide +kernel
theorem dX7_text_58 : decode cX7_text 58 = .ok (.getfield 9, 3) := by decide +kernel
theorem dX7_text_61 : decode cX7_text 61 = .ok (.bipush 7, 2) := by decide +kernel
theorem dX7_text_63 : decode cX7_text 63 = .ok (.iaload, 1) := by decide +kernel
theorem dX7_text_64 : decode cX7_text 64 = .ok (.if_icmp .ge 7, 3) := by decide +kernel
theorem dX7_text_67 : decode cX7_text 67 = .ok (.iconst 1, 1) := by decide +kernel
theorem dX7_text_68 : decode cX7_text 68 = .ok (.goto 4, 3) := by decide +kernel
theorem dX7_text_71 : decode cX7_text 71 = .ok (.iconst 0, 1) := by decide +kernel
theorem dX7_text_72 : decode cX7_text 72 = .ok (.putfield 131, 3) := by decide +kernel
theorem dX7_text_75 : decode cX7_text 75 = .ok (.aload_n 0, 1) := by decide +kernel
theorem dX7_text_76 : decode cX7_text 76 = .ok (.getfield 9, 3) := by decide +kernel
theorem dX7_text_79 : decode cX7_text 79 = .ok (.bipush 7, 2) := by decide +kernel
theorem dX7_text_81 : decode cX7_text 81 = .ok (.iconst 0, 1) := by decide +kernel
theorem dX7_text_82 : decode cX7_text 82 = .ok (.iastore, 1) := by decide +kernel
theorem dX7_text_83 : decode cX7_text 83 = .ok (.aload_n 0, 1) := by decide +kernel
theorem dX7_text_84 : decode cX7_text 84 = .ok (.getfield 131, 3) := by decide +kernel
theorem dX7_text_87 : decode cX7_text 87 = .ok (.ifCond .eq 11, 3) := by decide +kernel
theorem dX7_text_90 : decode cX7_text 90 = .ok (.bipush (-10), 2) := by decide +kernel
theorem dX7_text_92 : decode cX7_text 92 = .ok (.aload_n 0, 1) := by decide +kernel
theorem dX7_text_93 : decode cX7_text 93 = .ok (.getfield 117, 3) := by decide +kernel
theorem dX7_text_96 : decode cX7_text 96 = .ok (.isub, 1) := by decide +kernel
theorem dX7_text_97 : decode cX7_text 97 = .ok (.ireturn, 1) := by decide +kernel
theorem dX7_text_98 : decode cX7_text 98 = .ok (.sipush 156, 3) := by decide +kernel
theorem dX7_text_101 : decode cX7_text 101 = .ok (.bipush 121, 2) := by decide +kernel
theorem dX7_text_103 : decode cX7_text 103 = .ok (.iload_n 1, 1) := by decide +kernel
theorem dX7_text_104 : decode cX7_text 104 = .ok (.imul, 1) := by decide +kernel
theorem dX7_text_105 : decode cX7_text 105 = .ok (.iadd, 1) := by decide +kernel
theorem dX7_text_106 : decode cX7_text 106 = .ok (.istore_n 2, 1) := by decide +kernel
theorem dX7_text_107 : decode cX7_text 107 = .ok (.aload_n 0, 1) := by decide +kernel
theorem dX7_text_108 : decode cX7_text 108 = .ok (.getfield 9, 3) := by decide +kernel
theorem dX7_text_111 : decode cX7_text 111 = .ok (.iload_n 2, 1) := by decide +kernel
theorem dX7_text_112 : decode cX7_text 112 = .ok (.aload_n 0, 1) := by decide +kernel
theorem dX7_text_113 : decode cX7_text 113 = .ok (.getfield 121, 3) := by decide +kernel
theorem dX7_text_116 : decode cX7_text 116 = .ok (.iastore, 1) := by decide +kernel
theorem dX7_text_117 : decode cX7_text 117 = .ok (.iconst 0, 1) := by decide +kernel
theorem dX7_text_118 : decode cX7_text 118 = .ok (.istore_n 3, 1) := by decide +kernel
theorem dX7_text_119 : decode cX7_text 119 = .ok (.iload_n 3, 1) := by decide +kernel
theorem dX7_text_120 : decode cX7_text 120 = .ok (.aload_n 0, 1) := by decide +kernel
theorem dX7_text_121 : decode cX7_text 121 = .ok (.getfield 121, 3) := by decide +kernel
theorem dX7_text_124 : decode cX7_text 124 = .ok (.if_icmp .ge 42, 3) := by decide +kernel
theorem dX7_text_127 : decode cX7_text 127 = .ok (.aload_n 0, 1) := by decide +kernel
theorem dX7_text_128 : decode cX7_text 128 = .ok (.getfield 9, 3) := by decide +kernel
theorem dX7_text_131 : decode cX7_text 131 = .ok (.iload_n 2, 1) := by decide +kernel
theorem dX7_text_132 : decode cX7_text 132 = .ok (.iconst 1, 1) := by decide +kernel
theorem dX7_text_133 : decode cX7_text 133 = .ok (.iadd, 1) := by decide +kernel
theorem dX7_text_134 : decode cX7_text 134 = .ok (.iload_n 3, 1) := by decide +kernel
theorem dX7_text_135 : decode cX7_text 135 = .ok (.iadd, 1) := by decide +kernel
theorem dX7_text_136 : decode cX7_text 136 = .ok (.aload_n 0, 1) := by decide +kernel
theorem dX7_text_137 : decode cX7_text 137 = .ok (.getfield 31, 3) := by decide +kernel
theorem dX7_text_140 : decode cX7_text 140 = .ok (.iload_n 3, 1) := by decide +kernel
theorem dX7_text_141 : decode cX7_text 141 = .ok (.iaload, 1) := by decide +kernel
theorem dX7_text_142 : decode cX7_text 142 = .ok (.iastore, 1) := by decide +kernel
theorem dX7_text_143 : decode cX7_text 143 = .ok (.aload_n 0, 1) := by decide +kernel
theorem dX7_text_144 : decode cX7_text 144 = .ok (.getfield 9, 3) := by decide +kernel
theorem dX7_text_147 : decode cX7_text 147 = .ok (.iload_n 2, 1) := by decide +kernel
theorem dX7_text_148 : decode cX7_text 148 = .ok (.bipush 61, 2) := by decide +kernel
theorem dX7_text_150 : decode cX7_text 150 = .ok (.iadd, 1) := by decide +kernel
theorem dX7_text_151 : decode cX7_text 151 = .ok (.iload_n 3, 1) := by decide +kernel
theorem dX7_text_152 : decode cX7_text 152 = .ok (.iadd, 1) := by decide +kernel
theorem dX7_text_153 : decode cX7_text 153 = .ok (.aload_n 0, 1) := by decide +kernel
theorem dX7_text_154 : decode cX7_text 154 = .ok (.getfield 34, 3) := by decide +kernel
theorem dX7_text_157 : decode cX7_text 157 = .ok (.iload_n 3, 1) := by decide +kernel
theorem dX7_text_158 : decode cX7_text 158 = .ok (.iaload, 1) := by decide +kernel
theorem dX7_text_159 : decode cX7_text 159 = .ok (.iastore, 1) := by decide +kernel
theorem dX7_text_160 : decode cX7_text 160 = .ok (.iinc 3 1, 3) := by decide +kernel
theorem dX7_text_163 : decode cX7_text 163 = .ok (.goto (-44), 3) := by decide +kernel
theorem dX7_text_166 : decode cX7_text 166 = .ok (.iconst 1, 1) := by decide +kernel
theorem dX7_text_167 : decode cX7_text 167 = .ok (.ireturn, 1) := by decide +kernel
theorem dX7_untell_0 : decode cX7_untell 0 = .ok (.iload_n 1, 1) := by decide +kernel
theorem dX7_untell_1 : decode cX7_untell 1 = .ok (.iconst 0, 1) := by decide +kernel
theorem dX7_untell_2 : decode cX7_untell 2 = .ok (.iconst 1, 1) := by decide +kernel
theorem dX7_untell_3 : decode cX7_untell 3 = .ok (.invokestatic 54, 3) := by decide +kernel
theorem dX7_untell_6 : decode cX7_untell 6 = .ok (.ifCond .ne 10, 3) := by decide +kernel
theorem dX7_untell_9 : decode cX7_untell 9 = .ok (.aload_n 0, 1) := by decide +kernel
theorem dX7_untell_10 : decode cX7_untell 10 = .ok (.ldc 80, 2) := by decide +kernel
theorem dX7_untell_12 : decode cX7_untell 12 = .ok (.invokevirtual 81, 3) := by decide +kernel
theorem dX7_untell_15 : decode cX7_untell 15 = .ok (.ireturn, 1) := by decide +kernel
theorem dX7_untell_16 : decode cX7_untell 16 = .ok (.aload_n 0, 1) := by decide +kernel
theorem dX7_untell_17 : decode cX7_untell 17 = .ok (.sipush 156, 3) := by decide +kernel
theorem dX7_untell_20 : decode cX7_untell 20 = .ok (.bipush 121, 2) := by decide +kernel
theorem dX7_untell_22 : decode cX7_untell 22 = .ok (.iload_n 1, 1) := by decide +kernel
theorem dX7_untell_23 : decode cX7_untell 23 = .ok (.imul, 1) := by decide +kernel
theorem dX7_untell_24 : decode cX7_untell 24 = .ok (.iadd, 1) := by decide +kernel
theorem dX7_untell_25 : decode cX7_untell 25 = .ok (.iconst 0, 1) := by decide +kernel
theorem dX7_untell_26 : decode cX7_untell 26 = .ok (.invokevirtual 99, 3) := by decide +kernel
theorem dX7_untell_29 : decode cX7_untell 29 = .ok (.ifCond .le 7, 3) := by decide +kernel
theorem dX7_untell_32 : decode cX7_untell 32 = .ok (.iconst 1, 1) := by decide +kernel
theorem dX7_untell_33 : decode cX7_untell 33 = .ok (.goto 4, 3) := by decide +kernel
theorem dX7_untell_36 : decode cX7_untell 36 = .ok (.iconst 0, 1) := by decide +kernel
theorem dX7_untell_37 : decode cX7_untell 37 = .ok (.ireturn, 1) := by decide +kernel
theorem dX7_twoOf_0 : decode cX7_twoOf 0 = .ok (.iload_n 0, 1) := by decide +kernel
theorem dX7_twoOf_1 : decode cX7_twoOf 1 = .ok (.tableswitch 202 37 62 #[143, 188, 202, 202, 202, 127, 119, 202, 123, 202, 131, 202, 202, 202, 202, 202, 202, 202, 202, 202, 202, 202, 202, 155, 166, 177], 119) := by decide +kernel
theorem dX7_twoOf_120 : decode cX7_twoOf 120 = .ok (.iload_n 1, 1) := by decide +kernel
theorem dX7_twoOf_121 : decode cX7_twoOf 121 = .ok (.iload_n 2, 1) := by decide +kernel
theorem dX7_twoOf_122 : decode cX7_twoOf 122 = .ok (.iadd, 1) := by decide +kernel
theorem dX7_twoOf_123 : decode cX7_twoOf 123 = .ok (.ireturn, 1) := by decide +kernel
theorem dX7_twoOf_124 : decode cX7_twoOf 124 = .ok (.iload_n 1, 1) := by decide +kernel
theorem dX7_twoOf_125 : decode cX7_twoOf 125 = .ok (.iload_n 2, 1) := by decide +kernel
theorem dX7_twoOf_126 : decode cX7_twoOf 126 = .ok (.isub, 1) := by decide +kernel
theorem dX7_twoOf_127 : decode cX7_twoOf 127 = .ok (.ireturn, 1) := by decide +kernel
theorem dX7_twoOf_128 : decode cX7_twoOf 128 = .ok (.iload_n 1, 1) := by decide +kernel
theorem dX7_twoOf_129 : decode cX7_twoOf 129 = .ok (.iload_n 2, 1) := by decide +kernel
theorem dX7_twoOf_130 : decode cX7_twoOf 130 = .ok (.imul, 1) := by decide +kernel
theorem dX7_twoOf_131 : decode cX7_twoOf 131 = .ok (.ireturn, 1) := by decide +kernel
theorem dX7_twoOf_132 : decode cX7_twoOf 132 = .ok (.iload_n 2, 1) := by decide +kernel
theorem dX7_twoOf_133 : decode cX7_twoOf 133 = .ok (.ifCond .ne 7, 3) := by decide +kernel
theorem dX7_twoOf_136 : decode cX7_twoOf 136 = .ok (.iconst 0, 1) := by decide +kernel
theorem dX7_twoOf_137 : decode cX7_twoOf 137 = .ok (.goto 6, 3) := by decide +kernel
theorem dX7_twoOf_140 : decode cX7_twoOf 140 = .ok (.iload_n 1, 1) := by decide +kernel
theorem dX7_twoOf_141 : decode cX7_twoOf 141 = .ok (.iload_n 2, 1) := by decide +kernel
theorem dX7_twoOf_142 : decode cX7_twoOf 142 = .ok (.idiv, 1) := by decide +kernel
theorem dX7_twoOf_143 : decode cX7_twoOf 143 = .ok (.ireturn, 1) := by decide +kernel
theorem dX7_twoOf_144 : decode cX7_twoOf 144 = .ok (.iload_n 2, 1) := by decide +kernel
theorem dX7_twoOf_145 : decode cX7_twoOf 145 = .ok (.ifCond .ne 7, 3) := by decide +kernel
theorem dX7_twoOf_148 : decode cX7_twoOf 148 = .ok (.iconst 0, 1) := by decide +kernel
theorem dX7_twoOf_149 : decode cX7_twoOf 149 = .ok (.goto 6, 3) := by decide +kernel
theorem dX7_twoOf_152 : decode cX7_twoOf 152 = .ok (.iload_n 1, 1) := by decide +kernel
theorem dX7_twoOf_153 : decode cX7_twoOf 153 = .ok (.iload_n 2, 1) := by decide +kernel
theorem dX7_twoOf_154 : decode cX7_twoOf 154 = .ok (.irem, 1) := by decide +kernel
theorem dX7_twoOf_155 : decode cX7_twoOf 155 = .ok (.ireturn, 1) := by decide +kernel
theorem dX7_twoOf_156 : decode cX7_twoOf 156 = .ok (.iload_n 1, 1) := by decide +kernel
theorem dX7_twoOf_157 : decode cX7_twoOf 157 = .ok (.iload_n 2, 1) := by decide +kernel
theorem dX7_twoOf_158 : decode cX7_twoOf 158 = .ok (.if_icmp .ge 7, 3) := by decide +kernel
theorem dX7_twoOf_161 : decode cX7_twoOf 161 = .ok (.iconst 1, 1) := by decide +kernel
theorem dX7_twoOf_162 : decode cX7_twoOf 162 = .ok (.goto 4, 3) := by decide +kernel
theorem dX7_twoOf_165 : decode cX7_twoOf 165 = .ok (.iconst 0, 1) := by decide +kernel
theorem dX7_twoOf_166 : decode cX7_twoOf 166 = .ok (.ireturn, 1) := by decide +kernel
theorem dX7_twoOf_167 : decode cX7_twoOf 167 = .ok (.iload_n 1, 1) := by decide +kernel
theorem dX7_twoOf_168 : decode cX7_twoOf 168 = .ok (.iload_n 2, 1) := by decide +kernel
theorem dX7_twoOf_169 : decode cX7_twoOf 169 = .ok (.if_icmp .ne 7, 3) := by decide +kernel
theorem dX7_twoOf_172 : decode cX7_twoOf 172 = .ok (.iconst 1, 1) := by decide +kernel
theorem dX7_twoOf_173 : decode cX7_twoOf 173 = .ok (.goto 4, 3) := by decide +kernel
theorem dX7_twoOf_176 : decode cX7_twoOf 176 = .ok (.iconst 0, 1) := by decide +kernel
theorem dX7_twoOf_177 : decode cX7_twoOf 177 = .ok (.ireturn, 1) := by decide +kernel
theorem dX7_twoOf_178 : decode cX7_twoOf 178 = .ok (.iload_n 1, 1) := by decide +kernel
theorem dX7_twoOf_179 : decode cX7_twoOf 179 = .ok (.iload_n 2, 1) := by decide +kernel
theorem dX7_twoOf_180 : decode cX7_twoOf 180 = .ok (.if_icmp .le 7, 3) := by decide +kernel
theorem dX7_twoOf_183 : decode cX7_twoOf 183 = .ok (.iconst 1, 1) := by decide +kernel
theorem dX7_twoOf_184 : decode cX7_twoOf 184 = .ok (.goto 4, 3) := by decide +kernel
theorem dX7_twoOf_187 : decode cX7_twoOf 187 = .ok (.iconst 0, 1) := by decide +kernel
theorem dX7_twoOf_188 : decode cX7_twoOf 188 = .ok (.ireturn, 1) := by decide +kernel
theorem dX7_twoOf_189 : decode cX7_twoOf 189 = .ok (.iload_n 1, 1) := by decide +kernel
theorem dX7_twoOf_190 : decode cX7_twoOf 190 = .ok (.ifCond .eq 11, 3) := by decide +kernel
theorem dX7_twoOf_193 : decode cX7_twoOf 193 = .ok (.iload_n 2, 1) := by decide +kernel
theorem dX7_twoOf_194 : decode cX7_twoOf 194 = .ok (.ifCond .eq 7, 3) := by decide +kernel
theorem dX7_twoOf_197 : decode cX7_twoOf 197 = .ok (.iconst 1, 1) := by decide +kernel
theorem dX7_twoOf_198 : decode cX7_twoOf 198 = .ok (.goto 4, 3) := by decide +kernel
theorem dX7_twoOf_201 : decode cX7_twoOf 201 = .ok (.iconst 0, 1) := by decide +kernel
theorem dX7_twoOf_202 : decode cX7_twoOf 202 = .ok (.ireturn, 1) := by decide +kernel
theorem dX7_twoOf_203 : decode cX7_twoOf 203 = .ok (.iload_n 1, 1) := by decide +kernel
theorem dX7_twoOf_204 : decode cX7_twoOf 204 = .ok (.ifCond .ne 7, 3) := by decide +kernel
theorem dX7_twoOf_207 : decode cX7_twoOf 207 = .ok (.iload_n 2, 1) := by decide +kernel
theorem dX7_twoOf_208 : decode cX7_twoOf 208 = .ok (.ifCond .eq 7, 3) := by decide +kernel
theorem dX7_twoOf_211 : decode cX7_twoOf 211 = .ok (.iconst 1, 1) := by decide +kernel
theorem dX7_twoOf_212 : decode cX7_twoOf 212 = .ok (.goto 4, 3) := by decide +kernel
theorem dX7_twoOf_215 : decode cX7_twoOf 215 = .ok (.iconst 0, 1) := by decide +kernel
theorem dX7_twoOf_216 : decode cX7_twoOf 216 = .ok (.ireturn, 1) := by decide +kernel
theorem dX7_works_0 : decode cX7_works 0 = .ok (.iconst 0, 1) := by decide +kernel
theorem dX7_works_1 : decode cX7_works 1 = .ok (.istore_n 2, 1) := by decide +kernel
theorem dX7_works_2 : decode cX7_works 2 = .ok (.iconst 0, 1) := by decide +kernel
theorem dX7_works_3 : decode cX7_works 3 = .ok (.istore_n 3, 1) := by decide +kernel
theorem dX7_works_4 : decode cX7_works 4 = .ok (.iload_n 3, 1) := by decide +kernel
theorem dX7_works_5 : decode cX7_works 5 = .ok (.aload_n 0, 1) := by decide +kernel
theorem dX7_works_6 : decode cX7_works 6 = .ok (.getfield 9, 3) := by decide +kernel
theorem dX7_works_9 : decode cX7_works 9 = .ok (.iload_n 1, 1) := by decide +kernel
theorem dX7_works_10 : decode cX7_works 10 = .ok (.iaload, 1) := by decide +kernel
theorem dX7_works_11 : decode cX7_works 11 = .ok (.if_icmp .ge 144, 3) := by decide +kernel
theorem dX7_works_14 : decode cX7_works 14 = .ok (.aload_n 0, 1) := by decide +kernel
theorem dX7_works_15 : decode cX7_works 15 = .ok (.getfield 9, 3) := by decide +kernel
theorem dX7_works_18 : decode cX7_works 18 = .ok (.iload_n 1, 1) := by decide +kernel
theorem dX7_works_19 : decode cX7_works 19 = .ok (.iconst 1, 1) := by decide +kernel
theorem dX7_works_20 : decode cX7_works 20 = .ok (.iadd, 1) := by decide +kernel
theorem dX7_works_21 : decode cX7_works 21 = .ok (.iload_n 3, 1) := by decide +kernel
theorem dX7_works_22 : decode cX7_works 22 = .ok (.iadd, 1) := by decide +kernel
theorem dX7_works_23 : decode cX7_works 23 = .ok (.iaload, 1) := by decide +kernel
theorem dX7_works_24 : decode cX7_works 24 = .ok (.istore 4, 2) := by decide +kernel
theorem dX7_works_26 : decode cX7_works 26 = .ok (.iload 4, 2) := by decide +kernel
theorem dX7_works_28 : decode cX7_works 28 = .ok (.iconst 1, 1) := by decide +kernel
theorem dX7_works_29 : decode cX7_works 29 = .ok (.if_icmp .eq 9, 3) := by decide +kernel
theorem dX7_works_32 : decode cX7_works 32 = .ok (.iload 4, 2) := by decide +kernel
theorem dX7_works_34 : decode cX7_works 34 = .ok (.iconst 2, 1) := by decide +kernel
theorem dX7_works_35 : decode cX7_works 35 = .ok (.if_icmp .ne 51, 3) := by decide +kernel
theorem dX7_works_38 : decode cX7_works 38 = .ok (.aload_n 0, 1) := by decide +kernel
theorem dX7_works_39 : decode cX7_works 39 = .ok (.getfield 40, 3) := by decide +kernel
theorem dX7_works_42 : decode cX7_works 42 = .ok (.iload_n 2, 1) := by decide +kernel
theorem dX7_works_43 : decode cX7_works 43 = .ok (.iload 4, 2) := by decide +kernel
theorem dX7_works_45 : decode cX7_works 45 = .ok (.iconst 1, 1) := by decide +kernel
theorem dX7_works_46 : decode cX7_works 46 = .ok (.if_icmp .ne 17, 3) := by decide +kernel
theorem dX7_works_49 : decode cX7_works 49 = .ok (.aload_n 0, 1) := by decide +kernel
theorem dX7_works_50 : decode cX7_works 50 = .ok (.getfield 9, 3) := by decide +kernel
theorem dX7_works_53 : decode cX7_works 53 = .ok (.iload_n 1, 1) := by decide +kernel
theorem dX7_works_54 : decode cX7_works 54 = .ok (.bipush 61, 2) := by decide +kernel
theorem dX7_works_56 : decode cX7_works 56 = .ok (.iadd, 1) := by decide +kernel
theorem dX7_works_57 : decode cX7_works 57 = .ok (.iload_n 3, 1) := by decide +kernel
theorem dX7_works_58 : decode cX7_works 58 = .ok (.iadd, 1) := by decide +kernel
theorem dX7_works_59 : decode cX7_works 59 = .ok (.iaload, 1) := by decide +kernel
theorem dX7_works_60 : decode cX7_works 60 = .ok (.goto 19, 3) := by decide +kernel
theorem dX7_works_63 : decode cX7_works 63 = .ok (.aload_n 0, 1) := by decide +kernel
theorem dX7_works_64 : decode cX7_works 64 = .ok (.getfield 37, 3) := by decide +kernel
theorem dX7_works_67 : decode cX7_works 67 = .ok (.aload_n 0, 1) := by decide +kernel
theorem dX7_works_68 : decode cX7_works 68 = .ok (.getfield 9, 3) := by decide +kernel
theorem dX7_works_71 : decode cX7_works 71 = .ok (.iload_n 1, 1) := by decide +kernel
theorem dX7_works_72 : decode cX7_works 72 = .ok (.bipush 61, 2) := by decide +kernel
theorem dX7_works_74 : decode cX7_works 74 = .ok (.iadd, 1) := by decide +kernel
theorem dX7_works_75 : decode cX7_works 75 = .ok (.iload_n 3, 1) := by decide +kernel
theorem dX7_works_76 : decode cX7_works 76 = .ok (.iadd, 1) := by decide +kernel
theorem dX7_works_77 : decode cX7_works 77 = .ok (.iaload, 1) := by decide +kernel
theorem dX7_works_78 : decode cX7_works 78 = .ok (.iaload, 1) := by decide +kernel
theorem dX7_works_79 : decode cX7_works 79 = .ok (.iastore, 1) := by decide +kernel
theorem dX7_works_80 : decode cX7_works 80 = .ok (.iinc 2 1, 3) := by decide +kernel
theorem dX7_works_83 : decode cX7_works 83 = .ok (.goto 66, 3) := by decide +kernel
theorem dX7_works_86 : decode cX7_works 86 = .ok (.iload 4, 2) := by decide +kernel
theorem dX7_works_88 : decode cX7_works 88 = .ok (.iconst 3, 1) := by decide +kernel
theorem dX7_works_89 : decode cX7_works 89 = .ok (.if_icmp .ne 30, 3) := by decide +kernel
theorem dX7_works_92 : decode cX7_works 92 = .ok (.aload_n 0, 1) := by decide +kernel
theorem dX7_works_93 : decode cX7_works 93 = .ok (.getfield 40, 3) := by decide +kernel
theorem dX7_works_96 : decode cX7_works 96 = .ok (.iload_n 2, 1) := by decide +kernel
theorem dX7_works_97 : decode cX7_works 97 = .ok (.iconst 1, 1) := by decide +kernel
theorem dX7_works_98 : decode cX7_works 98 = .ok (.isub, 1) := by decide +kernel
theorem dX7_works_99 : decode cX7_works 99 = .ok (.aload_n 0, 1) := by decide +kernel
theorem dX7_works_100 : decode cX7_works 100 = .ok (.getfield 40, 3) := by decide +kernel
theorem dX7_works_103 : decode cX7_works 103 = .ok (.iload_n 2, 1) := by decide +kernel
theorem dX7_works_104 : decode cX7_works 104 = .ok (.iconst 1, 1) := by decide +kernel
theorem dX7_works_105 : decode cX7_works 105 = .ok (.isub, 1) := by decide +kernel
theorem dX7_works_106 : decode cX7_works 106 = .ok (.iaload, 1) := by decide +kernel
theorem dX7_works_107 : decode cX7_works 107 = .ok (.ifCond .ne 7, 3) := by decide +kernel
theorem dX7_works_110 : decode cX7_works 110 = .ok (.iconst 1, 1) := by decide +kernel
theorem dX7_works_111 : decode cX7_works 111 = .ok (.goto 4, 3) := by decide +kernel
theorem dX7_works_114 : decode cX7_works 114 = .ok (.iconst 0, 1) := by decide +kernel
theorem dX7_works_115 : decode cX7_works 115 = .ok (.iastore, 1) := by decide +kernel
theorem dX7_works_116 : decode cX7_works 116 = .ok (.goto 33, 3) := by decide +kernel
theorem dX7_works_119 : decode cX7_works 119 = .ok (.iinc 2 (-1), 3) := by decide +kernel
theorem dX7_works_122 : decode cX7_works 122 = .ok (.aload_n 0, 1) := by decide +kernel
theorem dX7_works_123 : decode cX7_works 123 = .ok (.getfield 40, 3) := by decide +kernel
theorem dX7_works_126 : decode cX7_works 126 = .ok (.iload_n 2, 1) := by decide +kernel
theorem dX7_works_127 : decode cX7_works 127 = .ok (.iconst 1, 1) := by decide +kernel
theorem dX7_works_128 : decode cX7_works 128 = .ok (.isub, 1) := by decide +kernel
theorem dX7_works_129 : decode cX7_works 129 = .ok (.iload 4, 2) := by decide +kernel
theorem dX7_works_131 : decode cX7_works 131 = .ok (.aload_n 0, 1) := by decide +kernel
theorem dX7_works_132 : decode cX7_works 132 = .ok (.getfield 40, 3) := by decide +kernel
theorem dX7_works_135 : decode cX7_works 135 = .ok (.iload_n 2, 1) := by decide +kernel
theorem dX7_works_136 : decode cX7_works 136 = .ok (.iconst 1, 1) := by decide +kernel
theorem dX7_works_137 : decode cX7_works 137 = .ok (.isub, 1) := by decide +kernel
theorem dX7_works_138 : decode cX7_works 138 = .ok (.iaload, 1) := by decide +kernel
theorem dX7_works_139 : decode cX7_works 139 = .ok (.aload_n 0, 1) := by decide +kernel
theorem dX7_works_140 : decode cX7_works 140 = .ok (.getfield 40, 3) := by decide +kernel
theorem dX7_works_143 : decode cX7_works 143 = .ok (.iload_n 2, 1) := by decide +kernel
theorem dX7_works_144 : decode cX7_works 144 = .ok (.iaload, 1) := by decide +kernel
theorem dX7_works_145 : decode cX7_works 145 = .ok (.invokestatic 170, 3) := by decide +kernel
theorem dX7_works_148 : decode cX7_works 148 = .ok (.iastore, 1) := by decide +kernel
theorem dX7_works_149 : decode cX7_works 149 = .ok (.iinc 3 1, 3) := by decide +kernel
theorem dX7_works_152 : decode cX7_works 152 = .ok (.goto (-148), 3) := by decide +kernel
theorem dX7_works_155 : decode cX7_works 155 = .ok (.aload_n 0, 1) := by decide +kernel
theorem dX7_works_156 : decode cX7_works 156 = .ok (.getfield 40, 3) := by decide +kernel
theorem dX7_works_159 : decode cX7_works 159 = .ok (.iconst 0, 1) := by decide +kernel
theorem dX7_works_160 : decode cX7_works 160 = .ok (.iaload, 1) := by decide +kernel
theorem dX7_works_161 : decode cX7_works 161 = .ok (.ireturn, 1) := by decide +kernel
theorem dX7_gives_0 : decode cX7_gives 0 = .ok (.sipush 156, 3) := by decide +kernel
theorem dX7_gives_3 : decode cX7_gives 3 = .ok (.bipush 121, 2) := by decide +kernel
theorem dX7_gives_5 : decode cX7_gives 5 = .ok (.iload_n 1, 1) := by decide +kernel
theorem dX7_gives_6 : decode cX7_gives 6 = .ok (.imul, 1) := by decide +kernel
theorem dX7_gives_7 : decode cX7_gives 7 = .ok (.iadd, 1) := by decide +kernel
theorem dX7_gives_8 : decode cX7_gives 8 = .ok (.istore 5, 2) := by decide +kernel
theorem dX7_gives_10 : decode cX7_gives 10 = .ok (.aload_n 0, 1) := by decide +kernel
theorem dX7_gives_11 : decode cX7_gives 11 = .ok (.getfield 37, 3) := by decide +kernel
theorem dX7_gives_14 : decode cX7_gives 14 = .ok (.iconst 0, 1) := by decide +kernel
theorem dX7_gives_15 : decode cX7_gives 15 = .ok (.iload_n 2, 1) := by decide +kernel
theorem dX7_gives_16 : decode cX7_gives 16 = .ok (.iastore, 1) := by decide +kernel
theorem dX7_gives_17 : decode cX7_gives 17 = .ok (.aload_n 0, 1) := by decide +kernel
theorem dX7_gives_18 : decode cX7_gives 18 = .ok (.getfield 37, 3) := by decide +kernel
theorem dX7_gives_21 : decode cX7_gives 21 = .ok (.iconst 1, 1) := by decide +kernel
theorem dX7_gives_22 : decode cX7_gives 22 = .ok (.iload_n 3, 1) := by decide +kernel
theorem dX7_gives_23 : decode cX7_gives 23 = .ok (.iastore, 1) := by decide +kernel
theorem dX7_gives_24 : decode cX7_gives 24 = .ok (.aload_n 0, 1) := by decide +kernel
theorem dX7_gives_25 : decode cX7_gives 25 = .ok (.getfield 37, 3) := by decide +kernel
theorem dX7_gives_28 : decode cX7_gives 28 = .ok (.iconst 2, 1) := by decide +kernel
theorem dX7_gives_29 : decode cX7_gives 29 = .ok (.iload 4, 2) := by decide +kernel
theorem dX7_gives_31 : decode cX7_gives 31 = .ok (.iastore, 1) := by decide +kernel
theorem dX7_gives_32 : decode cX7_gives 32 = .ok (.aload_n 0, 1) := by decide +kernel
theorem dX7_gives_33 : decode cX7_gives 33 = .ok (.getfield 9, 3) := by decide +kernel
theorem dX7_gives_36 : decode cX7_gives 36 = .ok (.iload 5, 2) := by decide +kernel
theorem dX7_gives_38 : decode cX7_gives 38 = .ok (.iaload, 1) := by decide +kernel
theorem dX7_gives_39 : decode cX7_gives 39 = .ok (.ifCond .le 12, 3) := by decide +kernel
theorem dX7_gives_42 : decode cX7_gives 42 = .ok (.aload_n 0, 1) := by decide +kernel
theorem dX7_gives_43 : decode cX7_gives 43 = .ok (.iload 5, 2) := by decide +kernel
theorem dX7_gives_45 : decode cX7_gives 45 = .ok (.invokevirtual 173, 3) := by decide +kernel
theorem dX7_gives_48 : decode cX7_gives 48 = .ok (.goto 26, 3) := by decide +kernel
theorem dX7_gives_51 : decode cX7_gives 51 = .ok (.iload_n 1, 1) := by decide +kernel
theorem dX7_gives_52 : decode cX7_gives 52 = .ok (.iconst 1, 1) := by decide +kernel
theorem dX7_gives_53 : decode cX7_gives 53 = .ok (.if_icmp .ne 12, 3) := by decide +kernel
theorem dX7_gives_56 : decode cX7_gives 56 = .ok (.iload_n 2, 1) := by decide +kernel
theorem dX7_gives_57 : decode cX7_gives 57 = .ok (.bipush 10, 2) := by decide +kernel
theorem dX7_gives_59 : decode cX7_gives 59 = .ok (.idiv, 1) := by decide +kernel
theorem dX7_gives_60 : decode cX7_gives 60 = .ok (.iconst 1, 1) := by decide +kernel
theorem dX7_gives_61 : decode cX7_gives 61 = .ok (.iadd, 1) := by decide +kernel
theorem dX7_gives_62 : decode cX7_gives 62 = .ok (.goto 12, 3) := by decide +kernel
theorem dX7_gives_65 : decode cX7_gives 65 = .ok (.iload_n 2, 1) := by decide +kernel
theorem dX7_gives_66 : decode cX7_gives 66 = .ok (.ifCond .le 7, 3) := by decide +kernel
theorem dX7_gives_69 : decode cX7_gives 69 = .ok (.iconst 1, 1) := by decide +kernel
theorem dX7_gives_70 : decode cX7_gives 70 = .ok (.goto 4, 3) := by decide +kernel
theorem dX7_gives_73 : decode cX7_gives 73 = .ok (.iconst (-1), 1) := by decide +kernel
theorem dX7_gives_74 : decode cX7_gives 74 = .ok (.istore 6, 2) := by decide +kernel
theorem dX7_gives_76 : decode cX7_gives 76 = .ok (.iload_n 1, 1) := by decide +kernel
theorem dX7_gives_77 : decode cX7_gives 77 = .ok (.ifCond .ne 15, 3) := by decide +kernel
theorem dX7_gives_80 : decode cX7_gives 80 = .ok (.iload 6, 2) := by decide +kernel
theorem dX7_gives_82 : decode cX7_gives 82 = .ok (.bipush (-9), 2) := by decide +kernel
theorem dX7_gives_84 : decode cX7_gives 84 = .ok (.bipush 9, 2) := by decide +kernel
theorem dX7_gives_86 : decode cX7_gives 86 = .ok (.invokestatic 66, 3) := by decide +kernel
theorem dX7_gives_89 : decode cX7_gives 89 = .ok (.goto 11, 3) := by decide +kernel
theorem dX7_gives_92 : decode cX7_gives 92 = .ok (.iload 6, 2) := by decide +kernel
theorem dX7_gives_94 : decode cX7_gives 94 = .ok (.iconst 0, 1) := by decide +kernel
theorem dX7_gives_95 : decode cX7_gives 95 = .ok (.bipush 99, 2) := by decide +kernel
theorem dX7_gives_97 : decode cX7_gives 97 = .ok (.invokestatic 66, 3) := by decide +kernel
theorem dX7_gives_100 : decode cX7_gives 100 = .ok (.ireturn, 1) := by decide +kernel
theorem dX7_law_0 : decode cX7_law 0 = .ok (.iload_n 1, 1) := by decide +kernel
theorem dX7_law_1 : decode cX7_law 1 = .ok (.iconst 0, 1) := by decide +kernel
theorem dX7_law_2 : decode cX7_law 2 = .ok (.iconst 1, 1) := by decide +kernel
theorem dX7_law_3 : decode cX7_law 3 = .ok (.invokestatic 54, 3) := by decide +kernel
theorem dX7_law_6 : decode cX7_law 6 = .ok (.ifCond .eq 15, 3) := by decide +kernel
theorem dX7_law_9 : decode cX7_law 9 = .ok (.aload_n 0, 1) := by decide +kernel
theorem dX7_law_10 : decode cX7_law 10 = .ok (.iload_n 1, 1) := by decide +kernel
theorem dX7_law_11 : decode cX7_law 11 = .ok (.iload_n 2, 1) := by decide +kernel
theorem dX7_law_12 : decode cX7_law 12 = .ok (.iload_n 3, 1) := by decide +kernel
theorem dX7_law_13 : decode cX7_law 13 = .ok (.iload 4, 2) := by decide +kernel
theorem dX7_law_15 : decode cX7_law 15 = .ok (.invokevirtual 105, 3) := by decide +kernel
theorem dX7_law_18 : decode cX7_law 18 = .ok (.goto 9, 3) := by decide +kernel
theorem dX7_law_21 : decode cX7_law 21 = .ok (.aload_n 0, 1) := by decide +kernel
theorem dX7_law_22 : decode cX7_law 22 = .ok (.ldc 80, 2) := by decide +kernel
theorem dX7_law_24 : decode cX7_law 24 = .ok (.invokevirtual 81, 3) := by decide +kernel
theorem dX7_law_27 : decode cX7_law 27 = .ok (.ireturn, 1) := by decide +kernel
theorem dX7_goes_0 : decode cX7_goes 0 = .ok (.iconst 0, 1) := by decide +kernel
theorem dX7_goes_1 : decode cX7_goes 1 = .ok (.istore_n 1, 1) := by decide +kernel
theorem dX7_goes_2 : decode cX7_goes 2 = .ok (.iload_n 1, 1) := by decide +kernel
theorem dX7_goes_3 : decode cX7_goes 3 = .ok (.aload_n 0, 1) := by decide +kernel
theorem dX7_goes_4 : decode cX7_goes 4 = .ok (.getfield 9, 3) := by decide +kernel
theorem dX7_goes_7 : decode cX7_goes 7 = .ok (.iconst 2, 1) := by decide +kernel
theorem dX7_goes_8 : decode cX7_goes 8 = .ok (.iaload, 1) := by decide +kernel
theorem dX7_goes_9 : decode cX7_goes 9 = .ok (.if_icmp .ge 73, 3) := by decide +kernel
theorem dX7_goes_12 : decode cX7_goes 12 = .ok (.aload_n 0, 1) := by decide +kernel
theorem dX7_goes_13 : decode cX7_goes 13 = .ok (.iconst 0, 1) := by decide +kernel
theorem dX7_goes_14 : decode cX7_goes 14 = .ok (.aload_n 0, 1) := by decide +kernel
theorem dX7_goes_15 : decode cX7_goes 15 = .ok (.getfield 9, 3) := by decide +kernel
theorem dX7_goes_18 : decode cX7_goes 18 = .ok (.iconst 4, 1) := by decide +kernel
theorem dX7_goes_19 : decode cX7_goes 19 = .ok (.iaload, 1) := by decide +kernel
theorem dX7_goes_20 : decode cX7_goes 20 = .ok (.aload_n 0, 1) := by decide +kernel
theorem dX7_goes_21 : decode cX7_goes 21 = .ok (.iload_n 1, 1) := by decide +kernel
theorem dX7_goes_22 : decode cX7_goes 22 = .ok (.iconst 5, 1) := by decide +kernel
theorem dX7_goes_23 : decode cX7_goes 23 = .ok (.invokevirtual 62, 3) := by decide +kernel
theorem dX7_goes_26 : decode cX7_goes 26 = .ok (.aload_n 0, 1) := by decide +kernel
theorem dX7_goes_27 : decode cX7_goes 27 = .ok (.iload_n 1, 1) := by decide +kernel
theorem dX7_goes_28 : decode cX7_goes 28 = .ok (.iconst 0, 1) := by decide +kernel
theorem dX7_goes_29 : decode cX7_goes 29 = .ok (.invokevirtual 62, 3) := by decide +kernel
theorem dX7_goes_32 : decode cX7_goes 32 = .ok (.invokevirtual 105, 3) := by decide +kernel
theorem dX7_goes_35 : decode cX7_goes 35 = .ok (.istore_n 2, 1) := by decide +kernel
theorem dX7_goes_36 : decode cX7_goes 36 = .ok (.aload_n 0, 1) := by decide +kernel
theorem dX7_goes_37 : decode cX7_goes 37 = .ok (.iload_n 1, 1) := by decide +kernel
theorem dX7_goes_38 : decode cX7_goes 38 = .ok (.iconst 5, 1) := by decide +kernel
theorem dX7_goes_39 : decode cX7_goes 39 = .ok (.aload_n 0, 1) := by decide +kernel
theorem dX7_goes_40 : decode cX7_goes 40 = .ok (.iload_n 1, 1) := by decide +kernel
theorem dX7_goes_41 : decode cX7_goes 41 = .ok (.iconst 5, 1) := by decide +kernel
theorem dX7_goes_42 : decode cX7_goes 42 = .ok (.invokevirtual 62, 3) := by decide +kernel
theorem dX7_goes_45 : decode cX7_goes 45 = .ok (.iload_n 2, 1) := by decide +kernel
theorem dX7_goes_46 : decode cX7_goes 46 = .ok (.iadd, 1) := by decide +kernel
theorem dX7_goes_47 : decode cX7_goes 47 = .ok (.iconst 0, 1) := by decide +kernel
theorem dX7_goes_48 : decode cX7_goes 48 = .ok (.bipush 9, 2) := by decide +kernel
theorem dX7_goes_50 : decode cX7_goes 50 = .ok (.invokestatic 66, 3) := by decide +kernel
theorem dX7_goes_53 : decode cX7_goes 53 = .ok (.invokevirtual 86, 3) := by decide +kernel
theorem dX7_goes_56 : decode cX7_goes 56 = .ok (.aload_n 0, 1) := by decide +kernel
theorem dX7_goes_57 : decode cX7_goes 57 = .ok (.iload_n 1, 1) := by decide +kernel
theorem dX7_goes_58 : decode cX7_goes 58 = .ok (.iconst 4, 1) := by decide +kernel
theorem dX7_goes_59 : decode cX7_goes 59 = .ok (.aload_n 0, 1) := by decide +kernel
theorem dX7_goes_60 : decode cX7_goes 60 = .ok (.iload_n 1, 1) := by decide +kernel
theorem dX7_goes_61 : decode cX7_goes 61 = .ok (.iconst 4, 1) := by decide +kernel
theorem dX7_goes_62 : decode cX7_goes 62 = .ok (.invokevirtual 62, 3) := by decide +kernel
theorem dX7_goes_65 : decode cX7_goes 65 = .ok (.iconst 1, 1) := by decide +kernel
theorem dX7_goes_66 : decode cX7_goes 66 = .ok (.iadd, 1) := by decide +kernel
theorem dX7_goes_67 : decode cX7_goes 67 = .ok (.iconst 0, 1) := by decide +kernel
theorem dX7_goes_68 : decode cX7_goes 68 = .ok (.bipush 99, 2) := by decide +kernel
theorem dX7_goes_70 : decode cX7_goes 70 = .ok (.invokestatic 66, 3) := by decide +kernel
theorem dX7_goes_73 : decode cX7_goes 73 = .ok (.invokevirtual 86, 3) := by decide +kernel
theorem dX7_goes_76 : decode cX7_goes 76 = .ok (.iinc 1 1, 3) := by decide +kernel
theorem dX7_goes_79 : decode cX7_goes 79 = .ok (.goto (-77), 3) := by decide +kernel
theorem dX7_goes_82 : decode cX7_goes 82 = .ok (.aload_n 0, 1) := by decide +kernel
theorem dX7_goes_83 : decode cX7_goes 83 = .ok (.getfield 9, 3) := by decide +kernel
theorem dX7_goes_86 : decode cX7_goes 86 = .ok (.iconst 0, 1) := by decide +kernel
theorem dX7_goes_87 : decode cX7_goes 87 = .ok (.dup2, 1) := by decide +kernel
theorem dX7_goes_88 : decode cX7_goes 88 = .ok (.iaload, 1) := by decide +kernel
theorem dX7_goes_89 : decode cX7_goes 89 = .ok (.iconst 1, 1) := by decide +kernel
theorem dX7_goes_90 : decode cX7_goes 90 = .ok (.iadd, 1) := by decide +kernel
theorem dX7_goes_91 : decode cX7_goes 91 = .ok (.iastore, 1) := by decide +kernel
theorem dX7_goes_92 : decode cX7_goes 92 = .ok (.return_, 1) := by decide +kernel
theorem dX7_days_0 : decode cX7_days 0 = .ok (.iload_n 1, 1) := by decide +kernel
theorem dX7_days_1 : decode cX7_days 1 = .ok (.iconst 1, 1) := by decide +kernel
theorem dX7_days_2 : decode cX7_days 2 = .ok (.bipush 60, 2) := by decide +kernel
theorem dX7_days_4 : decode cX7_days 4 = .ok (.invokestatic 54, 3) := by decide +kernel
theorem dX7_days_7 : decode cX7_days 7 = .ok (.ifCond .ne 10, 3) := by decide +kernel
theorem dX7_days_10 : decode cX7_days 10 = .ok (.aload_n 0, 1) := by decide +kernel
theorem dX7_days_11 : decode cX7_days 11 = .ok (.ldc 80, 2) := by decide +kernel
theorem dX7_days_13 : decode cX7_days 13 = .ok (.invokevirtual 81, 3) := by decide +kernel
theorem dX7_days_16 : decode cX7_days 16 = .ok (.ireturn, 1) := by decide +kernel
theorem dX7_days_17 : decode cX7_days 17 = .ok (.aload_n 0, 1) := by decide +kernel
theorem dX7_days_18 : decode cX7_days 18 = .ok (.getfield 9, 3) := by decide +kernel
theorem dX7_days_21 : decode cX7_days 21 = .ok (.iconst 0, 1) := by decide +kernel
theorem dX7_days_22 : decode cX7_days 22 = .ok (.iaload, 1) := by decide +kernel
theorem dX7_days_23 : decode cX7_days 23 = .ok (.iload_n 1, 1) := by decide +kernel
theorem dX7_days_24 : decode cX7_days 24 = .ok (.iadd, 1) := by decide +kernel
theorem dX7_days_25 : decode cX7_days 25 = .ok (.sipush 9999, 3) := by decide +kernel
theorem dX7_days_28 : decode cX7_days 28 = .ok (.if_icmp .le 10, 3) := by decide +kernel
theorem dX7_days_31 : decode cX7_days 31 = .ok (.aload_n 0, 1) := by decide +kernel
theorem dX7_days_32 : decode cX7_days 32 = .ok (.ldc 103, 2) := by decide +kernel
theorem dX7_days_34 : decode cX7_days 34 = .ok (.invokevirtual 81, 3) := by decide +kernel
theorem dX7_days_37 : decode cX7_days 37 = .ok (.ireturn, 1) := by decide +kernel
theorem dX7_days_38 : decode cX7_days 38 = .ok (.iconst 0, 1) := by decide +kernel
theorem dX7_days_39 : decode cX7_days 39 = .ok (.istore_n 2, 1) := by decide +kernel
theorem dX7_days_40 : decode cX7_days 40 = .ok (.iload_n 2, 1) := by decide +kernel
theorem dX7_days_41 : decode cX7_days 41 = .ok (.iload_n 1, 1) := by decide +kernel
theorem dX7_days_42 : decode cX7_days 42 = .ok (.if_icmp .ge 13, 3) := by decide +kernel
theorem dX7_days_45 : decode cX7_days 45 = .ok (.aload_n 0, 1) := by decide +kernel
theorem dX7_days_46 : decode cX7_days 46 = .ok (.invokevirtual 176, 3) := by decide +kernel
theorem dX7_days_49 : decode cX7_days 49 = .ok (.iinc 2 1, 3) := by decide +kernel
theorem dX7_days_52 : decode cX7_days 52 = .ok (.goto (-12), 3) := by decide +kernel
theorem dX7_days_55 : decode cX7_days 55 = .ok (.aload_n 0, 1) := by decide +kernel
theorem dX7_days_56 : decode cX7_days 56 = .ok (.getfield 9, 3) := by decide +kernel
theorem dX7_days_59 : decode cX7_days 59 = .ok (.iconst 0, 1) := by decide +kernel
theorem dX7_days_60 : decode cX7_days 60 = .ok (.iaload, 1) := by decide +kernel
theorem dX7_days_61 : decode cX7_days 61 = .ok (.ireturn, 1) := by decide +kernel
theorem dX7_draw_0 : decode cX7_draw 0 = .ok (.aload_n 0, 1) := by decide +kernel
theorem dX7_draw_1 : decode cX7_draw 1 = .ok (.getfield 9, 3) := by decide +kernel
theorem dX7_draw_4 : decode cX7_draw 4 = .ok (.iconst 1, 1) := by decide +kernel
theorem dX7_draw_5 : decode cX7_draw 5 = .ok (.aload_n 0, 1) := by decide +kernel
theorem dX7_draw_6 : decode cX7_draw 6 = .ok (.getfield 9, 3) := by decide +kernel
theorem dX7_draw_9 : decode cX7_draw 9 = .ok (.iconst 1, 1) := by decide +kernel
theorem dX7_draw_10 : decode cX7_draw 10 = .ok (.iaload, 1) := by decide +kernel
theorem dX7_draw_11 : decode cX7_draw 11 = .ok (.ldc 179, 2) := by decide +kernel
theorem dX7_draw_13 : decode cX7_draw 13 = .ok (.imul, 1) := by decide +kernel
theorem dX7_draw_14 : decode cX7_draw 14 = .ok (.sipush 12345, 3) := by decide +kernel
theorem dX7_draw_17 : decode cX7_draw 17 = .ok (.iadd, 1) := by decide +kernel
theorem dX7_draw_18 : decode cX7_draw 18 = .ok (.iastore, 1) := by decide +kernel
theorem dX7_draw_19 : decode cX7_draw 19 = .ok (.aload_n 0, 1) := by decide +kernel
theorem dX7_draw_20 : decode cX7_draw 20 = .ok (.getfield 9, 3) := by decide +kernel
theorem dX7_draw_23 : decode cX7_draw 23 = .ok (.iconst 1, 1) := by decide +kernel
theorem dX7_draw_24 : decode cX7_draw 24 = .ok (.iaload, 1) := by decide +kernel
theorem dX7_draw_25 : decode cX7_draw 25 = .ok (.bipush 8, 2) := by decide +kernel
theorem dX7_draw_27 : decode cX7_draw 27 = .ok (.iushr, 1) := by decide +kernel
theorem dX7_draw_28 : decode cX7_draw 28 = .ok (.ireturn, 1) := by decide +kernel
theorem dX7_drawn_0 : decode cX7_drawn 0 = .ok (.iconst 0, 1) := by decide +kernel
theorem dX7_drawn_1 : decode cX7_drawn 1 = .ok (.istore_n 1, 1) := by decide +kernel
theorem dX7_drawn_2 : decode cX7_drawn 2 = .ok (.aload_n 0, 1) := by decide +kernel
theorem dX7_drawn_3 : decode cX7_drawn 3 = .ok (.getfield 9, 3) := by decide +kernel
theorem dX7_drawn_6 : decode cX7_drawn 6 = .ok (.iconst 4, 1) := by decide +kernel
theorem dX7_drawn_7 : decode cX7_drawn 7 = .ok (.aload_n 0, 1) := by decide +kernel
theorem dX7_drawn_8 : decode cX7_drawn 8 = .ok (.invokevirtual 180, 3) := by decide +kernel
theorem dX7_drawn_11 : decode cX7_drawn 11 = .ok (.bipush 16, 2) := by decide +kernel
theorem dX7_drawn_13 : decode cX7_drawn 13 = .ok (.irem, 1) := by decide +kernel
theorem dX7_drawn_14 : decode cX7_drawn 14 = .ok (.bipush 6, 2) := by decide +kernel
theorem dX7_drawn_16 : decode cX7_drawn 16 = .ok (.isub, 1) := by decide +kernel
theorem dX7_drawn_17 : decode cX7_drawn 17 = .ok (.iconst 0, 1) := by decide +kernel
theorem dX7_drawn_18 : decode cX7_drawn 18 = .ok (.bipush 9, 2) := by decide +kernel
theorem dX7_drawn_20 : decode cX7_drawn 20 = .ok (.invokestatic 66, 3) := by decide +kernel
theorem dX7_drawn_23 : decode cX7_drawn 23 = .ok (.iastore, 1) := by decide +kernel
theorem dX7_drawn_24 : decode cX7_drawn 24 = .ok (.aload_n 0, 1) := by decide +kernel
theorem dX7_drawn_25 : decode cX7_drawn 25 = .ok (.getfield 9, 3) := by decide +kernel
theorem dX7_drawn_28 : decode cX7_drawn 28 = .ok (.iconst 2, 1) := by decide +kernel
theorem dX7_drawn_29 : decode cX7_drawn 29 = .ok (.iaload, 1) := by decide +kernel
theorem dX7_drawn_30 : decode cX7_drawn 30 = .ok (.ifCond .le 48, 3) := by decide +kernel
theorem dX7_drawn_33 : decode cX7_drawn 33 = .ok (.aload_n 0, 1) := by decide +kernel
theorem dX7_drawn_34 : decode cX7_drawn 34 = .ok (.invokevirtual 180, 3) := by decide +kernel
theorem dX7_drawn_37 : decode cX7_drawn 37 = .ok (.aload_n 0, 1) := by decide +kernel
theorem dX7_drawn_38 : decode cX7_drawn 38 = .ok (.getfield 9, 3) := by decide +kernel
theorem dX7_drawn_41 : decode cX7_drawn 41 = .ok (.iconst 2, 1) := by decide +kernel
theorem dX7_drawn_42 : decode cX7_drawn 42 = .ok (.iaload, 1) := by decide +kernel
theorem dX7_drawn_43 : decode cX7_drawn 43 = .ok (.irem, 1) := by decide +kernel
theorem dX7_drawn_44 : decode cX7_drawn 44 = .ok (.istore_n 2, 1) := by decide +kernel
theorem dX7_drawn_45 : decode cX7_drawn 45 = .ok (.aload_n 0, 1) := by decide +kernel
theorem dX7_drawn_46 : decode cX7_drawn 46 = .ok (.invokevirtual 180, 3) := by decide +kernel
theorem dX7_drawn_49 : decode cX7_drawn 49 = .ok (.bipush 30, 2) := by decide +kernel
theorem dX7_drawn_51 : decode cX7_drawn 51 = .ok (.irem, 1) := by decide +kernel
theorem dX7_drawn_52 : decode cX7_drawn 52 = .ok (.istore_n 3, 1) := by decide +kernel
theorem dX7_drawn_53 : decode cX7_drawn 53 = .ok (.aload_n 0, 1) := by decide +kernel
theorem dX7_drawn_54 : decode cX7_drawn 54 = .ok (.iload_n 2, 1) := by decide +kernel
theorem dX7_drawn_55 : decode cX7_drawn 55 = .ok (.bipush 6, 2) := by decide +kernel
theorem dX7_drawn_57 : decode cX7_drawn 57 = .ok (.invokevirtual 62, 3) := by decide +kernel
theorem dX7_drawn_60 : decode cX7_drawn 60 = .ok (.ifCond .ne 16, 3) := by decide +kernel
theorem dX7_drawn_63 : decode cX7_drawn 63 = .ok (.aload_n 0, 1) := by decide +kernel
theorem dX7_drawn_64 : decode cX7_drawn 64 = .ok (.iload_n 2, 1) := by decide +kernel
theorem dX7_drawn_65 : decode cX7_drawn 65 = .ok (.iload_n 3, 1) := by decide +kernel
theorem dX7_drawn_66 : decode cX7_drawn 66 = .ok (.invokevirtual 112, 3) := by decide +kernel
theorem dX7_drawn_69 : decode cX7_drawn 69 = .ok (.ifCond .ge 7, 3) := by decide +kernel
theorem dX7_drawn_72 : decode cX7_drawn 72 = .ok (.iconst 1, 1) := by decide +kernel
theorem dX7_drawn_73 : decode cX7_drawn 73 = .ok (.goto 4, 3) := by decide +kernel
theorem dX7_drawn_76 : decode cX7_drawn 76 = .ok (.iconst 0, 1) := by decide +kernel
theorem dX7_drawn_77 : decode cX7_drawn 77 = .ok (.istore_n 1, 1) := by decide +kernel
theorem dX7_drawn_78 : decode cX7_drawn 78 = .ok (.aload_n 0, 1) := by decide +kernel
theorem dX7_drawn_79 : decode cX7_drawn 79 = .ok (.invokevirtual 176, 3) := by decide +kernel
theorem dX7_drawn_82 : decode cX7_drawn 82 = .ok (.iload_n 1, 1) := by decide +kernel
theorem dX7_drawn_83 : decode cX7_drawn 83 = .ok (.ireturn, 1) := by decide +kernel
theorem dX7_loose_0 : decode cX7_loose 0 = .ok (.iload_n 1, 1) := by decide +kernel
theorem dX7_loose_1 : decode cX7_loose 1 = .ok (.iconst 1, 1) := by decide +kernel
theorem dX7_loose_2 : decode cX7_loose 2 = .ok (.bipush 30, 2) := by decide +kernel
theorem dX7_loose_4 : decode cX7_loose 4 = .ok (.invokestatic 54, 3) := by decide +kernel
theorem dX7_loose_7 : decode cX7_loose 7 = .ok (.ifCond .ne 10, 3) := by decide +kernel
theorem dX7_loose_10 : decode cX7_loose 10 = .ok (.aload_n 0, 1) := by decide +kernel
theorem dX7_loose_11 : decode cX7_loose 11 = .ok (.ldc 80, 2) := by decide +kernel
theorem dX7_loose_13 : decode cX7_loose 13 = .ok (.invokevirtual 81, 3) := by decide +kernel
theorem dX7_loose_16 : decode cX7_loose 16 = .ok (.ireturn, 1) := by decide +kernel
theorem dX7_loose_17 : decode cX7_loose 17 = .ok (.aload_n 0, 1) := by decide +kernel
theorem dX7_loose_18 : decode cX7_loose 18 = .ok (.getfield 9, 3) := by decide +kernel
theorem dX7_loose_21 : decode cX7_loose 21 = .ok (.iconst 0, 1) := by decide +kernel
theorem dX7_loose_22 : decode cX7_loose 22 = .ok (.iaload, 1) := by decide +kernel
theorem dX7_loose_23 : decode cX7_loose 23 = .ok (.iload_n 1, 1) := by decide +kernel
theorem dX7_loose_24 : decode cX7_loose 24 = .ok (.iadd, 1) := by decide +kernel
theorem dX7_loose_25 : decode cX7_loose 25 = .ok (.sipush 9999, 3) := by decide +kernel
theorem dX7_loose_28 : decode cX7_loose 28 = .ok (.if_icmp .le 10, 3) := by decide +kernel
theorem dX7_loose_31 : decode cX7_loose 31 = .ok (.aload_n 0, 1) := by decide +kernel
theorem dX7_loose_32 : decode cX7_loose 32 = .ok (.ldc 103, 2) := by decide +kernel
theorem dX7_loose_34 : decode cX7_loose 34 = .ok (.invokevirtual 81, 3) := by decide +kernel
theorem dX7_loose_37 : decode cX7_loose 37 = .ok (.ireturn, 1) := by decide +kernel
theorem dX7_loose_38 : decode cX7_loose 38 = .ok (.iconst 0, 1) := by decide +kernel
theorem dX7_loose_39 : decode cX7_loose 39 = .ok (.istore_n 2, 1) := by decide +kernel
theorem dX7_loose_40 : decode cX7_loose 40 = .ok (.iconst 0, 1) := by decide +kernel
theorem dX7_loose_41 : decode cX7_loose 41 = .ok (.istore_n 3, 1) := by decide +kernel
theorem dX7_loose_42 : decode cX7_loose 42 = .ok (.iload_n 3, 1) := by decide +kernel
theorem dX7_loose_43 : decode cX7_loose 43 = .ok (.iload_n 1, 1) := by decide +kernel
theorem dX7_loose_44 : decode cX7_loose 44 = .ok (.if_icmp .ge 16, 3) := by decide +kernel
theorem dX7_loose_47 : decode cX7_loose 47 = .ok (.iload_n 2, 1) := by decide +kernel
theorem dX7_loose_48 : decode cX7_loose 48 = .ok (.aload_n 0, 1) := by decide +kernel
theorem dX7_loose_49 : decode cX7_loose 49 = .ok (.invokevirtual 183, 3) := by decide +kernel
theorem dX7_loose_52 : decode cX7_loose 52 = .ok (.iadd, 1) := by decide +kernel
theorem dX7_loose_53 : decode cX7_loose 53 = .ok (.istore_n 2, 1) := by decide +kernel
theorem dX7_loose_54 : decode cX7_loose 54 = .ok (.iinc 3 1, 3) := by decide +kernel
theorem dX7_loose_57 : decode cX7_loose 57 = .ok (.goto (-15), 3) := by decide +kernel
theorem dX7_loose_60 : decode cX7_loose 60 = .ok (.iload_n 2, 1) := by decide +kernel
theorem dX7_loose_61 : decode cX7_loose 61 = .ok (.ireturn, 1) := by decide +kernel
theorem dX7_seed_0 : decode cX7_seed 0 = .ok (.aload_n 0, 1) := by decide +kernel
theorem dX7_seed_1 : decode cX7_seed 1 = .ok (.iconst 1, 1) := by decide +kernel
theorem dX7_seed_2 : decode cX7_seed 2 = .ok (.iload_n 1, 1) := by decide +kernel
theorem dX7_seed_3 : decode cX7_seed 3 = .ok (.invokevirtual 99, 3) := by decide +kernel
theorem dX7_seed_6 : decode cX7_seed 6 = .ok (.ireturn, 1) := by decide +kernel
theorem dX7_findBearing_0 : decode cX7_findBearing 0 = .ok (.iconst 0, 1) := by decide +kernel
theorem dX7_findBearing_1 : decode cX7_findBearing 1 = .ok (.istore_n 1, 1) := by decide +kernel
theorem dX7_findBearing_2 : decode cX7_findBearing 2 = .ok (.iload_n 1, 1) := by decide +kernel
theorem dX7_findBearing_3 : decode cX7_findBearing 3 = .ok (.aload_n 0, 1) := by decide +kernel
theorem dX7_findBearing_4 : decode cX7_findBearing 4 = .ok (.getfield 9, 3) := by decide +kernel
theorem dX7_findBearing_7 : decode cX7_findBearing 7 = .ok (.iconst 2, 1) := by decide +kernel
theorem dX7_findBearing_8 : decode cX7_findBearing 8 = .ok (.iaload, 1) := by decide +kernel
theorem dX7_findBearing_9 : decode cX7_findBearing 9 = .ok (.if_icmp .ge 20, 3) := by decide +kernel
theorem dX7_findBearing_12 : decode cX7_findBearing 12 = .ok (.aload_n 0, 1) := by decide +kernel
theorem dX7_findBearing_13 : decode cX7_findBearing 13 = .ok (.getfield 43, 3) := by decide +kernel
theorem dX7_findBearing_16 : decode cX7_findBearing 16 = .ok (.iload_n 1, 1) := by decide +kernel
theorem dX7_findBearing_17 : decode cX7_findBearing 17 = .ok (.aload_n 0, 1) := by decide +kernel
theorem dX7_findBearing_18 : decode cX7_findBearing 18 = .ok (.iload_n 1, 1) := by decide +kernel
theorem dX7_findBearing_19 : decode cX7_findBearing 19 = .ok (.invokevirtual 93, 3) := by decide +kernel
theorem dX7_findBearing_22 : decode cX7_findBearing 22 = .ok (.iastore, 1) := by decide +kernel
theorem dX7_findBearing_23 : decode cX7_findBearing 23 = .ok (.iinc 1 1, 3) := by decide +kernel
theorem dX7_findBearing_26 : decode cX7_findBearing 26 = .ok (.goto (-24), 3) := by decide +kernel
theorem dX7_findBearing_29 : decode cX7_findBearing 29 = .ok (.return_, 1) := by decide +kernel
theorem dX7_joinedBy_0 : decode cX7_joinedBy 0 = .ok (.iconst 1, 1) := by decide +kernel
theorem dX7_joinedBy_1 : decode cX7_joinedBy 1 = .ok (.iload_n 1, 1) := by decide +kernel
theorem dX7_joinedBy_2 : decode cX7_joinedBy 2 = .ok (.ishl, 1) := by decide +kernel
theorem dX7_joinedBy_3 : decode cX7_joinedBy 3 = .ok (.istore_n 3, 1) := by decide +kernel
theorem dX7_joinedBy_4 : decode cX7_joinedBy 4 = .ok (.iconst 0, 1) := by decide +kernel
theorem dX7_joinedBy_5 : decode cX7_joinedBy 5 = .ok (.istore 4, 2) := by decide +kernel
theorem dX7_joinedBy_7 : decode cX7_joinedBy 7 = .ok (.iload_n 3, 1) := by decide +kernel
theorem dX7_joinedBy_8 : decode cX7_joinedBy 8 = .ok (.iload 4, 2) := by decide +kernel
theorem dX7_joinedBy_10 : decode cX7_joinedBy 10 = .ok (.if_icmp .eq 77, 3) := by decide +kernel
theorem dX7_joinedBy_13 : decode cX7_joinedBy 13 = .ok (.iload_n 3, 1) := by decide +kernel
theorem dX7_joinedBy_14 : decode cX7_joinedBy 14 = .ok (.istore 4, 2) := by decide +kernel
theorem dX7_joinedBy_16 : decode cX7_joinedBy 16 = .ok (.iconst 0, 1) := by decide +kernel
theorem dX7_joinedBy_17 : decode cX7_joinedBy 17 = .ok (.istore 5, 2) := by decide +kernel
theorem dX7_joinedBy_19 : decode cX7_joinedBy 19 = .ok (.iload 5, 2) := by decide +kernel
theorem dX7_joinedBy_21 : decode cX7_joinedBy 21 = .ok (.aload_n 0, 1) := by decide +kernel
theorem dX7_joinedBy_22 : decode cX7_joinedBy 22 = .ok (.getfield 9, 3) := by decide +kernel
theorem dX7_joinedBy_25 : decode cX7_joinedBy 25 = .ok (.iconst 2, 1) := by decide +kernel
theorem dX7_joinedBy_26 : decode cX7_joinedBy 26 = .ok (.iaload, 1) := by decide +kernel
theorem dX7_joinedBy_27 : decode cX7_joinedBy 27 = .ok (.if_icmp .ge 57, 3) := by decide +kernel
theorem dX7_joinedBy_30 : decode cX7_joinedBy 30 = .ok (.iconst 1, 1) := by decide +kernel
theorem dX7_joinedBy_31 : decode cX7_joinedBy 31 = .ok (.aload_n 0, 1) := by decide +kernel
theorem dX7_joinedBy_32 : decode cX7_joinedBy 32 = .ok (.iload 5, 2) := by decide +kernel
theorem dX7_joinedBy_34 : decode cX7_joinedBy 34 = .ok (.iconst 2, 1) := by decide +kernel
theorem dX7_joinedBy_35 : decode cX7_joinedBy 35 = .ok (.invokevirtual 62, 3) := by decide +kernel
theorem dX7_joinedBy_38 : decode cX7_joinedBy 38 = .ok (.ishl, 1) := by decide +kernel
theorem dX7_joinedBy_39 : decode cX7_joinedBy 39 = .ok (.iconst 1, 1) := by decide +kernel
theorem dX7_joinedBy_40 : decode cX7_joinedBy 40 = .ok (.aload_n 0, 1) := by decide +kernel
theorem dX7_joinedBy_41 : decode cX7_joinedBy 41 = .ok (.iload 5, 2) := by decide +kernel
theorem dX7_joinedBy_43 : decode cX7_joinedBy 43 = .ok (.iconst 3, 1) := by decide +kernel
theorem dX7_joinedBy_44 : decode cX7_joinedBy 44 = .ok (.invokevirtual 62, 3) := by decide +kernel
theorem dX7_joinedBy_47 : decode cX7_joinedBy 47 = .ok (.ishl, 1) := by decide +kernel
theorem dX7_joinedBy_48 : decode cX7_joinedBy 48 = .ok (.ior, 1) := by decide +kernel
theorem dX7_joinedBy_49 : decode cX7_joinedBy 49 = .ok (.istore 6, 2) := by decide +kernel
theorem dX7_joinedBy_51 : decode cX7_joinedBy 51 = .ok (.iload_n 3, 1) := by decide +kernel
theorem dX7_joinedBy_52 : decode cX7_joinedBy 52 = .ok (.aload_n 0, 1) := by decide +kernel
theorem dX7_joinedBy_53 : decode cX7_joinedBy 53 = .ok (.getfield 43, 3) := by decide +kernel
theorem dX7_joinedBy_56 : decode cX7_joinedBy 56 = .ok (.iload 5, 2) := by decide +kernel
theorem dX7_joinedBy_58 : decode cX7_joinedBy 58 = .ok (.iaload, 1) := by decide +kernel
theorem dX7_joinedBy_59 : decode cX7_joinedBy 59 = .ok (.iload_n 2, 1) := by decide +kernel
theorem dX7_joinedBy_60 : decode cX7_joinedBy 60 = .ok (.if_icmp .lt 15, 3) := by decide +kernel
theorem dX7_joinedBy_63 : decode cX7_joinedBy 63 = .ok (.iload_n 3, 1) := by decide +kernel
theorem dX7_joinedBy_64 : decode cX7_joinedBy 64 = .ok (.iload 6, 2) := by decide +kernel
theorem dX7_joinedBy_66 : decode cX7_joinedBy 66 = .ok (.iand, 1) := by decide +kernel
theorem dX7_joinedBy_67 : decode cX7_joinedBy 67 = .ok (.ifCond .eq 8, 3) := by decide +kernel
theorem dX7_joinedBy_70 : decode cX7_joinedBy 70 = .ok (.iload 6, 2) := by decide +kernel
theorem dX7_joinedBy_72 : decode cX7_joinedBy 72 = .ok (.goto 4, 3) := by decide +kernel
theorem dX7_joinedBy_75 : decode cX7_joinedBy 75 = .ok (.iconst 0, 1) := by decide +kernel
theorem dX7_joinedBy_76 : decode cX7_joinedBy 76 = .ok (.ior, 1) := by decide +kernel
theorem dX7_joinedBy_77 : decode cX7_joinedBy 77 = .ok (.istore_n 3, 1) := by decide +kernel
theorem dX7_joinedBy_78 : decode cX7_joinedBy 78 = .ok (.iinc 5 1, 3) := by decide +kernel
theorem dX7_joinedBy_81 : decode cX7_joinedBy 81 = .ok (.goto (-62), 3) := by decide +kernel
theorem dX7_joinedBy_84 : decode cX7_joinedBy 84 = .ok (.goto (-77), 3) := by decide +kernel
theorem dX7_joinedBy_87 : decode cX7_joinedBy 87 = .ok (.iload_n 3, 1) := by decide +kernel
theorem dX7_joinedBy_88 : decode cX7_joinedBy 88 = .ok (.ireturn, 1) := by decide +kernel
theorem dX7_areJoinedBy_0 : decode cX7_areJoinedBy 0 = .ok (.aload_n 0, 1) := by decide +kernel
theorem dX7_areJoinedBy_1 : decode cX7_areJoinedBy 1 = .ok (.iload_n 1, 1) := by decide +kernel
theorem dX7_areJoinedBy_2 : decode cX7_areJoinedBy 2 = .ok (.iload_n 3, 1) := by decide +kernel
theorem dX7_areJoinedBy_3 : decode cX7_areJoinedBy 3 = .ok (.invokevirtual 186, 3) := by decide +kernel
theorem dX7_areJoinedBy_6 : decode cX7_areJoinedBy 6 = .ok (.iload_n 2, 1) := by decide +kernel
theorem dX7_areJoinedBy_7 : decode cX7_areJoinedBy 7 = .ok (.ishr, 1) := by decide +kernel
theorem dX7_areJoinedBy_8 : decode cX7_areJoinedBy 8 = .ok (.iconst 1, 1) := by decide +kernel
theorem dX7_areJoinedBy_9 : decode cX7_areJoinedBy 9 = .ok (.iand, 1) := by decide +kernel
theorem dX7_areJoinedBy_10 : decode cX7_areJoinedBy 10 = .ok (.iconst 1, 1) := by decide +kernel
theorem dX7_areJoinedBy_11 : decode cX7_areJoinedBy 11 = .ok (.if_icmp .ne 7, 3) := by decide +kernel
theorem dX7_areJoinedBy_14 : decode cX7_areJoinedBy 14 = .ok (.iconst 1, 1) := by decide +kernel
theorem dX7_areJoinedBy_15 : decode cX7_areJoinedBy 15 = .ok (.goto 4, 3) := by decide +kernel
theorem dX7_areJoinedBy_18 : decode cX7_areJoinedBy 18 = .ok (.iconst 0, 1) := by decide +kernel
theorem dX7_areJoinedBy_19 : decode cX7_areJoinedBy 19 = .ok (.ireturn, 1) := by decide +kernel
theorem dX7_areJoined_0 : decode cX7_areJoined 0 = .ok (.aload_n 0, 1) := by decide +kernel
theorem dX7_areJoined_1 : decode cX7_areJoined 1 = .ok (.invokevirtual 189, 3) := by decide +kernel
theorem dX7_areJoined_4 : decode cX7_areJoined 4 = .ok (.aload_n 0, 1) := by decide +kernel
theorem dX7_areJoined_5 : decode cX7_areJoined 5 = .ok (.iload_n 1, 1) := by decide +kernel
theorem dX7_areJoined_6 : decode cX7_areJoined 6 = .ok (.iload_n 2, 1) := by decide +kernel
theorem dX7_areJoined_7 : decode cX7_areJoined 7 = .ok (.iload_n 3, 1) := by decide +kernel
theorem dX7_areJoined_8 : decode cX7_areJoined 8 = .ok (.invokevirtual 192, 3) := by decide +kernel
theorem dX7_areJoined_11 : decode cX7_areJoined 11 = .ok (.ireturn, 1) := by decide +kernel
theorem dX7_joined_0 : decode cX7_joined 0 = .ok (.iload_n 1, 1) := by decide +kernel
theorem dX7_joined_1 : decode cX7_joined 1 = .ok (.invokestatic 58, 3) := by decide +kernel
theorem dX7_joined_4 : decode cX7_joined 4 = .ok (.ifCond .eq 10, 3) := by decide +kernel
theorem dX7_joined_7 : decode cX7_joined 7 = .ok (.iload_n 2, 1) := by decide +kernel
theorem dX7_joined_8 : decode cX7_joined 8 = .ok (.invokestatic 109, 3) := by decide +kernel
theorem dX7_joined_11 : decode cX7_joined 11 = .ok (.ifCond .ne 10, 3) := by decide +kernel
theorem dX7_joined_14 : decode cX7_joined 14 = .ok (.aload_n 0, 1) := by decide +kernel
theorem dX7_joined_15 : decode cX7_joined 15 = .ok (.ldc 80, 2) := by decide +kernel
theorem dX7_joined_17 : decode cX7_joined 17 = .ok (.invokevirtual 81, 3) := by decide +kernel
theorem dX7_joined_20 : decode cX7_joined 20 = .ok (.ireturn, 1) := by decide +kernel
theorem dX7_joined_21 : decode cX7_joined 21 = .ok (.aload_n 0, 1) := by decide +kernel
theorem dX7_joined_22 : decode cX7_joined 22 = .ok (.invokevirtual 189, 3) := by decide +kernel
theorem dX7_joined_25 : decode cX7_joined 25 = .ok (.aload_n 0, 1) := by decide +kernel
theorem dX7_joined_26 : decode cX7_joined 26 = .ok (.iload_n 1, 1) := by decide +kernel
theorem dX7_joined_27 : decode cX7_joined 27 = .ok (.iload_n 2, 1) := by decide +kernel
theorem dX7_joined_28 : decode cX7_joined 28 = .ok (.invokevirtual 186, 3) := by decide +kernel
theorem dX7_joined_31 : decode cX7_joined 31 = .ok (.ireturn, 1) := by decide +kernel
theorem dX7_load_0 : decode cX7_load 0 = .ok (.iload_n 1, 1) := by decide +kernel
theorem dX7_load_1 : decode cX7_load 1 = .ok (.iload_n 2, 1) := by decide +kernel
theorem dX7_load_2 : decode cX7_load 2 = .ok (.invokestatic 76, 3) := by decide +kernel
theorem dX7_load_5 : decode cX7_load 5 = .ok (.ifCond .ne 10, 3) := by decide +kernel
theorem dX7_load_8 : decode cX7_load 8 = .ok (.aload_n 0, 1) := by decide +kernel
theorem dX7_load_9 : decode cX7_load 9 = .ok (.ldc 80, 2) := by decide +kernel
theorem dX7_load_11 : decode cX7_load 11 = .ok (.invokevirtual 81, 3) := by decide +kernel
theorem dX7_load_14 : decode cX7_load 14 = .ok (.ireturn, 1) := by decide +kernel
theorem dX7_load_15 : decode cX7_load 15 = .ok (.aload_n 0, 1) := by decide +kernel
theorem dX7_load_16 : decode cX7_load 16 = .ok (.invokevirtual 189, 3) := by decide +kernel
theorem dX7_load_19 : decode cX7_load 19 = .ok (.bipush 99, 2) := by decide +kernel
theorem dX7_load_21 : decode cX7_load 21 = .ok (.istore_n 3, 1) := by decide +kernel
theorem dX7_load_22 : decode cX7_load 22 = .ok (.iload_n 3, 1) := by decide +kernel
theorem dX7_load_23 : decode cX7_load 23 = .ok (.ifCond .lt 19, 3) := by decide +kernel
theorem dX7_load_26 : decode cX7_load 26 = .ok (.aload_n 0, 1) := by decide +kernel
theorem dX7_load_27 : decode cX7_load 27 = .ok (.iload_n 1, 1) := by decide +kernel
theorem dX7_load_28 : decode cX7_load 28 = .ok (.iload_n 2, 1) := by decide +kernel
theorem dX7_load_29 : decode cX7_load 29 = .ok (.iload_n 3, 1) := by decide +kernel
theorem dX7_load_30 : decode cX7_load 30 = .ok (.invokevirtual 192, 3) := by decide +kernel
theorem dX7_load_33 : decode cX7_load 33 = .ok (.ifCond .ne 9, 3) := by decide +kernel
theorem dX7_load_36 : decode cX7_load 36 = .ok (.iinc 3 (-1), 3) := by decide +kernel
theorem dX7_load_39 : decode cX7_load 39 = .ok (.goto (-17), 3) := by decide +kernel
theorem dX7_load_42 : decode cX7_load 42 = .ok (.iload_n 3, 1) := by decide +kernel
theorem dX7_load_43 : decode cX7_load 43 = .ok (.ifCond .ge 12, 3) := by decide +kernel
theorem dX7_load_46 : decode cX7_load 46 = .ok (.aload_n 0, 1) := by decide +kernel
theorem dX7_load_47 : decode cX7_load 47 = .ok (.ldc 195, 2) := by decide +kernel
theorem dX7_load_49 : decode cX7_load 49 = .ok (.invokevirtual 81, 3) := by decide +kernel
theorem dX7_load_52 : decode cX7_load 52 = .ok (.goto 4, 3) := by decide +kernel
theorem dX7_load_55 : decode cX7_load 55 = .ok (.iload_n 3, 1) := by decide +kernel
theorem dX7_load_56 : decode cX7_load 56 = .ok (.ireturn, 1) := by decide +kernel
theorem dX7_flourFor_0 : decode cX7_flourFor 0 = .ok (.iconst 0, 1) := by decide +kernel
theorem dX7_flourFor_1 : decode cX7_flourFor 1 = .ok (.istore_n 2, 1) := by decide +kernel
theorem dX7_flourFor_2 : decode cX7_flourFor 2 = .ok (.iconst 0, 1) := by decide +kernel
theorem dX7_flourFor_3 : decode cX7_flourFor 3 = .ok (.istore_n 3, 1) := by decide +kernel
theorem dX7_flourFor_4 : decode cX7_flourFor 4 = .ok (.iload_n 3, 1) := by decide +kernel
theorem dX7_flourFor_5 : decode cX7_flourFor 5 = .ok (.aload_n 0, 1) := by decide +kernel
theorem dX7_flourFor_6 : decode cX7_flourFor 6 = .ok (.getfield 9, 3) := by decide +kernel
theorem dX7_flourFor_9 : decode cX7_flourFor 9 = .ok (.iconst 2, 1) := by decide +kernel
theorem dX7_flourFor_10 : decode cX7_flourFor 10 = .ok (.iaload, 1) := by decide +kernel
theorem dX7_flourFor_11 : decode cX7_flourFor 11 = .ok (.if_icmp .ge 30, 3) := by decide +kernel
theorem dX7_flourFor_14 : decode cX7_flourFor 14 = .ok (.iload_n 2, 1) := by decide +kernel
theorem dX7_flourFor_15 : decode cX7_flourFor 15 = .ok (.iload_n 1, 1) := by decide +kernel
theorem dX7_flourFor_16 : decode cX7_flourFor 16 = .ok (.iload_n 3, 1) := by decide +kernel
theorem dX7_flourFor_17 : decode cX7_flourFor 17 = .ok (.ishr, 1) := by decide +kernel
theorem dX7_flourFor_18 : decode cX7_flourFor 18 = .ok (.iconst 1, 1) := by decide +kernel
theorem dX7_flourFor_19 : decode cX7_flourFor 19 = .ok (.iand, 1) := by decide +kernel
theorem dX7_flourFor_20 : decode cX7_flourFor 20 = .ok (.iconst 1, 1) := by decide +kernel
theorem dX7_flourFor_21 : decode cX7_flourFor 21 = .ok (.if_icmp .ne 11, 3) := by decide +kernel
theorem dX7_flourFor_24 : decode cX7_flourFor 24 = .ok (.aload_n 0, 1) := by decide +kernel
theorem dX7_flourFor_25 : decode cX7_flourFor 25 = .ok (.iload_n 3, 1) := by decide +kernel
theorem dX7_flourFor_26 : decode cX7_flourFor 26 = .ok (.invokevirtual 96, 3) := by decide +kernel
theorem dX7_flourFor_29 : decode cX7_flourFor 29 = .ok (.goto 4, 3) := by decide +kernel
theorem dX7_flourFor_32 : decode cX7_flourFor 32 = .ok (.iconst 0, 1) := by decide +kernel
theorem dX7_flourFor_33 : decode cX7_flourFor 33 = .ok (.iadd, 1) := by decide +kernel
theorem dX7_flourFor_34 : decode cX7_flourFor 34 = .ok (.istore_n 2, 1) := by decide +kernel
theorem dX7_flourFor_35 : decode cX7_flourFor 35 = .ok (.iinc 3 1, 3) := by decide +kernel
theorem dX7_flourFor_38 : decode cX7_flourFor 38 = .ok (.goto (-34), 3) := by decide +kernel
theorem dX7_flourFor_41 : decode cX7_flourFor 41 = .ok (.iload_n 2, 1) := by decide +kernel
theorem dX7_flourFor_42 : decode cX7_flourFor 42 = .ok (.ireturn, 1) := by decide +kernel
theorem dX7_baking_0 : decode cX7_baking 0 = .ok (.iload_n 1, 1) := by decide +kernel
theorem dX7_baking_1 : decode cX7_baking 1 = .ok (.iload_n 2, 1) := by decide +kernel
theorem dX7_baking_2 : decode cX7_baking 2 = .ok (.invokestatic 76, 3) := by decide +kernel
theorem dX7_baking_5 : decode cX7_baking 5 = .ok (.ifCond .eq 20, 3) := by decide +kernel
theorem dX7_baking_8 : decode cX7_baking 8 = .ok (.iload_n 3, 1) := by decide +kernel
theorem dX7_baking_9 : decode cX7_baking 9 = .ok (.invokestatic 109, 3) := by decide +kernel
theorem dX7_baking_12 : decode cX7_baking 12 = .ok (.ifCond .eq 13, 3) := by decide +kernel
theorem dX7_baking_15 : decode cX7_baking 15 = .ok (.iload 4, 2) := by decide +kernel
