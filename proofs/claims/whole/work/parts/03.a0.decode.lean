theorem dX0_init_0 : decode cX0_init 0 = .ok (.aload_n 0, 1) := by decide +kernel
theorem dX0_init_1 : decode cX0_init 1 = .ok (.invokespecial 3, 3) := by decide +kernel
theorem dX0_init_4 : decode cX0_init 4 = .ok (.aload_n 0, 1) := by decide +kernel
theorem dX0_init_5 : decode cX0_init 5 = .ok (.bipush 9, 2) := by decide +kernel
theorem dX0_init_7 : decode cX0_init 7 = .ok (.anewarray 9, 3) := by decide +kernel
theorem dX0_init_10 : decode cX0_init 10 = .ok (.putfield 11, 3) := by decide +kernel
theorem dX0_init_13 : decode cX0_init 13 = .ok (.aload_n 0, 1) := by decide +kernel
theorem dX0_init_14 : decode cX0_init 14 = .ok (.iconst 0, 1) := by decide +kernel
theorem dX0_init_15 : decode cX0_init 15 = .ok (.putfield 17, 3) := by decide +kernel
theorem dX0_init_18 : decode cX0_init 18 = .ok (.aload_n 0, 1) := by decide +kernel
theorem dX0_init_19 : decode cX0_init 19 = .ok (.iconst 0, 1) := by decide +kernel
theorem dX0_init_20 : decode cX0_init 20 = .ok (.putfield 21, 3) := by decide +kernel
theorem dX0_init_23 : decode cX0_init 23 = .ok (.aload_n 0, 1) := by decide +kernel
theorem dX0_init_24 : decode cX0_init 24 = .ok (.sipush 200, 3) := by decide +kernel
theorem dX0_init_27 : decode cX0_init 27 = .ok (.putfield 24, 3) := by decide +kernel
theorem dX0_init_30 : decode cX0_init 30 = .ok (.aload_n 0, 1) := by decide +kernel
theorem dX0_init_31 : decode cX0_init 31 = .ok (.iconst 0, 1) := by decide +kernel
theorem dX0_init_32 : decode cX0_init 32 = .ok (.putfield 27, 3) := by decide +kernel
theorem dX0_init_35 : decode cX0_init 35 = .ok (.aload_n 0, 1) := by decide +kernel
theorem dX0_init_36 : decode cX0_init 36 = .ok (.iconst 0, 1) := by decide +kernel
theorem dX0_init_37 : decode cX0_init 37 = .ok (.putfield 30, 3) := by decide +kernel
theorem dX0_init_40 : decode cX0_init 40 = .ok (.aload_n 0, 1) := by decide +kernel
theorem dX0_init_41 : decode cX0_init 41 = .ok (.iconst 0, 1) := by decide +kernel
theorem dX0_init_42 : decode cX0_init 42 = .ok (.putfield 33, 3) := by decide +kernel
theorem dX0_init_45 : decode cX0_init 45 = .ok (.aload_n 0, 1) := by decide +kernel
theorem dX0_init_46 : decode cX0_init 46 = .ok (.iconst 1, 1) := by decide +kernel
theorem dX0_init_47 : decode cX0_init 47 = .ok (.putfield 36, 3) := by decide +kernel
theorem dX0_init_50 : decode cX0_init 50 = .ok (.aload_n 0, 1) := by decide +kernel
theorem dX0_init_51 : decode cX0_init 51 = .ok (.iconst 2, 1) := by decide +kernel
theorem dX0_init_52 : decode cX0_init 52 = .ok (.anewarray 39, 3) := by decide +kernel
theorem dX0_init_55 : decode cX0_init 55 = .ok (.putfield 41, 3) := by decide +kernel
theorem dX0_init_58 : decode cX0_init 58 = .ok (.aload_n 0, 1) := by decide +kernel
theorem dX0_init_59 : decode cX0_init 59 = .ok (.bipush 60, 2) := by decide +kernel
theorem dX0_init_61 : decode cX0_init 61 = .ok (.newarray .char, 2) := by decide +kernel
theorem dX0_init_63 : decode cX0_init 63 = .ok (.putfield 45, 3) := by decide +kernel
theorem dX0_init_66 : decode cX0_init 66 = .ok (.aload_n 0, 1) := by decide +kernel
theorem dX0_init_67 : decode cX0_init 67 = .ok (.iconst 0, 1) := by decide +kernel
theorem dX0_init_68 : decode cX0_init 68 = .ok (.putfield 49, 3) := by decide +kernel
theorem dX0_init_71 : decode cX0_init 71 = .ok (.aload_n 0, 1) := by decide +kernel
theorem dX0_init_72 : decode cX0_init 72 = .ok (.bipush 24, 2) := by decide +kernel
theorem dX0_init_74 : decode cX0_init 74 = .ok (.newarray .int, 2) := by decide +kernel
theorem dX0_init_76 : decode cX0_init 76 = .ok (.putfield 52, 3) := by decide +kernel
theorem dX0_init_79 : decode cX0_init 79 = .ok (.aload_n 0, 1) := by decide +kernel
theorem dX0_init_80 : decode cX0_init 80 = .ok (.iconst 0, 1) := by decide +kernel
theorem dX0_init_81 : decode cX0_init 81 = .ok (.putfield 56, 3) := by decide +kernel
theorem dX0_init_84 : decode cX0_init 84 = .ok (.iconst 0, 1) := by decide +kernel
theorem dX0_init_85 : decode cX0_init 85 = .ok (.istore_n 1, 1) := by decide +kernel
theorem dX0_init_86 : decode cX0_init 86 = .ok (.iload_n 1, 1) := by decide +kernel
theorem dX0_init_87 : decode cX0_init 87 = .ok (.bipush 9, 2) := by decide +kernel
theorem dX0_init_89 : decode cX0_init 89 = .ok (.if_icmp .ge 22, 3) := by decide +kernel
theorem dX0_init_92 : decode cX0_init 92 = .ok (.aload_n 0, 1) := by decide +kernel
theorem dX0_init_93 : decode cX0_init 93 = .ok (.getfield 11, 3) := by decide +kernel
theorem dX0_init_96 : decode cX0_init 96 = .ok (.iload_n 1, 1) := by decide +kernel
theorem dX0_init_97 : decode cX0_init 97 = .ok (.new 9, 3) := by decide +kernel
theorem dX0_init_100 : decode cX0_init 100 = .ok (.dup, 1) := by decide +kernel
theorem dX0_init_101 : decode cX0_init 101 = .ok (.invokespecial 59, 3) := by decide +kernel
theorem dX0_init_104 : decode cX0_init 104 = .ok (.aastore, 1) := by decide +kernel
theorem dX0_init_105 : decode cX0_init 105 = .ok (.iinc 1 1, 3) := by decide +kernel
theorem dX0_init_108 : decode cX0_init 108 = .ok (.goto (-22), 3) := by decide +kernel
theorem dX0_init_111 : decode cX0_init 111 = .ok (.iconst 0, 1) := by decide +kernel
theorem dX0_init_112 : decode cX0_init 112 = .ok (.istore_n 1, 1) := by decide +kernel
theorem dX0_init_113 : decode cX0_init 113 = .ok (.iload_n 1, 1) := by decide +kernel
theorem dX0_init_114 : decode cX0_init 114 = .ok (.iconst 1, 1) := by decide +kernel
theorem dX0_init_115 : decode cX0_init 115 = .ok (.if_icmp .gt 22, 3) := by decide +kernel
theorem dX0_init_118 : decode cX0_init 118 = .ok (.aload_n 0, 1) := by decide +kernel
theorem dX0_init_119 : decode cX0_init 119 = .ok (.getfield 41, 3) := by decide +kernel
theorem dX0_init_122 : decode cX0_init 122 = .ok (.iload_n 1, 1) := by decide +kernel
theorem dX0_init_123 : decode cX0_init 123 = .ok (.new 39, 3) := by decide +kernel
theorem dX0_init_126 : decode cX0_init 126 = .ok (.dup, 1) := by decide +kernel
theorem dX0_init_127 : decode cX0_init 127 = .ok (.invokespecial 60, 3) := by decide +kernel
theorem dX0_init_130 : decode cX0_init 130 = .ok (.aastore, 1) := by decide +kernel
theorem dX0_init_131 : decode cX0_init 131 = .ok (.iinc 1 1, 3) := by decide +kernel
theorem dX0_init_134 : decode cX0_init 134 = .ok (.goto (-21), 3) := by decide +kernel
theorem dX0_init_137 : decode cX0_init 137 = .ok (.return_, 1) := by decide +kernel
theorem dX0_takeFrom_0 : decode cX0_takeFrom 0 = .ok (.aload_n 0, 1) := by decide +kernel
theorem dX0_takeFrom_1 : decode cX0_takeFrom 1 = .ok (.aload_n 1, 1) := by decide +kernel
theorem dX0_takeFrom_2 : decode cX0_takeFrom 2 = .ok (.getfield 17, 3) := by decide +kernel
theorem dX0_takeFrom_5 : decode cX0_takeFrom 5 = .ok (.putfield 17, 3) := by decide +kernel
theorem dX0_takeFrom_8 : decode cX0_takeFrom 8 = .ok (.iconst 0, 1) := by decide +kernel
theorem dX0_takeFrom_9 : decode cX0_takeFrom 9 = .ok (.istore_n 2, 1) := by decide +kernel
theorem dX0_takeFrom_10 : decode cX0_takeFrom 10 = .ok (.iload_n 2, 1) := by decide +kernel
theorem dX0_takeFrom_11 : decode cX0_takeFrom 11 = .ok (.bipush 9, 2) := by decide +kernel
theorem dX0_takeFrom_13 : decode cX0_takeFrom 13 = .ok (.if_icmp .ge 24, 3) := by decide +kernel
theorem dX0_takeFrom_16 : decode cX0_takeFrom 16 = .ok (.aload_n 0, 1) := by decide +kernel
theorem dX0_takeFrom_17 : decode cX0_takeFrom 17 = .ok (.getfield 11, 3) := by decide +kernel
theorem dX0_takeFrom_20 : decode cX0_takeFrom 20 = .ok (.iload_n 2, 1) := by decide +kernel
theorem dX0_takeFrom_21 : decode cX0_takeFrom 21 = .ok (.aaload, 1) := by decide +kernel
theorem dX0_takeFrom_22 : decode cX0_takeFrom 22 = .ok (.aload_n 1, 1) := by decide +kernel
theorem dX0_takeFrom_23 : decode cX0_takeFrom 23 = .ok (.getfield 11, 3) := by decide +kernel
theorem dX0_takeFrom_26 : decode cX0_takeFrom 26 = .ok (.iload_n 2, 1) := by decide +kernel
theorem dX0_takeFrom_27 : decode cX0_takeFrom 27 = .ok (.aaload, 1) := by decide +kernel
theorem dX0_takeFrom_28 : decode cX0_takeFrom 28 = .ok (.invokevirtual 61, 3) := by decide +kernel
theorem dX0_takeFrom_31 : decode cX0_takeFrom 31 = .ok (.iinc 2 1, 3) := by decide +kernel
theorem dX0_takeFrom_34 : decode cX0_takeFrom 34 = .ok (.goto (-24), 3) := by decide +kernel
theorem dX0_takeFrom_37 : decode cX0_takeFrom 37 = .ok (.aload_n 0, 1) := by decide +kernel
theorem dX0_takeFrom_38 : decode cX0_takeFrom 38 = .ok (.aload_n 1, 1) := by decide +kernel
theorem dX0_takeFrom_39 : decode cX0_takeFrom 39 = .ok (.getfield 21, 3) := by decide +kernel
theorem dX0_takeFrom_42 : decode cX0_takeFrom 42 = .ok (.putfield 21, 3) := by decide +kernel
theorem dX0_takeFrom_45 : decode cX0_takeFrom 45 = .ok (.aload_n 0, 1) := by decide +kernel
theorem dX0_takeFrom_46 : decode cX0_takeFrom 46 = .ok (.aload_n 1, 1) := by decide +kernel
theorem dX0_takeFrom_47 : decode cX0_takeFrom 47 = .ok (.getfield 24, 3) := by decide +kernel
theorem dX0_takeFrom_50 : decode cX0_takeFrom 50 = .ok (.putfield 24, 3) := by decide +kernel
theorem dX0_takeFrom_53 : decode cX0_takeFrom 53 = .ok (.aload_n 0, 1) := by decide +kernel
theorem dX0_takeFrom_54 : decode cX0_takeFrom 54 = .ok (.aload_n 1, 1) := by decide +kernel
theorem dX0_takeFrom_55 : decode cX0_takeFrom 55 = .ok (.getfield 27, 3) := by decide +kernel
theorem dX0_takeFrom_58 : decode cX0_takeFrom 58 = .ok (.putfield 27, 3) := by decide +kernel
theorem dX0_takeFrom_61 : decode cX0_takeFrom 61 = .ok (.aload_n 0, 1) := by decide +kernel
theorem dX0_takeFrom_62 : decode cX0_takeFrom 62 = .ok (.aload_n 1, 1) := by decide +kernel
theorem dX0_takeFrom_63 : decode cX0_takeFrom 63 = .ok (.getfield 30, 3) := by decide +kernel
theorem dX0_takeFrom_66 : decode cX0_takeFrom 66 = .ok (.putfield 30, 3) := by decide +kernel
theorem dX0_takeFrom_69 : decode cX0_takeFrom 69 = .ok (.aload_n 0, 1) := by decide +kernel
theorem dX0_takeFrom_70 : decode cX0_takeFrom 70 = .ok (.aload_n 1, 1) := by decide +kernel
theorem dX0_takeFrom_71 : decode cX0_takeFrom 71 = .ok (.getfield 33, 3) := by decide +kernel
theorem dX0_takeFrom_74 : decode cX0_takeFrom 74 = .ok (.putfield 33, 3) := by decide +kernel
theorem dX0_takeFrom_77 : decode cX0_takeFrom 77 = .ok (.aload_n 0, 1) := by decide +kernel
theorem dX0_takeFrom_78 : decode cX0_takeFrom 78 = .ok (.aload_n 1, 1) := by decide +kernel
theorem dX0_takeFrom_79 : decode cX0_takeFrom 79 = .ok (.getfield 36, 3) := by decide +kernel
theorem dX0_takeFrom_82 : decode cX0_takeFrom 82 = .ok (.putfield 36, 3) := by decide +kernel
theorem dX0_takeFrom_85 : decode cX0_takeFrom 85 = .ok (.iconst 0, 1) := by decide +kernel
theorem dX0_takeFrom_86 : decode cX0_takeFrom 86 = .ok (.istore_n 2, 1) := by decide +kernel
theorem dX0_takeFrom_87 : decode cX0_takeFrom 87 = .ok (.iload_n 2, 1) := by decide +kernel
theorem dX0_takeFrom_88 : decode cX0_takeFrom 88 = .ok (.iconst 1, 1) := by decide +kernel
theorem dX0_takeFrom_89 : decode cX0_takeFrom 89 = .ok (.if_icmp .gt 24, 3) := by decide +kernel
theorem dX0_takeFrom_92 : decode cX0_takeFrom 92 = .ok (.aload_n 0, 1) := by decide +kernel
theorem dX0_takeFrom_93 : decode cX0_takeFrom 93 = .ok (.getfield 41, 3) := by decide +kernel
theorem dX0_takeFrom_96 : decode cX0_takeFrom 96 = .ok (.iload_n 2, 1) := by decide +kernel
theorem dX0_takeFrom_97 : decode cX0_takeFrom 97 = .ok (.aaload, 1) := by decide +kernel
theorem dX0_takeFrom_98 : decode cX0_takeFrom 98 = .ok (.aload_n 1, 1) := by decide +kernel
theorem dX0_takeFrom_99 : decode cX0_takeFrom 99 = .ok (.getfield 41, 3) := by decide +kernel
theorem dX0_takeFrom_102 : decode cX0_takeFrom 102 = .ok (.iload_n 2, 1) := by decide +kernel
theorem dX0_takeFrom_103 : decode cX0_takeFrom 103 = .ok (.aaload, 1) := by decide +kernel
theorem dX0_takeFrom_104 : decode cX0_takeFrom 104 = .ok (.invokevirtual 65, 3) := by decide +kernel
theorem dX0_takeFrom_107 : decode cX0_takeFrom 107 = .ok (.iinc 2 1, 3) := by decide +kernel
theorem dX0_takeFrom_110 : decode cX0_takeFrom 110 = .ok (.goto (-23), 3) := by decide +kernel
theorem dX0_takeFrom_113 : decode cX0_takeFrom 113 = .ok (.aload_n 1, 1) := by decide +kernel
theorem dX0_takeFrom_114 : decode cX0_takeFrom 114 = .ok (.getfield 45, 3) := by decide +kernel
theorem dX0_takeFrom_117 : decode cX0_takeFrom 117 = .ok (.iconst 0, 1) := by decide +kernel
theorem dX0_takeFrom_118 : decode cX0_takeFrom 118 = .ok (.aload_n 0, 1) := by decide +kernel
theorem dX0_takeFrom_119 : decode cX0_takeFrom 119 = .ok (.getfield 45, 3) := by decide +kernel
theorem dX0_takeFrom_122 : decode cX0_takeFrom 122 = .ok (.iconst 0, 1) := by decide +kernel
theorem dX0_takeFrom_123 : decode cX0_takeFrom 123 = .ok (.bipush 60, 2) := by decide +kernel
theorem dX0_takeFrom_125 : decode cX0_takeFrom 125 = .ok (.invokestatic 68, 3) := by decide +kernel
theorem dX0_takeFrom_128 : decode cX0_takeFrom 128 = .ok (.aload_n 0, 1) := by decide +kernel
theorem dX0_takeFrom_129 : decode cX0_takeFrom 129 = .ok (.aload_n 1, 1) := by decide +kernel
theorem dX0_takeFrom_130 : decode cX0_takeFrom 130 = .ok (.getfield 49, 3) := by decide +kernel
theorem dX0_takeFrom_133 : decode cX0_takeFrom 133 = .ok (.putfield 49, 3) := by decide +kernel
theorem dX0_takeFrom_136 : decode cX0_takeFrom 136 = .ok (.aload_n 1, 1) := by decide +kernel
theorem dX0_takeFrom_137 : decode cX0_takeFrom 137 = .ok (.getfield 52, 3) := by decide +kernel
theorem dX0_takeFrom_140 : decode cX0_takeFrom 140 = .ok (.iconst 0, 1) := by decide +kernel
theorem dX0_takeFrom_141 : decode cX0_takeFrom 141 = .ok (.aload_n 0, 1) := by decide +kernel
theorem dX0_takeFrom_142 : decode cX0_takeFrom 142 = .ok (.getfield 52, 3) := by decide +kernel
theorem dX0_takeFrom_145 : decode cX0_takeFrom 145 = .ok (.iconst 0, 1) := by decide +kernel
theorem dX0_takeFrom_146 : decode cX0_takeFrom 146 = .ok (.bipush 24, 2) := by decide +kernel
theorem dX0_takeFrom_148 : decode cX0_takeFrom 148 = .ok (.invokestatic 68, 3) := by decide +kernel
theorem dX0_takeFrom_151 : decode cX0_takeFrom 151 = .ok (.aload_n 0, 1) := by decide +kernel
theorem dX0_takeFrom_152 : decode cX0_takeFrom 152 = .ok (.aload_n 1, 1) := by decide +kernel
theorem dX0_takeFrom_153 : decode cX0_takeFrom 153 = .ok (.getfield 56, 3) := by decide +kernel
theorem dX0_takeFrom_156 : decode cX0_takeFrom 156 = .ok (.putfield 56, 3) := by decide +kernel
theorem dX0_takeFrom_159 : decode cX0_takeFrom 159 = .ok (.return_, 1) := by decide +kernel
theorem dX0_hasSpan_0 : decode cX0_hasSpan 0 = .ok (.iload_n 1, 1) := by decide +kernel
theorem dX0_hasSpan_1 : decode cX0_hasSpan 1 = .ok (.iconst 0, 1) := by decide +kernel
theorem dX0_hasSpan_2 : decode cX0_hasSpan 2 = .ok (.aload_n 0, 1) := by decide +kernel
theorem dX0_hasSpan_3 : decode cX0_hasSpan 3 = .ok (.getfield 17, 3) := by decide +kernel
theorem dX0_hasSpan_6 : decode cX0_hasSpan 6 = .ok (.iconst 1, 1) := by decide +kernel
theorem dX0_hasSpan_7 : decode cX0_hasSpan 7 = .ok (.isub, 1) := by decide +kernel
theorem dX0_hasSpan_8 : decode cX0_hasSpan 8 = .ok (.invokestatic 74, 3) := by decide +kernel
theorem dX0_hasSpan_11 : decode cX0_hasSpan 11 = .ok (.ireturn, 1) := by decide +kernel
theorem dX0_addSpan_0 : decode cX0_addSpan 0 = .ok (.aload_n 0, 1) := by decide +kernel
theorem dX0_addSpan_1 : decode cX0_addSpan 1 = .ok (.getfield 11, 3) := by decide +kernel
theorem dX0_addSpan_4 : decode cX0_addSpan 4 = .ok (.aload_n 0, 1) := by decide +kernel
theorem dX0_addSpan_5 : decode cX0_addSpan 5 = .ok (.getfield 17, 3) := by decide +kernel
theorem dX0_addSpan_8 : decode cX0_addSpan 8 = .ok (.aaload, 1) := by decide +kernel
theorem dX0_addSpan_9 : decode cX0_addSpan 9 = .ok (.astore 4, 2) := by decide +kernel
theorem dX0_addSpan_11 : decode cX0_addSpan 11 = .ok (.aload 4, 2) := by decide +kernel
theorem dX0_addSpan_13 : decode cX0_addSpan 13 = .ok (.invokevirtual 78, 3) := by decide +kernel
theorem dX0_addSpan_16 : decode cX0_addSpan 16 = .ok (.aload 4, 2) := by decide +kernel
theorem dX0_addSpan_18 : decode cX0_addSpan 18 = .ok (.iload_n 1, 1) := by decide +kernel
theorem dX0_addSpan_19 : decode cX0_addSpan 19 = .ok (.bipush 10, 2) := by decide +kernel
theorem dX0_addSpan_21 : decode cX0_addSpan 21 = .ok (.idiv, 1) := by decide +kernel
theorem dX0_addSpan_22 : decode cX0_addSpan 22 = .ok (.putfield 81, 3) := by decide +kernel
theorem dX0_addSpan_25 : decode cX0_addSpan 25 = .ok (.aload 4, 2) := by decide +kernel
theorem dX0_addSpan_27 : decode cX0_addSpan 27 = .ok (.iload_n 1, 1) := by decide +kernel
theorem dX0_addSpan_28 : decode cX0_addSpan 28 = .ok (.bipush 10, 2) := by decide +kernel
theorem dX0_addSpan_30 : decode cX0_addSpan 30 = .ok (.irem, 1) := by decide +kernel
theorem dX0_addSpan_31 : decode cX0_addSpan 31 = .ok (.putfield 84, 3) := by decide +kernel
theorem dX0_addSpan_34 : decode cX0_addSpan 34 = .ok (.aload 4, 2) := by decide +kernel
theorem dX0_addSpan_36 : decode cX0_addSpan 36 = .ok (.iload_n 2, 1) := by decide +kernel
theorem dX0_addSpan_37 : decode cX0_addSpan 37 = .ok (.putfield 87, 3) := by decide +kernel
theorem dX0_addSpan_40 : decode cX0_addSpan 40 = .ok (.aload 4, 2) := by decide +kernel
theorem dX0_addSpan_42 : decode cX0_addSpan 42 = .ok (.iload_n 3, 1) := by decide +kernel
theorem dX0_addSpan_43 : decode cX0_addSpan 43 = .ok (.putfield 90, 3) := by decide +kernel
theorem dX0_addSpan_46 : decode cX0_addSpan 46 = .ok (.aload_n 0, 1) := by decide +kernel
theorem dX0_addSpan_47 : decode cX0_addSpan 47 = .ok (.dup, 1) := by decide +kernel
theorem dX0_addSpan_48 : decode cX0_addSpan 48 = .ok (.getfield 17, 3) := by decide +kernel
theorem dX0_addSpan_51 : decode cX0_addSpan 51 = .ok (.iconst 1, 1) := by decide +kernel
theorem dX0_addSpan_52 : decode cX0_addSpan 52 = .ok (.iadd, 1) := by decide +kernel
theorem dX0_addSpan_53 : decode cX0_addSpan 53 = .ok (.putfield 17, 3) := by decide +kernel
theorem dX0_addSpan_56 : decode cX0_addSpan 56 = .ok (.aload_n 0, 1) := by decide +kernel
theorem dX0_addSpan_57 : decode cX0_addSpan 57 = .ok (.getfield 17, 3) := by decide +kernel
theorem dX0_addSpan_60 : decode cX0_addSpan 60 = .ok (.iconst 1, 1) := by decide +kernel
theorem dX0_addSpan_61 : decode cX0_addSpan 61 = .ok (.isub, 1) := by decide +kernel
theorem dX0_addSpan_62 : decode cX0_addSpan 62 = .ok (.ireturn, 1) := by decide +kernel
theorem dX0_addToTape_0 : decode cX0_addToTape 0 = .ok (.iconst 0, 1) := by decide +kernel
theorem dX0_addToTape_1 : decode cX0_addToTape 1 = .ok (.istore 4, 2) := by decide +kernel
theorem dX0_addToTape_3 : decode cX0_addToTape 3 = .ok (.iload 4, 2) := by decide +kernel
theorem dX0_addToTape_5 : decode cX0_addToTape 5 = .ok (.iload_n 3, 1) := by decide +kernel
theorem dX0_addToTape_6 : decode cX0_addToTape 6 = .ok (.if_icmp .ge 41, 3) := by decide +kernel
theorem dX0_addToTape_9 : decode cX0_addToTape 9 = .ok (.aload_n 0, 1) := by decide +kernel
theorem dX0_addToTape_10 : decode cX0_addToTape 10 = .ok (.getfield 45, 3) := by decide +kernel
theorem dX0_addToTape_13 : decode cX0_addToTape 13 = .ok (.aload_n 0, 1) := by decide +kernel
theorem dX0_addToTape_14 : decode cX0_addToTape 14 = .ok (.getfield 49, 3) := by decide +kernel
theorem dX0_addToTape_17 : decode cX0_addToTape 17 = .ok (.lload_n 1, 1) := by decide +kernel
theorem dX0_addToTape_18 : decode cX0_addToTape 18 = .ok (.bipush 8, 2) := by decide +kernel
theorem dX0_addToTape_20 : decode cX0_addToTape 20 = .ok (.iload 4, 2) := by decide +kernel
theorem dX0_addToTape_22 : decode cX0_addToTape 22 = .ok (.imul, 1) := by decide +kernel
theorem dX0_addToTape_23 : decode cX0_addToTape 23 = .ok (.lushr, 1) := by decide +kernel
theorem dX0_addToTape_24 : decode cX0_addToTape 24 = .ok (.ldc2_w 93, 3) := by decide +kernel
theorem dX0_addToTape_27 : decode cX0_addToTape 27 = .ok (.land, 1) := by decide +kernel
theorem dX0_addToTape_28 : decode cX0_addToTape 28 = .ok (.l2i, 1) := by decide +kernel
theorem dX0_addToTape_29 : decode cX0_addToTape 29 = .ok (.i2c, 1) := by decide +kernel
theorem dX0_addToTape_30 : decode cX0_addToTape 30 = .ok (.castore, 1) := by decide +kernel
theorem dX0_addToTape_31 : decode cX0_addToTape 31 = .ok (.aload_n 0, 1) := by decide +kernel
theorem dX0_addToTape_32 : decode cX0_addToTape 32 = .ok (.dup, 1) := by decide +kernel
theorem dX0_addToTape_33 : decode cX0_addToTape 33 = .ok (.getfield 49, 3) := by decide +kernel
theorem dX0_addToTape_36 : decode cX0_addToTape 36 = .ok (.iconst 1, 1) := by decide +kernel
theorem dX0_addToTape_37 : decode cX0_addToTape 37 = .ok (.iadd, 1) := by decide +kernel
theorem dX0_addToTape_38 : decode cX0_addToTape 38 = .ok (.putfield 49, 3) := by decide +kernel
theorem dX0_addToTape_41 : decode cX0_addToTape 41 = .ok (.iinc 4 1, 3) := by decide +kernel
theorem dX0_addToTape_44 : decode cX0_addToTape 44 = .ok (.goto (-41), 3) := by decide +kernel
theorem dX0_addToTape_47 : decode cX0_addToTape 47 = .ok (.aload_n 0, 1) := by decide +kernel
theorem dX0_addToTape_48 : decode cX0_addToTape 48 = .ok (.getfield 49, 3) := by decide +kernel
theorem dX0_addToTape_51 : decode cX0_addToTape 51 = .ok (.ireturn, 1) := by decide +kernel
theorem dX0_gives_0 : decode cX0_gives 0 = .ok (.iload_n 1, 1) := by decide +kernel
theorem dX0_gives_1 : decode cX0_gives 1 = .ok (.ifCond .ne 52, 3) := by decide +kernel
theorem dX0_gives_4 : decode cX0_gives 4 = .ok (.aload_n 0, 1) := by decide +kernel
theorem dX0_gives_5 : decode cX0_gives 5 = .ok (.getfield 41, 3) := by decide +kernel
theorem dX0_gives_8 : decode cX0_gives 8 = .ok (.iconst 0, 1) := by decide +kernel
theorem dX0_gives_9 : decode cX0_gives 9 = .ok (.aaload, 1) := by decide +kernel
theorem dX0_gives_10 : decode cX0_gives 10 = .ok (.getfield 95, 3) := by decide +kernel
theorem dX0_gives_13 : decode cX0_gives 13 = .ok (.ifCond .eq 19, 3) := by decide +kernel
theorem dX0_gives_16 : decode cX0_gives 16 = .ok (.aload_n 0, 1) := by decide +kernel
theorem dX0_gives_17 : decode cX0_gives 17 = .ok (.getfield 41, 3) := by decide +kernel
theorem dX0_gives_20 : decode cX0_gives 20 = .ok (.iconst 0, 1) := by decide +kernel
theorem dX0_gives_21 : decode cX0_gives 21 = .ok (.aaload, 1) := by decide +kernel
theorem dX0_gives_22 : decode cX0_gives 22 = .ok (.iload_n 2, 1) := by decide +kernel
theorem dX0_gives_23 : decode cX0_gives 23 = .ok (.iload_n 3, 1) := by decide +kernel
theorem dX0_gives_24 : decode cX0_gives 24 = .ok (.iload 4, 2) := by decide +kernel
theorem dX0_gives_26 : decode cX0_gives 26 = .ok (.invokevirtual 99, 3) := by decide +kernel
theorem dX0_gives_29 : decode cX0_gives 29 = .ok (.goto 12, 3) := by decide +kernel
theorem dX0_gives_32 : decode cX0_gives 32 = .ok (.iload_n 2, 1) := by decide +kernel
theorem dX0_gives_33 : decode cX0_gives 33 = .ok (.ifCond .le 7, 3) := by decide +kernel
theorem dX0_gives_36 : decode cX0_gives 36 = .ok (.iconst 1, 1) := by decide +kernel
theorem dX0_gives_37 : decode cX0_gives 37 = .ok (.goto 4, 3) := by decide +kernel
theorem dX0_gives_40 : decode cX0_gives 40 = .ok (.iconst (-1), 1) := by decide +kernel
theorem dX0_gives_41 : decode cX0_gives 41 = .ok (.istore 5, 2) := by decide +kernel
theorem dX0_gives_43 : decode cX0_gives 43 = .ok (.iload 5, 2) := by decide +kernel
theorem dX0_gives_45 : decode cX0_gives 45 = .ok (.bipush (-9), 2) := by decide +kernel
theorem dX0_gives_47 : decode cX0_gives 47 = .ok (.bipush 9, 2) := by decide +kernel
theorem dX0_gives_49 : decode cX0_gives 49 = .ok (.invokestatic 103, 3) := by decide +kernel
theorem dX0_gives_52 : decode cX0_gives 52 = .ok (.ireturn, 1) := by decide +kernel
theorem dX0_gives_53 : decode cX0_gives 53 = .ok (.aload_n 0, 1) := by decide +kernel
theorem dX0_gives_54 : decode cX0_gives 54 = .ok (.getfield 41, 3) := by decide +kernel
theorem dX0_gives_57 : decode cX0_gives 57 = .ok (.iconst 1, 1) := by decide +kernel
theorem dX0_gives_58 : decode cX0_gives 58 = .ok (.aaload, 1) := by decide +kernel
theorem dX0_gives_59 : decode cX0_gives 59 = .ok (.getfield 95, 3) := by decide +kernel
theorem dX0_gives_62 : decode cX0_gives 62 = .ok (.ifCond .eq 19, 3) := by decide +kernel
theorem dX0_gives_65 : decode cX0_gives 65 = .ok (.aload_n 0, 1) := by decide +kernel
theorem dX0_gives_66 : decode cX0_gives 66 = .ok (.getfield 41, 3) := by decide +kernel
theorem dX0_gives_69 : decode cX0_gives 69 = .ok (.iconst 1, 1) := by decide +kernel
theorem dX0_gives_70 : decode cX0_gives 70 = .ok (.aaload, 1) := by decide +kernel
theorem dX0_gives_71 : decode cX0_gives 71 = .ok (.iload_n 2, 1) := by decide +kernel
theorem dX0_gives_72 : decode cX0_gives 72 = .ok (.iload_n 3, 1) := by decide +kernel
theorem dX0_gives_73 : decode cX0_gives 73 = .ok (.iload 4, 2) := by decide +kernel
theorem dX0_gives_75 : decode cX0_gives 75 = .ok (.invokevirtual 99, 3) := by decide +kernel
theorem dX0_gives_78 : decode cX0_gives 78 = .ok (.goto 9, 3) := by decide +kernel
theorem dX0_gives_81 : decode cX0_gives 81 = .ok (.iload_n 2, 1) := by decide +kernel
theorem dX0_gives_82 : decode cX0_gives 82 = .ok (.bipush 10, 2) := by decide +kernel
theorem dX0_gives_84 : decode cX0_gives 84 = .ok (.idiv, 1) := by decide +kernel
theorem dX0_gives_85 : decode cX0_gives 85 = .ok (.iconst 1, 1) := by decide +kernel
theorem dX0_gives_86 : decode cX0_gives 86 = .ok (.iadd, 1) := by decide +kernel
theorem dX0_gives_87 : decode cX0_gives 87 = .ok (.istore 5, 2) := by decide +kernel
theorem dX0_gives_89 : decode cX0_gives 89 = .ok (.iload 5, 2) := by decide +kernel
theorem dX0_gives_91 : decode cX0_gives 91 = .ok (.iconst 0, 1) := by decide +kernel
theorem dX0_gives_92 : decode cX0_gives 92 = .ok (.bipush 99, 2) := by decide +kernel
theorem dX0_gives_94 : decode cX0_gives 94 = .ok (.invokestatic 103, 3) := by decide +kernel
theorem dX0_gives_97 : decode cX0_gives 97 = .ok (.ireturn, 1) := by decide +kernel
theorem dX0_carryOver_0 : decode cX0_carryOver 0 = .ok (.aload_n 1, 1) := by decide +kernel
theorem dX0_carryOver_1 : decode cX0_carryOver 1 = .ok (.aload_n 0, 1) := by decide +kernel
theorem dX0_carryOver_2 : decode cX0_carryOver 2 = .ok (.getfield 27, 3) := by decide +kernel
theorem dX0_carryOver_5 : decode cX0_carryOver 5 = .ok (.invokevirtual 106, 3) := by decide +kernel
theorem dX0_carryOver_8 : decode cX0_carryOver 8 = .ok (.istore_n 3, 1) := by decide +kernel
theorem dX0_carryOver_9 : decode cX0_carryOver 9 = .ok (.iload_n 3, 1) := by decide +kernel
theorem dX0_carryOver_10 : decode cX0_carryOver 10 = .ok (.iload_n 2, 1) := by decide +kernel
theorem dX0_carryOver_11 : decode cX0_carryOver 11 = .ok (.if_icmp .ge 25, 3) := by decide +kernel
theorem dX0_carryOver_14 : decode cX0_carryOver 14 = .ok (.aload_n 1, 1) := by decide +kernel
theorem dX0_carryOver_15 : decode cX0_carryOver 15 = .ok (.iconst 1, 1) := by decide +kernel
theorem dX0_carryOver_16 : decode cX0_carryOver 16 = .ok (.putfield 110, 3) := by decide +kernel
theorem dX0_carryOver_19 : decode cX0_carryOver 19 = .ok (.aload_n 0, 1) := by decide +kernel
theorem dX0_carryOver_20 : decode cX0_carryOver 20 = .ok (.ldc 113, 2) := by decide +kernel
theorem dX0_carryOver_22 : decode cX0_carryOver 22 = .ok (.aload_n 0, 1) := by decide +kernel
theorem dX0_carryOver_23 : decode cX0_carryOver 23 = .ok (.getfield 30, 3) := by decide +kernel
theorem dX0_carryOver_26 : decode cX0_carryOver 26 = .ok (.iload_n 2, 1) := by decide +kernel
theorem dX0_carryOver_27 : decode cX0_carryOver 27 = .ok (.iadd, 1) := by decide +kernel
theorem dX0_carryOver_28 : decode cX0_carryOver 28 = .ok (.invokestatic 114, 3) := by decide +kernel
theorem dX0_carryOver_31 : decode cX0_carryOver 31 = .ok (.putfield 30, 3) := by decide +kernel
theorem dX0_carryOver_34 : decode cX0_carryOver 34 = .ok (.iconst (-1), 1) := by decide +kernel
theorem dX0_carryOver_35 : decode cX0_carryOver 35 = .ok (.ireturn, 1) := by decide +kernel
theorem dX0_carryOver_36 : decode cX0_carryOver 36 = .ok (.aload_n 0, 1) := by decide +kernel
theorem dX0_carryOver_37 : decode cX0_carryOver 37 = .ok (.iconst 1, 1) := by decide +kernel
theorem dX0_carryOver_38 : decode cX0_carryOver 38 = .ok (.iload_n 2, 1) := by decide +kernel
theorem dX0_carryOver_39 : decode cX0_carryOver 39 = .ok (.iload_n 3, 1) := by decide +kernel
theorem dX0_carryOver_40 : decode cX0_carryOver 40 = .ok (.aload_n 1, 1) := by decide +kernel
theorem dX0_carryOver_41 : decode cX0_carryOver 41 = .ok (.getfield 84, 3) := by decide +kernel
theorem dX0_carryOver_44 : decode cX0_carryOver 44 = .ok (.invokevirtual 120, 3) := by decide +kernel
theorem dX0_carryOver_47 : decode cX0_carryOver 47 = .ok (.istore 4, 2) := by decide +kernel
theorem dX0_carryOver_49 : decode cX0_carryOver 49 = .ok (.aload_n 0, 1) := by decide +kernel
theorem dX0_carryOver_50 : decode cX0_carryOver 50 = .ok (.ldc 113, 2) := by decide +kernel
theorem dX0_carryOver_52 : decode cX0_carryOver 52 = .ok (.aload_n 0, 1) := by decide +kernel
theorem dX0_carryOver_53 : decode cX0_carryOver 53 = .ok (.getfield 33, 3) := by decide +kernel
theorem dX0_carryOver_56 : decode cX0_carryOver 56 = .ok (.iload 4, 2) := by decide +kernel
theorem dX0_carryOver_58 : decode cX0_carryOver 58 = .ok (.iadd, 1) := by decide +kernel
theorem dX0_carryOver_59 : decode cX0_carryOver 59 = .ok (.invokestatic 114, 3) := by decide +kernel
theorem dX0_carryOver_62 : decode cX0_carryOver 62 = .ok (.putfield 33, 3) := by decide +kernel
theorem dX0_carryOver_65 : decode cX0_carryOver 65 = .ok (.iload 4, 2) := by decide +kernel
theorem dX0_carryOver_67 : decode cX0_carryOver 67 = .ok (.ireturn, 1) := by decide +kernel
theorem dX0_passDay_0 : decode cX0_passDay 0 = .ok (.iconst 0, 1) := by decide +kernel
theorem dX0_passDay_1 : decode cX0_passDay 1 = .ok (.istore_n 1, 1) := by decide +kernel
theorem dX0_passDay_2 : decode cX0_passDay 2 = .ok (.iload_n 1, 1) := by decide +kernel
theorem dX0_passDay_3 : decode cX0_passDay 3 = .ok (.aload_n 0, 1) := by decide +kernel
theorem dX0_passDay_4 : decode cX0_passDay 4 = .ok (.getfield 17, 3) := by decide +kernel
theorem dX0_passDay_7 : decode cX0_passDay 7 = .ok (.if_icmp .ge 63, 3) := by decide +kernel
theorem dX0_passDay_10 : decode cX0_passDay 10 = .ok (.aload_n 0, 1) := by decide +kernel
theorem dX0_passDay_11 : decode cX0_passDay 11 = .ok (.getfield 11, 3) := by decide +kernel
theorem dX0_passDay_14 : decode cX0_passDay 14 = .ok (.iload_n 1, 1) := by decide +kernel
theorem dX0_passDay_15 : decode cX0_passDay 15 = .ok (.aaload, 1) := by decide +kernel
theorem dX0_passDay_16 : decode cX0_passDay 16 = .ok (.astore_n 2, 1) := by decide +kernel
theorem dX0_passDay_17 : decode cX0_passDay 17 = .ok (.aload_n 2, 1) := by decide +kernel
theorem dX0_passDay_18 : decode cX0_passDay 18 = .ok (.aload_n 2, 1) := by decide +kernel
theorem dX0_passDay_19 : decode cX0_passDay 19 = .ok (.getfield 124, 3) := by decide +kernel
theorem dX0_passDay_22 : decode cX0_passDay 22 = .ok (.aload_n 0, 1) := by decide +kernel
theorem dX0_passDay_23 : decode cX0_passDay 23 = .ok (.iconst 0, 1) := by decide +kernel
theorem dX0_passDay_24 : decode cX0_passDay 24 = .ok (.aload_n 0, 1) := by decide +kernel
theorem dX0_passDay_25 : decode cX0_passDay 25 = .ok (.getfield 21, 3) := by decide +kernel
theorem dX0_passDay_28 : decode cX0_passDay 28 = .ok (.aload_n 2, 1) := by decide +kernel
theorem dX0_passDay_29 : decode cX0_passDay 29 = .ok (.getfield 124, 3) := by decide +kernel
theorem dX0_passDay_32 : decode cX0_passDay 32 = .ok (.aload_n 2, 1) := by decide +kernel
theorem dX0_passDay_33 : decode cX0_passDay 33 = .ok (.getfield 81, 3) := by decide +kernel
theorem dX0_passDay_36 : decode cX0_passDay 36 = .ok (.invokevirtual 120, 3) := by decide +kernel
theorem dX0_passDay_39 : decode cX0_passDay 39 = .ok (.iadd, 1) := by decide +kernel
theorem dX0_passDay_40 : decode cX0_passDay 40 = .ok (.iconst 0, 1) := by decide +kernel
theorem dX0_passDay_41 : decode cX0_passDay 41 = .ok (.bipush 9, 2) := by decide +kernel
theorem dX0_passDay_43 : decode cX0_passDay 43 = .ok (.invokestatic 103, 3) := by decide +kernel
theorem dX0_passDay_46 : decode cX0_passDay 46 = .ok (.putfield 124, 3) := by decide +kernel
theorem dX0_passDay_49 : decode cX0_passDay 49 = .ok (.aload_n 2, 1) := by decide +kernel
theorem dX0_passDay_50 : decode cX0_passDay 50 = .ok (.bipush 99, 2) := by decide +kernel
theorem dX0_passDay_52 : decode cX0_passDay 52 = .ok (.aload_n 2, 1) := by decide +kernel
theorem dX0_passDay_53 : decode cX0_passDay 53 = .ok (.getfield 127, 3) := by decide +kernel
theorem dX0_passDay_56 : decode cX0_passDay 56 = .ok (.iconst 1, 1) := by decide +kernel
theorem dX0_passDay_57 : decode cX0_passDay 57 = .ok (.iadd, 1) := by decide +kernel
theorem dX0_passDay_58 : decode cX0_passDay 58 = .ok (.invokestatic 114, 3) := by decide +kernel
theorem dX0_passDay_61 : decode cX0_passDay 61 = .ok (.putfield 127, 3) := by decide +kernel
theorem dX0_passDay_64 : decode cX0_passDay 64 = .ok (.iinc 1 1, 3) := by decide +kernel
theorem dX0_passDay_67 : decode cX0_passDay 67 = .ok (.goto (-65), 3) := by decide +kernel
theorem dX0_passDay_70 : decode cX0_passDay 70 = .ok (.aload_n 0, 1) := by decide +kernel
theorem dX0_passDay_71 : decode cX0_passDay 71 = .ok (.dup, 1) := by decide +kernel
theorem dX0_passDay_72 : decode cX0_passDay 72 = .ok (.getfield 27, 3) := by decide +kernel
theorem dX0_passDay_75 : decode cX0_passDay 75 = .ok (.iconst 1, 1) := by decide +kernel
theorem dX0_passDay_76 : decode cX0_passDay 76 = .ok (.iadd, 1) := by decide +kernel
theorem dX0_passDay_77 : decode cX0_passDay 77 = .ok (.putfield 27, 3) := by decide +kernel
theorem dX0_passDay_80 : decode cX0_passDay 80 = .ok (.return_, 1) := by decide +kernel
theorem dX0_passDayByDraws_0 : decode cX0_passDayByDraws 0 = .ok (.aload_n 0, 1) := by decide +kernel
theorem dX0_passDayByDraws_1 : decode cX0_passDayByDraws 1 = .ok (.iconst 0, 1) := by decide +kernel
theorem dX0_passDayByDraws_2 : decode cX0_passDayByDraws 2 = .ok (.aload_n 0, 1) := by decide +kernel
theorem dX0_passDayByDraws_3 : decode cX0_passDayByDraws 3 = .ok (.invokevirtual 130, 3) := by decide +kernel
theorem dX0_passDayByDraws_6 : decode cX0_passDayByDraws 6 = .ok (.bipush 16, 2) := by decide +kernel
theorem dX0_passDayByDraws_8 : decode cX0_passDayByDraws 8 = .ok (.irem, 1) := by decide +kernel
theorem dX0_passDayByDraws_9 : decode cX0_passDayByDraws 9 = .ok (.bipush 6, 2) := by decide +kernel
theorem dX0_passDayByDraws_11 : decode cX0_passDayByDraws 11 = .ok (.isub, 1) := by decide +kernel
theorem dX0_passDayByDraws_12 : decode cX0_passDayByDraws 12 = .ok (.invokestatic 134, 3) := by decide +kernel
theorem dX0_passDayByDraws_15 : decode cX0_passDayByDraws 15 = .ok (.putfield 21, 3) := by decide +kernel
theorem dX0_passDayByDraws_18 : decode cX0_passDayByDraws 18 = .ok (.iconst 0, 1) := by decide +kernel
theorem dX0_passDayByDraws_19 : decode cX0_passDayByDraws 19 = .ok (.istore_n 1, 1) := by decide +kernel
theorem dX0_passDayByDraws_20 : decode cX0_passDayByDraws 20 = .ok (.aload_n 0, 1) := by decide +kernel
theorem dX0_passDayByDraws_21 : decode cX0_passDayByDraws 21 = .ok (.getfield 17, 3) := by decide +kernel
theorem dX0_passDayByDraws_24 : decode cX0_passDayByDraws 24 = .ok (.ifCond .le 44, 3) := by decide +kernel
theorem dX0_passDayByDraws_27 : decode cX0_passDayByDraws 27 = .ok (.aload_n 0, 1) := by decide +kernel
theorem dX0_passDayByDraws_28 : decode cX0_passDayByDraws 28 = .ok (.getfield 11, 3) := by decide +kernel
theorem dX0_passDayByDraws_31 : decode cX0_passDayByDraws 31 = .ok (.aload_n 0, 1) := by decide +kernel
theorem dX0_passDayByDraws_32 : decode cX0_passDayByDraws 32 = .ok (.invokevirtual 130, 3) := by decide +kernel
theorem dX0_passDayByDraws_35 : decode cX0_passDayByDraws 35 = .ok (.aload_n 0, 1) := by decide +kernel
theorem dX0_passDayByDraws_36 : decode cX0_passDayByDraws 36 = .ok (.getfield 17, 3) := by decide +kernel
theorem dX0_passDayByDraws_39 : decode cX0_passDayByDraws 39 = .ok (.irem, 1) := by decide +kernel
theorem dX0_passDayByDraws_40 : decode cX0_passDayByDraws 40 = .ok (.aaload, 1) := by decide +kernel
theorem dX0_passDayByDraws_41 : decode cX0_passDayByDraws 41 = .ok (.astore_n 2, 1) := by decide +kernel
theorem dX0_passDayByDraws_42 : decode cX0_passDayByDraws 42 = .ok (.aload_n 0, 1) := by decide +kernel
theorem dX0_passDayByDraws_43 : decode cX0_passDayByDraws 43 = .ok (.invokevirtual 130, 3) := by decide +kernel
theorem dX0_passDayByDraws_46 : decode cX0_passDayByDraws 46 = .ok (.bipush 30, 2) := by decide +kernel
theorem dX0_passDayByDraws_48 : decode cX0_passDayByDraws 48 = .ok (.irem, 1) := by decide +kernel
theorem dX0_passDayByDraws_49 : decode cX0_passDayByDraws 49 = .ok (.istore_n 3, 1) := by decide +kernel
theorem dX0_passDayByDraws_50 : decode cX0_passDayByDraws 50 = .ok (.aload_n 2, 1) := by decide +kernel
theorem dX0_passDayByDraws_51 : decode cX0_passDayByDraws 51 = .ok (.getfield 110, 3) := by decide +kernel
theorem dX0_passDayByDraws_54 : decode cX0_passDayByDraws 54 = .ok (.ifCond .ne 14, 3) := by decide +kernel
theorem dX0_passDayByDraws_57 : decode cX0_passDayByDraws 57 = .ok (.aload_n 0, 1) := by decide +kernel
theorem dX0_passDayByDraws_58 : decode cX0_passDayByDraws 58 = .ok (.aload_n 2, 1) := by decide +kernel
theorem dX0_passDayByDraws_59 : decode cX0_passDayByDraws 59 = .ok (.iload_n 3, 1) := by decide +kernel
theorem dX0_passDayByDraws_60 : decode cX0_passDayByDraws 60 = .ok (.invokevirtual 137, 3) := by decide +kernel
theorem dX0_passDayByDraws_63 : decode cX0_passDayByDraws 63 = .ok (.ifCond .ge 5, 3) := by decide +kernel
theorem dX0_passDayByDraws_66 : decode cX0_passDayByDraws 66 = .ok (.iconst 1, 1) := by decide +kernel
theorem dX0_passDayByDraws_67 : decode cX0_passDayByDraws 67 = .ok (.istore_n 1, 1) := by decide +kernel
theorem dX0_passDayByDraws_68 : decode cX0_passDayByDraws 68 = .ok (.aload_n 0, 1) := by decide +kernel
theorem dX0_passDayByDraws_69 : decode cX0_passDayByDraws 69 = .ok (.invokevirtual 141, 3) := by decide +kernel
theorem dX0_passDayByDraws_72 : decode cX0_passDayByDraws 72 = .ok (.iload_n 1, 1) := by decide +kernel
theorem dX0_passDayByDraws_73 : decode cX0_passDayByDraws 73 = .ok (.ireturn, 1) := by decide +kernel
theorem dX0_draw_0 : decode cX0_draw 0 = .ok (.aload_n 0, 1) := by decide +kernel
theorem dX0_draw_1 : decode cX0_draw 1 = .ok (.aload_n 0, 1) := by decide +kernel
theorem dX0_draw_2 : decode cX0_draw 2 = .ok (.getfield 36, 3) := by decide +kernel
theorem dX0_draw_5 : decode cX0_draw 5 = .ok (.ldc 144, 2) := by decide +kernel
theorem dX0_draw_7 : decode cX0_draw 7 = .ok (.imul, 1) := by decide +kernel
theorem dX0_draw_8 : decode cX0_draw 8 = .ok (.sipush 12345, 3) := by decide +kernel
theorem dX0_draw_11 : decode cX0_draw 11 = .ok (.iadd, 1) := by decide +kernel
theorem dX0_draw_12 : decode cX0_draw 12 = .ok (.putfield 36, 3) := by decide +kernel
theorem dX0_draw_15 : decode cX0_draw 15 = .ok (.aload_n 0, 1) := by decide +kernel
theorem dX0_draw_16 : decode cX0_draw 16 = .ok (.getfield 36, 3) := by decide +kernel
theorem dX0_draw_19 : decode cX0_draw 19 = .ok (.bipush 8, 2) := by decide +kernel
theorem dX0_draw_21 : decode cX0_draw 21 = .ok (.iushr, 1) := by decide +kernel
theorem dX0_draw_22 : decode cX0_draw 22 = .ok (.ireturn, 1) := by decide +kernel
theorem dX0_bearing_0 : decode cX0_bearing 0 = .ok (.iconst 0, 1) := by decide +kernel
theorem dX0_bearing_1 : decode cX0_bearing 1 = .ok (.istore_n 2, 1) := by decide +kernel
theorem dX0_bearing_2 : decode cX0_bearing 2 = .ok (.iconst 0, 1) := by decide +kernel
theorem dX0_bearing_3 : decode cX0_bearing 3 = .ok (.istore_n 3, 1) := by decide +kernel
theorem dX0_bearing_4 : decode cX0_bearing 4 = .ok (.iload_n 3, 1) := by decide +kernel
theorem dX0_bearing_5 : decode cX0_bearing 5 = .ok (.aload_n 0, 1) := by decide +kernel
theorem dX0_bearing_6 : decode cX0_bearing 6 = .ok (.getfield 17, 3) := by decide +kernel
theorem dX0_bearing_9 : decode cX0_bearing 9 = .ok (.if_icmp .ge 32, 3) := by decide +kernel
theorem dX0_bearing_12 : decode cX0_bearing 12 = .ok (.aload_n 0, 1) := by decide +kernel
theorem dX0_bearing_13 : decode cX0_bearing 13 = .ok (.getfield 11, 3) := by decide +kernel
theorem dX0_bearing_16 : decode cX0_bearing 16 = .ok (.iload_n 3, 1) := by decide +kernel
theorem dX0_bearing_17 : decode cX0_bearing 17 = .ok (.aaload, 1) := by decide +kernel
theorem dX0_bearing_18 : decode cX0_bearing 18 = .ok (.aload_n 0, 1) := by decide +kernel
theorem dX0_bearing_19 : decode cX0_bearing 19 = .ok (.getfield 27, 3) := by decide +kernel
theorem dX0_bearing_22 : decode cX0_bearing 22 = .ok (.invokevirtual 106, 3) := by decide +kernel
theorem dX0_bearing_25 : decode cX0_bearing 25 = .ok (.iload_n 1, 1) := by decide +kernel
theorem dX0_bearing_26 : decode cX0_bearing 26 = .ok (.if_icmp .lt 9, 3) := by decide +kernel
theorem dX0_bearing_29 : decode cX0_bearing 29 = .ok (.iload_n 2, 1) := by decide +kernel
theorem dX0_bearing_30 : decode cX0_bearing 30 = .ok (.iconst 1, 1) := by decide +kernel
theorem dX0_bearing_31 : decode cX0_bearing 31 = .ok (.iload_n 3, 1) := by decide +kernel
theorem dX0_bearing_32 : decode cX0_bearing 32 = .ok (.ishl, 1) := by decide +kernel
theorem dX0_bearing_33 : decode cX0_bearing 33 = .ok (.ior, 1) := by decide +kernel
theorem dX0_bearing_34 : decode cX0_bearing 34 = .ok (.istore_n 2, 1) := by decide +kernel
theorem dX0_bearing_35 : decode cX0_bearing 35 = .ok (.iinc 3 1, 3) := by decide +kernel
theorem dX0_bearing_38 : decode cX0_bearing 38 = .ok (.goto (-34), 3) := by decide +kernel
theorem dX0_bearing_41 : decode cX0_bearing 41 = .ok (.iload_n 2, 1) := by decide +kernel
theorem dX0_bearing_42 : decode cX0_bearing 42 = .ok (.ireturn, 1) := by decide +kernel
theorem dX0_reachOver_0 : decode cX0_reachOver 0 = .ok (.iconst 1, 1) := by decide +kernel
theorem dX0_reachOver_1 : decode cX0_reachOver 1 = .ok (.iload_n 1, 1) := by decide +kernel
theorem dX0_reachOver_2 : decode cX0_reachOver 2 = .ok (.ishl, 1) := by decide +kernel
theorem dX0_reachOver_3 : decode cX0_reachOver 3 = .ok (.istore_n 3, 1) := by decide +kernel
theorem dX0_reachOver_4 : decode cX0_reachOver 4 = .ok (.iconst 0, 1) := by decide +kernel
theorem dX0_reachOver_5 : decode cX0_reachOver 5 = .ok (.istore 4, 2) := by decide +kernel
theorem dX0_reachOver_7 : decode cX0_reachOver 7 = .ok (.iload 4, 2) := by decide +kernel
theorem dX0_reachOver_9 : decode cX0_reachOver 9 = .ok (.bipush 8, 2) := by decide +kernel
theorem dX0_reachOver_11 : decode cX0_reachOver 11 = .ok (.if_icmp .ge 73, 3) := by decide +kernel
theorem dX0_reachOver_14 : decode cX0_reachOver 14 = .ok (.iload_n 3, 1) := by decide +kernel
theorem dX0_reachOver_15 : decode cX0_reachOver 15 = .ok (.istore 5, 2) := by decide +kernel
theorem dX0_reachOver_17 : decode cX0_reachOver 17 = .ok (.iconst 0, 1) := by decide +kernel
theorem dX0_reachOver_18 : decode cX0_reachOver 18 = .ok (.istore 6, 2) := by decide +kernel
theorem dX0_reachOver_20 : decode cX0_reachOver 20 = .ok (.iload 6, 2) := by decide +kernel
theorem dX0_reachOver_22 : decode cX0_reachOver 22 = .ok (.aload_n 0, 1) := by decide +kernel
theorem dX0_reachOver_23 : decode cX0_reachOver 23 = .ok (.getfield 17, 3) := by decide +kernel
theorem dX0_reachOver_26 : decode cX0_reachOver 26 = .ok (.if_icmp .ge 43, 3) := by decide +kernel
theorem dX0_reachOver_29 : decode cX0_reachOver 29 = .ok (.aload_n 0, 1) := by decide +kernel
theorem dX0_reachOver_30 : decode cX0_reachOver 30 = .ok (.getfield 11, 3) := by decide +kernel
theorem dX0_reachOver_33 : decode cX0_reachOver 33 = .ok (.iload 6, 2) := by decide +kernel
theorem dX0_reachOver_35 : decode cX0_reachOver 35 = .ok (.aaload, 1) := by decide +kernel
theorem dX0_reachOver_36 : decode cX0_reachOver 36 = .ok (.invokevirtual 145, 3) := by decide +kernel
theorem dX0_reachOver_39 : decode cX0_reachOver 39 = .ok (.istore 7, 2) := by decide +kernel
theorem dX0_reachOver_41 : decode cX0_reachOver 41 = .ok (.iload_n 2, 1) := by decide +kernel
theorem dX0_reachOver_42 : decode cX0_reachOver 42 = .ok (.iload 6, 2) := by decide +kernel
theorem dX0_reachOver_44 : decode cX0_reachOver 44 = .ok (.ishr, 1) := by decide +kernel
theorem dX0_reachOver_45 : decode cX0_reachOver 45 = .ok (.iconst 1, 1) := by decide +kernel
theorem dX0_reachOver_46 : decode cX0_reachOver 46 = .ok (.iand, 1) := by decide +kernel
theorem dX0_reachOver_47 : decode cX0_reachOver 47 = .ok (.iconst 1, 1) := by decide +kernel
theorem dX0_reachOver_48 : decode cX0_reachOver 48 = .ok (.if_icmp .ne 15, 3) := by decide +kernel
theorem dX0_reachOver_51 : decode cX0_reachOver 51 = .ok (.iload_n 3, 1) := by decide +kernel
theorem dX0_reachOver_52 : decode cX0_reachOver 52 = .ok (.iload 7, 2) := by decide +kernel
theorem dX0_reachOver_54 : decode cX0_reachOver 54 = .ok (.iand, 1) := by decide +kernel
theorem dX0_reachOver_55 : decode cX0_reachOver 55 = .ok (.ifCond .eq 8, 3) := by decide +kernel
theorem dX0_reachOver_58 : decode cX0_reachOver 58 = .ok (.iload_n 3, 1) := by decide +kernel
theorem dX0_reachOver_59 : decode cX0_reachOver 59 = .ok (.iload 7, 2) := by decide +kernel
theorem dX0_reachOver_61 : decode cX0_reachOver 61 = .ok (.ior, 1) := by decide +kernel
theorem dX0_reachOver_62 : decode cX0_reachOver 62 = .ok (.istore_n 3, 1) := by decide +kernel
theorem dX0_reachOver_63 : decode cX0_reachOver 63 = .ok (.iinc 6 1, 3) := by decide +kernel
theorem dX0_reachOver_66 : decode cX0_reachOver 66 = .ok (.goto (-46), 3) := by decide +kernel
theorem dX0_reachOver_69 : decode cX0_reachOver 69 = .ok (.iload_n 3, 1) := by decide +kernel
theorem dX0_reachOver_70 : decode cX0_reachOver 70 = .ok (.iload 5, 2) := by decide +kernel
theorem dX0_reachOver_72 : decode cX0_reachOver 72 = .ok (.if_icmp .ne 6, 3) := by decide +kernel
theorem dX0_reachOver_75 : decode cX0_reachOver 75 = .ok (.goto 9, 3) := by decide +kernel
theorem dX0_reachOver_78 : decode cX0_reachOver 78 = .ok (.iinc 4 1, 3) := by decide +kernel
theorem dX0_reachOver_81 : decode cX0_reachOver 81 = .ok (.goto (-74), 3) := by decide +kernel
theorem dX0_reachOver_84 : decode cX0_reachOver 84 = .ok (.iload_n 3, 1) := by decide +kernel
theorem dX0_reachOver_85 : decode cX0_reachOver 85 = .ok (.ireturn, 1) := by decide +kernel
theorem dX0_joins_0 : decode cX0_joins 0 = .ok (.aload_n 0, 1) := by decide +kernel
theorem dX0_joins_1 : decode cX0_joins 1 = .ok (.iload_n 1, 1) := by decide +kernel
theorem dX0_joins_2 : decode cX0_joins 2 = .ok (.iload_n 3, 1) := by decide +kernel
theorem dX0_joins_3 : decode cX0_joins 3 = .ok (.invokevirtual 148, 3) := by decide +kernel
theorem dX0_joins_6 : decode cX0_joins 6 = .ok (.iload_n 2, 1) := by decide +kernel
theorem dX0_joins_7 : decode cX0_joins 7 = .ok (.ishr, 1) := by decide +kernel
theorem dX0_joins_8 : decode cX0_joins 8 = .ok (.iconst 1, 1) := by decide +kernel
theorem dX0_joins_9 : decode cX0_joins 9 = .ok (.iand, 1) := by decide +kernel
theorem dX0_joins_10 : decode cX0_joins 10 = .ok (.iconst 1, 1) := by decide +kernel
theorem dX0_joins_11 : decode cX0_joins 11 = .ok (.if_icmp .ne 7, 3) := by decide +kernel
theorem dX0_joins_14 : decode cX0_joins 14 = .ok (.iconst 1, 1) := by decide +kernel
theorem dX0_joins_15 : decode cX0_joins 15 = .ok (.goto 4, 3) := by decide +kernel
theorem dX0_joins_18 : decode cX0_joins 18 = .ok (.iconst 0, 1) := by decide +kernel
theorem dX0_joins_19 : decode cX0_joins 19 = .ok (.ireturn, 1) := by decide +kernel
theorem dX0_flourFor_0 : decode cX0_flourFor 0 = .ok (.iconst 0, 1) := by decide +kernel
theorem dX0_flourFor_1 : decode cX0_flourFor 1 = .ok (.istore_n 2, 1) := by decide +kernel
theorem dX0_flourFor_2 : decode cX0_flourFor 2 = .ok (.iconst 0, 1) := by decide +kernel
theorem dX0_flourFor_3 : decode cX0_flourFor 3 = .ok (.istore_n 3, 1) := by decide +kernel
theorem dX0_flourFor_4 : decode cX0_flourFor 4 = .ok (.iload_n 3, 1) := by decide +kernel
theorem dX0_flourFor_5 : decode cX0_flourFor 5 = .ok (.aload_n 0, 1) := by decide +kernel
theorem dX0_flourFor_6 : decode cX0_flourFor 6 = .ok (.getfield 17, 3) := by decide +kernel
theorem dX0_flourFor_9 : decode cX0_flourFor 9 = .ok (.if_icmp .ge 30, 3) := by decide +kernel
theorem dX0_flourFor_12 : decode cX0_flourFor 12 = .ok (.iload_n 1, 1) := by decide +kernel
theorem dX0_flourFor_13 : decode cX0_flourFor 13 = .ok (.iload_n 3, 1) := by decide +kernel
theorem dX0_flourFor_14 : decode cX0_flourFor 14 = .ok (.ishr, 1) := by decide +kernel
theorem dX0_flourFor_15 : decode cX0_flourFor 15 = .ok (.iconst 1, 1) := by decide +kernel
theorem dX0_flourFor_16 : decode cX0_flourFor 16 = .ok (.iand, 1) := by decide +kernel
theorem dX0_flourFor_17 : decode cX0_flourFor 17 = .ok (.iconst 1, 1) := by decide +kernel
theorem dX0_flourFor_18 : decode cX0_flourFor 18 = .ok (.if_icmp .ne 15, 3) := by decide +kernel
theorem dX0_flourFor_21 : decode cX0_flourFor 21 = .ok (.iload_n 2, 1) := by decide +kernel
theorem dX0_flourFor_22 : decode cX0_flourFor 22 = .ok (.aload_n 0, 1) := by decide +kernel
theorem dX0_flourFor_23 : decode cX0_flourFor 23 = .ok (.getfield 11, 3) := by decide +kernel
theorem dX0_flourFor_26 : decode cX0_flourFor 26 = .ok (.iload_n 3, 1) := by decide +kernel
theorem dX0_flourFor_27 : decode cX0_flourFor 27 = .ok (.aaload, 1) := by decide +kernel
theorem dX0_flourFor_28 : decode cX0_flourFor 28 = .ok (.invokevirtual 151, 3) := by decide +kernel
theorem dX0_flourFor_31 : decode cX0_flourFor 31 = .ok (.iadd, 1) := by decide +kernel
theorem dX0_flourFor_32 : decode cX0_flourFor 32 = .ok (.istore_n 2, 1) := by decide +kernel
theorem dX0_flourFor_33 : decode cX0_flourFor 33 = .ok (.iinc 3 1, 3) := by decide +kernel
theorem dX0_flourFor_36 : decode cX0_flourFor 36 = .ok (.goto (-32), 3) := by decide +kernel
theorem dX0_flourFor_39 : decode cX0_flourFor 39 = .ok (.iload_n 2, 1) := by decide +kernel
theorem dX0_flourFor_40 : decode cX0_flourFor 40 = .ok (.ireturn, 1) := by decide +kernel
theorem dX0_bakeAllAnew_0 : decode cX0_bakeAllAnew 0 = .ok (.iconst 0, 1) := by decide +kernel
theorem dX0_bakeAllAnew_1 : decode cX0_bakeAllAnew 1 = .ok (.istore_n 1, 1) := by decide +kernel
theorem dX0_bakeAllAnew_2 : decode cX0_bakeAllAnew 2 = .ok (.iload_n 1, 1) := by decide +kernel
theorem dX0_bakeAllAnew_3 : decode cX0_bakeAllAnew 3 = .ok (.aload_n 0, 1) := by decide +kernel
theorem dX0_bakeAllAnew_4 : decode cX0_bakeAllAnew 4 = .ok (.getfield 17, 3) := by decide +kernel
theorem dX0_bakeAllAnew_7 : decode cX0_bakeAllAnew 7 = .ok (.if_icmp .ge 18, 3) := by decide +kernel
theorem dX0_bakeAllAnew_10 : decode cX0_bakeAllAnew 10 = .ok (.aload_n 0, 1) := by decide +kernel
theorem dX0_bakeAllAnew_11 : decode cX0_bakeAllAnew 11 = .ok (.getfield 11, 3) := by decide +kernel
theorem dX0_bakeAllAnew_14 : decode cX0_bakeAllAnew 14 = .ok (.iload_n 1, 1) := by decide +kernel
theorem dX0_bakeAllAnew_15 : decode cX0_bakeAllAnew 15 = .ok (.aaload, 1) := by decide +kernel
theorem dX0_bakeAllAnew_16 : decode cX0_bakeAllAnew 16 = .ok (.invokevirtual 78, 3) := by decide +kernel
theorem dX0_bakeAllAnew_19 : decode cX0_bakeAllAnew 19 = .ok (.iinc 1 1, 3) := by decide +kernel
theorem dX0_bakeAllAnew_22 : decode cX0_bakeAllAnew 22 = .ok (.goto (-20), 3) := by decide +kernel
theorem dX0_bakeAllAnew_25 : decode cX0_bakeAllAnew 25 = .ok (.return_, 1) := by decide +kernel
theorem dX0_rightOnes_0 : decode cX0_rightOnes 0 = .ok (.iconst 0, 1) := by decide +kernel
theorem dX0_rightOnes_1 : decode cX0_rightOnes 1 = .ok (.istore_n 2, 1) := by decide +kernel
theorem dX0_rightOnes_2 : decode cX0_rightOnes 2 = .ok (.iload_n 2, 1) := by decide +kernel
theorem dX0_rightOnes_3 : decode cX0_rightOnes 3 = .ok (.aload_n 1, 1) := by decide +kernel
theorem dX0_rightOnes_4 : decode cX0_rightOnes 4 = .ok (.getfield 154, 3) := by decide +kernel
theorem dX0_rightOnes_7 : decode cX0_rightOnes 7 = .ok (.if_icmp .ge 41, 3) := by decide +kernel
theorem dX0_rightOnes_10 : decode cX0_rightOnes 10 = .ok (.aload_n 0, 1) := by decide +kernel
theorem dX0_rightOnes_11 : decode cX0_rightOnes 11 = .ok (.iload_n 2, 1) := by decide +kernel
theorem dX0_rightOnes_12 : decode cX0_rightOnes 12 = .ok (.invokevirtual 159, 3) := by decide +kernel
theorem dX0_rightOnes_15 : decode cX0_rightOnes 15 = .ok (.ifCond .eq 25, 3) := by decide +kernel
theorem dX0_rightOnes_18 : decode cX0_rightOnes 18 = .ok (.aload_n 0, 1) := by decide +kernel
theorem dX0_rightOnes_19 : decode cX0_rightOnes 19 = .ok (.getfield 11, 3) := by decide +kernel
theorem dX0_rightOnes_22 : decode cX0_rightOnes 22 = .ok (.iload_n 2, 1) := by decide +kernel
theorem dX0_rightOnes_23 : decode cX0_rightOnes 23 = .ok (.aaload, 1) := by decide +kernel
theorem dX0_rightOnes_24 : decode cX0_rightOnes 24 = .ok (.aload_n 0, 1) := by decide +kernel
theorem dX0_rightOnes_25 : decode cX0_rightOnes 25 = .ok (.getfield 27, 3) := by decide +kernel
theorem dX0_rightOnes_28 : decode cX0_rightOnes 28 = .ok (.invokevirtual 106, 3) := by decide +kernel
theorem dX0_rightOnes_31 : decode cX0_rightOnes 31 = .ok (.aload_n 1, 1) := by decide +kernel
theorem dX0_rightOnes_32 : decode cX0_rightOnes 32 = .ok (.getfield 163, 3) := by decide +kernel
theorem dX0_rightOnes_35 : decode cX0_rightOnes 35 = .ok (.iload_n 2, 1) := by decide +kernel
theorem dX0_rightOnes_36 : decode cX0_rightOnes 36 = .ok (.iaload, 1) := by decide +kernel
theorem dX0_rightOnes_37 : decode cX0_rightOnes 37 = .ok (.if_icmp .eq 5, 3) := by decide +kernel
theorem dX0_rightOnes_40 : decode cX0_rightOnes 40 = .ok (.iload_n 2, 1) := by decide +kernel
theorem dX0_rightOnes_41 : decode cX0_rightOnes 41 = .ok (.ireturn, 1) := by decide +kernel
theorem dX0_rightOnes_42 : decode cX0_rightOnes 42 = .ok (.iinc 2 1, 3) := by decide +kernel
theorem dX0_rightOnes_45 : decode cX0_rightOnes 45 = .ok (.goto (-43), 3) := by decide +kernel
theorem dX0_rightOnes_48 : decode cX0_rightOnes 48 = .ok (.aload_n 1, 1) := by decide +kernel
theorem dX0_rightOnes_49 : decode cX0_rightOnes 49 = .ok (.getfield 154, 3) := by decide +kernel
theorem dX0_rightOnes_52 : decode cX0_rightOnes 52 = .ok (.ireturn, 1) := by decide +kernel
theorem dX1_init_0 : decode cX1_init 0 = .ok (.aload_n 0, 1) := by decide +kernel
theorem dX1_init_1 : decode cX1_init 1 = .ok (.invokespecial 3, 3) := by decide +kernel
theorem dX1_init_4 : decode cX1_init 4 = .ok (.aload_n 0, 1) := by decide +kernel
theorem dX1_init_5 : decode cX1_init 5 = .ok (.iconst 0, 1) := by decide +kernel
theorem dX1_init_6 : decode cX1_init 6 = .ok (.putfield 9, 3) := by decide +kernel
theorem dX1_init_9 : decode cX1_init 9 = .ok (.aload_n 0, 1) := by decide +kernel
theorem dX1_init_10 : decode cX1_init 10 = .ok (.iconst 0, 1) := by decide +kernel
theorem dX1_init_11 : decode cX1_init 11 = .ok (.putfield 15, 3) := by decide +kernel
theorem dX1_init_14 : decode cX1_init 14 = .ok (.aload_n 0, 1) := by decide +kernel
theorem dX1_init_15 : decode cX1_init 15 = .ok (.bipush 60, 2) := by decide +kernel
theorem dX1_init_17 : decode cX1_init 17 = .ok (.newarray .int, 2) := by decide +kernel
theorem dX1_init_19 : decode cX1_init 19 = .ok (.putfield 19, 3) := by decide +kernel
theorem dX1_init_22 : decode cX1_init 22 = .ok (.aload_n 0, 1) := by decide +kernel
theorem dX1_init_23 : decode cX1_init 23 = .ok (.bipush 60, 2) := by decide +kernel
theorem dX1_init_25 : decode cX1_init 25 = .ok (.newarray .int, 2) := by decide +kernel
theorem dX1_init_27 : decode cX1_init 27 = .ok (.putfield 23, 3) := by decide +kernel
theorem dX1_init_30 : decode cX1_init 30 = .ok (.return_, 1) := by decide +kernel
theorem dX1_write_0 : decode cX1_write 0 = .ok (.aload_n 0, 1) := by decide +kernel
theorem dX1_write_1 : decode cX1_write 1 = .ok (.iload_n 2, 1) := by decide +kernel
theorem dX1_write_2 : decode cX1_write 2 = .ok (.iconst 0, 1) := by decide +kernel
theorem dX1_write_3 : decode cX1_write 3 = .ok (.bipush 60, 2) := by decide +kernel
theorem dX1_write_5 : decode cX1_write 5 = .ok (.invokestatic 26, 3) := by decide +kernel
theorem dX1_write_8 : decode cX1_write 8 = .ok (.putfield 15, 3) := by decide +kernel
theorem dX1_write_11 : decode cX1_write 11 = .ok (.aload_n 1, 1) := by decide +kernel
theorem dX1_write_12 : decode cX1_write 12 = .ok (.iconst 0, 1) := by decide +kernel
theorem dX1_write_13 : decode cX1_write 13 = .ok (.aload_n 0, 1) := by decide +kernel
theorem dX1_write_14 : decode cX1_write 14 = .ok (.getfield 19, 3) := by decide +kernel
theorem dX1_write_17 : decode cX1_write 17 = .ok (.iconst 0, 1) := by decide +kernel
theorem dX1_write_18 : decode cX1_write 18 = .ok (.aload_n 0, 1) := by decide +kernel
theorem dX1_write_19 : decode cX1_write 19 = .ok (.getfield 15, 3) := by decide +kernel
theorem dX1_write_22 : decode cX1_write 22 = .ok (.invokestatic 30, 3) := by decide +kernel
theorem dX1_write_25 : decode cX1_write 25 = .ok (.aload_n 0, 1) := by decide +kernel
theorem dX1_write_26 : decode cX1_write 26 = .ok (.iconst 1, 1) := by decide +kernel
theorem dX1_write_27 : decode cX1_write 27 = .ok (.putfield 9, 3) := by decide +kernel
theorem dX1_write_30 : decode cX1_write 30 = .ok (.return_, 1) := by decide +kernel
theorem dX1_takeFrom_0 : decode cX1_takeFrom 0 = .ok (.aload_n 0, 1) := by decide +kernel
theorem dX1_takeFrom_1 : decode cX1_takeFrom 1 = .ok (.aload_n 1, 1) := by decide +kernel
theorem dX1_takeFrom_2 : decode cX1_takeFrom 2 = .ok (.getfield 19, 3) := by decide +kernel
theorem dX1_takeFrom_5 : decode cX1_takeFrom 5 = .ok (.aload_n 1, 1) := by decide +kernel
theorem dX1_takeFrom_6 : decode cX1_takeFrom 6 = .ok (.getfield 15, 3) := by decide +kernel
theorem dX1_takeFrom_9 : decode cX1_takeFrom 9 = .ok (.invokevirtual 36, 3) := by decide +kernel
theorem dX1_takeFrom_12 : decode cX1_takeFrom 12 = .ok (.aload_n 0, 1) := by decide +kernel
theorem dX1_takeFrom_13 : decode cX1_takeFrom 13 = .ok (.aload_n 1, 1) := by decide +kernel
theorem dX1_takeFrom_14 : decode cX1_takeFrom 14 = .ok (.getfield 9, 3) := by decide +kernel
theorem dX1_takeFrom_17 : decode cX1_takeFrom 17 = .ok (.putfield 9, 3) := by decide +kernel
theorem dX1_takeFrom_20 : decode cX1_takeFrom 20 = .ok (.return_, 1) := by decide +kernel
theorem dX1_workOut_0 : decode cX1_workOut 0 = .ok (.iconst 0, 1) := by decide +kernel
theorem dX1_workOut_1 : decode cX1_workOut 1 = .ok (.istore 4, 2) := by decide +kernel
theorem dX1_workOut_3 : decode cX1_workOut 3 = .ok (.iconst 0, 1) := by decide +kernel
theorem dX1_workOut_4 : decode cX1_workOut 4 = .ok (.istore 5, 2) := by decide +kernel
theorem dX1_workOut_6 : decode cX1_workOut 6 = .ok (.iload 5, 2) := by decide +kernel
theorem dX1_workOut_8 : decode cX1_workOut 8 = .ok (.aload_n 0, 1) := by decide +kernel
theorem dX1_workOut_9 : decode cX1_workOut 9 = .ok (.getfield 15, 3) := by decide +kernel
theorem dX1_workOut_12 : decode cX1_workOut 12 = .ok (.if_icmp .ge 161, 3) := by decide +kernel
theorem dX1_workOut_15 : decode cX1_workOut 15 = .ok (.aload_n 0, 1) := by decide +kernel
theorem dX1_workOut_16 : decode cX1_workOut 16 = .ok (.getfield 19, 3) := by decide +kernel
theorem dX1_workOut_19 : decode cX1_workOut 19 = .ok (.iload 5, 2) := by decide +kernel
theorem dX1_workOut_21 : decode cX1_workOut 21 = .ok (.iaload, 1) := by decide +kernel
theorem dX1_workOut_22 : decode cX1_workOut 22 = .ok (.istore 6, 2) := by decide +kernel
theorem dX1_workOut_24 : decode cX1_workOut 24 = .ok (.iload 6, 2) := by decide +kernel
theorem dX1_workOut_26 : decode cX1_workOut 26 = .ok (.bipush (-3), 2) := by decide +kernel
theorem dX1_workOut_28 : decode cX1_workOut 28 = .ok (.if_icmp .lt 55, 3) := by decide +kernel
theorem dX1_workOut_31 : decode cX1_workOut 31 = .ok (.iload 4, 2) := by decide +kernel
theorem dX1_workOut_33 : decode cX1_workOut 33 = .ok (.bipush 60, 2) := by decide +kernel
theorem dX1_workOut_35 : decode cX1_workOut 35 = .ok (.if_icmp .ge 132, 3) := by decide +kernel
theorem dX1_workOut_38 : decode cX1_workOut 38 = .ok (.aload_n 0, 1) := by decide +kernel
theorem dX1_workOut_39 : decode cX1_workOut 39 = .ok (.getfield 23, 3) := by decide +kernel
theorem dX1_workOut_42 : decode cX1_workOut 42 = .ok (.iload 4, 2) := by decide +kernel
theorem dX1_workOut_44 : decode cX1_workOut 44 = .ok (.iload 6, 2) := by decide +kernel
theorem dX1_workOut_46 : decode cX1_workOut 46 = .ok (.ifCond .lt 8, 3) := by decide +kernel
theorem dX1_workOut_49 : decode cX1_workOut 49 = .ok (.iload 6, 2) := by decide +kernel
theorem dX1_workOut_51 : decode cX1_workOut 51 = .ok (.goto 25, 3) := by decide +kernel
theorem dX1_workOut_54 : decode cX1_workOut 54 = .ok (.iload 6, 2) := by decide +kernel
theorem dX1_workOut_56 : decode cX1_workOut 56 = .ok (.iconst (-1), 1) := by decide +kernel
theorem dX1_workOut_57 : decode cX1_workOut 57 = .ok (.if_icmp .ne 7, 3) := by decide +kernel
theorem dX1_workOut_60 : decode cX1_workOut 60 = .ok (.iload_n 1, 1) := by decide +kernel
theorem dX1_workOut_61 : decode cX1_workOut 61 = .ok (.goto 15, 3) := by decide +kernel
theorem dX1_workOut_64 : decode cX1_workOut 64 = .ok (.iload 6, 2) := by decide +kernel
theorem dX1_workOut_66 : decode cX1_workOut 66 = .ok (.bipush (-2), 2) := by decide +kernel
theorem dX1_workOut_68 : decode cX1_workOut 68 = .ok (.if_icmp .ne 7, 3) := by decide +kernel
theorem dX1_workOut_71 : decode cX1_workOut 71 = .ok (.iload_n 2, 1) := by decide +kernel
theorem dX1_workOut_72 : decode cX1_workOut 72 = .ok (.goto 4, 3) := by decide +kernel
theorem dX1_workOut_75 : decode cX1_workOut 75 = .ok (.iload_n 3, 1) := by decide +kernel
theorem dX1_workOut_76 : decode cX1_workOut 76 = .ok (.iastore, 1) := by decide +kernel
theorem dX1_workOut_77 : decode cX1_workOut 77 = .ok (.iinc 4 1, 3) := by decide +kernel
theorem dX1_workOut_80 : decode cX1_workOut 80 = .ok (.goto 87, 3) := by decide +kernel
theorem dX1_workOut_83 : decode cX1_workOut 83 = .ok (.iload 6, 2) := by decide +kernel
theorem dX1_workOut_85 : decode cX1_workOut 85 = .ok (.bipush (-33), 2) := by decide +kernel
theorem dX1_workOut_87 : decode cX1_workOut 87 = .ok (.if_icmp .ne 40, 3) := by decide +kernel
theorem dX1_workOut_90 : decode cX1_workOut 90 = .ok (.iload 4, 2) := by decide +kernel
theorem dX1_workOut_92 : decode cX1_workOut 92 = .ok (.ifCond .le 75, 3) := by decide +kernel
theorem dX1_workOut_95 : decode cX1_workOut 95 = .ok (.aload_n 0, 1) := by decide +kernel
theorem dX1_workOut_96 : decode cX1_workOut 96 = .ok (.getfield 23, 3) := by decide +kernel
theorem dX1_workOut_99 : decode cX1_workOut 99 = .ok (.iload 4, 2) := by decide +kernel
theorem dX1_workOut_101 : decode cX1_workOut 101 = .ok (.iconst 1, 1) := by decide +kernel
theorem dX1_workOut_102 : decode cX1_workOut 102 = .ok (.isub, 1) := by decide +kernel
theorem dX1_workOut_103 : decode cX1_workOut 103 = .ok (.aload_n 0, 1) := by decide +kernel
theorem dX1_workOut_104 : decode cX1_workOut 104 = .ok (.getfield 23, 3) := by decide +kernel
theorem dX1_workOut_107 : decode cX1_workOut 107 = .ok (.iload 4, 2) := by decide +kernel
theorem dX1_workOut_109 : decode cX1_workOut 109 = .ok (.iconst 1, 1) := by decide +kernel
theorem dX1_workOut_110 : decode cX1_workOut 110 = .ok (.isub, 1) := by decide +kernel
theorem dX1_workOut_111 : decode cX1_workOut 111 = .ok (.iaload, 1) := by decide +kernel
theorem dX1_workOut_112 : decode cX1_workOut 112 = .ok (.ifCond .ne 7, 3) := by decide +kernel
theorem dX1_workOut_115 : decode cX1_workOut 115 = .ok (.iconst 1, 1) := by decide +kernel
theorem dX1_workOut_116 : decode cX1_workOut 116 = .ok (.goto 4, 3) := by decide +kernel
theorem dX1_workOut_119 : decode cX1_workOut 119 = .ok (.iconst 0, 1) := by decide +kernel
theorem dX1_workOut_120 : decode cX1_workOut 120 = .ok (.invokestatic 40, 3) := by decide +kernel
theorem dX1_workOut_123 : decode cX1_workOut 123 = .ok (.iastore, 1) := by decide +kernel
theorem dX1_workOut_124 : decode cX1_workOut 124 = .ok (.goto 43, 3) := by decide +kernel
theorem dX1_workOut_127 : decode cX1_workOut 127 = .ok (.iload 4, 2) := by decide +kernel
theorem dX1_workOut_129 : decode cX1_workOut 129 = .ok (.iconst 1, 1) := by decide +kernel
theorem dX1_workOut_130 : decode cX1_workOut 130 = .ok (.if_icmp .le 37, 3) := by decide +kernel
theorem dX1_workOut_133 : decode cX1_workOut 133 = .ok (.iinc 4 (-1), 3) := by decide +kernel
theorem dX1_workOut_136 : decode cX1_workOut 136 = .ok (.aload_n 0, 1) := by decide +kernel
theorem dX1_workOut_137 : decode cX1_workOut 137 = .ok (.getfield 23, 3) := by decide +kernel
theorem dX1_workOut_140 : decode cX1_workOut 140 = .ok (.iload 4, 2) := by decide +kernel
theorem dX1_workOut_142 : decode cX1_workOut 142 = .ok (.iconst 1, 1) := by decide +kernel
theorem dX1_workOut_143 : decode cX1_workOut 143 = .ok (.isub, 1) := by decide +kernel
theorem dX1_workOut_144 : decode cX1_workOut 144 = .ok (.iload 6, 2) := by decide +kernel
theorem dX1_workOut_146 : decode cX1_workOut 146 = .ok (.ineg, 1) := by decide +kernel
theorem dX1_workOut_147 : decode cX1_workOut 147 = .ok (.aload_n 0, 1) := by decide +kernel
theorem dX1_workOut_148 : decode cX1_workOut 148 = .ok (.getfield 23, 3) := by decide +kernel
theorem dX1_workOut_151 : decode cX1_workOut 151 = .ok (.iload 4, 2) := by decide +kernel
theorem dX1_workOut_153 : decode cX1_workOut 153 = .ok (.iconst 1, 1) := by decide +kernel
theorem dX1_workOut_154 : decode cX1_workOut 154 = .ok (.isub, 1) := by decide +kernel
theorem dX1_workOut_155 : decode cX1_workOut 155 = .ok (.iaload, 1) := by decide +kernel
theorem dX1_workOut_156 : decode cX1_workOut 156 = .ok (.aload_n 0, 1) := by decide +kernel
theorem dX1_workOut_157 : decode cX1_workOut 157 = .ok (.getfield 23, 3) := by decide +kernel
theorem dX1_workOut_160 : decode cX1_workOut 160 = .ok (.iload 4, 2) := by decide +kernel
theorem dX1_workOut_162 : decode cX1_workOut 162 = .ok (.iaload, 1) := by decide +kernel
theorem dX1_workOut_163 : decode cX1_workOut 163 = .ok (.invokestatic 44, 3) := by decide +kernel
theorem dX1_workOut_166 : decode cX1_workOut 166 = .ok (.iastore, 1) := by decide +kernel
theorem dX1_workOut_167 : decode cX1_workOut 167 = .ok (.iinc 5 1, 3) := by decide +kernel
theorem dX1_workOut_170 : decode cX1_workOut 170 = .ok (.goto (-164), 3) := by decide +kernel
theorem dX1_workOut_173 : decode cX1_workOut 173 = .ok (.iload 4, 2) := by decide +kernel
theorem dX1_workOut_175 : decode cX1_workOut 175 = .ok (.ifCond .le 15, 3) := by decide +kernel
theorem dX1_workOut_178 : decode cX1_workOut 178 = .ok (.aload_n 0, 1) := by decide +kernel
theorem dX1_workOut_179 : decode cX1_workOut 179 = .ok (.getfield 23, 3) := by decide +kernel
theorem dX1_workOut_182 : decode cX1_workOut 182 = .ok (.iload 4, 2) := by decide +kernel
theorem dX1_workOut_184 : decode cX1_workOut 184 = .ok (.iconst 1, 1) := by decide +kernel
theorem dX1_workOut_185 : decode cX1_workOut 185 = .ok (.isub, 1) := by decide +kernel
theorem dX1_workOut_186 : decode cX1_workOut 186 = .ok (.iaload, 1) := by decide +kernel
theorem dX1_workOut_187 : decode cX1_workOut 187 = .ok (.goto 4, 3) := by decide +kernel
theorem dX1_workOut_190 : decode cX1_workOut 190 = .ok (.iconst 0, 1) := by decide +kernel
theorem dX1_workOut_191 : decode cX1_workOut 191 = .ok (.ireturn, 1) := by decide +kernel
theorem dX1_join_0 : decode cX1_join 0 = .ok (.iload_n 0, 1) := by decide +kernel
theorem dX1_join_1 : decode cX1_join 1 = .ok (.lookupswitch 183 #[(38, 100), (42, 167), (43, 159), (45, 163), (47, 171), (60, 117), (61, 131), (62, 145), (124, 83)], 83) := by decide +kernel
theorem dX1_join_84 : decode cX1_join 84 = .ok (.iload_n 1, 1) := by decide +kernel
theorem dX1_join_85 : decode cX1_join 85 = .ok (.ifCond .ne 7, 3) := by decide +kernel
theorem dX1_join_88 : decode cX1_join 88 = .ok (.iload_n 2, 1) := by decide +kernel
theorem dX1_join_89 : decode cX1_join 89 = .ok (.ifCond .eq 7, 3) := by decide +kernel
theorem dX1_join_92 : decode cX1_join 92 = .ok (.iconst 1, 1) := by decide +kernel
theorem dX1_join_93 : decode cX1_join 93 = .ok (.goto 4, 3) := by decide +kernel
theorem dX1_join_96 : decode cX1_join 96 = .ok (.iconst 0, 1) := by decide +kernel
theorem dX1_join_97 : decode cX1_join 97 = .ok (.invokestatic 40, 3) := by decide +kernel
theorem dX1_join_100 : decode cX1_join 100 = .ok (.ireturn, 1) := by decide +kernel
theorem dX1_join_101 : decode cX1_join 101 = .ok (.iload_n 1, 1) := by decide +kernel
theorem dX1_join_102 : decode cX1_join 102 = .ok (.ifCond .eq 11, 3) := by decide +kernel
theorem dX1_join_105 : decode cX1_join 105 = .ok (.iload_n 2, 1) := by decide +kernel
theorem dX1_join_106 : decode cX1_join 106 = .ok (.ifCond .eq 7, 3) := by decide +kernel
theorem dX1_join_109 : decode cX1_join 109 = .ok (.iconst 1, 1) := by decide +kernel
theorem dX1_join_110 : decode cX1_join 110 = .ok (.goto 4, 3) := by decide +kernel
theorem dX1_join_113 : decode cX1_join 113 = .ok (.iconst 0, 1) := by decide +kernel
theorem dX1_join_114 : decode cX1_join 114 = .ok (.invokestatic 40, 3) := by decide +kernel
theorem dX1_join_117 : decode cX1_join 117 = .ok (.ireturn, 1) := by decide +kernel
theorem dX1_join_118 : decode cX1_join 118 = .ok (.iload_n 1, 1) := by decide +kernel
theorem dX1_join_119 : decode cX1_join 119 = .ok (.iload_n 2, 1) := by decide +kernel
theorem dX1_join_120 : decode cX1_join 120 = .ok (.if_icmp .ge 7, 3) := by decide +kernel
theorem dX1_join_123 : decode cX1_join 123 = .ok (.iconst 1, 1) := by decide +kernel
theorem dX1_join_124 : decode cX1_join 124 = .ok (.goto 4, 3) := by decide +kernel
theorem dX1_join_127 : decode cX1_join 127 = .ok (.iconst 0, 1) := by decide +kernel
theorem dX1_join_128 : decode cX1_join 128 = .ok (.invokestatic 40, 3) := by decide +kernel
theorem dX1_join_131 : decode cX1_join 131 = .ok (.ireturn, 1) := by decide +kernel
theorem dX1_join_132 : decode cX1_join 132 = .ok (.iload_n 1, 1) := by decide +kernel
theorem dX1_join_133 : decode cX1_join 133 = .ok (.iload_n 2, 1) := by decide +kernel
theorem dX1_join_134 : decode cX1_join 134 = .ok (.if_icmp .ne 7, 3) := by decide +kernel
theorem dX1_join_137 : decode cX1_join 137 = .ok (.iconst 1, 1) := by decide +kernel
theorem dX1_join_138 : decode cX1_join 138 = .ok (.goto 4, 3) := by decide +kernel
theorem dX1_join_141 : decode cX1_join 141 = .ok (.iconst 0, 1) := by decide +kernel
theorem dX1_join_142 : decode cX1_join 142 = .ok (.invokestatic 40, 3) := by decide +kernel
theorem dX1_join_145 : decode cX1_join 145 = .ok (.ireturn, 1) := by decide +kernel
theorem dX1_join_146 : decode cX1_join 146 = .ok (.iload_n 1, 1) := by decide +kernel
theorem dX1_join_147 : decode cX1_join 147 = .ok (.iload_n 2, 1) := by decide +kernel
theorem dX1_join_148 : decode cX1_join 148 = .ok (.if_icmp .le 7, 3) := by decide +kernel
theorem dX1_join_151 : decode cX1_join 151 = .ok (.iconst 1, 1) := by decide +kernel
theorem dX1_join_152 : decode cX1_join 152 = .ok (.goto 4, 3) := by decide +kernel
theorem dX1_join_155 : decode cX1_join 155 = .ok (.iconst 0, 1) := by decide +kernel
theorem dX1_join_156 : decode cX1_join 156 = .ok (.invokestatic 40, 3) := by decide +kernel
theorem dX1_join_159 : decode cX1_join 159 = .ok (.ireturn, 1) := by decide +kernel
theorem dX1_join_160 : decode cX1_join 160 = .ok (.iload_n 1, 1) := by decide +kernel
theorem dX1_join_161 : decode cX1_join 161 = .ok (.iload_n 2, 1) := by decide +kernel
theorem dX1_join_162 : decode cX1_join 162 = .ok (.iadd, 1) := by decide +kernel
theorem dX1_join_163 : decode cX1_join 163 = .ok (.ireturn, 1) := by decide +kernel
theorem dX1_join_164 : decode cX1_join 164 = .ok (.iload_n 1, 1) := by decide +kernel
theorem dX1_join_165 : decode cX1_join 165 = .ok (.iload_n 2, 1) := by decide +kernel
theorem dX1_join_166 : decode cX1_join 166 = .ok (.isub, 1) := by decide +kernel
theorem dX1_join_167 : decode cX1_join 167 = .ok (.ireturn, 1) := by decide +kernel
theorem dX1_join_168 : decode cX1_join 168 = .ok (.iload_n 1, 1) := by decide +kernel
theorem dX1_join_169 : decode cX1_join 169 = .ok (.iload_n 2, 1) := by decide +kernel
theorem dX1_join_170 : decode cX1_join 170 = .ok (.imul, 1) := by decide +kernel
theorem dX1_join_171 : decode cX1_join 171 = .ok (.ireturn, 1) := by decide +kernel
theorem dX1_join_172 : decode cX1_join 172 = .ok (.iload_n 2, 1) := by decide +kernel
theorem dX1_join_173 : decode cX1_join 173 = .ok (.ifCond .ne 7, 3) := by decide +kernel
theorem dX1_join_176 : decode cX1_join 176 = .ok (.iconst 0, 1) := by decide +kernel
theorem dX1_join_177 : decode cX1_join 177 = .ok (.goto 6, 3) := by decide +kernel
theorem dX1_join_180 : decode cX1_join 180 = .ok (.iload_n 1, 1) := by decide +kernel
theorem dX1_join_181 : decode cX1_join 181 = .ok (.iload_n 2, 1) := by decide +kernel
theorem dX1_join_182 : decode cX1_join 182 = .ok (.idiv, 1) := by decide +kernel
theorem dX1_join_183 : decode cX1_join 183 = .ok (.ireturn, 1) := by decide +kernel
theorem dX1_join_184 : decode cX1_join 184 = .ok (.iload_n 2, 1) := by decide +kernel
theorem dX1_join_185 : decode cX1_join 185 = .ok (.ifCond .ne 7, 3) := by decide +kernel
theorem dX1_join_188 : decode cX1_join 188 = .ok (.iconst 0, 1) := by decide +kernel
theorem dX1_join_189 : decode cX1_join 189 = .ok (.goto 6, 3) := by decide +kernel
theorem dX1_join_192 : decode cX1_join 192 = .ok (.iload_n 1, 1) := by decide +kernel
theorem dX1_join_193 : decode cX1_join 193 = .ok (.iload_n 2, 1) := by decide +kernel
theorem dX1_join_194 : decode cX1_join 194 = .ok (.irem, 1) := by decide +kernel
theorem dX1_join_195 : decode cX1_join 195 = .ok (.ireturn, 1) := by decide +kernel
theorem dX1_truth_0 : decode cX1_truth 0 = .ok (.iload_n 0, 1) := by decide +kernel
theorem dX1_truth_1 : decode cX1_truth 1 = .ok (.ifCond .eq 7, 3) := by decide +kernel
theorem dX1_truth_4 : decode cX1_truth 4 = .ok (.iconst 1, 1) := by decide +kernel
theorem dX1_truth_5 : decode cX1_truth 5 = .ok (.goto 4, 3) := by decide +kernel
theorem dX1_truth_8 : decode cX1_truth 8 = .ok (.iconst 0, 1) := by decide +kernel
theorem dX1_truth_9 : decode cX1_truth 9 = .ok (.ireturn, 1) := by decide +kernel
theorem dX2_init_0 : decode cX2_init 0 = .ok (.aload_n 0, 1) := by decide +kernel
theorem dX2_init_1 : decode cX2_init 1 = .ok (.invokespecial 3, 3) := by decide +kernel
theorem dX2_init_4 : decode cX2_init 4 = .ok (.aload_n 0, 1) := by decide +kernel
theorem dX2_init_5 : decode cX2_init 5 = .ok (.bipush 60, 2) := by decide +kernel
theorem dX2_init_7 : decode cX2_init 7 = .ok (.newarray .int, 2) := by decide +kernel
theorem dX2_init_9 : decode cX2_init 9 = .ok (.putfield 9, 3) := by decide +kernel
theorem dX2_init_12 : decode cX2_init 12 = .ok (.aload_n 0, 1) := by decide +kernel
theorem dX2_init_13 : decode cX2_init 13 = .ok (.iconst 0, 1) := by decide +kernel
theorem dX2_init_14 : decode cX2_init 14 = .ok (.putfield 15, 3) := by decide +kernel
theorem dX2_init_17 : decode cX2_init 17 = .ok (.aload_n 0, 1) := by decide +kernel
theorem dX2_init_18 : decode cX2_init 18 = .ok (.iconst 0, 1) := by decide +kernel
theorem dX2_init_19 : decode cX2_init 19 = .ok (.putfield 19, 3) := by decide +kernel
theorem dX2_init_22 : decode cX2_init 22 = .ok (.aload_n 0, 1) := by decide +kernel
theorem dX2_init_23 : decode cX2_init 23 = .ok (.bipush 60, 2) := by decide +kernel
theorem dX2_init_25 : decode cX2_init 25 = .ok (.newarray .char, 2) := by decide +kernel
theorem dX2_init_27 : decode cX2_init 27 = .ok (.putfield 22, 3) := by decide +kernel
theorem dX2_init_30 : decode cX2_init 30 = .ok (.aload_n 0, 1) := by decide +kernel
theorem dX2_init_31 : decode cX2_init 31 = .ok (.iconst 0, 1) := by decide +kernel
theorem dX2_init_32 : decode cX2_init 32 = .ok (.putfield 26, 3) := by decide +kernel
theorem dX2_init_35 : decode cX2_init 35 = .ok (.aload_n 0, 1) := by decide +kernel
theorem dX2_init_36 : decode cX2_init 36 = .ok (.ldc 29, 2) := by decide +kernel
theorem dX2_init_38 : decode cX2_init 38 = .ok (.putfield 31, 3) := by decide +kernel
theorem dX2_init_41 : decode cX2_init 41 = .ok (.return_, 1) := by decide +kernel
theorem dX2_reads_0 : decode cX2_reads 0 = .ok (.aload_n 0, 1) := by decide +kernel
theorem dX2_reads_1 : decode cX2_reads 1 = .ok (.iload_n 2, 1) := by decide +kernel
theorem dX2_reads_2 : decode cX2_reads 2 = .ok (.iconst 0, 1) := by decide +kernel
theorem dX2_reads_3 : decode cX2_reads 3 = .ok (.bipush 60, 2) := by decide +kernel
theorem dX2_reads_5 : decode cX2_reads 5 = .ok (.aload_n 1, 1) := by decide +kernel
theorem dX2_reads_6 : decode cX2_reads 6 = .ok (.arraylength, 1) := by decide +kernel
theorem dX2_reads_7 : decode cX2_reads 7 = .ok (.invokestatic 35, 3) := by decide +kernel
theorem dX2_reads_10 : decode cX2_reads 10 = .ok (.invokestatic 41, 3) := by decide +kernel
theorem dX2_reads_13 : decode cX2_reads 13 = .ok (.putfield 26, 3) := by decide +kernel
theorem dX2_reads_16 : decode cX2_reads 16 = .ok (.aload_n 1, 1) := by decide +kernel
theorem dX2_reads_17 : decode cX2_reads 17 = .ok (.iconst 0, 1) := by decide +kernel
theorem dX2_reads_18 : decode cX2_reads 18 = .ok (.aload_n 0, 1) := by decide +kernel
theorem dX2_reads_19 : decode cX2_reads 19 = .ok (.getfield 22, 3) := by decide +kernel
theorem dX2_reads_22 : decode cX2_reads 22 = .ok (.iconst 0, 1) := by decide +kernel
theorem dX2_reads_23 : decode cX2_reads 23 = .ok (.aload_n 0, 1) := by decide +kernel
theorem dX2_reads_24 : decode cX2_reads 24 = .ok (.getfield 26, 3) := by decide +kernel
theorem dX2_reads_27 : decode cX2_reads 27 = .ok (.invokestatic 45, 3) := by decide +kernel
theorem dX2_reads_30 : decode cX2_reads 30 = .ok (.aload_n 0, 1) := by decide +kernel
theorem dX2_reads_31 : decode cX2_reads 31 = .ok (.iload_n 3, 1) := by decide +kernel
theorem dX2_reads_32 : decode cX2_reads 32 = .ok (.ifCond .ne 8, 3) := by decide +kernel
theorem dX2_reads_35 : decode cX2_reads 35 = .ok (.ldc 29, 2) := by decide +kernel
theorem dX2_reads_37 : decode cX2_reads 37 = .ok (.goto 5, 3) := by decide +kernel
theorem dX2_reads_40 : decode cX2_reads 40 = .ok (.ldc 51, 2) := by decide +kernel
theorem dX2_reads_42 : decode cX2_reads 42 = .ok (.putfield 31, 3) := by decide +kernel
theorem dX2_reads_45 : decode cX2_reads 45 = .ok (.aload_n 0, 1) := by decide +kernel
theorem dX2_reads_46 : decode cX2_reads 46 = .ok (.iconst 0, 1) := by decide +kernel
theorem dX2_reads_47 : decode cX2_reads 47 = .ok (.putfield 15, 3) := by decide +kernel
theorem dX2_reads_50 : decode cX2_reads 50 = .ok (.aload_n 0, 1) := by decide +kernel
theorem dX2_reads_51 : decode cX2_reads 51 = .ok (.iconst 0, 1) := by decide +kernel
theorem dX2_reads_52 : decode cX2_reads 52 = .ok (.putfield 19, 3) := by decide +kernel
theorem dX2_reads_55 : decode cX2_reads 55 = .ok (.aload_n 0, 1) := by decide +kernel
theorem dX2_reads_56 : decode cX2_reads 56 = .ok (.iconst 0, 1) := by decide +kernel
theorem dX2_reads_57 : decode cX2_reads 57 = .ok (.invokevirtual 53, 3) := by decide +kernel
theorem dX2_reads_60 : decode cX2_reads 60 = .ok (.ifCond .eq 18, 3) := by decide +kernel
theorem dX2_reads_63 : decode cX2_reads 63 = .ok (.aload_n 0, 1) := by decide +kernel
theorem dX2_reads_64 : decode cX2_reads 64 = .ok (.getfield 19, 3) := by decide +kernel
theorem dX2_reads_67 : decode cX2_reads 67 = .ok (.aload_n 0, 1) := by decide +kernel
theorem dX2_reads_68 : decode cX2_reads 68 = .ok (.getfield 26, 3) := by decide +kernel
theorem dX2_reads_71 : decode cX2_reads 71 = .ok (.if_icmp .ne 7, 3) := by decide +kernel
theorem dX2_reads_74 : decode cX2_reads 74 = .ok (.iconst 1, 1) := by decide +kernel
theorem dX2_reads_75 : decode cX2_reads 75 = .ok (.goto 4, 3) := by decide +kernel
theorem dX2_reads_78 : decode cX2_reads 78 = .ok (.iconst 0, 1) := by decide +kernel
theorem dX2_reads_79 : decode cX2_reads 79 = .ok (.ireturn, 1) := by decide +kernel
theorem dX2_ahead_0 : decode cX2_ahead 0 = .ok (.aload_n 0, 1) := by decide +kernel
theorem dX2_ahead_1 : decode cX2_ahead 1 = .ok (.getfield 19, 3) := by decide +kernel
theorem dX2_ahead_4 : decode cX2_ahead 4 = .ok (.ifCond .lt 26, 3) := by decide +kernel
theorem dX2_ahead_7 : decode cX2_ahead 7 = .ok (.aload_n 0, 1) := by decide +kernel
theorem dX2_ahead_8 : decode cX2_ahead 8 = .ok (.getfield 19, 3) := by decide +kernel
theorem dX2_ahead_11 : decode cX2_ahead 11 = .ok (.aload_n 0, 1) := by decide +kernel
theorem dX2_ahead_12 : decode cX2_ahead 12 = .ok (.getfield 26, 3) := by decide +kernel
theorem dX2_ahead_15 : decode cX2_ahead 15 = .ok (.if_icmp .ge 15, 3) := by decide +kernel
theorem dX2_ahead_18 : decode cX2_ahead 18 = .ok (.aload_n 0, 1) := by decide +kernel
theorem dX2_ahead_19 : decode cX2_ahead 19 = .ok (.getfield 22, 3) := by decide +kernel
theorem dX2_ahead_22 : decode cX2_ahead 22 = .ok (.aload_n 0, 1) := by decide +kernel
theorem dX2_ahead_23 : decode cX2_ahead 23 = .ok (.getfield 19, 3) := by decide +kernel
theorem dX2_ahead_26 : decode cX2_ahead 26 = .ok (.caload, 1) := by decide +kernel
theorem dX2_ahead_27 : decode cX2_ahead 27 = .ok (.goto 4, 3) := by decide +kernel
theorem dX2_ahead_30 : decode cX2_ahead 30 = .ok (.iconst 0, 1) := by decide +kernel
theorem dX2_ahead_31 : decode cX2_ahead 31 = .ok (.ireturn, 1) := by decide +kernel
theorem dX2_make_0 : decode cX2_make 0 = .ok (.aload_n 0, 1) := by decide +kernel
theorem dX2_make_1 : decode cX2_make 1 = .ok (.getfield 15, 3) := by decide +kernel
theorem dX2_make_4 : decode cX2_make 4 = .ok (.bipush 60, 2) := by decide +kernel
theorem dX2_make_6 : decode cX2_make 6 = .ok (.if_icmp .ge 23, 3) := by decide +kernel
theorem dX2_make_9 : decode cX2_make 9 = .ok (.aload_n 0, 1) := by decide +kernel
theorem dX2_make_10 : decode cX2_make 10 = .ok (.getfield 9, 3) := by decide +kernel
theorem dX2_make_13 : decode cX2_make 13 = .ok (.aload_n 0, 1) := by decide +kernel
theorem dX2_make_14 : decode cX2_make 14 = .ok (.getfield 15, 3) := by decide +kernel
theorem dX2_make_17 : decode cX2_make 17 = .ok (.iload_n 1, 1) := by decide +kernel
theorem dX2_make_18 : decode cX2_make 18 = .ok (.iastore, 1) := by decide +kernel
theorem dX2_make_19 : decode cX2_make 19 = .ok (.aload_n 0, 1) := by decide +kernel
theorem dX2_make_20 : decode cX2_make 20 = .ok (.dup, 1) := by decide +kernel
theorem dX2_make_21 : decode cX2_make 21 = .ok (.getfield 15, 3) := by decide +kernel
theorem dX2_make_24 : decode cX2_make 24 = .ok (.iconst 1, 1) := by decide +kernel
theorem dX2_make_25 : decode cX2_make 25 = .ok (.iadd, 1) := by decide +kernel
theorem dX2_make_26 : decode cX2_make 26 = .ok (.putfield 15, 3) := by decide +kernel
theorem dX2_make_29 : decode cX2_make 29 = .ok (.return_, 1) := by decide +kernel
theorem dX2_readAny_0 : decode cX2_readAny 0 = .ok (.aload_n 0, 1) := by decide +kernel
theorem dX2_readAny_1 : decode cX2_readAny 1 = .ok (.iload_n 1, 1) := by decide +kernel
theorem dX2_readAny_2 : decode cX2_readAny 2 = .ok (.invokevirtual 57, 3) := by decide +kernel
theorem dX2_readAny_5 : decode cX2_readAny 5 = .ok (.ifCond .ne 5, 3) := by decide +kernel
theorem dX2_readAny_8 : decode cX2_readAny 8 = .ok (.iconst 0, 1) := by decide +kernel
theorem dX2_readAny_9 : decode cX2_readAny 9 = .ok (.ireturn, 1) := by decide +kernel
theorem dX2_readAny_10 : decode cX2_readAny 10 = .ok (.iconst 0, 1) := by decide +kernel
theorem dX2_readAny_11 : decode cX2_readAny 11 = .ok (.istore_n 2, 1) := by decide +kernel
theorem dX2_readAny_12 : decode cX2_readAny 12 = .ok (.iload_n 2, 1) := by decide +kernel
theorem dX2_readAny_13 : decode cX2_readAny 13 = .ok (.bipush 60, 2) := by decide +kernel
theorem dX2_readAny_15 : decode cX2_readAny 15 = .ok (.if_icmp .ge 44, 3) := by decide +kernel
theorem dX2_readAny_18 : decode cX2_readAny 18 = .ok (.aload_n 0, 1) := by decide +kernel
theorem dX2_readAny_19 : decode cX2_readAny 19 = .ok (.invokevirtual 60, 3) := by decide +kernel
theorem dX2_readAny_22 : decode cX2_readAny 22 = .ok (.bipush 124, 2) := by decide +kernel
theorem dX2_readAny_24 : decode cX2_readAny 24 = .ok (.if_icmp .ne 35, 3) := by decide +kernel
theorem dX2_readAny_27 : decode cX2_readAny 27 = .ok (.aload_n 0, 1) := by decide +kernel
theorem dX2_readAny_28 : decode cX2_readAny 28 = .ok (.dup, 1) := by decide +kernel
theorem dX2_readAny_29 : decode cX2_readAny 29 = .ok (.getfield 19, 3) := by decide +kernel
theorem dX2_readAny_32 : decode cX2_readAny 32 = .ok (.iconst 1, 1) := by decide +kernel
theorem dX2_readAny_33 : decode cX2_readAny 33 = .ok (.iadd, 1) := by decide +kernel
theorem dX2_readAny_34 : decode cX2_readAny 34 = .ok (.putfield 19, 3) := by decide +kernel
theorem dX2_readAny_37 : decode cX2_readAny 37 = .ok (.aload_n 0, 1) := by decide +kernel
theorem dX2_readAny_38 : decode cX2_readAny 38 = .ok (.iload_n 1, 1) := by decide +kernel
theorem dX2_readAny_39 : decode cX2_readAny 39 = .ok (.invokevirtual 57, 3) := by decide +kernel
theorem dX2_readAny_42 : decode cX2_readAny 42 = .ok (.ifCond .ne 5, 3) := by decide +kernel
theorem dX2_readAny_45 : decode cX2_readAny 45 = .ok (.iconst 0, 1) := by decide +kernel
theorem dX2_readAny_46 : decode cX2_readAny 46 = .ok (.ireturn, 1) := by decide +kernel
theorem dX2_readAny_47 : decode cX2_readAny 47 = .ok (.aload_n 0, 1) := by decide +kernel
theorem dX2_readAny_48 : decode cX2_readAny 48 = .ok (.bipush (-124), 2) := by decide +kernel
theorem dX2_readAny_50 : decode cX2_readAny 50 = .ok (.invokevirtual 64, 3) := by decide +kernel
theorem dX2_readAny_53 : decode cX2_readAny 53 = .ok (.iinc 2 1, 3) := by decide +kernel
theorem dX2_readAny_56 : decode cX2_readAny 56 = .ok (.goto (-44), 3) := by decide +kernel
theorem dX2_readAny_59 : decode cX2_readAny 59 = .ok (.iconst 1, 1) := by decide +kernel
theorem dX2_readAny_60 : decode cX2_readAny 60 = .ok (.ireturn, 1) := by decide +kernel
theorem dX2_readAll_0 : decode cX2_readAll 0 = .ok (.aload_n 0, 1) := by decide +kernel
theorem dX2_readAll_1 : decode cX2_readAll 1 = .ok (.iload_n 1, 1) := by decide +kernel
theorem dX2_readAll_2 : decode cX2_readAll 2 = .ok (.invokevirtual 68, 3) := by decide +kernel
theorem dX2_readAll_5 : decode cX2_readAll 5 = .ok (.ifCond .ne 5, 3) := by decide +kernel
theorem dX2_readAll_8 : decode cX2_readAll 8 = .ok (.iconst 0, 1) := by decide +kernel
theorem dX2_readAll_9 : decode cX2_readAll 9 = .ok (.ireturn, 1) := by decide +kernel
theorem dX2_readAll_10 : decode cX2_readAll 10 = .ok (.iconst 0, 1) := by decide +kernel
theorem dX2_readAll_11 : decode cX2_readAll 11 = .ok (.istore_n 2, 1) := by decide +kernel
theorem dX2_readAll_12 : decode cX2_readAll 12 = .ok (.iload_n 2, 1) := by decide +kernel
theorem dX2_readAll_13 : decode cX2_readAll 13 = .ok (.bipush 60, 2) := by decide +kernel
theorem dX2_readAll_15 : decode cX2_readAll 15 = .ok (.if_icmp .ge 44, 3) := by decide +kernel
theorem dX2_readAll_18 : decode cX2_readAll 18 = .ok (.aload_n 0, 1) := by decide +kernel
theorem dX2_readAll_19 : decode cX2_readAll 19 = .ok (.invokevirtual 60, 3) := by decide +kernel
theorem dX2_readAll_22 : decode cX2_readAll 22 = .ok (.bipush 38, 2) := by decide +kernel
theorem dX2_readAll_24 : decode cX2_readAll 24 = .ok (.if_icmp .ne 35, 3) := by decide +kernel
theorem dX2_readAll_27 : decode cX2_readAll 27 = .ok (.aload_n 0, 1) := by decide +kernel
theorem dX2_readAll_28 : decode cX2_readAll 28 = .ok (.dup, 1) := by decide +kernel
theorem dX2_readAll_29 : decode cX2_readAll 29 = .ok (.getfield 19, 3) := by decide +kernel
theorem dX2_readAll_32 : decode cX2_readAll 32 = .ok (.iconst 1, 1) := by decide +kernel
theorem dX2_readAll_33 : decode cX2_readAll 33 = .ok (.iadd, 1) := by decide +kernel
theorem dX2_readAll_34 : decode cX2_readAll 34 = .ok (.putfield 19, 3) := by decide +kernel
theorem dX2_readAll_37 : decode cX2_readAll 37 = .ok (.aload_n 0, 1) := by decide +kernel
theorem dX2_readAll_38 : decode cX2_readAll 38 = .ok (.iload_n 1, 1) := by decide +kernel
theorem dX2_readAll_39 : decode cX2_readAll 39 = .ok (.invokevirtual 68, 3) := by decide +kernel
theorem dX2_readAll_42 : decode cX2_readAll 42 = .ok (.ifCond .ne 5, 3) := by decide +kernel
theorem dX2_readAll_45 : decode cX2_readAll 45 = .ok (.iconst 0, 1) := by decide +kernel
theorem dX2_readAll_46 : decode cX2_readAll 46 = .ok (.ireturn, 1) := by decide +kernel
theorem dX2_readAll_47 : decode cX2_readAll 47 = .ok (.aload_n 0, 1) := by decide +kernel
theorem dX2_readAll_48 : decode cX2_readAll 48 = .ok (.bipush (-38), 2) := by decide +kernel
theorem dX2_readAll_50 : decode cX2_readAll 50 = .ok (.invokevirtual 64, 3) := by decide +kernel
theorem dX2_readAll_53 : decode cX2_readAll 53 = .ok (.iinc 2 1, 3) := by decide +kernel
theorem dX2_readAll_56 : decode cX2_readAll 56 = .ok (.goto (-44), 3) := by decide +kernel
theorem dX2_readAll_59 : decode cX2_readAll 59 = .ok (.iconst 1, 1) := by decide +kernel
theorem dX2_readAll_60 : decode cX2_readAll 60 = .ok (.ireturn, 1) := by decide +kernel
theorem dX2_readCompared_0 : decode cX2_readCompared 0 = .ok (.aload_n 0, 1) := by decide +kernel
theorem dX2_readCompared_1 : decode cX2_readCompared 1 = .ok (.iload_n 1, 1) := by decide +kernel
theorem dX2_readCompared_2 : decode cX2_readCompared 2 = .ok (.invokevirtual 71, 3) := by decide +kernel
theorem dX2_readCompared_5 : decode cX2_readCompared 5 = .ok (.ifCond .ne 5, 3) := by decide +kernel
theorem dX2_readCompared_8 : decode cX2_readCompared 8 = .ok (.iconst 0, 1) := by decide +kernel
theorem dX2_readCompared_9 : decode cX2_readCompared 9 = .ok (.ireturn, 1) := by decide +kernel
theorem dX2_readCompared_10 : decode cX2_readCompared 10 = .ok (.aload_n 0, 1) := by decide +kernel
theorem dX2_readCompared_11 : decode cX2_readCompared 11 = .ok (.invokevirtual 60, 3) := by decide +kernel
theorem dX2_readCompared_14 : decode cX2_readCompared 14 = .ok (.istore_n 2, 1) := by decide +kernel
theorem dX2_readCompared_15 : decode cX2_readCompared 15 = .ok (.iload_n 2, 1) := by decide +kernel
theorem dX2_readCompared_16 : decode cX2_readCompared 16 = .ok (.bipush 60, 2) := by decide +kernel
theorem dX2_readCompared_18 : decode cX2_readCompared 18 = .ok (.if_icmp .eq 17, 3) := by decide +kernel
theorem dX2_readCompared_21 : decode cX2_readCompared 21 = .ok (.iload_n 2, 1) := by decide +kernel
theorem dX2_readCompared_22 : decode cX2_readCompared 22 = .ok (.bipush 61, 2) := by decide +kernel
theorem dX2_readCompared_24 : decode cX2_readCompared 24 = .ok (.if_icmp .eq 11, 3) := by decide +kernel
theorem dX2_readCompared_27 : decode cX2_readCompared 27 = .ok (.iload_n 2, 1) := by decide +kernel
theorem dX2_readCompared_28 : decode cX2_readCompared 28 = .ok (.bipush 62, 2) := by decide +kernel
theorem dX2_readCompared_30 : decode cX2_readCompared 30 = .ok (.if_icmp .eq 5, 3) := by decide +kernel
theorem dX2_readCompared_33 : decode cX2_readCompared 33 = .ok (.iconst 1, 1) := by decide +kernel
theorem dX2_readCompared_34 : decode cX2_readCompared 34 = .ok (.ireturn, 1) := by decide +kernel
theorem dX2_readCompared_35 : decode cX2_readCompared 35 = .ok (.aload_n 0, 1) := by decide +kernel
theorem dX2_readCompared_36 : decode cX2_readCompared 36 = .ok (.dup, 1) := by decide +kernel
theorem dX2_readCompared_37 : decode cX2_readCompared 37 = .ok (.getfield 19, 3) := by decide +kernel
theorem dX2_readCompared_40 : decode cX2_readCompared 40 = .ok (.iconst 1, 1) := by decide +kernel
theorem dX2_readCompared_41 : decode cX2_readCompared 41 = .ok (.iadd, 1) := by decide +kernel
theorem dX2_readCompared_42 : decode cX2_readCompared 42 = .ok (.putfield 19, 3) := by decide +kernel
theorem dX2_readCompared_45 : decode cX2_readCompared 45 = .ok (.aload_n 0, 1) := by decide +kernel
theorem dX2_readCompared_46 : decode cX2_readCompared 46 = .ok (.iload_n 1, 1) := by decide +kernel
theorem dX2_readCompared_47 : decode cX2_readCompared 47 = .ok (.invokevirtual 71, 3) := by decide +kernel
theorem dX2_readCompared_50 : decode cX2_readCompared 50 = .ok (.ifCond .ne 5, 3) := by decide +kernel
theorem dX2_readCompared_53 : decode cX2_readCompared 53 = .ok (.iconst 0, 1) := by decide +kernel
theorem dX2_readCompared_54 : decode cX2_readCompared 54 = .ok (.ireturn, 1) := by decide +kernel
theorem dX2_readCompared_55 : decode cX2_readCompared 55 = .ok (.aload_n 0, 1) := by decide +kernel
theorem dX2_readCompared_56 : decode cX2_readCompared 56 = .ok (.iload_n 2, 1) := by decide +kernel
theorem dX2_readCompared_57 : decode cX2_readCompared 57 = .ok (.ineg, 1) := by decide +kernel
theorem dX2_readCompared_58 : decode cX2_readCompared 58 = .ok (.invokevirtual 64, 3) := by decide +kernel
theorem dX2_readCompared_61 : decode cX2_readCompared 61 = .ok (.iconst 1, 1) := by decide +kernel
theorem dX2_readCompared_62 : decode cX2_readCompared 62 = .ok (.ireturn, 1) := by decide +kernel
theorem dX2_readSum_0 : decode cX2_readSum 0 = .ok (.aload_n 0, 1) := by decide +kernel
theorem dX2_readSum_1 : decode cX2_readSum 1 = .ok (.iload_n 1, 1) := by decide +kernel
theorem dX2_readSum_2 : decode cX2_readSum 2 = .ok (.invokevirtual 74, 3) := by decide +kernel
theorem dX2_readSum_5 : decode cX2_readSum 5 = .ok (.ifCond .ne 5, 3) := by decide +kernel
theorem dX2_readSum_8 : decode cX2_readSum 8 = .ok (.iconst 0, 1) := by decide +kernel
theorem dX2_readSum_9 : decode cX2_readSum 9 = .ok (.ireturn, 1) := by decide +kernel
theorem dX2_readSum_10 : decode cX2_readSum 10 = .ok (.iconst 0, 1) := by decide +kernel
theorem dX2_readSum_11 : decode cX2_readSum 11 = .ok (.istore_n 2, 1) := by decide +kernel
theorem dX2_readSum_12 : decode cX2_readSum 12 = .ok (.iload_n 2, 1) := by decide +kernel
theorem dX2_readSum_13 : decode cX2_readSum 13 = .ok (.bipush 60, 2) := by decide +kernel
theorem dX2_readSum_15 : decode cX2_readSum 15 = .ok (.if_icmp .ge 58, 3) := by decide +kernel
theorem dX2_readSum_18 : decode cX2_readSum 18 = .ok (.aload_n 0, 1) := by decide +kernel
theorem dX2_readSum_19 : decode cX2_readSum 19 = .ok (.invokevirtual 60, 3) := by decide +kernel
theorem dX2_readSum_22 : decode cX2_readSum 22 = .ok (.bipush 43, 2) := by decide +kernel
theorem dX2_readSum_24 : decode cX2_readSum 24 = .ok (.if_icmp .eq 12, 3) := by decide +kernel
theorem dX2_readSum_27 : decode cX2_readSum 27 = .ok (.aload_n 0, 1) := by decide +kernel
theorem dX2_readSum_28 : decode cX2_readSum 28 = .ok (.invokevirtual 60, 3) := by decide +kernel
theorem dX2_readSum_31 : decode cX2_readSum 31 = .ok (.bipush 45, 2) := by decide +kernel
theorem dX2_readSum_33 : decode cX2_readSum 33 = .ok (.if_icmp .ne 40, 3) := by decide +kernel
theorem dX2_readSum_36 : decode cX2_readSum 36 = .ok (.aload_n 0, 1) := by decide +kernel
theorem dX2_readSum_37 : decode cX2_readSum 37 = .ok (.invokevirtual 60, 3) := by decide +kernel
theorem dX2_readSum_40 : decode cX2_readSum 40 = .ok (.istore_n 3, 1) := by decide +kernel
theorem dX2_readSum_41 : decode cX2_readSum 41 = .ok (.aload_n 0, 1) := by decide +kernel
theorem dX2_readSum_42 : decode cX2_readSum 42 = .ok (.dup, 1) := by decide +kernel
theorem dX2_readSum_43 : decode cX2_readSum 43 = .ok (.getfield 19, 3) := by decide +kernel
theorem dX2_readSum_46 : decode cX2_readSum 46 = .ok (.iconst 1, 1) := by decide +kernel
theorem dX2_readSum_47 : decode cX2_readSum 47 = .ok (.iadd, 1) := by decide +kernel
theorem dX2_readSum_48 : decode cX2_readSum 48 = .ok (.putfield 19, 3) := by decide +kernel
theorem dX2_readSum_51 : decode cX2_readSum 51 = .ok (.aload_n 0, 1) := by decide +kernel
theorem dX2_readSum_52 : decode cX2_readSum 52 = .ok (.iload_n 1, 1) := by decide +kernel
theorem dX2_readSum_53 : decode cX2_readSum 53 = .ok (.invokevirtual 74, 3) := by decide +kernel
theorem dX2_readSum_56 : decode cX2_readSum 56 = .ok (.ifCond .ne 5, 3) := by decide +kernel
theorem dX2_readSum_59 : decode cX2_readSum 59 = .ok (.iconst 0, 1) := by decide +kernel
theorem dX2_readSum_60 : decode cX2_readSum 60 = .ok (.ireturn, 1) := by decide +kernel
theorem dX2_readSum_61 : decode cX2_readSum 61 = .ok (.aload_n 0, 1) := by decide +kernel
theorem dX2_readSum_62 : decode cX2_readSum 62 = .ok (.iload_n 3, 1) := by decide +kernel
theorem dX2_readSum_63 : decode cX2_readSum 63 = .ok (.ineg, 1) := by decide +kernel
theorem dX2_readSum_64 : decode cX2_readSum 64 = .ok (.invokevirtual 64, 3) := by decide +kernel
theorem dX2_readSum_67 : decode cX2_readSum 67 = .ok (.iinc 2 1, 3) := by decide +kernel
theorem dX2_readSum_70 : decode cX2_readSum 70 = .ok (.goto (-58), 3) := by decide +kernel
theorem dX2_readSum_73 : decode cX2_readSum 73 = .ok (.iconst 1, 1) := by decide +kernel
theorem dX2_readSum_74 : decode cX2_readSum 74 = .ok (.ireturn, 1) := by decide +kernel
theorem dX2_readProduct_0 : decode cX2_readProduct 0 = .ok (.aload_n 0, 1) := by decide +kernel
theorem dX2_readProduct_1 : decode cX2_readProduct 1 = .ok (.iload_n 1, 1) := by decide +kernel
theorem dX2_readProduct_2 : decode cX2_readProduct 2 = .ok (.invokevirtual 77, 3) := by decide +kernel
theorem dX2_readProduct_5 : decode cX2_readProduct 5 = .ok (.ifCond .ne 5, 3) := by decide +kernel
theorem dX2_readProduct_8 : decode cX2_readProduct 8 = .ok (.iconst 0, 1) := by decide +kernel
theorem dX2_readProduct_9 : decode cX2_readProduct 9 = .ok (.ireturn, 1) := by decide +kernel
theorem dX2_readProduct_10 : decode cX2_readProduct 10 = .ok (.iconst 0, 1) := by decide +kernel
theorem dX2_readProduct_11 : decode cX2_readProduct 11 = .ok (.istore_n 2, 1) := by decide +kernel
theorem dX2_readProduct_12 : decode cX2_readProduct 12 = .ok (.iload_n 2, 1) := by decide +kernel
theorem dX2_readProduct_13 : decode cX2_readProduct 13 = .ok (.bipush 60, 2) := by decide +kernel
theorem dX2_readProduct_15 : decode cX2_readProduct 15 = .ok (.if_icmp .ge 50, 3) := by decide +kernel
theorem dX2_readProduct_18 : decode cX2_readProduct 18 = .ok (.aload_n 0, 1) := by decide +kernel
theorem dX2_readProduct_19 : decode cX2_readProduct 19 = .ok (.invokevirtual 60, 3) := by decide +kernel
theorem dX2_readProduct_22 : decode cX2_readProduct 22 = .ok (.invokestatic 80, 3) := by decide +kernel
theorem dX2_readProduct_25 : decode cX2_readProduct 25 = .ok (.ifCond .eq 40, 3) := by decide +kernel
theorem dX2_readProduct_28 : decode cX2_readProduct 28 = .ok (.aload_n 0, 1) := by decide +kernel
theorem dX2_readProduct_29 : decode cX2_readProduct 29 = .ok (.invokevirtual 60, 3) := by decide +kernel
theorem dX2_readProduct_32 : decode cX2_readProduct 32 = .ok (.istore_n 3, 1) := by decide +kernel
theorem dX2_readProduct_33 : decode cX2_readProduct 33 = .ok (.aload_n 0, 1) := by decide +kernel
theorem dX2_readProduct_34 : decode cX2_readProduct 34 = .ok (.dup, 1) := by decide +kernel
theorem dX2_readProduct_35 : decode cX2_readProduct 35 = .ok (.getfield 19, 3) := by decide +kernel
theorem dX2_readProduct_38 : decode cX2_readProduct 38 = .ok (.iconst 1, 1) := by decide +kernel
theorem dX2_readProduct_39 : decode cX2_readProduct 39 = .ok (.iadd, 1) := by decide +kernel
theorem dX2_readProduct_40 : decode cX2_readProduct 40 = .ok (.putfield 19, 3) := by decide +kernel
theorem dX2_readProduct_43 : decode cX2_readProduct 43 = .ok (.aload_n 0, 1) := by decide +kernel
theorem dX2_readProduct_44 : decode cX2_readProduct 44 = .ok (.iload_n 1, 1) := by decide +kernel
theorem dX2_readProduct_45 : decode cX2_readProduct 45 = .ok (.invokevirtual 77, 3) := by decide +kernel
theorem dX2_readProduct_48 : decode cX2_readProduct 48 = .ok (.ifCond .ne 5, 3) := by decide +kernel
theorem dX2_readProduct_51 : decode cX2_readProduct 51 = .ok (.iconst 0, 1) := by decide +kernel
theorem dX2_readProduct_52 : decode cX2_readProduct 52 = .ok (.ireturn, 1) := by decide +kernel
theorem dX2_readProduct_53 : decode cX2_readProduct 53 = .ok (.aload_n 0, 1) := by decide +kernel
theorem dX2_readProduct_54 : decode cX2_readProduct 54 = .ok (.iload_n 3, 1) := by decide +kernel
theorem dX2_readProduct_55 : decode cX2_readProduct 55 = .ok (.ineg, 1) := by decide +kernel
theorem dX2_readProduct_56 : decode cX2_readProduct 56 = .ok (.invokevirtual 64, 3) := by decide +kernel
theorem dX2_readProduct_59 : decode cX2_readProduct 59 = .ok (.iinc 2 1, 3) := by decide +kernel
theorem dX2_readProduct_62 : decode cX2_readProduct 62 = .ok (.goto (-50), 3) := by decide +kernel
theorem dX2_readProduct_65 : decode cX2_readProduct 65 = .ok (.iconst 1, 1) := by decide +kernel
theorem dX2_readProduct_66 : decode cX2_readProduct 66 = .ok (.ireturn, 1) := by decide +kernel
theorem dX2_isOfProducts_0 : decode cX2_isOfProducts 0 = .ok (.iload_n 0, 1) := by decide +kernel
theorem dX2_isOfProducts_1 : decode cX2_isOfProducts 1 = .ok (.bipush 42, 2) := by decide +kernel
theorem dX2_isOfProducts_3 : decode cX2_isOfProducts 3 = .ok (.if_icmp .eq 15, 3) := by decide +kernel
theorem dX2_isOfProducts_6 : decode cX2_isOfProducts 6 = .ok (.iload_n 0, 1) := by decide +kernel
theorem dX2_isOfProducts_7 : decode cX2_isOfProducts 7 = .ok (.bipush 47, 2) := by decide +kernel
theorem dX2_isOfProducts_9 : decode cX2_isOfProducts 9 = .ok (.if_icmp .eq 9, 3) := by decide +kernel
theorem dX2_isOfProducts_12 : decode cX2_isOfProducts 12 = .ok (.iload_n 0, 1) := by decide +kernel
theorem dX2_isOfProducts_13 : decode cX2_isOfProducts 13 = .ok (.bipush 37, 2) := by decide +kernel
theorem dX2_isOfProducts_15 : decode cX2_isOfProducts 15 = .ok (.if_icmp .ne 7, 3) := by decide +kernel
theorem dX2_isOfProducts_18 : decode cX2_isOfProducts 18 = .ok (.iconst 1, 1) := by decide +kernel
theorem dX2_isOfProducts_19 : decode cX2_isOfProducts 19 = .ok (.goto 4, 3) := by decide +kernel
theorem dX2_isOfProducts_22 : decode cX2_isOfProducts 22 = .ok (.iconst 0, 1) := by decide +kernel
theorem dX2_isOfProducts_23 : decode cX2_isOfProducts 23 = .ok (.ireturn, 1) := by decide +kernel
theorem dX2_readOne_0 : decode cX2_readOne 0 = .ok (.aload_n 0, 1) := by decide +kernel
theorem dX2_readOne_1 : decode cX2_readOne 1 = .ok (.invokevirtual 60, 3) := by decide +kernel
theorem dX2_readOne_4 : decode cX2_readOne 4 = .ok (.istore_n 2, 1) := by decide +kernel
theorem dX2_readOne_5 : decode cX2_readOne 5 = .ok (.iload_n 2, 1) := by decide +kernel
theorem dX2_readOne_6 : decode cX2_readOne 6 = .ok (.bipush 33, 2) := by decide +kernel
theorem dX2_readOne_8 : decode cX2_readOne 8 = .ok (.if_icmp .eq 9, 3) := by decide +kernel
theorem dX2_readOne_11 : decode cX2_readOne 11 = .ok (.iload_n 2, 1) := by decide +kernel
theorem dX2_readOne_12 : decode cX2_readOne 12 = .ok (.bipush 40, 2) := by decide +kernel
theorem dX2_readOne_14 : decode cX2_readOne 14 = .ok (.if_icmp .ne 44, 3) := by decide +kernel
theorem dX2_readOne_17 : decode cX2_readOne 17 = .ok (.iload_n 1, 1) := by decide +kernel
theorem dX2_readOne_18 : decode cX2_readOne 18 = .ok (.iconst 5, 1) := by decide +kernel
theorem dX2_readOne_19 : decode cX2_readOne 19 = .ok (.if_icmp .lt 5, 3) := by decide +kernel
theorem dX2_readOne_22 : decode cX2_readOne 22 = .ok (.iconst 0, 1) := by decide +kernel
theorem dX2_readOne_23 : decode cX2_readOne 23 = .ok (.ireturn, 1) := by decide +kernel
theorem dX2_readOne_24 : decode cX2_readOne 24 = .ok (.aload_n 0, 1) := by decide +kernel
theorem dX2_readOne_25 : decode cX2_readOne 25 = .ok (.dup, 1) := by decide +kernel
theorem dX2_readOne_26 : decode cX2_readOne 26 = .ok (.getfield 19, 3) := by decide +kernel
theorem dX2_readOne_29 : decode cX2_readOne 29 = .ok (.iconst 1, 1) := by decide +kernel
theorem dX2_readOne_30 : decode cX2_readOne 30 = .ok (.iadd, 1) := by decide +kernel
theorem dX2_readOne_31 : decode cX2_readOne 31 = .ok (.putfield 19, 3) := by decide +kernel
theorem dX2_readOne_34 : decode cX2_readOne 34 = .ok (.iload_n 2, 1) := by decide +kernel
theorem dX2_readOne_35 : decode cX2_readOne 35 = .ok (.bipush 33, 2) := by decide +kernel
theorem dX2_readOne_37 : decode cX2_readOne 37 = .ok (.if_icmp .ne 13, 3) := by decide +kernel
theorem dX2_readOne_40 : decode cX2_readOne 40 = .ok (.aload_n 0, 1) := by decide +kernel
theorem dX2_readOne_41 : decode cX2_readOne 41 = .ok (.iload_n 1, 1) := by decide +kernel
theorem dX2_readOne_42 : decode cX2_readOne 42 = .ok (.iconst 1, 1) := by decide +kernel
theorem dX2_readOne_43 : decode cX2_readOne 43 = .ok (.iadd, 1) := by decide +kernel
theorem dX2_readOne_44 : decode cX2_readOne 44 = .ok (.invokevirtual 84, 3) := by decide +kernel
theorem dX2_readOne_47 : decode cX2_readOne 47 = .ok (.goto 10, 3) := by decide +kernel
theorem dX2_readOne_50 : decode cX2_readOne 50 = .ok (.aload_n 0, 1) := by decide +kernel
theorem dX2_readOne_51 : decode cX2_readOne 51 = .ok (.iload_n 1, 1) := by decide +kernel
theorem dX2_readOne_52 : decode cX2_readOne 52 = .ok (.iconst 1, 1) := by decide +kernel
theorem dX2_readOne_53 : decode cX2_readOne 53 = .ok (.iadd, 1) := by decide +kernel
theorem dX2_readOne_54 : decode cX2_readOne 54 = .ok (.invokevirtual 87, 3) := by decide +kernel
theorem dX2_readOne_57 : decode cX2_readOne 57 = .ok (.ireturn, 1) := by decide +kernel
theorem dX2_readOne_58 : decode cX2_readOne 58 = .ok (.iload_n 2, 1) := by decide +kernel
theorem dX2_readOne_59 : decode cX2_readOne 59 = .ok (.invokestatic 90, 3) := by decide +kernel
theorem dX2_readOne_62 : decode cX2_readOne 62 = .ok (.ifCond .eq 9, 3) := by decide +kernel
theorem dX2_readOne_65 : decode cX2_readOne 65 = .ok (.aload_n 0, 1) := by decide +kernel
theorem dX2_readOne_66 : decode cX2_readOne 66 = .ok (.invokevirtual 93, 3) := by decide +kernel
theorem dX2_readOne_69 : decode cX2_readOne 69 = .ok (.iconst 1, 1) := by decide +kernel
theorem dX2_readOne_70 : decode cX2_readOne 70 = .ok (.ireturn, 1) := by decide +kernel
theorem dX2_readOne_71 : decode cX2_readOne 71 = .ok (.aload_n 0, 1) := by decide +kernel
theorem dX2_readOne_72 : decode cX2_readOne 72 = .ok (.getfield 31, 3) := by decide +kernel
theorem dX2_readOne_75 : decode cX2_readOne 75 = .ok (.iload_n 2, 1) := by decide +kernel
theorem dX2_readOne_76 : decode cX2_readOne 76 = .ok (.invokevirtual 96, 3) := by decide +kernel
theorem dX2_readOne_79 : decode cX2_readOne 79 = .ok (.istore_n 3, 1) := by decide +kernel
theorem dX2_readOne_80 : decode cX2_readOne 80 = .ok (.iload_n 3, 1) := by decide +kernel
theorem dX2_readOne_81 : decode cX2_readOne 81 = .ok (.ifCond .ge 5, 3) := by decide +kernel
theorem dX2_readOne_84 : decode cX2_readOne 84 = .ok (.iconst 0, 1) := by decide +kernel
theorem dX2_readOne_85 : decode cX2_readOne 85 = .ok (.ireturn, 1) := by decide +kernel
theorem dX2_readOne_86 : decode cX2_readOne 86 = .ok (.aload_n 0, 1) := by decide +kernel
theorem dX2_readOne_87 : decode cX2_readOne 87 = .ok (.dup, 1) := by decide +kernel
theorem dX2_readOne_88 : decode cX2_readOne 88 = .ok (.getfield 19, 3) := by decide +kernel
theorem dX2_readOne_91 : decode cX2_readOne 91 = .ok (.iconst 1, 1) := by decide +kernel
theorem dX2_readOne_92 : decode cX2_readOne 92 = .ok (.iadd, 1) := by decide +kernel
theorem dX2_readOne_93 : decode cX2_readOne 93 = .ok (.putfield 19, 3) := by decide +kernel
theorem dX2_readOne_96 : decode cX2_readOne 96 = .ok (.aload_n 0, 1) := by decide +kernel
theorem dX2_readOne_97 : decode cX2_readOne 97 = .ok (.iconst (-1), 1) := by decide +kernel
theorem dX2_readOne_98 : decode cX2_readOne 98 = .ok (.iload_n 3, 1) := by decide +kernel
theorem dX2_readOne_99 : decode cX2_readOne 99 = .ok (.isub, 1) := by decide +kernel
theorem dX2_readOne_100 : decode cX2_readOne 100 = .ok (.invokevirtual 64, 3) := by decide +kernel
theorem dX2_readOne_103 : decode cX2_readOne 103 = .ok (.iconst 1, 1) := by decide +kernel
theorem dX2_readOne_104 : decode cX2_readOne 104 = .ok (.ireturn, 1) := by decide +kernel
theorem dX2_readNot_0 : decode cX2_readNot 0 = .ok (.aload_n 0, 1) := by decide +kernel
theorem dX2_readNot_1 : decode cX2_readNot 1 = .ok (.iload_n 1, 1) := by decide +kernel
theorem dX2_readNot_2 : decode cX2_readNot 2 = .ok (.invokevirtual 77, 3) := by decide +kernel
theorem dX2_readNot_5 : decode cX2_readNot 5 = .ok (.ifCond .ne 5, 3) := by decide +kernel
theorem dX2_readNot_8 : decode cX2_readNot 8 = .ok (.iconst 0, 1) := by decide +kernel
theorem dX2_readNot_9 : decode cX2_readNot 9 = .ok (.ireturn, 1) := by decide +kernel
theorem dX2_readNot_10 : decode cX2_readNot 10 = .ok (.aload_n 0, 1) := by decide +kernel
theorem dX2_readNot_11 : decode cX2_readNot 11 = .ok (.bipush (-33), 2) := by decide +kernel
theorem dX2_readNot_13 : decode cX2_readNot 13 = .ok (.invokevirtual 64, 3) := by decide +kernel
theorem dX2_readNot_16 : decode cX2_readNot 16 = .ok (.iconst 1, 1) := by decide +kernel
theorem dX2_readNot_17 : decode cX2_readNot 17 = .ok (.ireturn, 1) := by decide +kernel
theorem dX2_readWithin_0 : decode cX2_readWithin 0 = .ok (.aload_n 0, 1) := by decide +kernel
theorem dX2_readWithin_1 : decode cX2_readWithin 1 = .ok (.iload_n 1, 1) := by decide +kernel
theorem dX2_readWithin_2 : decode cX2_readWithin 2 = .ok (.invokevirtual 53, 3) := by decide +kernel
theorem dX2_readWithin_5 : decode cX2_readWithin 5 = .ok (.ifCond .eq 12, 3) := by decide +kernel
theorem dX2_readWithin_8 : decode cX2_readWithin 8 = .ok (.aload_n 0, 1) := by decide +kernel
theorem dX2_readWithin_9 : decode cX2_readWithin 9 = .ok (.invokevirtual 60, 3) := by decide +kernel
theorem dX2_readWithin_12 : decode cX2_readWithin 12 = .ok (.bipush 41, 2) := by decide +kernel
theorem dX2_readWithin_14 : decode cX2_readWithin 14 = .ok (.if_icmp .eq 5, 3) := by decide +kernel
theorem dX2_readWithin_17 : decode cX2_readWithin 17 = .ok (.iconst 0, 1) := by decide +kernel
theorem dX2_readWithin_18 : decode cX2_readWithin 18 = .ok (.ireturn, 1) := by decide +kernel
theorem dX2_readWithin_19 : decode cX2_readWithin 19 = .ok (.aload_n 0, 1) := by decide +kernel
theorem dX2_readWithin_20 : decode cX2_readWithin 20 = .ok (.dup, 1) := by decide +kernel
theorem dX2_readWithin_21 : decode cX2_readWithin 21 = .ok (.getfield 19, 3) := by decide +kernel
theorem dX2_readWithin_24 : decode cX2_readWithin 24 = .ok (.iconst 1, 1) := by decide +kernel
theorem dX2_readWithin_25 : decode cX2_readWithin 25 = .ok (.iadd, 1) := by decide +kernel
theorem dX2_readWithin_26 : decode cX2_readWithin 26 = .ok (.putfield 19, 3) := by decide +kernel
theorem dX2_readWithin_29 : decode cX2_readWithin 29 = .ok (.iconst 1, 1) := by decide +kernel
theorem dX2_readWithin_30 : decode cX2_readWithin 30 = .ok (.ireturn, 1) := by decide +kernel
theorem dX2_readNumber_0 : decode cX2_readNumber 0 = .ok (.iconst 0, 1) := by decide +kernel
theorem dX2_readNumber_1 : decode cX2_readNumber 1 = .ok (.istore_n 1, 1) := by decide +kernel
theorem dX2_readNumber_2 : decode cX2_readNumber 2 = .ok (.iconst 0, 1) := by decide +kernel
theorem dX2_readNumber_3 : decode cX2_readNumber 3 = .ok (.istore_n 2, 1) := by decide +kernel
theorem dX2_readNumber_4 : decode cX2_readNumber 4 = .ok (.iload_n 2, 1) := by decide +kernel
theorem dX2_readNumber_5 : decode cX2_readNumber 5 = .ok (.iconst 4, 1) := by decide +kernel
theorem dX2_readNumber_6 : decode cX2_readNumber 6 = .ok (.if_icmp .ge 42, 3) := by decide +kernel
theorem dX2_readNumber_9 : decode cX2_readNumber 9 = .ok (.aload_n 0, 1) := by decide +kernel
theorem dX2_readNumber_10 : decode cX2_readNumber 10 = .ok (.invokevirtual 60, 3) := by decide +kernel
theorem dX2_readNumber_13 : decode cX2_readNumber 13 = .ok (.invokestatic 90, 3) := by decide +kernel
theorem dX2_readNumber_16 : decode cX2_readNumber 16 = .ok (.ifCond .eq 32, 3) := by decide +kernel
theorem dX2_readNumber_19 : decode cX2_readNumber 19 = .ok (.iload_n 1, 1) := by decide +kernel
theorem dX2_readNumber_20 : decode cX2_readNumber 20 = .ok (.bipush 10, 2) := by decide +kernel
theorem dX2_readNumber_22 : decode cX2_readNumber 22 = .ok (.imul, 1) := by decide +kernel
theorem dX2_readNumber_23 : decode cX2_readNumber 23 = .ok (.aload_n 0, 1) := by decide +kernel
theorem dX2_readNumber_24 : decode cX2_readNumber 24 = .ok (.invokevirtual 60, 3) := by decide +kernel
theorem dX2_readNumber_27 : decode cX2_readNumber 27 = .ok (.bipush 48, 2) := by decide +kernel
theorem dX2_readNumber_29 : decode cX2_readNumber 29 = .ok (.isub, 1) := by decide +kernel
theorem dX2_readNumber_30 : decode cX2_readNumber 30 = .ok (.iadd, 1) := by decide +kernel
theorem dX2_readNumber_31 : decode cX2_readNumber 31 = .ok (.istore_n 1, 1) := by decide +kernel
theorem dX2_readNumber_32 : decode cX2_readNumber 32 = .ok (.aload_n 0, 1) := by decide +kernel
theorem dX2_readNumber_33 : decode cX2_readNumber 33 = .ok (.dup, 1) := by decide +kernel
theorem dX2_readNumber_34 : decode cX2_readNumber 34 = .ok (.getfield 19, 3) := by decide +kernel
theorem dX2_readNumber_37 : decode cX2_readNumber 37 = .ok (.iconst 1, 1) := by decide +kernel
theorem dX2_readNumber_38 : decode cX2_readNumber 38 = .ok (.iadd, 1) := by decide +kernel
theorem dX2_readNumber_39 : decode cX2_readNumber 39 = .ok (.putfield 19, 3) := by decide +kernel
theorem dX2_readNumber_42 : decode cX2_readNumber 42 = .ok (.iinc 2 1, 3) := by decide +kernel
theorem dX2_readNumber_45 : decode cX2_readNumber 45 = .ok (.goto (-41), 3) := by decide +kernel
theorem dX2_readNumber_48 : decode cX2_readNumber 48 = .ok (.aload_n 0, 1) := by decide +kernel
theorem dX2_readNumber_49 : decode cX2_readNumber 49 = .ok (.iload_n 1, 1) := by decide +kernel
theorem dX2_readNumber_50 : decode cX2_readNumber 50 = .ok (.invokevirtual 64, 3) := by decide +kernel
theorem dX2_readNumber_53 : decode cX2_readNumber 53 = .ok (.return_, 1) := by decide +kernel
theorem dX2_isDigit_0 : decode cX2_isDigit 0 = .ok (.iload_n 0, 1) := by decide +kernel
theorem dX2_isDigit_1 : decode cX2_isDigit 1 = .ok (.bipush 48, 2) := by decide +kernel
theorem dX2_isDigit_3 : decode cX2_isDigit 3 = .ok (.if_icmp .lt 13, 3) := by decide +kernel
theorem dX2_isDigit_6 : decode cX2_isDigit 6 = .ok (.iload_n 0, 1) := by decide +kernel
theorem dX2_isDigit_7 : decode cX2_isDigit 7 = .ok (.bipush 57, 2) := by decide +kernel
theorem dX2_isDigit_9 : decode cX2_isDigit 9 = .ok (.if_icmp .gt 7, 3) := by decide +kernel
theorem dX2_isDigit_12 : decode cX2_isDigit 12 = .ok (.iconst 1, 1) := by decide +kernel
theorem dX2_isDigit_13 : decode cX2_isDigit 13 = .ok (.goto 4, 3) := by decide +kernel
theorem dX2_isDigit_16 : decode cX2_isDigit 16 = .ok (.iconst 0, 1) := by decide +kernel
theorem dX2_isDigit_17 : decode cX2_isDigit 17 = .ok (.ireturn, 1) := by decide +kernel
theorem dX3_init_0 : decode cX3_init 0 = .ok (.aload_n 0, 1) := by decide +kernel
theorem dX3_init_1 : decode cX3_init 1 = .ok (.invokespecial 3, 3) := by decide +kernel
theorem dX3_init_4 : decode cX3_init 4 = .ok (.aload_n 0, 1) := by decide +kernel
theorem dX3_init_5 : decode cX3_init 5 = .ok (.iconst 0, 1) := by decide +kernel
theorem dX3_init_6 : decode cX3_init 6 = .ok (.putfield 9, 3) := by decide +kernel
theorem dX3_init_9 : decode cX3_init 9 = .ok (.aload_n 0, 1) := by decide +kernel
theorem dX3_init_10 : decode cX3_init 10 = .ok (.iconst 0, 1) := by decide +kernel
theorem dX3_init_11 : decode cX3_init 11 = .ok (.putfield 15, 3) := by decide +kernel
theorem dX3_init_14 : decode cX3_init 14 = .ok (.aload_n 0, 1) := by decide +kernel
theorem dX3_init_15 : decode cX3_init 15 = .ok (.bipush 24, 2) := by decide +kernel
theorem dX3_init_17 : decode cX3_init 17 = .ok (.newarray .int, 2) := by decide +kernel
theorem dX3_init_19 : decode cX3_init 19 = .ok (.putfield 18, 3) := by decide +kernel
theorem dX3_init_22 : decode cX3_init 22 = .ok (.return_, 1) := by decide +kernel
theorem dX3_isMissing_0 : decode cX3_isMissing 0 = .ok (.aload_n 0, 1) := by decide +kernel
theorem dX3_isMissing_1 : decode cX3_isMissing 1 = .ok (.getfield 9, 3) := by decide +kernel
theorem dX3_isMissing_4 : decode cX3_isMissing 4 = .ok (.ifCond .ne 7, 3) := by decide +kernel
theorem dX3_isMissing_7 : decode cX3_isMissing 7 = .ok (.iconst 1, 1) := by decide +kernel
theorem dX3_isMissing_8 : decode cX3_isMissing 8 = .ok (.goto 4, 3) := by decide +kernel
theorem dX3_isMissing_11 : decode cX3_isMissing 11 = .ok (.iconst 0, 1) := by decide +kernel
theorem dX3_isMissing_12 : decode cX3_isMissing 12 = .ok (.ireturn, 1) := by decide +kernel
theorem dX3_renew_0 : decode cX3_renew 0 = .ok (.aload_n 0, 1) := by decide +kernel
theorem dX3_renew_1 : decode cX3_renew 1 = .ok (.iload_n 1, 1) := by decide +kernel
theorem dX3_renew_2 : decode cX3_renew 2 = .ok (.putfield 9, 3) := by decide +kernel
theorem dX3_renew_5 : decode cX3_renew 5 = .ok (.aload_n 0, 1) := by decide +kernel
theorem dX3_renew_6 : decode cX3_renew 6 = .ok (.iload_n 2, 1) := by decide +kernel
theorem dX3_renew_7 : decode cX3_renew 7 = .ok (.putfield 15, 3) := by decide +kernel
theorem dX3_renew_10 : decode cX3_renew 10 = .ok (.iconst 0, 1) := by decide +kernel
theorem dX3_renew_11 : decode cX3_renew 11 = .ok (.istore_n 3, 1) := by decide +kernel
theorem dX3_renew_12 : decode cX3_renew 12 = .ok (.iload_n 3, 1) := by decide +kernel
theorem dX3_renew_13 : decode cX3_renew 13 = .ok (.bipush 24, 2) := by decide +kernel
theorem dX3_renew_15 : decode cX3_renew 15 = .ok (.if_icmp .ge 16, 3) := by decide +kernel
theorem dX3_renew_18 : decode cX3_renew 18 = .ok (.aload_n 0, 1) := by decide +kernel
theorem dX3_renew_19 : decode cX3_renew 19 = .ok (.getfield 18, 3) := by decide +kernel
theorem dX3_renew_22 : decode cX3_renew 22 = .ok (.iload_n 3, 1) := by decide +kernel
theorem dX3_renew_23 : decode cX3_renew 23 = .ok (.iconst 0, 1) := by decide +kernel
theorem dX3_renew_24 : decode cX3_renew 24 = .ok (.iastore, 1) := by decide +kernel
theorem dX3_renew_25 : decode cX3_renew 25 = .ok (.iinc 3 1, 3) := by decide +kernel
theorem dX3_renew_28 : decode cX3_renew 28 = .ok (.goto (-16), 3) := by decide +kernel
theorem dX3_renew_31 : decode cX3_renew 31 = .ok (.return_, 1) := by decide +kernel
theorem dX3_write_0 : decode cX3_write 0 = .ok (.aload_n 0, 1) := by decide +kernel
theorem dX3_write_1 : decode cX3_write 1 = .ok (.getfield 18, 3) := by decide +kernel
theorem dX3_write_4 : decode cX3_write 4 = .ok (.iload_n 1, 1) := by decide +kernel
theorem dX3_write_5 : decode cX3_write 5 = .ok (.aload_n 0, 1) := by decide +kernel
theorem dX3_write_6 : decode cX3_write 6 = .ok (.getfield 9, 3) := by decide +kernel
theorem dX3_write_9 : decode cX3_write 9 = .ok (.bipush 8, 2) := by decide +kernel
theorem dX3_write_11 : decode cX3_write 11 = .ok (.if_icmp .ne 8, 3) := by decide +kernel
theorem dX3_write_14 : decode cX3_write 14 = .ok (.iload_n 2, 1) := by decide +kernel
theorem dX3_write_15 : decode cX3_write 15 = .ok (.i2b, 1) := by decide +kernel
theorem dX3_write_16 : decode cX3_write 16 = .ok (.goto 18, 3) := by decide +kernel
theorem dX3_write_19 : decode cX3_write 19 = .ok (.aload_n 0, 1) := by decide +kernel
theorem dX3_write_20 : decode cX3_write 20 = .ok (.getfield 9, 3) := by decide +kernel
theorem dX3_write_23 : decode cX3_write 23 = .ok (.bipush 16, 2) := by decide +kernel
theorem dX3_write_25 : decode cX3_write 25 = .ok (.if_icmp .ne 8, 3) := by decide +kernel
theorem dX3_write_28 : decode cX3_write 28 = .ok (.iload_n 2, 1) := by decide +kernel
theorem dX3_write_29 : decode cX3_write 29 = .ok (.i2s, 1) := by decide +kernel
theorem dX3_write_30 : decode cX3_write 30 = .ok (.goto 4, 3) := by decide +kernel
theorem dX3_write_33 : decode cX3_write 33 = .ok (.iload_n 2, 1) := by decide +kernel
theorem dX3_write_34 : decode cX3_write 34 = .ok (.iastore, 1) := by decide +kernel
theorem dX3_write_35 : decode cX3_write 35 = .ok (.return_, 1) := by decide +kernel
theorem dX3_hasRow_0 : decode cX3_hasRow 0 = .ok (.iload_n 1, 1) := by decide +kernel
theorem dX3_hasRow_1 : decode cX3_hasRow 1 = .ok (.ifCond .lt 29, 3) := by decide +kernel
theorem dX3_hasRow_4 : decode cX3_hasRow 4 = .ok (.iload_n 2, 1) := by decide +kernel
theorem dX3_hasRow_5 : decode cX3_hasRow 5 = .ok (.ifCond .lt 25, 3) := by decide +kernel
theorem dX3_hasRow_8 : decode cX3_hasRow 8 = .ok (.iload_n 2, 1) := by decide +kernel
theorem dX3_hasRow_9 : decode cX3_hasRow 9 = .ok (.aload_n 0, 1) := by decide +kernel
theorem dX3_hasRow_10 : decode cX3_hasRow 10 = .ok (.getfield 15, 3) := by decide +kernel
theorem dX3_hasRow_13 : decode cX3_hasRow 13 = .ok (.if_icmp .gt 17, 3) := by decide +kernel
theorem dX3_hasRow_16 : decode cX3_hasRow 16 = .ok (.iload_n 1, 1) := by decide +kernel
theorem dX3_hasRow_17 : decode cX3_hasRow 17 = .ok (.aload_n 0, 1) := by decide +kernel
theorem dX3_hasRow_18 : decode cX3_hasRow 18 = .ok (.getfield 15, 3) := by decide +kernel
theorem dX3_hasRow_21 : decode cX3_hasRow 21 = .ok (.iload_n 2, 1) := by decide +kernel
theorem dX3_hasRow_22 : decode cX3_hasRow 22 = .ok (.isub, 1) := by decide +kernel
theorem dX3_hasRow_23 : decode cX3_hasRow 23 = .ok (.if_icmp .gt 7, 3) := by decide +kernel
theorem dX3_hasRow_26 : decode cX3_hasRow 26 = .ok (.iconst 1, 1) := by decide +kernel
theorem dX3_hasRow_27 : decode cX3_hasRow 27 = .ok (.goto 4, 3) := by decide +kernel
theorem dX3_hasRow_30 : decode cX3_hasRow 30 = .ok (.iconst 0, 1) := by decide +kernel
theorem dX3_hasRow_31 : decode cX3_hasRow 31 = .ok (.ireturn, 1) := by decide +kernel
theorem dX4_init_0 : decode cX4_init 0 = .ok (.aload_n 0, 1) := by decide +kernel
theorem dX4_init_1 : decode cX4_init 1 = .ok (.invokespecial 3, 3) := by decide +kernel
theorem dX4_init_4 : decode cX4_init 4 = .ok (.aload_n 0, 1) := by decide +kernel
theorem dX4_init_5 : decode cX4_init 5 = .ok (.iconst 0, 1) := by decide +kernel
theorem dX4_init_6 : decode cX4_init 6 = .ok (.putfield 9, 3) := by decide +kernel
theorem dX4_init_9 : decode cX4_init 9 = .ok (.aload_n 0, 1) := by decide +kernel
theorem dX4_init_10 : decode cX4_init 10 = .ok (.iconst 0, 1) := by decide +kernel
theorem dX4_init_11 : decode cX4_init 11 = .ok (.putfield 15, 3) := by decide +kernel
theorem dX4_init_14 : decode cX4_init 14 = .ok (.aload_n 0, 1) := by decide +kernel
theorem dX4_init_15 : decode cX4_init 15 = .ok (.iconst 0, 1) := by decide +kernel
theorem dX4_init_16 : decode cX4_init 16 = .ok (.putfield 18, 3) := by decide +kernel
theorem dX4_init_19 : decode cX4_init 19 = .ok (.aload_n 0, 1) := by decide +kernel
theorem dX4_init_20 : decode cX4_init 20 = .ok (.iconst 0, 1) := by decide +kernel
theorem dX4_init_21 : decode cX4_init 21 = .ok (.putfield 21, 3) := by decide +kernel
theorem dX4_init_24 : decode cX4_init 24 = .ok (.aload_n 0, 1) := by decide +kernel
theorem dX4_init_25 : decode cX4_init 25 = .ok (.iconst 0, 1) := by decide +kernel
theorem dX4_init_26 : decode cX4_init 26 = .ok (.putfield 24, 3) := by decide +kernel
theorem dX4_init_29 : decode cX4_init 29 = .ok (.aload_n 0, 1) := by decide +kernel
theorem dX4_init_30 : decode cX4_init 30 = .ok (.iconst 0, 1) := by decide +kernel
theorem dX4_init_31 : decode cX4_init 31 = .ok (.putfield 27, 3) := by decide +kernel
theorem dX4_init_34 : decode cX4_init 34 = .ok (.aload_n 0, 1) := by decide +kernel
theorem dX4_init_35 : decode cX4_init 35 = .ok (.iconst 0, 1) := by decide +kernel
theorem dX4_init_36 : decode cX4_init 36 = .ok (.putfield 30, 3) := by decide +kernel
theorem dX4_init_39 : decode cX4_init 39 = .ok (.return_, 1) := by decide +kernel
theorem dX4_takeFrom_0 : decode cX4_takeFrom 0 = .ok (.aload_n 0, 1) := by decide +kernel
theorem dX4_takeFrom_1 : decode cX4_takeFrom 1 = .ok (.aload_n 1, 1) := by decide +kernel
theorem dX4_takeFrom_2 : decode cX4_takeFrom 2 = .ok (.getfield 9, 3) := by decide +kernel
theorem dX4_takeFrom_5 : decode cX4_takeFrom 5 = .ok (.putfield 9, 3) := by decide +kernel
theorem dX4_takeFrom_8 : decode cX4_takeFrom 8 = .ok (.aload_n 0, 1) := by decide +kernel
theorem dX4_takeFrom_9 : decode cX4_takeFrom 9 = .ok (.aload_n 1, 1) := by decide +kernel
theorem dX4_takeFrom_10 : decode cX4_takeFrom 10 = .ok (.getfield 15, 3) := by decide +kernel
theorem dX4_takeFrom_13 : decode cX4_takeFrom 13 = .ok (.putfield 15, 3) := by decide +kernel
theorem dX4_takeFrom_16 : decode cX4_takeFrom 16 = .ok (.aload_n 0, 1) := by decide +kernel
theorem dX4_takeFrom_17 : decode cX4_takeFrom 17 = .ok (.aload_n 1, 1) := by decide +kernel
theorem dX4_takeFrom_18 : decode cX4_takeFrom 18 = .ok (.getfield 18, 3) := by decide +kernel
theorem dX4_takeFrom_21 : decode cX4_takeFrom 21 = .ok (.putfield 18, 3) := by decide +kernel
theorem dX4_takeFrom_24 : decode cX4_takeFrom 24 = .ok (.aload_n 0, 1) := by decide +kernel
theorem dX4_takeFrom_25 : decode cX4_takeFrom 25 = .ok (.aload_n 1, 1) := by decide +kernel
theorem dX4_takeFrom_26 : decode cX4_takeFrom 26 = .ok (.getfield 21, 3) := by decide +kernel
theorem dX4_takeFrom_29 : decode cX4_takeFrom 29 = .ok (.putfield 21, 3) := by decide +kernel
theorem dX4_takeFrom_32 : decode cX4_takeFrom 32 = .ok (.aload_n 0, 1) := by decide +kernel
theorem dX4_takeFrom_33 : decode cX4_takeFrom 33 = .ok (.aload_n 1, 1) := by decide +kernel
theorem dX4_takeFrom_34 : decode cX4_takeFrom 34 = .ok (.getfield 24, 3) := by decide +kernel
theorem dX4_takeFrom_37 : decode cX4_takeFrom 37 = .ok (.putfield 24, 3) := by decide +kernel
theorem dX4_takeFrom_40 : decode cX4_takeFrom 40 = .ok (.aload_n 0, 1) := by decide +kernel
theorem dX4_takeFrom_41 : decode cX4_takeFrom 41 = .ok (.aload_n 1, 1) := by decide +kernel
theorem dX4_takeFrom_42 : decode cX4_takeFrom 42 = .ok (.getfield 27, 3) := by decide +kernel
theorem dX4_takeFrom_45 : decode cX4_takeFrom 45 = .ok (.putfield 27, 3) := by decide +kernel
theorem dX4_takeFrom_48 : decode cX4_takeFrom 48 = .ok (.aload_n 0, 1) := by decide +kernel
theorem dX4_takeFrom_49 : decode cX4_takeFrom 49 = .ok (.aload_n 1, 1) := by decide +kernel
theorem dX4_takeFrom_50 : decode cX4_takeFrom 50 = .ok (.getfield 30, 3) := by decide +kernel
theorem dX4_takeFrom_53 : decode cX4_takeFrom 53 = .ok (.putfield 30, 3) := by decide +kernel
theorem dX4_takeFrom_56 : decode cX4_takeFrom 56 = .ok (.return_, 1) := by decide +kernel
theorem dX4_bakeAnew_0 : decode cX4_bakeAnew 0 = .ok (.aload_n 0, 1) := by decide +kernel
theorem dX4_bakeAnew_1 : decode cX4_bakeAnew 1 = .ok (.iconst 0, 1) := by decide +kernel
theorem dX4_bakeAnew_2 : decode cX4_bakeAnew 2 = .ok (.putfield 24, 3) := by decide +kernel
theorem dX4_bakeAnew_5 : decode cX4_bakeAnew 5 = .ok (.aload_n 0, 1) := by decide +kernel
theorem dX4_bakeAnew_6 : decode cX4_bakeAnew 6 = .ok (.iconst 0, 1) := by decide +kernel
theorem dX4_bakeAnew_7 : decode cX4_bakeAnew 7 = .ok (.putfield 27, 3) := by decide +kernel
theorem dX4_bakeAnew_10 : decode cX4_bakeAnew 10 = .ok (.aload_n 0, 1) := by decide +kernel
theorem dX4_bakeAnew_11 : decode cX4_bakeAnew 11 = .ok (.iconst 0, 1) := by decide +kernel
theorem dX4_bakeAnew_12 : decode cX4_bakeAnew 12 = .ok (.putfield 30, 3) := by decide +kernel
theorem dX4_bakeAnew_15 : decode cX4_bakeAnew 15 = .ok (.return_, 1) := by decide +kernel
theorem dX4_bearsOn_0 : decode cX4_bearsOn 0 = .ok (.aload_n 0, 1) := by decide +kernel
theorem dX4_bearsOn_1 : decode cX4_bearsOn 1 = .ok (.getfield 30, 3) := by decide +kernel
theorem dX4_bearsOn_4 : decode cX4_bearsOn 4 = .ok (.ifCond .eq 5, 3) := by decide +kernel
theorem dX4_bearsOn_7 : decode cX4_bearsOn 7 = .ok (.iconst (-1), 1) := by decide +kernel
theorem dX4_bearsOn_8 : decode cX4_bearsOn 8 = .ok (.ireturn, 1) := by decide +kernel
theorem dX4_bearsOn_9 : decode cX4_bearsOn 9 = .ok (.aload_n 0, 1) := by decide +kernel
theorem dX4_bearsOn_10 : decode cX4_bearsOn 10 = .ok (.getfield 9, 3) := by decide +kernel
theorem dX4_bearsOn_13 : decode cX4_bearsOn 13 = .ok (.tableswitch 110 1 6 #[39, 44, 49, 64, 88, 100], 39) := by decide +kernel
theorem dX4_bearsOn_52 : decode cX4_bearsOn 52 = .ok (.aload_n 0, 1) := by decide +kernel
theorem dX4_bearsOn_53 : decode cX4_bearsOn 53 = .ok (.invokevirtual 34, 3) := by decide +kernel
theorem dX4_bearsOn_56 : decode cX4_bearsOn 56 = .ok (.ireturn, 1) := by decide +kernel
theorem dX4_bearsOn_57 : decode cX4_bearsOn 57 = .ok (.aload_n 0, 1) := by decide +kernel
theorem dX4_bearsOn_58 : decode cX4_bearsOn 58 = .ok (.invokevirtual 38, 3) := by decide +kernel
theorem dX4_bearsOn_61 : decode cX4_bearsOn 61 = .ok (.ireturn, 1) := by decide +kernel
theorem dX4_bearsOn_62 : decode cX4_bearsOn 62 = .ok (.bipush 40, 2) := by decide +kernel
theorem dX4_bearsOn_64 : decode cX4_bearsOn 64 = .ok (.bipush 8, 2) := by decide +kernel
theorem dX4_bearsOn_66 : decode cX4_bearsOn 66 = .ok (.iconst 2, 1) := by decide +kernel
theorem dX4_bearsOn_67 : decode cX4_bearsOn 67 = .ok (.aload_n 0, 1) := by decide +kernel
theorem dX4_bearsOn_68 : decode cX4_bearsOn 68 = .ok (.getfield 24, 3) := by decide +kernel
theorem dX4_bearsOn_71 : decode cX4_bearsOn 71 = .ok (.imul, 1) := by decide +kernel
theorem dX4_bearsOn_72 : decode cX4_bearsOn 72 = .ok (.iadd, 1) := by decide +kernel
theorem dX4_bearsOn_73 : decode cX4_bearsOn 73 = .ok (.invokestatic 41, 3) := by decide +kernel
theorem dX4_bearsOn_76 : decode cX4_bearsOn 76 = .ok (.ireturn, 1) := by decide +kernel
theorem dX4_bearsOn_77 : decode cX4_bearsOn 77 = .ok (.aload_n 0, 1) := by decide +kernel
theorem dX4_bearsOn_78 : decode cX4_bearsOn 78 = .ok (.getfield 24, 3) := by decide +kernel
theorem dX4_bearsOn_81 : decode cX4_bearsOn 81 = .ok (.bipush 10, 2) := by decide +kernel
theorem dX4_bearsOn_83 : decode cX4_bearsOn 83 = .ok (.if_icmp .le 13, 3) := by decide +kernel
theorem dX4_bearsOn_86 : decode cX4_bearsOn 86 = .ok (.bipush 60, 2) := by decide +kernel
theorem dX4_bearsOn_88 : decode cX4_bearsOn 88 = .ok (.aload_n 0, 1) := by decide +kernel
theorem dX4_bearsOn_89 : decode cX4_bearsOn 89 = .ok (.getfield 15, 3) := by decide +kernel
theorem dX4_bearsOn_92 : decode cX4_bearsOn 92 = .ok (.iadd, 1) := by decide +kernel
theorem dX4_bearsOn_93 : decode cX4_bearsOn 93 = .ok (.goto 7, 3) := by decide +kernel
theorem dX4_bearsOn_96 : decode cX4_bearsOn 96 = .ok (.aload_n 0, 1) := by decide +kernel
theorem dX4_bearsOn_97 : decode cX4_bearsOn 97 = .ok (.invokevirtual 34, 3) := by decide +kernel
theorem dX4_bearsOn_100 : decode cX4_bearsOn 100 = .ok (.ireturn, 1) := by decide +kernel
theorem dX4_bearsOn_101 : decode cX4_bearsOn 101 = .ok (.aload_n 0, 1) := by decide +kernel
theorem dX4_bearsOn_102 : decode cX4_bearsOn 102 = .ok (.invokevirtual 38, 3) := by decide +kernel
theorem dX4_bearsOn_105 : decode cX4_bearsOn 105 = .ok (.iconst 2, 1) := by decide +kernel
theorem dX4_bearsOn_106 : decode cX4_bearsOn 106 = .ok (.aload_n 0, 1) := by decide +kernel
theorem dX4_bearsOn_107 : decode cX4_bearsOn 107 = .ok (.getfield 27, 3) := by decide +kernel
theorem dX4_bearsOn_110 : decode cX4_bearsOn 110 = .ok (.imul, 1) := by decide +kernel
theorem dX4_bearsOn_111 : decode cX4_bearsOn 111 = .ok (.iadd, 1) := by decide +kernel
theorem dX4_bearsOn_112 : decode cX4_bearsOn 112 = .ok (.ireturn, 1) := by decide +kernel
theorem dX4_bearsOn_113 : decode cX4_bearsOn 113 = .ok (.aload_n 0, 1) := by decide +kernel
theorem dX4_bearsOn_114 : decode cX4_bearsOn 114 = .ok (.invokevirtual 47, 3) := by decide +kernel
theorem dX4_bearsOn_117 : decode cX4_bearsOn 117 = .ok (.iload_n 1, 1) := by decide +kernel
theorem dX4_bearsOn_118 : decode cX4_bearsOn 118 = .ok (.bipush 7, 2) := by decide +kernel
theorem dX4_bearsOn_120 : decode cX4_bearsOn 120 = .ok (.irem, 1) := by decide +kernel
theorem dX4_bearsOn_121 : decode cX4_bearsOn 121 = .ok (.iadd, 1) := by decide +kernel
theorem dX4_bearsOn_122 : decode cX4_bearsOn 122 = .ok (.ireturn, 1) := by decide +kernel
theorem dX4_bearsOn_123 : decode cX4_bearsOn 123 = .ok (.aload_n 0, 1) := by decide +kernel
theorem dX4_bearsOn_124 : decode cX4_bearsOn 124 = .ok (.invokevirtual 47, 3) := by decide +kernel
theorem dX4_bearsOn_127 : decode cX4_bearsOn 127 = .ok (.ireturn, 1) := by decide +kernel
theorem dX4_bearsAsLoaf_0 : decode cX4_bearsAsLoaf 0 = .ok (.iconst 0, 1) := by decide +kernel
theorem dX4_bearsAsLoaf_1 : decode cX4_bearsAsLoaf 1 = .ok (.bipush 20, 2) := by decide +kernel
theorem dX4_bearsAsLoaf_3 : decode cX4_bearsAsLoaf 3 = .ok (.iconst 2, 1) := by decide +kernel
theorem dX4_bearsAsLoaf_4 : decode cX4_bearsAsLoaf 4 = .ok (.aload_n 0, 1) := by decide +kernel
theorem dX4_bearsAsLoaf_5 : decode cX4_bearsAsLoaf 5 = .ok (.getfield 24, 3) := by decide +kernel
theorem dX4_bearsAsLoaf_8 : decode cX4_bearsAsLoaf 8 = .ok (.imul, 1) := by decide +kernel
theorem dX4_bearsAsLoaf_9 : decode cX4_bearsAsLoaf 9 = .ok (.isub, 1) := by decide +kernel
theorem dX4_bearsAsLoaf_10 : decode cX4_bearsAsLoaf 10 = .ok (.iconst 3, 1) := by decide +kernel
theorem dX4_bearsAsLoaf_11 : decode cX4_bearsAsLoaf 11 = .ok (.aload_n 0, 1) := by decide +kernel
theorem dX4_bearsAsLoaf_12 : decode cX4_bearsAsLoaf 12 = .ok (.getfield 27, 3) := by decide +kernel
theorem dX4_bearsAsLoaf_15 : decode cX4_bearsAsLoaf 15 = .ok (.imul, 1) := by decide +kernel
theorem dX4_bearsAsLoaf_16 : decode cX4_bearsAsLoaf 16 = .ok (.isub, 1) := by decide +kernel
theorem dX4_bearsAsLoaf_17 : decode cX4_bearsAsLoaf 17 = .ok (.invokestatic 50, 3) := by decide +kernel
theorem dX4_bearsAsLoaf_20 : decode cX4_bearsAsLoaf 20 = .ok (.aload_n 0, 1) := by decide +kernel
theorem dX4_bearsAsLoaf_21 : decode cX4_bearsAsLoaf 21 = .ok (.getfield 15, 3) := by decide +kernel
theorem dX4_bearsAsLoaf_24 : decode cX4_bearsAsLoaf 24 = .ok (.iadd, 1) := by decide +kernel
theorem dX4_bearsAsLoaf_25 : decode cX4_bearsAsLoaf 25 = .ok (.ireturn, 1) := by decide +kernel
theorem dX4_bearsAsRye_0 : decode cX4_bearsAsRye 0 = .ok (.aload_n 0, 1) := by decide +kernel
theorem dX4_bearsAsRye_1 : decode cX4_bearsAsRye 1 = .ok (.invokevirtual 47, 3) := by decide +kernel
theorem dX4_bearsAsRye_4 : decode cX4_bearsAsRye 4 = .ok (.bipush 10, 2) := by decide +kernel
theorem dX4_bearsAsRye_6 : decode cX4_bearsAsRye 6 = .ok (.iadd, 1) := by decide +kernel
theorem dX4_bearsAsRye_7 : decode cX4_bearsAsRye 7 = .ok (.ireturn, 1) := by decide +kernel
theorem dX4_bearsAsBrioche_0 : decode cX4_bearsAsBrioche 0 = .ok (.iconst 0, 1) := by decide +kernel
theorem dX4_bearsAsBrioche_1 : decode cX4_bearsAsBrioche 1 = .ok (.aload_n 0, 1) := by decide +kernel
theorem dX4_bearsAsBrioche_2 : decode cX4_bearsAsBrioche 2 = .ok (.invokevirtual 47, 3) := by decide +kernel
theorem dX4_bearsAsBrioche_5 : decode cX4_bearsAsBrioche 5 = .ok (.bipush 8, 2) := by decide +kernel
theorem dX4_bearsAsBrioche_7 : decode cX4_bearsAsBrioche 7 = .ok (.isub, 1) := by decide +kernel
theorem dX4_bearsAsBrioche_8 : decode cX4_bearsAsBrioche 8 = .ok (.invokestatic 50, 3) := by decide +kernel
theorem dX4_bearsAsBrioche_11 : decode cX4_bearsAsBrioche 11 = .ok (.ireturn, 1) := by decide +kernel
theorem dX4_takes_0 : decode cX4_takes 0 = .ok (.iconst 5, 1) := by decide +kernel
theorem dX4_takes_1 : decode cX4_takes 1 = .ok (.aload_n 0, 1) := by decide +kernel
theorem dX4_takes_2 : decode cX4_takes 2 = .ok (.getfield 15, 3) := by decide +kernel
theorem dX4_takes_5 : decode cX4_takes 5 = .ok (.iadd, 1) := by decide +kernel
theorem dX4_takes_6 : decode cX4_takes 6 = .ok (.istore_n 1, 1) := by decide +kernel
theorem dX4_takes_7 : decode cX4_takes 7 = .ok (.aload_n 0, 1) := by decide +kernel
theorem dX4_takes_8 : decode cX4_takes 8 = .ok (.getfield 9, 3) := by decide +kernel
theorem dX4_takes_11 : decode cX4_takes 11 = .ok (.tableswitch 64 1 6 #[37, 41, 64, 45, 51, 62], 37) := by decide +kernel
theorem dX4_takes_48 : decode cX4_takes 48 = .ok (.iload_n 1, 1) := by decide +kernel
theorem dX4_takes_49 : decode cX4_takes 49 = .ok (.iconst 3, 1) := by decide +kernel
theorem dX4_takes_50 : decode cX4_takes 50 = .ok (.iadd, 1) := by decide +kernel
theorem dX4_takes_51 : decode cX4_takes 51 = .ok (.ireturn, 1) := by decide +kernel
theorem dX4_takes_52 : decode cX4_takes 52 = .ok (.iconst 2, 1) := by decide +kernel
theorem dX4_takes_53 : decode cX4_takes 53 = .ok (.iload_n 1, 1) := by decide +kernel
theorem dX4_takes_54 : decode cX4_takes 54 = .ok (.imul, 1) := by decide +kernel
theorem dX4_takes_55 : decode cX4_takes 55 = .ok (.ireturn, 1) := by decide +kernel
theorem dX4_takes_56 : decode cX4_takes 56 = .ok (.iload_n 1, 1) := by decide +kernel
theorem dX4_takes_57 : decode cX4_takes 57 = .ok (.iconst 3, 1) := by decide +kernel
theorem dX4_takes_58 : decode cX4_takes 58 = .ok (.iadd, 1) := by decide +kernel
theorem dX4_takes_59 : decode cX4_takes 59 = .ok (.iconst 4, 1) := by decide +kernel
theorem dX4_takes_60 : decode cX4_takes 60 = .ok (.isub, 1) := by decide +kernel
theorem dX4_takes_61 : decode cX4_takes 61 = .ok (.ireturn, 1) := by decide +kernel
theorem dX4_takes_62 : decode cX4_takes 62 = .ok (.iconst 2, 1) := by decide +kernel
theorem dX4_takes_63 : decode cX4_takes 63 = .ok (.iload_n 1, 1) := by decide +kernel
theorem dX4_takes_64 : decode cX4_takes 64 = .ok (.imul, 1) := by decide +kernel
theorem dX4_takes_65 : decode cX4_takes 65 = .ok (.aload_n 0, 1) := by decide +kernel
theorem dX4_takes_66 : decode cX4_takes 66 = .ok (.getfield 24, 3) := by decide +kernel
theorem dX4_takes_69 : decode cX4_takes 69 = .ok (.iconst 3, 1) := by decide +kernel
theorem dX4_takes_70 : decode cX4_takes 70 = .ok (.irem, 1) := by decide +kernel
theorem dX4_takes_71 : decode cX4_takes 71 = .ok (.iadd, 1) := by decide +kernel
theorem dX4_takes_72 : decode cX4_takes 72 = .ok (.ireturn, 1) := by decide +kernel
theorem dX4_takes_73 : decode cX4_takes 73 = .ok (.iconst 0, 1) := by decide +kernel
theorem dX4_takes_74 : decode cX4_takes 74 = .ok (.ireturn, 1) := by decide +kernel
theorem dX4_takes_75 : decode cX4_takes 75 = .ok (.iload_n 1, 1) := by decide +kernel
theorem dX4_takes_76 : decode cX4_takes 76 = .ok (.ireturn, 1) := by decide +kernel
theorem dX4_ends_0 : decode cX4_ends 0 = .ok (.iconst 1, 1) := by decide +kernel
theorem dX4_ends_1 : decode cX4_ends 1 = .ok (.aload_n 0, 1) := by decide +kernel
theorem dX4_ends_2 : decode cX4_ends 2 = .ok (.getfield 18, 3) := by decide +kernel
theorem dX4_ends_5 : decode cX4_ends 5 = .ok (.ishl, 1) := by decide +kernel
theorem dX4_ends_6 : decode cX4_ends 6 = .ok (.iconst 1, 1) := by decide +kernel
theorem dX4_ends_7 : decode cX4_ends 7 = .ok (.aload_n 0, 1) := by decide +kernel
theorem dX4_ends_8 : decode cX4_ends 8 = .ok (.getfield 21, 3) := by decide +kernel
theorem dX4_ends_11 : decode cX4_ends 11 = .ok (.ishl, 1) := by decide +kernel
theorem dX4_ends_12 : decode cX4_ends 12 = .ok (.ior, 1) := by decide +kernel
theorem dX4_ends_13 : decode cX4_ends 13 = .ok (.ireturn, 1) := by decide +kernel
theorem dX5_init_0 : decode cX5_init 0 = .ok (.aload_n 0, 1) := by decide +kernel
theorem dX5_init_1 : decode cX5_init 1 = .ok (.invokespecial 3, 3) := by decide +kernel
theorem dX5_init_4 : decode cX5_init 4 = .ok (.aload_n 0, 1) := by decide +kernel
theorem dX5_init_5 : decode cX5_init 5 = .ok (.bipush 30, 2) := by decide +kernel
theorem dX5_init_7 : decode cX5_init 7 = .ok (.newarray .int, 2) := by decide +kernel
theorem dX5_init_9 : decode cX5_init 9 = .ok (.putfield 9, 3) := by decide +kernel
theorem dX5_init_12 : decode cX5_init 12 = .ok (.aload_n 0, 1) := by decide +kernel
theorem dX5_init_13 : decode cX5_init 13 = .ok (.iconst 0, 1) := by decide +kernel
theorem dX5_init_14 : decode cX5_init 14 = .ok (.putfield 15, 3) := by decide +kernel
theorem dX5_init_17 : decode cX5_init 17 = .ok (.aload_n 0, 1) := by decide +kernel
theorem dX5_init_18 : decode cX5_init 18 = .ok (.iconst 0, 1) := by decide +kernel
theorem dX5_init_19 : decode cX5_init 19 = .ok (.putfield 19, 3) := by decide +kernel
theorem dX5_init_22 : decode cX5_init 22 = .ok (.aload_n 0, 1) := by decide +kernel
theorem dX5_init_23 : decode cX5_init 23 = .ok (.iconst 0, 1) := by decide +kernel
theorem dX5_init_24 : decode cX5_init 24 = .ok (.putfield 23, 3) := by decide +kernel
theorem dX5_init_27 : decode cX5_init 27 = .ok (.aload_n 0, 1) := by decide +kernel
theorem dX5_init_28 : decode cX5_init 28 = .ok (.iconst 0, 1) := by decide +kernel
theorem dX5_init_29 : decode cX5_init 29 = .ok (.putfield 26, 3) := by decide +kernel
theorem dX5_init_32 : decode cX5_init 32 = .ok (.aload_n 0, 1) := by decide +kernel
theorem dX5_init_33 : decode cX5_init 33 = .ok (.iconst 0, 1) := by decide +kernel
theorem dX5_init_34 : decode cX5_init 34 = .ok (.putfield 29, 3) := by decide +kernel
theorem dX5_init_37 : decode cX5_init 37 = .ok (.return_, 1) := by decide +kernel
theorem dX5_speak_0 : decode cX5_speak 0 = .ok (.aload_n 0, 1) := by decide +kernel
theorem dX5_speak_1 : decode cX5_speak 1 = .ok (.aload_n 1, 1) := by decide +kernel
theorem dX5_speak_2 : decode cX5_speak 2 = .ok (.getfield 32, 3) := by decide +kernel
theorem dX5_speak_5 : decode cX5_speak 5 = .ok (.putfield 23, 3) := by decide +kernel
theorem dX5_speak_8 : decode cX5_speak 8 = .ok (.aload_n 0, 1) := by decide +kernel
theorem dX5_speak_9 : decode cX5_speak 9 = .ok (.aload_n 1, 1) := by decide +kernel
theorem dX5_speak_10 : decode cX5_speak 10 = .ok (.getfield 35, 3) := by decide +kernel
theorem dX5_speak_13 : decode cX5_speak 13 = .ok (.putfield 26, 3) := by decide +kernel
theorem dX5_speak_16 : decode cX5_speak 16 = .ok (.aload_n 0, 1) := by decide +kernel
theorem dX5_speak_17 : decode cX5_speak 17 = .ok (.iload_n 2, 1) := by decide +kernel
theorem dX5_speak_18 : decode cX5_speak 18 = .ok (.putfield 29, 3) := by decide +kernel
theorem dX5_speak_21 : decode cX5_speak 21 = .ok (.aload_n 0, 1) := by decide +kernel
theorem dX5_speak_22 : decode cX5_speak 22 = .ok (.iconst 0, 1) := by decide +kernel
theorem dX5_speak_23 : decode cX5_speak 23 = .ok (.putfield 15, 3) := by decide +kernel
theorem dX5_speak_26 : decode cX5_speak 26 = .ok (.aload_n 0, 1) := by decide +kernel
theorem dX5_speak_27 : decode cX5_speak 27 = .ok (.iconst 0, 1) := by decide +kernel
theorem dX5_speak_28 : decode cX5_speak 28 = .ok (.putfield 19, 3) := by decide +kernel
theorem dX5_speak_31 : decode cX5_speak 31 = .ok (.aload_n 0, 1) := by decide +kernel
theorem dX5_speak_32 : decode cX5_speak 32 = .ok (.aload_n 0, 1) := by decide +kernel
theorem dX5_speak_33 : decode cX5_speak 33 = .ok (.getfield 23, 3) := by decide +kernel
theorem dX5_speak_36 : decode cX5_speak 36 = .ok (.iload_n 3, 1) := by decide +kernel
theorem dX5_speak_37 : decode cX5_speak 37 = .ok (.iload 4, 2) := by decide +kernel
theorem dX5_speak_39 : decode cX5_speak 39 = .ok (.iconst 0, 1) := by decide +kernel
theorem dX5_speak_40 : decode cX5_speak 40 = .ok (.invokevirtual 36, 3) := by decide +kernel
theorem dX5_speak_43 : decode cX5_speak 43 = .ok (.ireturn, 1) := by decide +kernel
theorem dX5_say_0 : decode cX5_say 0 = .ok (.iload 4, 2) := by decide +kernel
theorem dX5_say_2 : decode cX5_say 2 = .ok (.bipush 40, 2) := by decide +kernel
theorem dX5_say_4 : decode cX5_say 4 = .ok (.if_icmp .gt 12, 3) := by decide +kernel
theorem dX5_say_7 : decode cX5_say 7 = .ok (.iload_n 2, 1) := by decide +kernel
theorem dX5_say_8 : decode cX5_say 8 = .ok (.iconst 0, 1) := by decide +kernel
theorem dX5_say_9 : decode cX5_say 9 = .ok (.iconst 3, 1) := by decide +kernel
theorem dX5_say_10 : decode cX5_say 10 = .ok (.invokestatic 40, 3) := by decide +kernel
theorem dX5_say_13 : decode cX5_say 13 = .ok (.ifCond .ne 5, 3) := by decide +kernel
theorem dX5_say_16 : decode cX5_say 16 = .ok (.iconst 0, 1) := by decide +kernel
theorem dX5_say_17 : decode cX5_say 17 = .ok (.ireturn, 1) := by decide +kernel
theorem dX5_say_18 : decode cX5_say 18 = .ok (.iload_n 1, 1) := by decide +kernel
theorem dX5_say_19 : decode cX5_say 19 = .ok (.istore 5, 2) := by decide +kernel
theorem dX5_say_21 : decode cX5_say 21 = .ok (.iconst 0, 1) := by decide +kernel
theorem dX5_say_22 : decode cX5_say 22 = .ok (.istore 6, 2) := by decide +kernel
theorem dX5_say_24 : decode cX5_say 24 = .ok (.iload 6, 2) := by decide +kernel
theorem dX5_say_26 : decode cX5_say 26 = .ok (.bipush 6, 2) := by decide +kernel
theorem dX5_say_28 : decode cX5_say 28 = .ok (.if_icmp .gt 61, 3) := by decide +kernel
theorem dX5_say_31 : decode cX5_say 31 = .ok (.iload 5, 2) := by decide +kernel
theorem dX5_say_33 : decode cX5_say 33 = .ok (.iconst 0, 1) := by decide +kernel
theorem dX5_say_34 : decode cX5_say 34 = .ok (.bipush 6, 2) := by decide +kernel
theorem dX5_say_36 : decode cX5_say 36 = .ok (.invokestatic 40, 3) := by decide +kernel
theorem dX5_say_39 : decode cX5_say 39 = .ok (.ifCond .eq 50, 3) := by decide +kernel
theorem dX5_say_42 : decode cX5_say 42 = .ok (.getstatic 44, 3) := by decide +kernel
theorem dX5_say_45 : decode cX5_say 45 = .ok (.iconst 4, 1) := by decide +kernel
theorem dX5_say_46 : decode cX5_say 46 = .ok (.iload 5, 2) := by decide +kernel
theorem dX5_say_48 : decode cX5_say 48 = .ok (.imul, 1) := by decide +kernel
theorem dX5_say_49 : decode cX5_say 49 = .ok (.iload_n 2, 1) := by decide +kernel
theorem dX5_say_50 : decode cX5_say 50 = .ok (.iadd, 1) := by decide +kernel
theorem dX5_say_51 : decode cX5_say 51 = .ok (.iaload, 1) := by decide +kernel
theorem dX5_say_52 : decode cX5_say 52 = .ok (.istore 7, 2) := by decide +kernel
theorem dX5_say_54 : decode cX5_say 54 = .ok (.iload 7, 2) := by decide +kernel
theorem dX5_say_56 : decode cX5_say 56 = .ok (.ifCond .eq 20, 3) := by decide +kernel
theorem dX5_say_59 : decode cX5_say 59 = .ok (.aload_n 0, 1) := by decide +kernel
theorem dX5_say_60 : decode cX5_say 60 = .ok (.iload 7, 2) := by decide +kernel
theorem dX5_say_62 : decode cX5_say 62 = .ok (.iload 5, 2) := by decide +kernel
theorem dX5_say_64 : decode cX5_say 64 = .ok (.invokestatic 47, 3) := by decide +kernel
theorem dX5_say_67 : decode cX5_say 67 = .ok (.iload_n 3, 1) := by decide +kernel
theorem dX5_say_68 : decode cX5_say 68 = .ok (.iload 4, 2) := by decide +kernel
theorem dX5_say_70 : decode cX5_say 70 = .ok (.iconst 1, 1) := by decide +kernel
theorem dX5_say_71 : decode cX5_say 71 = .ok (.iadd, 1) := by decide +kernel
theorem dX5_say_72 : decode cX5_say 72 = .ok (.invokevirtual 51, 3) := by decide +kernel
theorem dX5_say_75 : decode cX5_say 75 = .ok (.ireturn, 1) := by decide +kernel
theorem dX5_say_76 : decode cX5_say 76 = .ok (.iload 5, 2) := by decide +kernel
theorem dX5_say_78 : decode cX5_say 78 = .ok (.invokestatic 47, 3) := by decide +kernel
theorem dX5_say_81 : decode cX5_say 81 = .ok (.istore 5, 2) := by decide +kernel
theorem dX5_say_83 : decode cX5_say 83 = .ok (.iinc 6 1, 3) := by decide +kernel
theorem dX5_say_86 : decode cX5_say 86 = .ok (.goto (-62), 3) := by decide +kernel
theorem dX5_say_89 : decode cX5_say 89 = .ok (.iconst 0, 1) := by decide +kernel
theorem dX5_say_90 : decode cX5_say 90 = .ok (.ireturn, 1) := by decide +kernel
theorem dX5_begin_0 : decode cX5_begin 0 = .ok (.aload_n 0, 1) := by decide +kernel
theorem dX5_begin_1 : decode cX5_begin 1 = .ok (.getfield 19, 3) := by decide +kernel
theorem dX5_begin_4 : decode cX5_begin 4 = .ok (.ifCond .eq 5, 3) := by decide +kernel
theorem dX5_begin_7 : decode cX5_begin 7 = .ok (.iconst 0, 1) := by decide +kernel
theorem dX5_begin_8 : decode cX5_begin 8 = .ok (.ireturn, 1) := by decide +kernel
theorem dX5_begin_9 : decode cX5_begin 9 = .ok (.aload_n 0, 1) := by decide +kernel
theorem dX5_begin_10 : decode cX5_begin 10 = .ok (.getfield 15, 3) := by decide +kernel
theorem dX5_begin_13 : decode cX5_begin 13 = .ok (.bipush 30, 2) := by decide +kernel
theorem dX5_begin_15 : decode cX5_begin 15 = .ok (.if_icmp .ge 23, 3) := by decide +kernel
theorem dX5_begin_18 : decode cX5_begin 18 = .ok (.aload_n 0, 1) := by decide +kernel
theorem dX5_begin_19 : decode cX5_begin 19 = .ok (.getfield 9, 3) := by decide +kernel
theorem dX5_begin_22 : decode cX5_begin 22 = .ok (.aload_n 0, 1) := by decide +kernel
theorem dX5_begin_23 : decode cX5_begin 23 = .ok (.getfield 15, 3) := by decide +kernel
theorem dX5_begin_26 : decode cX5_begin 26 = .ok (.iload_n 1, 1) := by decide +kernel
theorem dX5_begin_27 : decode cX5_begin 27 = .ok (.iastore, 1) := by decide +kernel
theorem dX5_begin_28 : decode cX5_begin 28 = .ok (.aload_n 0, 1) := by decide +kernel
theorem dX5_begin_29 : decode cX5_begin 29 = .ok (.dup, 1) := by decide +kernel
theorem dX5_begin_30 : decode cX5_begin 30 = .ok (.getfield 15, 3) := by decide +kernel
theorem dX5_begin_33 : decode cX5_begin 33 = .ok (.iconst 1, 1) := by decide +kernel
theorem dX5_begin_34 : decode cX5_begin 34 = .ok (.iadd, 1) := by decide +kernel
theorem dX5_begin_35 : decode cX5_begin 35 = .ok (.putfield 15, 3) := by decide +kernel
theorem dX5_begin_38 : decode cX5_begin 38 = .ok (.iload_n 1, 1) := by decide +kernel
theorem dX5_begin_39 : decode cX5_begin 39 = .ok (.lookupswitch 265 #[(10, 105), (11, 112), (12, 127), (13, 145), (20, 160), (21, 172), (30, 199), (40, 211), (50, 223), (51, 235), (60, 250), (70, 262)], 105) := by decide +kernel
theorem dX5_begin_144 : decode cX5_begin 144 = .ok (.iload_n 3, 1) := by decide +kernel
theorem dX5_begin_145 : decode cX5_begin 145 = .ok (.aload_n 0, 1) := by decide +kernel
theorem dX5_begin_146 : decode cX5_begin 146 = .ok (.getfield 29, 3) := by decide +kernel
theorem dX5_begin_149 : decode cX5_begin 149 = .ok (.iadd, 1) := by decide +kernel
theorem dX5_begin_150 : decode cX5_begin 150 = .ok (.ireturn, 1) := by decide +kernel
theorem dX5_begin_151 : decode cX5_begin 151 = .ok (.aload_n 0, 1) := by decide +kernel
theorem dX5_begin_152 : decode cX5_begin 152 = .ok (.aload_n 0, 1) := by decide +kernel
theorem dX5_begin_153 : decode cX5_begin 153 = .ok (.getfield 23, 3) := by decide +kernel
theorem dX5_begin_156 : decode cX5_begin 156 = .ok (.iconst 0, 1) := by decide +kernel
theorem dX5_begin_157 : decode cX5_begin 157 = .ok (.iload_n 3, 1) := by decide +kernel
theorem dX5_begin_158 : decode cX5_begin 158 = .ok (.iload 4, 2) := by decide +kernel
theorem dX5_begin_160 : decode cX5_begin 160 = .ok (.invokevirtual 36, 3) := by decide +kernel
theorem dX5_begin_163 : decode cX5_begin 163 = .ok (.iconst 2, 1) := by decide +kernel
theorem dX5_begin_164 : decode cX5_begin 164 = .ok (.imul, 1) := by decide +kernel
theorem dX5_begin_165 : decode cX5_begin 165 = .ok (.ireturn, 1) := by decide +kernel
theorem dX5_begin_166 : decode cX5_begin 166 = .ok (.aload_n 0, 1) := by decide +kernel
theorem dX5_begin_167 : decode cX5_begin 167 = .ok (.aload_n 0, 1) := by decide +kernel
theorem dX5_begin_168 : decode cX5_begin 168 = .ok (.getfield 23, 3) := by decide +kernel
theorem dX5_begin_171 : decode cX5_begin 171 = .ok (.iconst 1, 1) := by decide +kernel
theorem dX5_begin_172 : decode cX5_begin 172 = .ok (.iload_n 3, 1) := by decide +kernel
theorem dX5_begin_173 : decode cX5_begin 173 = .ok (.iload 4, 2) := by decide +kernel
theorem dX5_begin_175 : decode cX5_begin 175 = .ok (.invokevirtual 36, 3) := by decide +kernel
theorem dX5_begin_178 : decode cX5_begin 178 = .ok (.aload_n 0, 1) := by decide +kernel
theorem dX5_begin_179 : decode cX5_begin 179 = .ok (.getfield 26, 3) := by decide +kernel
theorem dX5_begin_182 : decode cX5_begin 182 = .ok (.isub, 1) := by decide +kernel
theorem dX5_begin_183 : decode cX5_begin 183 = .ok (.ireturn, 1) := by decide +kernel
theorem dX5_begin_184 : decode cX5_begin 184 = .ok (.aload_n 0, 1) := by decide +kernel
theorem dX5_begin_185 : decode cX5_begin 185 = .ok (.iload_n 3, 1) := by decide +kernel
theorem dX5_begin_186 : decode cX5_begin 186 = .ok (.aload_n 0, 1) := by decide +kernel
theorem dX5_begin_187 : decode cX5_begin 187 = .ok (.getfield 26, 3) := by decide +kernel
theorem dX5_begin_190 : decode cX5_begin 190 = .ok (.aload_n 0, 1) := by decide +kernel
theorem dX5_begin_191 : decode cX5_begin 191 = .ok (.getfield 29, 3) := by decide +kernel
theorem dX5_begin_194 : decode cX5_begin 194 = .ok (.isub, 1) := by decide +kernel
theorem dX5_begin_195 : decode cX5_begin 195 = .ok (.invokevirtual 54, 3) := by decide +kernel
theorem dX5_begin_198 : decode cX5_begin 198 = .ok (.ireturn, 1) := by decide +kernel
theorem dX5_begin_199 : decode cX5_begin 199 = .ok (.aload_n 0, 1) := by decide +kernel
theorem dX5_begin_200 : decode cX5_begin 200 = .ok (.iload_n 2, 1) := by decide +kernel
theorem dX5_begin_201 : decode cX5_begin 201 = .ok (.iconst 0, 1) := by decide +kernel
theorem dX5_begin_202 : decode cX5_begin 202 = .ok (.iload_n 3, 1) := by decide +kernel
theorem dX5_begin_203 : decode cX5_begin 203 = .ok (.iload 4, 2) := by decide +kernel
theorem dX5_begin_205 : decode cX5_begin 205 = .ok (.invokevirtual 36, 3) := by decide +kernel
theorem dX5_begin_208 : decode cX5_begin 208 = .ok (.iconst 4, 1) := by decide +kernel
theorem dX5_begin_209 : decode cX5_begin 209 = .ok (.isub, 1) := by decide +kernel
theorem dX5_begin_210 : decode cX5_begin 210 = .ok (.ireturn, 1) := by decide +kernel
theorem dX5_begin_211 : decode cX5_begin 211 = .ok (.aload_n 0, 1) := by decide +kernel
theorem dX5_begin_212 : decode cX5_begin 212 = .ok (.iload_n 2, 1) := by decide +kernel
theorem dX5_begin_213 : decode cX5_begin 213 = .ok (.iconst 3, 1) := by decide +kernel
theorem dX5_begin_214 : decode cX5_begin 214 = .ok (.iload_n 3, 1) := by decide +kernel
theorem dX5_begin_215 : decode cX5_begin 215 = .ok (.iload 4, 2) := by decide +kernel
theorem dX5_begin_217 : decode cX5_begin 217 = .ok (.invokevirtual 36, 3) := by decide +kernel
theorem dX5_begin_220 : decode cX5_begin 220 = .ok (.istore 5, 2) := by decide +kernel
theorem dX5_begin_222 : decode cX5_begin 222 = .ok (.iload 5, 2) := by decide +kernel
theorem dX5_begin_224 : decode cX5_begin 224 = .ok (.aload_n 0, 1) := by decide +kernel
theorem dX5_begin_225 : decode cX5_begin 225 = .ok (.aload_n 0, 1) := by decide +kernel
theorem dX5_begin_226 : decode cX5_begin 226 = .ok (.getfield 23, 3) := by decide +kernel
theorem dX5_begin_229 : decode cX5_begin 229 = .ok (.iconst 1, 1) := by decide +kernel
theorem dX5_begin_230 : decode cX5_begin 230 = .ok (.iconst 1, 1) := by decide +kernel
theorem dX5_begin_231 : decode cX5_begin 231 = .ok (.iload 4, 2) := by decide +kernel
theorem dX5_begin_233 : decode cX5_begin 233 = .ok (.invokevirtual 36, 3) := by decide +kernel
theorem dX5_begin_236 : decode cX5_begin 236 = .ok (.iadd, 1) := by decide +kernel
theorem dX5_begin_237 : decode cX5_begin 237 = .ok (.ireturn, 1) := by decide +kernel
theorem dX5_begin_238 : decode cX5_begin 238 = .ok (.iconst 0, 1) := by decide +kernel
theorem dX5_begin_239 : decode cX5_begin 239 = .ok (.aload_n 0, 1) := by decide +kernel
theorem dX5_begin_240 : decode cX5_begin 240 = .ok (.iload_n 2, 1) := by decide +kernel
theorem dX5_begin_241 : decode cX5_begin 241 = .ok (.iconst 1, 1) := by decide +kernel
theorem dX5_begin_242 : decode cX5_begin 242 = .ok (.iload_n 3, 1) := by decide +kernel
theorem dX5_begin_243 : decode cX5_begin 243 = .ok (.iload 4, 2) := by decide +kernel
theorem dX5_begin_245 : decode cX5_begin 245 = .ok (.invokevirtual 36, 3) := by decide +kernel
theorem dX5_begin_248 : decode cX5_begin 248 = .ok (.isub, 1) := by decide +kernel
theorem dX5_begin_249 : decode cX5_begin 249 = .ok (.ireturn, 1) := by decide +kernel
theorem dX5_begin_250 : decode cX5_begin 250 = .ok (.aload_n 0, 1) := by decide +kernel
theorem dX5_begin_251 : decode cX5_begin 251 = .ok (.iload_n 2, 1) := by decide +kernel
theorem dX5_begin_252 : decode cX5_begin 252 = .ok (.iconst 2, 1) := by decide +kernel
theorem dX5_begin_253 : decode cX5_begin 253 = .ok (.iload_n 3, 1) := by decide +kernel
theorem dX5_begin_254 : decode cX5_begin 254 = .ok (.iconst 2, 1) := by decide +kernel
theorem dX5_begin_255 : decode cX5_begin 255 = .ok (.idiv, 1) := by decide +kernel
theorem dX5_begin_256 : decode cX5_begin 256 = .ok (.iload 4, 2) := by decide +kernel
theorem dX5_begin_258 : decode cX5_begin 258 = .ok (.invokevirtual 36, 3) := by decide +kernel
theorem dX5_begin_261 : decode cX5_begin 261 = .ok (.ireturn, 1) := by decide +kernel
theorem dX5_begin_262 : decode cX5_begin 262 = .ok (.aload_n 0, 1) := by decide +kernel
theorem dX5_begin_263 : decode cX5_begin 263 = .ok (.iload_n 2, 1) := by decide +kernel
theorem dX5_begin_264 : decode cX5_begin 264 = .ok (.iconst 0, 1) := by decide +kernel
theorem dX5_begin_265 : decode cX5_begin 265 = .ok (.iload_n 3, 1) := by decide +kernel
theorem dX5_begin_266 : decode cX5_begin 266 = .ok (.iload 4, 2) := by decide +kernel
theorem dX5_begin_268 : decode cX5_begin 268 = .ok (.invokevirtual 36, 3) := by decide +kernel
theorem dX5_begin_271 : decode cX5_begin 271 = .ok (.iconst 3, 1) := by decide +kernel
theorem dX5_begin_272 : decode cX5_begin 272 = .ok (.imul, 1) := by decide +kernel
theorem dX5_begin_273 : decode cX5_begin 273 = .ok (.ireturn, 1) := by decide +kernel
theorem dX5_begin_274 : decode cX5_begin 274 = .ok (.aload_n 0, 1) := by decide +kernel
theorem dX5_begin_275 : decode cX5_begin 275 = .ok (.iload_n 2, 1) := by decide +kernel
theorem dX5_begin_276 : decode cX5_begin 276 = .ok (.iconst 2, 1) := by decide +kernel
theorem dX5_begin_277 : decode cX5_begin 277 = .ok (.iload_n 3, 1) := by decide +kernel
theorem dX5_begin_278 : decode cX5_begin 278 = .ok (.iload 4, 2) := by decide +kernel
theorem dX5_begin_280 : decode cX5_begin 280 = .ok (.invokevirtual 36, 3) := by decide +kernel
theorem dX5_begin_283 : decode cX5_begin 283 = .ok (.aload_n 0, 1) := by decide +kernel
theorem dX5_begin_284 : decode cX5_begin 284 = .ok (.getfield 29, 3) := by decide +kernel
theorem dX5_begin_287 : decode cX5_begin 287 = .ok (.ixor, 1) := by decide +kernel
theorem dX5_begin_288 : decode cX5_begin 288 = .ok (.ireturn, 1) := by decide +kernel
theorem dX5_begin_289 : decode cX5_begin 289 = .ok (.aload_n 0, 1) := by decide +kernel
theorem dX5_begin_290 : decode cX5_begin 290 = .ok (.iload_n 2, 1) := by decide +kernel
theorem dX5_begin_291 : decode cX5_begin 291 = .ok (.iconst 1, 1) := by decide +kernel
theorem dX5_begin_292 : decode cX5_begin 292 = .ok (.iload_n 3, 1) := by decide +kernel
theorem dX5_begin_293 : decode cX5_begin 293 = .ok (.iconst 1, 1) := by decide +kernel
theorem dX5_begin_294 : decode cX5_begin 294 = .ok (.iadd, 1) := by decide +kernel
theorem dX5_begin_295 : decode cX5_begin 295 = .ok (.iload 4, 2) := by decide +kernel
theorem dX5_begin_297 : decode cX5_begin 297 = .ok (.invokevirtual 36, 3) := by decide +kernel
theorem dX5_begin_300 : decode cX5_begin 300 = .ok (.ireturn, 1) := by decide +kernel
theorem dX5_begin_301 : decode cX5_begin 301 = .ok (.bipush 9, 2) := by decide +kernel
theorem dX5_begin_303 : decode cX5_begin 303 = .ok (.ireturn, 1) := by decide +kernel
theorem dX5_begin_304 : decode cX5_begin 304 = .ok (.aload_n 0, 1) := by decide +kernel
theorem dX5_begin_305 : decode cX5_begin 305 = .ok (.iload_n 2, 1) := by decide +kernel
theorem dX5_begin_306 : decode cX5_begin 306 = .ok (.iconst 1, 1) := by decide +kernel
theorem dX5_begin_307 : decode cX5_begin 307 = .ok (.iload_n 3, 1) := by decide +kernel
theorem dX5_begin_308 : decode cX5_begin 308 = .ok (.iload 4, 2) := by decide +kernel
theorem dX5_begin_310 : decode cX5_begin 310 = .ok (.invokevirtual 36, 3) := by decide +kernel
theorem dX5_begin_313 : decode cX5_begin 313 = .ok (.aload_n 0, 1) := by decide +kernel
theorem dX5_begin_314 : decode cX5_begin 314 = .ok (.getfield 26, 3) := by decide +kernel
theorem dX5_begin_317 : decode cX5_begin 317 = .ok (.iadd, 1) := by decide +kernel
theorem dX5_begin_318 : decode cX5_begin 318 = .ok (.ireturn, 1) := by decide +kernel
theorem dX5_part_0 : decode cX5_part 0 = .ok (.iload_n 2, 1) := by decide +kernel
theorem dX5_part_1 : decode cX5_part 1 = .ok (.ifCond .ne 10, 3) := by decide +kernel
theorem dX5_part_4 : decode cX5_part 4 = .ok (.aload_n 0, 1) := by decide +kernel
theorem dX5_part_5 : decode cX5_part 5 = .ok (.iconst 1, 1) := by decide +kernel
theorem dX5_part_6 : decode cX5_part 6 = .ok (.putfield 19, 3) := by decide +kernel
theorem dX5_part_9 : decode cX5_part 9 = .ok (.iconst 0, 1) := by decide +kernel
theorem dX5_part_10 : decode cX5_part 10 = .ok (.ireturn, 1) := by decide +kernel
theorem dX5_part_11 : decode cX5_part 11 = .ok (.iload_n 1, 1) := by decide +kernel
theorem dX5_part_12 : decode cX5_part 12 = .ok (.iload_n 2, 1) := by decide +kernel
theorem dX5_part_13 : decode cX5_part 13 = .ok (.idiv, 1) := by decide +kernel
theorem dX5_part_14 : decode cX5_part 14 = .ok (.ireturn, 1) := by decide +kernel
theorem dJ11_isValidCodePoint_9a6ad_0 : decode cJ11_isValidCodePoint_9a6ad 0 = .ok (.iload_n 0, 1) := by decide +kernel
theorem dJ11_isValidCodePoint_9a6ad_1 : decode cJ11_isValidCodePoint_9a6ad 1 = .ok (.bipush 16, 2) := by decide +kernel
theorem dJ11_isValidCodePoint_9a6ad_3 : decode cJ11_isValidCodePoint_9a6ad 3 = .ok (.iushr, 1) := by decide +kernel
theorem dJ11_isValidCodePoint_9a6ad_4 : decode cJ11_isValidCodePoint_9a6ad 4 = .ok (.istore_n 1, 1) := by decide +kernel
theorem dJ11_isValidCodePoint_9a6ad_5 : decode cJ11_isValidCodePoint_9a6ad 5 = .ok (.iload_n 1, 1) := by decide +kernel
theorem dJ11_isValidCodePoint_9a6ad_6 : decode cJ11_isValidCodePoint_9a6ad 6 = .ok (.bipush 17, 2) := by decide +kernel
theorem dJ11_isValidCodePoint_9a6ad_8 : decode cJ11_isValidCodePoint_9a6ad 8 = .ok (.if_icmp .ge 7, 3) := by decide +kernel
theorem dJ11_isValidCodePoint_9a6ad_11 : decode cJ11_isValidCodePoint_9a6ad 11 = .ok (.iconst 1, 1) := by decide +kernel
theorem dJ11_isValidCodePoint_9a6ad_12 : decode cJ11_isValidCodePoint_9a6ad 12 = .ok (.goto 4, 3) := by decide +kernel
theorem dJ11_isValidCodePoint_9a6ad_15 : decode cJ11_isValidCodePoint_9a6ad 15 = .ok (.iconst 0, 1) := by decide +kernel
theorem dJ11_isValidCodePoint_9a6ad_16 : decode cJ11_isValidCodePoint_9a6ad 16 = .ok (.ireturn, 1) := by decide +kernel
theorem dJ11_highSurrogate_5068e_0 : decode cJ11_highSurrogate_5068e 0 = .ok (.iload_n 0, 1) := by decide +kernel
theorem dJ11_highSurrogate_5068e_1 : decode cJ11_highSurrogate_5068e 1 = .ok (.bipush 10, 2) := by decide +kernel
theorem dJ11_highSurrogate_5068e_3 : decode cJ11_highSurrogate_5068e 3 = .ok (.iushr, 1) := by decide +kernel
theorem dJ11_highSurrogate_5068e_4 : decode cJ11_highSurrogate_5068e 4 = .ok (.ldc 110, 2) := by decide +kernel
theorem dJ11_highSurrogate_5068e_6 : decode cJ11_highSurrogate_5068e 6 = .ok (.iadd, 1) := by decide +kernel
theorem dJ11_highSurrogate_5068e_7 : decode cJ11_highSurrogate_5068e 7 = .ok (.i2c, 1) := by decide +kernel
theorem dJ11_highSurrogate_5068e_8 : decode cJ11_highSurrogate_5068e 8 = .ok (.ireturn, 1) := by decide +kernel
theorem dJ11_lowSurrogate_5068e_0 : decode cJ11_lowSurrogate_5068e 0 = .ok (.iload_n 0, 1) := by decide +kernel
theorem dJ11_lowSurrogate_5068e_1 : decode cJ11_lowSurrogate_5068e 1 = .ok (.sipush 1023, 3) := by decide +kernel
theorem dJ11_lowSurrogate_5068e_4 : decode cJ11_lowSurrogate_5068e 4 = .ok (.iand, 1) := by decide +kernel
theorem dJ11_lowSurrogate_5068e_5 : decode cJ11_lowSurrogate_5068e 5 = .ok (.ldc 76, 2) := by decide +kernel
theorem dJ11_lowSurrogate_5068e_7 : decode cJ11_lowSurrogate_5068e 7 = .ok (.iadd, 1) := by decide +kernel
theorem dJ11_lowSurrogate_5068e_8 : decode cJ11_lowSurrogate_5068e 8 = .ok (.i2c, 1) := by decide +kernel
theorem dJ11_lowSurrogate_5068e_9 : decode cJ11_lowSurrogate_5068e 9 = .ok (.ireturn, 1) := by decide +kernel
theorem dJ6_bitCount_0f7a4_0 : decode cJ6_bitCount_0f7a4 0 = .ok (.iload_n 0, 1) := by decide +kernel
theorem dJ6_bitCount_0f7a4_1 : decode cJ6_bitCount_0f7a4 1 = .ok (.iload_n 0, 1) := by decide +kernel
theorem dJ6_bitCount_0f7a4_2 : decode cJ6_bitCount_0f7a4 2 = .ok (.iconst 1, 1) := by decide +kernel
theorem dJ6_bitCount_0f7a4_3 : decode cJ6_bitCount_0f7a4 3 = .ok (.iushr, 1) := by decide +kernel
theorem dJ6_bitCount_0f7a4_4 : decode cJ6_bitCount_0f7a4 4 = .ok (.ldc_w 265, 3) := by decide +kernel
theorem dJ6_bitCount_0f7a4_7 : decode cJ6_bitCount_0f7a4 7 = .ok (.iand, 1) := by decide +kernel
theorem dJ6_bitCount_0f7a4_8 : decode cJ6_bitCount_0f7a4 8 = .ok (.isub, 1) := by decide +kernel
theorem dJ6_bitCount_0f7a4_9 : decode cJ6_bitCount_0f7a4 9 = .ok (.istore_n 0, 1) := by decide +kernel
theorem dJ6_bitCount_0f7a4_10 : decode cJ6_bitCount_0f7a4 10 = .ok (.iload_n 0, 1) := by decide +kernel
theorem dJ6_bitCount_0f7a4_11 : decode cJ6_bitCount_0f7a4 11 = .ok (.ldc_w 266, 3) := by decide +kernel
theorem dJ6_bitCount_0f7a4_14 : decode cJ6_bitCount_0f7a4 14 = .ok (.iand, 1) := by decide +kernel
theorem dJ6_bitCount_0f7a4_15 : decode cJ6_bitCount_0f7a4 15 = .ok (.iload_n 0, 1) := by decide +kernel
theorem dJ6_bitCount_0f7a4_16 : decode cJ6_bitCount_0f7a4 16 = .ok (.iconst 2, 1) := by decide +kernel
theorem dJ6_bitCount_0f7a4_17 : decode cJ6_bitCount_0f7a4 17 = .ok (.iushr, 1) := by decide +kernel
theorem dJ6_bitCount_0f7a4_18 : decode cJ6_bitCount_0f7a4 18 = .ok (.ldc_w 266, 3) := by decide +kernel
theorem dJ6_bitCount_0f7a4_21 : decode cJ6_bitCount_0f7a4 21 = .ok (.iand, 1) := by decide +kernel
theorem dJ6_bitCount_0f7a4_22 : decode cJ6_bitCount_0f7a4 22 = .ok (.iadd, 1) := by decide +kernel
theorem dJ6_bitCount_0f7a4_23 : decode cJ6_bitCount_0f7a4 23 = .ok (.istore_n 0, 1) := by decide +kernel
theorem dJ6_bitCount_0f7a4_24 : decode cJ6_bitCount_0f7a4 24 = .ok (.iload_n 0, 1) := by decide +kernel
theorem dJ6_bitCount_0f7a4_25 : decode cJ6_bitCount_0f7a4 25 = .ok (.iload_n 0, 1) := by decide +kernel
theorem dJ6_bitCount_0f7a4_26 : decode cJ6_bitCount_0f7a4 26 = .ok (.iconst 4, 1) := by decide +kernel
theorem dJ6_bitCount_0f7a4_27 : decode cJ6_bitCount_0f7a4 27 = .ok (.iushr, 1) := by decide +kernel
theorem dJ6_bitCount_0f7a4_28 : decode cJ6_bitCount_0f7a4 28 = .ok (.iadd, 1) := by decide +kernel
theorem dJ6_bitCount_0f7a4_29 : decode cJ6_bitCount_0f7a4 29 = .ok (.ldc_w 267, 3) := by decide +kernel
theorem dJ6_bitCount_0f7a4_32 : decode cJ6_bitCount_0f7a4 32 = .ok (.iand, 1) := by decide +kernel
theorem dJ6_bitCount_0f7a4_33 : decode cJ6_bitCount_0f7a4 33 = .ok (.istore_n 0, 1) := by decide +kernel
theorem dJ6_bitCount_0f7a4_34 : decode cJ6_bitCount_0f7a4 34 = .ok (.iload_n 0, 1) := by decide +kernel
theorem dJ6_bitCount_0f7a4_35 : decode cJ6_bitCount_0f7a4 35 = .ok (.iload_n 0, 1) := by decide +kernel
theorem dJ6_bitCount_0f7a4_36 : decode cJ6_bitCount_0f7a4 36 = .ok (.bipush 8, 2) := by decide +kernel
theorem dJ6_bitCount_0f7a4_38 : decode cJ6_bitCount_0f7a4 38 = .ok (.iushr, 1) := by decide +kernel
theorem dJ6_bitCount_0f7a4_39 : decode cJ6_bitCount_0f7a4 39 = .ok (.iadd, 1) := by decide +kernel
theorem dJ6_bitCount_0f7a4_40 : decode cJ6_bitCount_0f7a4 40 = .ok (.istore_n 0, 1) := by decide +kernel
theorem dJ6_bitCount_0f7a4_41 : decode cJ6_bitCount_0f7a4 41 = .ok (.iload_n 0, 1) := by decide +kernel
theorem dJ6_bitCount_0f7a4_42 : decode cJ6_bitCount_0f7a4 42 = .ok (.iload_n 0, 1) := by decide +kernel
theorem dJ6_bitCount_0f7a4_43 : decode cJ6_bitCount_0f7a4 43 = .ok (.bipush 16, 2) := by decide +kernel
theorem dJ6_bitCount_0f7a4_45 : decode cJ6_bitCount_0f7a4 45 = .ok (.iushr, 1) := by decide +kernel
theorem dJ6_bitCount_0f7a4_46 : decode cJ6_bitCount_0f7a4 46 = .ok (.iadd, 1) := by decide +kernel
theorem dJ6_bitCount_0f7a4_47 : decode cJ6_bitCount_0f7a4 47 = .ok (.istore_n 0, 1) := by decide +kernel
theorem dJ6_bitCount_0f7a4_48 : decode cJ6_bitCount_0f7a4 48 = .ok (.iload_n 0, 1) := by decide +kernel
theorem dJ6_bitCount_0f7a4_49 : decode cJ6_bitCount_0f7a4 49 = .ok (.bipush 63, 2) := by decide +kernel
theorem dJ6_bitCount_0f7a4_51 : decode cJ6_bitCount_0f7a4 51 = .ok (.iand, 1) := by decide +kernel
theorem dJ6_bitCount_0f7a4_52 : decode cJ6_bitCount_0f7a4 52 = .ok (.ireturn, 1) := by decide +kernel
theorem dJ9_max_7cf53_0 : decode cJ9_max_7cf53 0 = .ok (.iload_n 0, 1) := by decide +kernel
theorem dJ9_max_7cf53_1 : decode cJ9_max_7cf53 1 = .ok (.iload_n 1, 1) := by decide +kernel
theorem dJ9_max_7cf53_2 : decode cJ9_max_7cf53 2 = .ok (.if_icmp .lt 7, 3) := by decide +kernel
theorem dJ9_max_7cf53_5 : decode cJ9_max_7cf53 5 = .ok (.iload_n 0, 1) := by decide +kernel
theorem dJ9_max_7cf53_6 : decode cJ9_max_7cf53 6 = .ok (.goto 4, 3) := by decide +kernel
theorem dJ9_max_7cf53_9 : decode cJ9_max_7cf53 9 = .ok (.iload_n 1, 1) := by decide +kernel
theorem dJ9_max_7cf53_10 : decode cJ9_max_7cf53 10 = .ok (.ireturn, 1) := by decide +kernel
theorem dJ9_min_7cf53_0 : decode cJ9_min_7cf53 0 = .ok (.iload_n 0, 1) := by decide +kernel
theorem dJ9_min_7cf53_1 : decode cJ9_min_7cf53 1 = .ok (.iload_n 1, 1) := by decide +kernel
theorem dJ9_min_7cf53_2 : decode cJ9_min_7cf53 2 = .ok (.if_icmp .gt 7, 3) := by decide +kernel
theorem dJ9_min_7cf53_5 : decode cJ9_min_7cf53 5 = .ok (.iload_n 0, 1) := by decide +kernel
theorem dJ9_min_7cf53_6 : decode cJ9_min_7cf53 6 = .ok (.goto 4, 3) := by decide +kernel
theorem dJ9_min_7cf53_9 : decode cJ9_min_7cf53 9 = .ok (.iload_n 1, 1) := by decide +kernel
theorem dJ9_min_7cf53_10 : decode cJ9_min_7cf53 10 = .ok (.ireturn, 1) := by decide +kernel
theorem dJ0_length_8abf5_0 : decode cJ0_length_8abf5 0 = .ok (.aload_n 0, 1) := by decide +kernel
theorem dJ0_length_8abf5_1 : decode cJ0_length_8abf5 1 = .ok (.getfield 9, 3) := by decide +kernel
theorem dJ0_length_8abf5_4 : decode cJ0_length_8abf5 4 = .ok (.arraylength, 1) := by decide +kernel
theorem dJ0_length_8abf5_5 : decode cJ0_length_8abf5 5 = .ok (.aload_n 0, 1) := by decide +kernel
theorem dJ0_length_8abf5_6 : decode cJ0_length_8abf5 6 = .ok (.invokevirtual 335, 3) := by decide +kernel
theorem dJ0_length_8abf5_9 : decode cJ0_length_8abf5 9 = .ok (.ishr, 1) := by decide +kernel
theorem dJ0_length_8abf5_10 : decode cJ0_length_8abf5 10 = .ok (.ireturn, 1) := by decide +kernel
theorem dJ0_indexOf_0f7a4_0 : decode cJ0_indexOf_0f7a4 0 = .ok (.aload_n 0, 1) := by decide +kernel
theorem dJ0_indexOf_0f7a4_1 : decode cJ0_indexOf_0f7a4 1 = .ok (.iload_n 1, 1) := by decide +kernel
theorem dJ0_indexOf_0f7a4_2 : decode cJ0_indexOf_0f7a4 2 = .ok (.iconst 0, 1) := by decide +kernel
theorem dJ0_indexOf_0f7a4_3 : decode cJ0_indexOf_0f7a4 3 = .ok (.invokevirtual 633, 3) := by decide +kernel
theorem dJ0_indexOf_0f7a4_6 : decode cJ0_indexOf_0f7a4 6 = .ok (.ireturn, 1) := by decide +kernel
theorem dJ0_indexOf_7cf53_0 : decode cJ0_indexOf_7cf53 0 = .ok (.aload_n 0, 1) := by decide +kernel
theorem dJ0_indexOf_7cf53_1 : decode cJ0_indexOf_7cf53 1 = .ok (.invokevirtual 492, 3) := by decide +kernel
theorem dJ0_indexOf_7cf53_4 : decode cJ0_indexOf_7cf53 4 = .ok (.ifCond .eq 19, 3) := by decide +kernel
theorem dJ0_indexOf_7cf53_7 : decode cJ0_indexOf_7cf53 7 = .ok (.aload_n 0, 1) := by decide +kernel
theorem dJ0_indexOf_7cf53_8 : decode cJ0_indexOf_7cf53 8 = .ok (.getfield 9, 3) := by decide +kernel
theorem dJ0_indexOf_7cf53_11 : decode cJ0_indexOf_7cf53 11 = .ok (.iload_n 1, 1) := by decide +kernel
theorem dJ0_indexOf_7cf53_12 : decode cJ0_indexOf_7cf53 12 = .ok (.iload_n 2, 1) := by decide +kernel
theorem dJ0_indexOf_7cf53_13 : decode cJ0_indexOf_7cf53 13 = .ok (.aload_n 0, 1) := by decide +kernel
theorem dJ0_indexOf_7cf53_14 : decode cJ0_indexOf_7cf53 14 = .ok (.invokevirtual 505, 3) := by decide +kernel
theorem dJ0_indexOf_7cf53_17 : decode cJ0_indexOf_7cf53 17 = .ok (.invokestatic 637, 3) := by decide +kernel
theorem dJ0_indexOf_7cf53_20 : decode cJ0_indexOf_7cf53 20 = .ok (.goto 16, 3) := by decide +kernel
theorem dJ0_indexOf_7cf53_23 : decode cJ0_indexOf_7cf53 23 = .ok (.aload_n 0, 1) := by decide +kernel
theorem dJ0_indexOf_7cf53_24 : decode cJ0_indexOf_7cf53 24 = .ok (.getfield 9, 3) := by decide +kernel
theorem dJ0_indexOf_7cf53_27 : decode cJ0_indexOf_7cf53 27 = .ok (.iload_n 1, 1) := by decide +kernel
theorem dJ0_indexOf_7cf53_28 : decode cJ0_indexOf_7cf53 28 = .ok (.iload_n 2, 1) := by decide +kernel
theorem dJ0_indexOf_7cf53_29 : decode cJ0_indexOf_7cf53 29 = .ok (.aload_n 0, 1) := by decide +kernel
theorem dJ0_indexOf_7cf53_30 : decode cJ0_indexOf_7cf53 30 = .ok (.invokevirtual 505, 3) := by decide +kernel
theorem dJ0_indexOf_7cf53_33 : decode cJ0_indexOf_7cf53 33 = .ok (.invokestatic 640, 3) := by decide +kernel
theorem dJ0_indexOf_7cf53_36 : decode cJ0_indexOf_7cf53 36 = .ok (.ireturn, 1) := by decide +kernel
theorem dJ0_coder_7d493_0 : decode cJ0_coder_7d493 0 = .ok (.getstatic 38, 3) := by decide +kernel
theorem dJ0_coder_7d493_3 : decode cJ0_coder_7d493 3 = .ok (.ifCond .eq 10, 3) := by decide +kernel
theorem dJ0_coder_7d493_6 : decode cJ0_coder_7d493 6 = .ok (.aload_n 0, 1) := by decide +kernel
theorem dJ0_coder_7d493_7 : decode cJ0_coder_7d493 7 = .ok (.getfield 15, 3) := by decide +kernel
theorem dJ0_coder_7d493_10 : decode cJ0_coder_7d493 10 = .ok (.goto 4, 3) := by decide +kernel
theorem dJ0_coder_7d493_13 : decode cJ0_coder_7d493 13 = .ok (.iconst 1, 1) := by decide +kernel
theorem dJ0_coder_7d493_14 : decode cJ0_coder_7d493 14 = .ok (.ireturn, 1) := by decide +kernel
theorem dJ0_isLatin1_aae02_0 : decode cJ0_isLatin1_aae02 0 = .ok (.getstatic 38, 3) := by decide +kernel
theorem dJ0_isLatin1_aae02_3 : decode cJ0_isLatin1_aae02 3 = .ok (.ifCond .eq 14, 3) := by decide +kernel
theorem dJ0_isLatin1_aae02_6 : decode cJ0_isLatin1_aae02 6 = .ok (.aload_n 0, 1) := by decide +kernel
theorem dJ0_isLatin1_aae02_7 : decode cJ0_isLatin1_aae02 7 = .ok (.getfield 15, 3) := by decide +kernel
theorem dJ0_isLatin1_aae02_10 : decode cJ0_isLatin1_aae02 10 = .ok (.ifCond .ne 7, 3) := by decide +kernel
theorem dJ0_isLatin1_aae02_13 : decode cJ0_isLatin1_aae02 13 = .ok (.iconst 1, 1) := by decide +kernel
theorem dJ0_isLatin1_aae02_14 : decode cJ0_isLatin1_aae02 14 = .ok (.goto 4, 3) := by decide +kernel
theorem dJ0_isLatin1_aae02_17 : decode cJ0_isLatin1_aae02 17 = .ok (.iconst 0, 1) := by decide +kernel
theorem dJ0_isLatin1_aae02_18 : decode cJ0_isLatin1_aae02 18 = .ok (.ireturn, 1) := by decide +kernel
theorem dJ0_checkBoundsBeginEnd_23922_0 : decode cJ0_checkBoundsBeginEnd_23922 0 = .ok (.iload_n 0, 1) := by decide +kernel
theorem dJ0_checkBoundsBeginEnd_23922_1 : decode cJ0_checkBoundsBeginEnd_23922 1 = .ok (.iload_n 1, 1) := by decide +kernel
theorem dJ0_checkBoundsBeginEnd_23922_2 : decode cJ0_checkBoundsBeginEnd_23922 2 = .ok (.iload_n 2, 1) := by decide +kernel
theorem dJ0_checkBoundsBeginEnd_23922_3 : decode cJ0_checkBoundsBeginEnd_23922 3 = .ok (.getstatic 1053, 3) := by decide +kernel
theorem dJ0_checkBoundsBeginEnd_23922_6 : decode cJ0_checkBoundsBeginEnd_23922 6 = .ok (.invokestatic 1062, 3) := by decide +kernel
theorem dJ0_checkBoundsBeginEnd_23922_9 : decode cJ0_checkBoundsBeginEnd_23922 9 = .ok (.pop, 1) := by decide +kernel
theorem dJ0_checkBoundsBeginEnd_23922_10 : decode cJ0_checkBoundsBeginEnd_23922 10 = .ok (.return_, 1) := by decide +kernel
theorem dJ1_canEncode_9a6ad_0 : decode cJ1_canEncode_9a6ad 0 = .ok (.iload_n 0, 1) := by decide +kernel
theorem dJ1_canEncode_9a6ad_1 : decode cJ1_canEncode_9a6ad 1 = .ok (.ifCond .lt 14, 3) := by decide +kernel
theorem dJ1_canEncode_9a6ad_4 : decode cJ1_canEncode_9a6ad 4 = .ok (.iload_n 0, 1) := by decide +kernel
theorem dJ1_canEncode_9a6ad_5 : decode cJ1_canEncode_9a6ad 5 = .ok (.sipush 255, 3) := by decide +kernel
theorem dJ1_canEncode_9a6ad_8 : decode cJ1_canEncode_9a6ad 8 = .ok (.if_icmp .gt 7, 3) := by decide +kernel
theorem dJ1_canEncode_9a6ad_11 : decode cJ1_canEncode_9a6ad 11 = .ok (.iconst 1, 1) := by decide +kernel
theorem dJ1_canEncode_9a6ad_12 : decode cJ1_canEncode_9a6ad 12 = .ok (.goto 4, 3) := by decide +kernel
theorem dJ1_canEncode_9a6ad_15 : decode cJ1_canEncode_9a6ad 15 = .ok (.iconst 0, 1) := by decide +kernel
