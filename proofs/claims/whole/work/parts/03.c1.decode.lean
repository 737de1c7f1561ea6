theorem dX7_baking_17 : decode cX7_baking 17 = .ok (.iconst 0, 1) := by decide +kernel
theorem dX7_baking_18 : decode cX7_baking 18 = .ok (.iconst 1, 1) := by decide +kernel
theorem dX7_baking_19 : decode cX7_baking 19 = .ok (.invokestatic 54, 3) := by decide +kernel
theorem dX7_baking_22 : decode cX7_baking 22 = .ok (.ifCond .ne 10, 3) := by decide +kernel
theorem dX7_baking_25 : decode cX7_baking 25 = .ok (.aload_n 0, 1) := by decide +kernel
theorem dX7_baking_26 : decode cX7_baking 26 = .ok (.ldc 80, 2) := by decide +kernel
theorem dX7_baking_28 : decode cX7_baking 28 = .ok (.invokevirtual 81, 3) := by decide +kernel
theorem dX7_baking_31 : decode cX7_baking 31 = .ok (.ireturn, 1) := by decide +kernel
theorem dX7_baking_32 : decode cX7_baking 32 = .ok (.iconst (-1), 1) := by decide +kernel
theorem dX7_baking_33 : decode cX7_baking 33 = .ok (.istore 5, 2) := by decide +kernel
theorem dX7_baking_35 : decode cX7_baking 35 = .ok (.iconst 0, 1) := by decide +kernel
theorem dX7_baking_36 : decode cX7_baking 36 = .ok (.istore 6, 2) := by decide +kernel
theorem dX7_baking_38 : decode cX7_baking 38 = .ok (.iconst 0, 1) := by decide +kernel
theorem dX7_baking_39 : decode cX7_baking 39 = .ok (.istore 7, 2) := by decide +kernel
theorem dX7_baking_41 : decode cX7_baking 41 = .ok (.iload 7, 2) := by decide +kernel
theorem dX7_baking_43 : decode cX7_baking 43 = .ok (.iconst 1, 1) := by decide +kernel
theorem dX7_baking_44 : decode cX7_baking 44 = .ok (.aload_n 0, 1) := by decide +kernel
theorem dX7_baking_45 : decode cX7_baking 45 = .ok (.getfield 9, 3) := by decide +kernel
theorem dX7_baking_48 : decode cX7_baking 48 = .ok (.iconst 2, 1) := by decide +kernel
theorem dX7_baking_49 : decode cX7_baking 49 = .ok (.iaload, 1) := by decide +kernel
theorem dX7_baking_50 : decode cX7_baking 50 = .ok (.ishl, 1) := by decide +kernel
theorem dX7_baking_51 : decode cX7_baking 51 = .ok (.if_icmp .ge 121, 3) := by decide +kernel
theorem dX7_baking_54 : decode cX7_baking 54 = .ok (.aload_n 0, 1) := by decide +kernel
theorem dX7_baking_55 : decode cX7_baking 55 = .ok (.iload 7, 2) := by decide +kernel
theorem dX7_baking_57 : decode cX7_baking 57 = .ok (.invokevirtual 196, 3) := by decide +kernel
theorem dX7_baking_60 : decode cX7_baking 60 = .ok (.istore 8, 2) := by decide +kernel
theorem dX7_baking_62 : decode cX7_baking 62 = .ok (.iload 5, 2) := by decide +kernel
theorem dX7_baking_64 : decode cX7_baking 64 = .ok (.ifCond .lt 10, 3) := by decide +kernel
theorem dX7_baking_67 : decode cX7_baking 67 = .ok (.iload 8, 2) := by decide +kernel
theorem dX7_baking_69 : decode cX7_baking 69 = .ok (.iload 6, 2) := by decide +kernel
theorem dX7_baking_71 : decode cX7_baking 71 = .ok (.if_icmp .ge 95, 3) := by decide +kernel
theorem dX7_baking_74 : decode cX7_baking 74 = .ok (.iconst 0, 1) := by decide +kernel
theorem dX7_baking_75 : decode cX7_baking 75 = .ok (.istore 9, 2) := by decide +kernel
theorem dX7_baking_77 : decode cX7_baking 77 = .ok (.iload 9, 2) := by decide +kernel
theorem dX7_baking_79 : decode cX7_baking 79 = .ok (.aload_n 0, 1) := by decide +kernel
theorem dX7_baking_80 : decode cX7_baking 80 = .ok (.getfield 9, 3) := by decide +kernel
theorem dX7_baking_83 : decode cX7_baking 83 = .ok (.iconst 2, 1) := by decide +kernel
theorem dX7_baking_84 : decode cX7_baking 84 = .ok (.iaload, 1) := by decide +kernel
theorem dX7_baking_85 : decode cX7_baking 85 = .ok (.if_icmp .ge 44, 3) := by decide +kernel
theorem dX7_baking_88 : decode cX7_baking 88 = .ok (.aload_n 0, 1) := by decide +kernel
theorem dX7_baking_89 : decode cX7_baking 89 = .ok (.getfield 43, 3) := by decide +kernel
theorem dX7_baking_92 : decode cX7_baking 92 = .ok (.iload 9, 2) := by decide +kernel
theorem dX7_baking_94 : decode cX7_baking 94 = .ok (.iload 7, 2) := by decide +kernel
theorem dX7_baking_96 : decode cX7_baking 96 = .ok (.iload 9, 2) := by decide +kernel
theorem dX7_baking_98 : decode cX7_baking 98 = .ok (.ishr, 1) := by decide +kernel
theorem dX7_baking_99 : decode cX7_baking 99 = .ok (.iconst 1, 1) := by decide +kernel
theorem dX7_baking_100 : decode cX7_baking 100 = .ok (.iand, 1) := by decide +kernel
theorem dX7_baking_101 : decode cX7_baking 101 = .ok (.iconst 1, 1) := by decide +kernel
theorem dX7_baking_102 : decode cX7_baking 102 = .ok (.if_icmp .ne 14, 3) := by decide +kernel
theorem dX7_baking_105 : decode cX7_baking 105 = .ok (.aload_n 0, 1) := by decide +kernel
theorem dX7_baking_106 : decode cX7_baking 106 = .ok (.iload 9, 2) := by decide +kernel
theorem dX7_baking_108 : decode cX7_baking 108 = .ok (.iconst 0, 1) := by decide +kernel
theorem dX7_baking_109 : decode cX7_baking 109 = .ok (.iconst 0, 1) := by decide +kernel
theorem dX7_baking_110 : decode cX7_baking 110 = .ok (.invokevirtual 70, 3) := by decide +kernel
theorem dX7_baking_113 : decode cX7_baking 113 = .ok (.goto 9, 3) := by decide +kernel
theorem dX7_baking_116 : decode cX7_baking 116 = .ok (.aload_n 0, 1) := by decide +kernel
theorem dX7_baking_117 : decode cX7_baking 117 = .ok (.iload 9, 2) := by decide +kernel
theorem dX7_baking_119 : decode cX7_baking 119 = .ok (.invokevirtual 93, 3) := by decide +kernel
theorem dX7_baking_122 : decode cX7_baking 122 = .ok (.iastore, 1) := by decide +kernel
theorem dX7_baking_123 : decode cX7_baking 123 = .ok (.iinc 9 1, 3) := by decide +kernel
theorem dX7_baking_126 : decode cX7_baking 126 = .ok (.goto (-49), 3) := by decide +kernel
theorem dX7_baking_129 : decode cX7_baking 129 = .ok (.aload_n 0, 1) := by decide +kernel
theorem dX7_baking_130 : decode cX7_baking 130 = .ok (.iload_n 1, 1) := by decide +kernel
theorem dX7_baking_131 : decode cX7_baking 131 = .ok (.iload_n 2, 1) := by decide +kernel
theorem dX7_baking_132 : decode cX7_baking 132 = .ok (.iload_n 3, 1) := by decide +kernel
theorem dX7_baking_133 : decode cX7_baking 133 = .ok (.invokevirtual 192, 3) := by decide +kernel
theorem dX7_baking_136 : decode cX7_baking 136 = .ok (.istore 9, 2) := by decide +kernel
theorem dX7_baking_138 : decode cX7_baking 138 = .ok (.iload 9, 2) := by decide +kernel
theorem dX7_baking_140 : decode cX7_baking 140 = .ok (.ifCond .eq 8, 3) := by decide +kernel
theorem dX7_baking_143 : decode cX7_baking 143 = .ok (.iload 7, 2) := by decide +kernel
theorem dX7_baking_145 : decode cX7_baking 145 = .ok (.goto 5, 3) := by decide +kernel
theorem dX7_baking_148 : decode cX7_baking 148 = .ok (.iload 5, 2) := by decide +kernel
theorem dX7_baking_150 : decode cX7_baking 150 = .ok (.istore 5, 2) := by decide +kernel
theorem dX7_baking_152 : decode cX7_baking 152 = .ok (.iload 9, 2) := by decide +kernel
theorem dX7_baking_154 : decode cX7_baking 154 = .ok (.ifCond .eq 8, 3) := by decide +kernel
theorem dX7_baking_157 : decode cX7_baking 157 = .ok (.iload 8, 2) := by decide +kernel
theorem dX7_baking_159 : decode cX7_baking 159 = .ok (.goto 5, 3) := by decide +kernel
theorem dX7_baking_162 : decode cX7_baking 162 = .ok (.iload 6, 2) := by decide +kernel
theorem dX7_baking_164 : decode cX7_baking 164 = .ok (.istore 6, 2) := by decide +kernel
theorem dX7_baking_166 : decode cX7_baking 166 = .ok (.iinc 7 1, 3) := by decide +kernel
theorem dX7_baking_169 : decode cX7_baking 169 = .ok (.goto (-128), 3) := by decide +kernel
theorem dX7_baking_172 : decode cX7_baking 172 = .ok (.iload 5, 2) := by decide +kernel
theorem dX7_baking_174 : decode cX7_baking 174 = .ok (.ifCond .ge 12, 3) := by decide +kernel
theorem dX7_baking_177 : decode cX7_baking 177 = .ok (.aload_n 0, 1) := by decide +kernel
theorem dX7_baking_178 : decode cX7_baking 178 = .ok (.ldc 195, 2) := by decide +kernel
theorem dX7_baking_180 : decode cX7_baking 180 = .ok (.invokevirtual 81, 3) := by decide +kernel
theorem dX7_baking_183 : decode cX7_baking 183 = .ok (.goto 15, 3) := by decide +kernel
theorem dX7_baking_186 : decode cX7_baking 186 = .ok (.iload 4, 2) := by decide +kernel
theorem dX7_baking_188 : decode cX7_baking 188 = .ok (.ifCond .ne 8, 3) := by decide +kernel
theorem dX7_baking_191 : decode cX7_baking 191 = .ok (.iload 6, 2) := by decide +kernel
theorem dX7_baking_193 : decode cX7_baking 193 = .ok (.goto 5, 3) := by decide +kernel
theorem dX7_baking_196 : decode cX7_baking 196 = .ok (.iload 5, 2) := by decide +kernel
theorem dX7_baking_198 : decode cX7_baking 198 = .ok (.ireturn, 1) := by decide +kernel
theorem dX7_eating_0 : decode cX7_eating 0 = .ok (.iload_n 1, 1) := by decide +kernel
theorem dX7_eating_1 : decode cX7_eating 1 = .ok (.iload_n 2, 1) := by decide +kernel
theorem dX7_eating_2 : decode cX7_eating 2 = .ok (.invokestatic 76, 3) := by decide +kernel
theorem dX7_eating_5 : decode cX7_eating 5 = .ok (.ifCond .eq 20, 3) := by decide +kernel
theorem dX7_eating_8 : decode cX7_eating 8 = .ok (.iload_n 3, 1) := by decide +kernel
theorem dX7_eating_9 : decode cX7_eating 9 = .ok (.invokestatic 109, 3) := by decide +kernel
theorem dX7_eating_12 : decode cX7_eating 12 = .ok (.ifCond .eq 13, 3) := by decide +kernel
theorem dX7_eating_15 : decode cX7_eating 15 = .ok (.iload 4, 2) := by decide +kernel
theorem dX7_eating_17 : decode cX7_eating 17 = .ok (.iconst 0, 1) := by decide +kernel
theorem dX7_eating_18 : decode cX7_eating 18 = .ok (.iconst 1, 1) := by decide +kernel
theorem dX7_eating_19 : decode cX7_eating 19 = .ok (.invokestatic 54, 3) := by decide +kernel
theorem dX7_eating_22 : decode cX7_eating 22 = .ok (.ifCond .ne 10, 3) := by decide +kernel
theorem dX7_eating_25 : decode cX7_eating 25 = .ok (.aload_n 0, 1) := by decide +kernel
theorem dX7_eating_26 : decode cX7_eating 26 = .ok (.ldc 80, 2) := by decide +kernel
theorem dX7_eating_28 : decode cX7_eating 28 = .ok (.invokevirtual 81, 3) := by decide +kernel
theorem dX7_eating_31 : decode cX7_eating 31 = .ok (.ireturn, 1) := by decide +kernel
theorem dX7_eating_32 : decode cX7_eating 32 = .ok (.iconst (-1), 1) := by decide +kernel
theorem dX7_eating_33 : decode cX7_eating 33 = .ok (.istore 5, 2) := by decide +kernel
theorem dX7_eating_35 : decode cX7_eating 35 = .ok (.iconst 0, 1) := by decide +kernel
theorem dX7_eating_36 : decode cX7_eating 36 = .ok (.istore 6, 2) := by decide +kernel
theorem dX7_eating_38 : decode cX7_eating 38 = .ok (.iload 6, 2) := by decide +kernel
theorem dX7_eating_40 : decode cX7_eating 40 = .ok (.iconst 1, 1) := by decide +kernel
theorem dX7_eating_41 : decode cX7_eating 41 = .ok (.aload_n 0, 1) := by decide +kernel
theorem dX7_eating_42 : decode cX7_eating 42 = .ok (.getfield 9, 3) := by decide +kernel
theorem dX7_eating_45 : decode cX7_eating 45 = .ok (.iconst 2, 1) := by decide +kernel
theorem dX7_eating_46 : decode cX7_eating 46 = .ok (.iaload, 1) := by decide +kernel
theorem dX7_eating_47 : decode cX7_eating 47 = .ok (.ishl, 1) := by decide +kernel
theorem dX7_eating_48 : decode cX7_eating 48 = .ok (.if_icmp .ge 94, 3) := by decide +kernel
theorem dX7_eating_51 : decode cX7_eating 51 = .ok (.iload 5, 2) := by decide +kernel
theorem dX7_eating_53 : decode cX7_eating 53 = .ok (.ifCond .lt 16, 3) := by decide +kernel
theorem dX7_eating_56 : decode cX7_eating 56 = .ok (.iload 6, 2) := by decide +kernel
theorem dX7_eating_58 : decode cX7_eating 58 = .ok (.invokestatic 199, 3) := by decide +kernel
theorem dX7_eating_61 : decode cX7_eating 61 = .ok (.iload 5, 2) := by decide +kernel
theorem dX7_eating_63 : decode cX7_eating 63 = .ok (.invokestatic 199, 3) := by decide +kernel
theorem dX7_eating_66 : decode cX7_eating 66 = .ok (.if_icmp .ge 70, 3) := by decide +kernel
theorem dX7_eating_69 : decode cX7_eating 69 = .ok (.iconst 0, 1) := by decide +kernel
theorem dX7_eating_70 : decode cX7_eating 70 = .ok (.istore 7, 2) := by decide +kernel
theorem dX7_eating_72 : decode cX7_eating 72 = .ok (.iload 7, 2) := by decide +kernel
theorem dX7_eating_74 : decode cX7_eating 74 = .ok (.aload_n 0, 1) := by decide +kernel
theorem dX7_eating_75 : decode cX7_eating 75 = .ok (.getfield 9, 3) := by decide +kernel
theorem dX7_eating_78 : decode cX7_eating 78 = .ok (.iconst 2, 1) := by decide +kernel
theorem dX7_eating_79 : decode cX7_eating 79 = .ok (.iaload, 1) := by decide +kernel
theorem dX7_eating_80 : decode cX7_eating 80 = .ok (.if_icmp .ge 37, 3) := by decide +kernel
theorem dX7_eating_83 : decode cX7_eating 83 = .ok (.aload_n 0, 1) := by decide +kernel
theorem dX7_eating_84 : decode cX7_eating 84 = .ok (.getfield 43, 3) := by decide +kernel
theorem dX7_eating_87 : decode cX7_eating 87 = .ok (.iload 7, 2) := by decide +kernel
theorem dX7_eating_89 : decode cX7_eating 89 = .ok (.iload 6, 2) := by decide +kernel
theorem dX7_eating_91 : decode cX7_eating 91 = .ok (.iload 7, 2) := by decide +kernel
theorem dX7_eating_93 : decode cX7_eating 93 = .ok (.ishr, 1) := by decide +kernel
theorem dX7_eating_94 : decode cX7_eating 94 = .ok (.iconst 1, 1) := by decide +kernel
theorem dX7_eating_95 : decode cX7_eating 95 = .ok (.iand, 1) := by decide +kernel
theorem dX7_eating_96 : decode cX7_eating 96 = .ok (.iconst 1, 1) := by decide +kernel
theorem dX7_eating_97 : decode cX7_eating 97 = .ok (.if_icmp .ne 7, 3) := by decide +kernel
theorem dX7_eating_100 : decode cX7_eating 100 = .ok (.iconst (-1), 1) := by decide +kernel
theorem dX7_eating_101 : decode cX7_eating 101 = .ok (.goto 9, 3) := by decide +kernel
theorem dX7_eating_104 : decode cX7_eating 104 = .ok (.aload_n 0, 1) := by decide +kernel
theorem dX7_eating_105 : decode cX7_eating 105 = .ok (.iload 7, 2) := by decide +kernel
theorem dX7_eating_107 : decode cX7_eating 107 = .ok (.invokevirtual 93, 3) := by decide +kernel
theorem dX7_eating_110 : decode cX7_eating 110 = .ok (.iastore, 1) := by decide +kernel
theorem dX7_eating_111 : decode cX7_eating 111 = .ok (.iinc 7 1, 3) := by decide +kernel
theorem dX7_eating_114 : decode cX7_eating 114 = .ok (.goto (-42), 3) := by decide +kernel
theorem dX7_eating_117 : decode cX7_eating 117 = .ok (.aload_n 0, 1) := by decide +kernel
theorem dX7_eating_118 : decode cX7_eating 118 = .ok (.iload_n 1, 1) := by decide +kernel
theorem dX7_eating_119 : decode cX7_eating 119 = .ok (.iload_n 2, 1) := by decide +kernel
theorem dX7_eating_120 : decode cX7_eating 120 = .ok (.iload_n 3, 1) := by decide +kernel
theorem dX7_eating_121 : decode cX7_eating 121 = .ok (.invokevirtual 192, 3) := by decide +kernel
theorem dX7_eating_124 : decode cX7_eating 124 = .ok (.ifCond .eq 8, 3) := by decide +kernel
theorem dX7_eating_127 : decode cX7_eating 127 = .ok (.iload 5, 2) := by decide +kernel
theorem dX7_eating_129 : decode cX7_eating 129 = .ok (.goto 5, 3) := by decide +kernel
theorem dX7_eating_132 : decode cX7_eating 132 = .ok (.iload 6, 2) := by decide +kernel
theorem dX7_eating_134 : decode cX7_eating 134 = .ok (.istore 5, 2) := by decide +kernel
theorem dX7_eating_136 : decode cX7_eating 136 = .ok (.iinc 6 1, 3) := by decide +kernel
theorem dX7_eating_139 : decode cX7_eating 139 = .ok (.goto (-101), 3) := by decide +kernel
theorem dX7_eating_142 : decode cX7_eating 142 = .ok (.iload 4, 2) := by decide +kernel
theorem dX7_eating_144 : decode cX7_eating 144 = .ok (.ifCond .ne 11, 3) := by decide +kernel
theorem dX7_eating_147 : decode cX7_eating 147 = .ok (.iload 5, 2) := by decide +kernel
theorem dX7_eating_149 : decode cX7_eating 149 = .ok (.invokestatic 199, 3) := by decide +kernel
theorem dX7_eating_152 : decode cX7_eating 152 = .ok (.goto 5, 3) := by decide +kernel
theorem dX7_eating_155 : decode cX7_eating 155 = .ok (.iload 5, 2) := by decide +kernel
theorem dX7_eating_157 : decode cX7_eating 157 = .ok (.ireturn, 1) := by decide +kernel
theorem dX7_lasts_0 : decode cX7_lasts 0 = .ok (.iload_n 1, 1) := by decide +kernel
theorem dX7_lasts_1 : decode cX7_lasts 1 = .ok (.iload_n 2, 1) := by decide +kernel
theorem dX7_lasts_2 : decode cX7_lasts 2 = .ok (.invokestatic 76, 3) := by decide +kernel
theorem dX7_lasts_5 : decode cX7_lasts 5 = .ok (.ifCond .eq 10, 3) := by decide +kernel
theorem dX7_lasts_8 : decode cX7_lasts 8 = .ok (.iload_n 3, 1) := by decide +kernel
theorem dX7_lasts_9 : decode cX7_lasts 9 = .ok (.invokestatic 109, 3) := by decide +kernel
theorem dX7_lasts_12 : decode cX7_lasts 12 = .ok (.ifCond .ne 10, 3) := by decide +kernel
theorem dX7_lasts_15 : decode cX7_lasts 15 = .ok (.aload_n 0, 1) := by decide +kernel
theorem dX7_lasts_16 : decode cX7_lasts 16 = .ok (.ldc 80, 2) := by decide +kernel
theorem dX7_lasts_18 : decode cX7_lasts 18 = .ok (.invokevirtual 81, 3) := by decide +kernel
theorem dX7_lasts_21 : decode cX7_lasts 21 = .ok (.ireturn, 1) := by decide +kernel
theorem dX7_lasts_22 : decode cX7_lasts 22 = .ok (.aload_n 0, 1) := by decide +kernel
theorem dX7_lasts_23 : decode cX7_lasts 23 = .ok (.invokevirtual 202, 3) := by decide +kernel
theorem dX7_lasts_26 : decode cX7_lasts 26 = .ok (.iconst 0, 1) := by decide +kernel
theorem dX7_lasts_27 : decode cX7_lasts 27 = .ok (.istore 4, 2) := by decide +kernel
theorem dX7_lasts_29 : decode cX7_lasts 29 = .ok (.iload 4, 2) := by decide +kernel
theorem dX7_lasts_31 : decode cX7_lasts 31 = .ok (.bipush 60, 2) := by decide +kernel
theorem dX7_lasts_33 : decode cX7_lasts 33 = .ok (.if_icmp .gt 23, 3) := by decide +kernel
theorem dX7_lasts_36 : decode cX7_lasts 36 = .ok (.aload_n 0, 1) := by decide +kernel
theorem dX7_lasts_37 : decode cX7_lasts 37 = .ok (.iload_n 1, 1) := by decide +kernel
theorem dX7_lasts_38 : decode cX7_lasts 38 = .ok (.iload_n 2, 1) := by decide +kernel
theorem dX7_lasts_39 : decode cX7_lasts 39 = .ok (.iload_n 3, 1) := by decide +kernel
theorem dX7_lasts_40 : decode cX7_lasts 40 = .ok (.invokevirtual 205, 3) := by decide +kernel
theorem dX7_lasts_43 : decode cX7_lasts 43 = .ok (.ifCond .eq 13, 3) := by decide +kernel
theorem dX7_lasts_46 : decode cX7_lasts 46 = .ok (.aload_n 0, 1) := by decide +kernel
theorem dX7_lasts_47 : decode cX7_lasts 47 = .ok (.invokevirtual 176, 3) := by decide +kernel
theorem dX7_lasts_50 : decode cX7_lasts 50 = .ok (.iinc 4 1, 3) := by decide +kernel
theorem dX7_lasts_53 : decode cX7_lasts 53 = .ok (.goto (-24), 3) := by decide +kernel
theorem dX7_lasts_56 : decode cX7_lasts 56 = .ok (.aload_n 0, 1) := by decide +kernel
theorem dX7_lasts_57 : decode cX7_lasts 57 = .ok (.invokevirtual 208, 3) := by decide +kernel
theorem dX7_lasts_60 : decode cX7_lasts 60 = .ok (.iload 4, 2) := by decide +kernel
theorem dX7_lasts_62 : decode cX7_lasts 62 = .ok (.bipush 60, 2) := by decide +kernel
theorem dX7_lasts_64 : decode cX7_lasts 64 = .ok (.if_icmp .le 12, 3) := by decide +kernel
theorem dX7_lasts_67 : decode cX7_lasts 67 = .ok (.aload_n 0, 1) := by decide +kernel
theorem dX7_lasts_68 : decode cX7_lasts 68 = .ok (.ldc 195, 2) := by decide +kernel
theorem dX7_lasts_70 : decode cX7_lasts 70 = .ok (.invokevirtual 81, 3) := by decide +kernel
theorem dX7_lasts_73 : decode cX7_lasts 73 = .ok (.goto 5, 3) := by decide +kernel
theorem dX7_lasts_76 : decode cX7_lasts 76 = .ok (.iload 4, 2) := by decide +kernel
theorem dX7_lasts_78 : decode cX7_lasts 78 = .ok (.ireturn, 1) := by decide +kernel
theorem dX7_then_0 : decode cX7_then 0 = .ok (.aload_n 0, 1) := by decide +kernel
theorem dX7_then_1 : decode cX7_then 1 = .ok (.iload_n 1, 1) := by decide +kernel
theorem dX7_then_2 : decode cX7_then 2 = .ok (.invokevirtual 90, 3) := by decide +kernel
theorem dX7_then_5 : decode cX7_then 5 = .ok (.ifCond .eq 13, 3) := by decide +kernel
theorem dX7_then_8 : decode cX7_then 8 = .ok (.iload_n 2, 1) := by decide +kernel
theorem dX7_then_9 : decode cX7_then 9 = .ok (.iconst 0, 1) := by decide +kernel
theorem dX7_then_10 : decode cX7_then 10 = .ok (.bipush 60, 2) := by decide +kernel
theorem dX7_then_12 : decode cX7_then 12 = .ok (.invokestatic 54, 3) := by decide +kernel
theorem dX7_then_15 : decode cX7_then 15 = .ok (.ifCond .ne 10, 3) := by decide +kernel
theorem dX7_then_18 : decode cX7_then 18 = .ok (.aload_n 0, 1) := by decide +kernel
theorem dX7_then_19 : decode cX7_then 19 = .ok (.ldc 80, 2) := by decide +kernel
theorem dX7_then_21 : decode cX7_then 21 = .ok (.invokevirtual 81, 3) := by decide +kernel
theorem dX7_then_24 : decode cX7_then 24 = .ok (.ireturn, 1) := by decide +kernel
theorem dX7_then_25 : decode cX7_then 25 = .ok (.aload_n 0, 1) := by decide +kernel
theorem dX7_then_26 : decode cX7_then 26 = .ok (.invokevirtual 202, 3) := by decide +kernel
theorem dX7_then_29 : decode cX7_then 29 = .ok (.iconst 0, 1) := by decide +kernel
theorem dX7_then_30 : decode cX7_then 30 = .ok (.istore_n 3, 1) := by decide +kernel
theorem dX7_then_31 : decode cX7_then 31 = .ok (.iload_n 3, 1) := by decide +kernel
theorem dX7_then_32 : decode cX7_then 32 = .ok (.iload_n 2, 1) := by decide +kernel
theorem dX7_then_33 : decode cX7_then 33 = .ok (.if_icmp .ge 13, 3) := by decide +kernel
theorem dX7_then_36 : decode cX7_then 36 = .ok (.aload_n 0, 1) := by decide +kernel
theorem dX7_then_37 : decode cX7_then 37 = .ok (.invokevirtual 176, 3) := by decide +kernel
theorem dX7_then_40 : decode cX7_then 40 = .ok (.iinc 3 1, 3) := by decide +kernel
theorem dX7_then_43 : decode cX7_then 43 = .ok (.goto (-12), 3) := by decide +kernel
theorem dX7_then_46 : decode cX7_then 46 = .ok (.aload_n 0, 1) := by decide +kernel
theorem dX7_then_47 : decode cX7_then 47 = .ok (.iload_n 1, 1) := by decide +kernel
theorem dX7_then_48 : decode cX7_then 48 = .ok (.invokevirtual 93, 3) := by decide +kernel
theorem dX7_then_51 : decode cX7_then 51 = .ok (.istore_n 3, 1) := by decide +kernel
theorem dX7_then_52 : decode cX7_then 52 = .ok (.aload_n 0, 1) := by decide +kernel
theorem dX7_then_53 : decode cX7_then 53 = .ok (.invokevirtual 208, 3) := by decide +kernel
theorem dX7_then_56 : decode cX7_then 56 = .ok (.iload_n 3, 1) := by decide +kernel
theorem dX7_then_57 : decode cX7_then 57 = .ok (.ireturn, 1) := by decide +kernel
theorem dX7_odds_0 : decode cX7_odds 0 = .ok (.iload_n 1, 1) := by decide +kernel
theorem dX7_odds_1 : decode cX7_odds 1 = .ok (.iload_n 2, 1) := by decide +kernel
theorem dX7_odds_2 : decode cX7_odds 2 = .ok (.invokestatic 76, 3) := by decide +kernel
theorem dX7_odds_5 : decode cX7_odds 5 = .ok (.ifCond .eq 20, 3) := by decide +kernel
theorem dX7_odds_8 : decode cX7_odds 8 = .ok (.iload_n 3, 1) := by decide +kernel
theorem dX7_odds_9 : decode cX7_odds 9 = .ok (.invokestatic 109, 3) := by decide +kernel
theorem dX7_odds_12 : decode cX7_odds 12 = .ok (.ifCond .eq 13, 3) := by decide +kernel
theorem dX7_odds_15 : decode cX7_odds 15 = .ok (.iload 4, 2) := by decide +kernel
theorem dX7_odds_17 : decode cX7_odds 17 = .ok (.iconst 0, 1) := by decide +kernel
theorem dX7_odds_18 : decode cX7_odds 18 = .ok (.iconst 1, 1) := by decide +kernel
theorem dX7_odds_19 : decode cX7_odds 19 = .ok (.invokestatic 54, 3) := by decide +kernel
theorem dX7_odds_22 : decode cX7_odds 22 = .ok (.ifCond .ne 10, 3) := by decide +kernel
theorem dX7_odds_25 : decode cX7_odds 25 = .ok (.aload_n 0, 1) := by decide +kernel
theorem dX7_odds_26 : decode cX7_odds 26 = .ok (.ldc 80, 2) := by decide +kernel
theorem dX7_odds_28 : decode cX7_odds 28 = .ok (.invokevirtual 81, 3) := by decide +kernel
theorem dX7_odds_31 : decode cX7_odds 31 = .ok (.ireturn, 1) := by decide +kernel
theorem dX7_odds_32 : decode cX7_odds 32 = .ok (.aload_n 0, 1) := by decide +kernel
theorem dX7_odds_33 : decode cX7_odds 33 = .ok (.invokevirtual 202, 3) := by decide +kernel
theorem dX7_odds_36 : decode cX7_odds 36 = .ok (.iconst 0, 1) := by decide +kernel
theorem dX7_odds_37 : decode cX7_odds 37 = .ok (.istore 5, 2) := by decide +kernel
theorem dX7_odds_39 : decode cX7_odds 39 = .ok (.iconst 0, 1) := by decide +kernel
theorem dX7_odds_40 : decode cX7_odds 40 = .ok (.istore 6, 2) := by decide +kernel
theorem dX7_odds_42 : decode cX7_odds 42 = .ok (.iload 6, 2) := by decide +kernel
theorem dX7_odds_44 : decode cX7_odds 44 = .ok (.bipush 10, 2) := by decide +kernel
theorem dX7_odds_46 : decode cX7_odds 46 = .ok (.if_icmp .ge 45, 3) := by decide +kernel
theorem dX7_odds_49 : decode cX7_odds 49 = .ok (.aload_n 0, 1) := by decide +kernel
theorem dX7_odds_50 : decode cX7_odds 50 = .ok (.getfield 9, 3) := by decide +kernel
theorem dX7_odds_53 : decode cX7_odds 53 = .ok (.iconst 4, 1) := by decide +kernel
theorem dX7_odds_54 : decode cX7_odds 54 = .ok (.iload 6, 2) := by decide +kernel
theorem dX7_odds_56 : decode cX7_odds 56 = .ok (.iastore, 1) := by decide +kernel
theorem dX7_odds_57 : decode cX7_odds 57 = .ok (.aload_n 0, 1) := by decide +kernel
theorem dX7_odds_58 : decode cX7_odds 58 = .ok (.invokevirtual 176, 3) := by decide +kernel
theorem dX7_odds_61 : decode cX7_odds 61 = .ok (.iload 5, 2) := by decide +kernel
theorem dX7_odds_63 : decode cX7_odds 63 = .ok (.aload_n 0, 1) := by decide +kernel
theorem dX7_odds_64 : decode cX7_odds 64 = .ok (.iload_n 1, 1) := by decide +kernel
theorem dX7_odds_65 : decode cX7_odds 65 = .ok (.iload_n 2, 1) := by decide +kernel
theorem dX7_odds_66 : decode cX7_odds 66 = .ok (.iload_n 3, 1) := by decide +kernel
theorem dX7_odds_67 : decode cX7_odds 67 = .ok (.invokevirtual 205, 3) := by decide +kernel
theorem dX7_odds_70 : decode cX7_odds 70 = .ok (.ifCond .eq 7, 3) := by decide +kernel
theorem dX7_odds_73 : decode cX7_odds 73 = .ok (.iconst 1, 1) := by decide +kernel
theorem dX7_odds_74 : decode cX7_odds 74 = .ok (.goto 4, 3) := by decide +kernel
theorem dX7_odds_77 : decode cX7_odds 77 = .ok (.iconst 0, 1) := by decide +kernel
theorem dX7_odds_78 : decode cX7_odds 78 = .ok (.iadd, 1) := by decide +kernel
theorem dX7_odds_79 : decode cX7_odds 79 = .ok (.istore 5, 2) := by decide +kernel
theorem dX7_odds_81 : decode cX7_odds 81 = .ok (.aload_n 0, 1) := by decide +kernel
theorem dX7_odds_82 : decode cX7_odds 82 = .ok (.invokevirtual 208, 3) := by decide +kernel
theorem dX7_odds_85 : decode cX7_odds 85 = .ok (.iinc 6 1, 3) := by decide +kernel
theorem dX7_odds_88 : decode cX7_odds 88 = .ok (.goto (-46), 3) := by decide +kernel
theorem dX7_odds_91 : decode cX7_odds 91 = .ok (.bipush 10, 2) := by decide +kernel
theorem dX7_odds_93 : decode cX7_odds 93 = .ok (.istore 6, 2) := by decide +kernel
theorem dX7_odds_95 : decode cX7_odds 95 = .ok (.bipush 10, 2) := by decide +kernel
theorem dX7_odds_97 : decode cX7_odds 97 = .ok (.istore 7, 2) := by decide +kernel
theorem dX7_odds_99 : decode cX7_odds 99 = .ok (.iload 7, 2) := by decide +kernel
theorem dX7_odds_101 : decode cX7_odds 101 = .ok (.iconst 1, 1) := by decide +kernel
theorem dX7_odds_102 : decode cX7_odds 102 = .ok (.if_icmp .le 39, 3) := by decide +kernel
theorem dX7_odds_105 : decode cX7_odds 105 = .ok (.iload 5, 2) := by decide +kernel
theorem dX7_odds_107 : decode cX7_odds 107 = .ok (.iload 7, 2) := by decide +kernel
theorem dX7_odds_109 : decode cX7_odds 109 = .ok (.irem, 1) := by decide +kernel
theorem dX7_odds_110 : decode cX7_odds 110 = .ok (.ifCond .ne 25, 3) := by decide +kernel
theorem dX7_odds_113 : decode cX7_odds 113 = .ok (.iload 6, 2) := by decide +kernel
theorem dX7_odds_115 : decode cX7_odds 115 = .ok (.iload 7, 2) := by decide +kernel
theorem dX7_odds_117 : decode cX7_odds 117 = .ok (.irem, 1) := by decide +kernel
theorem dX7_odds_118 : decode cX7_odds 118 = .ok (.ifCond .ne 17, 3) := by decide +kernel
theorem dX7_odds_121 : decode cX7_odds 121 = .ok (.iload 5, 2) := by decide +kernel
theorem dX7_odds_123 : decode cX7_odds 123 = .ok (.iload 7, 2) := by decide +kernel
theorem dX7_odds_125 : decode cX7_odds 125 = .ok (.idiv, 1) := by decide +kernel
theorem dX7_odds_126 : decode cX7_odds 126 = .ok (.istore 5, 2) := by decide +kernel
theorem dX7_odds_128 : decode cX7_odds 128 = .ok (.iload 6, 2) := by decide +kernel
theorem dX7_odds_130 : decode cX7_odds 130 = .ok (.iload 7, 2) := by decide +kernel
theorem dX7_odds_132 : decode cX7_odds 132 = .ok (.idiv, 1) := by decide +kernel
theorem dX7_odds_133 : decode cX7_odds 133 = .ok (.istore 6, 2) := by decide +kernel
theorem dX7_odds_135 : decode cX7_odds 135 = .ok (.iinc 7 (-1), 3) := by decide +kernel
theorem dX7_odds_138 : decode cX7_odds 138 = .ok (.goto (-39), 3) := by decide +kernel
theorem dX7_odds_141 : decode cX7_odds 141 = .ok (.iload 4, 2) := by decide +kernel
theorem dX7_odds_143 : decode cX7_odds 143 = .ok (.ifCond .ne 8, 3) := by decide +kernel
theorem dX7_odds_146 : decode cX7_odds 146 = .ok (.iload 5, 2) := by decide +kernel
theorem dX7_odds_148 : decode cX7_odds 148 = .ok (.goto 5, 3) := by decide +kernel
theorem dX7_odds_151 : decode cX7_odds 151 = .ok (.iload 6, 2) := by decide +kernel
theorem dX7_odds_153 : decode cX7_odds 153 = .ok (.ireturn, 1) := by decide +kernel
theorem dX7_rightOf_0 : decode cX7_rightOf 0 = .ok (.iconst 0, 1) := by decide +kernel
theorem dX7_rightOf_1 : decode cX7_rightOf 1 = .ok (.istore_n 2, 1) := by decide +kernel
theorem dX7_rightOf_2 : decode cX7_rightOf 2 = .ok (.iload_n 2, 1) := by decide +kernel
theorem dX7_rightOf_3 : decode cX7_rightOf 3 = .ok (.aload_n 0, 1) := by decide +kernel
theorem dX7_rightOf_4 : decode cX7_rightOf 4 = .ok (.getfield 25, 3) := by decide +kernel
theorem dX7_rightOf_7 : decode cX7_rightOf 7 = .ok (.iload_n 1, 1) := by decide +kernel
theorem dX7_rightOf_8 : decode cX7_rightOf 8 = .ok (.iaload, 1) := by decide +kernel
theorem dX7_rightOf_9 : decode cX7_rightOf 9 = .ok (.if_icmp .ge 38, 3) := by decide +kernel
theorem dX7_rightOf_12 : decode cX7_rightOf 12 = .ok (.iload_n 2, 1) := by decide +kernel
theorem dX7_rightOf_13 : decode cX7_rightOf 13 = .ok (.aload_n 0, 1) := by decide +kernel
theorem dX7_rightOf_14 : decode cX7_rightOf 14 = .ok (.getfield 9, 3) := by decide +kernel
theorem dX7_rightOf_17 : decode cX7_rightOf 17 = .ok (.iconst 2, 1) := by decide +kernel
theorem dX7_rightOf_18 : decode cX7_rightOf 18 = .ok (.iaload, 1) := by decide +kernel
theorem dX7_rightOf_19 : decode cX7_rightOf 19 = .ok (.if_icmp .ge 28, 3) := by decide +kernel
theorem dX7_rightOf_22 : decode cX7_rightOf 22 = .ok (.aload_n 0, 1) := by decide +kernel
theorem dX7_rightOf_23 : decode cX7_rightOf 23 = .ok (.getfield 28, 3) := by decide +kernel
theorem dX7_rightOf_26 : decode cX7_rightOf 26 = .ok (.bipush 24, 2) := by decide +kernel
theorem dX7_rightOf_28 : decode cX7_rightOf 28 = .ok (.iload_n 1, 1) := by decide +kernel
theorem dX7_rightOf_29 : decode cX7_rightOf 29 = .ok (.imul, 1) := by decide +kernel
theorem dX7_rightOf_30 : decode cX7_rightOf 30 = .ok (.iload_n 2, 1) := by decide +kernel
theorem dX7_rightOf_31 : decode cX7_rightOf 31 = .ok (.iadd, 1) := by decide +kernel
theorem dX7_rightOf_32 : decode cX7_rightOf 32 = .ok (.iaload, 1) := by decide +kernel
theorem dX7_rightOf_33 : decode cX7_rightOf 33 = .ok (.aload_n 0, 1) := by decide +kernel
theorem dX7_rightOf_34 : decode cX7_rightOf 34 = .ok (.iload_n 2, 1) := by decide +kernel
theorem dX7_rightOf_35 : decode cX7_rightOf 35 = .ok (.invokevirtual 93, 3) := by decide +kernel
theorem dX7_rightOf_38 : decode cX7_rightOf 38 = .ok (.if_icmp .ne 9, 3) := by decide +kernel
theorem dX7_rightOf_41 : decode cX7_rightOf 41 = .ok (.iinc 2 1, 3) := by decide +kernel
theorem dX7_rightOf_44 : decode cX7_rightOf 44 = .ok (.goto (-42), 3) := by decide +kernel
theorem dX7_rightOf_47 : decode cX7_rightOf 47 = .ok (.iload_n 2, 1) := by decide +kernel
theorem dX7_rightOf_48 : decode cX7_rightOf 48 = .ok (.ireturn, 1) := by decide +kernel
theorem dX7_fits_0 : decode cX7_fits 0 = .ok (.aload_n 0, 1) := by decide +kernel
theorem dX7_fits_1 : decode cX7_fits 1 = .ok (.iload_n 1, 1) := by decide +kernel
theorem dX7_fits_2 : decode cX7_fits 2 = .ok (.invokevirtual 211, 3) := by decide +kernel
theorem dX7_fits_5 : decode cX7_fits 5 = .ok (.istore_n 2, 1) := by decide +kernel
theorem dX7_fits_6 : decode cX7_fits 6 = .ok (.iload_n 2, 1) := by decide +kernel
theorem dX7_fits_7 : decode cX7_fits 7 = .ok (.ifCond .eq 9, 3) := by decide +kernel
theorem dX7_fits_10 : decode cX7_fits 10 = .ok (.aload_n 0, 1) := by decide +kernel
theorem dX7_fits_11 : decode cX7_fits 11 = .ok (.iload_n 2, 1) := by decide +kernel
theorem dX7_fits_12 : decode cX7_fits 12 = .ok (.invokevirtual 81, 3) := by decide +kernel
theorem dX7_fits_15 : decode cX7_fits 15 = .ok (.ireturn, 1) := by decide +kernel
theorem dX7_fits_16 : decode cX7_fits 16 = .ok (.aload_n 0, 1) := by decide +kernel
theorem dX7_fits_17 : decode cX7_fits 17 = .ok (.invokevirtual 202, 3) := by decide +kernel
theorem dX7_fits_20 : decode cX7_fits 20 = .ok (.iconst 0, 1) := by decide +kernel
theorem dX7_fits_21 : decode cX7_fits 21 = .ok (.istore_n 3, 1) := by decide +kernel
theorem dX7_fits_22 : decode cX7_fits 22 = .ok (.iload_n 3, 1) := by decide +kernel
theorem dX7_fits_23 : decode cX7_fits 23 = .ok (.bipush 60, 2) := by decide +kernel
theorem dX7_fits_25 : decode cX7_fits 25 = .ok (.if_icmp .gt 27, 3) := by decide +kernel
theorem dX7_fits_28 : decode cX7_fits 28 = .ok (.aload_n 0, 1) := by decide +kernel
theorem dX7_fits_29 : decode cX7_fits 29 = .ok (.iload_n 1, 1) := by decide +kernel
theorem dX7_fits_30 : decode cX7_fits 30 = .ok (.invokevirtual 214, 3) := by decide +kernel
theorem dX7_fits_33 : decode cX7_fits 33 = .ok (.aload_n 0, 1) := by decide +kernel
theorem dX7_fits_34 : decode cX7_fits 34 = .ok (.getfield 25, 3) := by decide +kernel
theorem dX7_fits_37 : decode cX7_fits 37 = .ok (.iload_n 1, 1) := by decide +kernel
theorem dX7_fits_38 : decode cX7_fits 38 = .ok (.iaload, 1) := by decide +kernel
theorem dX7_fits_39 : decode cX7_fits 39 = .ok (.if_icmp .ge 13, 3) := by decide +kernel
theorem dX7_fits_42 : decode cX7_fits 42 = .ok (.aload_n 0, 1) := by decide +kernel
theorem dX7_fits_43 : decode cX7_fits 43 = .ok (.invokevirtual 176, 3) := by decide +kernel
theorem dX7_fits_46 : decode cX7_fits 46 = .ok (.iinc 3 1, 3) := by decide +kernel
theorem dX7_fits_49 : decode cX7_fits 49 = .ok (.goto (-27), 3) := by decide +kernel
theorem dX7_fits_52 : decode cX7_fits 52 = .ok (.aload_n 0, 1) := by decide +kernel
theorem dX7_fits_53 : decode cX7_fits 53 = .ok (.invokevirtual 208, 3) := by decide +kernel
theorem dX7_fits_56 : decode cX7_fits 56 = .ok (.iload_n 3, 1) := by decide +kernel
theorem dX7_fits_57 : decode cX7_fits 57 = .ok (.bipush 60, 2) := by decide +kernel
theorem dX7_fits_59 : decode cX7_fits 59 = .ok (.if_icmp .le 12, 3) := by decide +kernel
theorem dX7_fits_62 : decode cX7_fits 62 = .ok (.aload_n 0, 1) := by decide +kernel
theorem dX7_fits_63 : decode cX7_fits 63 = .ok (.ldc 195, 2) := by decide +kernel
theorem dX7_fits_65 : decode cX7_fits 65 = .ok (.invokevirtual 81, 3) := by decide +kernel
theorem dX7_fits_68 : decode cX7_fits 68 = .ok (.goto 4, 3) := by decide +kernel
theorem dX7_fits_71 : decode cX7_fits 71 = .ok (.iload_n 3, 1) := by decide +kernel
theorem dX7_fits_72 : decode cX7_fits 72 = .ok (.ireturn, 1) := by decide +kernel
theorem dX7_begins_0 : decode cX7_begins 0 = .ok (.aload_n 0, 1) := by decide +kernel
theorem dX7_begins_1 : decode cX7_begins 1 = .ok (.getfield 217, 3) := by decide +kernel
theorem dX7_begins_4 : decode cX7_begins 4 = .ok (.bipush 30, 2) := by decide +kernel
theorem dX7_begins_6 : decode cX7_begins 6 = .ok (.if_icmp .ge 23, 3) := by decide +kernel
theorem dX7_begins_9 : decode cX7_begins 9 = .ok (.aload_n 0, 1) := by decide +kernel
theorem dX7_begins_10 : decode cX7_begins 10 = .ok (.getfield 46, 3) := by decide +kernel
theorem dX7_begins_13 : decode cX7_begins 13 = .ok (.aload_n 0, 1) := by decide +kernel
theorem dX7_begins_14 : decode cX7_begins 14 = .ok (.getfield 217, 3) := by decide +kernel
theorem dX7_begins_17 : decode cX7_begins 17 = .ok (.iload_n 1, 1) := by decide +kernel
theorem dX7_begins_18 : decode cX7_begins 18 = .ok (.iastore, 1) := by decide +kernel
theorem dX7_begins_19 : decode cX7_begins 19 = .ok (.aload_n 0, 1) := by decide +kernel
theorem dX7_begins_20 : decode cX7_begins 20 = .ok (.dup, 1) := by decide +kernel
theorem dX7_begins_21 : decode cX7_begins 21 = .ok (.getfield 217, 3) := by decide +kernel
theorem dX7_begins_24 : decode cX7_begins 24 = .ok (.iconst 1, 1) := by decide +kernel
theorem dX7_begins_25 : decode cX7_begins 25 = .ok (.iadd, 1) := by decide +kernel
theorem dX7_begins_26 : decode cX7_begins 26 = .ok (.putfield 217, 3) := by decide +kernel
theorem dX7_begins_29 : decode cX7_begins 29 = .ok (.return_, 1) := by decide +kernel
theorem dX7_plainCrusts_0 : decode cX7_plainCrusts 0 = .ok (.aload_n 0, 1) := by decide +kernel
theorem dX7_plainCrusts_1 : decode cX7_plainCrusts 1 = .ok (.bipush 10, 2) := by decide +kernel
theorem dX7_plainCrusts_3 : decode cX7_plainCrusts 3 = .ok (.invokevirtual 220, 3) := by decide +kernel
theorem dX7_plainCrusts_6 : decode cX7_plainCrusts 6 = .ok (.iload_n 2, 1) := by decide +kernel
theorem dX7_plainCrusts_7 : decode cX7_plainCrusts 7 = .ok (.iload_n 1, 1) := by decide +kernel
theorem dX7_plainCrusts_8 : decode cX7_plainCrusts 8 = .ok (.iadd, 1) := by decide +kernel
theorem dX7_plainCrusts_9 : decode cX7_plainCrusts 9 = .ok (.ireturn, 1) := by decide +kernel
theorem dX7_ryeCrusts_0 : decode cX7_ryeCrusts 0 = .ok (.aload_n 0, 1) := by decide +kernel
theorem dX7_ryeCrusts_1 : decode cX7_ryeCrusts 1 = .ok (.bipush 20, 2) := by decide +kernel
theorem dX7_ryeCrusts_3 : decode cX7_ryeCrusts 3 = .ok (.invokevirtual 220, 3) := by decide +kernel
theorem dX7_ryeCrusts_6 : decode cX7_ryeCrusts 6 = .ok (.aload_n 0, 1) := by decide +kernel
theorem dX7_ryeCrusts_7 : decode cX7_ryeCrusts 7 = .ok (.iload_n 1, 1) := by decide +kernel
theorem dX7_ryeCrusts_8 : decode cX7_ryeCrusts 8 = .ok (.iload_n 2, 1) := by decide +kernel
theorem dX7_ryeCrusts_9 : decode cX7_ryeCrusts 9 = .ok (.invokevirtual 223, 3) := by decide +kernel
theorem dX7_ryeCrusts_12 : decode cX7_ryeCrusts 12 = .ok (.iconst 4, 1) := by decide +kernel
theorem dX7_ryeCrusts_13 : decode cX7_ryeCrusts 13 = .ok (.isub, 1) := by decide +kernel
theorem dX7_ryeCrusts_14 : decode cX7_ryeCrusts 14 = .ok (.ireturn, 1) := by decide +kernel
theorem dX7_crusts_0 : decode cX7_crusts 0 = .ok (.aload_n 0, 1) := by decide +kernel
theorem dX7_crusts_1 : decode cX7_crusts 1 = .ok (.iload_n 1, 1) := by decide +kernel
theorem dX7_crusts_2 : decode cX7_crusts 2 = .ok (.iconst 0, 1) := by decide +kernel
theorem dX7_crusts_3 : decode cX7_crusts 3 = .ok (.invokevirtual 62, 3) := by decide +kernel
theorem dX7_crusts_6 : decode cX7_crusts 6 = .ok (.lookupswitch 65 #[(1, 34), (4, 41), (6, 56)], 34) := by decide +kernel
theorem dX7_crusts_40 : decode cX7_crusts 40 = .ok (.aload_n 0, 1) := by decide +kernel
theorem dX7_crusts_41 : decode cX7_crusts 41 = .ok (.iload_n 1, 1) := by decide +kernel
theorem dX7_crusts_42 : decode cX7_crusts 42 = .ok (.iload_n 2, 1) := by decide +kernel
theorem dX7_crusts_43 : decode cX7_crusts 43 = .ok (.invokevirtual 226, 3) := by decide +kernel
theorem dX7_crusts_46 : decode cX7_crusts 46 = .ok (.ireturn, 1) := by decide +kernel
theorem dX7_crusts_47 : decode cX7_crusts 47 = .ok (.aload_n 0, 1) := by decide +kernel
theorem dX7_crusts_48 : decode cX7_crusts 48 = .ok (.bipush 50, 2) := by decide +kernel
theorem dX7_crusts_50 : decode cX7_crusts 50 = .ok (.invokevirtual 220, 3) := by decide +kernel
theorem dX7_crusts_53 : decode cX7_crusts 53 = .ok (.aload_n 0, 1) := by decide +kernel
theorem dX7_crusts_54 : decode cX7_crusts 54 = .ok (.iload_n 1, 1) := by decide +kernel
theorem dX7_crusts_55 : decode cX7_crusts 55 = .ok (.iload_n 2, 1) := by decide +kernel
theorem dX7_crusts_56 : decode cX7_crusts 56 = .ok (.invokevirtual 226, 3) := by decide +kernel
theorem dX7_crusts_59 : decode cX7_crusts 59 = .ok (.iconst 3, 1) := by decide +kernel
theorem dX7_crusts_60 : decode cX7_crusts 60 = .ok (.imul, 1) := by decide +kernel
theorem dX7_crusts_61 : decode cX7_crusts 61 = .ok (.ireturn, 1) := by decide +kernel
theorem dX7_crusts_62 : decode cX7_crusts 62 = .ok (.aload_n 0, 1) := by decide +kernel
theorem dX7_crusts_63 : decode cX7_crusts 63 = .ok (.bipush 70, 2) := by decide +kernel
theorem dX7_crusts_65 : decode cX7_crusts 65 = .ok (.invokevirtual 220, 3) := by decide +kernel
theorem dX7_crusts_68 : decode cX7_crusts 68 = .ok (.bipush 9, 2) := by decide +kernel
theorem dX7_crusts_70 : decode cX7_crusts 70 = .ok (.ireturn, 1) := by decide +kernel
theorem dX7_crusts_71 : decode cX7_crusts 71 = .ok (.aload_n 0, 1) := by decide +kernel
theorem dX7_crusts_72 : decode cX7_crusts 72 = .ok (.iload_n 1, 1) := by decide +kernel
theorem dX7_crusts_73 : decode cX7_crusts 73 = .ok (.iload_n 2, 1) := by decide +kernel
theorem dX7_crusts_74 : decode cX7_crusts 74 = .ok (.invokevirtual 223, 3) := by decide +kernel
theorem dX7_crusts_77 : decode cX7_crusts 77 = .ok (.ireturn, 1) := by decide +kernel
theorem dX7_plainSteams_0 : decode cX7_plainSteams 0 = .ok (.aload_n 0, 1) := by decide +kernel
theorem dX7_plainSteams_1 : decode cX7_plainSteams 1 = .ok (.bipush 11, 2) := by decide +kernel
theorem dX7_plainSteams_3 : decode cX7_plainSteams 3 = .ok (.invokevirtual 220, 3) := by decide +kernel
theorem dX7_plainSteams_6 : decode cX7_plainSteams 6 = .ok (.aload_n 0, 1) := by decide +kernel
theorem dX7_plainSteams_7 : decode cX7_plainSteams 7 = .ok (.iload_n 1, 1) := by decide +kernel
theorem dX7_plainSteams_8 : decode cX7_plainSteams 8 = .ok (.iload_n 2, 1) := by decide +kernel
theorem dX7_plainSteams_9 : decode cX7_plainSteams 9 = .ok (.invokevirtual 229, 3) := by decide +kernel
theorem dX7_plainSteams_12 : decode cX7_plainSteams 12 = .ok (.iconst 2, 1) := by decide +kernel
theorem dX7_plainSteams_13 : decode cX7_plainSteams 13 = .ok (.imul, 1) := by decide +kernel
theorem dX7_plainSteams_14 : decode cX7_plainSteams 14 = .ok (.ireturn, 1) := by decide +kernel
theorem dX7_briocheSteams_0 : decode cX7_briocheSteams 0 = .ok (.aload_n 0, 1) := by decide +kernel
theorem dX7_briocheSteams_1 : decode cX7_briocheSteams 1 = .ok (.bipush 30, 2) := by decide +kernel
theorem dX7_briocheSteams_3 : decode cX7_briocheSteams 3 = .ok (.invokevirtual 220, 3) := by decide +kernel
theorem dX7_briocheSteams_6 : decode cX7_briocheSteams 6 = .ok (.aload_n 0, 1) := by decide +kernel
theorem dX7_briocheSteams_7 : decode cX7_briocheSteams 7 = .ok (.iload_n 1, 1) := by decide +kernel
theorem dX7_briocheSteams_8 : decode cX7_briocheSteams 8 = .ok (.iload_n 2, 1) := by decide +kernel
theorem dX7_briocheSteams_9 : decode cX7_briocheSteams 9 = .ok (.invokevirtual 232, 3) := by decide +kernel
theorem dX7_briocheSteams_12 : decode cX7_briocheSteams 12 = .ok (.ineg, 1) := by decide +kernel
theorem dX7_briocheSteams_13 : decode cX7_briocheSteams 13 = .ok (.ireturn, 1) := by decide +kernel
theorem dX7_steams_0 : decode cX7_steams 0 = .ok (.aload_n 0, 1) := by decide +kernel
theorem dX7_steams_1 : decode cX7_steams 1 = .ok (.iload_n 1, 1) := by decide +kernel
theorem dX7_steams_2 : decode cX7_steams 2 = .ok (.iconst 0, 1) := by decide +kernel
theorem dX7_steams_3 : decode cX7_steams 3 = .ok (.invokevirtual 62, 3) := by decide +kernel
theorem dX7_steams_6 : decode cX7_steams 6 = .ok (.tableswitch 76 2 6 #[34, 76, 76, 41, 56], 34) := by decide +kernel
theorem dX7_steams_40 : decode cX7_steams 40 = .ok (.aload_n 0, 1) := by decide +kernel
theorem dX7_steams_41 : decode cX7_steams 41 = .ok (.iload_n 1, 1) := by decide +kernel
theorem dX7_steams_42 : decode cX7_steams 42 = .ok (.iload_n 2, 1) := by decide +kernel
theorem dX7_steams_43 : decode cX7_steams 43 = .ok (.invokevirtual 235, 3) := by decide +kernel
theorem dX7_steams_46 : decode cX7_steams 46 = .ok (.ireturn, 1) := by decide +kernel
theorem dX7_steams_47 : decode cX7_steams 47 = .ok (.aload_n 0, 1) := by decide +kernel
theorem dX7_steams_48 : decode cX7_steams 48 = .ok (.bipush 60, 2) := by decide +kernel
theorem dX7_steams_50 : decode cX7_steams 50 = .ok (.invokevirtual 220, 3) := by decide +kernel
theorem dX7_steams_53 : decode cX7_steams 53 = .ok (.aload_n 0, 1) := by decide +kernel
theorem dX7_steams_54 : decode cX7_steams 54 = .ok (.iload_n 1, 1) := by decide +kernel
theorem dX7_steams_55 : decode cX7_steams 55 = .ok (.iload_n 2, 1) := by decide +kernel
theorem dX7_steams_56 : decode cX7_steams 56 = .ok (.iconst 1, 1) := by decide +kernel
theorem dX7_steams_57 : decode cX7_steams 57 = .ok (.iadd, 1) := by decide +kernel
theorem dX7_steams_58 : decode cX7_steams 58 = .ok (.invokevirtual 235, 3) := by decide +kernel
theorem dX7_steams_61 : decode cX7_steams 61 = .ok (.ireturn, 1) := by decide +kernel
theorem dX7_steams_62 : decode cX7_steams 62 = .ok (.aload_n 0, 1) := by decide +kernel
theorem dX7_steams_63 : decode cX7_steams 63 = .ok (.bipush 71, 2) := by decide +kernel
theorem dX7_steams_65 : decode cX7_steams 65 = .ok (.invokevirtual 220, 3) := by decide +kernel
theorem dX7_steams_68 : decode cX7_steams 68 = .ok (.aload_n 0, 1) := by decide +kernel
theorem dX7_steams_69 : decode cX7_steams 69 = .ok (.iload_n 1, 1) := by decide +kernel
theorem dX7_steams_70 : decode cX7_steams 70 = .ok (.iload_n 2, 1) := by decide +kernel
theorem dX7_steams_71 : decode cX7_steams 71 = .ok (.invokevirtual 232, 3) := by decide +kernel
theorem dX7_steams_74 : decode cX7_steams 74 = .ok (.aload_n 0, 1) := by decide +kernel
theorem dX7_steams_75 : decode cX7_steams 75 = .ok (.iload_n 1, 1) := by decide +kernel
theorem dX7_steams_76 : decode cX7_steams 76 = .ok (.iconst 1, 1) := by decide +kernel
theorem dX7_steams_77 : decode cX7_steams 77 = .ok (.invokevirtual 62, 3) := by decide +kernel
theorem dX7_steams_80 : decode cX7_steams 80 = .ok (.iadd, 1) := by decide +kernel
theorem dX7_steams_81 : decode cX7_steams 81 = .ok (.ireturn, 1) := by decide +kernel
theorem dX7_steams_82 : decode cX7_steams 82 = .ok (.aload_n 0, 1) := by decide +kernel
theorem dX7_steams_83 : decode cX7_steams 83 = .ok (.iload_n 1, 1) := by decide +kernel
theorem dX7_steams_84 : decode cX7_steams 84 = .ok (.iload_n 2, 1) := by decide +kernel
theorem dX7_steams_85 : decode cX7_steams 85 = .ok (.invokevirtual 232, 3) := by decide +kernel
theorem dX7_steams_88 : decode cX7_steams 88 = .ok (.ireturn, 1) := by decide +kernel
theorem dX7_plainCrumbles_0 : decode cX7_plainCrumbles 0 = .ok (.aload_n 0, 1) := by decide +kernel
theorem dX7_plainCrumbles_1 : decode cX7_plainCrumbles 1 = .ok (.bipush 12, 2) := by decide +kernel
theorem dX7_plainCrumbles_3 : decode cX7_plainCrumbles 3 = .ok (.invokevirtual 220, 3) := by decide +kernel
theorem dX7_plainCrumbles_6 : decode cX7_plainCrumbles 6 = .ok (.aload_n 0, 1) := by decide +kernel
theorem dX7_plainCrumbles_7 : decode cX7_plainCrumbles 7 = .ok (.iload_n 1, 1) := by decide +kernel
theorem dX7_plainCrumbles_8 : decode cX7_plainCrumbles 8 = .ok (.iload_n 2, 1) := by decide +kernel
theorem dX7_plainCrumbles_9 : decode cX7_plainCrumbles 9 = .ok (.invokevirtual 238, 3) := by decide +kernel
theorem dX7_plainCrumbles_12 : decode cX7_plainCrumbles 12 = .ok (.aload_n 0, 1) := by decide +kernel
theorem dX7_plainCrumbles_13 : decode cX7_plainCrumbles 13 = .ok (.iload_n 1, 1) := by decide +kernel
theorem dX7_plainCrumbles_14 : decode cX7_plainCrumbles 14 = .ok (.iconst 1, 1) := by decide +kernel
theorem dX7_plainCrumbles_15 : decode cX7_plainCrumbles 15 = .ok (.invokevirtual 62, 3) := by decide +kernel
theorem dX7_plainCrumbles_18 : decode cX7_plainCrumbles 18 = .ok (.isub, 1) := by decide +kernel
theorem dX7_plainCrumbles_19 : decode cX7_plainCrumbles 19 = .ok (.ireturn, 1) := by decide +kernel
theorem dX7_crumbles_0 : decode cX7_crumbles 0 = .ok (.aload_n 0, 1) := by decide +kernel
theorem dX7_crumbles_1 : decode cX7_crumbles 1 = .ok (.iload_n 1, 1) := by decide +kernel
theorem dX7_crumbles_2 : decode cX7_crumbles 2 = .ok (.iconst 0, 1) := by decide +kernel
theorem dX7_crumbles_3 : decode cX7_crumbles 3 = .ok (.invokevirtual 62, 3) := by decide +kernel
theorem dX7_crumbles_6 : decode cX7_crumbles 6 = .ok (.lookupswitch 56 #[(3, 26), (4, 41)], 26) := by decide +kernel
theorem dX7_crumbles_32 : decode cX7_crumbles 32 = .ok (.aload_n 0, 1) := by decide +kernel
theorem dX7_crumbles_33 : decode cX7_crumbles 33 = .ok (.bipush 40, 2) := by decide +kernel
theorem dX7_crumbles_35 : decode cX7_crumbles 35 = .ok (.invokevirtual 220, 3) := by decide +kernel
theorem dX7_crumbles_38 : decode cX7_crumbles 38 = .ok (.aload_n 0, 1) := by decide +kernel
theorem dX7_crumbles_39 : decode cX7_crumbles 39 = .ok (.iload_n 1, 1) := by decide +kernel
theorem dX7_crumbles_40 : decode cX7_crumbles 40 = .ok (.iload_n 2, 1) := by decide +kernel
theorem dX7_crumbles_41 : decode cX7_crumbles 41 = .ok (.iconst 2, 1) := by decide +kernel
theorem dX7_crumbles_42 : decode cX7_crumbles 42 = .ok (.idiv, 1) := by decide +kernel
theorem dX7_crumbles_43 : decode cX7_crumbles 43 = .ok (.invokevirtual 241, 3) := by decide +kernel
theorem dX7_crumbles_46 : decode cX7_crumbles 46 = .ok (.ireturn, 1) := by decide +kernel
theorem dX7_crumbles_47 : decode cX7_crumbles 47 = .ok (.aload_n 0, 1) := by decide +kernel
theorem dX7_crumbles_48 : decode cX7_crumbles 48 = .ok (.bipush 51, 2) := by decide +kernel
theorem dX7_crumbles_50 : decode cX7_crumbles 50 = .ok (.invokevirtual 220, 3) := by decide +kernel
theorem dX7_crumbles_53 : decode cX7_crumbles 53 = .ok (.aload_n 0, 1) := by decide +kernel
theorem dX7_crumbles_54 : decode cX7_crumbles 54 = .ok (.iload_n 1, 1) := by decide +kernel
theorem dX7_crumbles_55 : decode cX7_crumbles 55 = .ok (.iload_n 2, 1) := by decide +kernel
theorem dX7_crumbles_56 : decode cX7_crumbles 56 = .ok (.invokevirtual 241, 3) := by decide +kernel
theorem dX7_crumbles_59 : decode cX7_crumbles 59 = .ok (.iload_n 1, 1) := by decide +kernel
theorem dX7_crumbles_60 : decode cX7_crumbles 60 = .ok (.ixor, 1) := by decide +kernel
theorem dX7_crumbles_61 : decode cX7_crumbles 61 = .ok (.ireturn, 1) := by decide +kernel
theorem dX7_crumbles_62 : decode cX7_crumbles 62 = .ok (.aload_n 0, 1) := by decide +kernel
theorem dX7_crumbles_63 : decode cX7_crumbles 63 = .ok (.iload_n 1, 1) := by decide +kernel
theorem dX7_crumbles_64 : decode cX7_crumbles 64 = .ok (.iload_n 2, 1) := by decide +kernel
theorem dX7_crumbles_65 : decode cX7_crumbles 65 = .ok (.invokevirtual 241, 3) := by decide +kernel
theorem dX7_crumbles_68 : decode cX7_crumbles 68 = .ok (.ireturn, 1) := by decide +kernel
theorem dX7_plainParts_0 : decode cX7_plainParts 0 = .ok (.aload_n 0, 1) := by decide +kernel
theorem dX7_plainParts_1 : decode cX7_plainParts 1 = .ok (.bipush 13, 2) := by decide +kernel
theorem dX7_plainParts_3 : decode cX7_plainParts 3 = .ok (.invokevirtual 220, 3) := by decide +kernel
theorem dX7_plainParts_6 : decode cX7_plainParts 6 = .ok (.aload_n 0, 1) := by decide +kernel
theorem dX7_plainParts_7 : decode cX7_plainParts 7 = .ok (.iload_n 1, 1) := by decide +kernel
theorem dX7_plainParts_8 : decode cX7_plainParts 8 = .ok (.iconst 1, 1) := by decide +kernel
theorem dX7_plainParts_9 : decode cX7_plainParts 9 = .ok (.invokevirtual 62, 3) := by decide +kernel
theorem dX7_plainParts_12 : decode cX7_plainParts 12 = .ok (.iload_n 1, 1) := by decide +kernel
theorem dX7_plainParts_13 : decode cX7_plainParts 13 = .ok (.isub, 1) := by decide +kernel
theorem dX7_plainParts_14 : decode cX7_plainParts 14 = .ok (.istore_n 3, 1) := by decide +kernel
theorem dX7_plainParts_15 : decode cX7_plainParts 15 = .ok (.aload_n 0, 1) := by decide +kernel
theorem dX7_plainParts_16 : decode cX7_plainParts 16 = .ok (.iload_n 3, 1) := by decide +kernel
theorem dX7_plainParts_17 : decode cX7_plainParts 17 = .ok (.ifCond .ne 7, 3) := by decide +kernel
theorem dX7_plainParts_20 : decode cX7_plainParts 20 = .ok (.iconst 1, 1) := by decide +kernel
theorem dX7_plainParts_21 : decode cX7_plainParts 21 = .ok (.goto 4, 3) := by decide +kernel
theorem dX7_plainParts_24 : decode cX7_plainParts 24 = .ok (.iconst 0, 1) := by decide +kernel
theorem dX7_plainParts_25 : decode cX7_plainParts 25 = .ok (.putfield 244, 3) := by decide +kernel
theorem dX7_plainParts_28 : decode cX7_plainParts 28 = .ok (.aload_n 0, 1) := by decide +kernel
theorem dX7_plainParts_29 : decode cX7_plainParts 29 = .ok (.getfield 244, 3) := by decide +kernel
theorem dX7_plainParts_32 : decode cX7_plainParts 32 = .ok (.ifCond .eq 7, 3) := by decide +kernel
theorem dX7_plainParts_35 : decode cX7_plainParts 35 = .ok (.iconst 0, 1) := by decide +kernel
theorem dX7_plainParts_36 : decode cX7_plainParts 36 = .ok (.goto 6, 3) := by decide +kernel
theorem dX7_plainParts_39 : decode cX7_plainParts 39 = .ok (.iload_n 2, 1) := by decide +kernel
theorem dX7_plainParts_40 : decode cX7_plainParts 40 = .ok (.iload_n 3, 1) := by decide +kernel
theorem dX7_plainParts_41 : decode cX7_plainParts 41 = .ok (.idiv, 1) := by decide +kernel
theorem dX7_plainParts_42 : decode cX7_plainParts 42 = .ok (.ireturn, 1) := by decide +kernel
theorem dX7_partsBy_0 : decode cX7_partsBy 0 = .ok (.aload_n 0, 1) := by decide +kernel
theorem dX7_partsBy_1 : decode cX7_partsBy 1 = .ok (.iload_n 1, 1) := by decide +kernel
theorem dX7_partsBy_2 : decode cX7_partsBy 2 = .ok (.iconst 0, 1) := by decide +kernel
theorem dX7_partsBy_3 : decode cX7_partsBy 3 = .ok (.invokevirtual 62, 3) := by decide +kernel
theorem dX7_partsBy_6 : decode cX7_partsBy 6 = .ok (.iconst 1, 1) := by decide +kernel
theorem dX7_partsBy_7 : decode cX7_partsBy 7 = .ok (.if_icmp .eq 13, 3) := by decide +kernel
theorem dX7_partsBy_10 : decode cX7_partsBy 10 = .ok (.aload_n 0, 1) := by decide +kernel
theorem dX7_partsBy_11 : decode cX7_partsBy 11 = .ok (.iload_n 1, 1) := by decide +kernel
theorem dX7_partsBy_12 : decode cX7_partsBy 12 = .ok (.iconst 0, 1) := by decide +kernel
theorem dX7_partsBy_13 : decode cX7_partsBy 13 = .ok (.invokevirtual 62, 3) := by decide +kernel
theorem dX7_partsBy_16 : decode cX7_partsBy 16 = .ok (.iconst 4, 1) := by decide +kernel
theorem dX7_partsBy_17 : decode cX7_partsBy 17 = .ok (.if_icmp .ne 36, 3) := by decide +kernel
theorem dX7_partsBy_20 : decode cX7_partsBy 20 = .ok (.aload_n 0, 1) := by decide +kernel
theorem dX7_partsBy_21 : decode cX7_partsBy 21 = .ok (.bipush 21, 2) := by decide +kernel
theorem dX7_partsBy_23 : decode cX7_partsBy 23 = .ok (.invokevirtual 220, 3) := by decide +kernel
theorem dX7_partsBy_26 : decode cX7_partsBy 26 = .ok (.aload_n 0, 1) := by decide +kernel
theorem dX7_partsBy_27 : decode cX7_partsBy 27 = .ok (.iload_n 1, 1) := by decide +kernel
theorem dX7_partsBy_28 : decode cX7_partsBy 28 = .ok (.iload_n 2, 1) := by decide +kernel
theorem dX7_partsBy_29 : decode cX7_partsBy 29 = .ok (.invokevirtual 247, 3) := by decide +kernel
theorem dX7_partsBy_32 : decode cX7_partsBy 32 = .ok (.istore_n 3, 1) := by decide +kernel
theorem dX7_partsBy_33 : decode cX7_partsBy 33 = .ok (.aload_n 0, 1) := by decide +kernel
theorem dX7_partsBy_34 : decode cX7_partsBy 34 = .ok (.getfield 244, 3) := by decide +kernel
theorem dX7_partsBy_37 : decode cX7_partsBy 37 = .ok (.ifCond .eq 7, 3) := by decide +kernel
theorem dX7_partsBy_40 : decode cX7_partsBy 40 = .ok (.iconst 0, 1) := by decide +kernel
theorem dX7_partsBy_41 : decode cX7_partsBy 41 = .ok (.goto 11, 3) := by decide +kernel
theorem dX7_partsBy_44 : decode cX7_partsBy 44 = .ok (.iload_n 3, 1) := by decide +kernel
theorem dX7_partsBy_45 : decode cX7_partsBy 45 = .ok (.aload_n 0, 1) := by decide +kernel
theorem dX7_partsBy_46 : decode cX7_partsBy 46 = .ok (.iload_n 1, 1) := by decide +kernel
theorem dX7_partsBy_47 : decode cX7_partsBy 47 = .ok (.iconst 1, 1) := by decide +kernel
theorem dX7_partsBy_48 : decode cX7_partsBy 48 = .ok (.invokevirtual 238, 3) := by decide +kernel
theorem dX7_partsBy_51 : decode cX7_partsBy 51 = .ok (.iadd, 1) := by decide +kernel
theorem dX7_partsBy_52 : decode cX7_partsBy 52 = .ok (.ireturn, 1) := by decide +kernel
theorem dX7_partsBy_53 : decode cX7_partsBy 53 = .ok (.aload_n 0, 1) := by decide +kernel
theorem dX7_partsBy_54 : decode cX7_partsBy 54 = .ok (.iload_n 1, 1) := by decide +kernel
theorem dX7_partsBy_55 : decode cX7_partsBy 55 = .ok (.iload_n 2, 1) := by decide +kernel
theorem dX7_partsBy_56 : decode cX7_partsBy 56 = .ok (.invokevirtual 247, 3) := by decide +kernel
theorem dX7_partsBy_59 : decode cX7_partsBy 59 = .ok (.ireturn, 1) := by decide +kernel
theorem dX7_voice_0 : decode cX7_voice 0 = .ok (.aload_n 0, 1) := by decide +kernel
theorem dX7_voice_1 : decode cX7_voice 1 = .ok (.iload_n 1, 1) := by decide +kernel
theorem dX7_voice_2 : decode cX7_voice 2 = .ok (.invokevirtual 90, 3) := by decide +kernel
theorem dX7_voice_5 : decode cX7_voice 5 = .ok (.ifCond .eq 12, 3) := by decide +kernel
theorem dX7_voice_8 : decode cX7_voice 8 = .ok (.iload_n 2, 1) := by decide +kernel
theorem dX7_voice_9 : decode cX7_voice 9 = .ok (.iconst 0, 1) := by decide +kernel
theorem dX7_voice_10 : decode cX7_voice 10 = .ok (.iconst 3, 1) := by decide +kernel
theorem dX7_voice_11 : decode cX7_voice 11 = .ok (.invokestatic 54, 3) := by decide +kernel
theorem dX7_voice_14 : decode cX7_voice 14 = .ok (.ifCond .ne 10, 3) := by decide +kernel
theorem dX7_voice_17 : decode cX7_voice 17 = .ok (.aload_n 0, 1) := by decide +kernel
theorem dX7_voice_18 : decode cX7_voice 18 = .ok (.ldc 80, 2) := by decide +kernel
theorem dX7_voice_20 : decode cX7_voice 20 = .ok (.invokevirtual 81, 3) := by decide +kernel
theorem dX7_voice_23 : decode cX7_voice 23 = .ok (.ireturn, 1) := by decide +kernel
theorem dX7_voice_24 : decode cX7_voice 24 = .ok (.aload_n 0, 1) := by decide +kernel
theorem dX7_voice_25 : decode cX7_voice 25 = .ok (.iconst 0, 1) := by decide +kernel
theorem dX7_voice_26 : decode cX7_voice 26 = .ok (.putfield 217, 3) := by decide +kernel
theorem dX7_voice_29 : decode cX7_voice 29 = .ok (.aload_n 0, 1) := by decide +kernel
theorem dX7_voice_30 : decode cX7_voice 30 = .ok (.iconst 0, 1) := by decide +kernel
theorem dX7_voice_31 : decode cX7_voice 31 = .ok (.putfield 244, 3) := by decide +kernel
theorem dX7_voice_34 : decode cX7_voice 34 = .ok (.iload_n 2, 1) := by decide +kernel
theorem dX7_voice_35 : decode cX7_voice 35 = .ok (.ifCond .ne 12, 3) := by decide +kernel
theorem dX7_voice_38 : decode cX7_voice 38 = .ok (.aload_n 0, 1) := by decide +kernel
theorem dX7_voice_39 : decode cX7_voice 39 = .ok (.iload_n 1, 1) := by decide +kernel
theorem dX7_voice_40 : decode cX7_voice 40 = .ok (.iload_n 3, 1) := by decide +kernel
theorem dX7_voice_41 : decode cX7_voice 41 = .ok (.invokevirtual 229, 3) := by decide +kernel
theorem dX7_voice_44 : decode cX7_voice 44 = .ok (.goto 37, 3) := by decide +kernel
theorem dX7_voice_47 : decode cX7_voice 47 = .ok (.iload_n 2, 1) := by decide +kernel
theorem dX7_voice_48 : decode cX7_voice 48 = .ok (.iconst 1, 1) := by decide +kernel
theorem dX7_voice_49 : decode cX7_voice 49 = .ok (.if_icmp .ne 12, 3) := by decide +kernel
theorem dX7_voice_52 : decode cX7_voice 52 = .ok (.aload_n 0, 1) := by decide +kernel
theorem dX7_voice_53 : decode cX7_voice 53 = .ok (.iload_n 1, 1) := by decide +kernel
theorem dX7_voice_54 : decode cX7_voice 54 = .ok (.iload_n 3, 1) := by decide +kernel
theorem dX7_voice_55 : decode cX7_voice 55 = .ok (.invokevirtual 238, 3) := by decide +kernel
theorem dX7_voice_58 : decode cX7_voice 58 = .ok (.goto 23, 3) := by decide +kernel
theorem dX7_voice_61 : decode cX7_voice 61 = .ok (.iload_n 2, 1) := by decide +kernel
theorem dX7_voice_62 : decode cX7_voice 62 = .ok (.iconst 2, 1) := by decide +kernel
theorem dX7_voice_63 : decode cX7_voice 63 = .ok (.if_icmp .ne 12, 3) := by decide +kernel
theorem dX7_voice_66 : decode cX7_voice 66 = .ok (.aload_n 0, 1) := by decide +kernel
theorem dX7_voice_67 : decode cX7_voice 67 = .ok (.iload_n 1, 1) := by decide +kernel
theorem dX7_voice_68 : decode cX7_voice 68 = .ok (.iload_n 3, 1) := by decide +kernel
theorem dX7_voice_69 : decode cX7_voice 69 = .ok (.invokevirtual 250, 3) := by decide +kernel
theorem dX7_voice_72 : decode cX7_voice 72 = .ok (.goto 9, 3) := by decide +kernel
theorem dX7_voice_75 : decode cX7_voice 75 = .ok (.aload_n 0, 1) := by decide +kernel
theorem dX7_voice_76 : decode cX7_voice 76 = .ok (.iload_n 1, 1) := by decide +kernel
theorem dX7_voice_77 : decode cX7_voice 77 = .ok (.iload_n 3, 1) := by decide +kernel
theorem dX7_voice_78 : decode cX7_voice 78 = .ok (.invokevirtual 253, 3) := by decide +kernel
theorem dX7_voice_81 : decode cX7_voice 81 = .ok (.istore 4, 2) := by decide +kernel
theorem dX7_voice_83 : decode cX7_voice 83 = .ok (.aload_n 0, 1) := by decide +kernel
theorem dX7_voice_84 : decode cX7_voice 84 = .ok (.getfield 244, 3) := by decide +kernel
theorem dX7_voice_87 : decode cX7_voice 87 = .ok (.ifCond .eq 13, 3) := by decide +kernel
theorem dX7_voice_90 : decode cX7_voice 90 = .ok (.aload_n 0, 1) := by decide +kernel
theorem dX7_voice_91 : decode cX7_voice 91 = .ok (.ldc_w 256, 3) := by decide +kernel
theorem dX7_voice_94 : decode cX7_voice 94 = .ok (.invokevirtual 81, 3) := by decide +kernel
theorem dX7_voice_97 : decode cX7_voice 97 = .ok (.goto 5, 3) := by decide +kernel
theorem dX7_voice_100 : decode cX7_voice 100 = .ok (.iload 4, 2) := by decide +kernel
theorem dX7_voice_102 : decode cX7_voice 102 = .ok (.ireturn, 1) := by decide +kernel
theorem dX7_body_0 : decode cX7_body 0 = .ok (.iload_n 1, 1) := by decide +kernel
theorem dX7_body_1 : decode cX7_body 1 = .ok (.iconst 0, 1) := by decide +kernel
theorem dX7_body_2 : decode cX7_body 2 = .ok (.aload_n 0, 1) := by decide +kernel
theorem dX7_body_3 : decode cX7_body 3 = .ok (.getfield 217, 3) := by decide +kernel
theorem dX7_body_6 : decode cX7_body 6 = .ok (.iconst 1, 1) := by decide +kernel
theorem dX7_body_7 : decode cX7_body 7 = .ok (.isub, 1) := by decide +kernel
theorem dX7_body_8 : decode cX7_body 8 = .ok (.invokestatic 54, 3) := by decide +kernel
theorem dX7_body_11 : decode cX7_body 11 = .ok (.ifCond .eq 12, 3) := by decide +kernel
theorem dX7_body_14 : decode cX7_body 14 = .ok (.aload_n 0, 1) := by decide +kernel
theorem dX7_body_15 : decode cX7_body 15 = .ok (.getfield 46, 3) := by decide +kernel
theorem dX7_body_18 : decode cX7_body 18 = .ok (.iload_n 1, 1) := by decide +kernel
theorem dX7_body_19 : decode cX7_body 19 = .ok (.iaload, 1) := by decide +kernel
theorem dX7_body_20 : decode cX7_body 20 = .ok (.goto 9, 3) := by decide +kernel
theorem dX7_body_23 : decode cX7_body 23 = .ok (.aload_n 0, 1) := by decide +kernel
theorem dX7_body_24 : decode cX7_body 24 = .ok (.ldc 195, 2) := by decide +kernel
theorem dX7_body_26 : decode cX7_body 26 = .ok (.invokevirtual 81, 3) := by decide +kernel
theorem dX7_body_29 : decode cX7_body 29 = .ok (.ireturn, 1) := by decide +kernel
theorem dX7_isSheet_0 : decode cX7_isSheet 0 = .ok (.iload_n 0, 1) := by decide +kernel
theorem dX7_isSheet_1 : decode cX7_isSheet 1 = .ok (.iconst 0, 1) := by decide +kernel
theorem dX7_isSheet_2 : decode cX7_isSheet 2 = .ok (.iconst 3, 1) := by decide +kernel
theorem dX7_isSheet_3 : decode cX7_isSheet 3 = .ok (.invokestatic 54, 3) := by decide +kernel
theorem dX7_isSheet_6 : decode cX7_isSheet 6 = .ok (.ireturn, 1) := by decide +kernel
theorem dX7_sheet_0 : decode cX7_sheet 0 = .ok (.iload_n 1, 1) := by decide +kernel
theorem dX7_sheet_1 : decode cX7_sheet 1 = .ok (.invokestatic 257, 3) := by decide +kernel
theorem dX7_sheet_4 : decode cX7_sheet 4 = .ok (.ifCond .eq 25, 3) := by decide +kernel
theorem dX7_sheet_7 : decode cX7_sheet 7 = .ok (.iload_n 2, 1) := by decide +kernel
theorem dX7_sheet_8 : decode cX7_sheet 8 = .ok (.ifCond .eq 28, 3) := by decide +kernel
theorem dX7_sheet_11 : decode cX7_sheet 11 = .ok (.iload_n 2, 1) := by decide +kernel
theorem dX7_sheet_12 : decode cX7_sheet 12 = .ok (.bipush 8, 2) := by decide +kernel
theorem dX7_sheet_14 : decode cX7_sheet 14 = .ok (.if_icmp .eq 22, 3) := by decide +kernel
theorem dX7_sheet_17 : decode cX7_sheet 17 = .ok (.iload_n 2, 1) := by decide +kernel
theorem dX7_sheet_18 : decode cX7_sheet 18 = .ok (.bipush 16, 2) := by decide +kernel
theorem dX7_sheet_20 : decode cX7_sheet 20 = .ok (.if_icmp .eq 16, 3) := by decide +kernel
theorem dX7_sheet_23 : decode cX7_sheet 23 = .ok (.iload_n 2, 1) := by decide +kernel
theorem dX7_sheet_24 : decode cX7_sheet 24 = .ok (.bipush 32, 2) := by decide +kernel
theorem dX7_sheet_26 : decode cX7_sheet 26 = .ok (.if_icmp .eq 10, 3) := by decide +kernel
theorem dX7_sheet_29 : decode cX7_sheet 29 = .ok (.aload_n 0, 1) := by decide +kernel
theorem dX7_sheet_30 : decode cX7_sheet 30 = .ok (.ldc 80, 2) := by decide +kernel
theorem dX7_sheet_32 : decode cX7_sheet 32 = .ok (.invokevirtual 81, 3) := by decide +kernel
theorem dX7_sheet_35 : decode cX7_sheet 35 = .ok (.ireturn, 1) := by decide +kernel
theorem dX7_sheet_36 : decode cX7_sheet 36 = .ok (.iload_n 2, 1) := by decide +kernel
theorem dX7_sheet_37 : decode cX7_sheet 37 = .ok (.ifCond .le 14, 3) := by decide +kernel
theorem dX7_sheet_40 : decode cX7_sheet 40 = .ok (.iload_n 3, 1) := by decide +kernel
theorem dX7_sheet_41 : decode cX7_sheet 41 = .ok (.ifCond .ge 10, 3) := by decide +kernel
theorem dX7_sheet_44 : decode cX7_sheet 44 = .ok (.aload_n 0, 1) := by decide +kernel
theorem dX7_sheet_45 : decode cX7_sheet 45 = .ok (.ldc 103, 2) := by decide +kernel
theorem dX7_sheet_47 : decode cX7_sheet 47 = .ok (.invokevirtual 81, 3) := by decide +kernel
theorem dX7_sheet_50 : decode cX7_sheet 50 = .ok (.ireturn, 1) := by decide +kernel
theorem dX7_sheet_51 : decode cX7_sheet 51 = .ok (.iload_n 2, 1) := by decide +kernel
theorem dX7_sheet_52 : decode cX7_sheet 52 = .ok (.ifCond .le 16, 3) := by decide +kernel
theorem dX7_sheet_55 : decode cX7_sheet 55 = .ok (.iload_n 3, 1) := by decide +kernel
theorem dX7_sheet_56 : decode cX7_sheet 56 = .ok (.bipush 24, 2) := by decide +kernel
theorem dX7_sheet_58 : decode cX7_sheet 58 = .ok (.if_icmp .le 10, 3) := by decide +kernel
theorem dX7_sheet_61 : decode cX7_sheet 61 = .ok (.aload_n 0, 1) := by decide +kernel
theorem dX7_sheet_62 : decode cX7_sheet 62 = .ok (.ldc 80, 2) := by decide +kernel
theorem dX7_sheet_64 : decode cX7_sheet 64 = .ok (.invokevirtual 81, 3) := by decide +kernel
theorem dX7_sheet_67 : decode cX7_sheet 67 = .ok (.ireturn, 1) := by decide +kernel
theorem dX7_sheet_68 : decode cX7_sheet 68 = .ok (.aload_n 0, 1) := by decide +kernel
theorem dX7_sheet_69 : decode cX7_sheet 69 = .ok (.getfield 22, 3) := by decide +kernel
theorem dX7_sheet_72 : decode cX7_sheet 72 = .ok (.iload_n 1, 1) := by decide +kernel
theorem dX7_sheet_73 : decode cX7_sheet 73 = .ok (.iload_n 2, 1) := by decide +kernel
theorem dX7_sheet_74 : decode cX7_sheet 74 = .ok (.iastore, 1) := by decide +kernel
theorem dX7_sheet_75 : decode cX7_sheet 75 = .ok (.aload_n 0, 1) := by decide +kernel
theorem dX7_sheet_76 : decode cX7_sheet 76 = .ok (.getfield 25, 3) := by decide +kernel
theorem dX7_sheet_79 : decode cX7_sheet 79 = .ok (.iload_n 1, 1) := by decide +kernel
theorem dX7_sheet_80 : decode cX7_sheet 80 = .ok (.iload_n 2, 1) := by decide +kernel
theorem dX7_sheet_81 : decode cX7_sheet 81 = .ok (.ifCond .ne 7, 3) := by decide +kernel
theorem dX7_sheet_84 : decode cX7_sheet 84 = .ok (.iconst 0, 1) := by decide +kernel
theorem dX7_sheet_85 : decode cX7_sheet 85 = .ok (.goto 4, 3) := by decide +kernel
theorem dX7_sheet_88 : decode cX7_sheet 88 = .ok (.iload_n 3, 1) := by decide +kernel
theorem dX7_sheet_89 : decode cX7_sheet 89 = .ok (.iastore, 1) := by decide +kernel
theorem dX7_sheet_90 : decode cX7_sheet 90 = .ok (.iconst 0, 1) := by decide +kernel
theorem dX7_sheet_91 : decode cX7_sheet 91 = .ok (.istore 4, 2) := by decide +kernel
theorem dX7_sheet_93 : decode cX7_sheet 93 = .ok (.iload 4, 2) := by decide +kernel
theorem dX7_sheet_95 : decode cX7_sheet 95 = .ok (.bipush 24, 2) := by decide +kernel
theorem dX7_sheet_97 : decode cX7_sheet 97 = .ok (.if_icmp .ge 22, 3) := by decide +kernel
theorem dX7_sheet_100 : decode cX7_sheet 100 = .ok (.aload_n 0, 1) := by decide +kernel
theorem dX7_sheet_101 : decode cX7_sheet 101 = .ok (.getfield 28, 3) := by decide +kernel
theorem dX7_sheet_104 : decode cX7_sheet 104 = .ok (.bipush 24, 2) := by decide +kernel
theorem dX7_sheet_106 : decode cX7_sheet 106 = .ok (.iload_n 1, 1) := by decide +kernel
theorem dX7_sheet_107 : decode cX7_sheet 107 = .ok (.imul, 1) := by decide +kernel
theorem dX7_sheet_108 : decode cX7_sheet 108 = .ok (.iload 4, 2) := by decide +kernel
theorem dX7_sheet_110 : decode cX7_sheet 110 = .ok (.iadd, 1) := by decide +kernel
theorem dX7_sheet_111 : decode cX7_sheet 111 = .ok (.iconst 0, 1) := by decide +kernel
theorem dX7_sheet_112 : decode cX7_sheet 112 = .ok (.iastore, 1) := by decide +kernel
theorem dX7_sheet_113 : decode cX7_sheet 113 = .ok (.iinc 4 1, 3) := by decide +kernel
theorem dX7_sheet_116 : decode cX7_sheet 116 = .ok (.goto (-23), 3) := by decide +kernel
theorem dX7_sheet_119 : decode cX7_sheet 119 = .ok (.iconst 1, 1) := by decide +kernel
theorem dX7_sheet_120 : decode cX7_sheet 120 = .ok (.ireturn, 1) := by decide +kernel
theorem dX7_notThere_0 : decode cX7_notThere 0 = .ok (.iload_n 1, 1) := by decide +kernel
theorem dX7_notThere_1 : decode cX7_notThere 1 = .ok (.invokestatic 257, 3) := by decide +kernel
theorem dX7_notThere_4 : decode cX7_notThere 4 = .ok (.ifCond .ne 8, 3) := by decide +kernel
theorem dX7_notThere_7 : decode cX7_notThere 7 = .ok (.ldc 80, 2) := by decide +kernel
theorem dX7_notThere_9 : decode cX7_notThere 9 = .ok (.goto 18, 3) := by decide +kernel
theorem dX7_notThere_12 : decode cX7_notThere 12 = .ok (.aload_n 0, 1) := by decide +kernel
theorem dX7_notThere_13 : decode cX7_notThere 13 = .ok (.getfield 22, 3) := by decide +kernel
theorem dX7_notThere_16 : decode cX7_notThere 16 = .ok (.iload_n 1, 1) := by decide +kernel
theorem dX7_notThere_17 : decode cX7_notThere 17 = .ok (.iaload, 1) := by decide +kernel
theorem dX7_notThere_18 : decode cX7_notThere 18 = .ok (.ifCond .ne 8, 3) := by decide +kernel
theorem dX7_notThere_21 : decode cX7_notThere 21 = .ok (.ldc 195, 2) := by decide +kernel
theorem dX7_notThere_23 : decode cX7_notThere 23 = .ok (.goto 4, 3) := by decide +kernel
theorem dX7_notThere_26 : decode cX7_notThere 26 = .ok (.iconst 0, 1) := by decide +kernel
theorem dX7_notThere_27 : decode cX7_notThere 27 = .ok (.ireturn, 1) := by decide +kernel
theorem dX7_put_0 : decode cX7_put 0 = .ok (.aload_n 0, 1) := by decide +kernel
theorem dX7_put_1 : decode cX7_put 1 = .ok (.iload_n 1, 1) := by decide +kernel
theorem dX7_put_2 : decode cX7_put 2 = .ok (.invokevirtual 211, 3) := by decide +kernel
theorem dX7_put_5 : decode cX7_put 5 = .ok (.istore 4, 2) := by decide +kernel
theorem dX7_put_7 : decode cX7_put 7 = .ok (.iload 4, 2) := by decide +kernel
theorem dX7_put_9 : decode cX7_put 9 = .ok (.ifCond .ne 24, 3) := by decide +kernel
theorem dX7_put_12 : decode cX7_put 12 = .ok (.iload_n 2, 1) := by decide +kernel
theorem dX7_put_13 : decode cX7_put 13 = .ok (.iconst 0, 1) := by decide +kernel
theorem dX7_put_14 : decode cX7_put 14 = .ok (.aload_n 0, 1) := by decide +kernel
theorem dX7_put_15 : decode cX7_put 15 = .ok (.getfield 25, 3) := by decide +kernel
theorem dX7_put_18 : decode cX7_put 18 = .ok (.iload_n 1, 1) := by decide +kernel
theorem dX7_put_19 : decode cX7_put 19 = .ok (.iaload, 1) := by decide +kernel
theorem dX7_put_20 : decode cX7_put 20 = .ok (.iconst 1, 1) := by decide +kernel
theorem dX7_put_21 : decode cX7_put 21 = .ok (.isub, 1) := by decide +kernel
theorem dX7_put_22 : decode cX7_put 22 = .ok (.invokestatic 54, 3) := by decide +kernel
theorem dX7_put_25 : decode cX7_put 25 = .ok (.ifCond .ne 8, 3) := by decide +kernel
theorem dX7_put_28 : decode cX7_put 28 = .ok (.ldc 80, 2) := by decide +kernel
theorem dX7_put_30 : decode cX7_put 30 = .ok (.goto 5, 3) := by decide +kernel
theorem dX7_put_33 : decode cX7_put 33 = .ok (.iload 4, 2) := by decide +kernel
theorem dX7_put_35 : decode cX7_put 35 = .ok (.istore 4, 2) := by decide +kernel
theorem dX7_put_37 : decode cX7_put 37 = .ok (.iload 4, 2) := by decide +kernel
theorem dX7_put_39 : decode cX7_put 39 = .ok (.ifCond .eq 10, 3) := by decide +kernel
theorem dX7_put_42 : decode cX7_put 42 = .ok (.aload_n 0, 1) := by decide +kernel
theorem dX7_put_43 : decode cX7_put 43 = .ok (.iload 4, 2) := by decide +kernel
theorem dX7_put_45 : decode cX7_put 45 = .ok (.invokevirtual 81, 3) := by decide +kernel
theorem dX7_put_48 : decode cX7_put 48 = .ok (.ireturn, 1) := by decide +kernel
theorem dX7_put_49 : decode cX7_put 49 = .ok (.aload_n 0, 1) := by decide +kernel
theorem dX7_put_50 : decode cX7_put 50 = .ok (.getfield 28, 3) := by decide +kernel
theorem dX7_put_53 : decode cX7_put 53 = .ok (.bipush 24, 2) := by decide +kernel
theorem dX7_put_55 : decode cX7_put 55 = .ok (.iload_n 1, 1) := by decide +kernel
theorem dX7_put_56 : decode cX7_put 56 = .ok (.imul, 1) := by decide +kernel
theorem dX7_put_57 : decode cX7_put 57 = .ok (.iload_n 2, 1) := by decide +kernel
theorem dX7_put_58 : decode cX7_put 58 = .ok (.iadd, 1) := by decide +kernel
theorem dX7_put_59 : decode cX7_put 59 = .ok (.aload_n 0, 1) := by decide +kernel
theorem dX7_put_60 : decode cX7_put 60 = .ok (.getfield 22, 3) := by decide +kernel
theorem dX7_put_63 : decode cX7_put 63 = .ok (.iload_n 1, 1) := by decide +kernel
theorem dX7_put_64 : decode cX7_put 64 = .ok (.iaload, 1) := by decide +kernel
theorem dX7_put_65 : decode cX7_put 65 = .ok (.bipush 8, 2) := by decide +kernel
theorem dX7_put_67 : decode cX7_put 67 = .ok (.if_icmp .ne 8, 3) := by decide +kernel
theorem dX7_put_70 : decode cX7_put 70 = .ok (.iload_n 3, 1) := by decide +kernel
theorem dX7_put_71 : decode cX7_put 71 = .ok (.i2b, 1) := by decide +kernel
theorem dX7_put_72 : decode cX7_put 72 = .ok (.goto 20, 3) := by decide +kernel
theorem dX7_put_75 : decode cX7_put 75 = .ok (.aload_n 0, 1) := by decide +kernel
theorem dX7_put_76 : decode cX7_put 76 = .ok (.getfield 22, 3) := by decide +kernel
theorem dX7_put_79 : decode cX7_put 79 = .ok (.iload_n 1, 1) := by decide +kernel
theorem dX7_put_80 : decode cX7_put 80 = .ok (.iaload, 1) := by decide +kernel
theorem dX7_put_81 : decode cX7_put 81 = .ok (.bipush 16, 2) := by decide +kernel
theorem dX7_put_83 : decode cX7_put 83 = .ok (.if_icmp .ne 8, 3) := by decide +kernel
theorem dX7_put_86 : decode cX7_put 86 = .ok (.iload_n 3, 1) := by decide +kernel
theorem dX7_put_87 : decode cX7_put 87 = .ok (.i2s, 1) := by decide +kernel
theorem dX7_put_88 : decode cX7_put 88 = .ok (.goto 4, 3) := by decide +kernel
theorem dX7_put_91 : decode cX7_put 91 = .ok (.iload_n 3, 1) := by decide +kernel
theorem dX7_put_92 : decode cX7_put 92 = .ok (.iastore, 1) := by decide +kernel
theorem dX7_put_93 : decode cX7_put 93 = .ok (.iconst 1, 1) := by decide +kernel
theorem dX7_put_94 : decode cX7_put 94 = .ok (.ireturn, 1) := by decide +kernel
theorem dX7_notMoved_0 : decode cX7_notMoved 0 = .ok (.iload_n 1, 1) := by decide +kernel
theorem dX7_notMoved_1 : decode cX7_notMoved 1 = .ok (.invokestatic 257, 3) := by decide +kernel
theorem dX7_notMoved_4 : decode cX7_notMoved 4 = .ok (.ifCond .eq 10, 3) := by decide +kernel
theorem dX7_notMoved_7 : decode cX7_notMoved 7 = .ok (.iload_n 3, 1) := by decide +kernel
theorem dX7_notMoved_8 : decode cX7_notMoved 8 = .ok (.invokestatic 257, 3) := by decide +kernel
theorem dX7_notMoved_11 : decode cX7_notMoved 11 = .ok (.ifCond .ne 6, 3) := by decide +kernel
theorem dX7_notMoved_14 : decode cX7_notMoved 14 = .ok (.ldc 80, 2) := by decide +kernel
theorem dX7_notMoved_16 : decode cX7_notMoved 16 = .ok (.ireturn, 1) := by decide +kernel
theorem dX7_notMoved_17 : decode cX7_notMoved 17 = .ok (.aload_n 0, 1) := by decide +kernel
theorem dX7_notMoved_18 : decode cX7_notMoved 18 = .ok (.getfield 22, 3) := by decide +kernel
theorem dX7_notMoved_21 : decode cX7_notMoved 21 = .ok (.iload_n 1, 1) := by decide +kernel
theorem dX7_notMoved_22 : decode cX7_notMoved 22 = .ok (.iaload, 1) := by decide +kernel
theorem dX7_notMoved_23 : decode cX7_notMoved 23 = .ok (.ifCond .eq 12, 3) := by decide +kernel
theorem dX7_notMoved_26 : decode cX7_notMoved 26 = .ok (.aload_n 0, 1) := by decide +kernel
theorem dX7_notMoved_27 : decode cX7_notMoved 27 = .ok (.getfield 22, 3) := by decide +kernel
theorem dX7_notMoved_30 : decode cX7_notMoved 30 = .ok (.iload_n 3, 1) := by decide +kernel
theorem dX7_notMoved_31 : decode cX7_notMoved 31 = .ok (.iaload, 1) := by decide +kernel
theorem dX7_notMoved_32 : decode cX7_notMoved 32 = .ok (.ifCond .ne 6, 3) := by decide +kernel
theorem dX7_notMoved_35 : decode cX7_notMoved 35 = .ok (.ldc 195, 2) := by decide +kernel
theorem dX7_notMoved_37 : decode cX7_notMoved 37 = .ok (.ireturn, 1) := by decide +kernel
theorem dX7_notMoved_38 : decode cX7_notMoved 38 = .ok (.aload_n 0, 1) := by decide +kernel
theorem dX7_notMoved_39 : decode cX7_notMoved 39 = .ok (.getfield 22, 3) := by decide +kernel
theorem dX7_notMoved_42 : decode cX7_notMoved 42 = .ok (.iload_n 1, 1) := by decide +kernel
theorem dX7_notMoved_43 : decode cX7_notMoved 43 = .ok (.iaload, 1) := by decide +kernel
theorem dX7_notMoved_44 : decode cX7_notMoved 44 = .ok (.aload_n 0, 1) := by decide +kernel
theorem dX7_notMoved_45 : decode cX7_notMoved 45 = .ok (.getfield 22, 3) := by decide +kernel
theorem dX7_notMoved_48 : decode cX7_notMoved 48 = .ok (.iload_n 3, 1) := by decide +kernel
theorem dX7_notMoved_49 : decode cX7_notMoved 49 = .ok (.iaload, 1) := by decide +kernel
theorem dX7_notMoved_50 : decode cX7_notMoved 50 = .ok (.if_icmp .eq 6, 3) := by decide +kernel
theorem dX7_notMoved_53 : decode cX7_notMoved 53 = .ok (.ldc 102, 2) := by decide +kernel
theorem dX7_notMoved_55 : decode cX7_notMoved 55 = .ok (.ireturn, 1) := by decide +kernel
theorem dX7_notMoved_56 : decode cX7_notMoved 56 = .ok (.iload 5, 2) := by decide +kernel
theorem dX7_notMoved_58 : decode cX7_notMoved 58 = .ok (.ifCond .lt 43, 3) := by decide +kernel
theorem dX7_notMoved_61 : decode cX7_notMoved 61 = .ok (.iload_n 2, 1) := by decide +kernel
theorem dX7_notMoved_62 : decode cX7_notMoved 62 = .ok (.ifCond .lt 39, 3) := by decide +kernel
theorem dX7_notMoved_65 : decode cX7_notMoved 65 = .ok (.iload 4, 2) := by decide +kernel
theorem dX7_notMoved_67 : decode cX7_notMoved 67 = .ok (.ifCond .lt 34, 3) := by decide +kernel
theorem dX7_notMoved_70 : decode cX7_notMoved 70 = .ok (.iload 5, 2) := by decide +kernel
theorem dX7_notMoved_72 : decode cX7_notMoved 72 = .ok (.aload_n 0, 1) := by decide +kernel
theorem dX7_notMoved_73 : decode cX7_notMoved 73 = .ok (.getfield 25, 3) := by decide +kernel
theorem dX7_notMoved_76 : decode cX7_notMoved 76 = .ok (.iload_n 1, 1) := by decide +kernel
theorem dX7_notMoved_77 : decode cX7_notMoved 77 = .ok (.iaload, 1) := by decide +kernel
theorem dX7_notMoved_78 : decode cX7_notMoved 78 = .ok (.iload_n 2, 1) := by decide +kernel
theorem dX7_notMoved_79 : decode cX7_notMoved 79 = .ok (.isub, 1) := by decide +kernel
theorem dX7_notMoved_80 : decode cX7_notMoved 80 = .ok (.if_icmp .gt 21, 3) := by decide +kernel
theorem dX7_notMoved_83 : decode cX7_notMoved 83 = .ok (.iload 5, 2) := by decide +kernel
theorem dX7_notMoved_85 : decode cX7_notMoved 85 = .ok (.aload_n 0, 1) := by decide +kernel
theorem dX7_notMoved_86 : decode cX7_notMoved 86 = .ok (.getfield 25, 3) := by decide +kernel
theorem dX7_notMoved_89 : decode cX7_notMoved 89 = .ok (.iload_n 3, 1) := by decide +kernel
theorem dX7_notMoved_90 : decode cX7_notMoved 90 = .ok (.iaload, 1) := by decide +kernel
theorem dX7_notMoved_91 : decode cX7_notMoved 91 = .ok (.iload 4, 2) := by decide +kernel
theorem dX7_notMoved_93 : decode cX7_notMoved 93 = .ok (.isub, 1) := by decide +kernel
theorem dX7_notMoved_94 : decode cX7_notMoved 94 = .ok (.if_icmp .gt 7, 3) := by decide +kernel
theorem dX7_notMoved_97 : decode cX7_notMoved 97 = .ok (.iconst 1, 1) := by decide +kernel
theorem dX7_notMoved_98 : decode cX7_notMoved 98 = .ok (.goto 4, 3) := by decide +kernel
theorem dX7_notMoved_101 : decode cX7_notMoved 101 = .ok (.iconst 0, 1) := by decide +kernel
theorem dX7_notMoved_102 : decode cX7_notMoved 102 = .ok (.istore 6, 2) := by decide +kernel
theorem dX7_notMoved_104 : decode cX7_notMoved 104 = .ok (.iload 6, 2) := by decide +kernel
theorem dX7_notMoved_106 : decode cX7_notMoved 106 = .ok (.ifCond .eq 7, 3) := by decide +kernel
theorem dX7_notMoved_109 : decode cX7_notMoved 109 = .ok (.iconst 0, 1) := by decide +kernel
theorem dX7_notMoved_110 : decode cX7_notMoved 110 = .ok (.goto 5, 3) := by decide +kernel
theorem dX7_notMoved_113 : decode cX7_notMoved 113 = .ok (.ldc 80, 2) := by decide +kernel
theorem dX7_notMoved_115 : decode cX7_notMoved 115 = .ok (.ireturn, 1) := by decide +kernel
theorem dX7_move_0 : decode cX7_move 0 = .ok (.aload_n 0, 1) := by decide +kernel
theorem dX7_move_1 : decode cX7_move 1 = .ok (.iload_n 1, 1) := by decide +kernel
theorem dX7_move_2 : decode cX7_move 2 = .ok (.iload_n 2, 1) := by decide +kernel
theorem dX7_move_3 : decode cX7_move 3 = .ok (.iload_n 3, 1) := by decide +kernel
theorem dX7_move_4 : decode cX7_move 4 = .ok (.iload 4, 2) := by decide +kernel
theorem dX7_move_6 : decode cX7_move 6 = .ok (.iload 5, 2) := by decide +kernel
theorem dX7_move_8 : decode cX7_move 8 = .ok (.invokevirtual 260, 3) := by decide +kernel
theorem dX7_move_11 : decode cX7_move 11 = .ok (.istore 6, 2) := by decide +kernel
theorem dX7_move_13 : decode cX7_move 13 = .ok (.iload 6, 2) := by decide +kernel
theorem dX7_move_15 : decode cX7_move 15 = .ok (.ifCond .eq 10, 3) := by decide +kernel
theorem dX7_move_18 : decode cX7_move 18 = .ok (.aload_n 0, 1) := by decide +kernel
theorem dX7_move_19 : decode cX7_move 19 = .ok (.iload 6, 2) := by decide +kernel
theorem dX7_move_21 : decode cX7_move 21 = .ok (.invokevirtual 81, 3) := by decide +kernel
theorem dX7_move_24 : decode cX7_move 24 = .ok (.ireturn, 1) := by decide +kernel
theorem dX7_move_25 : decode cX7_move 25 = .ok (.iconst 0, 1) := by decide +kernel
theorem dX7_move_26 : decode cX7_move 26 = .ok (.istore 7, 2) := by decide +kernel
theorem dX7_move_28 : decode cX7_move 28 = .ok (.iload 7, 2) := by decide +kernel
theorem dX7_move_30 : decode cX7_move 30 = .ok (.iload 5, 2) := by decide +kernel
theorem dX7_move_32 : decode cX7_move 32 = .ok (.if_icmp .ge 58, 3) := by decide +kernel
theorem dX7_move_35 : decode cX7_move 35 = .ok (.iload_n 2, 1) := by decide +kernel
theorem dX7_move_36 : decode cX7_move 36 = .ok (.iload 4, 2) := by decide +kernel
theorem dX7_move_38 : decode cX7_move 38 = .ok (.if_icmp .ge 13, 3) := by decide +kernel
theorem dX7_move_41 : decode cX7_move 41 = .ok (.iload 5, 2) := by decide +kernel
theorem dX7_move_43 : decode cX7_move 43 = .ok (.iconst 1, 1) := by decide +kernel
theorem dX7_move_44 : decode cX7_move 44 = .ok (.isub, 1) := by decide +kernel
theorem dX7_move_45 : decode cX7_move 45 = .ok (.iload 7, 2) := by decide +kernel
theorem dX7_move_47 : decode cX7_move 47 = .ok (.isub, 1) := by decide +kernel
theorem dX7_move_48 : decode cX7_move 48 = .ok (.goto 5, 3) := by decide +kernel
theorem dX7_move_51 : decode cX7_move 51 = .ok (.iload 7, 2) := by decide +kernel
theorem dX7_move_53 : decode cX7_move 53 = .ok (.istore 8, 2) := by decide +kernel
theorem dX7_move_55 : decode cX7_move 55 = .ok (.aload_n 0, 1) := by decide +kernel
theorem dX7_move_56 : decode cX7_move 56 = .ok (.getfield 28, 3) := by decide +kernel
theorem dX7_move_59 : decode cX7_move 59 = .ok (.bipush 24, 2) := by decide +kernel
theorem dX7_move_61 : decode cX7_move 61 = .ok (.iload_n 3, 1) := by decide +kernel
theorem dX7_move_62 : decode cX7_move 62 = .ok (.imul, 1) := by decide +kernel
theorem dX7_move_63 : decode cX7_move 63 = .ok (.iload 4, 2) := by decide +kernel
theorem dX7_move_65 : decode cX7_move 65 = .ok (.iadd, 1) := by decide +kernel
theorem dX7_move_66 : decode cX7_move 66 = .ok (.iload 8, 2) := by decide +kernel
theorem dX7_move_68 : decode cX7_move 68 = .ok (.iadd, 1) := by decide +kernel
theorem dX7_move_69 : decode cX7_move 69 = .ok (.aload_n 0, 1) := by decide +kernel
theorem dX7_move_70 : decode cX7_move 70 = .ok (.getfield 28, 3) := by decide +kernel
theorem dX7_move_73 : decode cX7_move 73 = .ok (.bipush 24, 2) := by decide +kernel
theorem dX7_move_75 : decode cX7_move 75 = .ok (.iload_n 1, 1) := by decide +kernel
theorem dX7_move_76 : decode cX7_move 76 = .ok (.imul, 1) := by decide +kernel
theorem dX7_move_77 : decode cX7_move 77 = .ok (.iload_n 2, 1) := by decide +kernel
theorem dX7_move_78 : decode cX7_move 78 = .ok (.iadd, 1) := by decide +kernel
theorem dX7_move_79 : decode cX7_move 79 = .ok (.iload 8, 2) := by decide +kernel
theorem dX7_move_81 : decode cX7_move 81 = .ok (.iadd, 1) := by decide +kernel
theorem dX7_move_82 : decode cX7_move 82 = .ok (.iaload, 1) := by decide +kernel
theorem dX7_move_83 : decode cX7_move 83 = .ok (.iastore, 1) := by decide +kernel
theorem dX7_move_84 : decode cX7_move 84 = .ok (.iinc 7 1, 3) := by decide +kernel
theorem dX7_move_87 : decode cX7_move 87 = .ok (.goto (-59), 3) := by decide +kernel
theorem dX7_move_90 : decode cX7_move 90 = .ok (.iload 5, 2) := by decide +kernel
theorem dX7_move_92 : decode cX7_move 92 = .ok (.ireturn, 1) := by decide +kernel
theorem dX7_soaks_0 : decode cX7_soaks 0 = .ok (.aload_n 0, 1) := by decide +kernel
theorem dX7_soaks_1 : decode cX7_soaks 1 = .ok (.iload_n 1, 1) := by decide +kernel
theorem dX7_soaks_2 : decode cX7_soaks 2 = .ok (.invokevirtual 211, 3) := by decide +kernel
theorem dX7_soaks_5 : decode cX7_soaks 5 = .ok (.istore_n 2, 1) := by decide +kernel
theorem dX7_soaks_6 : decode cX7_soaks 6 = .ok (.iload_n 2, 1) := by decide +kernel
theorem dX7_soaks_7 : decode cX7_soaks 7 = .ok (.ifCond .eq 9, 3) := by decide +kernel
theorem dX7_soaks_10 : decode cX7_soaks 10 = .ok (.aload_n 0, 1) := by decide +kernel
theorem dX7_soaks_11 : decode cX7_soaks 11 = .ok (.iload_n 2, 1) := by decide +kernel
theorem dX7_soaks_12 : decode cX7_soaks 12 = .ok (.invokevirtual 81, 3) := by decide +kernel
theorem dX7_soaks_15 : decode cX7_soaks 15 = .ok (.ireturn, 1) := by decide +kernel
theorem dX7_soaks_16 : decode cX7_soaks 16 = .ok (.iconst 0, 1) := by decide +kernel
theorem dX7_soaks_17 : decode cX7_soaks 17 = .ok (.istore_n 3, 1) := by decide +kernel
theorem dX7_soaks_18 : decode cX7_soaks 18 = .ok (.iload_n 3, 1) := by decide +kernel
theorem dX7_soaks_19 : decode cX7_soaks 19 = .ok (.aload_n 0, 1) := by decide +kernel
theorem dX7_soaks_20 : decode cX7_soaks 20 = .ok (.getfield 25, 3) := by decide +kernel
theorem dX7_soaks_23 : decode cX7_soaks 23 = .ok (.iload_n 1, 1) := by decide +kernel
theorem dX7_soaks_24 : decode cX7_soaks 24 = .ok (.iaload, 1) := by decide +kernel
theorem dX7_soaks_25 : decode cX7_soaks 25 = .ok (.if_icmp .ge 56, 3) := by decide +kernel
theorem dX7_soaks_28 : decode cX7_soaks 28 = .ok (.iload_n 3, 1) := by decide +kernel
theorem dX7_soaks_29 : decode cX7_soaks 29 = .ok (.aload_n 0, 1) := by decide +kernel
theorem dX7_soaks_30 : decode cX7_soaks 30 = .ok (.getfield 9, 3) := by decide +kernel
theorem dX7_soaks_33 : decode cX7_soaks 33 = .ok (.iconst 2, 1) := by decide +kernel
theorem dX7_soaks_34 : decode cX7_soaks 34 = .ok (.iaload, 1) := by decide +kernel
theorem dX7_soaks_35 : decode cX7_soaks 35 = .ok (.if_icmp .ge 46, 3) := by decide +kernel
theorem dX7_soaks_38 : decode cX7_soaks 38 = .ok (.aload_n 0, 1) := by decide +kernel
theorem dX7_soaks_39 : decode cX7_soaks 39 = .ok (.getfield 28, 3) := by decide +kernel
theorem dX7_soaks_42 : decode cX7_soaks 42 = .ok (.bipush 24, 2) := by decide +kernel
theorem dX7_soaks_44 : decode cX7_soaks 44 = .ok (.iload_n 1, 1) := by decide +kernel
theorem dX7_soaks_45 : decode cX7_soaks 45 = .ok (.imul, 1) := by decide +kernel
theorem dX7_soaks_46 : decode cX7_soaks 46 = .ok (.iload_n 3, 1) := by decide +kernel
theorem dX7_soaks_47 : decode cX7_soaks 47 = .ok (.iadd, 1) := by decide +kernel
theorem dX7_soaks_48 : decode cX7_soaks 48 = .ok (.iaload, 1) := by decide +kernel
theorem dX7_soaks_49 : decode cX7_soaks 49 = .ok (.iconst 0, 1) := by decide +kernel
theorem dX7_soaks_50 : decode cX7_soaks 50 = .ok (.bipush 9, 2) := by decide +kernel
theorem dX7_soaks_52 : decode cX7_soaks 52 = .ok (.invokestatic 54, 3) := by decide +kernel
theorem dX7_soaks_55 : decode cX7_soaks 55 = .ok (.ifCond .eq 26, 3) := by decide +kernel
theorem dX7_soaks_58 : decode cX7_soaks 58 = .ok (.aload_n 0, 1) := by decide +kernel
theorem dX7_soaks_59 : decode cX7_soaks 59 = .ok (.iload_n 3, 1) := by decide +kernel
theorem dX7_soaks_60 : decode cX7_soaks 60 = .ok (.iconst 5, 1) := by decide +kernel
theorem dX7_soaks_61 : decode cX7_soaks 61 = .ok (.aload_n 0, 1) := by decide +kernel
theorem dX7_soaks_62 : decode cX7_soaks 62 = .ok (.getfield 28, 3) := by decide +kernel
theorem dX7_soaks_65 : decode cX7_soaks 65 = .ok (.bipush 24, 2) := by decide +kernel
theorem dX7_soaks_67 : decode cX7_soaks 67 = .ok (.iload_n 1, 1) := by decide +kernel
theorem dX7_soaks_68 : decode cX7_soaks 68 = .ok (.imul, 1) := by decide +kernel
theorem dX7_soaks_69 : decode cX7_soaks 69 = .ok (.iload_n 3, 1) := by decide +kernel
theorem dX7_soaks_70 : decode cX7_soaks 70 = .ok (.iadd, 1) := by decide +kernel
theorem dX7_soaks_71 : decode cX7_soaks 71 = .ok (.iaload, 1) := by decide +kernel
theorem dX7_soaks_72 : decode cX7_soaks 72 = .ok (.invokevirtual 86, 3) := by decide +kernel
theorem dX7_soaks_75 : decode cX7_soaks 75 = .ok (.iinc 3 1, 3) := by decide +kernel
theorem dX7_soaks_78 : decode cX7_soaks 78 = .ok (.goto (-60), 3) := by decide +kernel
theorem dX7_soaks_81 : decode cX7_soaks 81 = .ok (.iload_n 3, 1) := by decide +kernel
theorem dX7_soaks_82 : decode cX7_soaks 82 = .ok (.ireturn, 1) := by decide +kernel
theorem dX7_judge_0 : decode cX7_judge 0 = .ok (.aload_n 0, 1) := by decide +kernel
theorem dX7_judge_1 : decode cX7_judge 1 = .ok (.iload_n 1, 1) := by decide +kernel
theorem dX7_judge_2 : decode cX7_judge 2 = .ok (.invokevirtual 211, 3) := by decide +kernel
theorem dX7_judge_5 : decode cX7_judge 5 = .ok (.istore_n 2, 1) := by decide +kernel
theorem dX7_judge_6 : decode cX7_judge 6 = .ok (.iload_n 2, 1) := by decide +kernel
theorem dX7_judge_7 : decode cX7_judge 7 = .ok (.ifCond .eq 11, 3) := by decide +kernel
theorem dX7_judge_10 : decode cX7_judge 10 = .ok (.aload_n 0, 1) := by decide +kernel
theorem dX7_judge_11 : decode cX7_judge 11 = .ok (.iload_n 2, 1) := by decide +kernel
theorem dX7_judge_12 : decode cX7_judge 12 = .ok (.invokevirtual 81, 3) := by decide +kernel
theorem dX7_judge_15 : decode cX7_judge 15 = .ok (.goto 8, 3) := by decide +kernel
theorem dX7_judge_18 : decode cX7_judge 18 = .ok (.aload_n 0, 1) := by decide +kernel
theorem dX7_judge_19 : decode cX7_judge 19 = .ok (.iload_n 1, 1) := by decide +kernel
theorem dX7_judge_20 : decode cX7_judge 20 = .ok (.invokevirtual 214, 3) := by decide +kernel
theorem dX7_judge_23 : decode cX7_judge 23 = .ok (.ireturn, 1) := by decide +kernel
theorem dX7_image_0 : decode cX7_image 0 = .ok (.aload_n 0, 1) := by decide +kernel
theorem dX7_image_1 : decode cX7_image 1 = .ok (.getfield 9, 3) := by decide +kernel
theorem dX7_image_4 : decode cX7_image 4 = .ok (.aload_n 0, 1) := by decide +kernel
theorem dX7_image_5 : decode cX7_image 5 = .ok (.getfield 13, 3) := by decide +kernel
theorem dX7_image_8 : decode cX7_image 8 = .ok (.invokestatic 50, 3) := by decide +kernel
theorem dX7_image_11 : decode cX7_image 11 = .ok (.aload_n 0, 1) := by decide +kernel
theorem dX7_image_12 : decode cX7_image 12 = .ok (.dup, 1) := by decide +kernel
theorem dX7_image_13 : decode cX7_image 13 = .ok (.getfield 264, 3) := by decide +kernel
theorem dX7_image_16 : decode cX7_image 16 = .ok (.iconst 1, 1) := by decide +kernel
theorem dX7_image_17 : decode cX7_image 17 = .ok (.iadd, 1) := by decide +kernel
theorem dX7_image_18 : decode cX7_image 18 = .ok (.putfield 264, 3) := by decide +kernel
theorem dX7_image_21 : decode cX7_image 21 = .ok (.aload_n 0, 1) := by decide +kernel
theorem dX7_image_22 : decode cX7_image 22 = .ok (.getfield 264, 3) := by decide +kernel
theorem dX7_image_25 : decode cX7_image 25 = .ok (.ireturn, 1) := by decide +kernel
theorem dX7_restore_0 : decode cX7_restore 0 = .ok (.aload_n 0, 1) := by decide +kernel
theorem dX7_restore_1 : decode cX7_restore 1 = .ok (.getfield 264, 3) := by decide +kernel
theorem dX7_restore_4 : decode cX7_restore 4 = .ok (.ifCond .ne 10, 3) := by decide +kernel
theorem dX7_restore_7 : decode cX7_restore 7 = .ok (.aload_n 0, 1) := by decide +kernel
theorem dX7_restore_8 : decode cX7_restore 8 = .ok (.ldc 195, 2) := by decide +kernel
theorem dX7_restore_10 : decode cX7_restore 10 = .ok (.invokevirtual 81, 3) := by decide +kernel
theorem dX7_restore_13 : decode cX7_restore 13 = .ok (.ireturn, 1) := by decide +kernel
theorem dX7_restore_14 : decode cX7_restore 14 = .ok (.aload_n 0, 1) := by decide +kernel
theorem dX7_restore_15 : decode cX7_restore 15 = .ok (.getfield 13, 3) := by decide +kernel
theorem dX7_restore_18 : decode cX7_restore 18 = .ok (.aload_n 0, 1) := by decide +kernel
theorem dX7_restore_19 : decode cX7_restore 19 = .ok (.getfield 9, 3) := by decide +kernel
theorem dX7_restore_22 : decode cX7_restore 22 = .ok (.invokestatic 50, 3) := by decide +kernel
theorem dX7_restore_25 : decode cX7_restore 25 = .ok (.aload_n 0, 1) := by decide +kernel
theorem dX7_restore_26 : decode cX7_restore 26 = .ok (.getfield 9, 3) := by decide +kernel
theorem dX7_restore_29 : decode cX7_restore 29 = .ok (.iconst 0, 1) := by decide +kernel
theorem dX7_restore_30 : decode cX7_restore 30 = .ok (.iaload, 1) := by decide +kernel
theorem dX7_restore_31 : decode cX7_restore 31 = .ok (.ireturn, 1) := by decide +kernel
theorem dX7_tell_0 : decode cX7_tell 0 = .ok (.aload_n 0, 1) := by decide +kernel
theorem dX7_tell_1 : decode cX7_tell 1 = .ok (.getfield 9, 3) := by decide +kernel
theorem dX7_tell_4 : decode cX7_tell 4 = .ok (.bipush 8, 2) := by decide +kernel
theorem dX7_tell_6 : decode cX7_tell 6 = .ok (.iaload, 1) := by decide +kernel
theorem dX7_tell_7 : decode cX7_tell 7 = .ok (.bipush 24, 2) := by decide +kernel
theorem dX7_tell_9 : decode cX7_tell 9 = .ok (.if_icmp .ne 10, 3) := by decide +kernel
theorem dX7_tell_12 : decode cX7_tell 12 = .ok (.aload_n 0, 1) := by decide +kernel
theorem dX7_tell_13 : decode cX7_tell 13 = .ok (.ldc 85, 2) := by decide +kernel
theorem dX7_tell_15 : decode cX7_tell 15 = .ok (.invokevirtual 81, 3) := by decide +kernel
theorem dX7_tell_18 : decode cX7_tell 18 = .ok (.ireturn, 1) := by decide +kernel
theorem dX7_tell_19 : decode cX7_tell 19 = .ok (.aload_n 0, 1) := by decide +kernel
theorem dX7_tell_20 : decode cX7_tell 20 = .ok (.getfield 9, 3) := by decide +kernel
theorem dX7_tell_23 : decode cX7_tell 23 = .ok (.sipush 132, 3) := by decide +kernel
theorem dX7_tell_26 : decode cX7_tell 26 = .ok (.aload_n 0, 1) := by decide +kernel
theorem dX7_tell_27 : decode cX7_tell 27 = .ok (.getfield 9, 3) := by decide +kernel
theorem dX7_tell_30 : decode cX7_tell 30 = .ok (.bipush 8, 2) := by decide +kernel
theorem dX7_tell_32 : decode cX7_tell 32 = .ok (.iaload, 1) := by decide +kernel
theorem dX7_tell_33 : decode cX7_tell 33 = .ok (.iadd, 1) := by decide +kernel
theorem dX7_tell_34 : decode cX7_tell 34 = .ok (.iload_n 1, 1) := by decide +kernel
theorem dX7_tell_35 : decode cX7_tell 35 = .ok (.iastore, 1) := by decide +kernel
theorem dX7_tell_36 : decode cX7_tell 36 = .ok (.aload_n 0, 1) := by decide +kernel
theorem dX7_tell_37 : decode cX7_tell 37 = .ok (.getfield 9, 3) := by decide +kernel
theorem dX7_tell_40 : decode cX7_tell 40 = .ok (.bipush 8, 2) := by decide +kernel
theorem dX7_tell_42 : decode cX7_tell 42 = .ok (.dup2, 1) := by decide +kernel
theorem dX7_tell_43 : decode cX7_tell 43 = .ok (.iaload, 1) := by decide +kernel
theorem dX7_tell_44 : decode cX7_tell 44 = .ok (.iconst 1, 1) := by decide +kernel
theorem dX7_tell_45 : decode cX7_tell 45 = .ok (.iadd, 1) := by decide +kernel
theorem dX7_tell_46 : decode cX7_tell 46 = .ok (.iastore, 1) := by decide +kernel
theorem dX7_tell_47 : decode cX7_tell 47 = .ok (.aload_n 0, 1) := by decide +kernel
theorem dX7_tell_48 : decode cX7_tell 48 = .ok (.getfield 9, 3) := by decide +kernel
theorem dX7_tell_51 : decode cX7_tell 51 = .ok (.bipush 8, 2) := by decide +kernel
theorem dX7_tell_53 : decode cX7_tell 53 = .ok (.iaload, 1) := by decide +kernel
theorem dX7_tell_54 : decode cX7_tell 54 = .ok (.ireturn, 1) := by decide +kernel
theorem dX7_check_0 : decode cX7_check 0 = .ok (.aload_n 0, 1) := by decide +kernel
theorem dX7_check_1 : decode cX7_check 1 = .ok (.getfield 9, 3) := by decide +kernel
theorem dX7_check_4 : decode cX7_check 4 = .ok (.bipush 8, 2) := by decide +kernel
theorem dX7_check_6 : decode cX7_check 6 = .ok (.iaload, 1) := by decide +kernel
theorem dX7_check_7 : decode cX7_check 7 = .ok (.istore_n 1, 1) := by decide +kernel
theorem dX7_check_8 : decode cX7_check 8 = .ok (.aload_n 0, 1) := by decide +kernel
theorem dX7_check_9 : decode cX7_check 9 = .ok (.getfield 9, 3) := by decide +kernel
theorem dX7_check_12 : decode cX7_check 12 = .ok (.bipush 8, 2) := by decide +kernel
theorem dX7_check_14 : decode cX7_check 14 = .ok (.iconst 0, 1) := by decide +kernel
theorem dX7_check_15 : decode cX7_check 15 = .ok (.iastore, 1) := by decide +kernel
theorem dX7_check_16 : decode cX7_check 16 = .ok (.iconst 0, 1) := by decide +kernel
theorem dX7_check_17 : decode cX7_check 17 = .ok (.istore_n 2, 1) := by decide +kernel
theorem dX7_check_18 : decode cX7_check 18 = .ok (.iload_n 2, 1) := by decide +kernel
theorem dX7_check_19 : decode cX7_check 19 = .ok (.iload_n 1, 1) := by decide +kernel
theorem dX7_check_20 : decode cX7_check 20 = .ok (.if_icmp .ge 40, 3) := by decide +kernel
theorem dX7_check_23 : decode cX7_check 23 = .ok (.aload_n 0, 1) := by decide +kernel
theorem dX7_check_24 : decode cX7_check 24 = .ok (.iload_n 2, 1) := by decide +kernel
theorem dX7_check_25 : decode cX7_check 25 = .ok (.invokevirtual 90, 3) := by decide +kernel
theorem dX7_check_28 : decode cX7_check 28 = .ok (.ifCond .eq 22, 3) := by decide +kernel
theorem dX7_check_31 : decode cX7_check 31 = .ok (.aload_n 0, 1) := by decide +kernel
theorem dX7_check_32 : decode cX7_check 32 = .ok (.getfield 9, 3) := by decide +kernel
theorem dX7_check_35 : decode cX7_check 35 = .ok (.sipush 132, 3) := by decide +kernel
theorem dX7_check_38 : decode cX7_check 38 = .ok (.iload_n 2, 1) := by decide +kernel
theorem dX7_check_39 : decode cX7_check 39 = .ok (.iadd, 1) := by decide +kernel
theorem dX7_check_40 : decode cX7_check 40 = .ok (.iaload, 1) := by decide +kernel
theorem dX7_check_41 : decode cX7_check 41 = .ok (.aload_n 0, 1) := by decide +kernel
theorem dX7_check_42 : decode cX7_check 42 = .ok (.iload_n 2, 1) := by decide +kernel
theorem dX7_check_43 : decode cX7_check 43 = .ok (.iconst 4, 1) := by decide +kernel
theorem dX7_check_44 : decode cX7_check 44 = .ok (.invokevirtual 62, 3) := by decide +kernel
theorem dX7_check_47 : decode cX7_check 47 = .ok (.if_icmp .eq 7, 3) := by decide +kernel
theorem dX7_check_50 : decode cX7_check 50 = .ok (.iconst 1, 1) := by decide +kernel
theorem dX7_check_51 : decode cX7_check 51 = .ok (.iload_n 2, 1) := by decide +kernel
theorem dX7_check_52 : decode cX7_check 52 = .ok (.iadd, 1) := by decide +kernel
theorem dX7_check_53 : decode cX7_check 53 = .ok (.ireturn, 1) := by decide +kernel
theorem dX7_check_54 : decode cX7_check 54 = .ok (.iinc 2 1, 3) := by decide +kernel
theorem dX7_check_57 : decode cX7_check 57 = .ok (.goto (-39), 3) := by decide +kernel
theorem dX7_check_60 : decode cX7_check 60 = .ok (.iconst 0, 1) := by decide +kernel
theorem dX7_check_61 : decode cX7_check 61 = .ok (.ireturn, 1) := by decide +kernel
theorem dX7_count_0 : decode cX7_count 0 = .ok (.iload_n 1, 1) := by decide +kernel
theorem dX7_count_1 : decode cX7_count 1 = .ok (.tableswitch 126 0 9 #[55, 62, 69, 76, 83, 90, 98, 106, 114, 119], 55) := by decide +kernel
theorem dX7_count_56 : decode cX7_count 56 = .ok (.aload_n 0, 1) := by decide +kernel
theorem dX7_count_57 : decode cX7_count 57 = .ok (.getfield 9, 3) := by decide +kernel
theorem dX7_count_60 : decode cX7_count 60 = .ok (.iconst 2, 1) := by decide +kernel
theorem dX7_count_61 : decode cX7_count 61 = .ok (.iaload, 1) := by decide +kernel
theorem dX7_count_62 : decode cX7_count 62 = .ok (.ireturn, 1) := by decide +kernel
theorem dX7_count_63 : decode cX7_count 63 = .ok (.aload_n 0, 1) := by decide +kernel
theorem dX7_count_64 : decode cX7_count 64 = .ok (.getfield 9, 3) := by decide +kernel
theorem dX7_count_67 : decode cX7_count 67 = .ok (.iconst 0, 1) := by decide +kernel
theorem dX7_count_68 : decode cX7_count 68 = .ok (.iaload, 1) := by decide +kernel
theorem dX7_count_69 : decode cX7_count 69 = .ok (.ireturn, 1) := by decide +kernel
theorem dX7_count_70 : decode cX7_count 70 = .ok (.aload_n 0, 1) := by decide +kernel
theorem dX7_count_71 : decode cX7_count 71 = .ok (.getfield 9, 3) := by decide +kernel
theorem dX7_count_74 : decode cX7_count 74 = .ok (.iconst 4, 1) := by decide +kernel
theorem dX7_count_75 : decode cX7_count 75 = .ok (.iaload, 1) := by decide +kernel
theorem dX7_count_76 : decode cX7_count 76 = .ok (.ireturn, 1) := by decide +kernel
theorem dX7_count_77 : decode cX7_count 77 = .ok (.aload_n 0, 1) := by decide +kernel
theorem dX7_count_78 : decode cX7_count 78 = .ok (.getfield 9, 3) := by decide +kernel
theorem dX7_count_81 : decode cX7_count 81 = .ok (.iconst 3, 1) := by decide +kernel
theorem dX7_count_82 : decode cX7_count 82 = .ok (.iaload, 1) := by decide +kernel
theorem dX7_count_83 : decode cX7_count 83 = .ok (.ireturn, 1) := by decide +kernel
theorem dX7_count_84 : decode cX7_count 84 = .ok (.aload_n 0, 1) := by decide +kernel
theorem dX7_count_85 : decode cX7_count 85 = .ok (.getfield 9, 3) := by decide +kernel
theorem dX7_count_88 : decode cX7_count 88 = .ok (.iconst 5, 1) := by decide +kernel
theorem dX7_count_89 : decode cX7_count 89 = .ok (.iaload, 1) := by decide +kernel
theorem dX7_count_90 : decode cX7_count 90 = .ok (.ireturn, 1) := by decide +kernel
theorem dX7_count_91 : decode cX7_count 91 = .ok (.aload_n 0, 1) := by decide +kernel
theorem dX7_count_92 : decode cX7_count 92 = .ok (.getfield 9, 3) := by decide +kernel
theorem dX7_count_95 : decode cX7_count 95 = .ok (.bipush 6, 2) := by decide +kernel
theorem dX7_count_97 : decode cX7_count 97 = .ok (.iaload, 1) := by decide +kernel
theorem dX7_count_98 : decode cX7_count 98 = .ok (.ireturn, 1) := by decide +kernel
theorem dX7_count_99 : decode cX7_count 99 = .ok (.aload_n 0, 1) := by decide +kernel
theorem dX7_count_100 : decode cX7_count 100 = .ok (.getfield 9, 3) := by decide +kernel
theorem dX7_count_103 : decode cX7_count 103 = .ok (.bipush 7, 2) := by decide +kernel
theorem dX7_count_105 : decode cX7_count 105 = .ok (.iaload, 1) := by decide +kernel
theorem dX7_count_106 : decode cX7_count 106 = .ok (.ireturn, 1) := by decide +kernel
theorem dX7_count_107 : decode cX7_count 107 = .ok (.aload_n 0, 1) := by decide +kernel
theorem dX7_count_108 : decode cX7_count 108 = .ok (.getfield 9, 3) := by decide +kernel
theorem dX7_count_111 : decode cX7_count 111 = .ok (.bipush 8, 2) := by decide +kernel
theorem dX7_count_113 : decode cX7_count 113 = .ok (.iaload, 1) := by decide +kernel
theorem dX7_count_114 : decode cX7_count 114 = .ok (.ireturn, 1) := by decide +kernel
theorem dX7_count_115 : decode cX7_count 115 = .ok (.aload_n 0, 1) := by decide +kernel
theorem dX7_count_116 : decode cX7_count 116 = .ok (.getfield 217, 3) := by decide +kernel
theorem dX7_count_119 : decode cX7_count 119 = .ok (.ireturn, 1) := by decide +kernel
theorem dX7_count_120 : decode cX7_count 120 = .ok (.aload_n 0, 1) := by decide +kernel
theorem dX7_count_121 : decode cX7_count 121 = .ok (.getfield 9, 3) := by decide +kernel
theorem dX7_count_124 : decode cX7_count 124 = .ok (.iconst 1, 1) := by decide +kernel
theorem dX7_count_125 : decode cX7_count 125 = .ok (.iaload, 1) := by decide +kernel
theorem dX7_count_126 : decode cX7_count 126 = .ok (.ireturn, 1) := by decide +kernel
theorem dX7_count_127 : decode cX7_count 127 = .ok (.aload_n 0, 1) := by decide +kernel
theorem dX7_count_128 : decode cX7_count 128 = .ok (.ldc 80, 2) := by decide +kernel
theorem dX7_count_130 : decode cX7_count 130 = .ok (.invokevirtual 81, 3) := by decide +kernel
theorem dX7_count_133 : decode cX7_count 133 = .ok (.ireturn, 1) := by decide +kernel
theorem dX7_told_0 : decode cX7_told 0 = .ok (.iload_n 1, 1) := by decide +kernel
theorem dX7_told_1 : decode cX7_told 1 = .ok (.iconst 1, 1) := by decide +kernel
theorem dX7_told_2 : decode cX7_told 2 = .ok (.bipush 6, 2) := by decide +kernel
theorem dX7_told_4 : decode cX7_told 4 = .ok (.invokestatic 54, 3) := by decide +kernel
theorem dX7_told_7 : decode cX7_told 7 = .ok (.ifCond .eq 12, 3) := by decide +kernel
theorem dX7_told_10 : decode cX7_told 10 = .ok (.aload_n 0, 1) := by decide +kernel
theorem dX7_told_11 : decode cX7_told 11 = .ok (.getfield 19, 3) := by decide +kernel
theorem dX7_told_14 : decode cX7_told 14 = .ok (.iload_n 1, 1) := by decide +kernel
theorem dX7_told_15 : decode cX7_told 15 = .ok (.iaload, 1) := by decide +kernel
theorem dX7_told_16 : decode cX7_told 16 = .ok (.goto 9, 3) := by decide +kernel
theorem dX7_told_19 : decode cX7_told 19 = .ok (.aload_n 0, 1) := by decide +kernel
theorem dX7_told_20 : decode cX7_told 20 = .ok (.ldc 80, 2) := by decide +kernel
theorem dX7_told_22 : decode cX7_told 22 = .ok (.invokevirtual 81, 3) := by decide +kernel
theorem dX7_told_25 : decode cX7_told 25 = .ok (.ireturn, 1) := by decide +kernel
