theorem dX6_init_0 : decode cX6_init 0 = .ok (.aload_n 0, 1) := by decide +kernel
theorem dX6_init_1 : decode cX6_init 1 = .ok (.invokespecial 1, 3) := by decide +kernel
theorem dX6_init_4 : decode cX6_init 4 = .ok (.aload_n 0, 1) := by decide +kernel
theorem dX6_init_5 : decode cX6_init 5 = .ok (.new 7, 3) := by decide +kernel
theorem dX6_init_8 : decode cX6_init 8 = .ok (.dup, 1) := by decide +kernel
theorem dX6_init_9 : decode cX6_init 9 = .ok (.invokespecial 9, 3) := by decide +kernel
theorem dX6_init_12 : decode cX6_init 12 = .ok (.putfield 10, 3) := by decide +kernel
theorem dX6_init_15 : decode cX6_init 15 = .ok (.aload_n 0, 1) := by decide +kernel
theorem dX6_init_16 : decode cX6_init 16 = .ok (.new 7, 3) := by decide +kernel
theorem dX6_init_19 : decode cX6_init 19 = .ok (.dup, 1) := by decide +kernel
theorem dX6_init_20 : decode cX6_init 20 = .ok (.invokespecial 9, 3) := by decide +kernel
theorem dX6_init_23 : decode cX6_init 23 = .ok (.putfield 16, 3) := by decide +kernel
theorem dX6_init_26 : decode cX6_init 26 = .ok (.aload_n 0, 1) := by decide +kernel
theorem dX6_init_27 : decode cX6_init 27 = .ok (.new 7, 3) := by decide +kernel
theorem dX6_init_30 : decode cX6_init 30 = .ok (.dup, 1) := by decide +kernel
theorem dX6_init_31 : decode cX6_init 31 = .ok (.invokespecial 9, 3) := by decide +kernel
theorem dX6_init_34 : decode cX6_init 34 = .ok (.putfield 19, 3) := by decide +kernel
theorem dX6_init_37 : decode cX6_init 37 = .ok (.aload_n 0, 1) := by decide +kernel
theorem dX6_init_38 : decode cX6_init 38 = .ok (.new 22, 3) := by decide +kernel
theorem dX6_init_41 : decode cX6_init 41 = .ok (.dup, 1) := by decide +kernel
theorem dX6_init_42 : decode cX6_init 42 = .ok (.invokespecial 24, 3) := by decide +kernel
theorem dX6_init_45 : decode cX6_init 45 = .ok (.putfield 25, 3) := by decide +kernel
theorem dX6_init_48 : decode cX6_init 48 = .ok (.aload_n 0, 1) := by decide +kernel
theorem dX6_init_49 : decode cX6_init 49 = .ok (.new 29, 3) := by decide +kernel
theorem dX6_init_52 : decode cX6_init 52 = .ok (.dup, 1) := by decide +kernel
theorem dX6_init_53 : decode cX6_init 53 = .ok (.invokespecial 31, 3) := by decide +kernel
theorem dX6_init_56 : decode cX6_init 56 = .ok (.putfield 32, 3) := by decide +kernel
theorem dX6_init_59 : decode cX6_init 59 = .ok (.aload_n 0, 1) := by decide +kernel
theorem dX6_init_60 : decode cX6_init 60 = .ok (.iconst 4, 1) := by decide +kernel
theorem dX6_init_61 : decode cX6_init 61 = .ok (.anewarray 36, 3) := by decide +kernel
theorem dX6_init_64 : decode cX6_init 64 = .ok (.putfield 38, 3) := by decide +kernel
theorem dX6_init_67 : decode cX6_init 67 = .ok (.aload_n 0, 1) := by decide +kernel
theorem dX6_init_68 : decode cX6_init 68 = .ok (.bipush 7, 2) := by decide +kernel
theorem dX6_init_70 : decode cX6_init 70 = .ok (.newarray .int, 2) := by decide +kernel
theorem dX6_init_72 : decode cX6_init 72 = .ok (.putfield 42, 3) := by decide +kernel
theorem dX6_init_75 : decode cX6_init 75 = .ok (.aload_n 0, 1) := by decide +kernel
theorem dX6_init_76 : decode cX6_init 76 = .ok (.iconst 0, 1) := by decide +kernel
theorem dX6_init_77 : decode cX6_init 77 = .ok (.putfield 46, 3) := by decide +kernel
theorem dX6_init_80 : decode cX6_init 80 = .ok (.iconst 0, 1) := by decide +kernel
theorem dX6_init_81 : decode cX6_init 81 = .ok (.istore_n 1, 1) := by decide +kernel
theorem dX6_init_82 : decode cX6_init 82 = .ok (.iload_n 1, 1) := by decide +kernel
theorem dX6_init_83 : decode cX6_init 83 = .ok (.iconst 4, 1) := by decide +kernel
theorem dX6_init_84 : decode cX6_init 84 = .ok (.if_icmp .ge 22, 3) := by decide +kernel
theorem dX6_init_87 : decode cX6_init 87 = .ok (.aload_n 0, 1) := by decide +kernel
theorem dX6_init_88 : decode cX6_init 88 = .ok (.getfield 38, 3) := by decide +kernel
theorem dX6_init_91 : decode cX6_init 91 = .ok (.iload_n 1, 1) := by decide +kernel
theorem dX6_init_92 : decode cX6_init 92 = .ok (.new 36, 3) := by decide +kernel
theorem dX6_init_95 : decode cX6_init 95 = .ok (.dup, 1) := by decide +kernel
theorem dX6_init_96 : decode cX6_init 96 = .ok (.invokespecial 50, 3) := by decide +kernel
theorem dX6_init_99 : decode cX6_init 99 = .ok (.aastore, 1) := by decide +kernel
theorem dX6_init_100 : decode cX6_init 100 = .ok (.iinc 1 1, 3) := by decide +kernel
theorem dX6_init_103 : decode cX6_init 103 = .ok (.goto (-21), 3) := by decide +kernel
theorem dX6_init_106 : decode cX6_init 106 = .ok (.return_, 1) := by decide +kernel
theorem dX6_span_0 : decode cX6_span 0 = .ok (.iload_n 1, 1) := by decide +kernel
theorem dX6_span_1 : decode cX6_span 1 = .ok (.invokestatic 51, 3) := by decide +kernel
theorem dX6_span_4 : decode cX6_span 4 = .ok (.ifCond .eq 11, 3) := by decide +kernel
theorem dX6_span_7 : decode cX6_span 7 = .ok (.iload_n 2, 1) := by decide +kernel
theorem dX6_span_8 : decode cX6_span 8 = .ok (.iload_n 3, 1) := by decide +kernel
theorem dX6_span_9 : decode cX6_span 9 = .ok (.invokestatic 55, 3) := by decide +kernel
theorem dX6_span_12 : decode cX6_span 12 = .ok (.ifCond .ne 9, 3) := by decide +kernel
theorem dX6_span_15 : decode cX6_span 15 = .ok (.aload_n 0, 1) := by decide +kernel
theorem dX6_span_16 : decode cX6_span 16 = .ok (.iconst 1, 1) := by decide +kernel
theorem dX6_span_17 : decode cX6_span 17 = .ok (.invokevirtual 59, 3) := by decide +kernel
theorem dX6_span_20 : decode cX6_span 20 = .ok (.ireturn, 1) := by decide +kernel
theorem dX6_span_21 : decode cX6_span 21 = .ok (.aload_n 0, 1) := by decide +kernel
theorem dX6_span_22 : decode cX6_span 22 = .ok (.getfield 10, 3) := by decide +kernel
theorem dX6_span_25 : decode cX6_span 25 = .ok (.getfield 63, 3) := by decide +kernel
theorem dX6_span_28 : decode cX6_span 28 = .ok (.bipush 9, 2) := by decide +kernel
theorem dX6_span_30 : decode cX6_span 30 = .ok (.if_icmp .lt 9, 3) := by decide +kernel
theorem dX6_span_33 : decode cX6_span 33 = .ok (.aload_n 0, 1) := by decide +kernel
theorem dX6_span_34 : decode cX6_span 34 = .ok (.iconst 4, 1) := by decide +kernel
theorem dX6_span_35 : decode cX6_span 35 = .ok (.invokevirtual 59, 3) := by decide +kernel
theorem dX6_span_38 : decode cX6_span 38 = .ok (.ireturn, 1) := by decide +kernel
theorem dX6_span_39 : decode cX6_span 39 = .ok (.aload_n 0, 1) := by decide +kernel
theorem dX6_span_40 : decode cX6_span 40 = .ok (.getfield 10, 3) := by decide +kernel
theorem dX6_span_43 : decode cX6_span 43 = .ok (.iload_n 1, 1) := by decide +kernel
theorem dX6_span_44 : decode cX6_span 44 = .ok (.iload_n 2, 1) := by decide +kernel
theorem dX6_span_45 : decode cX6_span 45 = .ok (.iload_n 3, 1) := by decide +kernel
theorem dX6_span_46 : decode cX6_span 46 = .ok (.invokevirtual 66, 3) := by decide +kernel
theorem dX6_span_49 : decode cX6_span 49 = .ok (.ireturn, 1) := by decide +kernel
theorem dX6_spanIs_0 : decode cX6_spanIs 0 = .ok (.aload_n 0, 1) := by decide +kernel
theorem dX6_spanIs_1 : decode cX6_spanIs 1 = .ok (.getfield 10, 3) := by decide +kernel
theorem dX6_spanIs_4 : decode cX6_spanIs 4 = .ok (.iload_n 1, 1) := by decide +kernel
theorem dX6_spanIs_5 : decode cX6_spanIs 5 = .ok (.invokevirtual 70, 3) := by decide +kernel
theorem dX6_spanIs_8 : decode cX6_spanIs 8 = .ok (.ifCond .eq 13, 3) := by decide +kernel
theorem dX6_spanIs_11 : decode cX6_spanIs 11 = .ok (.iload_n 2, 1) := by decide +kernel
theorem dX6_spanIs_12 : decode cX6_spanIs 12 = .ok (.iconst 0, 1) := by decide +kernel
theorem dX6_spanIs_13 : decode cX6_spanIs 13 = .ok (.bipush 8, 2) := by decide +kernel
theorem dX6_spanIs_15 : decode cX6_spanIs 15 = .ok (.invokestatic 73, 3) := by decide +kernel
theorem dX6_spanIs_18 : decode cX6_spanIs 18 = .ok (.ifCond .ne 9, 3) := by decide +kernel
theorem dX6_spanIs_21 : decode cX6_spanIs 21 = .ok (.aload_n 0, 1) := by decide +kernel
theorem dX6_spanIs_22 : decode cX6_spanIs 22 = .ok (.iconst 1, 1) := by decide +kernel
theorem dX6_spanIs_23 : decode cX6_spanIs 23 = .ok (.invokevirtual 59, 3) := by decide +kernel
theorem dX6_spanIs_26 : decode cX6_spanIs 26 = .ok (.ireturn, 1) := by decide +kernel
theorem dX6_spanIs_27 : decode cX6_spanIs 27 = .ok (.aload_n 0, 1) := by decide +kernel
theorem dX6_spanIs_28 : decode cX6_spanIs 28 = .ok (.getfield 10, 3) := by decide +kernel
theorem dX6_spanIs_31 : decode cX6_spanIs 31 = .ok (.getfield 77, 3) := by decide +kernel
theorem dX6_spanIs_34 : decode cX6_spanIs 34 = .ok (.iload_n 1, 1) := by decide +kernel
theorem dX6_spanIs_35 : decode cX6_spanIs 35 = .ok (.aaload, 1) := by decide +kernel
theorem dX6_spanIs_36 : decode cX6_spanIs 36 = .ok (.astore_n 3, 1) := by decide +kernel
theorem dX6_spanIs_37 : decode cX6_spanIs 37 = .ok (.iload_n 2, 1) := by decide +kernel
theorem dX6_spanIs_38 : decode cX6_spanIs 38 = .ok (.tableswitch 101 0 7 #[46, 51, 56, 61, 66, 71, 76, 89], 46) := by decide +kernel
theorem dX6_spanIs_84 : decode cX6_spanIs 84 = .ok (.aload_n 3, 1) := by decide +kernel
theorem dX6_spanIs_85 : decode cX6_spanIs 85 = .ok (.getfield 81, 3) := by decide +kernel
theorem dX6_spanIs_88 : decode cX6_spanIs 88 = .ok (.ireturn, 1) := by decide +kernel
theorem dX6_spanIs_89 : decode cX6_spanIs 89 = .ok (.aload_n 3, 1) := by decide +kernel
theorem dX6_spanIs_90 : decode cX6_spanIs 90 = .ok (.getfield 86, 3) := by decide +kernel
theorem dX6_spanIs_93 : decode cX6_spanIs 93 = .ok (.ireturn, 1) := by decide +kernel
theorem dX6_spanIs_94 : decode cX6_spanIs 94 = .ok (.aload_n 3, 1) := by decide +kernel
theorem dX6_spanIs_95 : decode cX6_spanIs 95 = .ok (.getfield 89, 3) := by decide +kernel
theorem dX6_spanIs_98 : decode cX6_spanIs 98 = .ok (.ireturn, 1) := by decide +kernel
theorem dX6_spanIs_99 : decode cX6_spanIs 99 = .ok (.aload_n 3, 1) := by decide +kernel
theorem dX6_spanIs_100 : decode cX6_spanIs 100 = .ok (.getfield 92, 3) := by decide +kernel
theorem dX6_spanIs_103 : decode cX6_spanIs 103 = .ok (.ireturn, 1) := by decide +kernel
theorem dX6_spanIs_104 : decode cX6_spanIs 104 = .ok (.aload_n 3, 1) := by decide +kernel
theorem dX6_spanIs_105 : decode cX6_spanIs 105 = .ok (.getfield 95, 3) := by decide +kernel
theorem dX6_spanIs_108 : decode cX6_spanIs 108 = .ok (.ireturn, 1) := by decide +kernel
theorem dX6_spanIs_109 : decode cX6_spanIs 109 = .ok (.aload_n 3, 1) := by decide +kernel
theorem dX6_spanIs_110 : decode cX6_spanIs 110 = .ok (.getfield 98, 3) := by decide +kernel
theorem dX6_spanIs_113 : decode cX6_spanIs 113 = .ok (.ireturn, 1) := by decide +kernel
theorem dX6_spanIs_114 : decode cX6_spanIs 114 = .ok (.aload_n 3, 1) := by decide +kernel
theorem dX6_spanIs_115 : decode cX6_spanIs 115 = .ok (.getfield 101, 3) := by decide +kernel
theorem dX6_spanIs_118 : decode cX6_spanIs 118 = .ok (.ifCond .eq 7, 3) := by decide +kernel
theorem dX6_spanIs_121 : decode cX6_spanIs 121 = .ok (.iconst 1, 1) := by decide +kernel
theorem dX6_spanIs_122 : decode cX6_spanIs 122 = .ok (.goto 4, 3) := by decide +kernel
theorem dX6_spanIs_125 : decode cX6_spanIs 125 = .ok (.iconst 0, 1) := by decide +kernel
theorem dX6_spanIs_126 : decode cX6_spanIs 126 = .ok (.ireturn, 1) := by decide +kernel
theorem dX6_spanIs_127 : decode cX6_spanIs 127 = .ok (.aload_n 3, 1) := by decide +kernel
theorem dX6_spanIs_128 : decode cX6_spanIs 128 = .ok (.aload_n 0, 1) := by decide +kernel
theorem dX6_spanIs_129 : decode cX6_spanIs 129 = .ok (.getfield 10, 3) := by decide +kernel
theorem dX6_spanIs_132 : decode cX6_spanIs 132 = .ok (.getfield 105, 3) := by decide +kernel
theorem dX6_spanIs_135 : decode cX6_spanIs 135 = .ok (.invokevirtual 108, 3) := by decide +kernel
theorem dX6_spanIs_138 : decode cX6_spanIs 138 = .ok (.ireturn, 1) := by decide +kernel
theorem dX6_spanIs_139 : decode cX6_spanIs 139 = .ok (.aload_n 3, 1) := by decide +kernel
theorem dX6_spanIs_140 : decode cX6_spanIs 140 = .ok (.invokevirtual 111, 3) := by decide +kernel
theorem dX6_spanIs_143 : decode cX6_spanIs 143 = .ok (.ireturn, 1) := by decide +kernel
theorem dX6_become_0 : decode cX6_become 0 = .ok (.aload_n 0, 1) := by decide +kernel
theorem dX6_become_1 : decode cX6_become 1 = .ok (.getfield 10, 3) := by decide +kernel
theorem dX6_become_4 : decode cX6_become 4 = .ok (.iload_n 1, 1) := by decide +kernel
theorem dX6_become_5 : decode cX6_become 5 = .ok (.invokevirtual 70, 3) := by decide +kernel
theorem dX6_become_8 : decode cX6_become 8 = .ok (.ifCond .eq 10, 3) := by decide +kernel
theorem dX6_become_11 : decode cX6_become 11 = .ok (.iload_n 2, 1) := by decide +kernel
theorem dX6_become_12 : decode cX6_become 12 = .ok (.invokestatic 51, 3) := by decide +kernel
theorem dX6_become_15 : decode cX6_become 15 = .ok (.ifCond .ne 9, 3) := by decide +kernel
theorem dX6_become_18 : decode cX6_become 18 = .ok (.aload_n 0, 1) := by decide +kernel
theorem dX6_become_19 : decode cX6_become 19 = .ok (.iconst 1, 1) := by decide +kernel
theorem dX6_become_20 : decode cX6_become 20 = .ok (.invokevirtual 59, 3) := by decide +kernel
theorem dX6_become_23 : decode cX6_become 23 = .ok (.ireturn, 1) := by decide +kernel
theorem dX6_become_24 : decode cX6_become 24 = .ok (.aload_n 0, 1) := by decide +kernel
theorem dX6_become_25 : decode cX6_become 25 = .ok (.getfield 10, 3) := by decide +kernel
theorem dX6_become_28 : decode cX6_become 28 = .ok (.getfield 77, 3) := by decide +kernel
theorem dX6_become_31 : decode cX6_become 31 = .ok (.iload_n 1, 1) := by decide +kernel
theorem dX6_become_32 : decode cX6_become 32 = .ok (.aaload, 1) := by decide +kernel
theorem dX6_become_33 : decode cX6_become 33 = .ok (.astore_n 3, 1) := by decide +kernel
theorem dX6_become_34 : decode cX6_become 34 = .ok (.aload_n 3, 1) := by decide +kernel
theorem dX6_become_35 : decode cX6_become 35 = .ok (.getfield 81, 3) := by decide +kernel
theorem dX6_become_38 : decode cX6_become 38 = .ok (.istore 4, 2) := by decide +kernel
theorem dX6_become_40 : decode cX6_become 40 = .ok (.aload_n 3, 1) := by decide +kernel
theorem dX6_become_41 : decode cX6_become 41 = .ok (.iload_n 2, 1) := by decide +kernel
theorem dX6_become_42 : decode cX6_become 42 = .ok (.bipush 10, 2) := by decide +kernel
theorem dX6_become_44 : decode cX6_become 44 = .ok (.idiv, 1) := by decide +kernel
theorem dX6_become_45 : decode cX6_become 45 = .ok (.putfield 81, 3) := by decide +kernel
theorem dX6_become_48 : decode cX6_become 48 = .ok (.aload_n 3, 1) := by decide +kernel
theorem dX6_become_49 : decode cX6_become 49 = .ok (.iload_n 2, 1) := by decide +kernel
theorem dX6_become_50 : decode cX6_become 50 = .ok (.bipush 10, 2) := by decide +kernel
theorem dX6_become_52 : decode cX6_become 52 = .ok (.irem, 1) := by decide +kernel
theorem dX6_become_53 : decode cX6_become 53 = .ok (.putfield 86, 3) := by decide +kernel
theorem dX6_become_56 : decode cX6_become 56 = .ok (.iload 4, 2) := by decide +kernel
theorem dX6_become_58 : decode cX6_become 58 = .ok (.ireturn, 1) := by decide +kernel
theorem dX6_as_0 : decode cX6_as 0 = .ok (.aload_n 0, 1) := by decide +kernel
theorem dX6_as_1 : decode cX6_as 1 = .ok (.getfield 10, 3) := by decide +kernel
theorem dX6_as_4 : decode cX6_as 4 = .ok (.iload_n 1, 1) := by decide +kernel
theorem dX6_as_5 : decode cX6_as 5 = .ok (.invokevirtual 70, 3) := by decide +kernel
theorem dX6_as_8 : decode cX6_as 8 = .ok (.ifCond .eq 13, 3) := by decide +kernel
theorem dX6_as_11 : decode cX6_as 11 = .ok (.iload_n 2, 1) := by decide +kernel
theorem dX6_as_12 : decode cX6_as 12 = .ok (.iconst 0, 1) := by decide +kernel
theorem dX6_as_13 : decode cX6_as 13 = .ok (.bipush 6, 2) := by decide +kernel
theorem dX6_as_15 : decode cX6_as 15 = .ok (.invokestatic 73, 3) := by decide +kernel
theorem dX6_as_18 : decode cX6_as 18 = .ok (.ifCond .ne 9, 3) := by decide +kernel
theorem dX6_as_21 : decode cX6_as 21 = .ok (.aload_n 0, 1) := by decide +kernel
theorem dX6_as_22 : decode cX6_as 22 = .ok (.iconst 1, 1) := by decide +kernel
theorem dX6_as_23 : decode cX6_as 23 = .ok (.invokevirtual 59, 3) := by decide +kernel
theorem dX6_as_26 : decode cX6_as 26 = .ok (.ireturn, 1) := by decide +kernel
theorem dX6_as_27 : decode cX6_as 27 = .ok (.aload_n 0, 1) := by decide +kernel
theorem dX6_as_28 : decode cX6_as 28 = .ok (.getfield 10, 3) := by decide +kernel
theorem dX6_as_31 : decode cX6_as 31 = .ok (.getfield 77, 3) := by decide +kernel
theorem dX6_as_34 : decode cX6_as 34 = .ok (.iload_n 1, 1) := by decide +kernel
theorem dX6_as_35 : decode cX6_as 35 = .ok (.aaload, 1) := by decide +kernel
theorem dX6_as_36 : decode cX6_as 36 = .ok (.astore_n 3, 1) := by decide +kernel
theorem dX6_as_37 : decode cX6_as 37 = .ok (.aload_n 3, 1) := by decide +kernel
theorem dX6_as_38 : decode cX6_as 38 = .ok (.getfield 81, 3) := by decide +kernel
theorem dX6_as_41 : decode cX6_as 41 = .ok (.iload_n 2, 1) := by decide +kernel
theorem dX6_as_42 : decode cX6_as 42 = .ok (.invokestatic 115, 3) := by decide +kernel
theorem dX6_as_45 : decode cX6_as 45 = .ok (.ifCond .ne 9, 3) := by decide +kernel
theorem dX6_as_48 : decode cX6_as 48 = .ok (.aload_n 0, 1) := by decide +kernel
theorem dX6_as_49 : decode cX6_as 49 = .ok (.iconst 5, 1) := by decide +kernel
theorem dX6_as_50 : decode cX6_as 50 = .ok (.invokevirtual 59, 3) := by decide +kernel
theorem dX6_as_53 : decode cX6_as 53 = .ok (.ireturn, 1) := by decide +kernel
theorem dX6_as_54 : decode cX6_as 54 = .ok (.aload_n 3, 1) := by decide +kernel
theorem dX6_as_55 : decode cX6_as 55 = .ok (.getfield 86, 3) := by decide +kernel
theorem dX6_as_58 : decode cX6_as 58 = .ok (.ireturn, 1) := by decide +kernel
theorem dX6_soak_0 : decode cX6_soak 0 = .ok (.aload_n 0, 1) := by decide +kernel
theorem dX6_soak_1 : decode cX6_soak 1 = .ok (.getfield 10, 3) := by decide +kernel
theorem dX6_soak_4 : decode cX6_soak 4 = .ok (.iload_n 1, 1) := by decide +kernel
theorem dX6_soak_5 : decode cX6_soak 5 = .ok (.invokevirtual 70, 3) := by decide +kernel
theorem dX6_soak_8 : decode cX6_soak 8 = .ok (.ifCond .eq 13, 3) := by decide +kernel
theorem dX6_soak_11 : decode cX6_soak 11 = .ok (.iload_n 2, 1) := by decide +kernel
theorem dX6_soak_12 : decode cX6_soak 12 = .ok (.iconst 0, 1) := by decide +kernel
theorem dX6_soak_13 : decode cX6_soak 13 = .ok (.bipush 9, 2) := by decide +kernel
theorem dX6_soak_15 : decode cX6_soak 15 = .ok (.invokestatic 73, 3) := by decide +kernel
theorem dX6_soak_18 : decode cX6_soak 18 = .ok (.ifCond .ne 9, 3) := by decide +kernel
theorem dX6_soak_21 : decode cX6_soak 21 = .ok (.aload_n 0, 1) := by decide +kernel
theorem dX6_soak_22 : decode cX6_soak 22 = .ok (.iconst 1, 1) := by decide +kernel
theorem dX6_soak_23 : decode cX6_soak 23 = .ok (.invokevirtual 59, 3) := by decide +kernel
theorem dX6_soak_26 : decode cX6_soak 26 = .ok (.ireturn, 1) := by decide +kernel
theorem dX6_soak_27 : decode cX6_soak 27 = .ok (.aload_n 0, 1) := by decide +kernel
theorem dX6_soak_28 : decode cX6_soak 28 = .ok (.getfield 10, 3) := by decide +kernel
theorem dX6_soak_31 : decode cX6_soak 31 = .ok (.getfield 77, 3) := by decide +kernel
theorem dX6_soak_34 : decode cX6_soak 34 = .ok (.iload_n 1, 1) := by decide +kernel
theorem dX6_soak_35 : decode cX6_soak 35 = .ok (.aaload, 1) := by decide +kernel
theorem dX6_soak_36 : decode cX6_soak 36 = .ok (.astore_n 3, 1) := by decide +kernel
theorem dX6_soak_37 : decode cX6_soak 37 = .ok (.aload_n 3, 1) := by decide +kernel
theorem dX6_soak_38 : decode cX6_soak 38 = .ok (.getfield 98, 3) := by decide +kernel
theorem dX6_soak_41 : decode cX6_soak 41 = .ok (.istore 4, 2) := by decide +kernel
theorem dX6_soak_43 : decode cX6_soak 43 = .ok (.aload_n 3, 1) := by decide +kernel
theorem dX6_soak_44 : decode cX6_soak 44 = .ok (.iload_n 2, 1) := by decide +kernel
theorem dX6_soak_45 : decode cX6_soak 45 = .ok (.putfield 98, 3) := by decide +kernel
theorem dX6_soak_48 : decode cX6_soak 48 = .ok (.iload 4, 2) := by decide +kernel
theorem dX6_soak_50 : decode cX6_soak 50 = .ok (.ireturn, 1) := by decide +kernel
theorem dX6_bakes_0 : decode cX6_bakes 0 = .ok (.aload_n 0, 1) := by decide +kernel
theorem dX6_bakes_1 : decode cX6_bakes 1 = .ok (.getfield 10, 3) := by decide +kernel
theorem dX6_bakes_4 : decode cX6_bakes 4 = .ok (.iload_n 1, 1) := by decide +kernel
theorem dX6_bakes_5 : decode cX6_bakes 5 = .ok (.invokevirtual 70, 3) := by decide +kernel
theorem dX6_bakes_8 : decode cX6_bakes 8 = .ok (.ifCond .ne 9, 3) := by decide +kernel
theorem dX6_bakes_11 : decode cX6_bakes 11 = .ok (.aload_n 0, 1) := by decide +kernel
theorem dX6_bakes_12 : decode cX6_bakes 12 = .ok (.iconst 1, 1) := by decide +kernel
theorem dX6_bakes_13 : decode cX6_bakes 13 = .ok (.invokevirtual 59, 3) := by decide +kernel
theorem dX6_bakes_16 : decode cX6_bakes 16 = .ok (.ireturn, 1) := by decide +kernel
theorem dX6_bakes_17 : decode cX6_bakes 17 = .ok (.aload_n 0, 1) := by decide +kernel
theorem dX6_bakes_18 : decode cX6_bakes 18 = .ok (.getfield 10, 3) := by decide +kernel
theorem dX6_bakes_21 : decode cX6_bakes 21 = .ok (.getfield 77, 3) := by decide +kernel
theorem dX6_bakes_24 : decode cX6_bakes 24 = .ok (.iload_n 1, 1) := by decide +kernel
theorem dX6_bakes_25 : decode cX6_bakes 25 = .ok (.aaload, 1) := by decide +kernel
theorem dX6_bakes_26 : decode cX6_bakes 26 = .ok (.astore_n 2, 1) := by decide +kernel
theorem dX6_bakes_27 : decode cX6_bakes 27 = .ok (.aload_n 2, 1) := by decide +kernel
theorem dX6_bakes_28 : decode cX6_bakes 28 = .ok (.invokevirtual 111, 3) := by decide +kernel
theorem dX6_bakes_31 : decode cX6_bakes 31 = .ok (.istore_n 3, 1) := by decide +kernel
theorem dX6_bakes_32 : decode cX6_bakes 32 = .ok (.aload_n 0, 1) := by decide +kernel
theorem dX6_bakes_33 : decode cX6_bakes 33 = .ok (.getfield 10, 3) := by decide +kernel
theorem dX6_bakes_36 : decode cX6_bakes 36 = .ok (.getfield 118, 3) := by decide +kernel
theorem dX6_bakes_39 : decode cX6_bakes 39 = .ok (.iload_n 3, 1) := by decide +kernel
theorem dX6_bakes_40 : decode cX6_bakes 40 = .ok (.if_icmp .ge 9, 3) := by decide +kernel
theorem dX6_bakes_43 : decode cX6_bakes 43 = .ok (.aload_n 0, 1) := by decide +kernel
theorem dX6_bakes_44 : decode cX6_bakes 44 = .ok (.iconst 3, 1) := by decide +kernel
theorem dX6_bakes_45 : decode cX6_bakes 45 = .ok (.invokevirtual 59, 3) := by decide +kernel
theorem dX6_bakes_48 : decode cX6_bakes 48 = .ok (.ireturn, 1) := by decide +kernel
theorem dX6_bakes_49 : decode cX6_bakes 49 = .ok (.aload_n 0, 1) := by decide +kernel
theorem dX6_bakes_50 : decode cX6_bakes 50 = .ok (.getfield 10, 3) := by decide +kernel
theorem dX6_bakes_53 : decode cX6_bakes 53 = .ok (.dup, 1) := by decide +kernel
theorem dX6_bakes_54 : decode cX6_bakes 54 = .ok (.getfield 118, 3) := by decide +kernel
theorem dX6_bakes_57 : decode cX6_bakes 57 = .ok (.iload_n 3, 1) := by decide +kernel
theorem dX6_bakes_58 : decode cX6_bakes 58 = .ok (.isub, 1) := by decide +kernel
theorem dX6_bakes_59 : decode cX6_bakes 59 = .ok (.putfield 118, 3) := by decide +kernel
theorem dX6_bakes_62 : decode cX6_bakes 62 = .ok (.aload_n 2, 1) := by decide +kernel
theorem dX6_bakes_63 : decode cX6_bakes 63 = .ok (.invokevirtual 121, 3) := by decide +kernel
theorem dX6_bakes_66 : decode cX6_bakes 66 = .ok (.iload_n 3, 1) := by decide +kernel
theorem dX6_bakes_67 : decode cX6_bakes 67 = .ok (.ireturn, 1) := by decide +kernel
theorem dX6_eat_0 : decode cX6_eat 0 = .ok (.aload_n 0, 1) := by decide +kernel
theorem dX6_eat_1 : decode cX6_eat 1 = .ok (.getfield 10, 3) := by decide +kernel
theorem dX6_eat_4 : decode cX6_eat 4 = .ok (.iload_n 1, 1) := by decide +kernel
theorem dX6_eat_5 : decode cX6_eat 5 = .ok (.invokevirtual 70, 3) := by decide +kernel
theorem dX6_eat_8 : decode cX6_eat 8 = .ok (.ifCond .ne 9, 3) := by decide +kernel
theorem dX6_eat_11 : decode cX6_eat 11 = .ok (.aload_n 0, 1) := by decide +kernel
theorem dX6_eat_12 : decode cX6_eat 12 = .ok (.iconst 1, 1) := by decide +kernel
theorem dX6_eat_13 : decode cX6_eat 13 = .ok (.invokevirtual 59, 3) := by decide +kernel
theorem dX6_eat_16 : decode cX6_eat 16 = .ok (.ireturn, 1) := by decide +kernel
theorem dX6_eat_17 : decode cX6_eat 17 = .ok (.aload_n 0, 1) := by decide +kernel
theorem dX6_eat_18 : decode cX6_eat 18 = .ok (.getfield 10, 3) := by decide +kernel
theorem dX6_eat_21 : decode cX6_eat 21 = .ok (.getfield 77, 3) := by decide +kernel
theorem dX6_eat_24 : decode cX6_eat 24 = .ok (.iload_n 1, 1) := by decide +kernel
theorem dX6_eat_25 : decode cX6_eat 25 = .ok (.aaload, 1) := by decide +kernel
theorem dX6_eat_26 : decode cX6_eat 26 = .ok (.astore_n 2, 1) := by decide +kernel
theorem dX6_eat_27 : decode cX6_eat 27 = .ok (.aload_n 2, 1) := by decide +kernel
theorem dX6_eat_28 : decode cX6_eat 28 = .ok (.getfield 101, 3) := by decide +kernel
theorem dX6_eat_31 : decode cX6_eat 31 = .ok (.ifCond .eq 7, 3) := by decide +kernel
theorem dX6_eat_34 : decode cX6_eat 34 = .ok (.iconst 1, 1) := by decide +kernel
theorem dX6_eat_35 : decode cX6_eat 35 = .ok (.goto 4, 3) := by decide +kernel
theorem dX6_eat_38 : decode cX6_eat 38 = .ok (.iconst 0, 1) := by decide +kernel
theorem dX6_eat_39 : decode cX6_eat 39 = .ok (.istore_n 3, 1) := by decide +kernel
theorem dX6_eat_40 : decode cX6_eat 40 = .ok (.aload_n 2, 1) := by decide +kernel
theorem dX6_eat_41 : decode cX6_eat 41 = .ok (.iconst 1, 1) := by decide +kernel
theorem dX6_eat_42 : decode cX6_eat 42 = .ok (.putfield 101, 3) := by decide +kernel
theorem dX6_eat_45 : decode cX6_eat 45 = .ok (.iload_n 3, 1) := by decide +kernel
theorem dX6_eat_46 : decode cX6_eat 46 = .ok (.ireturn, 1) := by decide +kernel
theorem dX6_store_0 : decode cX6_store 0 = .ok (.iload_n 1, 1) := by decide +kernel
theorem dX6_store_1 : decode cX6_store 1 = .ok (.iconst 0, 1) := by decide +kernel
theorem dX6_store_2 : decode cX6_store 2 = .ok (.iconst 1, 1) := by decide +kernel
theorem dX6_store_3 : decode cX6_store 3 = .ok (.invokestatic 73, 3) := by decide +kernel
theorem dX6_store_6 : decode cX6_store 6 = .ok (.ifCond .eq 23, 3) := by decide +kernel
theorem dX6_store_9 : decode cX6_store 9 = .ok (.iload_n 2, 1) := by decide +kernel
theorem dX6_store_10 : decode cX6_store 10 = .ok (.iconst 0, 1) := by decide +kernel
theorem dX6_store_11 : decode cX6_store 11 = .ok (.iload_n 1, 1) := by decide +kernel
theorem dX6_store_12 : decode cX6_store 12 = .ok (.ifCond .ne 9, 3) := by decide +kernel
theorem dX6_store_15 : decode cX6_store 15 = .ok (.sipush 9999, 3) := by decide +kernel
theorem dX6_store_18 : decode cX6_store 18 = .ok (.goto 5, 3) := by decide +kernel
theorem dX6_store_21 : decode cX6_store 21 = .ok (.bipush 9, 2) := by decide +kernel
theorem dX6_store_23 : decode cX6_store 23 = .ok (.invokestatic 73, 3) := by decide +kernel
theorem dX6_store_26 : decode cX6_store 26 = .ok (.ifCond .ne 9, 3) := by decide +kernel
theorem dX6_store_29 : decode cX6_store 29 = .ok (.aload_n 0, 1) := by decide +kernel
theorem dX6_store_30 : decode cX6_store 30 = .ok (.iconst 1, 1) := by decide +kernel
theorem dX6_store_31 : decode cX6_store 31 = .ok (.invokevirtual 59, 3) := by decide +kernel
theorem dX6_store_34 : decode cX6_store 34 = .ok (.ireturn, 1) := by decide +kernel
theorem dX6_store_35 : decode cX6_store 35 = .ok (.iload_n 1, 1) := by decide +kernel
theorem dX6_store_36 : decode cX6_store 36 = .ok (.ifCond .ne 22, 3) := by decide +kernel
theorem dX6_store_39 : decode cX6_store 39 = .ok (.aload_n 0, 1) := by decide +kernel
theorem dX6_store_40 : decode cX6_store 40 = .ok (.getfield 10, 3) := by decide +kernel
theorem dX6_store_43 : decode cX6_store 43 = .ok (.getfield 118, 3) := by decide +kernel
theorem dX6_store_46 : decode cX6_store 46 = .ok (.istore_n 3, 1) := by decide +kernel
theorem dX6_store_47 : decode cX6_store 47 = .ok (.aload_n 0, 1) := by decide +kernel
theorem dX6_store_48 : decode cX6_store 48 = .ok (.getfield 10, 3) := by decide +kernel
theorem dX6_store_51 : decode cX6_store 51 = .ok (.iload_n 2, 1) := by decide +kernel
theorem dX6_store_52 : decode cX6_store 52 = .ok (.putfield 118, 3) := by decide +kernel
theorem dX6_store_55 : decode cX6_store 55 = .ok (.goto 19, 3) := by decide +kernel
theorem dX6_store_58 : decode cX6_store 58 = .ok (.aload_n 0, 1) := by decide +kernel
theorem dX6_store_59 : decode cX6_store 59 = .ok (.getfield 10, 3) := by decide +kernel
theorem dX6_store_62 : decode cX6_store 62 = .ok (.getfield 124, 3) := by decide +kernel
theorem dX6_store_65 : decode cX6_store 65 = .ok (.istore_n 3, 1) := by decide +kernel
theorem dX6_store_66 : decode cX6_store 66 = .ok (.aload_n 0, 1) := by decide +kernel
theorem dX6_store_67 : decode cX6_store 67 = .ok (.getfield 10, 3) := by decide +kernel
theorem dX6_store_70 : decode cX6_store 70 = .ok (.iload_n 2, 1) := by decide +kernel
theorem dX6_store_71 : decode cX6_store 71 = .ok (.putfield 124, 3) := by decide +kernel
theorem dX6_store_74 : decode cX6_store 74 = .ok (.iload_n 3, 1) := by decide +kernel
theorem dX6_store_75 : decode cX6_store 75 = .ok (.ireturn, 1) := by decide +kernel
theorem dX6_cross_0 : decode cX6_cross 0 = .ok (.aload_n 0, 1) := by decide +kernel
theorem dX6_cross_1 : decode cX6_cross 1 = .ok (.getfield 10, 3) := by decide +kernel
theorem dX6_cross_4 : decode cX6_cross 4 = .ok (.iload_n 1, 1) := by decide +kernel
theorem dX6_cross_5 : decode cX6_cross 5 = .ok (.invokevirtual 70, 3) := by decide +kernel
theorem dX6_cross_8 : decode cX6_cross 8 = .ok (.ifCond .eq 10, 3) := by decide +kernel
theorem dX6_cross_11 : decode cX6_cross 11 = .ok (.iload_n 2, 1) := by decide +kernel
theorem dX6_cross_12 : decode cX6_cross 12 = .ok (.invokestatic 127, 3) := by decide +kernel
theorem dX6_cross_15 : decode cX6_cross 15 = .ok (.ifCond .ne 9, 3) := by decide +kernel
theorem dX6_cross_18 : decode cX6_cross 18 = .ok (.aload_n 0, 1) := by decide +kernel
theorem dX6_cross_19 : decode cX6_cross 19 = .ok (.iconst 1, 1) := by decide +kernel
theorem dX6_cross_20 : decode cX6_cross 20 = .ok (.invokevirtual 59, 3) := by decide +kernel
theorem dX6_cross_23 : decode cX6_cross 23 = .ok (.ireturn, 1) := by decide +kernel
theorem dX6_cross_24 : decode cX6_cross 24 = .ok (.aload_n 0, 1) := by decide +kernel
theorem dX6_cross_25 : decode cX6_cross 25 = .ok (.getfield 10, 3) := by decide +kernel
theorem dX6_cross_28 : decode cX6_cross 28 = .ok (.getfield 77, 3) := by decide +kernel
theorem dX6_cross_31 : decode cX6_cross 31 = .ok (.iload_n 1, 1) := by decide +kernel
theorem dX6_cross_32 : decode cX6_cross 32 = .ok (.aaload, 1) := by decide +kernel
theorem dX6_cross_33 : decode cX6_cross 33 = .ok (.astore_n 3, 1) := by decide +kernel
theorem dX6_cross_34 : decode cX6_cross 34 = .ok (.aload_n 3, 1) := by decide +kernel
theorem dX6_cross_35 : decode cX6_cross 35 = .ok (.getfield 101, 3) := by decide +kernel
theorem dX6_cross_38 : decode cX6_cross 38 = .ok (.ifCond .eq 9, 3) := by decide +kernel
theorem dX6_cross_41 : decode cX6_cross 41 = .ok (.aload_n 0, 1) := by decide +kernel
theorem dX6_cross_42 : decode cX6_cross 42 = .ok (.iconst 3, 1) := by decide +kernel
theorem dX6_cross_43 : decode cX6_cross 43 = .ok (.invokevirtual 59, 3) := by decide +kernel
theorem dX6_cross_46 : decode cX6_cross 46 = .ok (.ireturn, 1) := by decide +kernel
theorem dX6_cross_47 : decode cX6_cross 47 = .ok (.aload_n 0, 1) := by decide +kernel
theorem dX6_cross_48 : decode cX6_cross 48 = .ok (.getfield 10, 3) := by decide +kernel
theorem dX6_cross_51 : decode cX6_cross 51 = .ok (.aload_n 3, 1) := by decide +kernel
theorem dX6_cross_52 : decode cX6_cross 52 = .ok (.iload_n 2, 1) := by decide +kernel
theorem dX6_cross_53 : decode cX6_cross 53 = .ok (.invokevirtual 130, 3) := by decide +kernel
theorem dX6_cross_56 : decode cX6_cross 56 = .ok (.ireturn, 1) := by decide +kernel
theorem dX6_feed_0 : decode cX6_feed 0 = .ok (.iload_n 3, 1) := by decide +kernel
theorem dX6_feed_1 : decode cX6_feed 1 = .ok (.iconst 1, 1) := by decide +kernel
theorem dX6_feed_2 : decode cX6_feed 2 = .ok (.bipush 8, 2) := by decide +kernel
theorem dX6_feed_4 : decode cX6_feed 4 = .ok (.invokestatic 73, 3) := by decide +kernel
theorem dX6_feed_7 : decode cX6_feed 7 = .ok (.ifCond .ne 9, 3) := by decide +kernel
theorem dX6_feed_10 : decode cX6_feed 10 = .ok (.aload_n 0, 1) := by decide +kernel
theorem dX6_feed_11 : decode cX6_feed 11 = .ok (.iconst 1, 1) := by decide +kernel
theorem dX6_feed_12 : decode cX6_feed 12 = .ok (.invokevirtual 59, 3) := by decide +kernel
theorem dX6_feed_15 : decode cX6_feed 15 = .ok (.ireturn, 1) := by decide +kernel
theorem dX6_feed_16 : decode cX6_feed 16 = .ok (.aload_n 0, 1) := by decide +kernel
theorem dX6_feed_17 : decode cX6_feed 17 = .ok (.getfield 10, 3) := by decide +kernel
theorem dX6_feed_20 : decode cX6_feed 20 = .ok (.getfield 134, 3) := by decide +kernel
theorem dX6_feed_23 : decode cX6_feed 23 = .ok (.bipush 60, 2) := by decide +kernel
theorem dX6_feed_25 : decode cX6_feed 25 = .ok (.iload_n 3, 1) := by decide +kernel
theorem dX6_feed_26 : decode cX6_feed 26 = .ok (.isub, 1) := by decide +kernel
theorem dX6_feed_27 : decode cX6_feed 27 = .ok (.if_icmp .le 9, 3) := by decide +kernel
theorem dX6_feed_30 : decode cX6_feed 30 = .ok (.aload_n 0, 1) := by decide +kernel
theorem dX6_feed_31 : decode cX6_feed 31 = .ok (.iconst 4, 1) := by decide +kernel
theorem dX6_feed_32 : decode cX6_feed 32 = .ok (.invokevirtual 59, 3) := by decide +kernel
theorem dX6_feed_35 : decode cX6_feed 35 = .ok (.ireturn, 1) := by decide +kernel
theorem dX6_feed_36 : decode cX6_feed 36 = .ok (.aload_n 0, 1) := by decide +kernel
theorem dX6_feed_37 : decode cX6_feed 37 = .ok (.getfield 10, 3) := by decide +kernel
theorem dX6_feed_40 : decode cX6_feed 40 = .ok (.lload_n 1, 1) := by decide +kernel
theorem dX6_feed_41 : decode cX6_feed 41 = .ok (.iload_n 3, 1) := by decide +kernel
theorem dX6_feed_42 : decode cX6_feed 42 = .ok (.invokevirtual 137, 3) := by decide +kernel
theorem dX6_feed_45 : decode cX6_feed 45 = .ok (.ireturn, 1) := by decide +kernel
theorem dX6_text_0 : decode cX6_text 0 = .ok (.iload_n 1, 1) := by decide +kernel
theorem dX6_text_1 : decode cX6_text 1 = .ok (.invokestatic 141, 3) := by decide +kernel
theorem dX6_text_4 : decode cX6_text 4 = .ok (.ifCond .ne 9, 3) := by decide +kernel
theorem dX6_text_7 : decode cX6_text 7 = .ok (.aload_n 0, 1) := by decide +kernel
theorem dX6_text_8 : decode cX6_text 8 = .ok (.iconst 1, 1) := by decide +kernel
theorem dX6_text_9 : decode cX6_text 9 = .ok (.invokevirtual 59, 3) := by decide +kernel
theorem dX6_text_12 : decode cX6_text 12 = .ok (.ireturn, 1) := by decide +kernel
theorem dX6_text_13 : decode cX6_text 13 = .ok (.aload_n 0, 1) := by decide +kernel
theorem dX6_text_14 : decode cX6_text 14 = .ok (.getfield 25, 3) := by decide +kernel
theorem dX6_text_17 : decode cX6_text 17 = .ok (.aload_n 0, 1) := by decide +kernel
theorem dX6_text_18 : decode cX6_text 18 = .ok (.getfield 10, 3) := by decide +kernel
theorem dX6_text_21 : decode cX6_text 21 = .ok (.getfield 144, 3) := by decide +kernel
theorem dX6_text_24 : decode cX6_text 24 = .ok (.aload_n 0, 1) := by decide +kernel
theorem dX6_text_25 : decode cX6_text 25 = .ok (.getfield 10, 3) := by decide +kernel
theorem dX6_text_28 : decode cX6_text 28 = .ok (.getfield 134, 3) := by decide +kernel
theorem dX6_text_31 : decode cX6_text 31 = .ok (.iload_n 1, 1) := by decide +kernel
theorem dX6_text_32 : decode cX6_text 32 = .ok (.invokevirtual 148, 3) := by decide +kernel
theorem dX6_text_35 : decode cX6_text 35 = .ok (.istore_n 2, 1) := by decide +kernel
theorem dX6_text_36 : decode cX6_text 36 = .ok (.aload_n 0, 1) := by decide +kernel
theorem dX6_text_37 : decode cX6_text 37 = .ok (.getfield 10, 3) := by decide +kernel
theorem dX6_text_40 : decode cX6_text 40 = .ok (.iconst 0, 1) := by decide +kernel
theorem dX6_text_41 : decode cX6_text 41 = .ok (.putfield 134, 3) := by decide +kernel
theorem dX6_text_44 : decode cX6_text 44 = .ok (.iload_n 2, 1) := by decide +kernel
theorem dX6_text_45 : decode cX6_text 45 = .ok (.ifCond .ne 14, 3) := by decide +kernel
theorem dX6_text_48 : decode cX6_text 48 = .ok (.bipush (-10), 2) := by decide +kernel
theorem dX6_text_50 : decode cX6_text 50 = .ok (.aload_n 0, 1) := by decide +kernel
theorem dX6_text_51 : decode cX6_text 51 = .ok (.getfield 25, 3) := by decide +kernel
theorem dX6_text_54 : decode cX6_text 54 = .ok (.getfield 152, 3) := by decide +kernel
theorem dX6_text_57 : decode cX6_text 57 = .ok (.isub, 1) := by decide +kernel
theorem dX6_text_58 : decode cX6_text 58 = .ok (.ireturn, 1) := by decide +kernel
theorem dX6_text_59 : decode cX6_text 59 = .ok (.aload_n 0, 1) := by decide +kernel
theorem dX6_text_60 : decode cX6_text 60 = .ok (.getfield 10, 3) := by decide +kernel
theorem dX6_text_63 : decode cX6_text 63 = .ok (.getfield 155, 3) := by decide +kernel
theorem dX6_text_66 : decode cX6_text 66 = .ok (.iload_n 1, 1) := by decide +kernel
theorem dX6_text_67 : decode cX6_text 67 = .ok (.aaload, 1) := by decide +kernel
theorem dX6_text_68 : decode cX6_text 68 = .ok (.aload_n 0, 1) := by decide +kernel
theorem dX6_text_69 : decode cX6_text 69 = .ok (.getfield 25, 3) := by decide +kernel
theorem dX6_text_72 : decode cX6_text 72 = .ok (.getfield 159, 3) := by decide +kernel
theorem dX6_text_75 : decode cX6_text 75 = .ok (.aload_n 0, 1) := by decide +kernel
theorem dX6_text_76 : decode cX6_text 76 = .ok (.getfield 25, 3) := by decide +kernel
theorem dX6_text_79 : decode cX6_text 79 = .ok (.getfield 162, 3) := by decide +kernel
theorem dX6_text_82 : decode cX6_text 82 = .ok (.invokevirtual 165, 3) := by decide +kernel
theorem dX6_text_85 : decode cX6_text 85 = .ok (.iconst 1, 1) := by decide +kernel
theorem dX6_text_86 : decode cX6_text 86 = .ok (.ireturn, 1) := by decide +kernel
theorem dX6_untell_0 : decode cX6_untell 0 = .ok (.iload_n 1, 1) := by decide +kernel
theorem dX6_untell_1 : decode cX6_untell 1 = .ok (.invokestatic 141, 3) := by decide +kernel
theorem dX6_untell_4 : decode cX6_untell 4 = .ok (.ifCond .ne 9, 3) := by decide +kernel
theorem dX6_untell_7 : decode cX6_untell 7 = .ok (.aload_n 0, 1) := by decide +kernel
theorem dX6_untell_8 : decode cX6_untell 8 = .ok (.iconst 1, 1) := by decide +kernel
theorem dX6_untell_9 : decode cX6_untell 9 = .ok (.invokevirtual 59, 3) := by decide +kernel
theorem dX6_untell_12 : decode cX6_untell 12 = .ok (.ireturn, 1) := by decide +kernel
theorem dX6_untell_13 : decode cX6_untell 13 = .ok (.aload_n 0, 1) := by decide +kernel
theorem dX6_untell_14 : decode cX6_untell 14 = .ok (.getfield 10, 3) := by decide +kernel
theorem dX6_untell_17 : decode cX6_untell 17 = .ok (.getfield 155, 3) := by decide +kernel
theorem dX6_untell_20 : decode cX6_untell 20 = .ok (.iload_n 1, 1) := by decide +kernel
theorem dX6_untell_21 : decode cX6_untell 21 = .ok (.aaload, 1) := by decide +kernel
theorem dX6_untell_22 : decode cX6_untell 22 = .ok (.getfield 171, 3) := by decide +kernel
theorem dX6_untell_25 : decode cX6_untell 25 = .ok (.ifCond .eq 7, 3) := by decide +kernel
theorem dX6_untell_28 : decode cX6_untell 28 = .ok (.iconst 1, 1) := by decide +kernel
theorem dX6_untell_29 : decode cX6_untell 29 = .ok (.goto 4, 3) := by decide +kernel
theorem dX6_untell_32 : decode cX6_untell 32 = .ok (.iconst 0, 1) := by decide +kernel
theorem dX6_untell_33 : decode cX6_untell 33 = .ok (.istore_n 2, 1) := by decide +kernel
theorem dX6_untell_34 : decode cX6_untell 34 = .ok (.aload_n 0, 1) := by decide +kernel
theorem dX6_untell_35 : decode cX6_untell 35 = .ok (.getfield 10, 3) := by decide +kernel
theorem dX6_untell_38 : decode cX6_untell 38 = .ok (.getfield 155, 3) := by decide +kernel
theorem dX6_untell_41 : decode cX6_untell 41 = .ok (.iload_n 1, 1) := by decide +kernel
theorem dX6_untell_42 : decode cX6_untell 42 = .ok (.aaload, 1) := by decide +kernel
theorem dX6_untell_43 : decode cX6_untell 43 = .ok (.iconst 0, 1) := by decide +kernel
theorem dX6_untell_44 : decode cX6_untell 44 = .ok (.putfield 171, 3) := by decide +kernel
theorem dX6_untell_47 : decode cX6_untell 47 = .ok (.iload_n 2, 1) := by decide +kernel
theorem dX6_untell_48 : decode cX6_untell 48 = .ok (.ireturn, 1) := by decide +kernel
theorem dX6_law_0 : decode cX6_law 0 = .ok (.iload_n 1, 1) := by decide +kernel
theorem dX6_law_1 : decode cX6_law 1 = .ok (.invokestatic 141, 3) := by decide +kernel
theorem dX6_law_4 : decode cX6_law 4 = .ok (.ifCond .ne 9, 3) := by decide +kernel
theorem dX6_law_7 : decode cX6_law 7 = .ok (.aload_n 0, 1) := by decide +kernel
theorem dX6_law_8 : decode cX6_law 8 = .ok (.iconst 1, 1) := by decide +kernel
theorem dX6_law_9 : decode cX6_law 9 = .ok (.invokevirtual 59, 3) := by decide +kernel
theorem dX6_law_12 : decode cX6_law 12 = .ok (.ireturn, 1) := by decide +kernel
theorem dX6_law_13 : decode cX6_law 13 = .ok (.aload_n 0, 1) := by decide +kernel
theorem dX6_law_14 : decode cX6_law 14 = .ok (.getfield 10, 3) := by decide +kernel
theorem dX6_law_17 : decode cX6_law 17 = .ok (.iload_n 1, 1) := by decide +kernel
theorem dX6_law_18 : decode cX6_law 18 = .ok (.iload_n 2, 1) := by decide +kernel
theorem dX6_law_19 : decode cX6_law 19 = .ok (.iload_n 3, 1) := by decide +kernel
theorem dX6_law_20 : decode cX6_law 20 = .ok (.iload 4, 2) := by decide +kernel
theorem dX6_law_22 : decode cX6_law 22 = .ok (.invokevirtual 174, 3) := by decide +kernel
theorem dX6_law_25 : decode cX6_law 25 = .ok (.ireturn, 1) := by decide +kernel
theorem dX6_days_0 : decode cX6_days 0 = .ok (.iload_n 1, 1) := by decide +kernel
theorem dX6_days_1 : decode cX6_days 1 = .ok (.iconst 1, 1) := by decide +kernel
theorem dX6_days_2 : decode cX6_days 2 = .ok (.bipush 60, 2) := by decide +kernel
theorem dX6_days_4 : decode cX6_days 4 = .ok (.invokestatic 73, 3) := by decide +kernel
theorem dX6_days_7 : decode cX6_days 7 = .ok (.ifCond .ne 9, 3) := by decide +kernel
theorem dX6_days_10 : decode cX6_days 10 = .ok (.aload_n 0, 1) := by decide +kernel
theorem dX6_days_11 : decode cX6_days 11 = .ok (.iconst 1, 1) := by decide +kernel
theorem dX6_days_12 : decode cX6_days 12 = .ok (.invokevirtual 59, 3) := by decide +kernel
theorem dX6_days_15 : decode cX6_days 15 = .ok (.ireturn, 1) := by decide +kernel
theorem dX6_days_16 : decode cX6_days 16 = .ok (.aload_n 0, 1) := by decide +kernel
theorem dX6_days_17 : decode cX6_days 17 = .ok (.getfield 10, 3) := by decide +kernel
theorem dX6_days_20 : decode cX6_days 20 = .ok (.getfield 105, 3) := by decide +kernel
theorem dX6_days_23 : decode cX6_days 23 = .ok (.sipush 9999, 3) := by decide +kernel
theorem dX6_days_26 : decode cX6_days 26 = .ok (.iload_n 1, 1) := by decide +kernel
theorem dX6_days_27 : decode cX6_days 27 = .ok (.isub, 1) := by decide +kernel
theorem dX6_days_28 : decode cX6_days 28 = .ok (.if_icmp .le 9, 3) := by decide +kernel
theorem dX6_days_31 : decode cX6_days 31 = .ok (.aload_n 0, 1) := by decide +kernel
theorem dX6_days_32 : decode cX6_days 32 = .ok (.iconst 3, 1) := by decide +kernel
theorem dX6_days_33 : decode cX6_days 33 = .ok (.invokevirtual 59, 3) := by decide +kernel
theorem dX6_days_36 : decode cX6_days 36 = .ok (.ireturn, 1) := by decide +kernel
theorem dX6_days_37 : decode cX6_days 37 = .ok (.iconst 0, 1) := by decide +kernel
theorem dX6_days_38 : decode cX6_days 38 = .ok (.istore_n 2, 1) := by decide +kernel
theorem dX6_days_39 : decode cX6_days 39 = .ok (.iload_n 2, 1) := by decide +kernel
theorem dX6_days_40 : decode cX6_days 40 = .ok (.iload_n 1, 1) := by decide +kernel
theorem dX6_days_41 : decode cX6_days 41 = .ok (.if_icmp .ge 16, 3) := by decide +kernel
theorem dX6_days_44 : decode cX6_days 44 = .ok (.aload_n 0, 1) := by decide +kernel
theorem dX6_days_45 : decode cX6_days 45 = .ok (.getfield 10, 3) := by decide +kernel
theorem dX6_days_48 : decode cX6_days 48 = .ok (.invokevirtual 178, 3) := by decide +kernel
theorem dX6_days_51 : decode cX6_days 51 = .ok (.iinc 2 1, 3) := by decide +kernel
theorem dX6_days_54 : decode cX6_days 54 = .ok (.goto (-15), 3) := by decide +kernel
theorem dX6_days_57 : decode cX6_days 57 = .ok (.aload_n 0, 1) := by decide +kernel
theorem dX6_days_58 : decode cX6_days 58 = .ok (.getfield 10, 3) := by decide +kernel
theorem dX6_days_61 : decode cX6_days 61 = .ok (.getfield 105, 3) := by decide +kernel
theorem dX6_days_64 : decode cX6_days 64 = .ok (.ireturn, 1) := by decide +kernel
theorem dX6_loose_0 : decode cX6_loose 0 = .ok (.iload_n 1, 1) := by decide +kernel
theorem dX6_loose_1 : decode cX6_loose 1 = .ok (.iconst 1, 1) := by decide +kernel
theorem dX6_loose_2 : decode cX6_loose 2 = .ok (.bipush 30, 2) := by decide +kernel
theorem dX6_loose_4 : decode cX6_loose 4 = .ok (.invokestatic 73, 3) := by decide +kernel
theorem dX6_loose_7 : decode cX6_loose 7 = .ok (.ifCond .ne 9, 3) := by decide +kernel
theorem dX6_loose_10 : decode cX6_loose 10 = .ok (.aload_n 0, 1) := by decide +kernel
theorem dX6_loose_11 : decode cX6_loose 11 = .ok (.iconst 1, 1) := by decide +kernel
theorem dX6_loose_12 : decode cX6_loose 12 = .ok (.invokevirtual 59, 3) := by decide +kernel
theorem dX6_loose_15 : decode cX6_loose 15 = .ok (.ireturn, 1) := by decide +kernel
theorem dX6_loose_16 : decode cX6_loose 16 = .ok (.aload_n 0, 1) := by decide +kernel
theorem dX6_loose_17 : decode cX6_loose 17 = .ok (.getfield 10, 3) := by decide +kernel
theorem dX6_loose_20 : decode cX6_loose 20 = .ok (.getfield 105, 3) := by decide +kernel
theorem dX6_loose_23 : decode cX6_loose 23 = .ok (.sipush 9999, 3) := by decide +kernel
theorem dX6_loose_26 : decode cX6_loose 26 = .ok (.iload_n 1, 1) := by decide +kernel
theorem dX6_loose_27 : decode cX6_loose 27 = .ok (.isub, 1) := by decide +kernel
theorem dX6_loose_28 : decode cX6_loose 28 = .ok (.if_icmp .le 9, 3) := by decide +kernel
theorem dX6_loose_31 : decode cX6_loose 31 = .ok (.aload_n 0, 1) := by decide +kernel
theorem dX6_loose_32 : decode cX6_loose 32 = .ok (.iconst 3, 1) := by decide +kernel
theorem dX6_loose_33 : decode cX6_loose 33 = .ok (.invokevirtual 59, 3) := by decide +kernel
theorem dX6_loose_36 : decode cX6_loose 36 = .ok (.ireturn, 1) := by decide +kernel
theorem dX6_loose_37 : decode cX6_loose 37 = .ok (.iconst 0, 1) := by decide +kernel
theorem dX6_loose_38 : decode cX6_loose 38 = .ok (.istore_n 2, 1) := by decide +kernel
theorem dX6_loose_39 : decode cX6_loose 39 = .ok (.iconst 0, 1) := by decide +kernel
theorem dX6_loose_40 : decode cX6_loose 40 = .ok (.istore_n 3, 1) := by decide +kernel
theorem dX6_loose_41 : decode cX6_loose 41 = .ok (.iload_n 3, 1) := by decide +kernel
theorem dX6_loose_42 : decode cX6_loose 42 = .ok (.iload_n 1, 1) := by decide +kernel
theorem dX6_loose_43 : decode cX6_loose 43 = .ok (.if_icmp .ge 19, 3) := by decide +kernel
theorem dX6_loose_46 : decode cX6_loose 46 = .ok (.iload_n 2, 1) := by decide +kernel
theorem dX6_loose_47 : decode cX6_loose 47 = .ok (.aload_n 0, 1) := by decide +kernel
theorem dX6_loose_48 : decode cX6_loose 48 = .ok (.getfield 10, 3) := by decide +kernel
theorem dX6_loose_51 : decode cX6_loose 51 = .ok (.invokevirtual 181, 3) := by decide +kernel
theorem dX6_loose_54 : decode cX6_loose 54 = .ok (.iadd, 1) := by decide +kernel
theorem dX6_loose_55 : decode cX6_loose 55 = .ok (.istore_n 2, 1) := by decide +kernel
theorem dX6_loose_56 : decode cX6_loose 56 = .ok (.iinc 3 1, 3) := by decide +kernel
theorem dX6_loose_59 : decode cX6_loose 59 = .ok (.goto (-18), 3) := by decide +kernel
theorem dX6_loose_62 : decode cX6_loose 62 = .ok (.iload_n 2, 1) := by decide +kernel
theorem dX6_loose_63 : decode cX6_loose 63 = .ok (.ireturn, 1) := by decide +kernel
theorem dX6_seed_0 : decode cX6_seed 0 = .ok (.aload_n 0, 1) := by decide +kernel
theorem dX6_seed_1 : decode cX6_seed 1 = .ok (.getfield 10, 3) := by decide +kernel
theorem dX6_seed_4 : decode cX6_seed 4 = .ok (.getfield 184, 3) := by decide +kernel
theorem dX6_seed_7 : decode cX6_seed 7 = .ok (.istore_n 2, 1) := by decide +kernel
theorem dX6_seed_8 : decode cX6_seed 8 = .ok (.aload_n 0, 1) := by decide +kernel
theorem dX6_seed_9 : decode cX6_seed 9 = .ok (.getfield 10, 3) := by decide +kernel
theorem dX6_seed_12 : decode cX6_seed 12 = .ok (.iload_n 1, 1) := by decide +kernel
theorem dX6_seed_13 : decode cX6_seed 13 = .ok (.putfield 184, 3) := by decide +kernel
theorem dX6_seed_16 : decode cX6_seed 16 = .ok (.iload_n 2, 1) := by decide +kernel
theorem dX6_seed_17 : decode cX6_seed 17 = .ok (.ireturn, 1) := by decide +kernel
theorem dX6_joined_0 : decode cX6_joined 0 = .ok (.iload_n 1, 1) := by decide +kernel
theorem dX6_joined_1 : decode cX6_joined 1 = .ok (.invokestatic 187, 3) := by decide +kernel
theorem dX6_joined_4 : decode cX6_joined 4 = .ok (.ifCond .eq 10, 3) := by decide +kernel
theorem dX6_joined_7 : decode cX6_joined 7 = .ok (.iload_n 2, 1) := by decide +kernel
theorem dX6_joined_8 : decode cX6_joined 8 = .ok (.invokestatic 127, 3) := by decide +kernel
theorem dX6_joined_11 : decode cX6_joined 11 = .ok (.ifCond .ne 9, 3) := by decide +kernel
theorem dX6_joined_14 : decode cX6_joined 14 = .ok (.aload_n 0, 1) := by decide +kernel
theorem dX6_joined_15 : decode cX6_joined 15 = .ok (.iconst 1, 1) := by decide +kernel
theorem dX6_joined_16 : decode cX6_joined 16 = .ok (.invokevirtual 59, 3) := by decide +kernel
theorem dX6_joined_19 : decode cX6_joined 19 = .ok (.ireturn, 1) := by decide +kernel
theorem dX6_joined_20 : decode cX6_joined 20 = .ok (.aload_n 0, 1) := by decide +kernel
theorem dX6_joined_21 : decode cX6_joined 21 = .ok (.getfield 10, 3) := by decide +kernel
theorem dX6_joined_24 : decode cX6_joined 24 = .ok (.iload_n 1, 1) := by decide +kernel
theorem dX6_joined_25 : decode cX6_joined 25 = .ok (.aload_n 0, 1) := by decide +kernel
theorem dX6_joined_26 : decode cX6_joined 26 = .ok (.getfield 10, 3) := by decide +kernel
theorem dX6_joined_29 : decode cX6_joined 29 = .ok (.iload_n 2, 1) := by decide +kernel
theorem dX6_joined_30 : decode cX6_joined 30 = .ok (.invokevirtual 190, 3) := by decide +kernel
theorem dX6_joined_33 : decode cX6_joined 33 = .ok (.invokevirtual 193, 3) := by decide +kernel
theorem dX6_joined_36 : decode cX6_joined 36 = .ok (.ireturn, 1) := by decide +kernel
theorem dX6_load_0 : decode cX6_load 0 = .ok (.iload_n 1, 1) := by decide +kernel
theorem dX6_load_1 : decode cX6_load 1 = .ok (.iload_n 2, 1) := by decide +kernel
theorem dX6_load_2 : decode cX6_load 2 = .ok (.invokestatic 55, 3) := by decide +kernel
theorem dX6_load_5 : decode cX6_load 5 = .ok (.ifCond .ne 9, 3) := by decide +kernel
theorem dX6_load_8 : decode cX6_load 8 = .ok (.aload_n 0, 1) := by decide +kernel
theorem dX6_load_9 : decode cX6_load 9 = .ok (.iconst 1, 1) := by decide +kernel
theorem dX6_load_10 : decode cX6_load 10 = .ok (.invokevirtual 59, 3) := by decide +kernel
theorem dX6_load_13 : decode cX6_load 13 = .ok (.ireturn, 1) := by decide +kernel
theorem dX6_load_14 : decode cX6_load 14 = .ok (.bipush 99, 2) := by decide +kernel
theorem dX6_load_16 : decode cX6_load 16 = .ok (.istore_n 3, 1) := by decide +kernel
theorem dX6_load_17 : decode cX6_load 17 = .ok (.iload_n 3, 1) := by decide +kernel
theorem dX6_load_18 : decode cX6_load 18 = .ok (.ifCond .lt 31, 3) := by decide +kernel
theorem dX6_load_21 : decode cX6_load 21 = .ok (.aload_n 0, 1) := by decide +kernel
theorem dX6_load_22 : decode cX6_load 22 = .ok (.getfield 10, 3) := by decide +kernel
theorem dX6_load_25 : decode cX6_load 25 = .ok (.iload_n 1, 1) := by decide +kernel
theorem dX6_load_26 : decode cX6_load 26 = .ok (.iload_n 2, 1) := by decide +kernel
theorem dX6_load_27 : decode cX6_load 27 = .ok (.aload_n 0, 1) := by decide +kernel
theorem dX6_load_28 : decode cX6_load 28 = .ok (.getfield 10, 3) := by decide +kernel
theorem dX6_load_31 : decode cX6_load 31 = .ok (.iload_n 3, 1) := by decide +kernel
theorem dX6_load_32 : decode cX6_load 32 = .ok (.invokevirtual 190, 3) := by decide +kernel
theorem dX6_load_35 : decode cX6_load 35 = .ok (.invokevirtual 197, 3) := by decide +kernel
theorem dX6_load_38 : decode cX6_load 38 = .ok (.ifCond .eq 5, 3) := by decide +kernel
theorem dX6_load_41 : decode cX6_load 41 = .ok (.iload_n 3, 1) := by decide +kernel
theorem dX6_load_42 : decode cX6_load 42 = .ok (.ireturn, 1) := by decide +kernel
theorem dX6_load_43 : decode cX6_load 43 = .ok (.iinc 3 (-1), 3) := by decide +kernel
theorem dX6_load_46 : decode cX6_load 46 = .ok (.goto (-29), 3) := by decide +kernel
theorem dX6_load_49 : decode cX6_load 49 = .ok (.aload_n 0, 1) := by decide +kernel
theorem dX6_load_50 : decode cX6_load 50 = .ok (.iconst 2, 1) := by decide +kernel
theorem dX6_load_51 : decode cX6_load 51 = .ok (.invokevirtual 59, 3) := by decide +kernel
theorem dX6_load_54 : decode cX6_load 54 = .ok (.ireturn, 1) := by decide +kernel
theorem dX6_baking_0 : decode cX6_baking 0 = .ok (.iload_n 1, 1) := by decide +kernel
theorem dX6_baking_1 : decode cX6_baking 1 = .ok (.iload_n 2, 1) := by decide +kernel
theorem dX6_baking_2 : decode cX6_baking 2 = .ok (.invokestatic 55, 3) := by decide +kernel
theorem dX6_baking_5 : decode cX6_baking 5 = .ok (.ifCond .eq 20, 3) := by decide +kernel
theorem dX6_baking_8 : decode cX6_baking 8 = .ok (.iload_n 3, 1) := by decide +kernel
theorem dX6_baking_9 : decode cX6_baking 9 = .ok (.invokestatic 127, 3) := by decide +kernel
theorem dX6_baking_12 : decode cX6_baking 12 = .ok (.ifCond .eq 13, 3) := by decide +kernel
theorem dX6_baking_15 : decode cX6_baking 15 = .ok (.iload 4, 2) := by decide +kernel
theorem dX6_baking_17 : decode cX6_baking 17 = .ok (.iconst 0, 1) := by decide +kernel
theorem dX6_baking_18 : decode cX6_baking 18 = .ok (.iconst 1, 1) := by decide +kernel
theorem dX6_baking_19 : decode cX6_baking 19 = .ok (.invokestatic 73, 3) := by decide +kernel
theorem dX6_baking_22 : decode cX6_baking 22 = .ok (.ifCond .ne 9, 3) := by decide +kernel
theorem dX6_baking_25 : decode cX6_baking 25 = .ok (.aload_n 0, 1) := by decide +kernel
theorem dX6_baking_26 : decode cX6_baking 26 = .ok (.iconst 1, 1) := by decide +kernel
theorem dX6_baking_27 : decode cX6_baking 27 = .ok (.invokevirtual 59, 3) := by decide +kernel
theorem dX6_baking_30 : decode cX6_baking 30 = .ok (.ireturn, 1) := by decide +kernel
theorem dX6_baking_31 : decode cX6_baking 31 = .ok (.aload_n 0, 1) := by decide +kernel
theorem dX6_baking_32 : decode cX6_baking 32 = .ok (.getfield 10, 3) := by decide +kernel
theorem dX6_baking_35 : decode cX6_baking 35 = .ok (.iload_n 3, 1) := by decide +kernel
theorem dX6_baking_36 : decode cX6_baking 36 = .ok (.invokevirtual 190, 3) := by decide +kernel
theorem dX6_baking_39 : decode cX6_baking 39 = .ok (.istore 5, 2) := by decide +kernel
theorem dX6_baking_41 : decode cX6_baking 41 = .ok (.aload_n 0, 1) := by decide +kernel
theorem dX6_baking_42 : decode cX6_baking 42 = .ok (.getfield 19, 3) := by decide +kernel
theorem dX6_baking_45 : decode cX6_baking 45 = .ok (.aload_n 0, 1) := by decide +kernel
theorem dX6_baking_46 : decode cX6_baking 46 = .ok (.getfield 10, 3) := by decide +kernel
theorem dX6_baking_49 : decode cX6_baking 49 = .ok (.invokevirtual 200, 3) := by decide +kernel
theorem dX6_baking_52 : decode cX6_baking 52 = .ok (.aload_n 0, 1) := by decide +kernel
theorem dX6_baking_53 : decode cX6_baking 53 = .ok (.getfield 19, 3) := by decide +kernel
theorem dX6_baking_56 : decode cX6_baking 56 = .ok (.invokevirtual 204, 3) := by decide +kernel
theorem dX6_baking_59 : decode cX6_baking 59 = .ok (.aload_n 0, 1) := by decide +kernel
theorem dX6_baking_60 : decode cX6_baking 60 = .ok (.getfield 19, 3) := by decide +kernel
theorem dX6_baking_63 : decode cX6_baking 63 = .ok (.iload_n 3, 1) := by decide +kernel
theorem dX6_baking_64 : decode cX6_baking 64 = .ok (.invokevirtual 190, 3) := by decide +kernel
theorem dX6_baking_67 : decode cX6_baking 67 = .ok (.istore 6, 2) := by decide +kernel
theorem dX6_baking_69 : decode cX6_baking 69 = .ok (.iconst (-1), 1) := by decide +kernel
theorem dX6_baking_70 : decode cX6_baking 70 = .ok (.istore 7, 2) := by decide +kernel
theorem dX6_baking_72 : decode cX6_baking 72 = .ok (.iconst 0, 1) := by decide +kernel
theorem dX6_baking_73 : decode cX6_baking 73 = .ok (.istore 8, 2) := by decide +kernel
theorem dX6_baking_75 : decode cX6_baking 75 = .ok (.iconst 0, 1) := by decide +kernel
theorem dX6_baking_76 : decode cX6_baking 76 = .ok (.istore 9, 2) := by decide +kernel
theorem dX6_baking_78 : decode cX6_baking 78 = .ok (.iload 9, 2) := by decide +kernel
theorem dX6_baking_80 : decode cX6_baking 80 = .ok (.iconst 1, 1) := by decide +kernel
theorem dX6_baking_81 : decode cX6_baking 81 = .ok (.aload_n 0, 1) := by decide +kernel
theorem dX6_baking_82 : decode cX6_baking 82 = .ok (.getfield 10, 3) := by decide +kernel
theorem dX6_baking_85 : decode cX6_baking 85 = .ok (.getfield 63, 3) := by decide +kernel
theorem dX6_baking_88 : decode cX6_baking 88 = .ok (.ishl, 1) := by decide +kernel
theorem dX6_baking_89 : decode cX6_baking 89 = .ok (.if_icmp .ge 65, 3) := by decide +kernel
theorem dX6_baking_92 : decode cX6_baking 92 = .ok (.aload_n 0, 1) := by decide +kernel
theorem dX6_baking_93 : decode cX6_baking 93 = .ok (.getfield 10, 3) := by decide +kernel
theorem dX6_baking_96 : decode cX6_baking 96 = .ok (.iload 9, 2) := by decide +kernel
theorem dX6_baking_98 : decode cX6_baking 98 = .ok (.invokevirtual 207, 3) := by decide +kernel
theorem dX6_baking_101 : decode cX6_baking 101 = .ok (.istore 10, 2) := by decide +kernel
theorem dX6_baking_103 : decode cX6_baking 103 = .ok (.iload 7, 2) := by decide +kernel
theorem dX6_baking_105 : decode cX6_baking 105 = .ok (.ifCond .lt 10, 3) := by decide +kernel
theorem dX6_baking_108 : decode cX6_baking 108 = .ok (.iload 10, 2) := by decide +kernel
theorem dX6_baking_110 : decode cX6_baking 110 = .ok (.iload 8, 2) := by decide +kernel
theorem dX6_baking_112 : decode cX6_baking 112 = .ok (.if_icmp .ge 36, 3) := by decide +kernel
theorem dX6_baking_115 : decode cX6_baking 115 = .ok (.aload_n 0, 1) := by decide +kernel
theorem dX6_baking_116 : decode cX6_baking 116 = .ok (.getfield 10, 3) := by decide +kernel
theorem dX6_baking_119 : decode cX6_baking 119 = .ok (.iload_n 1, 1) := by decide +kernel
theorem dX6_baking_120 : decode cX6_baking 120 = .ok (.iload_n 2, 1) := by decide +kernel
theorem dX6_baking_121 : decode cX6_baking 121 = .ok (.iload 5, 2) := by decide +kernel
theorem dX6_baking_123 : decode cX6_baking 123 = .ok (.iload 9, 2) := by decide +kernel
theorem dX6_baking_125 : decode cX6_baking 125 = .ok (.iconst (-1), 1) := by decide +kernel
theorem dX6_baking_126 : decode cX6_baking 126 = .ok (.ixor, 1) := by decide +kernel
theorem dX6_baking_127 : decode cX6_baking 127 = .ok (.iand, 1) := by decide +kernel
theorem dX6_baking_128 : decode cX6_baking 128 = .ok (.iload 6, 2) := by decide +kernel
theorem dX6_baking_130 : decode cX6_baking 130 = .ok (.iload 9, 2) := by decide +kernel
theorem dX6_baking_132 : decode cX6_baking 132 = .ok (.iand, 1) := by decide +kernel
theorem dX6_baking_133 : decode cX6_baking 133 = .ok (.ior, 1) := by decide +kernel
theorem dX6_baking_134 : decode cX6_baking 134 = .ok (.invokevirtual 197, 3) := by decide +kernel
theorem dX6_baking_137 : decode cX6_baking 137 = .ok (.ifCond .eq 11, 3) := by decide +kernel
theorem dX6_baking_140 : decode cX6_baking 140 = .ok (.iload 9, 2) := by decide +kernel
theorem dX6_baking_142 : decode cX6_baking 142 = .ok (.istore 7, 2) := by decide +kernel
theorem dX6_baking_144 : decode cX6_baking 144 = .ok (.iload 10, 2) := by decide +kernel
theorem dX6_baking_146 : decode cX6_baking 146 = .ok (.istore 8, 2) := by decide +kernel
theorem dX6_baking_148 : decode cX6_baking 148 = .ok (.iinc 9 1, 3) := by decide +kernel
theorem dX6_baking_151 : decode cX6_baking 151 = .ok (.goto (-73), 3) := by decide +kernel
theorem dX6_baking_154 : decode cX6_baking 154 = .ok (.iload 7, 2) := by decide +kernel
theorem dX6_baking_156 : decode cX6_baking 156 = .ok (.ifCond .ge 9, 3) := by decide +kernel
theorem dX6_baking_159 : decode cX6_baking 159 = .ok (.aload_n 0, 1) := by decide +kernel
theorem dX6_baking_160 : decode cX6_baking 160 = .ok (.iconst 2, 1) := by decide +kernel
theorem dX6_baking_161 : decode cX6_baking 161 = .ok (.invokevirtual 59, 3) := by decide +kernel
theorem dX6_baking_164 : decode cX6_baking 164 = .ok (.ireturn, 1) := by decide +kernel
theorem dX6_baking_165 : decode cX6_baking 165 = .ok (.iload 4, 2) := by decide +kernel
theorem dX6_baking_167 : decode cX6_baking 167 = .ok (.ifCond .ne 8, 3) := by decide +kernel
theorem dX6_baking_170 : decode cX6_baking 170 = .ok (.iload 8, 2) := by decide +kernel
theorem dX6_baking_172 : decode cX6_baking 172 = .ok (.goto 5, 3) := by decide +kernel
theorem dX6_baking_175 : decode cX6_baking 175 = .ok (.iload 7, 2) := by decide +kernel
theorem dX6_baking_177 : decode cX6_baking 177 = .ok (.ireturn, 1) := by decide +kernel
theorem dX6_eating_0 : decode cX6_eating 0 = .ok (.iload_n 1, 1) := by decide +kernel
theorem dX6_eating_1 : decode cX6_eating 1 = .ok (.iload_n 2, 1) := by decide +kernel
theorem dX6_eating_2 : decode cX6_eating 2 = .ok (.invokestatic 55, 3) := by decide +kernel
theorem dX6_eating_5 : decode cX6_eating 5 = .ok (.ifCond .eq 20, 3) := by decide +kernel
theorem dX6_eating_8 : decode cX6_eating 8 = .ok (.iload_n 3, 1) := by decide +kernel
theorem dX6_eating_9 : decode cX6_eating 9 = .ok (.invokestatic 127, 3) := by decide +kernel
theorem dX6_eating_12 : decode cX6_eating 12 = .ok (.ifCond .eq 13, 3) := by decide +kernel
theorem dX6_eating_15 : decode cX6_eating 15 = .ok (.iload 4, 2) := by decide +kernel
theorem dX6_eating_17 : decode cX6_eating 17 = .ok (.iconst 0, 1) := by decide +kernel
theorem dX6_eating_18 : decode cX6_eating 18 = .ok (.iconst 1, 1) := by decide +kernel
theorem dX6_eating_19 : decode cX6_eating 19 = .ok (.invokestatic 73, 3) := by decide +kernel
theorem dX6_eating_22 : decode cX6_eating 22 = .ok (.ifCond .ne 9, 3) := by decide +kernel
theorem dX6_eating_25 : decode cX6_eating 25 = .ok (.aload_n 0, 1) := by decide +kernel
theorem dX6_eating_26 : decode cX6_eating 26 = .ok (.iconst 1, 1) := by decide +kernel
theorem dX6_eating_27 : decode cX6_eating 27 = .ok (.invokevirtual 59, 3) := by decide +kernel
theorem dX6_eating_30 : decode cX6_eating 30 = .ok (.ireturn, 1) := by decide +kernel
theorem dX6_eating_31 : decode cX6_eating 31 = .ok (.aload_n 0, 1) := by decide +kernel
theorem dX6_eating_32 : decode cX6_eating 32 = .ok (.getfield 10, 3) := by decide +kernel
theorem dX6_eating_35 : decode cX6_eating 35 = .ok (.iload_n 3, 1) := by decide +kernel
theorem dX6_eating_36 : decode cX6_eating 36 = .ok (.invokevirtual 190, 3) := by decide +kernel
theorem dX6_eating_39 : decode cX6_eating 39 = .ok (.istore 5, 2) := by decide +kernel
theorem dX6_eating_41 : decode cX6_eating 41 = .ok (.iconst 0, 1) := by decide +kernel
theorem dX6_eating_42 : decode cX6_eating 42 = .ok (.istore 6, 2) := by decide +kernel
theorem dX6_eating_44 : decode cX6_eating 44 = .ok (.bipush 10, 2) := by decide +kernel
theorem dX6_eating_46 : decode cX6_eating 46 = .ok (.istore 7, 2) := by decide +kernel
theorem dX6_eating_48 : decode cX6_eating 48 = .ok (.iconst 0, 1) := by decide +kernel
theorem dX6_eating_49 : decode cX6_eating 49 = .ok (.istore 8, 2) := by decide +kernel
theorem dX6_eating_51 : decode cX6_eating 51 = .ok (.iload 8, 2) := by decide +kernel
theorem dX6_eating_53 : decode cX6_eating 53 = .ok (.iconst 1, 1) := by decide +kernel
theorem dX6_eating_54 : decode cX6_eating 54 = .ok (.aload_n 0, 1) := by decide +kernel
theorem dX6_eating_55 : decode cX6_eating 55 = .ok (.getfield 10, 3) := by decide +kernel
theorem dX6_eating_58 : decode cX6_eating 58 = .ok (.getfield 63, 3) := by decide +kernel
theorem dX6_eating_61 : decode cX6_eating 61 = .ok (.ishl, 1) := by decide +kernel
theorem dX6_eating_62 : decode cX6_eating 62 = .ok (.if_icmp .ge 50, 3) := by decide +kernel
theorem dX6_eating_65 : decode cX6_eating 65 = .ok (.iload 8, 2) := by decide +kernel
theorem dX6_eating_67 : decode cX6_eating 67 = .ok (.invokestatic 210, 3) := by decide +kernel
theorem dX6_eating_70 : decode cX6_eating 70 = .ok (.istore 9, 2) := by decide +kernel
theorem dX6_eating_72 : decode cX6_eating 72 = .ok (.iload 9, 2) := by decide +kernel
theorem dX6_eating_74 : decode cX6_eating 74 = .ok (.iload 7, 2) := by decide +kernel
theorem dX6_eating_76 : decode cX6_eating 76 = .ok (.if_icmp .ge 30, 3) := by decide +kernel
theorem dX6_eating_79 : decode cX6_eating 79 = .ok (.aload_n 0, 1) := by decide +kernel
theorem dX6_eating_80 : decode cX6_eating 80 = .ok (.getfield 10, 3) := by decide +kernel
theorem dX6_eating_83 : decode cX6_eating 83 = .ok (.iload_n 1, 1) := by decide +kernel
theorem dX6_eating_84 : decode cX6_eating 84 = .ok (.iload_n 2, 1) := by decide +kernel
theorem dX6_eating_85 : decode cX6_eating 85 = .ok (.iload 5, 2) := by decide +kernel
theorem dX6_eating_87 : decode cX6_eating 87 = .ok (.iload 8, 2) := by decide +kernel
theorem dX6_eating_89 : decode cX6_eating 89 = .ok (.iconst (-1), 1) := by decide +kernel
theorem dX6_eating_90 : decode cX6_eating 90 = .ok (.ixor, 1) := by decide +kernel
theorem dX6_eating_91 : decode cX6_eating 91 = .ok (.iand, 1) := by decide +kernel
theorem dX6_eating_92 : decode cX6_eating 92 = .ok (.invokevirtual 197, 3) := by decide +kernel
theorem dX6_eating_95 : decode cX6_eating 95 = .ok (.ifCond .ne 11, 3) := by decide +kernel
theorem dX6_eating_98 : decode cX6_eating 98 = .ok (.iload 8, 2) := by decide +kernel
theorem dX6_eating_100 : decode cX6_eating 100 = .ok (.istore 6, 2) := by decide +kernel
theorem dX6_eating_102 : decode cX6_eating 102 = .ok (.iload 9, 2) := by decide +kernel
theorem dX6_eating_104 : decode cX6_eating 104 = .ok (.istore 7, 2) := by decide +kernel
theorem dX6_eating_106 : decode cX6_eating 106 = .ok (.iinc 8 1, 3) := by decide +kernel
theorem dX6_eating_109 : decode cX6_eating 109 = .ok (.goto (-58), 3) := by decide +kernel
theorem dX6_eating_112 : decode cX6_eating 112 = .ok (.iload 4, 2) := by decide +kernel
theorem dX6_eating_114 : decode cX6_eating 114 = .ok (.ifCond .ne 8, 3) := by decide +kernel
theorem dX6_eating_117 : decode cX6_eating 117 = .ok (.iload 7, 2) := by decide +kernel
theorem dX6_eating_119 : decode cX6_eating 119 = .ok (.goto 5, 3) := by decide +kernel
theorem dX6_eating_122 : decode cX6_eating 122 = .ok (.iload 6, 2) := by decide +kernel
theorem dX6_eating_124 : decode cX6_eating 124 = .ok (.ireturn, 1) := by decide +kernel
theorem dX6_lasts_0 : decode cX6_lasts 0 = .ok (.iload_n 1, 1) := by decide +kernel
theorem dX6_lasts_1 : decode cX6_lasts 1 = .ok (.iload_n 2, 1) := by decide +kernel
theorem dX6_lasts_2 : decode cX6_lasts 2 = .ok (.invokestatic 55, 3) := by decide +kernel
theorem dX6_lasts_5 : decode cX6_lasts 5 = .ok (.ifCond .eq 10, 3) := by decide +kernel
theorem dX6_lasts_8 : decode cX6_lasts 8 = .ok (.iload_n 3, 1) := by decide +kernel
theorem dX6_lasts_9 : decode cX6_lasts 9 = .ok (.invokestatic 127, 3) := by decide +kernel
theorem dX6_lasts_12 : decode cX6_lasts 12 = .ok (.ifCond .ne 9, 3) := by decide +kernel
theorem dX6_lasts_15 : decode cX6_lasts 15 = .ok (.aload_n 0, 1) := by decide +kernel
theorem dX6_lasts_16 : decode cX6_lasts 16 = .ok (.iconst 1, 1) := by decide +kernel
theorem dX6_lasts_17 : decode cX6_lasts 17 = .ok (.invokevirtual 59, 3) := by decide +kernel
theorem dX6_lasts_20 : decode cX6_lasts 20 = .ok (.ireturn, 1) := by decide +kernel
theorem dX6_lasts_21 : decode cX6_lasts 21 = .ok (.aload_n 0, 1) := by decide +kernel
theorem dX6_lasts_22 : decode cX6_lasts 22 = .ok (.getfield 19, 3) := by decide +kernel
theorem dX6_lasts_25 : decode cX6_lasts 25 = .ok (.aload_n 0, 1) := by decide +kernel
theorem dX6_lasts_26 : decode cX6_lasts 26 = .ok (.getfield 10, 3) := by decide +kernel
theorem dX6_lasts_29 : decode cX6_lasts 29 = .ok (.invokevirtual 200, 3) := by decide +kernel
theorem dX6_lasts_32 : decode cX6_lasts 32 = .ok (.iconst 0, 1) := by decide +kernel
theorem dX6_lasts_33 : decode cX6_lasts 33 = .ok (.istore 4, 2) := by decide +kernel
theorem dX6_lasts_35 : decode cX6_lasts 35 = .ok (.iload 4, 2) := by decide +kernel
theorem dX6_lasts_37 : decode cX6_lasts 37 = .ok (.bipush 60, 2) := by decide +kernel
theorem dX6_lasts_39 : decode cX6_lasts 39 = .ok (.if_icmp .gt 39, 3) := by decide +kernel
theorem dX6_lasts_42 : decode cX6_lasts 42 = .ok (.aload_n 0, 1) := by decide +kernel
theorem dX6_lasts_43 : decode cX6_lasts 43 = .ok (.getfield 19, 3) := by decide +kernel
theorem dX6_lasts_46 : decode cX6_lasts 46 = .ok (.iload_n 1, 1) := by decide +kernel
theorem dX6_lasts_47 : decode cX6_lasts 47 = .ok (.iload_n 2, 1) := by decide +kernel
theorem dX6_lasts_48 : decode cX6_lasts 48 = .ok (.aload_n 0, 1) := by decide +kernel
theorem dX6_lasts_49 : decode cX6_lasts 49 = .ok (.getfield 19, 3) := by decide +kernel
theorem dX6_lasts_52 : decode cX6_lasts 52 = .ok (.iload_n 3, 1) := by decide +kernel
theorem dX6_lasts_53 : decode cX6_lasts 53 = .ok (.invokevirtual 190, 3) := by decide +kernel
theorem dX6_lasts_56 : decode cX6_lasts 56 = .ok (.invokevirtual 197, 3) := by decide +kernel
theorem dX6_lasts_59 : decode cX6_lasts 59 = .ok (.ifCond .ne 6, 3) := by decide +kernel
theorem dX6_lasts_62 : decode cX6_lasts 62 = .ok (.iload 4, 2) := by decide +kernel
theorem dX6_lasts_64 : decode cX6_lasts 64 = .ok (.ireturn, 1) := by decide +kernel
theorem dX6_lasts_65 : decode cX6_lasts 65 = .ok (.aload_n 0, 1) := by decide +kernel
theorem dX6_lasts_66 : decode cX6_lasts 66 = .ok (.getfield 19, 3) := by decide +kernel
theorem dX6_lasts_69 : decode cX6_lasts 69 = .ok (.invokevirtual 178, 3) := by decide +kernel
theorem dX6_lasts_72 : decode cX6_lasts 72 = .ok (.iinc 4 1, 3) := by decide +kernel
theorem dX6_lasts_75 : decode cX6_lasts 75 = .ok (.goto (-40), 3) := by decide +kernel
theorem dX6_lasts_78 : decode cX6_lasts 78 = .ok (.aload_n 0, 1) := by decide +kernel
theorem dX6_lasts_79 : decode cX6_lasts 79 = .ok (.iconst 2, 1) := by decide +kernel
theorem dX6_lasts_80 : decode cX6_lasts 80 = .ok (.invokevirtual 59, 3) := by decide +kernel
theorem dX6_lasts_83 : decode cX6_lasts 83 = .ok (.ireturn, 1) := by decide +kernel
theorem dX6_then_0 : decode cX6_then 0 = .ok (.aload_n 0, 1) := by decide +kernel
theorem dX6_then_1 : decode cX6_then 1 = .ok (.getfield 10, 3) := by decide +kernel
theorem dX6_then_4 : decode cX6_then 4 = .ok (.iload_n 1, 1) := by decide +kernel
theorem dX6_then_5 : decode cX6_then 5 = .ok (.invokevirtual 70, 3) := by decide +kernel
theorem dX6_then_8 : decode cX6_then 8 = .ok (.ifCond .eq 13, 3) := by decide +kernel
theorem dX6_then_11 : decode cX6_then 11 = .ok (.iload_n 2, 1) := by decide +kernel
theorem dX6_then_12 : decode cX6_then 12 = .ok (.iconst 0, 1) := by decide +kernel
theorem dX6_then_13 : decode cX6_then 13 = .ok (.bipush 60, 2) := by decide +kernel
theorem dX6_then_15 : decode cX6_then 15 = .ok (.invokestatic 73, 3) := by decide +kernel
theorem dX6_then_18 : decode cX6_then 18 = .ok (.ifCond .ne 9, 3) := by decide +kernel
theorem dX6_then_21 : decode cX6_then 21 = .ok (.aload_n 0, 1) := by decide +kernel
theorem dX6_then_22 : decode cX6_then 22 = .ok (.iconst 1, 1) := by decide +kernel
theorem dX6_then_23 : decode cX6_then 23 = .ok (.invokevirtual 59, 3) := by decide +kernel
theorem dX6_then_26 : decode cX6_then 26 = .ok (.ireturn, 1) := by decide +kernel
theorem dX6_then_27 : decode cX6_then 27 = .ok (.aload_n 0, 1) := by decide +kernel
theorem dX6_then_28 : decode cX6_then 28 = .ok (.getfield 19, 3) := by decide +kernel
theorem dX6_then_31 : decode cX6_then 31 = .ok (.aload_n 0, 1) := by decide +kernel
theorem dX6_then_32 : decode cX6_then 32 = .ok (.getfield 10, 3) := by decide +kernel
theorem dX6_then_35 : decode cX6_then 35 = .ok (.invokevirtual 200, 3) := by decide +kernel
theorem dX6_then_38 : decode cX6_then 38 = .ok (.iconst 0, 1) := by decide +kernel
theorem dX6_then_39 : decode cX6_then 39 = .ok (.istore_n 3, 1) := by decide +kernel
theorem dX6_then_40 : decode cX6_then 40 = .ok (.iload_n 3, 1) := by decide +kernel
theorem dX6_then_41 : decode cX6_then 41 = .ok (.iload_n 2, 1) := by decide +kernel
theorem dX6_then_42 : decode cX6_then 42 = .ok (.if_icmp .ge 16, 3) := by decide +kernel
theorem dX6_then_45 : decode cX6_then 45 = .ok (.aload_n 0, 1) := by decide +kernel
theorem dX6_then_46 : decode cX6_then 46 = .ok (.getfield 19, 3) := by decide +kernel
theorem dX6_then_49 : decode cX6_then 49 = .ok (.invokevirtual 178, 3) := by decide +kernel
theorem dX6_then_52 : decode cX6_then 52 = .ok (.iinc 3 1, 3) := by decide +kernel
theorem dX6_then_55 : decode cX6_then 55 = .ok (.goto (-15), 3) := by decide +kernel
theorem dX6_then_58 : decode cX6_then 58 = .ok (.aload_n 0, 1) := by decide +kernel
theorem dX6_then_59 : decode cX6_then 59 = .ok (.getfield 19, 3) := by decide +kernel
theorem dX6_then_62 : decode cX6_then 62 = .ok (.getfield 77, 3) := by decide +kernel
theorem dX6_then_65 : decode cX6_then 65 = .ok (.iload_n 1, 1) := by decide +kernel
theorem dX6_then_66 : decode cX6_then 66 = .ok (.aaload, 1) := by decide +kernel
theorem dX6_then_67 : decode cX6_then 67 = .ok (.aload_n 0, 1) := by decide +kernel
theorem dX6_then_68 : decode cX6_then 68 = .ok (.getfield 19, 3) := by decide +kernel
theorem dX6_then_71 : decode cX6_then 71 = .ok (.getfield 105, 3) := by decide +kernel
theorem dX6_then_74 : decode cX6_then 74 = .ok (.invokevirtual 108, 3) := by decide +kernel
theorem dX6_then_77 : decode cX6_then 77 = .ok (.ireturn, 1) := by decide +kernel
theorem dX6_odds_0 : decode cX6_odds 0 = .ok (.iload_n 1, 1) := by decide +kernel
theorem dX6_odds_1 : decode cX6_odds 1 = .ok (.iload_n 2, 1) := by decide +kernel
theorem dX6_odds_2 : decode cX6_odds 2 = .ok (.invokestatic 55, 3) := by decide +kernel
theorem dX6_odds_5 : decode cX6_odds 5 = .ok (.ifCond .eq 20, 3) := by decide +kernel
theorem dX6_odds_8 : decode cX6_odds 8 = .ok (.iload_n 3, 1) := by decide +kernel
theorem dX6_odds_9 : decode cX6_odds 9 = .ok (.invokestatic 127, 3) := by decide +kernel
theorem dX6_odds_12 : decode cX6_odds 12 = .ok (.ifCond .eq 13, 3) := by decide +kernel
theorem dX6_odds_15 : decode cX6_odds 15 = .ok (.iload 4, 2) := by decide +kernel
theorem dX6_odds_17 : decode cX6_odds 17 = .ok (.iconst 0, 1) := by decide +kernel
theorem dX6_odds_18 : decode cX6_odds 18 = .ok (.iconst 1, 1) := by decide +kernel
theorem dX6_odds_19 : decode cX6_odds 19 = .ok (.invokestatic 73, 3) := by decide +kernel
theorem dX6_odds_22 : decode cX6_odds 22 = .ok (.ifCond .ne 9, 3) := by decide +kernel
theorem dX6_odds_25 : decode cX6_odds 25 = .ok (.aload_n 0, 1) := by decide +kernel
theorem dX6_odds_26 : decode cX6_odds 26 = .ok (.iconst 1, 1) := by decide +kernel
theorem dX6_odds_27 : decode cX6_odds 27 = .ok (.invokevirtual 59, 3) := by decide +kernel
theorem dX6_odds_30 : decode cX6_odds 30 = .ok (.ireturn, 1) := by decide +kernel
theorem dX6_odds_31 : decode cX6_odds 31 = .ok (.iconst 0, 1) := by decide +kernel
theorem dX6_odds_32 : decode cX6_odds 32 = .ok (.istore 5, 2) := by decide +kernel
theorem dX6_odds_34 : decode cX6_odds 34 = .ok (.iconst 0, 1) := by decide +kernel
theorem dX6_odds_35 : decode cX6_odds 35 = .ok (.istore 6, 2) := by decide +kernel
theorem dX6_odds_37 : decode cX6_odds 37 = .ok (.iload 6, 2) := by decide +kernel
theorem dX6_odds_39 : decode cX6_odds 39 = .ok (.bipush 9, 2) := by decide +kernel
theorem dX6_odds_41 : decode cX6_odds 41 = .ok (.if_icmp .gt 59, 3) := by decide +kernel
theorem dX6_odds_44 : decode cX6_odds 44 = .ok (.aload_n 0, 1) := by decide +kernel
theorem dX6_odds_45 : decode cX6_odds 45 = .ok (.getfield 19, 3) := by decide +kernel
theorem dX6_odds_48 : decode cX6_odds 48 = .ok (.aload_n 0, 1) := by decide +kernel
theorem dX6_odds_49 : decode cX6_odds 49 = .ok (.getfield 10, 3) := by decide +kernel
theorem dX6_odds_52 : decode cX6_odds 52 = .ok (.invokevirtual 200, 3) := by decide +kernel
theorem dX6_odds_55 : decode cX6_odds 55 = .ok (.aload_n 0, 1) := by decide +kernel
theorem dX6_odds_56 : decode cX6_odds 56 = .ok (.getfield 19, 3) := by decide +kernel
theorem dX6_odds_59 : decode cX6_odds 59 = .ok (.iload 6, 2) := by decide +kernel
theorem dX6_odds_61 : decode cX6_odds 61 = .ok (.putfield 124, 3) := by decide +kernel
theorem dX6_odds_64 : decode cX6_odds 64 = .ok (.aload_n 0, 1) := by decide +kernel
theorem dX6_odds_65 : decode cX6_odds 65 = .ok (.getfield 19, 3) := by decide +kernel
theorem dX6_odds_68 : decode cX6_odds 68 = .ok (.invokevirtual 178, 3) := by decide +kernel
theorem dX6_odds_71 : decode cX6_odds 71 = .ok (.aload_n 0, 1) := by decide +kernel
theorem dX6_odds_72 : decode cX6_odds 72 = .ok (.getfield 19, 3) := by decide +kernel
theorem dX6_odds_75 : decode cX6_odds 75 = .ok (.iload_n 1, 1) := by decide +kernel
theorem dX6_odds_76 : decode cX6_odds 76 = .ok (.iload_n 2, 1) := by decide +kernel
theorem dX6_odds_77 : decode cX6_odds 77 = .ok (.aload_n 0, 1) := by decide +kernel
theorem dX6_odds_78 : decode cX6_odds 78 = .ok (.getfield 19, 3) := by decide +kernel
theorem dX6_odds_81 : decode cX6_odds 81 = .ok (.iload_n 3, 1) := by decide +kernel
theorem dX6_odds_82 : decode cX6_odds 82 = .ok (.invokevirtual 190, 3) := by decide +kernel
theorem dX6_odds_85 : decode cX6_odds 85 = .ok (.invokevirtual 197, 3) := by decide +kernel
theorem dX6_odds_88 : decode cX6_odds 88 = .ok (.ifCond .eq 6, 3) := by decide +kernel
theorem dX6_odds_91 : decode cX6_odds 91 = .ok (.iinc 5 1, 3) := by decide +kernel
theorem dX6_odds_94 : decode cX6_odds 94 = .ok (.iinc 6 1, 3) := by decide +kernel
theorem dX6_odds_97 : decode cX6_odds 97 = .ok (.goto (-60), 3) := by decide +kernel
theorem dX6_odds_100 : decode cX6_odds 100 = .ok (.bipush 10, 2) := by decide +kernel
theorem dX6_odds_102 : decode cX6_odds 102 = .ok (.istore 6, 2) := by decide +kernel
theorem dX6_odds_104 : decode cX6_odds 104 = .ok (.iconst 1, 1) := by decide +kernel
theorem dX6_odds_105 : decode cX6_odds 105 = .ok (.iload 5, 2) := by decide +kernel
theorem dX6_odds_107 : decode cX6_odds 107 = .ok (.iload 6, 2) := by decide +kernel
theorem dX6_odds_109 : decode cX6_odds 109 = .ok (.invokestatic 215, 3) := by decide +kernel
theorem dX6_odds_112 : decode cX6_odds 112 = .ok (.invokestatic 218, 3) := by decide +kernel
theorem dX6_odds_115 : decode cX6_odds 115 = .ok (.istore 7, 2) := by decide +kernel
theorem dX6_odds_117 : decode cX6_odds 117 = .ok (.iload 4, 2) := by decide +kernel
theorem dX6_odds_119 : decode cX6_odds 119 = .ok (.ifCond .ne 11, 3) := by decide +kernel
theorem dX6_odds_122 : decode cX6_odds 122 = .ok (.iload 5, 2) := by decide +kernel
theorem dX6_odds_124 : decode cX6_odds 124 = .ok (.iload 7, 2) := by decide +kernel
theorem dX6_odds_126 : decode cX6_odds 126 = .ok (.idiv, 1) := by decide +kernel
theorem dX6_odds_127 : decode cX6_odds 127 = .ok (.goto 8, 3) := by decide +kernel
theorem dX6_odds_130 : decode cX6_odds 130 = .ok (.iload 6, 2) := by decide +kernel
theorem dX6_odds_132 : decode cX6_odds 132 = .ok (.iload 7, 2) := by decide +kernel
theorem dX6_odds_134 : decode cX6_odds 134 = .ok (.idiv, 1) := by decide +kernel
theorem dX6_odds_135 : decode cX6_odds 135 = .ok (.ireturn, 1) := by decide +kernel
theorem dX6_fits_0 : decode cX6_fits 0 = .ok (.iload_n 1, 1) := by decide +kernel
theorem dX6_fits_1 : decode cX6_fits 1 = .ok (.invokestatic 223, 3) := by decide +kernel
theorem dX6_fits_4 : decode cX6_fits 4 = .ok (.ifCond .ne 9, 3) := by decide +kernel
theorem dX6_fits_7 : decode cX6_fits 7 = .ok (.aload_n 0, 1) := by decide +kernel
theorem dX6_fits_8 : decode cX6_fits 8 = .ok (.iconst 1, 1) := by decide +kernel
theorem dX6_fits_9 : decode cX6_fits 9 = .ok (.invokevirtual 59, 3) := by decide +kernel
theorem dX6_fits_12 : decode cX6_fits 12 = .ok (.ireturn, 1) := by decide +kernel
theorem dX6_fits_13 : decode cX6_fits 13 = .ok (.aload_n 0, 1) := by decide +kernel
theorem dX6_fits_14 : decode cX6_fits 14 = .ok (.getfield 38, 3) := by decide +kernel
theorem dX6_fits_17 : decode cX6_fits 17 = .ok (.iload_n 1, 1) := by decide +kernel
theorem dX6_fits_18 : decode cX6_fits 18 = .ok (.aaload, 1) := by decide +kernel
theorem dX6_fits_19 : decode cX6_fits 19 = .ok (.astore_n 2, 1) := by decide +kernel
theorem dX6_fits_20 : decode cX6_fits 20 = .ok (.aload_n 2, 1) := by decide +kernel
theorem dX6_fits_21 : decode cX6_fits 21 = .ok (.invokevirtual 226, 3) := by decide +kernel
theorem dX6_fits_24 : decode cX6_fits 24 = .ok (.ifCond .eq 9, 3) := by decide +kernel
theorem dX6_fits_27 : decode cX6_fits 27 = .ok (.aload_n 0, 1) := by decide +kernel
theorem dX6_fits_28 : decode cX6_fits 28 = .ok (.iconst 2, 1) := by decide +kernel
theorem dX6_fits_29 : decode cX6_fits 29 = .ok (.invokevirtual 59, 3) := by decide +kernel
theorem dX6_fits_32 : decode cX6_fits 32 = .ok (.ireturn, 1) := by decide +kernel
theorem dX6_fits_33 : decode cX6_fits 33 = .ok (.aload_n 0, 1) := by decide +kernel
theorem dX6_fits_34 : decode cX6_fits 34 = .ok (.getfield 19, 3) := by decide +kernel
theorem dX6_fits_37 : decode cX6_fits 37 = .ok (.aload_n 0, 1) := by decide +kernel
theorem dX6_fits_38 : decode cX6_fits 38 = .ok (.getfield 10, 3) := by decide +kernel
theorem dX6_fits_41 : decode cX6_fits 41 = .ok (.invokevirtual 200, 3) := by decide +kernel
theorem dX6_fits_44 : decode cX6_fits 44 = .ok (.iconst 0, 1) := by decide +kernel
theorem dX6_fits_45 : decode cX6_fits 45 = .ok (.istore_n 3, 1) := by decide +kernel
theorem dX6_fits_46 : decode cX6_fits 46 = .ok (.iload_n 3, 1) := by decide +kernel
theorem dX6_fits_47 : decode cX6_fits 47 = .ok (.bipush 60, 2) := by decide +kernel
theorem dX6_fits_49 : decode cX6_fits 49 = .ok (.if_icmp .gt 33, 3) := by decide +kernel
theorem dX6_fits_52 : decode cX6_fits 52 = .ok (.aload_n 0, 1) := by decide +kernel
theorem dX6_fits_53 : decode cX6_fits 53 = .ok (.getfield 19, 3) := by decide +kernel
theorem dX6_fits_56 : decode cX6_fits 56 = .ok (.aload_n 2, 1) := by decide +kernel
theorem dX6_fits_57 : decode cX6_fits 57 = .ok (.invokevirtual 230, 3) := by decide +kernel
theorem dX6_fits_60 : decode cX6_fits 60 = .ok (.aload_n 2, 1) := by decide +kernel
theorem dX6_fits_61 : decode cX6_fits 61 = .ok (.getfield 234, 3) := by decide +kernel
theorem dX6_fits_64 : decode cX6_fits 64 = .ok (.if_icmp .ne 5, 3) := by decide +kernel
theorem dX6_fits_67 : decode cX6_fits 67 = .ok (.iload_n 3, 1) := by decide +kernel
theorem dX6_fits_68 : decode cX6_fits 68 = .ok (.ireturn, 1) := by decide +kernel
theorem dX6_fits_69 : decode cX6_fits 69 = .ok (.aload_n 0, 1) := by decide +kernel
theorem dX6_fits_70 : decode cX6_fits 70 = .ok (.getfield 19, 3) := by decide +kernel
theorem dX6_fits_73 : decode cX6_fits 73 = .ok (.invokevirtual 178, 3) := by decide +kernel
theorem dX6_fits_76 : decode cX6_fits 76 = .ok (.iinc 3 1, 3) := by decide +kernel
theorem dX6_fits_79 : decode cX6_fits 79 = .ok (.goto (-33), 3) := by decide +kernel
theorem dX6_fits_82 : decode cX6_fits 82 = .ok (.aload_n 0, 1) := by decide +kernel
theorem dX6_fits_83 : decode cX6_fits 83 = .ok (.iconst 2, 1) := by decide +kernel
theorem dX6_fits_84 : decode cX6_fits 84 = .ok (.invokevirtual 59, 3) := by decide +kernel
theorem dX6_fits_87 : decode cX6_fits 87 = .ok (.ireturn, 1) := by decide +kernel
theorem dX6_voice_0 : decode cX6_voice 0 = .ok (.aload_n 0, 1) := by decide +kernel
theorem dX6_voice_1 : decode cX6_voice 1 = .ok (.getfield 10, 3) := by decide +kernel
theorem dX6_voice_4 : decode cX6_voice 4 = .ok (.iload_n 1, 1) := by decide +kernel
theorem dX6_voice_5 : decode cX6_voice 5 = .ok (.invokevirtual 70, 3) := by decide +kernel
theorem dX6_voice_8 : decode cX6_voice 8 = .ok (.ifCond .eq 12, 3) := by decide +kernel
theorem dX6_voice_11 : decode cX6_voice 11 = .ok (.iload_n 2, 1) := by decide +kernel
theorem dX6_voice_12 : decode cX6_voice 12 = .ok (.iconst 0, 1) := by decide +kernel
theorem dX6_voice_13 : decode cX6_voice 13 = .ok (.iconst 3, 1) := by decide +kernel
theorem dX6_voice_14 : decode cX6_voice 14 = .ok (.invokestatic 73, 3) := by decide +kernel
theorem dX6_voice_17 : decode cX6_voice 17 = .ok (.ifCond .ne 9, 3) := by decide +kernel
theorem dX6_voice_20 : decode cX6_voice 20 = .ok (.aload_n 0, 1) := by decide +kernel
theorem dX6_voice_21 : decode cX6_voice 21 = .ok (.iconst 1, 1) := by decide +kernel
theorem dX6_voice_22 : decode cX6_voice 22 = .ok (.invokevirtual 59, 3) := by decide +kernel
theorem dX6_voice_25 : decode cX6_voice 25 = .ok (.ireturn, 1) := by decide +kernel
theorem dX6_voice_26 : decode cX6_voice 26 = .ok (.aload_n 0, 1) := by decide +kernel
theorem dX6_voice_27 : decode cX6_voice 27 = .ok (.getfield 32, 3) := by decide +kernel
theorem dX6_voice_30 : decode cX6_voice 30 = .ok (.aload_n 0, 1) := by decide +kernel
theorem dX6_voice_31 : decode cX6_voice 31 = .ok (.getfield 10, 3) := by decide +kernel
theorem dX6_voice_34 : decode cX6_voice 34 = .ok (.getfield 77, 3) := by decide +kernel
theorem dX6_voice_37 : decode cX6_voice 37 = .ok (.iload_n 1, 1) := by decide +kernel
theorem dX6_voice_38 : decode cX6_voice 38 = .ok (.aaload, 1) := by decide +kernel
theorem dX6_voice_39 : decode cX6_voice 39 = .ok (.iload_n 1, 1) := by decide +kernel
theorem dX6_voice_40 : decode cX6_voice 40 = .ok (.iload_n 2, 1) := by decide +kernel
theorem dX6_voice_41 : decode cX6_voice 41 = .ok (.iload_n 3, 1) := by decide +kernel
theorem dX6_voice_42 : decode cX6_voice 42 = .ok (.invokevirtual 237, 3) := by decide +kernel
theorem dX6_voice_45 : decode cX6_voice 45 = .ok (.istore 4, 2) := by decide +kernel
theorem dX6_voice_47 : decode cX6_voice 47 = .ok (.aload_n 0, 1) := by decide +kernel
theorem dX6_voice_48 : decode cX6_voice 48 = .ok (.getfield 32, 3) := by decide +kernel
theorem dX6_voice_51 : decode cX6_voice 51 = .ok (.getfield 241, 3) := by decide +kernel
theorem dX6_voice_54 : decode cX6_voice 54 = .ok (.ifCond .eq 12, 3) := by decide +kernel
theorem dX6_voice_57 : decode cX6_voice 57 = .ok (.aload_n 0, 1) := by decide +kernel
theorem dX6_voice_58 : decode cX6_voice 58 = .ok (.bipush 6, 2) := by decide +kernel
theorem dX6_voice_60 : decode cX6_voice 60 = .ok (.invokevirtual 59, 3) := by decide +kernel
theorem dX6_voice_63 : decode cX6_voice 63 = .ok (.goto 5, 3) := by decide +kernel
theorem dX6_voice_66 : decode cX6_voice 66 = .ok (.iload 4, 2) := by decide +kernel
theorem dX6_voice_68 : decode cX6_voice 68 = .ok (.ireturn, 1) := by decide +kernel
theorem dX6_body_0 : decode cX6_body 0 = .ok (.iload_n 1, 1) := by decide +kernel
theorem dX6_body_1 : decode cX6_body 1 = .ok (.iconst 0, 1) := by decide +kernel
theorem dX6_body_2 : decode cX6_body 2 = .ok (.aload_n 0, 1) := by decide +kernel
theorem dX6_body_3 : decode cX6_body 3 = .ok (.getfield 32, 3) := by decide +kernel
theorem dX6_body_6 : decode cX6_body 6 = .ok (.getfield 244, 3) := by decide +kernel
theorem dX6_body_9 : decode cX6_body 9 = .ok (.iconst 1, 1) := by decide +kernel
theorem dX6_body_10 : decode cX6_body 10 = .ok (.isub, 1) := by decide +kernel
theorem dX6_body_11 : decode cX6_body 11 = .ok (.invokestatic 73, 3) := by decide +kernel
theorem dX6_body_14 : decode cX6_body 14 = .ok (.ifCond .ne 9, 3) := by decide +kernel
theorem dX6_body_17 : decode cX6_body 17 = .ok (.aload_n 0, 1) := by decide +kernel
theorem dX6_body_18 : decode cX6_body 18 = .ok (.iconst 2, 1) := by decide +kernel
theorem dX6_body_19 : decode cX6_body 19 = .ok (.invokevirtual 59, 3) := by decide +kernel
theorem dX6_body_22 : decode cX6_body 22 = .ok (.ireturn, 1) := by decide +kernel
theorem dX6_body_23 : decode cX6_body 23 = .ok (.aload_n 0, 1) := by decide +kernel
theorem dX6_body_24 : decode cX6_body 24 = .ok (.getfield 32, 3) := by decide +kernel
theorem dX6_body_27 : decode cX6_body 27 = .ok (.getfield 247, 3) := by decide +kernel
theorem dX6_body_30 : decode cX6_body 30 = .ok (.iload_n 1, 1) := by decide +kernel
theorem dX6_body_31 : decode cX6_body 31 = .ok (.iaload, 1) := by decide +kernel
theorem dX6_body_32 : decode cX6_body 32 = .ok (.ireturn, 1) := by decide +kernel
theorem dX6_sheet_0 : decode cX6_sheet 0 = .ok (.iload_n 1, 1) := by decide +kernel
theorem dX6_sheet_1 : decode cX6_sheet 1 = .ok (.invokestatic 223, 3) := by decide +kernel
theorem dX6_sheet_4 : decode cX6_sheet 4 = .ok (.ifCond .eq 25, 3) := by decide +kernel
theorem dX6_sheet_7 : decode cX6_sheet 7 = .ok (.iload_n 2, 1) := by decide +kernel
theorem dX6_sheet_8 : decode cX6_sheet 8 = .ok (.ifCond .eq 27, 3) := by decide +kernel
theorem dX6_sheet_11 : decode cX6_sheet 11 = .ok (.iload_n 2, 1) := by decide +kernel
theorem dX6_sheet_12 : decode cX6_sheet 12 = .ok (.bipush 8, 2) := by decide +kernel
theorem dX6_sheet_14 : decode cX6_sheet 14 = .ok (.if_icmp .eq 21, 3) := by decide +kernel
theorem dX6_sheet_17 : decode cX6_sheet 17 = .ok (.iload_n 2, 1) := by decide +kernel
theorem dX6_sheet_18 : decode cX6_sheet 18 = .ok (.bipush 16, 2) := by decide +kernel
theorem dX6_sheet_20 : decode cX6_sheet 20 = .ok (.if_icmp .eq 15, 3) := by decide +kernel
theorem dX6_sheet_23 : decode cX6_sheet 23 = .ok (.iload_n 2, 1) := by decide +kernel
theorem dX6_sheet_24 : decode cX6_sheet 24 = .ok (.bipush 32, 2) := by decide +kernel
theorem dX6_sheet_26 : decode cX6_sheet 26 = .ok (.if_icmp .eq 9, 3) := by decide +kernel
theorem dX6_sheet_29 : decode cX6_sheet 29 = .ok (.aload_n 0, 1) := by decide +kernel
theorem dX6_sheet_30 : decode cX6_sheet 30 = .ok (.iconst 1, 1) := by decide +kernel
theorem dX6_sheet_31 : decode cX6_sheet 31 = .ok (.invokevirtual 59, 3) := by decide +kernel
theorem dX6_sheet_34 : decode cX6_sheet 34 = .ok (.ireturn, 1) := by decide +kernel
theorem dX6_sheet_35 : decode cX6_sheet 35 = .ok (.iload_n 2, 1) := by decide +kernel
theorem dX6_sheet_36 : decode cX6_sheet 36 = .ok (.ifCond .eq 25, 3) := by decide +kernel
theorem dX6_sheet_39 : decode cX6_sheet 39 = .ok (.iload_n 3, 1) := by decide +kernel
theorem dX6_sheet_40 : decode cX6_sheet 40 = .ok (.ifCond .ge 9, 3) := by decide +kernel
theorem dX6_sheet_43 : decode cX6_sheet 43 = .ok (.aload_n 0, 1) := by decide +kernel
theorem dX6_sheet_44 : decode cX6_sheet 44 = .ok (.iconst 3, 1) := by decide +kernel
theorem dX6_sheet_45 : decode cX6_sheet 45 = .ok (.invokevirtual 59, 3) := by decide +kernel
theorem dX6_sheet_48 : decode cX6_sheet 48 = .ok (.ireturn, 1) := by decide +kernel
theorem dX6_sheet_49 : decode cX6_sheet 49 = .ok (.iload_n 3, 1) := by decide +kernel
theorem dX6_sheet_50 : decode cX6_sheet 50 = .ok (.bipush 24, 2) := by decide +kernel
theorem dX6_sheet_52 : decode cX6_sheet 52 = .ok (.if_icmp .le 9, 3) := by decide +kernel
theorem dX6_sheet_55 : decode cX6_sheet 55 = .ok (.aload_n 0, 1) := by decide +kernel
theorem dX6_sheet_56 : decode cX6_sheet 56 = .ok (.iconst 1, 1) := by decide +kernel
theorem dX6_sheet_57 : decode cX6_sheet 57 = .ok (.invokevirtual 59, 3) := by decide +kernel
theorem dX6_sheet_60 : decode cX6_sheet 60 = .ok (.ireturn, 1) := by decide +kernel
theorem dX6_sheet_61 : decode cX6_sheet 61 = .ok (.aload_n 0, 1) := by decide +kernel
theorem dX6_sheet_62 : decode cX6_sheet 62 = .ok (.getfield 38, 3) := by decide +kernel
theorem dX6_sheet_65 : decode cX6_sheet 65 = .ok (.iload_n 1, 1) := by decide +kernel
theorem dX6_sheet_66 : decode cX6_sheet 66 = .ok (.aaload, 1) := by decide +kernel
theorem dX6_sheet_67 : decode cX6_sheet 67 = .ok (.iload_n 2, 1) := by decide +kernel
theorem dX6_sheet_68 : decode cX6_sheet 68 = .ok (.iload_n 2, 1) := by decide +kernel
theorem dX6_sheet_69 : decode cX6_sheet 69 = .ok (.ifCond .ne 7, 3) := by decide +kernel
theorem dX6_sheet_72 : decode cX6_sheet 72 = .ok (.iconst 0, 1) := by decide +kernel
theorem dX6_sheet_73 : decode cX6_sheet 73 = .ok (.goto 4, 3) := by decide +kernel
theorem dX6_sheet_76 : decode cX6_sheet 76 = .ok (.iload_n 3, 1) := by decide +kernel
theorem dX6_sheet_77 : decode cX6_sheet 77 = .ok (.invokevirtual 250, 3) := by decide +kernel
theorem dX6_sheet_80 : decode cX6_sheet 80 = .ok (.iconst 1, 1) := by decide +kernel
theorem dX6_sheet_81 : decode cX6_sheet 81 = .ok (.ireturn, 1) := by decide +kernel
theorem dX6_put_0 : decode cX6_put 0 = .ok (.iload_n 1, 1) := by decide +kernel
theorem dX6_put_1 : decode cX6_put 1 = .ok (.invokestatic 223, 3) := by decide +kernel
theorem dX6_put_4 : decode cX6_put 4 = .ok (.ifCond .ne 9, 3) := by decide +kernel
theorem dX6_put_7 : decode cX6_put 7 = .ok (.aload_n 0, 1) := by decide +kernel
theorem dX6_put_8 : decode cX6_put 8 = .ok (.iconst 1, 1) := by decide +kernel
theorem dX6_put_9 : decode cX6_put 9 = .ok (.invokevirtual 59, 3) := by decide +kernel
theorem dX6_put_12 : decode cX6_put 12 = .ok (.ireturn, 1) := by decide +kernel
theorem dX6_put_13 : decode cX6_put 13 = .ok (.aload_n 0, 1) := by decide +kernel
theorem dX6_put_14 : decode cX6_put 14 = .ok (.getfield 38, 3) := by decide +kernel
theorem dX6_put_17 : decode cX6_put 17 = .ok (.iload_n 1, 1) := by decide +kernel
theorem dX6_put_18 : decode cX6_put 18 = .ok (.aaload, 1) := by decide +kernel
theorem dX6_put_19 : decode cX6_put 19 = .ok (.astore 4, 2) := by decide +kernel
theorem dX6_put_21 : decode cX6_put 21 = .ok (.aload 4, 2) := by decide +kernel
theorem dX6_put_23 : decode cX6_put 23 = .ok (.invokevirtual 226, 3) := by decide +kernel
theorem dX6_put_26 : decode cX6_put 26 = .ok (.ifCond .eq 9, 3) := by decide +kernel
theorem dX6_put_29 : decode cX6_put 29 = .ok (.aload_n 0, 1) := by decide +kernel
theorem dX6_put_30 : decode cX6_put 30 = .ok (.iconst 2, 1) := by decide +kernel
theorem dX6_put_31 : decode cX6_put 31 = .ok (.invokevirtual 59, 3) := by decide +kernel
theorem dX6_put_34 : decode cX6_put 34 = .ok (.ireturn, 1) := by decide +kernel
theorem dX6_put_35 : decode cX6_put 35 = .ok (.iload_n 2, 1) := by decide +kernel
theorem dX6_put_36 : decode cX6_put 36 = .ok (.iconst 0, 1) := by decide +kernel
theorem dX6_put_37 : decode cX6_put 37 = .ok (.aload 4, 2) := by decide +kernel
theorem dX6_put_39 : decode cX6_put 39 = .ok (.getfield 234, 3) := by decide +kernel
theorem dX6_put_42 : decode cX6_put 42 = .ok (.iconst 1, 1) := by decide +kernel
theorem dX6_put_43 : decode cX6_put 43 = .ok (.isub, 1) := by decide +kernel
theorem dX6_put_44 : decode cX6_put 44 = .ok (.invokestatic 73, 3) := by decide +kernel
theorem dX6_put_47 : decode cX6_put 47 = .ok (.ifCond .ne 9, 3) := by decide +kernel
theorem dX6_put_50 : decode cX6_put 50 = .ok (.aload_n 0, 1) := by decide +kernel
theorem dX6_put_51 : decode cX6_put 51 = .ok (.iconst 1, 1) := by decide +kernel
theorem dX6_put_52 : decode cX6_put 52 = .ok (.invokevirtual 59, 3) := by decide +kernel
theorem dX6_put_55 : decode cX6_put 55 = .ok (.ireturn, 1) := by decide +kernel
theorem dX6_put_56 : decode cX6_put 56 = .ok (.aload 4, 2) := by decide +kernel
theorem dX6_put_58 : decode cX6_put 58 = .ok (.iload_n 2, 1) := by decide +kernel
theorem dX6_put_59 : decode cX6_put 59 = .ok (.iload_n 3, 1) := by decide +kernel
theorem dX6_put_60 : decode cX6_put 60 = .ok (.invokevirtual 254, 3) := by decide +kernel
theorem dX6_put_63 : decode cX6_put 63 = .ok (.iconst 1, 1) := by decide +kernel
theorem dX6_put_64 : decode cX6_put 64 = .ok (.ireturn, 1) := by decide +kernel
theorem dX6_move_0 : decode cX6_move 0 = .ok (.iload_n 1, 1) := by decide +kernel
theorem dX6_move_1 : decode cX6_move 1 = .ok (.invokestatic 223, 3) := by decide +kernel
theorem dX6_move_4 : decode cX6_move 4 = .ok (.ifCond .eq 10, 3) := by decide +kernel
theorem dX6_move_7 : decode cX6_move 7 = .ok (.iload_n 3, 1) := by decide +kernel
theorem dX6_move_8 : decode cX6_move 8 = .ok (.invokestatic 223, 3) := by decide +kernel
theorem dX6_move_11 : decode cX6_move 11 = .ok (.ifCond .ne 9, 3) := by decide +kernel
theorem dX6_move_14 : decode cX6_move 14 = .ok (.aload_n 0, 1) := by decide +kernel
theorem dX6_move_15 : decode cX6_move 15 = .ok (.iconst 1, 1) := by decide +kernel
theorem dX6_move_16 : decode cX6_move 16 = .ok (.invokevirtual 59, 3) := by decide +kernel
theorem dX6_move_19 : decode cX6_move 19 = .ok (.ireturn, 1) := by decide +kernel
theorem dX6_move_20 : decode cX6_move 20 = .ok (.aload_n 0, 1) := by decide +kernel
theorem dX6_move_21 : decode cX6_move 21 = .ok (.getfield 38, 3) := by decide +kernel
theorem dX6_move_24 : decode cX6_move 24 = .ok (.iload_n 1, 1) := by decide +kernel
theorem dX6_move_25 : decode cX6_move 25 = .ok (.aaload, 1) := by decide +kernel
theorem dX6_move_26 : decode cX6_move 26 = .ok (.astore 6, 2) := by decide +kernel
theorem dX6_move_28 : decode cX6_move 28 = .ok (.aload_n 0, 1) := by decide +kernel
theorem dX6_move_29 : decode cX6_move 29 = .ok (.getfield 38, 3) := by decide +kernel
theorem dX6_move_32 : decode cX6_move 32 = .ok (.iload_n 3, 1) := by decide +kernel
theorem dX6_move_33 : decode cX6_move 33 = .ok (.aaload, 1) := by decide +kernel
theorem dX6_move_34 : decode cX6_move 34 = .ok (.astore 7, 2) := by decide +kernel
theorem dX6_move_36 : decode cX6_move 36 = .ok (.aload 6, 2) := by decide +kernel
theorem dX6_move_38 : decode cX6_move 38 = .ok (.invokevirtual 226, 3) := by decide +kernel
theorem dX6_move_41 : decode cX6_move 41 = .ok (.ifCond .ne 11, 3) := by decide +kernel
theorem dX6_move_44 : decode cX6_move 44 = .ok (.aload 7, 2) := by decide +kernel
theorem dX6_move_46 : decode cX6_move 46 = .ok (.invokevirtual 226, 3) := by decide +kernel
theorem dX6_move_49 : decode cX6_move 49 = .ok (.ifCond .eq 9, 3) := by decide +kernel
theorem dX6_move_52 : decode cX6_move 52 = .ok (.aload_n 0, 1) := by decide +kernel
theorem dX6_move_53 : decode cX6_move 53 = .ok (.iconst 2, 1) := by decide +kernel
theorem dX6_move_54 : decode cX6_move 54 = .ok (.invokevirtual 59, 3) := by decide +kernel
theorem dX6_move_57 : decode cX6_move 57 = .ok (.ireturn, 1) := by decide +kernel
theorem dX6_move_58 : decode cX6_move 58 = .ok (.aload 6, 2) := by decide +kernel
theorem dX6_move_60 : decode cX6_move 60 = .ok (.getfield 256, 3) := by decide +kernel
theorem dX6_move_63 : decode cX6_move 63 = .ok (.aload 7, 2) := by decide +kernel
theorem dX6_move_65 : decode cX6_move 65 = .ok (.getfield 256, 3) := by decide +kernel
theorem dX6_move_68 : decode cX6_move 68 = .ok (.if_icmp .eq 9, 3) := by decide +kernel
theorem dX6_move_71 : decode cX6_move 71 = .ok (.aload_n 0, 1) := by decide +kernel
theorem dX6_move_72 : decode cX6_move 72 = .ok (.iconst 5, 1) := by decide +kernel
theorem dX6_move_73 : decode cX6_move 73 = .ok (.invokevirtual 59, 3) := by decide +kernel
theorem dX6_move_76 : decode cX6_move 76 = .ok (.ireturn, 1) := by decide +kernel
theorem dX6_move_77 : decode cX6_move 77 = .ok (.aload 6, 2) := by decide +kernel
theorem dX6_move_79 : decode cX6_move 79 = .ok (.iload_n 2, 1) := by decide +kernel
theorem dX6_move_80 : decode cX6_move 80 = .ok (.iload 5, 2) := by decide +kernel
theorem dX6_move_82 : decode cX6_move 82 = .ok (.invokevirtual 259, 3) := by decide +kernel
theorem dX6_move_85 : decode cX6_move 85 = .ok (.ifCond .eq 15, 3) := by decide +kernel
theorem dX6_move_88 : decode cX6_move 88 = .ok (.aload 7, 2) := by decide +kernel
theorem dX6_move_90 : decode cX6_move 90 = .ok (.iload 4, 2) := by decide +kernel
theorem dX6_move_92 : decode cX6_move 92 = .ok (.iload 5, 2) := by decide +kernel
theorem dX6_move_94 : decode cX6_move 94 = .ok (.invokevirtual 259, 3) := by decide +kernel
theorem dX6_move_97 : decode cX6_move 97 = .ok (.ifCond .ne 9, 3) := by decide +kernel
theorem dX6_move_100 : decode cX6_move 100 = .ok (.aload_n 0, 1) := by decide +kernel
theorem dX6_move_101 : decode cX6_move 101 = .ok (.iconst 1, 1) := by decide +kernel
theorem dX6_move_102 : decode cX6_move 102 = .ok (.invokevirtual 59, 3) := by decide +kernel
theorem dX6_move_105 : decode cX6_move 105 = .ok (.ireturn, 1) := by decide +kernel
theorem dX6_move_106 : decode cX6_move 106 = .ok (.aload 6, 2) := by decide +kernel
theorem dX6_move_108 : decode cX6_move 108 = .ok (.getfield 262, 3) := by decide +kernel
theorem dX6_move_111 : decode cX6_move 111 = .ok (.iload_n 2, 1) := by decide +kernel
theorem dX6_move_112 : decode cX6_move 112 = .ok (.aload 7, 2) := by decide +kernel
theorem dX6_move_114 : decode cX6_move 114 = .ok (.getfield 262, 3) := by decide +kernel
theorem dX6_move_117 : decode cX6_move 117 = .ok (.iload 4, 2) := by decide +kernel
theorem dX6_move_119 : decode cX6_move 119 = .ok (.iload 5, 2) := by decide +kernel
theorem dX6_move_121 : decode cX6_move 121 = .ok (.invokestatic 265, 3) := by decide +kernel
theorem dX6_move_124 : decode cX6_move 124 = .ok (.iload 5, 2) := by decide +kernel
theorem dX6_move_126 : decode cX6_move 126 = .ok (.ireturn, 1) := by decide +kernel
theorem dX6_soaks_0 : decode cX6_soaks 0 = .ok (.iload_n 1, 1) := by decide +kernel
theorem dX6_soaks_1 : decode cX6_soaks 1 = .ok (.invokestatic 223, 3) := by decide +kernel
theorem dX6_soaks_4 : decode cX6_soaks 4 = .ok (.ifCond .ne 9, 3) := by decide +kernel
theorem dX6_soaks_7 : decode cX6_soaks 7 = .ok (.aload_n 0, 1) := by decide +kernel
theorem dX6_soaks_8 : decode cX6_soaks 8 = .ok (.iconst 1, 1) := by decide +kernel
theorem dX6_soaks_9 : decode cX6_soaks 9 = .ok (.invokevirtual 59, 3) := by decide +kernel
theorem dX6_soaks_12 : decode cX6_soaks 12 = .ok (.ireturn, 1) := by decide +kernel
theorem dX6_soaks_13 : decode cX6_soaks 13 = .ok (.aload_n 0, 1) := by decide +kernel
theorem dX6_soaks_14 : decode cX6_soaks 14 = .ok (.getfield 38, 3) := by decide +kernel
theorem dX6_soaks_17 : decode cX6_soaks 17 = .ok (.iload_n 1, 1) := by decide +kernel
theorem dX6_soaks_18 : decode cX6_soaks 18 = .ok (.aaload, 1) := by decide +kernel
theorem dX6_soaks_19 : decode cX6_soaks 19 = .ok (.astore_n 2, 1) := by decide +kernel
theorem dX6_soaks_20 : decode cX6_soaks 20 = .ok (.aload_n 2, 1) := by decide +kernel
theorem dX6_soaks_21 : decode cX6_soaks 21 = .ok (.invokevirtual 226, 3) := by decide +kernel
theorem dX6_soaks_24 : decode cX6_soaks 24 = .ok (.ifCond .eq 9, 3) := by decide +kernel
theorem dX6_soaks_27 : decode cX6_soaks 27 = .ok (.aload_n 0, 1) := by decide +kernel
theorem dX6_soaks_28 : decode cX6_soaks 28 = .ok (.iconst 2, 1) := by decide +kernel
theorem dX6_soaks_29 : decode cX6_soaks 29 = .ok (.invokevirtual 59, 3) := by decide +kernel
theorem dX6_soaks_32 : decode cX6_soaks 32 = .ok (.ireturn, 1) := by decide +kernel
theorem dX6_soaks_33 : decode cX6_soaks 33 = .ok (.iconst 0, 1) := by decide +kernel
theorem dX6_soaks_34 : decode cX6_soaks 34 = .ok (.istore_n 3, 1) := by decide +kernel
theorem dX6_soaks_35 : decode cX6_soaks 35 = .ok (.iconst 0, 1) := by decide +kernel
theorem dX6_soaks_36 : decode cX6_soaks 36 = .ok (.istore 4, 2) := by decide +kernel
theorem dX6_soaks_38 : decode cX6_soaks 38 = .ok (.iload 4, 2) := by decide +kernel
theorem dX6_soaks_40 : decode cX6_soaks 40 = .ok (.aload_n 2, 1) := by decide +kernel
theorem dX6_soaks_41 : decode cX6_soaks 41 = .ok (.getfield 234, 3) := by decide +kernel
theorem dX6_soaks_44 : decode cX6_soaks 44 = .ok (.if_icmp .ge 60, 3) := by decide +kernel
theorem dX6_soaks_47 : decode cX6_soaks 47 = .ok (.aload_n 0, 1) := by decide +kernel
theorem dX6_soaks_48 : decode cX6_soaks 48 = .ok (.getfield 10, 3) := by decide +kernel
theorem dX6_soaks_51 : decode cX6_soaks 51 = .ok (.iload 4, 2) := by decide +kernel
theorem dX6_soaks_53 : decode cX6_soaks 53 = .ok (.invokevirtual 70, 3) := by decide +kernel
theorem dX6_soaks_56 : decode cX6_soaks 56 = .ok (.ifCond .eq 48, 3) := by decide +kernel
theorem dX6_soaks_59 : decode cX6_soaks 59 = .ok (.aload_n 2, 1) := by decide +kernel
theorem dX6_soaks_60 : decode cX6_soaks 60 = .ok (.getfield 262, 3) := by decide +kernel
theorem dX6_soaks_63 : decode cX6_soaks 63 = .ok (.iload 4, 2) := by decide +kernel
theorem dX6_soaks_65 : decode cX6_soaks 65 = .ok (.iaload, 1) := by decide +kernel
theorem dX6_soaks_66 : decode cX6_soaks 66 = .ok (.iconst 0, 1) := by decide +kernel
theorem dX6_soaks_67 : decode cX6_soaks 67 = .ok (.bipush 9, 2) := by decide +kernel
theorem dX6_soaks_69 : decode cX6_soaks 69 = .ok (.invokestatic 73, 3) := by decide +kernel
theorem dX6_soaks_72 : decode cX6_soaks 72 = .ok (.ifCond .eq 32, 3) := by decide +kernel
theorem dX6_soaks_75 : decode cX6_soaks 75 = .ok (.aload_n 0, 1) := by decide +kernel
theorem dX6_soaks_76 : decode cX6_soaks 76 = .ok (.getfield 10, 3) := by decide +kernel
theorem dX6_soaks_79 : decode cX6_soaks 79 = .ok (.getfield 77, 3) := by decide +kernel
theorem dX6_soaks_82 : decode cX6_soaks 82 = .ok (.iload 4, 2) := by decide +kernel
theorem dX6_soaks_84 : decode cX6_soaks 84 = .ok (.aaload, 1) := by decide +kernel
theorem dX6_soaks_85 : decode cX6_soaks 85 = .ok (.aload_n 2, 1) := by decide +kernel
theorem dX6_soaks_86 : decode cX6_soaks 86 = .ok (.getfield 262, 3) := by decide +kernel
theorem dX6_soaks_89 : decode cX6_soaks 89 = .ok (.iload 4, 2) := by decide +kernel
theorem dX6_soaks_91 : decode cX6_soaks 91 = .ok (.iaload, 1) := by decide +kernel
theorem dX6_soaks_92 : decode cX6_soaks 92 = .ok (.putfield 98, 3) := by decide +kernel
theorem dX6_soaks_95 : decode cX6_soaks 95 = .ok (.iinc 3 1, 3) := by decide +kernel
theorem dX6_soaks_98 : decode cX6_soaks 98 = .ok (.iinc 4 1, 3) := by decide +kernel
theorem dX6_soaks_101 : decode cX6_soaks 101 = .ok (.goto (-63), 3) := by decide +kernel
theorem dX6_soaks_104 : decode cX6_soaks 104 = .ok (.iload_n 3, 1) := by decide +kernel
theorem dX6_soaks_105 : decode cX6_soaks 105 = .ok (.ireturn, 1) := by decide +kernel
theorem dX6_judge_0 : decode cX6_judge 0 = .ok (.iload_n 1, 1) := by decide +kernel
theorem dX6_judge_1 : decode cX6_judge 1 = .ok (.invokestatic 223, 3) := by decide +kernel
theorem dX6_judge_4 : decode cX6_judge 4 = .ok (.ifCond .ne 9, 3) := by decide +kernel
theorem dX6_judge_7 : decode cX6_judge 7 = .ok (.aload_n 0, 1) := by decide +kernel
theorem dX6_judge_8 : decode cX6_judge 8 = .ok (.iconst 1, 1) := by decide +kernel
theorem dX6_judge_9 : decode cX6_judge 9 = .ok (.invokevirtual 59, 3) := by decide +kernel
theorem dX6_judge_12 : decode cX6_judge 12 = .ok (.ireturn, 1) := by decide +kernel
theorem dX6_judge_13 : decode cX6_judge 13 = .ok (.aload_n 0, 1) := by decide +kernel
theorem dX6_judge_14 : decode cX6_judge 14 = .ok (.getfield 38, 3) := by decide +kernel
theorem dX6_judge_17 : decode cX6_judge 17 = .ok (.iload_n 1, 1) := by decide +kernel
theorem dX6_judge_18 : decode cX6_judge 18 = .ok (.aaload, 1) := by decide +kernel
theorem dX6_judge_19 : decode cX6_judge 19 = .ok (.astore_n 2, 1) := by decide +kernel
theorem dX6_judge_20 : decode cX6_judge 20 = .ok (.aload_n 2, 1) := by decide +kernel
theorem dX6_judge_21 : decode cX6_judge 21 = .ok (.invokevirtual 226, 3) := by decide +kernel
theorem dX6_judge_24 : decode cX6_judge 24 = .ok (.ifCond .eq 11, 3) := by decide +kernel
theorem dX6_judge_27 : decode cX6_judge 27 = .ok (.aload_n 0, 1) := by decide +kernel
theorem dX6_judge_28 : decode cX6_judge 28 = .ok (.iconst 2, 1) := by decide +kernel
theorem dX6_judge_29 : decode cX6_judge 29 = .ok (.invokevirtual 59, 3) := by decide +kernel
theorem dX6_judge_32 : decode cX6_judge 32 = .ok (.goto 11, 3) := by decide +kernel
theorem dX6_judge_35 : decode cX6_judge 35 = .ok (.aload_n 0, 1) := by decide +kernel
theorem dX6_judge_36 : decode cX6_judge 36 = .ok (.getfield 10, 3) := by decide +kernel
theorem dX6_judge_39 : decode cX6_judge 39 = .ok (.aload_n 2, 1) := by decide +kernel
theorem dX6_judge_40 : decode cX6_judge 40 = .ok (.invokevirtual 230, 3) := by decide +kernel
theorem dX6_judge_43 : decode cX6_judge 43 = .ok (.ireturn, 1) := by decide +kernel
theorem dX6_image_0 : decode cX6_image 0 = .ok (.aload_n 0, 1) := by decide +kernel
theorem dX6_image_1 : decode cX6_image 1 = .ok (.getfield 16, 3) := by decide +kernel
theorem dX6_image_4 : decode cX6_image 4 = .ok (.aload_n 0, 1) := by decide +kernel
theorem dX6_image_5 : decode cX6_image 5 = .ok (.getfield 10, 3) := by decide +kernel
theorem dX6_image_8 : decode cX6_image 8 = .ok (.invokevirtual 200, 3) := by decide +kernel
theorem dX6_image_11 : decode cX6_image 11 = .ok (.aload_n 0, 1) := by decide +kernel
theorem dX6_image_12 : decode cX6_image 12 = .ok (.dup, 1) := by decide +kernel
theorem dX6_image_13 : decode cX6_image 13 = .ok (.getfield 46, 3) := by decide +kernel
theorem dX6_image_16 : decode cX6_image 16 = .ok (.iconst 1, 1) := by decide +kernel
theorem dX6_image_17 : decode cX6_image 17 = .ok (.iadd, 1) := by decide +kernel
theorem dX6_image_18 : decode cX6_image 18 = .ok (.putfield 46, 3) := by decide +kernel
theorem dX6_image_21 : decode cX6_image 21 = .ok (.aload_n 0, 1) := by decide +kernel
theorem dX6_image_22 : decode cX6_image 22 = .ok (.getfield 46, 3) := by decide +kernel
theorem dX6_image_25 : decode cX6_image 25 = .ok (.ireturn, 1) := by decide +kernel
theorem dX6_restore_0 : decode cX6_restore 0 = .ok (.aload_n 0, 1) := by decide +kernel
theorem dX6_restore_1 : decode cX6_restore 1 = .ok (.getfield 46, 3) := by decide +kernel
theorem dX6_restore_4 : decode cX6_restore 4 = .ok (.ifCond .ne 9, 3) := by decide +kernel
theorem dX6_restore_7 : decode cX6_restore 7 = .ok (.aload_n 0, 1) := by decide +kernel
theorem dX6_restore_8 : decode cX6_restore 8 = .ok (.iconst 2, 1) := by decide +kernel
theorem dX6_restore_9 : decode cX6_restore 9 = .ok (.invokevirtual 59, 3) := by decide +kernel
theorem dX6_restore_12 : decode cX6_restore 12 = .ok (.ireturn, 1) := by decide +kernel
theorem dX6_restore_13 : decode cX6_restore 13 = .ok (.aload_n 0, 1) := by decide +kernel
theorem dX6_restore_14 : decode cX6_restore 14 = .ok (.getfield 10, 3) := by decide +kernel
theorem dX6_restore_17 : decode cX6_restore 17 = .ok (.aload_n 0, 1) := by decide +kernel
theorem dX6_restore_18 : decode cX6_restore 18 = .ok (.getfield 16, 3) := by decide +kernel
theorem dX6_restore_21 : decode cX6_restore 21 = .ok (.invokevirtual 200, 3) := by decide +kernel
theorem dX6_restore_24 : decode cX6_restore 24 = .ok (.aload_n 0, 1) := by decide +kernel
theorem dX6_restore_25 : decode cX6_restore 25 = .ok (.getfield 10, 3) := by decide +kernel
theorem dX6_restore_28 : decode cX6_restore 28 = .ok (.getfield 105, 3) := by decide +kernel
theorem dX6_restore_31 : decode cX6_restore 31 = .ok (.ireturn, 1) := by decide +kernel
theorem dX6_tell_0 : decode cX6_tell 0 = .ok (.aload_n 0, 1) := by decide +kernel
theorem dX6_tell_1 : decode cX6_tell 1 = .ok (.getfield 10, 3) := by decide +kernel
theorem dX6_tell_4 : decode cX6_tell 4 = .ok (.getfield 271, 3) := by decide +kernel
theorem dX6_tell_7 : decode cX6_tell 7 = .ok (.bipush 24, 2) := by decide +kernel
theorem dX6_tell_9 : decode cX6_tell 9 = .ok (.if_icmp .lt 9, 3) := by decide +kernel
theorem dX6_tell_12 : decode cX6_tell 12 = .ok (.aload_n 0, 1) := by decide +kernel
theorem dX6_tell_13 : decode cX6_tell 13 = .ok (.iconst 4, 1) := by decide +kernel
theorem dX6_tell_14 : decode cX6_tell 14 = .ok (.invokevirtual 59, 3) := by decide +kernel
theorem dX6_tell_17 : decode cX6_tell 17 = .ok (.ireturn, 1) := by decide +kernel
theorem dX6_tell_18 : decode cX6_tell 18 = .ok (.aload_n 0, 1) := by decide +kernel
theorem dX6_tell_19 : decode cX6_tell 19 = .ok (.getfield 10, 3) := by decide +kernel
theorem dX6_tell_22 : decode cX6_tell 22 = .ok (.getfield 274, 3) := by decide +kernel
theorem dX6_tell_25 : decode cX6_tell 25 = .ok (.aload_n 0, 1) := by decide +kernel
theorem dX6_tell_26 : decode cX6_tell 26 = .ok (.getfield 10, 3) := by decide +kernel
theorem dX6_tell_29 : decode cX6_tell 29 = .ok (.getfield 271, 3) := by decide +kernel
theorem dX6_tell_32 : decode cX6_tell 32 = .ok (.iload_n 1, 1) := by decide +kernel
theorem dX6_tell_33 : decode cX6_tell 33 = .ok (.iastore, 1) := by decide +kernel
theorem dX6_tell_34 : decode cX6_tell 34 = .ok (.aload_n 0, 1) := by decide +kernel
theorem dX6_tell_35 : decode cX6_tell 35 = .ok (.getfield 10, 3) := by decide +kernel
theorem dX6_tell_38 : decode cX6_tell 38 = .ok (.dup, 1) := by decide +kernel
theorem dX6_tell_39 : decode cX6_tell 39 = .ok (.getfield 271, 3) := by decide +kernel
theorem dX6_tell_42 : decode cX6_tell 42 = .ok (.iconst 1, 1) := by decide +kernel
theorem dX6_tell_43 : decode cX6_tell 43 = .ok (.iadd, 1) := by decide +kernel
theorem dX6_tell_44 : decode cX6_tell 44 = .ok (.putfield 271, 3) := by decide +kernel
theorem dX6_tell_47 : decode cX6_tell 47 = .ok (.aload_n 0, 1) := by decide +kernel
theorem dX6_tell_48 : decode cX6_tell 48 = .ok (.getfield 10, 3) := by decide +kernel
theorem dX6_tell_51 : decode cX6_tell 51 = .ok (.getfield 271, 3) := by decide +kernel
theorem dX6_tell_54 : decode cX6_tell 54 = .ok (.ireturn, 1) := by decide +kernel
theorem dX6_check_0 : decode cX6_check 0 = .ok (.aload_n 0, 1) := by decide +kernel
theorem dX6_check_1 : decode cX6_check 1 = .ok (.getfield 10, 3) := by decide +kernel
theorem dX6_check_4 : decode cX6_check 4 = .ok (.getfield 271, 3) := by decide +kernel
theorem dX6_check_7 : decode cX6_check 7 = .ok (.istore_n 1, 1) := by decide +kernel
theorem dX6_check_8 : decode cX6_check 8 = .ok (.aload_n 0, 1) := by decide +kernel
theorem dX6_check_9 : decode cX6_check 9 = .ok (.getfield 10, 3) := by decide +kernel
theorem dX6_check_12 : decode cX6_check 12 = .ok (.iconst 0, 1) := by decide +kernel
theorem dX6_check_13 : decode cX6_check 13 = .ok (.putfield 271, 3) := by decide +kernel
theorem dX6_check_16 : decode cX6_check 16 = .ok (.iconst 0, 1) := by decide +kernel
theorem dX6_check_17 : decode cX6_check 17 = .ok (.istore_n 2, 1) := by decide +kernel
theorem dX6_check_18 : decode cX6_check 18 = .ok (.iload_n 2, 1) := by decide +kernel
theorem dX6_check_19 : decode cX6_check 19 = .ok (.iload_n 1, 1) := by decide +kernel
theorem dX6_check_20 : decode cX6_check 20 = .ok (.if_icmp .ge 48, 3) := by decide +kernel
theorem dX6_check_23 : decode cX6_check 23 = .ok (.aload_n 0, 1) := by decide +kernel
theorem dX6_check_24 : decode cX6_check 24 = .ok (.getfield 10, 3) := by decide +kernel
theorem dX6_check_27 : decode cX6_check 27 = .ok (.iload_n 2, 1) := by decide +kernel
theorem dX6_check_28 : decode cX6_check 28 = .ok (.invokevirtual 70, 3) := by decide +kernel
theorem dX6_check_31 : decode cX6_check 31 = .ok (.ifCond .eq 27, 3) := by decide +kernel
theorem dX6_check_34 : decode cX6_check 34 = .ok (.aload_n 0, 1) := by decide +kernel
theorem dX6_check_35 : decode cX6_check 35 = .ok (.getfield 10, 3) := by decide +kernel
theorem dX6_check_38 : decode cX6_check 38 = .ok (.getfield 77, 3) := by decide +kernel
theorem dX6_check_41 : decode cX6_check 41 = .ok (.iload_n 2, 1) := by decide +kernel
theorem dX6_check_42 : decode cX6_check 42 = .ok (.aaload, 1) := by decide +kernel
theorem dX6_check_43 : decode cX6_check 43 = .ok (.getfield 95, 3) := by decide +kernel
theorem dX6_check_46 : decode cX6_check 46 = .ok (.aload_n 0, 1) := by decide +kernel
theorem dX6_check_47 : decode cX6_check 47 = .ok (.getfield 10, 3) := by decide +kernel
theorem dX6_check_50 : decode cX6_check 50 = .ok (.getfield 274, 3) := by decide +kernel
theorem dX6_check_53 : decode cX6_check 53 = .ok (.iload_n 2, 1) := by decide +kernel
theorem dX6_check_54 : decode cX6_check 54 = .ok (.iaload, 1) := by decide +kernel
theorem dX6_check_55 : decode cX6_check 55 = .ok (.if_icmp .eq 7, 3) := by decide +kernel
theorem dX6_check_58 : decode cX6_check 58 = .ok (.iconst 1, 1) := by decide +kernel
theorem dX6_check_59 : decode cX6_check 59 = .ok (.iload_n 2, 1) := by decide +kernel
theorem dX6_check_60 : decode cX6_check 60 = .ok (.iadd, 1) := by decide +kernel
theorem dX6_check_61 : decode cX6_check 61 = .ok (.ireturn, 1) := by decide +kernel
theorem dX6_check_62 : decode cX6_check 62 = .ok (.iinc 2 1, 3) := by decide +kernel
theorem dX6_check_65 : decode cX6_check 65 = .ok (.goto (-47), 3) := by decide +kernel
theorem dX6_check_68 : decode cX6_check 68 = .ok (.iconst 0, 1) := by decide +kernel
theorem dX6_check_69 : decode cX6_check 69 = .ok (.ireturn, 1) := by decide +kernel
theorem dX6_count_0 : decode cX6_count 0 = .ok (.iload_n 1, 1) := by decide +kernel
theorem dX6_count_1 : decode cX6_count 1 = .ok (.tableswitch 135 0 9 #[55, 63, 71, 79, 87, 95, 103, 111, 119, 127], 55) := by decide +kernel
theorem dX6_count_56 : decode cX6_count 56 = .ok (.aload_n 0, 1) := by decide +kernel
theorem dX6_count_57 : decode cX6_count 57 = .ok (.getfield 10, 3) := by decide +kernel
theorem dX6_count_60 : decode cX6_count 60 = .ok (.getfield 63, 3) := by decide +kernel
theorem dX6_count_63 : decode cX6_count 63 = .ok (.ireturn, 1) := by decide +kernel
theorem dX6_count_64 : decode cX6_count 64 = .ok (.aload_n 0, 1) := by decide +kernel
theorem dX6_count_65 : decode cX6_count 65 = .ok (.getfield 10, 3) := by decide +kernel
theorem dX6_count_68 : decode cX6_count 68 = .ok (.getfield 105, 3) := by decide +kernel
theorem dX6_count_71 : decode cX6_count 71 = .ok (.ireturn, 1) := by decide +kernel
theorem dX6_count_72 : decode cX6_count 72 = .ok (.aload_n 0, 1) := by decide +kernel
theorem dX6_count_73 : decode cX6_count 73 = .ok (.getfield 10, 3) := by decide +kernel
theorem dX6_count_76 : decode cX6_count 76 = .ok (.getfield 124, 3) := by decide +kernel
theorem dX6_count_79 : decode cX6_count 79 = .ok (.ireturn, 1) := by decide +kernel
theorem dX6_count_80 : decode cX6_count 80 = .ok (.aload_n 0, 1) := by decide +kernel
theorem dX6_count_81 : decode cX6_count 81 = .ok (.getfield 10, 3) := by decide +kernel
theorem dX6_count_84 : decode cX6_count 84 = .ok (.getfield 118, 3) := by decide +kernel
theorem dX6_count_87 : decode cX6_count 87 = .ok (.ireturn, 1) := by decide +kernel
theorem dX6_count_88 : decode cX6_count 88 = .ok (.aload_n 0, 1) := by decide +kernel
theorem dX6_count_89 : decode cX6_count 89 = .ok (.getfield 10, 3) := by decide +kernel
theorem dX6_count_92 : decode cX6_count 92 = .ok (.getfield 277, 3) := by decide +kernel
theorem dX6_count_95 : decode cX6_count 95 = .ok (.ireturn, 1) := by decide +kernel
theorem dX6_count_96 : decode cX6_count 96 = .ok (.aload_n 0, 1) := by decide +kernel
theorem dX6_count_97 : decode cX6_count 97 = .ok (.getfield 10, 3) := by decide +kernel
theorem dX6_count_100 : decode cX6_count 100 = .ok (.getfield 280, 3) := by decide +kernel
theorem dX6_count_103 : decode cX6_count 103 = .ok (.ireturn, 1) := by decide +kernel
theorem dX6_count_104 : decode cX6_count 104 = .ok (.aload_n 0, 1) := by decide +kernel
theorem dX6_count_105 : decode cX6_count 105 = .ok (.getfield 10, 3) := by decide +kernel
theorem dX6_count_108 : decode cX6_count 108 = .ok (.getfield 134, 3) := by decide +kernel
theorem dX6_count_111 : decode cX6_count 111 = .ok (.ireturn, 1) := by decide +kernel
theorem dX6_count_112 : decode cX6_count 112 = .ok (.aload_n 0, 1) := by decide +kernel
theorem dX6_count_113 : decode cX6_count 113 = .ok (.getfield 10, 3) := by decide +kernel
theorem dX6_count_116 : decode cX6_count 116 = .ok (.getfield 271, 3) := by decide +kernel
theorem dX6_count_119 : decode cX6_count 119 = .ok (.ireturn, 1) := by decide +kernel
theorem dX6_count_120 : decode cX6_count 120 = .ok (.aload_n 0, 1) := by decide +kernel
theorem dX6_count_121 : decode cX6_count 121 = .ok (.getfield 32, 3) := by decide +kernel
theorem dX6_count_124 : decode cX6_count 124 = .ok (.getfield 244, 3) := by decide +kernel
theorem dX6_count_127 : decode cX6_count 127 = .ok (.ireturn, 1) := by decide +kernel
theorem dX6_count_128 : decode cX6_count 128 = .ok (.aload_n 0, 1) := by decide +kernel
theorem dX6_count_129 : decode cX6_count 129 = .ok (.getfield 10, 3) := by decide +kernel
theorem dX6_count_132 : decode cX6_count 132 = .ok (.getfield 184, 3) := by decide +kernel
theorem dX6_count_135 : decode cX6_count 135 = .ok (.ireturn, 1) := by decide +kernel
theorem dX6_count_136 : decode cX6_count 136 = .ok (.aload_n 0, 1) := by decide +kernel
theorem dX6_count_137 : decode cX6_count 137 = .ok (.iconst 1, 1) := by decide +kernel
theorem dX6_count_138 : decode cX6_count 138 = .ok (.invokevirtual 59, 3) := by decide +kernel
theorem dX6_count_141 : decode cX6_count 141 = .ok (.ireturn, 1) := by decide +kernel
theorem dX6_told_0 : decode cX6_told 0 = .ok (.iload_n 1, 1) := by decide +kernel
theorem dX6_told_1 : decode cX6_told 1 = .ok (.iconst 1, 1) := by decide +kernel
theorem dX6_told_2 : decode cX6_told 2 = .ok (.bipush 6, 2) := by decide +kernel
theorem dX6_told_4 : decode cX6_told 4 = .ok (.invokestatic 73, 3) := by decide +kernel
theorem dX6_told_7 : decode cX6_told 7 = .ok (.ifCond .ne 9, 3) := by decide +kernel
theorem dX6_told_10 : decode cX6_told 10 = .ok (.aload_n 0, 1) := by decide +kernel
theorem dX6_told_11 : decode cX6_told 11 = .ok (.iconst 1, 1) := by decide +kernel
theorem dX6_told_12 : decode cX6_told 12 = .ok (.invokevirtual 59, 3) := by decide +kernel
theorem dX6_told_15 : decode cX6_told 15 = .ok (.ireturn, 1) := by decide +kernel
theorem dX6_told_16 : decode cX6_told 16 = .ok (.aload_n 0, 1) := by decide +kernel
theorem dX6_told_17 : decode cX6_told 17 = .ok (.getfield 42, 3) := by decide +kernel
theorem dX6_told_20 : decode cX6_told 20 = .ok (.iload_n 1, 1) := by decide +kernel
theorem dX6_told_21 : decode cX6_told 21 = .ok (.iaload, 1) := by decide +kernel
theorem dX6_told_22 : decode cX6_told 22 = .ok (.ireturn, 1) := by decide +kernel
theorem dX6_error_0 : decode cX6_error 0 = .ok (.aload_n 0, 1) := by decide +kernel
theorem dX6_error_1 : decode cX6_error 1 = .ok (.getfield 42, 3) := by decide +kernel
theorem dX6_error_4 : decode cX6_error 4 = .ok (.iload_n 1, 1) := by decide +kernel
theorem dX6_error_5 : decode cX6_error 5 = .ok (.dup2, 1) := by decide +kernel
theorem dX6_error_6 : decode cX6_error 6 = .ok (.iaload, 1) := by decide +kernel
theorem dX6_error_7 : decode cX6_error 7 = .ok (.iconst 1, 1) := by decide +kernel
theorem dX6_error_8 : decode cX6_error 8 = .ok (.iadd, 1) := by decide +kernel
theorem dX6_error_9 : decode cX6_error 9 = .ok (.iastore, 1) := by decide +kernel
theorem dX6_error_10 : decode cX6_error 10 = .ok (.ldc_w 283, 3) := by decide +kernel
theorem dX6_error_13 : decode cX6_error 13 = .ok (.iload_n 1, 1) := by decide +kernel
theorem dX6_error_14 : decode cX6_error 14 = .ok (.isub, 1) := by decide +kernel
theorem dX6_error_15 : decode cX6_error 15 = .ok (.ireturn, 1) := by decide +kernel
theorem dX6_within_0 : decode cX6_within 0 = .ok (.iload_n 0, 1) := by decide +kernel
theorem dX6_within_1 : decode cX6_within 1 = .ok (.iload_n 1, 1) := by decide +kernel
theorem dX6_within_2 : decode cX6_within 2 = .ok (.if_icmp .lt 12, 3) := by decide +kernel
theorem dX6_within_5 : decode cX6_within 5 = .ok (.iload_n 0, 1) := by decide +kernel
theorem dX6_within_6 : decode cX6_within 6 = .ok (.iload_n 2, 1) := by decide +kernel
theorem dX6_within_7 : decode cX6_within 7 = .ok (.if_icmp .gt 7, 3) := by decide +kernel
theorem dX6_within_10 : decode cX6_within 10 = .ok (.iconst 1, 1) := by decide +kernel
theorem dX6_within_11 : decode cX6_within 11 = .ok (.goto 4, 3) := by decide +kernel
theorem dX6_within_14 : decode cX6_within 14 = .ok (.iconst 0, 1) := by decide +kernel
theorem dX6_within_15 : decode cX6_within 15 = .ok (.ireturn, 1) := by decide +kernel
theorem dX6_held_0 : decode cX6_held 0 = .ok (.iload_n 1, 1) := by decide +kernel
theorem dX6_held_1 : decode cX6_held 1 = .ok (.iload_n 2, 1) := by decide +kernel
theorem dX6_held_2 : decode cX6_held 2 = .ok (.iload_n 0, 1) := by decide +kernel
theorem dX6_held_3 : decode cX6_held 3 = .ok (.invokestatic 284, 3) := by decide +kernel
theorem dX6_held_6 : decode cX6_held 6 = .ok (.invokestatic 218, 3) := by decide +kernel
theorem dX6_held_9 : decode cX6_held 9 = .ok (.ireturn, 1) := by decide +kernel
theorem dX6_isPlace_0 : decode cX6_isPlace 0 = .ok (.iload_n 0, 1) := by decide +kernel
theorem dX6_isPlace_1 : decode cX6_isPlace 1 = .ok (.iconst 0, 1) := by decide +kernel
theorem dX6_isPlace_2 : decode cX6_isPlace 2 = .ok (.bipush 7, 2) := by decide +kernel
theorem dX6_isPlace_4 : decode cX6_isPlace 4 = .ok (.invokestatic 73, 3) := by decide +kernel
theorem dX6_isPlace_7 : decode cX6_isPlace 7 = .ok (.ireturn, 1) := by decide +kernel
theorem dX6_areTwoPlaces_0 : decode cX6_areTwoPlaces 0 = .ok (.iload_n 0, 1) := by decide +kernel
theorem dX6_areTwoPlaces_1 : decode cX6_areTwoPlaces 1 = .ok (.invokestatic 187, 3) := by decide +kernel
theorem dX6_areTwoPlaces_4 : decode cX6_areTwoPlaces 4 = .ok (.ifCond .eq 19, 3) := by decide +kernel
theorem dX6_areTwoPlaces_7 : decode cX6_areTwoPlaces 7 = .ok (.iload_n 1, 1) := by decide +kernel
theorem dX6_areTwoPlaces_8 : decode cX6_areTwoPlaces 8 = .ok (.invokestatic 187, 3) := by decide +kernel
theorem dX6_areTwoPlaces_11 : decode cX6_areTwoPlaces 11 = .ok (.ifCond .eq 12, 3) := by decide +kernel
theorem dX6_areTwoPlaces_14 : decode cX6_areTwoPlaces 14 = .ok (.iload_n 0, 1) := by decide +kernel
theorem dX6_areTwoPlaces_15 : decode cX6_areTwoPlaces 15 = .ok (.iload_n 1, 1) := by decide +kernel
theorem dX6_areTwoPlaces_16 : decode cX6_areTwoPlaces 16 = .ok (.if_icmp .eq 7, 3) := by decide +kernel
theorem dX6_areTwoPlaces_19 : decode cX6_areTwoPlaces 19 = .ok (.iconst 1, 1) := by decide +kernel
theorem dX6_areTwoPlaces_20 : decode cX6_areTwoPlaces 20 = .ok (.goto 4, 3) := by decide +kernel
theorem dX6_areTwoPlaces_23 : decode cX6_areTwoPlaces 23 = .ok (.iconst 0, 1) := by decide +kernel
theorem dX6_areTwoPlaces_24 : decode cX6_areTwoPlaces 24 = .ok (.ireturn, 1) := by decide +kernel
theorem dX6_isLoad_0 : decode cX6_isLoad 0 = .ok (.iload_n 0, 1) := by decide +kernel
theorem dX6_isLoad_1 : decode cX6_isLoad 1 = .ok (.iconst 0, 1) := by decide +kernel
theorem dX6_isLoad_2 : decode cX6_isLoad 2 = .ok (.bipush 99, 2) := by decide +kernel
theorem dX6_isLoad_4 : decode cX6_isLoad 4 = .ok (.invokestatic 73, 3) := by decide +kernel
theorem dX6_isLoad_7 : decode cX6_isLoad 7 = .ok (.ireturn, 1) := by decide +kernel
theorem dX6_isUse_0 : decode cX6_isUse 0 = .ok (.iload_n 0, 1) := by decide +kernel
theorem dX6_isUse_1 : decode cX6_isUse 1 = .ok (.iconst 0, 1) := by decide +kernel
theorem dX6_isUse_2 : decode cX6_isUse 2 = .ok (.iconst 1, 1) := by decide +kernel
theorem dX6_isUse_3 : decode cX6_isUse 3 = .ok (.invokestatic 73, 3) := by decide +kernel
theorem dX6_isUse_6 : decode cX6_isUse 6 = .ok (.ireturn, 1) := by decide +kernel
theorem dX6_isSheet_0 : decode cX6_isSheet 0 = .ok (.iload_n 0, 1) := by decide +kernel
theorem dX6_isSheet_1 : decode cX6_isSheet 1 = .ok (.iconst 0, 1) := by decide +kernel
theorem dX6_isSheet_2 : decode cX6_isSheet 2 = .ok (.iconst 3, 1) := by decide +kernel
theorem dX6_isSheet_3 : decode cX6_isSheet 3 = .ok (.invokestatic 73, 3) := by decide +kernel
theorem dX6_isSheet_6 : decode cX6_isSheet 6 = .ok (.ireturn, 1) := by decide +kernel
theorem dX6_isKindAndNumber_0 : decode cX6_isKindAndNumber 0 = .ok (.iload_n 0, 1) := by decide +kernel
theorem dX6_isKindAndNumber_1 : decode cX6_isKindAndNumber 1 = .ok (.iconst 0, 1) := by decide +kernel
theorem dX6_isKindAndNumber_2 : decode cX6_isKindAndNumber 2 = .ok (.bipush 69, 2) := by decide +kernel
theorem dX6_isKindAndNumber_4 : decode cX6_isKindAndNumber 4 = .ok (.invokestatic 73, 3) := by decide +kernel
theorem dX6_isKindAndNumber_7 : decode cX6_isKindAndNumber 7 = .ok (.ireturn, 1) := by decide +kernel
theorem dX6_kindAbove_0 : decode cX6_kindAbove 0 = .ok (.iload_n 0, 1) := by decide +kernel
theorem dX6_kindAbove_1 : decode cX6_kindAbove 1 = .ok (.iconst 0, 1) := by decide +kernel
theorem dX6_kindAbove_2 : decode cX6_kindAbove 2 = .ok (.bipush 6, 2) := by decide +kernel
theorem dX6_kindAbove_4 : decode cX6_kindAbove 4 = .ok (.invokestatic 73, 3) := by decide +kernel
theorem dX6_kindAbove_7 : decode cX6_kindAbove 7 = .ok (.ifCond .eq 11, 3) := by decide +kernel
theorem dX6_kindAbove_10 : decode cX6_kindAbove 10 = .ok (.getstatic 287, 3) := by decide +kernel
theorem dX6_kindAbove_13 : decode cX6_kindAbove 13 = .ok (.iload_n 0, 1) := by decide +kernel
theorem dX6_kindAbove_14 : decode cX6_kindAbove 14 = .ok (.iaload, 1) := by decide +kernel
theorem dX6_kindAbove_15 : decode cX6_kindAbove 15 = .ok (.goto 4, 3) := by decide +kernel
theorem dX6_kindAbove_18 : decode cX6_kindAbove 18 = .ok (.iconst (-1), 1) := by decide +kernel
theorem dX6_kindAbove_19 : decode cX6_kindAbove 19 = .ok (.ireturn, 1) := by decide +kernel
theorem dX6_isUnder_0 : decode cX6_isUnder 0 = .ok (.iload_n 0, 1) := by decide +kernel
theorem dX6_isUnder_1 : decode cX6_isUnder 1 = .ok (.istore_n 2, 1) := by decide +kernel
theorem dX6_isUnder_2 : decode cX6_isUnder 2 = .ok (.iconst 0, 1) := by decide +kernel
theorem dX6_isUnder_3 : decode cX6_isUnder 3 = .ok (.istore_n 3, 1) := by decide +kernel
theorem dX6_isUnder_4 : decode cX6_isUnder 4 = .ok (.iload_n 3, 1) := by decide +kernel
theorem dX6_isUnder_5 : decode cX6_isUnder 5 = .ok (.bipush 6, 2) := by decide +kernel
theorem dX6_isUnder_7 : decode cX6_isUnder 7 = .ok (.if_icmp .gt 25, 3) := by decide +kernel
theorem dX6_isUnder_10 : decode cX6_isUnder 10 = .ok (.iload_n 2, 1) := by decide +kernel
theorem dX6_isUnder_11 : decode cX6_isUnder 11 = .ok (.ifCond .lt 21, 3) := by decide +kernel
theorem dX6_isUnder_14 : decode cX6_isUnder 14 = .ok (.iload_n 2, 1) := by decide +kernel
theorem dX6_isUnder_15 : decode cX6_isUnder 15 = .ok (.iload_n 1, 1) := by decide +kernel
theorem dX6_isUnder_16 : decode cX6_isUnder 16 = .ok (.if_icmp .ne 5, 3) := by decide +kernel
theorem dX6_isUnder_19 : decode cX6_isUnder 19 = .ok (.iconst 1, 1) := by decide +kernel
theorem dX6_isUnder_20 : decode cX6_isUnder 20 = .ok (.ireturn, 1) := by decide +kernel
theorem dX6_isUnder_21 : decode cX6_isUnder 21 = .ok (.iload_n 2, 1) := by decide +kernel
theorem dX6_isUnder_22 : decode cX6_isUnder 22 = .ok (.invokestatic 290, 3) := by decide +kernel
theorem dX6_isUnder_25 : decode cX6_isUnder 25 = .ok (.istore_n 2, 1) := by decide +kernel
theorem dX6_isUnder_26 : decode cX6_isUnder 26 = .ok (.iinc 3 1, 3) := by decide +kernel
theorem dX6_isUnder_29 : decode cX6_isUnder 29 = .ok (.goto (-25), 3) := by decide +kernel
theorem dX6_isUnder_32 : decode cX6_isUnder 32 = .ok (.iconst 0, 1) := by decide +kernel
theorem dX6_isUnder_33 : decode cX6_isUnder 33 = .ok (.ireturn, 1) := by decide +kernel
theorem dX6_greatestCommon_0 : decode cX6_greatestCommon 0 = .ok (.iload_n 1, 1) := by decide +kernel
theorem dX6_greatestCommon_1 : decode cX6_greatestCommon 1 = .ok (.istore_n 2, 1) := by decide +kernel
theorem dX6_greatestCommon_2 : decode cX6_greatestCommon 2 = .ok (.iload_n 2, 1) := by decide +kernel
theorem dX6_greatestCommon_3 : decode cX6_greatestCommon 3 = .ok (.iconst 1, 1) := by decide +kernel
theorem dX6_greatestCommon_4 : decode cX6_greatestCommon 4 = .ok (.if_icmp .le 23, 3) := by decide +kernel
theorem dX6_greatestCommon_7 : decode cX6_greatestCommon 7 = .ok (.iload_n 0, 1) := by decide +kernel
theorem dX6_greatestCommon_8 : decode cX6_greatestCommon 8 = .ok (.iload_n 2, 1) := by decide +kernel
theorem dX6_greatestCommon_9 : decode cX6_greatestCommon 9 = .ok (.irem, 1) := by decide +kernel
theorem dX6_greatestCommon_10 : decode cX6_greatestCommon 10 = .ok (.ifCond .ne 11, 3) := by decide +kernel
theorem dX6_greatestCommon_13 : decode cX6_greatestCommon 13 = .ok (.iload_n 1, 1) := by decide +kernel
theorem dX6_greatestCommon_14 : decode cX6_greatestCommon 14 = .ok (.iload_n 2, 1) := by decide +kernel
theorem dX6_greatestCommon_15 : decode cX6_greatestCommon 15 = .ok (.irem, 1) := by decide +kernel
theorem dX6_greatestCommon_16 : decode cX6_greatestCommon 16 = .ok (.ifCond .ne 5, 3) := by decide +kernel
theorem dX6_greatestCommon_19 : decode cX6_greatestCommon 19 = .ok (.iload_n 2, 1) := by decide +kernel
theorem dX6_greatestCommon_20 : decode cX6_greatestCommon 20 = .ok (.ireturn, 1) := by decide +kernel
theorem dX6_greatestCommon_21 : decode cX6_greatestCommon 21 = .ok (.iinc 2 (-1), 3) := by decide +kernel
theorem dX6_greatestCommon_24 : decode cX6_greatestCommon 24 = .ok (.goto (-22), 3) := by decide +kernel
theorem dX6_greatestCommon_27 : decode cX6_greatestCommon 27 = .ok (.iconst 1, 1) := by decide +kernel
theorem dX6_greatestCommon_28 : decode cX6_greatestCommon 28 = .ok (.ireturn, 1) := by decide +kernel
