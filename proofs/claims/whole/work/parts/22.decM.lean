theorem d_Mo_init_0 : decode b_Mo_init 0 = .ok (.aload_n 0, 1) := by decide +kernel
theorem d_Mo_init_1 : decode b_Mo_init 1 = .ok (.invokespecial 1, 3) := by decide +kernel
theorem d_Mo_init_4 : decode b_Mo_init 4 = .ok (.aload_n 0, 1) := by decide +kernel
theorem d_Mo_init_5 : decode b_Mo_init 5 = .ok (.bipush 50, 2) := by decide +kernel
theorem d_Mo_init_7 : decode b_Mo_init 7 = .ok (.newarray .int, 2) := by decide +kernel
theorem d_Mo_init_9 : decode b_Mo_init 9 = .ok (.putfield 7, 3) := by decide +kernel
theorem d_Mo_init_12 : decode b_Mo_init 12 = .ok (.aload_n 0, 1) := by decide +kernel
theorem d_Mo_init_13 : decode b_Mo_init 13 = .ok (.bipush 50, 2) := by decide +kernel
theorem d_Mo_init_15 : decode b_Mo_init 15 = .ok (.newarray .int, 2) := by decide +kernel
theorem d_Mo_init_17 : decode b_Mo_init 17 = .ok (.putfield 13, 3) := by decide +kernel
theorem d_Mo_init_20 : decode b_Mo_init 20 = .ok (.aload_n 0, 1) := by decide +kernel
theorem d_Mo_init_21 : decode b_Mo_init 21 = .ok (.bipush 50, 2) := by decide +kernel
theorem d_Mo_init_23 : decode b_Mo_init 23 = .ok (.newarray .int, 2) := by decide +kernel
theorem d_Mo_init_25 : decode b_Mo_init 25 = .ok (.putfield 16, 3) := by decide +kernel
theorem d_Mo_init_28 : decode b_Mo_init 28 = .ok (.aload_n 0, 1) := by decide +kernel
theorem d_Mo_init_29 : decode b_Mo_init 29 = .ok (.iconst 5, 1) := by decide +kernel
theorem d_Mo_init_30 : decode b_Mo_init 30 = .ok (.newarray .boolean, 2) := by decide +kernel
theorem d_Mo_init_32 : decode b_Mo_init 32 = .ok (.putfield 19, 3) := by decide +kernel
theorem d_Mo_init_35 : decode b_Mo_init 35 = .ok (.aload_n 0, 1) := by decide +kernel
theorem d_Mo_init_36 : decode b_Mo_init 36 = .ok (.bipush 100, 2) := by decide +kernel
theorem d_Mo_init_38 : decode b_Mo_init 38 = .ok (.putfield 23, 3) := by decide +kernel
theorem d_Mo_init_41 : decode b_Mo_init 41 = .ok (.aload_n 0, 1) := by decide +kernel
theorem d_Mo_init_42 : decode b_Mo_init 42 = .ok (.bipush 60, 2) := by decide +kernel
theorem d_Mo_init_44 : decode b_Mo_init 44 = .ok (.newarray .int, 2) := by decide +kernel
theorem d_Mo_init_46 : decode b_Mo_init 46 = .ok (.putfield 27, 3) := by decide +kernel
theorem d_Mo_init_49 : decode b_Mo_init 49 = .ok (.aload_n 0, 1) := by decide +kernel
theorem d_Mo_init_50 : decode b_Mo_init 50 = .ok (.bipush 60, 2) := by decide +kernel
theorem d_Mo_init_52 : decode b_Mo_init 52 = .ok (.newarray .int, 2) := by decide +kernel
theorem d_Mo_init_54 : decode b_Mo_init 54 = .ok (.putfield 30, 3) := by decide +kernel
theorem d_Mo_init_57 : decode b_Mo_init 57 = .ok (.aload_n 0, 1) := by decide +kernel
theorem d_Mo_init_58 : decode b_Mo_init 58 = .ok (.bipush 60, 2) := by decide +kernel
theorem d_Mo_init_60 : decode b_Mo_init 60 = .ok (.newarray .int, 2) := by decide +kernel
theorem d_Mo_init_62 : decode b_Mo_init 62 = .ok (.putfield 33, 3) := by decide +kernel
theorem d_Mo_init_65 : decode b_Mo_init 65 = .ok (.aload_n 0, 1) := by decide +kernel
theorem d_Mo_init_66 : decode b_Mo_init 66 = .ok (.sipush 200, 3) := by decide +kernel
theorem d_Mo_init_69 : decode b_Mo_init 69 = .ok (.newarray .int, 2) := by decide +kernel
theorem d_Mo_init_71 : decode b_Mo_init 71 = .ok (.putfield 36, 3) := by decide +kernel
theorem d_Mo_init_74 : decode b_Mo_init 74 = .ok (.aload_n 0, 1) := by decide +kernel
theorem d_Mo_init_75 : decode b_Mo_init 75 = .ok (.iconst (-1), 1) := by decide +kernel
theorem d_Mo_init_76 : decode b_Mo_init 76 = .ok (.putfield 39, 3) := by decide +kernel
theorem d_Mo_init_79 : decode b_Mo_init 79 = .ok (.aload_n 0, 1) := by decide +kernel
theorem d_Mo_init_80 : decode b_Mo_init 80 = .ok (.bipush 20, 2) := by decide +kernel
theorem d_Mo_init_82 : decode b_Mo_init 82 = .ok (.newarray .boolean, 2) := by decide +kernel
theorem d_Mo_init_84 : decode b_Mo_init 84 = .ok (.putfield 42, 3) := by decide +kernel
theorem d_Mo_init_87 : decode b_Mo_init 87 = .ok (.aload_n 0, 1) := by decide +kernel
theorem d_Mo_init_88 : decode b_Mo_init 88 = .ok (.bipush 20, 2) := by decide +kernel
theorem d_Mo_init_90 : decode b_Mo_init 90 = .ok (.newarray .int, 2) := by decide +kernel
theorem d_Mo_init_92 : decode b_Mo_init 92 = .ok (.putfield 45, 3) := by decide +kernel
theorem d_Mo_init_95 : decode b_Mo_init 95 = .ok (.aload_n 0, 1) := by decide +kernel
theorem d_Mo_init_96 : decode b_Mo_init 96 = .ok (.bipush 20, 2) := by decide +kernel
theorem d_Mo_init_98 : decode b_Mo_init 98 = .ok (.newarray .int, 2) := by decide +kernel
theorem d_Mo_init_100 : decode b_Mo_init 100 = .ok (.putfield 48, 3) := by decide +kernel
theorem d_Mo_init_103 : decode b_Mo_init 103 = .ok (.aload_n 0, 1) := by decide +kernel
theorem d_Mo_init_104 : decode b_Mo_init 104 = .ok (.bipush 60, 2) := by decide +kernel
theorem d_Mo_init_106 : decode b_Mo_init 106 = .ok (.newarray .int, 2) := by decide +kernel
theorem d_Mo_init_108 : decode b_Mo_init 108 = .ok (.putfield 51, 3) := by decide +kernel
theorem d_Mo_init_111 : decode b_Mo_init 111 = .ok (.aload_n 0, 1) := by decide +kernel
theorem d_Mo_init_112 : decode b_Mo_init 112 = .ok (.bipush 60, 2) := by decide +kernel
theorem d_Mo_init_114 : decode b_Mo_init 114 = .ok (.newarray .int, 2) := by decide +kernel
theorem d_Mo_init_116 : decode b_Mo_init 116 = .ok (.putfield 54, 3) := by decide +kernel
theorem d_Mo_init_119 : decode b_Mo_init 119 = .ok (.aload_n 0, 1) := by decide +kernel
theorem d_Mo_init_120 : decode b_Mo_init 120 = .ok (.bipush 60, 2) := by decide +kernel
theorem d_Mo_init_122 : decode b_Mo_init 122 = .ok (.newarray .int, 2) := by decide +kernel
theorem d_Mo_init_124 : decode b_Mo_init 124 = .ok (.putfield 57, 3) := by decide +kernel
theorem d_Mo_init_127 : decode b_Mo_init 127 = .ok (.aload_n 0, 1) := by decide +kernel
theorem d_Mo_init_128 : decode b_Mo_init 128 = .ok (.bipush 60, 2) := by decide +kernel
theorem d_Mo_init_130 : decode b_Mo_init 130 = .ok (.newarray .int, 2) := by decide +kernel
theorem d_Mo_init_132 : decode b_Mo_init 132 = .ok (.putfield 60, 3) := by decide +kernel
theorem d_Mo_init_135 : decode b_Mo_init 135 = .ok (.aload_n 0, 1) := by decide +kernel
theorem d_Mo_init_136 : decode b_Mo_init 136 = .ok (.bipush 60, 2) := by decide +kernel
theorem d_Mo_init_138 : decode b_Mo_init 138 = .ok (.newarray .boolean, 2) := by decide +kernel
theorem d_Mo_init_140 : decode b_Mo_init 140 = .ok (.putfield 63, 3) := by decide +kernel
theorem d_Mo_init_143 : decode b_Mo_init 143 = .ok (.aload_n 0, 1) := by decide +kernel
theorem d_Mo_init_144 : decode b_Mo_init 144 = .ok (.bipush 6, 2) := by decide +kernel
theorem d_Mo_init_146 : decode b_Mo_init 146 = .ok (.newarray .int, 2) := by decide +kernel
theorem d_Mo_init_148 : decode b_Mo_init 148 = .ok (.putfield 66, 3) := by decide +kernel
theorem d_Mo_init_151 : decode b_Mo_init 151 = .ok (.aload_n 0, 1) := by decide +kernel
theorem d_Mo_init_152 : decode b_Mo_init 152 = .ok (.bipush 20, 2) := by decide +kernel
theorem d_Mo_init_154 : decode b_Mo_init 154 = .ok (.newarray .int, 2) := by decide +kernel
theorem d_Mo_init_156 : decode b_Mo_init 156 = .ok (.putfield 69, 3) := by decide +kernel
theorem d_Mo_init_159 : decode b_Mo_init 159 = .ok (.aload_n 0, 1) := by decide +kernel
theorem d_Mo_init_160 : decode b_Mo_init 160 = .ok (.bipush 20, 2) := by decide +kernel
theorem d_Mo_init_162 : decode b_Mo_init 162 = .ok (.newarray .int, 2) := by decide +kernel
theorem d_Mo_init_164 : decode b_Mo_init 164 = .ok (.putfield 72, 3) := by decide +kernel
theorem d_Mo_init_167 : decode b_Mo_init 167 = .ok (.aload_n 0, 1) := by decide +kernel
theorem d_Mo_init_168 : decode b_Mo_init 168 = .ok (.bipush 8, 2) := by decide +kernel
theorem d_Mo_init_170 : decode b_Mo_init 170 = .ok (.newarray .int, 2) := by decide +kernel
theorem d_Mo_init_172 : decode b_Mo_init 172 = .ok (.putfield 75, 3) := by decide +kernel
theorem d_Mo_init_175 : decode b_Mo_init 175 = .ok (.aload_n 0, 1) := by decide +kernel
theorem d_Mo_init_176 : decode b_Mo_init 176 = .ok (.bipush 8, 2) := by decide +kernel
theorem d_Mo_init_178 : decode b_Mo_init 178 = .ok (.newarray .int, 2) := by decide +kernel
theorem d_Mo_init_180 : decode b_Mo_init 180 = .ok (.putfield 78, 3) := by decide +kernel
theorem d_Mo_init_183 : decode b_Mo_init 183 = .ok (.aload_n 0, 1) := by decide +kernel
theorem d_Mo_init_184 : decode b_Mo_init 184 = .ok (.bipush 50, 2) := by decide +kernel
theorem d_Mo_init_186 : decode b_Mo_init 186 = .ok (.newarray .long, 2) := by decide +kernel
theorem d_Mo_init_188 : decode b_Mo_init 188 = .ok (.putfield 81, 3) := by decide +kernel
theorem d_Mo_init_191 : decode b_Mo_init 191 = .ok (.return_, 1) := by decide +kernel
theorem d_Mo_thrown_0 : decode b_Mo_thrown 0 = .ok (.aload_n 0, 1) := by decide +kernel
theorem d_Mo_thrown_1 : decode b_Mo_thrown 1 = .ok (.getfield 85, 3) := by decide +kernel
theorem d_Mo_thrown_4 : decode b_Mo_thrown 4 = .ok (.ireturn, 1) := by decide +kernel
theorem d_Mo_throwing_0 : decode b_Mo_throwing 0 = .ok (.aload_n 0, 1) := by decide +kernel
theorem d_Mo_throwing_1 : decode b_Mo_throwing 1 = .ok (.iload_n 1, 1) := by decide +kernel
theorem d_Mo_throwing_2 : decode b_Mo_throwing 2 = .ok (.ifCond .eq 7, 3) := by decide +kernel
theorem d_Mo_throwing_5 : decode b_Mo_throwing 5 = .ok (.iconst 1, 1) := by decide +kernel
theorem d_Mo_throwing_6 : decode b_Mo_throwing 6 = .ok (.goto 29, 3) := by decide +kernel
theorem d_Mo_throwing_9 : decode b_Mo_throwing 9 = .ok (.iload_n 2, 1) := by decide +kernel
theorem d_Mo_throwing_10 : decode b_Mo_throwing 10 = .ok (.ifCond .eq 7, 3) := by decide +kernel
theorem d_Mo_throwing_13 : decode b_Mo_throwing 13 = .ok (.iconst 2, 1) := by decide +kernel
theorem d_Mo_throwing_14 : decode b_Mo_throwing 14 = .ok (.goto 21, 3) := by decide +kernel
theorem d_Mo_throwing_17 : decode b_Mo_throwing 17 = .ok (.iload_n 3, 1) := by decide +kernel
theorem d_Mo_throwing_18 : decode b_Mo_throwing 18 = .ok (.ifCond .eq 7, 3) := by decide +kernel
theorem d_Mo_throwing_21 : decode b_Mo_throwing 21 = .ok (.iconst 3, 1) := by decide +kernel
theorem d_Mo_throwing_22 : decode b_Mo_throwing 22 = .ok (.goto 13, 3) := by decide +kernel
theorem d_Mo_throwing_25 : decode b_Mo_throwing 25 = .ok (.iload 4, 2) := by decide +kernel
theorem d_Mo_throwing_27 : decode b_Mo_throwing 27 = .ok (.ifCond .eq 7, 3) := by decide +kernel
theorem d_Mo_throwing_30 : decode b_Mo_throwing 30 = .ok (.iconst 4, 1) := by decide +kernel
theorem d_Mo_throwing_31 : decode b_Mo_throwing 31 = .ok (.goto 4, 3) := by decide +kernel
theorem d_Mo_throwing_34 : decode b_Mo_throwing 34 = .ok (.iconst 0, 1) := by decide +kernel
theorem d_Mo_throwing_35 : decode b_Mo_throwing 35 = .ok (.putfield 85, 3) := by decide +kernel
theorem d_Mo_throwing_38 : decode b_Mo_throwing 38 = .ok (.aload_n 0, 1) := by decide +kernel
theorem d_Mo_throwing_39 : decode b_Mo_throwing 39 = .ok (.getfield 85, 3) := by decide +kernel
theorem d_Mo_throwing_42 : decode b_Mo_throwing 42 = .ok (.ifCond .le 7, 3) := by decide +kernel
theorem d_Mo_throwing_45 : decode b_Mo_throwing 45 = .ok (.iconst 1, 1) := by decide +kernel
theorem d_Mo_throwing_46 : decode b_Mo_throwing 46 = .ok (.goto 4, 3) := by decide +kernel
theorem d_Mo_throwing_49 : decode b_Mo_throwing 49 = .ok (.iconst 0, 1) := by decide +kernel
theorem d_Mo_throwing_50 : decode b_Mo_throwing 50 = .ok (.ireturn, 1) := by decide +kernel
theorem d_Mo_in_0 : decode b_Mo_in 0 = .ok (.iload_n 0, 1) := by decide +kernel
theorem d_Mo_in_1 : decode b_Mo_in 1 = .ok (.iload_n 1, 1) := by decide +kernel
theorem d_Mo_in_2 : decode b_Mo_in 2 = .ok (.if_icmp .lt 12, 3) := by decide +kernel
theorem d_Mo_in_5 : decode b_Mo_in 5 = .ok (.iload_n 0, 1) := by decide +kernel
theorem d_Mo_in_6 : decode b_Mo_in 6 = .ok (.iload_n 2, 1) := by decide +kernel
theorem d_Mo_in_7 : decode b_Mo_in 7 = .ok (.if_icmp .gt 7, 3) := by decide +kernel
theorem d_Mo_in_10 : decode b_Mo_in 10 = .ok (.iconst 1, 1) := by decide +kernel
theorem d_Mo_in_11 : decode b_Mo_in 11 = .ok (.goto 4, 3) := by decide +kernel
theorem d_Mo_in_14 : decode b_Mo_in 14 = .ok (.iconst 0, 1) := by decide +kernel
theorem d_Mo_in_15 : decode b_Mo_in 15 = .ok (.ireturn, 1) := by decide +kernel
theorem d_Mo_isCents_0 : decode b_Mo_isCents 0 = .ok (.iload_n 0, 1) := by decide +kernel
theorem d_Mo_isCents_1 : decode b_Mo_isCents 1 = .ok (.iconst 0, 1) := by decide +kernel
theorem d_Mo_isCents_2 : decode b_Mo_isCents 2 = .ok (.ldc 88, 2) := by decide +kernel
theorem d_Mo_isCents_4 : decode b_Mo_isCents 4 = .ok (.invokestatic 89, 3) := by decide +kernel
theorem d_Mo_isCents_7 : decode b_Mo_isCents 7 = .ok (.ireturn, 1) := by decide +kernel
theorem d_Mo_isBudget_0 : decode b_Mo_isBudget 0 = .ok (.iload_n 0, 1) := by decide +kernel
theorem d_Mo_isBudget_1 : decode b_Mo_isBudget 1 = .ok (.iconst 0, 1) := by decide +kernel
theorem d_Mo_isBudget_2 : decode b_Mo_isBudget 2 = .ok (.iconst 4, 1) := by decide +kernel
theorem d_Mo_isBudget_3 : decode b_Mo_isBudget 3 = .ok (.invokestatic 89, 3) := by decide +kernel
theorem d_Mo_isBudget_6 : decode b_Mo_isBudget 6 = .ok (.ifCond .eq 17, 3) := by decide +kernel
theorem d_Mo_isBudget_9 : decode b_Mo_isBudget 9 = .ok (.iload_n 1, 1) := by decide +kernel
theorem d_Mo_isBudget_10 : decode b_Mo_isBudget 10 = .ok (.iconst 0, 1) := by decide +kernel
theorem d_Mo_isBudget_11 : decode b_Mo_isBudget 11 = .ok (.bipush 9, 2) := by decide +kernel
theorem d_Mo_isBudget_13 : decode b_Mo_isBudget 13 = .ok (.invokestatic 89, 3) := by decide +kernel
theorem d_Mo_isBudget_16 : decode b_Mo_isBudget 16 = .ok (.ifCond .eq 7, 3) := by decide +kernel
theorem d_Mo_isBudget_19 : decode b_Mo_isBudget 19 = .ok (.iconst 1, 1) := by decide +kernel
theorem d_Mo_isBudget_20 : decode b_Mo_isBudget 20 = .ok (.goto 4, 3) := by decide +kernel
theorem d_Mo_isBudget_23 : decode b_Mo_isBudget 23 = .ok (.iconst 0, 1) := by decide +kernel
theorem d_Mo_isBudget_24 : decode b_Mo_isBudget 24 = .ok (.ireturn, 1) := by decide +kernel
theorem d_Mo_budget_0 : decode b_Mo_budget 0 = .ok (.iload_n 1, 1) := by decide +kernel
theorem d_Mo_budget_1 : decode b_Mo_budget 1 = .ok (.iload_n 2, 1) := by decide +kernel
theorem d_Mo_budget_2 : decode b_Mo_budget 2 = .ok (.invokestatic 93, 3) := by decide +kernel
theorem d_Mo_budget_5 : decode b_Mo_budget 5 = .ok (.ifCond .ne 7, 3) := by decide +kernel
theorem d_Mo_budget_8 : decode b_Mo_budget 8 = .ok (.iconst 1, 1) := by decide +kernel
theorem d_Mo_budget_9 : decode b_Mo_budget 9 = .ok (.goto 4, 3) := by decide +kernel
theorem d_Mo_budget_12 : decode b_Mo_budget 12 = .ok (.iconst 0, 1) := by decide +kernel
theorem d_Mo_budget_13 : decode b_Mo_budget 13 = .ok (.istore 4, 2) := by decide +kernel
theorem d_Mo_budget_15 : decode b_Mo_budget 15 = .ok (.iload 4, 2) := by decide +kernel
theorem d_Mo_budget_17 : decode b_Mo_budget 17 = .ok (.ifCond .ne 70, 3) := by decide +kernel
theorem d_Mo_budget_20 : decode b_Mo_budget 20 = .ok (.aload_n 0, 1) := by decide +kernel
theorem d_Mo_budget_21 : decode b_Mo_budget 21 = .ok (.getfield 19, 3) := by decide +kernel
theorem d_Mo_budget_24 : decode b_Mo_budget 24 = .ok (.iload 4, 2) := by decide +kernel
theorem d_Mo_budget_26 : decode b_Mo_budget 26 = .ok (.ifCond .eq 7, 3) := by decide +kernel
theorem d_Mo_budget_29 : decode b_Mo_budget 29 = .ok (.iconst 0, 1) := by decide +kernel
theorem d_Mo_budget_30 : decode b_Mo_budget 30 = .ok (.goto 4, 3) := by decide +kernel
theorem d_Mo_budget_33 : decode b_Mo_budget 33 = .ok (.iload_n 1, 1) := by decide +kernel
theorem d_Mo_budget_34 : decode b_Mo_budget 34 = .ok (.baload, 1) := by decide +kernel
theorem d_Mo_budget_35 : decode b_Mo_budget 35 = .ok (.ifCond .ne 48, 3) := by decide +kernel
theorem d_Mo_budget_38 : decode b_Mo_budget 38 = .ok (.iload_n 3, 1) := by decide +kernel
theorem d_Mo_budget_39 : decode b_Mo_budget 39 = .ok (.aload_n 0, 1) := by decide +kernel
theorem d_Mo_budget_40 : decode b_Mo_budget 40 = .ok (.getfield 13, 3) := by decide +kernel
theorem d_Mo_budget_43 : decode b_Mo_budget 43 = .ok (.iload 4, 2) := by decide +kernel
theorem d_Mo_budget_45 : decode b_Mo_budget 45 = .ok (.ifCond .eq 7, 3) := by decide +kernel
theorem d_Mo_budget_48 : decode b_Mo_budget 48 = .ok (.iconst 0, 1) := by decide +kernel
theorem d_Mo_budget_49 : decode b_Mo_budget 49 = .ok (.goto 9, 3) := by decide +kernel
theorem d_Mo_budget_52 : decode b_Mo_budget 52 = .ok (.bipush 10, 2) := by decide +kernel
theorem d_Mo_budget_54 : decode b_Mo_budget 54 = .ok (.iload_n 1, 1) := by decide +kernel
theorem d_Mo_budget_55 : decode b_Mo_budget 55 = .ok (.imul, 1) := by decide +kernel
theorem d_Mo_budget_56 : decode b_Mo_budget 56 = .ok (.iload_n 2, 1) := by decide +kernel
theorem d_Mo_budget_57 : decode b_Mo_budget 57 = .ok (.iadd, 1) := by decide +kernel
theorem d_Mo_budget_58 : decode b_Mo_budget 58 = .ok (.iaload, 1) := by decide +kernel
theorem d_Mo_budget_59 : decode b_Mo_budget 59 = .ok (.aload_n 0, 1) := by decide +kernel
theorem d_Mo_budget_60 : decode b_Mo_budget 60 = .ok (.getfield 16, 3) := by decide +kernel
theorem d_Mo_budget_63 : decode b_Mo_budget 63 = .ok (.iload 4, 2) := by decide +kernel
theorem d_Mo_budget_65 : decode b_Mo_budget 65 = .ok (.ifCond .eq 7, 3) := by decide +kernel
theorem d_Mo_budget_68 : decode b_Mo_budget 68 = .ok (.iconst 0, 1) := by decide +kernel
theorem d_Mo_budget_69 : decode b_Mo_budget 69 = .ok (.goto 9, 3) := by decide +kernel
theorem d_Mo_budget_72 : decode b_Mo_budget 72 = .ok (.bipush 10, 2) := by decide +kernel
theorem d_Mo_budget_74 : decode b_Mo_budget 74 = .ok (.iload_n 1, 1) := by decide +kernel
theorem d_Mo_budget_75 : decode b_Mo_budget 75 = .ok (.imul, 1) := by decide +kernel
theorem d_Mo_budget_76 : decode b_Mo_budget 76 = .ok (.iload_n 2, 1) := by decide +kernel
theorem d_Mo_budget_77 : decode b_Mo_budget 77 = .ok (.iadd, 1) := by decide +kernel
theorem d_Mo_budget_78 : decode b_Mo_budget 78 = .ok (.iaload, 1) := by decide +kernel
theorem d_Mo_budget_79 : decode b_Mo_budget 79 = .ok (.iadd, 1) := by decide +kernel
theorem d_Mo_budget_80 : decode b_Mo_budget 80 = .ok (.if_icmp .ge 7, 3) := by decide +kernel
theorem d_Mo_budget_83 : decode b_Mo_budget 83 = .ok (.iconst 1, 1) := by decide +kernel
theorem d_Mo_budget_84 : decode b_Mo_budget 84 = .ok (.goto 4, 3) := by decide +kernel
theorem d_Mo_budget_87 : decode b_Mo_budget 87 = .ok (.iconst 0, 1) := by decide +kernel
theorem d_Mo_budget_88 : decode b_Mo_budget 88 = .ok (.istore 5, 2) := by decide +kernel
theorem d_Mo_budget_90 : decode b_Mo_budget 90 = .ok (.aload_n 0, 1) := by decide +kernel
theorem d_Mo_budget_91 : decode b_Mo_budget 91 = .ok (.iload 4, 2) := by decide +kernel
theorem d_Mo_budget_93 : decode b_Mo_budget 93 = .ok (.iload_n 3, 1) := by decide +kernel
theorem d_Mo_budget_94 : decode b_Mo_budget 94 = .ok (.invokestatic 97, 3) := by decide +kernel
theorem d_Mo_budget_97 : decode b_Mo_budget 97 = .ok (.ifCond .ne 7, 3) := by decide +kernel
theorem d_Mo_budget_100 : decode b_Mo_budget 100 = .ok (.iconst 1, 1) := by decide +kernel
theorem d_Mo_budget_101 : decode b_Mo_budget 101 = .ok (.goto 4, 3) := by decide +kernel
theorem d_Mo_budget_104 : decode b_Mo_budget 104 = .ok (.iconst 0, 1) := by decide +kernel
theorem d_Mo_budget_105 : decode b_Mo_budget 105 = .ok (.iload 5, 2) := by decide +kernel
theorem d_Mo_budget_107 : decode b_Mo_budget 107 = .ok (.iconst 0, 1) := by decide +kernel
theorem d_Mo_budget_108 : decode b_Mo_budget 108 = .ok (.invokevirtual 101, 3) := by decide +kernel
theorem d_Mo_budget_111 : decode b_Mo_budget 111 = .ok (.ifCond .eq 4, 3) := by decide +kernel
theorem d_Mo_budget_114 : decode b_Mo_budget 114 = .ok (.return_, 1) := by decide +kernel
theorem d_Mo_budget_115 : decode b_Mo_budget 115 = .ok (.aload_n 0, 1) := by decide +kernel
theorem d_Mo_budget_116 : decode b_Mo_budget 116 = .ok (.getfield 7, 3) := by decide +kernel
theorem d_Mo_budget_119 : decode b_Mo_budget 119 = .ok (.bipush 10, 2) := by decide +kernel
theorem d_Mo_budget_121 : decode b_Mo_budget 121 = .ok (.iload_n 1, 1) := by decide +kernel
theorem d_Mo_budget_122 : decode b_Mo_budget 122 = .ok (.imul, 1) := by decide +kernel
theorem d_Mo_budget_123 : decode b_Mo_budget 123 = .ok (.iload_n 2, 1) := by decide +kernel
theorem d_Mo_budget_124 : decode b_Mo_budget 124 = .ok (.iadd, 1) := by decide +kernel
theorem d_Mo_budget_125 : decode b_Mo_budget 125 = .ok (.iload_n 3, 1) := by decide +kernel
theorem d_Mo_budget_126 : decode b_Mo_budget 126 = .ok (.iastore, 1) := by decide +kernel
theorem d_Mo_budget_127 : decode b_Mo_budget 127 = .ok (.return_, 1) := by decide +kernel
theorem d_Mo_freeOf_0 : decode b_Mo_freeOf 0 = .ok (.aload_n 0, 1) := by decide +kernel
theorem d_Mo_freeOf_1 : decode b_Mo_freeOf 1 = .ok (.getfield 7, 3) := by decide +kernel
theorem d_Mo_freeOf_4 : decode b_Mo_freeOf 4 = .ok (.iload_n 1, 1) := by decide +kernel
theorem d_Mo_freeOf_5 : decode b_Mo_freeOf 5 = .ok (.iaload, 1) := by decide +kernel
theorem d_Mo_freeOf_6 : decode b_Mo_freeOf 6 = .ok (.aload_n 0, 1) := by decide +kernel
theorem d_Mo_freeOf_7 : decode b_Mo_freeOf 7 = .ok (.getfield 13, 3) := by decide +kernel
theorem d_Mo_freeOf_10 : decode b_Mo_freeOf 10 = .ok (.iload_n 1, 1) := by decide +kernel
theorem d_Mo_freeOf_11 : decode b_Mo_freeOf 11 = .ok (.iaload, 1) := by decide +kernel
theorem d_Mo_freeOf_12 : decode b_Mo_freeOf 12 = .ok (.isub, 1) := by decide +kernel
theorem d_Mo_freeOf_13 : decode b_Mo_freeOf 13 = .ok (.aload_n 0, 1) := by decide +kernel
theorem d_Mo_freeOf_14 : decode b_Mo_freeOf 14 = .ok (.getfield 16, 3) := by decide +kernel
theorem d_Mo_freeOf_17 : decode b_Mo_freeOf 17 = .ok (.iload_n 1, 1) := by decide +kernel
theorem d_Mo_freeOf_18 : decode b_Mo_freeOf 18 = .ok (.iaload, 1) := by decide +kernel
theorem d_Mo_freeOf_19 : decode b_Mo_freeOf 19 = .ok (.isub, 1) := by decide +kernel
theorem d_Mo_freeOf_20 : decode b_Mo_freeOf 20 = .ok (.ireturn, 1) := by decide +kernel
theorem d_Mo_budgetAt_0 : decode b_Mo_budgetAt 0 = .ok (.aload_n 0, 1) := by decide +kernel
theorem d_Mo_budgetAt_1 : decode b_Mo_budgetAt 1 = .ok (.iload_n 1, 1) := by decide +kernel
theorem d_Mo_budgetAt_2 : decode b_Mo_budgetAt 2 = .ok (.iload_n 2, 1) := by decide +kernel
theorem d_Mo_budgetAt_3 : decode b_Mo_budgetAt 3 = .ok (.invokestatic 93, 3) := by decide +kernel
theorem d_Mo_budgetAt_6 : decode b_Mo_budgetAt 6 = .ok (.ifCond .eq 12, 3) := by decide +kernel
theorem d_Mo_budgetAt_9 : decode b_Mo_budgetAt 9 = .ok (.iload_n 3, 1) := by decide +kernel
theorem d_Mo_budgetAt_10 : decode b_Mo_budgetAt 10 = .ok (.iconst 0, 1) := by decide +kernel
theorem d_Mo_budgetAt_11 : decode b_Mo_budgetAt 11 = .ok (.iconst 3, 1) := by decide +kernel
theorem d_Mo_budgetAt_12 : decode b_Mo_budgetAt 12 = .ok (.invokestatic 89, 3) := by decide +kernel
theorem d_Mo_budgetAt_15 : decode b_Mo_budgetAt 15 = .ok (.ifCond .ne 7, 3) := by decide +kernel
theorem d_Mo_budgetAt_18 : decode b_Mo_budgetAt 18 = .ok (.iconst 1, 1) := by decide +kernel
theorem d_Mo_budgetAt_19 : decode b_Mo_budgetAt 19 = .ok (.goto 4, 3) := by decide +kernel
theorem d_Mo_budgetAt_22 : decode b_Mo_budgetAt 22 = .ok (.iconst 0, 1) := by decide +kernel
theorem d_Mo_budgetAt_23 : decode b_Mo_budgetAt 23 = .ok (.iconst 0, 1) := by decide +kernel
theorem d_Mo_budgetAt_24 : decode b_Mo_budgetAt 24 = .ok (.iconst 0, 1) := by decide +kernel
theorem d_Mo_budgetAt_25 : decode b_Mo_budgetAt 25 = .ok (.iconst 0, 1) := by decide +kernel
theorem d_Mo_budgetAt_26 : decode b_Mo_budgetAt 26 = .ok (.invokevirtual 101, 3) := by decide +kernel
theorem d_Mo_budgetAt_29 : decode b_Mo_budgetAt 29 = .ok (.ifCond .eq 5, 3) := by decide +kernel
theorem d_Mo_budgetAt_32 : decode b_Mo_budgetAt 32 = .ok (.iconst 0, 1) := by decide +kernel
theorem d_Mo_budgetAt_33 : decode b_Mo_budgetAt 33 = .ok (.ireturn, 1) := by decide +kernel
theorem d_Mo_budgetAt_34 : decode b_Mo_budgetAt 34 = .ok (.bipush 10, 2) := by decide +kernel
theorem d_Mo_budgetAt_36 : decode b_Mo_budgetAt 36 = .ok (.iload_n 1, 1) := by decide +kernel
theorem d_Mo_budgetAt_37 : decode b_Mo_budgetAt 37 = .ok (.imul, 1) := by decide +kernel
theorem d_Mo_budgetAt_38 : decode b_Mo_budgetAt 38 = .ok (.iload_n 2, 1) := by decide +kernel
theorem d_Mo_budgetAt_39 : decode b_Mo_budgetAt 39 = .ok (.iadd, 1) := by decide +kernel
theorem d_Mo_budgetAt_40 : decode b_Mo_budgetAt 40 = .ok (.istore 4, 2) := by decide +kernel
theorem d_Mo_budgetAt_42 : decode b_Mo_budgetAt 42 = .ok (.iload_n 3, 1) := by decide +kernel
theorem d_Mo_budgetAt_43 : decode b_Mo_budgetAt 43 = .ok (.ifCond .ne 13, 3) := by decide +kernel
theorem d_Mo_budgetAt_46 : decode b_Mo_budgetAt 46 = .ok (.aload_n 0, 1) := by decide +kernel
theorem d_Mo_budgetAt_47 : decode b_Mo_budgetAt 47 = .ok (.getfield 7, 3) := by decide +kernel
theorem d_Mo_budgetAt_50 : decode b_Mo_budgetAt 50 = .ok (.iload 4, 2) := by decide +kernel
theorem d_Mo_budgetAt_52 : decode b_Mo_budgetAt 52 = .ok (.iaload, 1) := by decide +kernel
theorem d_Mo_budgetAt_53 : decode b_Mo_budgetAt 53 = .ok (.goto 39, 3) := by decide +kernel
theorem d_Mo_budgetAt_56 : decode b_Mo_budgetAt 56 = .ok (.iload_n 3, 1) := by decide +kernel
theorem d_Mo_budgetAt_57 : decode b_Mo_budgetAt 57 = .ok (.iconst 1, 1) := by decide +kernel
theorem d_Mo_budgetAt_58 : decode b_Mo_budgetAt 58 = .ok (.if_icmp .ne 13, 3) := by decide +kernel
theorem d_Mo_budgetAt_61 : decode b_Mo_budgetAt 61 = .ok (.aload_n 0, 1) := by decide +kernel
theorem d_Mo_budgetAt_62 : decode b_Mo_budgetAt 62 = .ok (.getfield 13, 3) := by decide +kernel
theorem d_Mo_budgetAt_65 : decode b_Mo_budgetAt 65 = .ok (.iload 4, 2) := by decide +kernel
theorem d_Mo_budgetAt_67 : decode b_Mo_budgetAt 67 = .ok (.iaload, 1) := by decide +kernel
theorem d_Mo_budgetAt_68 : decode b_Mo_budgetAt 68 = .ok (.goto 24, 3) := by decide +kernel
theorem d_Mo_budgetAt_71 : decode b_Mo_budgetAt 71 = .ok (.iload_n 3, 1) := by decide +kernel
theorem d_Mo_budgetAt_72 : decode b_Mo_budgetAt 72 = .ok (.iconst 2, 1) := by decide +kernel
theorem d_Mo_budgetAt_73 : decode b_Mo_budgetAt 73 = .ok (.if_icmp .ne 13, 3) := by decide +kernel
theorem d_Mo_budgetAt_76 : decode b_Mo_budgetAt 76 = .ok (.aload_n 0, 1) := by decide +kernel
theorem d_Mo_budgetAt_77 : decode b_Mo_budgetAt 77 = .ok (.getfield 16, 3) := by decide +kernel
theorem d_Mo_budgetAt_80 : decode b_Mo_budgetAt 80 = .ok (.iload 4, 2) := by decide +kernel
theorem d_Mo_budgetAt_82 : decode b_Mo_budgetAt 82 = .ok (.iaload, 1) := by decide +kernel
theorem d_Mo_budgetAt_83 : decode b_Mo_budgetAt 83 = .ok (.goto 9, 3) := by decide +kernel
theorem d_Mo_budgetAt_86 : decode b_Mo_budgetAt 86 = .ok (.aload_n 0, 1) := by decide +kernel
theorem d_Mo_budgetAt_87 : decode b_Mo_budgetAt 87 = .ok (.iload 4, 2) := by decide +kernel
theorem d_Mo_budgetAt_89 : decode b_Mo_budgetAt 89 = .ok (.invokevirtual 105, 3) := by decide +kernel
theorem d_Mo_budgetAt_92 : decode b_Mo_budgetAt 92 = .ok (.ireturn, 1) := by decide +kernel
theorem d_Mo_band_0 : decode b_Mo_band 0 = .ok (.aload_n 0, 1) := by decide +kernel
theorem d_Mo_band_1 : decode b_Mo_band 1 = .ok (.iload_n 1, 1) := by decide +kernel
theorem d_Mo_band_2 : decode b_Mo_band 2 = .ok (.iconst 0, 1) := by decide +kernel
theorem d_Mo_band_3 : decode b_Mo_band 3 = .ok (.sipush 1000, 3) := by decide +kernel
theorem d_Mo_band_6 : decode b_Mo_band 6 = .ok (.invokestatic 89, 3) := by decide +kernel
theorem d_Mo_band_9 : decode b_Mo_band 9 = .ok (.ifCond .ne 7, 3) := by decide +kernel
theorem d_Mo_band_12 : decode b_Mo_band 12 = .ok (.iconst 1, 1) := by decide +kernel
theorem d_Mo_band_13 : decode b_Mo_band 13 = .ok (.goto 4, 3) := by decide +kernel
theorem d_Mo_band_16 : decode b_Mo_band 16 = .ok (.iconst 0, 1) := by decide +kernel
theorem d_Mo_band_17 : decode b_Mo_band 17 = .ok (.iconst 0, 1) := by decide +kernel
theorem d_Mo_band_18 : decode b_Mo_band 18 = .ok (.iconst 0, 1) := by decide +kernel
theorem d_Mo_band_19 : decode b_Mo_band 19 = .ok (.iconst 0, 1) := by decide +kernel
theorem d_Mo_band_20 : decode b_Mo_band 20 = .ok (.invokevirtual 101, 3) := by decide +kernel
theorem d_Mo_band_23 : decode b_Mo_band 23 = .ok (.ifCond .eq 4, 3) := by decide +kernel
theorem d_Mo_band_26 : decode b_Mo_band 26 = .ok (.return_, 1) := by decide +kernel
theorem d_Mo_band_27 : decode b_Mo_band 27 = .ok (.aload_n 0, 1) := by decide +kernel
theorem d_Mo_band_28 : decode b_Mo_band 28 = .ok (.iload_n 1, 1) := by decide +kernel
theorem d_Mo_band_29 : decode b_Mo_band 29 = .ok (.putfield 23, 3) := by decide +kernel
theorem d_Mo_band_32 : decode b_Mo_band 32 = .ok (.return_, 1) := by decide +kernel
theorem d_Mo_order_0 : decode b_Mo_order 0 = .ok (.iload_n 1, 1) := by decide +kernel
theorem d_Mo_order_1 : decode b_Mo_order 1 = .ok (.iload_n 2, 1) := by decide +kernel
theorem d_Mo_order_2 : decode b_Mo_order 2 = .ok (.invokestatic 93, 3) := by decide +kernel
theorem d_Mo_order_5 : decode b_Mo_order 5 = .ok (.ifCond .ne 7, 3) := by decide +kernel
theorem d_Mo_order_8 : decode b_Mo_order 8 = .ok (.iconst 1, 1) := by decide +kernel
theorem d_Mo_order_9 : decode b_Mo_order 9 = .ok (.goto 4, 3) := by decide +kernel
theorem d_Mo_order_12 : decode b_Mo_order 12 = .ok (.iconst 0, 1) := by decide +kernel
theorem d_Mo_order_13 : decode b_Mo_order 13 = .ok (.istore 4, 2) := by decide +kernel
theorem d_Mo_order_15 : decode b_Mo_order 15 = .ok (.iload 4, 2) := by decide +kernel
theorem d_Mo_order_17 : decode b_Mo_order 17 = .ok (.ifCond .ne 48, 3) := by decide +kernel
theorem d_Mo_order_20 : decode b_Mo_order 20 = .ok (.aload_n 0, 1) := by decide +kernel
theorem d_Mo_order_21 : decode b_Mo_order 21 = .ok (.getfield 19, 3) := by decide +kernel
theorem d_Mo_order_24 : decode b_Mo_order 24 = .ok (.iload 4, 2) := by decide +kernel
theorem d_Mo_order_26 : decode b_Mo_order 26 = .ok (.ifCond .eq 7, 3) := by decide +kernel
theorem d_Mo_order_29 : decode b_Mo_order 29 = .ok (.iconst 0, 1) := by decide +kernel
theorem d_Mo_order_30 : decode b_Mo_order 30 = .ok (.goto 4, 3) := by decide +kernel
theorem d_Mo_order_33 : decode b_Mo_order 33 = .ok (.iload_n 1, 1) := by decide +kernel
theorem d_Mo_order_34 : decode b_Mo_order 34 = .ok (.baload, 1) := by decide +kernel
theorem d_Mo_order_35 : decode b_Mo_order 35 = .ok (.ifCond .ne 26, 3) := by decide +kernel
theorem d_Mo_order_38 : decode b_Mo_order 38 = .ok (.iload_n 3, 1) := by decide +kernel
theorem d_Mo_order_39 : decode b_Mo_order 39 = .ok (.aload_n 0, 1) := by decide +kernel
theorem d_Mo_order_40 : decode b_Mo_order 40 = .ok (.iload 4, 2) := by decide +kernel
theorem d_Mo_order_42 : decode b_Mo_order 42 = .ok (.ifCond .eq 7, 3) := by decide +kernel
theorem d_Mo_order_45 : decode b_Mo_order 45 = .ok (.iconst 0, 1) := by decide +kernel
theorem d_Mo_order_46 : decode b_Mo_order 46 = .ok (.goto 9, 3) := by decide +kernel
theorem d_Mo_order_49 : decode b_Mo_order 49 = .ok (.bipush 10, 2) := by decide +kernel
theorem d_Mo_order_51 : decode b_Mo_order 51 = .ok (.iload_n 1, 1) := by decide +kernel
theorem d_Mo_order_52 : decode b_Mo_order 52 = .ok (.imul, 1) := by decide +kernel
theorem d_Mo_order_53 : decode b_Mo_order 53 = .ok (.iload_n 2, 1) := by decide +kernel
theorem d_Mo_order_54 : decode b_Mo_order 54 = .ok (.iadd, 1) := by decide +kernel
theorem d_Mo_order_55 : decode b_Mo_order 55 = .ok (.invokevirtual 105, 3) := by decide +kernel
theorem d_Mo_order_58 : decode b_Mo_order 58 = .ok (.if_icmp .le 7, 3) := by decide +kernel
theorem d_Mo_order_61 : decode b_Mo_order 61 = .ok (.iconst 1, 1) := by decide +kernel
theorem d_Mo_order_62 : decode b_Mo_order 62 = .ok (.goto 4, 3) := by decide +kernel
theorem d_Mo_order_65 : decode b_Mo_order 65 = .ok (.iconst 0, 1) := by decide +kernel
theorem d_Mo_order_66 : decode b_Mo_order 66 = .ok (.istore 5, 2) := by decide +kernel
theorem d_Mo_order_68 : decode b_Mo_order 68 = .ok (.aload_n 0, 1) := by decide +kernel
theorem d_Mo_order_69 : decode b_Mo_order 69 = .ok (.iload 4, 2) := by decide +kernel
theorem d_Mo_order_71 : decode b_Mo_order 71 = .ok (.iload_n 3, 1) := by decide +kernel
theorem d_Mo_order_72 : decode b_Mo_order 72 = .ok (.invokestatic 97, 3) := by decide +kernel
theorem d_Mo_order_75 : decode b_Mo_order 75 = .ok (.ifCond .ne 7, 3) := by decide +kernel
theorem d_Mo_order_78 : decode b_Mo_order 78 = .ok (.iconst 1, 1) := by decide +kernel
theorem d_Mo_order_79 : decode b_Mo_order 79 = .ok (.goto 4, 3) := by decide +kernel
theorem d_Mo_order_82 : decode b_Mo_order 82 = .ok (.iconst 0, 1) := by decide +kernel
theorem d_Mo_order_83 : decode b_Mo_order 83 = .ok (.iload 5, 2) := by decide +kernel
theorem d_Mo_order_85 : decode b_Mo_order 85 = .ok (.aload_n 0, 1) := by decide +kernel
theorem d_Mo_order_86 : decode b_Mo_order 86 = .ok (.getfield 109, 3) := by decide +kernel
theorem d_Mo_order_89 : decode b_Mo_order 89 = .ok (.bipush 60, 2) := by decide +kernel
theorem d_Mo_order_91 : decode b_Mo_order 91 = .ok (.if_icmp .ne 7, 3) := by decide +kernel
theorem d_Mo_order_94 : decode b_Mo_order 94 = .ok (.iconst 1, 1) := by decide +kernel
theorem d_Mo_order_95 : decode b_Mo_order 95 = .ok (.goto 4, 3) := by decide +kernel
theorem d_Mo_order_98 : decode b_Mo_order 98 = .ok (.iconst 0, 1) := by decide +kernel
theorem d_Mo_order_99 : decode b_Mo_order 99 = .ok (.invokevirtual 101, 3) := by decide +kernel
theorem d_Mo_order_102 : decode b_Mo_order 102 = .ok (.ifCond .eq 5, 3) := by decide +kernel
theorem d_Mo_order_105 : decode b_Mo_order 105 = .ok (.iconst 0, 1) := by decide +kernel
theorem d_Mo_order_106 : decode b_Mo_order 106 = .ok (.ireturn, 1) := by decide +kernel
theorem d_Mo_order_107 : decode b_Mo_order 107 = .ok (.aload_n 0, 1) := by decide +kernel
theorem d_Mo_order_108 : decode b_Mo_order 108 = .ok (.getfield 27, 3) := by decide +kernel
theorem d_Mo_order_111 : decode b_Mo_order 111 = .ok (.aload_n 0, 1) := by decide +kernel
theorem d_Mo_order_112 : decode b_Mo_order 112 = .ok (.getfield 109, 3) := by decide +kernel
theorem d_Mo_order_115 : decode b_Mo_order 115 = .ok (.bipush 10, 2) := by decide +kernel
theorem d_Mo_order_117 : decode b_Mo_order 117 = .ok (.iload_n 1, 1) := by decide +kernel
theorem d_Mo_order_118 : decode b_Mo_order 118 = .ok (.imul, 1) := by decide +kernel
theorem d_Mo_order_119 : decode b_Mo_order 119 = .ok (.iload_n 2, 1) := by decide +kernel
theorem d_Mo_order_120 : decode b_Mo_order 120 = .ok (.iadd, 1) := by decide +kernel
theorem d_Mo_order_121 : decode b_Mo_order 121 = .ok (.iastore, 1) := by decide +kernel
theorem d_Mo_order_122 : decode b_Mo_order 122 = .ok (.aload_n 0, 1) := by decide +kernel
theorem d_Mo_order_123 : decode b_Mo_order 123 = .ok (.getfield 30, 3) := by decide +kernel
theorem d_Mo_order_126 : decode b_Mo_order 126 = .ok (.aload_n 0, 1) := by decide +kernel
theorem d_Mo_order_127 : decode b_Mo_order 127 = .ok (.getfield 109, 3) := by decide +kernel
theorem d_Mo_order_130 : decode b_Mo_order 130 = .ok (.iload_n 3, 1) := by decide +kernel
theorem d_Mo_order_131 : decode b_Mo_order 131 = .ok (.iastore, 1) := by decide +kernel
theorem d_Mo_order_132 : decode b_Mo_order 132 = .ok (.aload_n 0, 1) := by decide +kernel
theorem d_Mo_order_133 : decode b_Mo_order 133 = .ok (.getfield 33, 3) := by decide +kernel
theorem d_Mo_order_136 : decode b_Mo_order 136 = .ok (.aload_n 0, 1) := by decide +kernel
theorem d_Mo_order_137 : decode b_Mo_order 137 = .ok (.getfield 109, 3) := by decide +kernel
theorem d_Mo_order_140 : decode b_Mo_order 140 = .ok (.iconst 0, 1) := by decide +kernel
theorem d_Mo_order_141 : decode b_Mo_order 141 = .ok (.iastore, 1) := by decide +kernel
theorem d_Mo_order_142 : decode b_Mo_order 142 = .ok (.aload_n 0, 1) := by decide +kernel
theorem d_Mo_order_143 : decode b_Mo_order 143 = .ok (.getfield 13, 3) := by decide +kernel
theorem d_Mo_order_146 : decode b_Mo_order 146 = .ok (.bipush 10, 2) := by decide +kernel
theorem d_Mo_order_148 : decode b_Mo_order 148 = .ok (.iload_n 1, 1) := by decide +kernel
theorem d_Mo_order_149 : decode b_Mo_order 149 = .ok (.imul, 1) := by decide +kernel
theorem d_Mo_order_150 : decode b_Mo_order 150 = .ok (.iload_n 2, 1) := by decide +kernel
theorem d_Mo_order_151 : decode b_Mo_order 151 = .ok (.iadd, 1) := by decide +kernel
theorem d_Mo_order_152 : decode b_Mo_order 152 = .ok (.dup2, 1) := by decide +kernel
theorem d_Mo_order_153 : decode b_Mo_order 153 = .ok (.iaload, 1) := by decide +kernel
theorem d_Mo_order_154 : decode b_Mo_order 154 = .ok (.iload_n 3, 1) := by decide +kernel
theorem d_Mo_order_155 : decode b_Mo_order 155 = .ok (.iadd, 1) := by decide +kernel
theorem d_Mo_order_156 : decode b_Mo_order 156 = .ok (.iastore, 1) := by decide +kernel
theorem d_Mo_order_157 : decode b_Mo_order 157 = .ok (.aload_n 0, 1) := by decide +kernel
theorem d_Mo_order_158 : decode b_Mo_order 158 = .ok (.dup, 1) := by decide +kernel
theorem d_Mo_order_159 : decode b_Mo_order 159 = .ok (.getfield 109, 3) := by decide +kernel
theorem d_Mo_order_162 : decode b_Mo_order 162 = .ok (.iconst 1, 1) := by decide +kernel
theorem d_Mo_order_163 : decode b_Mo_order 163 = .ok (.iadd, 1) := by decide +kernel
theorem d_Mo_order_164 : decode b_Mo_order 164 = .ok (.putfield 109, 3) := by decide +kernel
theorem d_Mo_order_167 : decode b_Mo_order 167 = .ok (.aload_n 0, 1) := by decide +kernel
theorem d_Mo_order_168 : decode b_Mo_order 168 = .ok (.getfield 109, 3) := by decide +kernel
theorem d_Mo_order_171 : decode b_Mo_order 171 = .ok (.iconst 1, 1) := by decide +kernel
theorem d_Mo_order_172 : decode b_Mo_order 172 = .ok (.isub, 1) := by decide +kernel
theorem d_Mo_order_173 : decode b_Mo_order 173 = .ok (.ireturn, 1) := by decide +kernel
theorem d_Mo_invoice_0 : decode b_Mo_invoice 0 = .ok (.iload_n 1, 1) := by decide +kernel
theorem d_Mo_invoice_1 : decode b_Mo_invoice 1 = .ok (.iconst 0, 1) := by decide +kernel
theorem d_Mo_invoice_2 : decode b_Mo_invoice 2 = .ok (.aload_n 0, 1) := by decide +kernel
theorem d_Mo_invoice_3 : decode b_Mo_invoice 3 = .ok (.getfield 109, 3) := by decide +kernel
theorem d_Mo_invoice_6 : decode b_Mo_invoice 6 = .ok (.iconst 1, 1) := by decide +kernel
theorem d_Mo_invoice_7 : decode b_Mo_invoice 7 = .ok (.isub, 1) := by decide +kernel
theorem d_Mo_invoice_8 : decode b_Mo_invoice 8 = .ok (.invokestatic 89, 3) := by decide +kernel
theorem d_Mo_invoice_11 : decode b_Mo_invoice 11 = .ok (.ifCond .ne 7, 3) := by decide +kernel
theorem d_Mo_invoice_14 : decode b_Mo_invoice 14 = .ok (.iconst 1, 1) := by decide +kernel
theorem d_Mo_invoice_15 : decode b_Mo_invoice 15 = .ok (.goto 4, 3) := by decide +kernel
theorem d_Mo_invoice_18 : decode b_Mo_invoice 18 = .ok (.iconst 0, 1) := by decide +kernel
theorem d_Mo_invoice_19 : decode b_Mo_invoice 19 = .ok (.istore_n 3, 1) := by decide +kernel
theorem d_Mo_invoice_20 : decode b_Mo_invoice 20 = .ok (.iconst 0, 1) := by decide +kernel
theorem d_Mo_invoice_21 : decode b_Mo_invoice 21 = .ok (.istore 4, 2) := by decide +kernel
theorem d_Mo_invoice_23 : decode b_Mo_invoice 23 = .ok (.iload_n 3, 1) := by decide +kernel
theorem d_Mo_invoice_24 : decode b_Mo_invoice 24 = .ok (.ifCond .ne 89, 3) := by decide +kernel
theorem d_Mo_invoice_27 : decode b_Mo_invoice 27 = .ok (.iload_n 2, 1) := by decide +kernel
theorem d_Mo_invoice_28 : decode b_Mo_invoice 28 = .ok (.invokestatic 97, 3) := by decide +kernel
theorem d_Mo_invoice_31 : decode b_Mo_invoice 31 = .ok (.ifCond .eq 82, 3) := by decide +kernel
theorem d_Mo_invoice_34 : decode b_Mo_invoice 34 = .ok (.aload_n 0, 1) := by decide +kernel
theorem d_Mo_invoice_35 : decode b_Mo_invoice 35 = .ok (.getfield 30, 3) := by decide +kernel
theorem d_Mo_invoice_38 : decode b_Mo_invoice 38 = .ok (.iload_n 1, 1) := by decide +kernel
theorem d_Mo_invoice_39 : decode b_Mo_invoice 39 = .ok (.iaload, 1) := by decide +kernel
theorem d_Mo_invoice_40 : decode b_Mo_invoice 40 = .ok (.i2l, 1) := by decide +kernel
theorem d_Mo_invoice_41 : decode b_Mo_invoice 41 = .ok (.aload_n 0, 1) := by decide +kernel
theorem d_Mo_invoice_42 : decode b_Mo_invoice 42 = .ok (.getfield 23, 3) := by decide +kernel
theorem d_Mo_invoice_45 : decode b_Mo_invoice 45 = .ok (.i2l, 1) := by decide +kernel
theorem d_Mo_invoice_46 : decode b_Mo_invoice 46 = .ok (.lmul, 1) := by decide +kernel
theorem d_Mo_invoice_47 : decode b_Mo_invoice 47 = .ok (.ldc2_w 112, 3) := by decide +kernel
theorem d_Mo_invoice_50 : decode b_Mo_invoice 50 = .ok (.ldiv, 1) := by decide +kernel
theorem d_Mo_invoice_51 : decode b_Mo_invoice 51 = .ok (.lstore 5, 2) := by decide +kernel
theorem d_Mo_invoice_53 : decode b_Mo_invoice 53 = .ok (.iload_n 2, 1) := by decide +kernel
theorem d_Mo_invoice_54 : decode b_Mo_invoice 54 = .ok (.aload_n 0, 1) := by decide +kernel
theorem d_Mo_invoice_55 : decode b_Mo_invoice 55 = .ok (.getfield 30, 3) := by decide +kernel
theorem d_Mo_invoice_58 : decode b_Mo_invoice 58 = .ok (.iload_n 1, 1) := by decide +kernel
theorem d_Mo_invoice_59 : decode b_Mo_invoice 59 = .ok (.iaload, 1) := by decide +kernel
theorem d_Mo_invoice_60 : decode b_Mo_invoice 60 = .ok (.isub, 1) := by decide +kernel
theorem d_Mo_invoice_61 : decode b_Mo_invoice 61 = .ok (.istore 7, 2) := by decide +kernel
theorem d_Mo_invoice_63 : decode b_Mo_invoice 63 = .ok (.aload_n 0, 1) := by decide +kernel
theorem d_Mo_invoice_64 : decode b_Mo_invoice 64 = .ok (.getfield 33, 3) := by decide +kernel
theorem d_Mo_invoice_67 : decode b_Mo_invoice 67 = .ok (.iload_n 1, 1) := by decide +kernel
theorem d_Mo_invoice_68 : decode b_Mo_invoice 68 = .ok (.iaload, 1) := by decide +kernel
theorem d_Mo_invoice_69 : decode b_Mo_invoice 69 = .ok (.ifCond .ne 37, 3) := by decide +kernel
theorem d_Mo_invoice_72 : decode b_Mo_invoice 72 = .ok (.iload 7, 2) := by decide +kernel
theorem d_Mo_invoice_74 : decode b_Mo_invoice 74 = .ok (.i2l, 1) := by decide +kernel
theorem d_Mo_invoice_75 : decode b_Mo_invoice 75 = .ok (.lload 5, 2) := by decide +kernel
theorem d_Mo_invoice_77 : decode b_Mo_invoice 77 = .ok (.lcmp, 1) := by decide +kernel
theorem d_Mo_invoice_78 : decode b_Mo_invoice 78 = .ok (.ifCond .gt 28, 3) := by decide +kernel
theorem d_Mo_invoice_81 : decode b_Mo_invoice 81 = .ok (.iload 7, 2) := by decide +kernel
theorem d_Mo_invoice_83 : decode b_Mo_invoice 83 = .ok (.ineg, 1) := by decide +kernel
theorem d_Mo_invoice_84 : decode b_Mo_invoice 84 = .ok (.i2l, 1) := by decide +kernel
theorem d_Mo_invoice_85 : decode b_Mo_invoice 85 = .ok (.lload 5, 2) := by decide +kernel
theorem d_Mo_invoice_87 : decode b_Mo_invoice 87 = .ok (.lcmp, 1) := by decide +kernel
theorem d_Mo_invoice_88 : decode b_Mo_invoice 88 = .ok (.ifCond .gt 18, 3) := by decide +kernel
theorem d_Mo_invoice_91 : decode b_Mo_invoice 91 = .ok (.iload 7, 2) := by decide +kernel
theorem d_Mo_invoice_93 : decode b_Mo_invoice 93 = .ok (.aload_n 0, 1) := by decide +kernel
theorem d_Mo_invoice_94 : decode b_Mo_invoice 94 = .ok (.aload_n 0, 1) := by decide +kernel
theorem d_Mo_invoice_95 : decode b_Mo_invoice 95 = .ok (.getfield 27, 3) := by decide +kernel
theorem d_Mo_invoice_98 : decode b_Mo_invoice 98 = .ok (.iload_n 1, 1) := by decide +kernel
theorem d_Mo_invoice_99 : decode b_Mo_invoice 99 = .ok (.iaload, 1) := by decide +kernel
theorem d_Mo_invoice_100 : decode b_Mo_invoice 100 = .ok (.invokevirtual 105, 3) := by decide +kernel
theorem d_Mo_invoice_103 : decode b_Mo_invoice 103 = .ok (.if_icmp .le 7, 3) := by decide +kernel
theorem d_Mo_invoice_106 : decode b_Mo_invoice 106 = .ok (.iconst 1, 1) := by decide +kernel
theorem d_Mo_invoice_107 : decode b_Mo_invoice 107 = .ok (.goto 4, 3) := by decide +kernel
theorem d_Mo_invoice_110 : decode b_Mo_invoice 110 = .ok (.iconst 0, 1) := by decide +kernel
theorem d_Mo_invoice_111 : decode b_Mo_invoice 111 = .ok (.istore 4, 2) := by decide +kernel
theorem d_Mo_invoice_113 : decode b_Mo_invoice 113 = .ok (.aload_n 0, 1) := by decide +kernel
theorem d_Mo_invoice_114 : decode b_Mo_invoice 114 = .ok (.iload_n 3, 1) := by decide +kernel
theorem d_Mo_invoice_115 : decode b_Mo_invoice 115 = .ok (.iload_n 2, 1) := by decide +kernel
theorem d_Mo_invoice_116 : decode b_Mo_invoice 116 = .ok (.invokestatic 97, 3) := by decide +kernel
theorem d_Mo_invoice_119 : decode b_Mo_invoice 119 = .ok (.ifCond .ne 7, 3) := by decide +kernel
theorem d_Mo_invoice_122 : decode b_Mo_invoice 122 = .ok (.iconst 1, 1) := by decide +kernel
theorem d_Mo_invoice_123 : decode b_Mo_invoice 123 = .ok (.goto 4, 3) := by decide +kernel
theorem d_Mo_invoice_126 : decode b_Mo_invoice 126 = .ok (.iconst 0, 1) := by decide +kernel
theorem d_Mo_invoice_127 : decode b_Mo_invoice 127 = .ok (.iload 4, 2) := by decide +kernel
theorem d_Mo_invoice_129 : decode b_Mo_invoice 129 = .ok (.iconst 0, 1) := by decide +kernel
theorem d_Mo_invoice_130 : decode b_Mo_invoice 130 = .ok (.invokevirtual 101, 3) := by decide +kernel
theorem d_Mo_invoice_133 : decode b_Mo_invoice 133 = .ok (.ifCond .eq 4, 3) := by decide +kernel
theorem d_Mo_invoice_136 : decode b_Mo_invoice 136 = .ok (.return_, 1) := by decide +kernel
theorem d_Mo_invoice_137 : decode b_Mo_invoice 137 = .ok (.aload_n 0, 1) := by decide +kernel
theorem d_Mo_invoice_138 : decode b_Mo_invoice 138 = .ok (.getfield 33, 3) := by decide +kernel
theorem d_Mo_invoice_141 : decode b_Mo_invoice 141 = .ok (.iload_n 1, 1) := by decide +kernel
theorem d_Mo_invoice_142 : decode b_Mo_invoice 142 = .ok (.iconst 1, 1) := by decide +kernel
theorem d_Mo_invoice_143 : decode b_Mo_invoice 143 = .ok (.iastore, 1) := by decide +kernel
theorem d_Mo_invoice_144 : decode b_Mo_invoice 144 = .ok (.aload_n 0, 1) := by decide +kernel
theorem d_Mo_invoice_145 : decode b_Mo_invoice 145 = .ok (.getfield 13, 3) := by decide +kernel
theorem d_Mo_invoice_148 : decode b_Mo_invoice 148 = .ok (.aload_n 0, 1) := by decide +kernel
theorem d_Mo_invoice_149 : decode b_Mo_invoice 149 = .ok (.getfield 27, 3) := by decide +kernel
theorem d_Mo_invoice_152 : decode b_Mo_invoice 152 = .ok (.iload_n 1, 1) := by decide +kernel
theorem d_Mo_invoice_153 : decode b_Mo_invoice 153 = .ok (.iaload, 1) := by decide +kernel
theorem d_Mo_invoice_154 : decode b_Mo_invoice 154 = .ok (.dup2, 1) := by decide +kernel
theorem d_Mo_invoice_155 : decode b_Mo_invoice 155 = .ok (.iaload, 1) := by decide +kernel
theorem d_Mo_invoice_156 : decode b_Mo_invoice 156 = .ok (.aload_n 0, 1) := by decide +kernel
theorem d_Mo_invoice_157 : decode b_Mo_invoice 157 = .ok (.getfield 30, 3) := by decide +kernel
theorem d_Mo_invoice_160 : decode b_Mo_invoice 160 = .ok (.iload_n 1, 1) := by decide +kernel
theorem d_Mo_invoice_161 : decode b_Mo_invoice 161 = .ok (.iaload, 1) := by decide +kernel
theorem d_Mo_invoice_162 : decode b_Mo_invoice 162 = .ok (.isub, 1) := by decide +kernel
theorem d_Mo_invoice_163 : decode b_Mo_invoice 163 = .ok (.iastore, 1) := by decide +kernel
theorem d_Mo_invoice_164 : decode b_Mo_invoice 164 = .ok (.aload_n 0, 1) := by decide +kernel
theorem d_Mo_invoice_165 : decode b_Mo_invoice 165 = .ok (.getfield 16, 3) := by decide +kernel
theorem d_Mo_invoice_168 : decode b_Mo_invoice 168 = .ok (.aload_n 0, 1) := by decide +kernel
theorem d_Mo_invoice_169 : decode b_Mo_invoice 169 = .ok (.getfield 27, 3) := by decide +kernel
theorem d_Mo_invoice_172 : decode b_Mo_invoice 172 = .ok (.iload_n 1, 1) := by decide +kernel
theorem d_Mo_invoice_173 : decode b_Mo_invoice 173 = .ok (.iaload, 1) := by decide +kernel
theorem d_Mo_invoice_174 : decode b_Mo_invoice 174 = .ok (.dup2, 1) := by decide +kernel
theorem d_Mo_invoice_175 : decode b_Mo_invoice 175 = .ok (.iaload, 1) := by decide +kernel
theorem d_Mo_invoice_176 : decode b_Mo_invoice 176 = .ok (.iload_n 2, 1) := by decide +kernel
theorem d_Mo_invoice_177 : decode b_Mo_invoice 177 = .ok (.iadd, 1) := by decide +kernel
theorem d_Mo_invoice_178 : decode b_Mo_invoice 178 = .ok (.iastore, 1) := by decide +kernel
theorem d_Mo_invoice_179 : decode b_Mo_invoice 179 = .ok (.return_, 1) := by decide +kernel
theorem d_Mo_cancel_0 : decode b_Mo_cancel 0 = .ok (.iload_n 1, 1) := by decide +kernel
theorem d_Mo_cancel_1 : decode b_Mo_cancel 1 = .ok (.iconst 0, 1) := by decide +kernel
theorem d_Mo_cancel_2 : decode b_Mo_cancel 2 = .ok (.aload_n 0, 1) := by decide +kernel
theorem d_Mo_cancel_3 : decode b_Mo_cancel 3 = .ok (.getfield 109, 3) := by decide +kernel
theorem d_Mo_cancel_6 : decode b_Mo_cancel 6 = .ok (.iconst 1, 1) := by decide +kernel
theorem d_Mo_cancel_7 : decode b_Mo_cancel 7 = .ok (.isub, 1) := by decide +kernel
theorem d_Mo_cancel_8 : decode b_Mo_cancel 8 = .ok (.invokestatic 89, 3) := by decide +kernel
theorem d_Mo_cancel_11 : decode b_Mo_cancel 11 = .ok (.ifCond .ne 7, 3) := by decide +kernel
theorem d_Mo_cancel_14 : decode b_Mo_cancel 14 = .ok (.iconst 1, 1) := by decide +kernel
theorem d_Mo_cancel_15 : decode b_Mo_cancel 15 = .ok (.goto 4, 3) := by decide +kernel
theorem d_Mo_cancel_18 : decode b_Mo_cancel 18 = .ok (.iconst 0, 1) := by decide +kernel
theorem d_Mo_cancel_19 : decode b_Mo_cancel 19 = .ok (.istore_n 2, 1) := by decide +kernel
theorem d_Mo_cancel_20 : decode b_Mo_cancel 20 = .ok (.aload_n 0, 1) := by decide +kernel
theorem d_Mo_cancel_21 : decode b_Mo_cancel 21 = .ok (.iload_n 2, 1) := by decide +kernel
theorem d_Mo_cancel_22 : decode b_Mo_cancel 22 = .ok (.iload_n 2, 1) := by decide +kernel
theorem d_Mo_cancel_23 : decode b_Mo_cancel 23 = .ok (.ifCond .ne 24, 3) := by decide +kernel
theorem d_Mo_cancel_26 : decode b_Mo_cancel 26 = .ok (.aload_n 0, 1) := by decide +kernel
theorem d_Mo_cancel_27 : decode b_Mo_cancel 27 = .ok (.getfield 33, 3) := by decide +kernel
theorem d_Mo_cancel_30 : decode b_Mo_cancel 30 = .ok (.iload_n 2, 1) := by decide +kernel
theorem d_Mo_cancel_31 : decode b_Mo_cancel 31 = .ok (.ifCond .eq 7, 3) := by decide +kernel
theorem d_Mo_cancel_34 : decode b_Mo_cancel 34 = .ok (.iconst 0, 1) := by decide +kernel
theorem d_Mo_cancel_35 : decode b_Mo_cancel 35 = .ok (.goto 4, 3) := by decide +kernel
theorem d_Mo_cancel_38 : decode b_Mo_cancel 38 = .ok (.iload_n 1, 1) := by decide +kernel
theorem d_Mo_cancel_39 : decode b_Mo_cancel 39 = .ok (.iaload, 1) := by decide +kernel
theorem d_Mo_cancel_40 : decode b_Mo_cancel 40 = .ok (.ifCond .eq 7, 3) := by decide +kernel
theorem d_Mo_cancel_43 : decode b_Mo_cancel 43 = .ok (.iconst 1, 1) := by decide +kernel
theorem d_Mo_cancel_44 : decode b_Mo_cancel 44 = .ok (.goto 4, 3) := by decide +kernel
theorem d_Mo_cancel_47 : decode b_Mo_cancel 47 = .ok (.iconst 0, 1) := by decide +kernel
theorem d_Mo_cancel_48 : decode b_Mo_cancel 48 = .ok (.iconst 0, 1) := by decide +kernel
theorem d_Mo_cancel_49 : decode b_Mo_cancel 49 = .ok (.iconst 0, 1) := by decide +kernel
theorem d_Mo_cancel_50 : decode b_Mo_cancel 50 = .ok (.invokevirtual 101, 3) := by decide +kernel
theorem d_Mo_cancel_53 : decode b_Mo_cancel 53 = .ok (.ifCond .eq 4, 3) := by decide +kernel
theorem d_Mo_cancel_56 : decode b_Mo_cancel 56 = .ok (.return_, 1) := by decide +kernel
theorem d_Mo_cancel_57 : decode b_Mo_cancel 57 = .ok (.aload_n 0, 1) := by decide +kernel
theorem d_Mo_cancel_58 : decode b_Mo_cancel 58 = .ok (.getfield 33, 3) := by decide +kernel
theorem d_Mo_cancel_61 : decode b_Mo_cancel 61 = .ok (.iload_n 1, 1) := by decide +kernel
theorem d_Mo_cancel_62 : decode b_Mo_cancel 62 = .ok (.iconst 2, 1) := by decide +kernel
theorem d_Mo_cancel_63 : decode b_Mo_cancel 63 = .ok (.iastore, 1) := by decide +kernel
theorem d_Mo_cancel_64 : decode b_Mo_cancel 64 = .ok (.aload_n 0, 1) := by decide +kernel
theorem d_Mo_cancel_65 : decode b_Mo_cancel 65 = .ok (.getfield 13, 3) := by decide +kernel
theorem d_Mo_cancel_68 : decode b_Mo_cancel 68 = .ok (.aload_n 0, 1) := by decide +kernel
theorem d_Mo_cancel_69 : decode b_Mo_cancel 69 = .ok (.getfield 27, 3) := by decide +kernel
theorem d_Mo_cancel_72 : decode b_Mo_cancel 72 = .ok (.iload_n 1, 1) := by decide +kernel
theorem d_Mo_cancel_73 : decode b_Mo_cancel 73 = .ok (.iaload, 1) := by decide +kernel
theorem d_Mo_cancel_74 : decode b_Mo_cancel 74 = .ok (.dup2, 1) := by decide +kernel
theorem d_Mo_cancel_75 : decode b_Mo_cancel 75 = .ok (.iaload, 1) := by decide +kernel
theorem d_Mo_cancel_76 : decode b_Mo_cancel 76 = .ok (.aload_n 0, 1) := by decide +kernel
theorem d_Mo_cancel_77 : decode b_Mo_cancel 77 = .ok (.getfield 30, 3) := by decide +kernel
theorem d_Mo_cancel_80 : decode b_Mo_cancel 80 = .ok (.iload_n 1, 1) := by decide +kernel
theorem d_Mo_cancel_81 : decode b_Mo_cancel 81 = .ok (.iaload, 1) := by decide +kernel
theorem d_Mo_cancel_82 : decode b_Mo_cancel 82 = .ok (.isub, 1) := by decide +kernel
theorem d_Mo_cancel_83 : decode b_Mo_cancel 83 = .ok (.iastore, 1) := by decide +kernel
theorem d_Mo_cancel_84 : decode b_Mo_cancel 84 = .ok (.return_, 1) := by decide +kernel
theorem d_Mo_sign_0 : decode b_Mo_sign 0 = .ok (.iload_n 3, 1) := by decide +kernel
theorem d_Mo_sign_1 : decode b_Mo_sign 1 = .ok (.iconst 1, 1) := by decide +kernel
theorem d_Mo_sign_2 : decode b_Mo_sign 2 = .ok (.bipush 8, 2) := by decide +kernel
theorem d_Mo_sign_4 : decode b_Mo_sign 4 = .ok (.invokestatic 89, 3) := by decide +kernel
theorem d_Mo_sign_7 : decode b_Mo_sign 7 = .ok (.ifCond .ne 7, 3) := by decide +kernel
theorem d_Mo_sign_10 : decode b_Mo_sign 10 = .ok (.iconst 1, 1) := by decide +kernel
theorem d_Mo_sign_11 : decode b_Mo_sign 11 = .ok (.goto 4, 3) := by decide +kernel
theorem d_Mo_sign_14 : decode b_Mo_sign 14 = .ok (.iconst 0, 1) := by decide +kernel
theorem d_Mo_sign_15 : decode b_Mo_sign 15 = .ok (.istore 4, 2) := by decide +kernel
theorem d_Mo_sign_17 : decode b_Mo_sign 17 = .ok (.aload_n 0, 1) := by decide +kernel
theorem d_Mo_sign_18 : decode b_Mo_sign 18 = .ok (.iload 4, 2) := by decide +kernel
theorem d_Mo_sign_20 : decode b_Mo_sign 20 = .ok (.iload 4, 2) := by decide +kernel
theorem d_Mo_sign_22 : decode b_Mo_sign 22 = .ok (.ifCond .ne 19, 3) := by decide +kernel
theorem d_Mo_sign_25 : decode b_Mo_sign 25 = .ok (.aload_n 0, 1) := by decide +kernel
theorem d_Mo_sign_26 : decode b_Mo_sign 26 = .ok (.getfield 114, 3) := by decide +kernel
theorem d_Mo_sign_29 : decode b_Mo_sign 29 = .ok (.iload_n 3, 1) := by decide +kernel
theorem d_Mo_sign_30 : decode b_Mo_sign 30 = .ok (.iadd, 1) := by decide +kernel
theorem d_Mo_sign_31 : decode b_Mo_sign 31 = .ok (.sipush 200, 3) := by decide +kernel
theorem d_Mo_sign_34 : decode b_Mo_sign 34 = .ok (.if_icmp .le 7, 3) := by decide +kernel
theorem d_Mo_sign_37 : decode b_Mo_sign 37 = .ok (.iconst 1, 1) := by decide +kernel
theorem d_Mo_sign_38 : decode b_Mo_sign 38 = .ok (.goto 4, 3) := by decide +kernel
theorem d_Mo_sign_41 : decode b_Mo_sign 41 = .ok (.iconst 0, 1) := by decide +kernel
theorem d_Mo_sign_42 : decode b_Mo_sign 42 = .ok (.iconst 0, 1) := by decide +kernel
theorem d_Mo_sign_43 : decode b_Mo_sign 43 = .ok (.iconst 0, 1) := by decide +kernel
theorem d_Mo_sign_44 : decode b_Mo_sign 44 = .ok (.invokevirtual 101, 3) := by decide +kernel
theorem d_Mo_sign_47 : decode b_Mo_sign 47 = .ok (.ifCond .eq 5, 3) := by decide +kernel
theorem d_Mo_sign_50 : decode b_Mo_sign 50 = .ok (.iconst 0, 1) := by decide +kernel
theorem d_Mo_sign_51 : decode b_Mo_sign 51 = .ok (.ireturn, 1) := by decide +kernel
theorem d_Mo_sign_52 : decode b_Mo_sign 52 = .ok (.iload_n 3, 1) := by decide +kernel
theorem d_Mo_sign_53 : decode b_Mo_sign 53 = .ok (.iconst 1, 1) := by decide +kernel
theorem d_Mo_sign_54 : decode b_Mo_sign 54 = .ok (.isub, 1) := by decide +kernel
theorem d_Mo_sign_55 : decode b_Mo_sign 55 = .ok (.istore 5, 2) := by decide +kernel
theorem d_Mo_sign_57 : decode b_Mo_sign 57 = .ok (.iload 5, 2) := by decide +kernel
theorem d_Mo_sign_59 : decode b_Mo_sign 59 = .ok (.ifCond .lt 40, 3) := by decide +kernel
theorem d_Mo_sign_62 : decode b_Mo_sign 62 = .ok (.aload_n 0, 1) := by decide +kernel
theorem d_Mo_sign_63 : decode b_Mo_sign 63 = .ok (.getfield 36, 3) := by decide +kernel
theorem d_Mo_sign_66 : decode b_Mo_sign 66 = .ok (.aload_n 0, 1) := by decide +kernel
theorem d_Mo_sign_67 : decode b_Mo_sign 67 = .ok (.getfield 114, 3) := by decide +kernel
theorem d_Mo_sign_70 : decode b_Mo_sign 70 = .ok (.lload_n 1, 1) := by decide +kernel
theorem d_Mo_sign_71 : decode b_Mo_sign 71 = .ok (.bipush 8, 2) := by decide +kernel
theorem d_Mo_sign_73 : decode b_Mo_sign 73 = .ok (.iload 5, 2) := by decide +kernel
theorem d_Mo_sign_75 : decode b_Mo_sign 75 = .ok (.imul, 1) := by decide +kernel
theorem d_Mo_sign_76 : decode b_Mo_sign 76 = .ok (.lshr, 1) := by decide +kernel
theorem d_Mo_sign_77 : decode b_Mo_sign 77 = .ok (.l2i, 1) := by decide +kernel
theorem d_Mo_sign_78 : decode b_Mo_sign 78 = .ok (.sipush 255, 3) := by decide +kernel
theorem d_Mo_sign_81 : decode b_Mo_sign 81 = .ok (.iand, 1) := by decide +kernel
theorem d_Mo_sign_82 : decode b_Mo_sign 82 = .ok (.iastore, 1) := by decide +kernel
theorem d_Mo_sign_83 : decode b_Mo_sign 83 = .ok (.aload_n 0, 1) := by decide +kernel
theorem d_Mo_sign_84 : decode b_Mo_sign 84 = .ok (.dup, 1) := by decide +kernel
theorem d_Mo_sign_85 : decode b_Mo_sign 85 = .ok (.getfield 114, 3) := by decide +kernel
theorem d_Mo_sign_88 : decode b_Mo_sign 88 = .ok (.iconst 1, 1) := by decide +kernel
theorem d_Mo_sign_89 : decode b_Mo_sign 89 = .ok (.iadd, 1) := by decide +kernel
theorem d_Mo_sign_90 : decode b_Mo_sign 90 = .ok (.putfield 114, 3) := by decide +kernel
theorem d_Mo_sign_93 : decode b_Mo_sign 93 = .ok (.iinc 5 (-1), 3) := by decide +kernel
theorem d_Mo_sign_96 : decode b_Mo_sign 96 = .ok (.goto (-39), 3) := by decide +kernel
theorem d_Mo_sign_99 : decode b_Mo_sign 99 = .ok (.aload_n 0, 1) := by decide +kernel
theorem d_Mo_sign_100 : decode b_Mo_sign 100 = .ok (.getfield 114, 3) := by decide +kernel
theorem d_Mo_sign_103 : decode b_Mo_sign 103 = .ok (.ireturn, 1) := by decide +kernel
theorem d_Mo_fail_0 : decode b_Mo_fail 0 = .ok (.aload_n 0, 1) := by decide +kernel
theorem d_Mo_fail_1 : decode b_Mo_fail 1 = .ok (.getfield 117, 3) := by decide +kernel
theorem d_Mo_fail_4 : decode b_Mo_fail 4 = .ok (.ifCond .eq 4, 3) := by decide +kernel
theorem d_Mo_fail_7 : decode b_Mo_fail 7 = .ok (.return_, 1) := by decide +kernel
theorem d_Mo_fail_8 : decode b_Mo_fail 8 = .ok (.aload_n 0, 1) := by decide +kernel
theorem d_Mo_fail_9 : decode b_Mo_fail 9 = .ok (.iconst 1, 1) := by decide +kernel
theorem d_Mo_fail_10 : decode b_Mo_fail 10 = .ok (.putfield 117, 3) := by decide +kernel
theorem d_Mo_fail_13 : decode b_Mo_fail 13 = .ok (.aload_n 0, 1) := by decide +kernel
theorem d_Mo_fail_14 : decode b_Mo_fail 14 = .ok (.iload_n 1, 1) := by decide +kernel
theorem d_Mo_fail_15 : decode b_Mo_fail 15 = .ok (.putfield 39, 3) := by decide +kernel
theorem d_Mo_fail_18 : decode b_Mo_fail 18 = .ok (.return_, 1) := by decide +kernel
theorem d_Mo_see_0 : decode b_Mo_see 0 = .ok (.aload_n 0, 1) := by decide +kernel
theorem d_Mo_see_1 : decode b_Mo_see 1 = .ok (.getfield 121, 3) := by decide +kernel
theorem d_Mo_see_4 : decode b_Mo_see 4 = .ok (.aload_n 0, 1) := by decide +kernel
theorem d_Mo_see_5 : decode b_Mo_see 5 = .ok (.getfield 124, 3) := by decide +kernel
theorem d_Mo_see_8 : decode b_Mo_see 8 = .ok (.if_icmp .ge 15, 3) := by decide +kernel
theorem d_Mo_see_11 : decode b_Mo_see 11 = .ok (.aload_n 0, 1) := by decide +kernel
theorem d_Mo_see_12 : decode b_Mo_see 12 = .ok (.getfield 36, 3) := by decide +kernel
theorem d_Mo_see_15 : decode b_Mo_see 15 = .ok (.aload_n 0, 1) := by decide +kernel
theorem d_Mo_see_16 : decode b_Mo_see 16 = .ok (.getfield 121, 3) := by decide +kernel
theorem d_Mo_see_19 : decode b_Mo_see 19 = .ok (.iaload, 1) := by decide +kernel
theorem d_Mo_see_20 : decode b_Mo_see 20 = .ok (.goto 4, 3) := by decide +kernel
theorem d_Mo_see_23 : decode b_Mo_see 23 = .ok (.iconst (-1), 1) := by decide +kernel
theorem d_Mo_see_24 : decode b_Mo_see 24 = .ok (.ireturn, 1) := by decide +kernel
theorem d_Mo_expect_0 : decode b_Mo_expect 0 = .ok (.aload_n 0, 1) := by decide +kernel
theorem d_Mo_expect_1 : decode b_Mo_expect 1 = .ok (.invokevirtual 127, 3) := by decide +kernel
theorem d_Mo_expect_4 : decode b_Mo_expect 4 = .ok (.iload_n 1, 1) := by decide +kernel
theorem d_Mo_expect_5 : decode b_Mo_expect 5 = .ok (.if_icmp .eq 11, 3) := by decide +kernel
theorem d_Mo_expect_8 : decode b_Mo_expect 8 = .ok (.aload_n 0, 1) := by decide +kernel
theorem d_Mo_expect_9 : decode b_Mo_expect 9 = .ok (.aload_n 0, 1) := by decide +kernel
theorem d_Mo_expect_10 : decode b_Mo_expect 10 = .ok (.getfield 121, 3) := by decide +kernel
theorem d_Mo_expect_13 : decode b_Mo_expect 13 = .ok (.invokevirtual 131, 3) := by decide +kernel
theorem d_Mo_expect_16 : decode b_Mo_expect 16 = .ok (.aload_n 0, 1) := by decide +kernel
theorem d_Mo_expect_17 : decode b_Mo_expect 17 = .ok (.dup, 1) := by decide +kernel
theorem d_Mo_expect_18 : decode b_Mo_expect 18 = .ok (.getfield 121, 3) := by decide +kernel
theorem d_Mo_expect_21 : decode b_Mo_expect 21 = .ok (.iconst 1, 1) := by decide +kernel
theorem d_Mo_expect_22 : decode b_Mo_expect 22 = .ok (.iadd, 1) := by decide +kernel
theorem d_Mo_expect_23 : decode b_Mo_expect 23 = .ok (.putfield 121, 3) := by decide +kernel
theorem d_Mo_expect_26 : decode b_Mo_expect 26 = .ok (.return_, 1) := by decide +kernel
theorem d_Mo_isDigit_0 : decode b_Mo_isDigit 0 = .ok (.aload_n 0, 1) := by decide +kernel
theorem d_Mo_isDigit_1 : decode b_Mo_isDigit 1 = .ok (.invokevirtual 127, 3) := by decide +kernel
theorem d_Mo_isDigit_4 : decode b_Mo_isDigit 4 = .ok (.bipush 48, 2) := by decide +kernel
theorem d_Mo_isDigit_6 : decode b_Mo_isDigit 6 = .ok (.bipush 57, 2) := by decide +kernel
theorem d_Mo_isDigit_8 : decode b_Mo_isDigit 8 = .ok (.invokestatic 89, 3) := by decide +kernel
theorem d_Mo_isDigit_11 : decode b_Mo_isDigit 11 = .ok (.ireturn, 1) := by decide +kernel
theorem d_Mo_number_0 : decode b_Mo_number 0 = .ok (.aload_n 0, 1) := by decide +kernel
theorem d_Mo_number_1 : decode b_Mo_number 1 = .ok (.invokevirtual 135, 3) := by decide +kernel
theorem d_Mo_number_4 : decode b_Mo_number 4 = .ok (.ifCond .ne 11, 3) := by decide +kernel
theorem d_Mo_number_7 : decode b_Mo_number 7 = .ok (.aload_n 0, 1) := by decide +kernel
theorem d_Mo_number_8 : decode b_Mo_number 8 = .ok (.aload_n 0, 1) := by decide +kernel
theorem d_Mo_number_9 : decode b_Mo_number 9 = .ok (.getfield 121, 3) := by decide +kernel
theorem d_Mo_number_12 : decode b_Mo_number 12 = .ok (.invokevirtual 131, 3) := by decide +kernel
theorem d_Mo_number_15 : decode b_Mo_number 15 = .ok (.iconst 0, 1) := by decide +kernel
theorem d_Mo_number_16 : decode b_Mo_number 16 = .ok (.istore_n 1, 1) := by decide +kernel
theorem d_Mo_number_17 : decode b_Mo_number 17 = .ok (.iconst 0, 1) := by decide +kernel
theorem d_Mo_number_18 : decode b_Mo_number 18 = .ok (.istore_n 2, 1) := by decide +kernel
theorem d_Mo_number_19 : decode b_Mo_number 19 = .ok (.aload_n 0, 1) := by decide +kernel
theorem d_Mo_number_20 : decode b_Mo_number 20 = .ok (.getfield 117, 3) := by decide +kernel
theorem d_Mo_number_23 : decode b_Mo_number 23 = .ok (.ifCond .ne 62, 3) := by decide +kernel
theorem d_Mo_number_26 : decode b_Mo_number 26 = .ok (.aload_n 0, 1) := by decide +kernel
theorem d_Mo_number_27 : decode b_Mo_number 27 = .ok (.invokevirtual 135, 3) := by decide +kernel
theorem d_Mo_number_30 : decode b_Mo_number 30 = .ok (.ifCond .eq 55, 3) := by decide +kernel
theorem d_Mo_number_33 : decode b_Mo_number 33 = .ok (.iload_n 2, 1) := by decide +kernel
theorem d_Mo_number_34 : decode b_Mo_number 34 = .ok (.bipush 6, 2) := by decide +kernel
theorem d_Mo_number_36 : decode b_Mo_number 36 = .ok (.if_icmp .eq 12, 3) := by decide +kernel
theorem d_Mo_number_39 : decode b_Mo_number 39 = .ok (.iload_n 2, 1) := by decide +kernel
theorem d_Mo_number_40 : decode b_Mo_number 40 = .ok (.iconst 1, 1) := by decide +kernel
theorem d_Mo_number_41 : decode b_Mo_number 41 = .ok (.if_icmp .ne 15, 3) := by decide +kernel
theorem d_Mo_number_44 : decode b_Mo_number 44 = .ok (.iload_n 1, 1) := by decide +kernel
theorem d_Mo_number_45 : decode b_Mo_number 45 = .ok (.ifCond .ne 11, 3) := by decide +kernel
theorem d_Mo_number_48 : decode b_Mo_number 48 = .ok (.aload_n 0, 1) := by decide +kernel
theorem d_Mo_number_49 : decode b_Mo_number 49 = .ok (.aload_n 0, 1) := by decide +kernel
theorem d_Mo_number_50 : decode b_Mo_number 50 = .ok (.getfield 121, 3) := by decide +kernel
theorem d_Mo_number_53 : decode b_Mo_number 53 = .ok (.invokevirtual 131, 3) := by decide +kernel
theorem d_Mo_number_56 : decode b_Mo_number 56 = .ok (.bipush 10, 2) := by decide +kernel
theorem d_Mo_number_58 : decode b_Mo_number 58 = .ok (.iload_n 1, 1) := by decide +kernel
theorem d_Mo_number_59 : decode b_Mo_number 59 = .ok (.imul, 1) := by decide +kernel
theorem d_Mo_number_60 : decode b_Mo_number 60 = .ok (.aload_n 0, 1) := by decide +kernel
theorem d_Mo_number_61 : decode b_Mo_number 61 = .ok (.invokevirtual 127, 3) := by decide +kernel
theorem d_Mo_number_64 : decode b_Mo_number 64 = .ok (.iadd, 1) := by decide +kernel
theorem d_Mo_number_65 : decode b_Mo_number 65 = .ok (.bipush 48, 2) := by decide +kernel
theorem d_Mo_number_67 : decode b_Mo_number 67 = .ok (.isub, 1) := by decide +kernel
theorem d_Mo_number_68 : decode b_Mo_number 68 = .ok (.istore_n 1, 1) := by decide +kernel
theorem d_Mo_number_69 : decode b_Mo_number 69 = .ok (.aload_n 0, 1) := by decide +kernel
theorem d_Mo_number_70 : decode b_Mo_number 70 = .ok (.dup, 1) := by decide +kernel
theorem d_Mo_number_71 : decode b_Mo_number 71 = .ok (.getfield 121, 3) := by decide +kernel
theorem d_Mo_number_74 : decode b_Mo_number 74 = .ok (.iconst 1, 1) := by decide +kernel
theorem d_Mo_number_75 : decode b_Mo_number 75 = .ok (.iadd, 1) := by decide +kernel
theorem d_Mo_number_76 : decode b_Mo_number 76 = .ok (.putfield 121, 3) := by decide +kernel
theorem d_Mo_number_79 : decode b_Mo_number 79 = .ok (.iinc 2 1, 3) := by decide +kernel
theorem d_Mo_number_82 : decode b_Mo_number 82 = .ok (.goto (-63), 3) := by decide +kernel
theorem d_Mo_number_85 : decode b_Mo_number 85 = .ok (.iload_n 1, 1) := by decide +kernel
theorem d_Mo_number_86 : decode b_Mo_number 86 = .ok (.ireturn, 1) := by decide +kernel
theorem d_Mo_readRow_0 : decode b_Mo_readRow 0 = .ok (.aload_n 0, 1) := by decide +kernel
theorem d_Mo_readRow_1 : decode b_Mo_readRow 1 = .ok (.invokevirtual 127, 3) := by decide +kernel
theorem d_Mo_readRow_4 : decode b_Mo_readRow 4 = .ok (.bipush 48, 2) := by decide +kernel
theorem d_Mo_readRow_6 : decode b_Mo_readRow 6 = .ok (.isub, 1) := by decide +kernel
theorem d_Mo_readRow_7 : decode b_Mo_readRow 7 = .ok (.istore_n 1, 1) := by decide +kernel
theorem d_Mo_readRow_8 : decode b_Mo_readRow 8 = .ok (.aload_n 0, 1) := by decide +kernel
theorem d_Mo_readRow_9 : decode b_Mo_readRow 9 = .ok (.invokevirtual 135, 3) := by decide +kernel
theorem d_Mo_readRow_12 : decode b_Mo_readRow 12 = .ok (.ifCond .eq 39, 3) := by decide +kernel
theorem d_Mo_readRow_15 : decode b_Mo_readRow 15 = .ok (.aload_n 0, 1) := by decide +kernel
theorem d_Mo_readRow_16 : decode b_Mo_readRow 16 = .ok (.getfield 42, 3) := by decide +kernel
theorem d_Mo_readRow_19 : decode b_Mo_readRow 19 = .ok (.iload_n 1, 1) := by decide +kernel
theorem d_Mo_readRow_20 : decode b_Mo_readRow 20 = .ok (.iconst 0, 1) := by decide +kernel
theorem d_Mo_readRow_21 : decode b_Mo_readRow 21 = .ok (.bipush 9, 2) := by decide +kernel
theorem d_Mo_readRow_23 : decode b_Mo_readRow 23 = .ok (.invokestatic 89, 3) := by decide +kernel
theorem d_Mo_readRow_26 : decode b_Mo_readRow 26 = .ok (.ifCond .eq 10, 3) := by decide +kernel
theorem d_Mo_readRow_29 : decode b_Mo_readRow 29 = .ok (.bipush 10, 2) := by decide +kernel
theorem d_Mo_readRow_31 : decode b_Mo_readRow 31 = .ok (.iload_n 1, 1) := by decide +kernel
theorem d_Mo_readRow_32 : decode b_Mo_readRow 32 = .ok (.iadd, 1) := by decide +kernel
theorem d_Mo_readRow_33 : decode b_Mo_readRow 33 = .ok (.goto 4, 3) := by decide +kernel
theorem d_Mo_readRow_36 : decode b_Mo_readRow 36 = .ok (.iconst 0, 1) := by decide +kernel
theorem d_Mo_readRow_37 : decode b_Mo_readRow 37 = .ok (.baload, 1) := by decide +kernel
theorem d_Mo_readRow_38 : decode b_Mo_readRow 38 = .ok (.ifCond .eq 21, 3) := by decide +kernel
theorem d_Mo_readRow_41 : decode b_Mo_readRow 41 = .ok (.iload_n 1, 1) := by decide +kernel
theorem d_Mo_readRow_42 : decode b_Mo_readRow 42 = .ok (.iconst 0, 1) := by decide +kernel
theorem d_Mo_readRow_43 : decode b_Mo_readRow 43 = .ok (.bipush 9, 2) := by decide +kernel
theorem d_Mo_readRow_45 : decode b_Mo_readRow 45 = .ok (.invokestatic 89, 3) := by decide +kernel
theorem d_Mo_readRow_48 : decode b_Mo_readRow 48 = .ok (.ifCond .eq 11, 3) := by decide +kernel
theorem d_Mo_readRow_51 : decode b_Mo_readRow 51 = .ok (.aload_n 0, 1) := by decide +kernel
theorem d_Mo_readRow_52 : decode b_Mo_readRow 52 = .ok (.aload_n 0, 1) := by decide +kernel
theorem d_Mo_readRow_53 : decode b_Mo_readRow 53 = .ok (.getfield 121, 3) := by decide +kernel
theorem d_Mo_readRow_56 : decode b_Mo_readRow 56 = .ok (.invokevirtual 131, 3) := by decide +kernel
theorem d_Mo_readRow_59 : decode b_Mo_readRow 59 = .ok (.aload_n 0, 1) := by decide +kernel
theorem d_Mo_readRow_60 : decode b_Mo_readRow 60 = .ok (.dup, 1) := by decide +kernel
theorem d_Mo_readRow_61 : decode b_Mo_readRow 61 = .ok (.getfield 121, 3) := by decide +kernel
theorem d_Mo_readRow_64 : decode b_Mo_readRow 64 = .ok (.iconst 1, 1) := by decide +kernel
theorem d_Mo_readRow_65 : decode b_Mo_readRow 65 = .ok (.iadd, 1) := by decide +kernel
theorem d_Mo_readRow_66 : decode b_Mo_readRow 66 = .ok (.putfield 121, 3) := by decide +kernel
theorem d_Mo_readRow_69 : decode b_Mo_readRow 69 = .ok (.aload_n 0, 1) := by decide +kernel
theorem d_Mo_readRow_70 : decode b_Mo_readRow 70 = .ok (.bipush 58, 2) := by decide +kernel
theorem d_Mo_readRow_72 : decode b_Mo_readRow 72 = .ok (.invokevirtual 139, 3) := by decide +kernel
theorem d_Mo_readRow_75 : decode b_Mo_readRow 75 = .ok (.aload_n 0, 1) := by decide +kernel
theorem d_Mo_readRow_76 : decode b_Mo_readRow 76 = .ok (.getfield 117, 3) := by decide +kernel
theorem d_Mo_readRow_79 : decode b_Mo_readRow 79 = .ok (.ifCond .eq 7, 3) := by decide +kernel
theorem d_Mo_readRow_82 : decode b_Mo_readRow 82 = .ok (.iconst 0, 1) := by decide +kernel
theorem d_Mo_readRow_83 : decode b_Mo_readRow 83 = .ok (.goto 7, 3) := by decide +kernel
theorem d_Mo_readRow_86 : decode b_Mo_readRow 86 = .ok (.aload_n 0, 1) := by decide +kernel
theorem d_Mo_readRow_87 : decode b_Mo_readRow 87 = .ok (.invokevirtual 142, 3) := by decide +kernel
theorem d_Mo_readRow_90 : decode b_Mo_readRow 90 = .ok (.istore_n 2, 1) := by decide +kernel
theorem d_Mo_readRow_91 : decode b_Mo_readRow 91 = .ok (.aload_n 0, 1) := by decide +kernel
theorem d_Mo_readRow_92 : decode b_Mo_readRow 92 = .ok (.bipush 43, 2) := by decide +kernel
theorem d_Mo_readRow_94 : decode b_Mo_readRow 94 = .ok (.invokevirtual 139, 3) := by decide +kernel
theorem d_Mo_readRow_97 : decode b_Mo_readRow 97 = .ok (.aload_n 0, 1) := by decide +kernel
theorem d_Mo_readRow_98 : decode b_Mo_readRow 98 = .ok (.getfield 117, 3) := by decide +kernel
theorem d_Mo_readRow_101 : decode b_Mo_readRow 101 = .ok (.ifCond .eq 7, 3) := by decide +kernel
theorem d_Mo_readRow_104 : decode b_Mo_readRow 104 = .ok (.iconst 0, 1) := by decide +kernel
theorem d_Mo_readRow_105 : decode b_Mo_readRow 105 = .ok (.goto 7, 3) := by decide +kernel
theorem d_Mo_readRow_108 : decode b_Mo_readRow 108 = .ok (.aload_n 0, 1) := by decide +kernel
theorem d_Mo_readRow_109 : decode b_Mo_readRow 109 = .ok (.invokevirtual 142, 3) := by decide +kernel
theorem d_Mo_readRow_112 : decode b_Mo_readRow 112 = .ok (.istore_n 3, 1) := by decide +kernel
theorem d_Mo_readRow_113 : decode b_Mo_readRow 113 = .ok (.aload_n 0, 1) := by decide +kernel
theorem d_Mo_readRow_114 : decode b_Mo_readRow 114 = .ok (.bipush 59, 2) := by decide +kernel
theorem d_Mo_readRow_116 : decode b_Mo_readRow 116 = .ok (.invokevirtual 139, 3) := by decide +kernel
theorem d_Mo_readRow_119 : decode b_Mo_readRow 119 = .ok (.aload_n 0, 1) := by decide +kernel
theorem d_Mo_readRow_120 : decode b_Mo_readRow 120 = .ok (.getfield 117, 3) := by decide +kernel
theorem d_Mo_readRow_123 : decode b_Mo_readRow 123 = .ok (.ifCond .eq 4, 3) := by decide +kernel
theorem d_Mo_readRow_126 : decode b_Mo_readRow 126 = .ok (.return_, 1) := by decide +kernel
theorem d_Mo_readRow_127 : decode b_Mo_readRow 127 = .ok (.aload_n 0, 1) := by decide +kernel
theorem d_Mo_readRow_128 : decode b_Mo_readRow 128 = .ok (.getfield 42, 3) := by decide +kernel
theorem d_Mo_readRow_131 : decode b_Mo_readRow 131 = .ok (.bipush 10, 2) := by decide +kernel
theorem d_Mo_readRow_133 : decode b_Mo_readRow 133 = .ok (.iload_n 1, 1) := by decide +kernel
theorem d_Mo_readRow_134 : decode b_Mo_readRow 134 = .ok (.iadd, 1) := by decide +kernel
theorem d_Mo_readRow_135 : decode b_Mo_readRow 135 = .ok (.iconst 1, 1) := by decide +kernel
theorem d_Mo_readRow_136 : decode b_Mo_readRow 136 = .ok (.bastore, 1) := by decide +kernel
theorem d_Mo_readRow_137 : decode b_Mo_readRow 137 = .ok (.aload_n 0, 1) := by decide +kernel
theorem d_Mo_readRow_138 : decode b_Mo_readRow 138 = .ok (.getfield 45, 3) := by decide +kernel
theorem d_Mo_readRow_141 : decode b_Mo_readRow 141 = .ok (.bipush 10, 2) := by decide +kernel
theorem d_Mo_readRow_143 : decode b_Mo_readRow 143 = .ok (.iload_n 1, 1) := by decide +kernel
theorem d_Mo_readRow_144 : decode b_Mo_readRow 144 = .ok (.iadd, 1) := by decide +kernel
theorem d_Mo_readRow_145 : decode b_Mo_readRow 145 = .ok (.iload_n 2, 1) := by decide +kernel
theorem d_Mo_readRow_146 : decode b_Mo_readRow 146 = .ok (.iastore, 1) := by decide +kernel
theorem d_Mo_readRow_147 : decode b_Mo_readRow 147 = .ok (.aload_n 0, 1) := by decide +kernel
theorem d_Mo_readRow_148 : decode b_Mo_readRow 148 = .ok (.getfield 48, 3) := by decide +kernel
theorem d_Mo_readRow_151 : decode b_Mo_readRow 151 = .ok (.bipush 10, 2) := by decide +kernel
theorem d_Mo_readRow_153 : decode b_Mo_readRow 153 = .ok (.iload_n 1, 1) := by decide +kernel
theorem d_Mo_readRow_154 : decode b_Mo_readRow 154 = .ok (.iadd, 1) := by decide +kernel
theorem d_Mo_readRow_155 : decode b_Mo_readRow 155 = .ok (.iload_n 3, 1) := by decide +kernel
theorem d_Mo_readRow_156 : decode b_Mo_readRow 156 = .ok (.iastore, 1) := by decide +kernel
theorem d_Mo_readRow_157 : decode b_Mo_readRow 157 = .ok (.return_, 1) := by decide +kernel
theorem d_Mo_tariff_0 : decode b_Mo_tariff 0 = .ok (.aload_n 0, 1) := by decide +kernel
theorem d_Mo_tariff_1 : decode b_Mo_tariff 1 = .ok (.aload_n 0, 1) := by decide +kernel
theorem d_Mo_tariff_2 : decode b_Mo_tariff 2 = .ok (.getfield 114, 3) := by decide +kernel
theorem d_Mo_tariff_5 : decode b_Mo_tariff 5 = .ok (.putfield 124, 3) := by decide +kernel
theorem d_Mo_tariff_8 : decode b_Mo_tariff 8 = .ok (.aload_n 0, 1) := by decide +kernel
theorem d_Mo_tariff_9 : decode b_Mo_tariff 9 = .ok (.iconst 0, 1) := by decide +kernel
theorem d_Mo_tariff_10 : decode b_Mo_tariff 10 = .ok (.putfield 114, 3) := by decide +kernel
theorem d_Mo_tariff_13 : decode b_Mo_tariff 13 = .ok (.bipush 10, 2) := by decide +kernel
theorem d_Mo_tariff_15 : decode b_Mo_tariff 15 = .ok (.istore_n 1, 1) := by decide +kernel
theorem d_Mo_tariff_16 : decode b_Mo_tariff 16 = .ok (.iload_n 1, 1) := by decide +kernel
theorem d_Mo_tariff_17 : decode b_Mo_tariff 17 = .ok (.bipush 20, 2) := by decide +kernel
theorem d_Mo_tariff_19 : decode b_Mo_tariff 19 = .ok (.if_icmp .ge 30, 3) := by decide +kernel
theorem d_Mo_tariff_22 : decode b_Mo_tariff 22 = .ok (.aload_n 0, 1) := by decide +kernel
theorem d_Mo_tariff_23 : decode b_Mo_tariff 23 = .ok (.getfield 42, 3) := by decide +kernel
theorem d_Mo_tariff_26 : decode b_Mo_tariff 26 = .ok (.iload_n 1, 1) := by decide +kernel
theorem d_Mo_tariff_27 : decode b_Mo_tariff 27 = .ok (.iconst 0, 1) := by decide +kernel
theorem d_Mo_tariff_28 : decode b_Mo_tariff 28 = .ok (.bastore, 1) := by decide +kernel
theorem d_Mo_tariff_29 : decode b_Mo_tariff 29 = .ok (.aload_n 0, 1) := by decide +kernel
theorem d_Mo_tariff_30 : decode b_Mo_tariff 30 = .ok (.getfield 45, 3) := by decide +kernel
theorem d_Mo_tariff_33 : decode b_Mo_tariff 33 = .ok (.iload_n 1, 1) := by decide +kernel
theorem d_Mo_tariff_34 : decode b_Mo_tariff 34 = .ok (.iconst 0, 1) := by decide +kernel
theorem d_Mo_tariff_35 : decode b_Mo_tariff 35 = .ok (.iastore, 1) := by decide +kernel
theorem d_Mo_tariff_36 : decode b_Mo_tariff 36 = .ok (.aload_n 0, 1) := by decide +kernel
theorem d_Mo_tariff_37 : decode b_Mo_tariff 37 = .ok (.getfield 48, 3) := by decide +kernel
theorem d_Mo_tariff_40 : decode b_Mo_tariff 40 = .ok (.iload_n 1, 1) := by decide +kernel
theorem d_Mo_tariff_41 : decode b_Mo_tariff 41 = .ok (.iconst 0, 1) := by decide +kernel
theorem d_Mo_tariff_42 : decode b_Mo_tariff 42 = .ok (.iastore, 1) := by decide +kernel
theorem d_Mo_tariff_43 : decode b_Mo_tariff 43 = .ok (.iinc 1 1, 3) := by decide +kernel
theorem d_Mo_tariff_46 : decode b_Mo_tariff 46 = .ok (.goto (-30), 3) := by decide +kernel
theorem d_Mo_tariff_49 : decode b_Mo_tariff 49 = .ok (.aload_n 0, 1) := by decide +kernel
theorem d_Mo_tariff_50 : decode b_Mo_tariff 50 = .ok (.iconst 0, 1) := by decide +kernel
theorem d_Mo_tariff_51 : decode b_Mo_tariff 51 = .ok (.putfield 121, 3) := by decide +kernel
theorem d_Mo_tariff_54 : decode b_Mo_tariff 54 = .ok (.aload_n 0, 1) := by decide +kernel
theorem d_Mo_tariff_55 : decode b_Mo_tariff 55 = .ok (.iconst 0, 1) := by decide +kernel
theorem d_Mo_tariff_56 : decode b_Mo_tariff 56 = .ok (.putfield 117, 3) := by decide +kernel
theorem d_Mo_tariff_59 : decode b_Mo_tariff 59 = .ok (.aload_n 0, 1) := by decide +kernel
theorem d_Mo_tariff_60 : decode b_Mo_tariff 60 = .ok (.iconst (-1), 1) := by decide +kernel
theorem d_Mo_tariff_61 : decode b_Mo_tariff 61 = .ok (.putfield 39, 3) := by decide +kernel
theorem d_Mo_tariff_64 : decode b_Mo_tariff 64 = .ok (.aload_n 0, 1) := by decide +kernel
theorem d_Mo_tariff_65 : decode b_Mo_tariff 65 = .ok (.getfield 117, 3) := by decide +kernel
theorem d_Mo_tariff_68 : decode b_Mo_tariff 68 = .ok (.ifCond .ne 21, 3) := by decide +kernel
theorem d_Mo_tariff_71 : decode b_Mo_tariff 71 = .ok (.aload_n 0, 1) := by decide +kernel
theorem d_Mo_tariff_72 : decode b_Mo_tariff 72 = .ok (.getfield 121, 3) := by decide +kernel
theorem d_Mo_tariff_75 : decode b_Mo_tariff 75 = .ok (.aload_n 0, 1) := by decide +kernel
theorem d_Mo_tariff_76 : decode b_Mo_tariff 76 = .ok (.getfield 124, 3) := by decide +kernel
theorem d_Mo_tariff_79 : decode b_Mo_tariff 79 = .ok (.if_icmp .ge 10, 3) := by decide +kernel
theorem d_Mo_tariff_82 : decode b_Mo_tariff 82 = .ok (.aload_n 0, 1) := by decide +kernel
theorem d_Mo_tariff_83 : decode b_Mo_tariff 83 = .ok (.invokevirtual 145, 3) := by decide +kernel
theorem d_Mo_tariff_86 : decode b_Mo_tariff 86 = .ok (.goto (-22), 3) := by decide +kernel
theorem d_Mo_tariff_89 : decode b_Mo_tariff 89 = .ok (.aload_n 0, 1) := by decide +kernel
theorem d_Mo_tariff_90 : decode b_Mo_tariff 90 = .ok (.aload_n 0, 1) := by decide +kernel
theorem d_Mo_tariff_91 : decode b_Mo_tariff 91 = .ok (.getfield 117, 3) := by decide +kernel
theorem d_Mo_tariff_94 : decode b_Mo_tariff 94 = .ok (.iconst 0, 1) := by decide +kernel
theorem d_Mo_tariff_95 : decode b_Mo_tariff 95 = .ok (.iconst 0, 1) := by decide +kernel
theorem d_Mo_tariff_96 : decode b_Mo_tariff 96 = .ok (.iconst 0, 1) := by decide +kernel
theorem d_Mo_tariff_97 : decode b_Mo_tariff 97 = .ok (.invokevirtual 101, 3) := by decide +kernel
theorem d_Mo_tariff_100 : decode b_Mo_tariff 100 = .ok (.ifCond .eq 5, 3) := by decide +kernel
theorem d_Mo_tariff_103 : decode b_Mo_tariff 103 = .ok (.iconst 0, 1) := by decide +kernel
theorem d_Mo_tariff_104 : decode b_Mo_tariff 104 = .ok (.ireturn, 1) := by decide +kernel
theorem d_Mo_tariff_105 : decode b_Mo_tariff 105 = .ok (.iconst 0, 1) := by decide +kernel
theorem d_Mo_tariff_106 : decode b_Mo_tariff 106 = .ok (.istore_n 1, 1) := by decide +kernel
theorem d_Mo_tariff_107 : decode b_Mo_tariff 107 = .ok (.iconst 0, 1) := by decide +kernel
theorem d_Mo_tariff_108 : decode b_Mo_tariff 108 = .ok (.istore_n 2, 1) := by decide +kernel
theorem d_Mo_tariff_109 : decode b_Mo_tariff 109 = .ok (.iload_n 2, 1) := by decide +kernel
theorem d_Mo_tariff_110 : decode b_Mo_tariff 110 = .ok (.bipush 10, 2) := by decide +kernel
theorem d_Mo_tariff_112 : decode b_Mo_tariff 112 = .ok (.if_icmp .ge 71, 3) := by decide +kernel
theorem d_Mo_tariff_115 : decode b_Mo_tariff 115 = .ok (.aload_n 0, 1) := by decide +kernel
theorem d_Mo_tariff_116 : decode b_Mo_tariff 116 = .ok (.getfield 42, 3) := by decide +kernel
theorem d_Mo_tariff_119 : decode b_Mo_tariff 119 = .ok (.iload_n 2, 1) := by decide +kernel
theorem d_Mo_tariff_120 : decode b_Mo_tariff 120 = .ok (.aload_n 0, 1) := by decide +kernel
theorem d_Mo_tariff_121 : decode b_Mo_tariff 121 = .ok (.getfield 42, 3) := by decide +kernel
theorem d_Mo_tariff_124 : decode b_Mo_tariff 124 = .ok (.bipush 10, 2) := by decide +kernel
theorem d_Mo_tariff_126 : decode b_Mo_tariff 126 = .ok (.iload_n 2, 1) := by decide +kernel
theorem d_Mo_tariff_127 : decode b_Mo_tariff 127 = .ok (.iadd, 1) := by decide +kernel
theorem d_Mo_tariff_128 : decode b_Mo_tariff 128 = .ok (.baload, 1) := by decide +kernel
theorem d_Mo_tariff_129 : decode b_Mo_tariff 129 = .ok (.bastore, 1) := by decide +kernel
theorem d_Mo_tariff_130 : decode b_Mo_tariff 130 = .ok (.aload_n 0, 1) := by decide +kernel
theorem d_Mo_tariff_131 : decode b_Mo_tariff 131 = .ok (.getfield 45, 3) := by decide +kernel
theorem d_Mo_tariff_134 : decode b_Mo_tariff 134 = .ok (.iload_n 2, 1) := by decide +kernel
theorem d_Mo_tariff_135 : decode b_Mo_tariff 135 = .ok (.aload_n 0, 1) := by decide +kernel
theorem d_Mo_tariff_136 : decode b_Mo_tariff 136 = .ok (.getfield 45, 3) := by decide +kernel
theorem d_Mo_tariff_139 : decode b_Mo_tariff 139 = .ok (.bipush 10, 2) := by decide +kernel
theorem d_Mo_tariff_141 : decode b_Mo_tariff 141 = .ok (.iload_n 2, 1) := by decide +kernel
theorem d_Mo_tariff_142 : decode b_Mo_tariff 142 = .ok (.iadd, 1) := by decide +kernel
theorem d_Mo_tariff_143 : decode b_Mo_tariff 143 = .ok (.iaload, 1) := by decide +kernel
theorem d_Mo_tariff_144 : decode b_Mo_tariff 144 = .ok (.iastore, 1) := by decide +kernel
theorem d_Mo_tariff_145 : decode b_Mo_tariff 145 = .ok (.aload_n 0, 1) := by decide +kernel
theorem d_Mo_tariff_146 : decode b_Mo_tariff 146 = .ok (.getfield 48, 3) := by decide +kernel
theorem d_Mo_tariff_149 : decode b_Mo_tariff 149 = .ok (.iload_n 2, 1) := by decide +kernel
theorem d_Mo_tariff_150 : decode b_Mo_tariff 150 = .ok (.aload_n 0, 1) := by decide +kernel
theorem d_Mo_tariff_151 : decode b_Mo_tariff 151 = .ok (.getfield 48, 3) := by decide +kernel
theorem d_Mo_tariff_154 : decode b_Mo_tariff 154 = .ok (.bipush 10, 2) := by decide +kernel
theorem d_Mo_tariff_156 : decode b_Mo_tariff 156 = .ok (.iload_n 2, 1) := by decide +kernel
theorem d_Mo_tariff_157 : decode b_Mo_tariff 157 = .ok (.iadd, 1) := by decide +kernel
theorem d_Mo_tariff_158 : decode b_Mo_tariff 158 = .ok (.iaload, 1) := by decide +kernel
theorem d_Mo_tariff_159 : decode b_Mo_tariff 159 = .ok (.iastore, 1) := by decide +kernel
theorem d_Mo_tariff_160 : decode b_Mo_tariff 160 = .ok (.iload_n 1, 1) := by decide +kernel
theorem d_Mo_tariff_161 : decode b_Mo_tariff 161 = .ok (.aload_n 0, 1) := by decide +kernel
theorem d_Mo_tariff_162 : decode b_Mo_tariff 162 = .ok (.getfield 42, 3) := by decide +kernel
theorem d_Mo_tariff_165 : decode b_Mo_tariff 165 = .ok (.iload_n 2, 1) := by decide +kernel
theorem d_Mo_tariff_166 : decode b_Mo_tariff 166 = .ok (.baload, 1) := by decide +kernel
theorem d_Mo_tariff_167 : decode b_Mo_tariff 167 = .ok (.ifCond .eq 7, 3) := by decide +kernel
theorem d_Mo_tariff_170 : decode b_Mo_tariff 170 = .ok (.iconst 1, 1) := by decide +kernel
theorem d_Mo_tariff_171 : decode b_Mo_tariff 171 = .ok (.goto 4, 3) := by decide +kernel
theorem d_Mo_tariff_174 : decode b_Mo_tariff 174 = .ok (.iconst 0, 1) := by decide +kernel
theorem d_Mo_tariff_175 : decode b_Mo_tariff 175 = .ok (.iadd, 1) := by decide +kernel
theorem d_Mo_tariff_176 : decode b_Mo_tariff 176 = .ok (.istore_n 1, 1) := by decide +kernel
theorem d_Mo_tariff_177 : decode b_Mo_tariff 177 = .ok (.iinc 2 1, 3) := by decide +kernel
theorem d_Mo_tariff_180 : decode b_Mo_tariff 180 = .ok (.goto (-71), 3) := by decide +kernel
theorem d_Mo_tariff_183 : decode b_Mo_tariff 183 = .ok (.iload_n 1, 1) := by decide +kernel
theorem d_Mo_tariff_184 : decode b_Mo_tariff 184 = .ok (.ireturn, 1) := by decide +kernel
theorem d_Mo_place_0 : decode b_Mo_place 0 = .ok (.aload_n 0, 1) := by decide +kernel
theorem d_Mo_place_1 : decode b_Mo_place 1 = .ok (.iconst 0, 1) := by decide +kernel
theorem d_Mo_place_2 : decode b_Mo_place 2 = .ok (.putfield 85, 3) := by decide +kernel
theorem d_Mo_place_5 : decode b_Mo_place 5 = .ok (.aload_n 0, 1) := by decide +kernel
theorem d_Mo_place_6 : decode b_Mo_place 6 = .ok (.getfield 39, 3) := by decide +kernel
theorem d_Mo_place_9 : decode b_Mo_place 9 = .ok (.ireturn, 1) := by decide +kernel
theorem d_Mo_bill_0 : decode b_Mo_bill 0 = .ok (.iload_n 1, 1) := by decide +kernel
theorem d_Mo_bill_1 : decode b_Mo_bill 1 = .ok (.iconst 0, 1) := by decide +kernel
theorem d_Mo_bill_2 : decode b_Mo_bill 2 = .ok (.bipush 9, 2) := by decide +kernel
theorem d_Mo_bill_4 : decode b_Mo_bill 4 = .ok (.invokestatic 89, 3) := by decide +kernel
theorem d_Mo_bill_7 : decode b_Mo_bill 7 = .ok (.ifCond .ne 7, 3) := by decide +kernel
theorem d_Mo_bill_10 : decode b_Mo_bill 10 = .ok (.iconst 1, 1) := by decide +kernel
theorem d_Mo_bill_11 : decode b_Mo_bill 11 = .ok (.goto 4, 3) := by decide +kernel
theorem d_Mo_bill_14 : decode b_Mo_bill 14 = .ok (.iconst 0, 1) := by decide +kernel
theorem d_Mo_bill_15 : decode b_Mo_bill 15 = .ok (.istore 5, 2) := by decide +kernel
theorem d_Mo_bill_17 : decode b_Mo_bill 17 = .ok (.iload_n 2, 1) := by decide +kernel
theorem d_Mo_bill_18 : decode b_Mo_bill 18 = .ok (.iconst 0, 1) := by decide +kernel
theorem d_Mo_bill_19 : decode b_Mo_bill 19 = .ok (.ldc 148, 2) := by decide +kernel
theorem d_Mo_bill_21 : decode b_Mo_bill 21 = .ok (.invokestatic 89, 3) := by decide +kernel
theorem d_Mo_bill_24 : decode b_Mo_bill 24 = .ok (.ifCond .eq 22, 3) := by decide +kernel
theorem d_Mo_bill_27 : decode b_Mo_bill 27 = .ok (.iload_n 3, 1) := by decide +kernel
theorem d_Mo_bill_28 : decode b_Mo_bill 28 = .ok (.invokestatic 97, 3) := by decide +kernel
theorem d_Mo_bill_31 : decode b_Mo_bill 31 = .ok (.ifCond .eq 15, 3) := by decide +kernel
theorem d_Mo_bill_34 : decode b_Mo_bill 34 = .ok (.iload 4, 2) := by decide +kernel
theorem d_Mo_bill_36 : decode b_Mo_bill 36 = .ok (.iconst 0, 1) := by decide +kernel
theorem d_Mo_bill_37 : decode b_Mo_bill 37 = .ok (.sipush 9999, 3) := by decide +kernel
theorem d_Mo_bill_40 : decode b_Mo_bill 40 = .ok (.invokestatic 89, 3) := by decide +kernel
theorem d_Mo_bill_43 : decode b_Mo_bill 43 = .ok (.ifCond .ne 7, 3) := by decide +kernel
theorem d_Mo_bill_46 : decode b_Mo_bill 46 = .ok (.iconst 1, 1) := by decide +kernel
theorem d_Mo_bill_47 : decode b_Mo_bill 47 = .ok (.goto 4, 3) := by decide +kernel
theorem d_Mo_bill_50 : decode b_Mo_bill 50 = .ok (.iconst 0, 1) := by decide +kernel
theorem d_Mo_bill_51 : decode b_Mo_bill 51 = .ok (.istore 6, 2) := by decide +kernel
theorem d_Mo_bill_53 : decode b_Mo_bill 53 = .ok (.iload 5, 2) := by decide +kernel
theorem d_Mo_bill_55 : decode b_Mo_bill 55 = .ok (.ifCond .ne 43, 3) := by decide +kernel
theorem d_Mo_bill_58 : decode b_Mo_bill 58 = .ok (.aload_n 0, 1) := by decide +kernel
theorem d_Mo_bill_59 : decode b_Mo_bill 59 = .ok (.getfield 45, 3) := by decide +kernel
theorem d_Mo_bill_62 : decode b_Mo_bill 62 = .ok (.iload 5, 2) := by decide +kernel
theorem d_Mo_bill_64 : decode b_Mo_bill 64 = .ok (.ifCond .eq 7, 3) := by decide +kernel
theorem d_Mo_bill_67 : decode b_Mo_bill 67 = .ok (.iconst 0, 1) := by decide +kernel
theorem d_Mo_bill_68 : decode b_Mo_bill 68 = .ok (.goto 4, 3) := by decide +kernel
theorem d_Mo_bill_71 : decode b_Mo_bill 71 = .ok (.iload_n 1, 1) := by decide +kernel
theorem d_Mo_bill_72 : decode b_Mo_bill 72 = .ok (.iaload, 1) := by decide +kernel
theorem d_Mo_bill_73 : decode b_Mo_bill 73 = .ok (.ifCond .ne 25, 3) := by decide +kernel
theorem d_Mo_bill_76 : decode b_Mo_bill 76 = .ok (.aload_n 0, 1) := by decide +kernel
theorem d_Mo_bill_77 : decode b_Mo_bill 77 = .ok (.getfield 48, 3) := by decide +kernel
theorem d_Mo_bill_80 : decode b_Mo_bill 80 = .ok (.iload 5, 2) := by decide +kernel
theorem d_Mo_bill_82 : decode b_Mo_bill 82 = .ok (.ifCond .eq 7, 3) := by decide +kernel
theorem d_Mo_bill_85 : decode b_Mo_bill 85 = .ok (.iconst 0, 1) := by decide +kernel
theorem d_Mo_bill_86 : decode b_Mo_bill 86 = .ok (.goto 4, 3) := by decide +kernel
theorem d_Mo_bill_89 : decode b_Mo_bill 89 = .ok (.iload_n 1, 1) := by decide +kernel
theorem d_Mo_bill_90 : decode b_Mo_bill 90 = .ok (.iaload, 1) := by decide +kernel
theorem d_Mo_bill_91 : decode b_Mo_bill 91 = .ok (.ifCond .ne 7, 3) := by decide +kernel
theorem d_Mo_bill_94 : decode b_Mo_bill 94 = .ok (.iconst 1, 1) := by decide +kernel
theorem d_Mo_bill_95 : decode b_Mo_bill 95 = .ok (.goto 4, 3) := by decide +kernel
theorem d_Mo_bill_98 : decode b_Mo_bill 98 = .ok (.iconst 0, 1) := by decide +kernel
theorem d_Mo_bill_99 : decode b_Mo_bill 99 = .ok (.istore 7, 2) := by decide +kernel
theorem d_Mo_bill_101 : decode b_Mo_bill 101 = .ok (.iload 5, 2) := by decide +kernel
theorem d_Mo_bill_103 : decode b_Mo_bill 103 = .ok (.ifCond .ne 8, 3) := by decide +kernel
theorem d_Mo_bill_106 : decode b_Mo_bill 106 = .ok (.iload 6, 2) := by decide +kernel
theorem d_Mo_bill_108 : decode b_Mo_bill 108 = .ok (.ifCond .eq 7, 3) := by decide +kernel
theorem d_Mo_bill_111 : decode b_Mo_bill 111 = .ok (.lconst 0, 1) := by decide +kernel
theorem d_Mo_bill_112 : decode b_Mo_bill 112 = .ok (.goto 30, 3) := by decide +kernel
theorem d_Mo_bill_115 : decode b_Mo_bill 115 = .ok (.aload_n 0, 1) := by decide +kernel
theorem d_Mo_bill_116 : decode b_Mo_bill 116 = .ok (.getfield 45, 3) := by decide +kernel
theorem d_Mo_bill_119 : decode b_Mo_bill 119 = .ok (.iload_n 1, 1) := by decide +kernel
theorem d_Mo_bill_120 : decode b_Mo_bill 120 = .ok (.iaload, 1) := by decide +kernel
theorem d_Mo_bill_121 : decode b_Mo_bill 121 = .ok (.i2l, 1) := by decide +kernel
theorem d_Mo_bill_122 : decode b_Mo_bill 122 = .ok (.aload_n 0, 1) := by decide +kernel
theorem d_Mo_bill_123 : decode b_Mo_bill 123 = .ok (.getfield 48, 3) := by decide +kernel
theorem d_Mo_bill_126 : decode b_Mo_bill 126 = .ok (.iload_n 1, 1) := by decide +kernel
theorem d_Mo_bill_127 : decode b_Mo_bill 127 = .ok (.iaload, 1) := by decide +kernel
theorem d_Mo_bill_128 : decode b_Mo_bill 128 = .ok (.i2l, 1) := by decide +kernel
theorem d_Mo_bill_129 : decode b_Mo_bill 129 = .ok (.iload_n 2, 1) := by decide +kernel
theorem d_Mo_bill_130 : decode b_Mo_bill 130 = .ok (.bipush 59, 2) := by decide +kernel
theorem d_Mo_bill_132 : decode b_Mo_bill 132 = .ok (.iadd, 1) := by decide +kernel
theorem d_Mo_bill_133 : decode b_Mo_bill 133 = .ok (.bipush 60, 2) := by decide +kernel
theorem d_Mo_bill_135 : decode b_Mo_bill 135 = .ok (.idiv, 1) := by decide +kernel
theorem d_Mo_bill_136 : decode b_Mo_bill 136 = .ok (.i2l, 1) := by decide +kernel
theorem d_Mo_bill_137 : decode b_Mo_bill 137 = .ok (.lmul, 1) := by decide +kernel
theorem d_Mo_bill_138 : decode b_Mo_bill 138 = .ok (.ladd, 1) := by decide +kernel
theorem d_Mo_bill_139 : decode b_Mo_bill 139 = .ok (.iload_n 3, 1) := by decide +kernel
theorem d_Mo_bill_140 : decode b_Mo_bill 140 = .ok (.i2l, 1) := by decide +kernel
theorem d_Mo_bill_141 : decode b_Mo_bill 141 = .ok (.ladd, 1) := by decide +kernel
theorem d_Mo_bill_142 : decode b_Mo_bill 142 = .ok (.lstore 8, 2) := by decide +kernel
theorem d_Mo_bill_144 : decode b_Mo_bill 144 = .ok (.aload_n 0, 1) := by decide +kernel
theorem d_Mo_bill_145 : decode b_Mo_bill 145 = .ok (.iload 5, 2) := by decide +kernel
theorem d_Mo_bill_147 : decode b_Mo_bill 147 = .ok (.iload 6, 2) := by decide +kernel
theorem d_Mo_bill_149 : decode b_Mo_bill 149 = .ok (.iload 7, 2) := by decide +kernel
theorem d_Mo_bill_151 : decode b_Mo_bill 151 = .ok (.aload_n 0, 1) := by decide +kernel
theorem d_Mo_bill_152 : decode b_Mo_bill 152 = .ok (.getfield 149, 3) := by decide +kernel
theorem d_Mo_bill_155 : decode b_Mo_bill 155 = .ok (.bipush 60, 2) := by decide +kernel
theorem d_Mo_bill_157 : decode b_Mo_bill 157 = .ok (.if_icmp .eq 12, 3) := by decide +kernel
theorem d_Mo_bill_160 : decode b_Mo_bill 160 = .ok (.lload 8, 2) := by decide +kernel
theorem d_Mo_bill_162 : decode b_Mo_bill 162 = .ok (.ldc2_w 152, 3) := by decide +kernel
theorem d_Mo_bill_165 : decode b_Mo_bill 165 = .ok (.lcmp, 1) := by decide +kernel
theorem d_Mo_bill_166 : decode b_Mo_bill 166 = .ok (.ifCond .le 7, 3) := by decide +kernel
theorem d_Mo_bill_169 : decode b_Mo_bill 169 = .ok (.iconst 1, 1) := by decide +kernel
theorem d_Mo_bill_170 : decode b_Mo_bill 170 = .ok (.goto 4, 3) := by decide +kernel
theorem d_Mo_bill_173 : decode b_Mo_bill 173 = .ok (.iconst 0, 1) := by decide +kernel
theorem d_Mo_bill_174 : decode b_Mo_bill 174 = .ok (.invokevirtual 101, 3) := by decide +kernel
theorem d_Mo_bill_177 : decode b_Mo_bill 177 = .ok (.ifCond .eq 5, 3) := by decide +kernel
theorem d_Mo_bill_180 : decode b_Mo_bill 180 = .ok (.iconst 0, 1) := by decide +kernel
theorem d_Mo_bill_181 : decode b_Mo_bill 181 = .ok (.ireturn, 1) := by decide +kernel
theorem d_Mo_bill_182 : decode b_Mo_bill 182 = .ok (.aload_n 0, 1) := by decide +kernel
theorem d_Mo_bill_183 : decode b_Mo_bill 183 = .ok (.getfield 51, 3) := by decide +kernel
theorem d_Mo_bill_186 : decode b_Mo_bill 186 = .ok (.aload_n 0, 1) := by decide +kernel
theorem d_Mo_bill_187 : decode b_Mo_bill 187 = .ok (.getfield 149, 3) := by decide +kernel
theorem d_Mo_bill_190 : decode b_Mo_bill 190 = .ok (.lload 8, 2) := by decide +kernel
theorem d_Mo_bill_192 : decode b_Mo_bill 192 = .ok (.l2i, 1) := by decide +kernel
theorem d_Mo_bill_193 : decode b_Mo_bill 193 = .ok (.iastore, 1) := by decide +kernel
theorem d_Mo_bill_194 : decode b_Mo_bill 194 = .ok (.aload_n 0, 1) := by decide +kernel
theorem d_Mo_bill_195 : decode b_Mo_bill 195 = .ok (.getfield 57, 3) := by decide +kernel
theorem d_Mo_bill_198 : decode b_Mo_bill 198 = .ok (.aload_n 0, 1) := by decide +kernel
theorem d_Mo_bill_199 : decode b_Mo_bill 199 = .ok (.getfield 149, 3) := by decide +kernel
theorem d_Mo_bill_202 : decode b_Mo_bill 202 = .ok (.iload 4, 2) := by decide +kernel
theorem d_Mo_bill_204 : decode b_Mo_bill 204 = .ok (.iastore, 1) := by decide +kernel
theorem d_Mo_bill_205 : decode b_Mo_bill 205 = .ok (.aload_n 0, 1) := by decide +kernel
theorem d_Mo_bill_206 : decode b_Mo_bill 206 = .ok (.dup, 1) := by decide +kernel
theorem d_Mo_bill_207 : decode b_Mo_bill 207 = .ok (.getfield 149, 3) := by decide +kernel
theorem d_Mo_bill_210 : decode b_Mo_bill 210 = .ok (.iconst 1, 1) := by decide +kernel
theorem d_Mo_bill_211 : decode b_Mo_bill 211 = .ok (.iadd, 1) := by decide +kernel
theorem d_Mo_bill_212 : decode b_Mo_bill 212 = .ok (.putfield 149, 3) := by decide +kernel
theorem d_Mo_bill_215 : decode b_Mo_bill 215 = .ok (.aload_n 0, 1) := by decide +kernel
theorem d_Mo_bill_216 : decode b_Mo_bill 216 = .ok (.getfield 149, 3) := by decide +kernel
theorem d_Mo_bill_219 : decode b_Mo_bill 219 = .ok (.iconst 1, 1) := by decide +kernel
theorem d_Mo_bill_220 : decode b_Mo_bill 220 = .ok (.isub, 1) := by decide +kernel
theorem d_Mo_bill_221 : decode b_Mo_bill 221 = .ok (.ireturn, 1) := by decide +kernel
theorem d_Mo_isBill_0 : decode b_Mo_isBill 0 = .ok (.iload_n 1, 1) := by decide +kernel
theorem d_Mo_isBill_1 : decode b_Mo_isBill 1 = .ok (.iconst 0, 1) := by decide +kernel
theorem d_Mo_isBill_2 : decode b_Mo_isBill 2 = .ok (.aload_n 0, 1) := by decide +kernel
theorem d_Mo_isBill_3 : decode b_Mo_isBill 3 = .ok (.getfield 149, 3) := by decide +kernel
theorem d_Mo_isBill_6 : decode b_Mo_isBill 6 = .ok (.iconst 1, 1) := by decide +kernel
theorem d_Mo_isBill_7 : decode b_Mo_isBill 7 = .ok (.isub, 1) := by decide +kernel
theorem d_Mo_isBill_8 : decode b_Mo_isBill 8 = .ok (.invokestatic 89, 3) := by decide +kernel
theorem d_Mo_isBill_11 : decode b_Mo_isBill 11 = .ok (.ireturn, 1) := by decide +kernel
theorem d_Mo_pay_0 : decode b_Mo_pay 0 = .ok (.aload_n 0, 1) := by decide +kernel
theorem d_Mo_pay_1 : decode b_Mo_pay 1 = .ok (.iload_n 1, 1) := by decide +kernel
theorem d_Mo_pay_2 : decode b_Mo_pay 2 = .ok (.invokevirtual 154, 3) := by decide +kernel
theorem d_Mo_pay_5 : decode b_Mo_pay 5 = .ok (.ifCond .ne 7, 3) := by decide +kernel
theorem d_Mo_pay_8 : decode b_Mo_pay 8 = .ok (.iconst 1, 1) := by decide +kernel
theorem d_Mo_pay_9 : decode b_Mo_pay 9 = .ok (.goto 4, 3) := by decide +kernel
theorem d_Mo_pay_12 : decode b_Mo_pay 12 = .ok (.iconst 0, 1) := by decide +kernel
theorem d_Mo_pay_13 : decode b_Mo_pay 13 = .ok (.istore_n 3, 1) := by decide +kernel
theorem d_Mo_pay_14 : decode b_Mo_pay 14 = .ok (.iload_n 2, 1) := by decide +kernel
theorem d_Mo_pay_15 : decode b_Mo_pay 15 = .ok (.iconst 1, 1) := by decide +kernel
theorem d_Mo_pay_16 : decode b_Mo_pay 16 = .ok (.ldc 88, 2) := by decide +kernel
theorem d_Mo_pay_18 : decode b_Mo_pay 18 = .ok (.invokestatic 89, 3) := by decide +kernel
theorem d_Mo_pay_21 : decode b_Mo_pay 21 = .ok (.ifCond .ne 7, 3) := by decide +kernel
theorem d_Mo_pay_24 : decode b_Mo_pay 24 = .ok (.iconst 1, 1) := by decide +kernel
theorem d_Mo_pay_25 : decode b_Mo_pay 25 = .ok (.goto 4, 3) := by decide +kernel
theorem d_Mo_pay_28 : decode b_Mo_pay 28 = .ok (.iconst 0, 1) := by decide +kernel
theorem d_Mo_pay_29 : decode b_Mo_pay 29 = .ok (.istore 4, 2) := by decide +kernel
theorem d_Mo_pay_31 : decode b_Mo_pay 31 = .ok (.aload_n 0, 1) := by decide +kernel
theorem d_Mo_pay_32 : decode b_Mo_pay 32 = .ok (.iload_n 3, 1) := by decide +kernel
theorem d_Mo_pay_33 : decode b_Mo_pay 33 = .ok (.iload 4, 2) := by decide +kernel
theorem d_Mo_pay_35 : decode b_Mo_pay 35 = .ok (.iload_n 3, 1) := by decide +kernel
theorem d_Mo_pay_36 : decode b_Mo_pay 36 = .ok (.ifCond .ne 45, 3) := by decide +kernel
theorem d_Mo_pay_39 : decode b_Mo_pay 39 = .ok (.iload 4, 2) := by decide +kernel
theorem d_Mo_pay_41 : decode b_Mo_pay 41 = .ok (.ifCond .ne 40, 3) := by decide +kernel
theorem d_Mo_pay_44 : decode b_Mo_pay 44 = .ok (.iload_n 2, 1) := by decide +kernel
theorem d_Mo_pay_45 : decode b_Mo_pay 45 = .ok (.aload_n 0, 1) := by decide +kernel
theorem d_Mo_pay_46 : decode b_Mo_pay 46 = .ok (.getfield 51, 3) := by decide +kernel
theorem d_Mo_pay_49 : decode b_Mo_pay 49 = .ok (.iload_n 3, 1) := by decide +kernel
theorem d_Mo_pay_50 : decode b_Mo_pay 50 = .ok (.ifCond .eq 7, 3) := by decide +kernel
theorem d_Mo_pay_53 : decode b_Mo_pay 53 = .ok (.iconst 0, 1) := by decide +kernel
theorem d_Mo_pay_54 : decode b_Mo_pay 54 = .ok (.goto 4, 3) := by decide +kernel
theorem d_Mo_pay_57 : decode b_Mo_pay 57 = .ok (.iload_n 1, 1) := by decide +kernel
theorem d_Mo_pay_58 : decode b_Mo_pay 58 = .ok (.iaload, 1) := by decide +kernel
theorem d_Mo_pay_59 : decode b_Mo_pay 59 = .ok (.aload_n 0, 1) := by decide +kernel
theorem d_Mo_pay_60 : decode b_Mo_pay 60 = .ok (.getfield 54, 3) := by decide +kernel
theorem d_Mo_pay_63 : decode b_Mo_pay 63 = .ok (.iload_n 3, 1) := by decide +kernel
theorem d_Mo_pay_64 : decode b_Mo_pay 64 = .ok (.ifCond .eq 7, 3) := by decide +kernel
theorem d_Mo_pay_67 : decode b_Mo_pay 67 = .ok (.iconst 0, 1) := by decide +kernel
theorem d_Mo_pay_68 : decode b_Mo_pay 68 = .ok (.goto 4, 3) := by decide +kernel
theorem d_Mo_pay_71 : decode b_Mo_pay 71 = .ok (.iload_n 1, 1) := by decide +kernel
theorem d_Mo_pay_72 : decode b_Mo_pay 72 = .ok (.iaload, 1) := by decide +kernel
theorem d_Mo_pay_73 : decode b_Mo_pay 73 = .ok (.isub, 1) := by decide +kernel
theorem d_Mo_pay_74 : decode b_Mo_pay 74 = .ok (.if_icmp .le 7, 3) := by decide +kernel
theorem d_Mo_pay_77 : decode b_Mo_pay 77 = .ok (.iconst 1, 1) := by decide +kernel
theorem d_Mo_pay_78 : decode b_Mo_pay 78 = .ok (.goto 4, 3) := by decide +kernel
theorem d_Mo_pay_81 : decode b_Mo_pay 81 = .ok (.iconst 0, 1) := by decide +kernel
theorem d_Mo_pay_82 : decode b_Mo_pay 82 = .ok (.iconst 0, 1) := by decide +kernel
theorem d_Mo_pay_83 : decode b_Mo_pay 83 = .ok (.invokevirtual 101, 3) := by decide +kernel
theorem d_Mo_pay_86 : decode b_Mo_pay 86 = .ok (.ifCond .eq 5, 3) := by decide +kernel
theorem d_Mo_pay_89 : decode b_Mo_pay 89 = .ok (.iconst 0, 1) := by decide +kernel
theorem d_Mo_pay_90 : decode b_Mo_pay 90 = .ok (.ireturn, 1) := by decide +kernel
theorem d_Mo_pay_91 : decode b_Mo_pay 91 = .ok (.aload_n 0, 1) := by decide +kernel
theorem d_Mo_pay_92 : decode b_Mo_pay 92 = .ok (.getfield 54, 3) := by decide +kernel
theorem d_Mo_pay_95 : decode b_Mo_pay 95 = .ok (.iload_n 1, 1) := by decide +kernel
theorem d_Mo_pay_96 : decode b_Mo_pay 96 = .ok (.dup2, 1) := by decide +kernel
theorem d_Mo_pay_97 : decode b_Mo_pay 97 = .ok (.iaload, 1) := by decide +kernel
theorem d_Mo_pay_98 : decode b_Mo_pay 98 = .ok (.iload_n 2, 1) := by decide +kernel
theorem d_Mo_pay_99 : decode b_Mo_pay 99 = .ok (.iadd, 1) := by decide +kernel
theorem d_Mo_pay_100 : decode b_Mo_pay 100 = .ok (.iastore, 1) := by decide +kernel
theorem d_Mo_pay_101 : decode b_Mo_pay 101 = .ok (.aload_n 0, 1) := by decide +kernel
theorem d_Mo_pay_102 : decode b_Mo_pay 102 = .ok (.getfield 51, 3) := by decide +kernel
theorem d_Mo_pay_105 : decode b_Mo_pay 105 = .ok (.iload_n 1, 1) := by decide +kernel
theorem d_Mo_pay_106 : decode b_Mo_pay 106 = .ok (.iaload, 1) := by decide +kernel
theorem d_Mo_pay_107 : decode b_Mo_pay 107 = .ok (.aload_n 0, 1) := by decide +kernel
theorem d_Mo_pay_108 : decode b_Mo_pay 108 = .ok (.getfield 54, 3) := by decide +kernel
theorem d_Mo_pay_111 : decode b_Mo_pay 111 = .ok (.iload_n 1, 1) := by decide +kernel
theorem d_Mo_pay_112 : decode b_Mo_pay 112 = .ok (.iaload, 1) := by decide +kernel
theorem d_Mo_pay_113 : decode b_Mo_pay 113 = .ok (.isub, 1) := by decide +kernel
theorem d_Mo_pay_114 : decode b_Mo_pay 114 = .ok (.ireturn, 1) := by decide +kernel
theorem d_Mo_dispute_0 : decode b_Mo_dispute 0 = .ok (.aload_n 0, 1) := by decide +kernel
theorem d_Mo_dispute_1 : decode b_Mo_dispute 1 = .ok (.iload_n 1, 1) := by decide +kernel
theorem d_Mo_dispute_2 : decode b_Mo_dispute 2 = .ok (.invokevirtual 154, 3) := by decide +kernel
theorem d_Mo_dispute_5 : decode b_Mo_dispute 5 = .ok (.ifCond .ne 7, 3) := by decide +kernel
theorem d_Mo_dispute_8 : decode b_Mo_dispute 8 = .ok (.iconst 1, 1) := by decide +kernel
theorem d_Mo_dispute_9 : decode b_Mo_dispute 9 = .ok (.goto 4, 3) := by decide +kernel
theorem d_Mo_dispute_12 : decode b_Mo_dispute 12 = .ok (.iconst 0, 1) := by decide +kernel
theorem d_Mo_dispute_13 : decode b_Mo_dispute 13 = .ok (.istore_n 3, 1) := by decide +kernel
theorem d_Mo_dispute_14 : decode b_Mo_dispute 14 = .ok (.iload_n 3, 1) := by decide +kernel
theorem d_Mo_dispute_15 : decode b_Mo_dispute 15 = .ok (.ifCond .ne 60, 3) := by decide +kernel
theorem d_Mo_dispute_18 : decode b_Mo_dispute 18 = .ok (.aload_n 0, 1) := by decide +kernel
theorem d_Mo_dispute_19 : decode b_Mo_dispute 19 = .ok (.getfield 63, 3) := by decide +kernel
theorem d_Mo_dispute_22 : decode b_Mo_dispute 22 = .ok (.iload_n 3, 1) := by decide +kernel
theorem d_Mo_dispute_23 : decode b_Mo_dispute 23 = .ok (.ifCond .eq 7, 3) := by decide +kernel
theorem d_Mo_dispute_26 : decode b_Mo_dispute 26 = .ok (.iconst 0, 1) := by decide +kernel
theorem d_Mo_dispute_27 : decode b_Mo_dispute 27 = .ok (.goto 4, 3) := by decide +kernel
theorem d_Mo_dispute_30 : decode b_Mo_dispute 30 = .ok (.iload_n 1, 1) := by decide +kernel
theorem d_Mo_dispute_31 : decode b_Mo_dispute 31 = .ok (.baload, 1) := by decide +kernel
theorem d_Mo_dispute_32 : decode b_Mo_dispute 32 = .ok (.iload_n 2, 1) := by decide +kernel
theorem d_Mo_dispute_33 : decode b_Mo_dispute 33 = .ok (.if_icmp .eq 38, 3) := by decide +kernel
theorem d_Mo_dispute_36 : decode b_Mo_dispute 36 = .ok (.iload_n 2, 1) := by decide +kernel
theorem d_Mo_dispute_37 : decode b_Mo_dispute 37 = .ok (.ifCond .eq 38, 3) := by decide +kernel
theorem d_Mo_dispute_40 : decode b_Mo_dispute 40 = .ok (.aload_n 0, 1) := by decide +kernel
theorem d_Mo_dispute_41 : decode b_Mo_dispute 41 = .ok (.getfield 54, 3) := by decide +kernel
theorem d_Mo_dispute_44 : decode b_Mo_dispute 44 = .ok (.iload_n 3, 1) := by decide +kernel
theorem d_Mo_dispute_45 : decode b_Mo_dispute 45 = .ok (.ifCond .eq 7, 3) := by decide +kernel
theorem d_Mo_dispute_48 : decode b_Mo_dispute 48 = .ok (.iconst 0, 1) := by decide +kernel
theorem d_Mo_dispute_49 : decode b_Mo_dispute 49 = .ok (.goto 4, 3) := by decide +kernel
theorem d_Mo_dispute_52 : decode b_Mo_dispute 52 = .ok (.iload_n 1, 1) := by decide +kernel
theorem d_Mo_dispute_53 : decode b_Mo_dispute 53 = .ok (.iaload, 1) := by decide +kernel
theorem d_Mo_dispute_54 : decode b_Mo_dispute 54 = .ok (.aload_n 0, 1) := by decide +kernel
theorem d_Mo_dispute_55 : decode b_Mo_dispute 55 = .ok (.getfield 51, 3) := by decide +kernel
theorem d_Mo_dispute_58 : decode b_Mo_dispute 58 = .ok (.iload_n 3, 1) := by decide +kernel
theorem d_Mo_dispute_59 : decode b_Mo_dispute 59 = .ok (.ifCond .eq 7, 3) := by decide +kernel
theorem d_Mo_dispute_62 : decode b_Mo_dispute 62 = .ok (.iconst 0, 1) := by decide +kernel
theorem d_Mo_dispute_63 : decode b_Mo_dispute 63 = .ok (.goto 4, 3) := by decide +kernel
theorem d_Mo_dispute_66 : decode b_Mo_dispute 66 = .ok (.iload_n 1, 1) := by decide +kernel
theorem d_Mo_dispute_67 : decode b_Mo_dispute 67 = .ok (.iaload, 1) := by decide +kernel
theorem d_Mo_dispute_68 : decode b_Mo_dispute 68 = .ok (.if_icmp .lt 7, 3) := by decide +kernel
theorem d_Mo_dispute_71 : decode b_Mo_dispute 71 = .ok (.iconst 1, 1) := by decide +kernel
theorem d_Mo_dispute_72 : decode b_Mo_dispute 72 = .ok (.goto 4, 3) := by decide +kernel
theorem d_Mo_dispute_75 : decode b_Mo_dispute 75 = .ok (.iconst 0, 1) := by decide +kernel
theorem d_Mo_dispute_76 : decode b_Mo_dispute 76 = .ok (.istore 4, 2) := by decide +kernel
theorem d_Mo_dispute_78 : decode b_Mo_dispute 78 = .ok (.aload_n 0, 1) := by decide +kernel
theorem d_Mo_dispute_79 : decode b_Mo_dispute 79 = .ok (.iload_n 3, 1) := by decide +kernel
theorem d_Mo_dispute_80 : decode b_Mo_dispute 80 = .ok (.iload 4, 2) := by decide +kernel
theorem d_Mo_dispute_82 : decode b_Mo_dispute 82 = .ok (.iconst 0, 1) := by decide +kernel
theorem d_Mo_dispute_83 : decode b_Mo_dispute 83 = .ok (.iconst 0, 1) := by decide +kernel
theorem d_Mo_dispute_84 : decode b_Mo_dispute 84 = .ok (.invokevirtual 101, 3) := by decide +kernel
theorem d_Mo_dispute_87 : decode b_Mo_dispute 87 = .ok (.ifCond .eq 4, 3) := by decide +kernel
theorem d_Mo_dispute_90 : decode b_Mo_dispute 90 = .ok (.return_, 1) := by decide +kernel
theorem d_Mo_dispute_91 : decode b_Mo_dispute 91 = .ok (.aload_n 0, 1) := by decide +kernel
theorem d_Mo_dispute_92 : decode b_Mo_dispute 92 = .ok (.getfield 63, 3) := by decide +kernel
theorem d_Mo_dispute_95 : decode b_Mo_dispute 95 = .ok (.iload_n 1, 1) := by decide +kernel
theorem d_Mo_dispute_96 : decode b_Mo_dispute 96 = .ok (.iload_n 2, 1) := by decide +kernel
theorem d_Mo_dispute_97 : decode b_Mo_dispute 97 = .ok (.bastore, 1) := by decide +kernel
theorem d_Mo_dispute_98 : decode b_Mo_dispute 98 = .ok (.return_, 1) := by decide +kernel
theorem d_Mo_remind_0 : decode b_Mo_remind 0 = .ok (.aload_n 0, 1) := by decide +kernel
theorem d_Mo_remind_1 : decode b_Mo_remind 1 = .ok (.iload_n 1, 1) := by decide +kernel
theorem d_Mo_remind_2 : decode b_Mo_remind 2 = .ok (.iconst 0, 1) := by decide +kernel
theorem d_Mo_remind_3 : decode b_Mo_remind 3 = .ok (.sipush 9999, 3) := by decide +kernel
theorem d_Mo_remind_6 : decode b_Mo_remind 6 = .ok (.invokestatic 89, 3) := by decide +kernel
theorem d_Mo_remind_9 : decode b_Mo_remind 9 = .ok (.ifCond .ne 7, 3) := by decide +kernel
theorem d_Mo_remind_12 : decode b_Mo_remind 12 = .ok (.iconst 1, 1) := by decide +kernel
theorem d_Mo_remind_13 : decode b_Mo_remind 13 = .ok (.goto 4, 3) := by decide +kernel
theorem d_Mo_remind_16 : decode b_Mo_remind 16 = .ok (.iconst 0, 1) := by decide +kernel
theorem d_Mo_remind_17 : decode b_Mo_remind 17 = .ok (.iconst 0, 1) := by decide +kernel
theorem d_Mo_remind_18 : decode b_Mo_remind 18 = .ok (.iconst 0, 1) := by decide +kernel
theorem d_Mo_remind_19 : decode b_Mo_remind 19 = .ok (.iconst 0, 1) := by decide +kernel
theorem d_Mo_remind_20 : decode b_Mo_remind 20 = .ok (.invokevirtual 101, 3) := by decide +kernel
theorem d_Mo_remind_23 : decode b_Mo_remind 23 = .ok (.ifCond .eq 5, 3) := by decide +kernel
theorem d_Mo_remind_26 : decode b_Mo_remind 26 = .ok (.iconst 0, 1) := by decide +kernel
theorem d_Mo_remind_27 : decode b_Mo_remind 27 = .ok (.ireturn, 1) := by decide +kernel
theorem d_Mo_remind_28 : decode b_Mo_remind 28 = .ok (.iconst 0, 1) := by decide +kernel
theorem d_Mo_remind_29 : decode b_Mo_remind 29 = .ok (.istore_n 2, 1) := by decide +kernel
theorem d_Mo_remind_30 : decode b_Mo_remind 30 = .ok (.iconst 0, 1) := by decide +kernel
theorem d_Mo_remind_31 : decode b_Mo_remind 31 = .ok (.istore_n 3, 1) := by decide +kernel
theorem d_Mo_remind_32 : decode b_Mo_remind 32 = .ok (.iload_n 3, 1) := by decide +kernel
theorem d_Mo_remind_33 : decode b_Mo_remind 33 = .ok (.aload_n 0, 1) := by decide +kernel
theorem d_Mo_remind_34 : decode b_Mo_remind 34 = .ok (.getfield 149, 3) := by decide +kernel
theorem d_Mo_remind_37 : decode b_Mo_remind 37 = .ok (.if_icmp .ge 56, 3) := by decide +kernel
theorem d_Mo_remind_40 : decode b_Mo_remind 40 = .ok (.aload_n 0, 1) := by decide +kernel
theorem d_Mo_remind_41 : decode b_Mo_remind 41 = .ok (.getfield 54, 3) := by decide +kernel
theorem d_Mo_remind_44 : decode b_Mo_remind 44 = .ok (.iload_n 3, 1) := by decide +kernel
theorem d_Mo_remind_45 : decode b_Mo_remind 45 = .ok (.iaload, 1) := by decide +kernel
theorem d_Mo_remind_46 : decode b_Mo_remind 46 = .ok (.aload_n 0, 1) := by decide +kernel
theorem d_Mo_remind_47 : decode b_Mo_remind 47 = .ok (.getfield 51, 3) := by decide +kernel
theorem d_Mo_remind_50 : decode b_Mo_remind 50 = .ok (.iload_n 3, 1) := by decide +kernel
theorem d_Mo_remind_51 : decode b_Mo_remind 51 = .ok (.iaload, 1) := by decide +kernel
theorem d_Mo_remind_52 : decode b_Mo_remind 52 = .ok (.if_icmp .ge 35, 3) := by decide +kernel
theorem d_Mo_remind_55 : decode b_Mo_remind 55 = .ok (.aload_n 0, 1) := by decide +kernel
theorem d_Mo_remind_56 : decode b_Mo_remind 56 = .ok (.getfield 63, 3) := by decide +kernel
theorem d_Mo_remind_59 : decode b_Mo_remind 59 = .ok (.iload_n 3, 1) := by decide +kernel
theorem d_Mo_remind_60 : decode b_Mo_remind 60 = .ok (.baload, 1) := by decide +kernel
theorem d_Mo_remind_61 : decode b_Mo_remind 61 = .ok (.ifCond .ne 26, 3) := by decide +kernel
theorem d_Mo_remind_64 : decode b_Mo_remind 64 = .ok (.aload_n 0, 1) := by decide +kernel
theorem d_Mo_remind_65 : decode b_Mo_remind 65 = .ok (.getfield 57, 3) := by decide +kernel
theorem d_Mo_remind_68 : decode b_Mo_remind 68 = .ok (.iload_n 3, 1) := by decide +kernel
theorem d_Mo_remind_69 : decode b_Mo_remind 69 = .ok (.iaload, 1) := by decide +kernel
theorem d_Mo_remind_70 : decode b_Mo_remind 70 = .ok (.iload_n 1, 1) := by decide +kernel
theorem d_Mo_remind_71 : decode b_Mo_remind 71 = .ok (.if_icmp .ge 16, 3) := by decide +kernel
theorem d_Mo_remind_74 : decode b_Mo_remind 74 = .ok (.aload_n 0, 1) := by decide +kernel
theorem d_Mo_remind_75 : decode b_Mo_remind 75 = .ok (.getfield 60, 3) := by decide +kernel
theorem d_Mo_remind_78 : decode b_Mo_remind 78 = .ok (.iload_n 3, 1) := by decide +kernel
theorem d_Mo_remind_79 : decode b_Mo_remind 79 = .ok (.dup2, 1) := by decide +kernel
theorem d_Mo_remind_80 : decode b_Mo_remind 80 = .ok (.iaload, 1) := by decide +kernel
theorem d_Mo_remind_81 : decode b_Mo_remind 81 = .ok (.iconst 1, 1) := by decide +kernel
theorem d_Mo_remind_82 : decode b_Mo_remind 82 = .ok (.iadd, 1) := by decide +kernel
theorem d_Mo_remind_83 : decode b_Mo_remind 83 = .ok (.iastore, 1) := by decide +kernel
theorem d_Mo_remind_84 : decode b_Mo_remind 84 = .ok (.iinc 2 1, 3) := by decide +kernel
theorem d_Mo_remind_87 : decode b_Mo_remind 87 = .ok (.iinc 3 1, 3) := by decide +kernel
theorem d_Mo_remind_90 : decode b_Mo_remind 90 = .ok (.goto (-58), 3) := by decide +kernel
theorem d_Mo_remind_93 : decode b_Mo_remind 93 = .ok (.iload_n 2, 1) := by decide +kernel
theorem d_Mo_remind_94 : decode b_Mo_remind 94 = .ok (.ireturn, 1) := by decide +kernel
theorem d_Mo_billAt_0 : decode b_Mo_billAt 0 = .ok (.aload_n 0, 1) := by decide +kernel
theorem d_Mo_billAt_1 : decode b_Mo_billAt 1 = .ok (.aload_n 0, 1) := by decide +kernel
theorem d_Mo_billAt_2 : decode b_Mo_billAt 2 = .ok (.iload_n 1, 1) := by decide +kernel
theorem d_Mo_billAt_3 : decode b_Mo_billAt 3 = .ok (.invokevirtual 154, 3) := by decide +kernel
theorem d_Mo_billAt_6 : decode b_Mo_billAt 6 = .ok (.ifCond .eq 12, 3) := by decide +kernel
theorem d_Mo_billAt_9 : decode b_Mo_billAt 9 = .ok (.iload_n 2, 1) := by decide +kernel
theorem d_Mo_billAt_10 : decode b_Mo_billAt 10 = .ok (.iconst 0, 1) := by decide +kernel
theorem d_Mo_billAt_11 : decode b_Mo_billAt 11 = .ok (.iconst 3, 1) := by decide +kernel
theorem d_Mo_billAt_12 : decode b_Mo_billAt 12 = .ok (.invokestatic 89, 3) := by decide +kernel
theorem d_Mo_billAt_15 : decode b_Mo_billAt 15 = .ok (.ifCond .ne 7, 3) := by decide +kernel
theorem d_Mo_billAt_18 : decode b_Mo_billAt 18 = .ok (.iconst 1, 1) := by decide +kernel
theorem d_Mo_billAt_19 : decode b_Mo_billAt 19 = .ok (.goto 4, 3) := by decide +kernel
theorem d_Mo_billAt_22 : decode b_Mo_billAt 22 = .ok (.iconst 0, 1) := by decide +kernel
theorem d_Mo_billAt_23 : decode b_Mo_billAt 23 = .ok (.iconst 0, 1) := by decide +kernel
theorem d_Mo_billAt_24 : decode b_Mo_billAt 24 = .ok (.iconst 0, 1) := by decide +kernel
theorem d_Mo_billAt_25 : decode b_Mo_billAt 25 = .ok (.iconst 0, 1) := by decide +kernel
theorem d_Mo_billAt_26 : decode b_Mo_billAt 26 = .ok (.invokevirtual 101, 3) := by decide +kernel
theorem d_Mo_billAt_29 : decode b_Mo_billAt 29 = .ok (.ifCond .eq 5, 3) := by decide +kernel
theorem d_Mo_billAt_32 : decode b_Mo_billAt 32 = .ok (.iconst 0, 1) := by decide +kernel
theorem d_Mo_billAt_33 : decode b_Mo_billAt 33 = .ok (.ireturn, 1) := by decide +kernel
theorem d_Mo_billAt_34 : decode b_Mo_billAt 34 = .ok (.iload_n 2, 1) := by decide +kernel
theorem d_Mo_billAt_35 : decode b_Mo_billAt 35 = .ok (.ifCond .ne 12, 3) := by decide +kernel
theorem d_Mo_billAt_38 : decode b_Mo_billAt 38 = .ok (.aload_n 0, 1) := by decide +kernel
theorem d_Mo_billAt_39 : decode b_Mo_billAt 39 = .ok (.getfield 51, 3) := by decide +kernel
theorem d_Mo_billAt_42 : decode b_Mo_billAt 42 = .ok (.iload_n 1, 1) := by decide +kernel
theorem d_Mo_billAt_43 : decode b_Mo_billAt 43 = .ok (.iaload, 1) := by decide +kernel
theorem d_Mo_billAt_44 : decode b_Mo_billAt 44 = .ok (.goto 45, 3) := by decide +kernel
theorem d_Mo_billAt_47 : decode b_Mo_billAt 47 = .ok (.iload_n 2, 1) := by decide +kernel
theorem d_Mo_billAt_48 : decode b_Mo_billAt 48 = .ok (.iconst 1, 1) := by decide +kernel
theorem d_Mo_billAt_49 : decode b_Mo_billAt 49 = .ok (.if_icmp .ne 12, 3) := by decide +kernel
theorem d_Mo_billAt_52 : decode b_Mo_billAt 52 = .ok (.aload_n 0, 1) := by decide +kernel
theorem d_Mo_billAt_53 : decode b_Mo_billAt 53 = .ok (.getfield 54, 3) := by decide +kernel
theorem d_Mo_billAt_56 : decode b_Mo_billAt 56 = .ok (.iload_n 1, 1) := by decide +kernel
theorem d_Mo_billAt_57 : decode b_Mo_billAt 57 = .ok (.iaload, 1) := by decide +kernel
theorem d_Mo_billAt_58 : decode b_Mo_billAt 58 = .ok (.goto 31, 3) := by decide +kernel
theorem d_Mo_billAt_61 : decode b_Mo_billAt 61 = .ok (.iload_n 2, 1) := by decide +kernel
theorem d_Mo_billAt_62 : decode b_Mo_billAt 62 = .ok (.iconst 2, 1) := by decide +kernel
theorem d_Mo_billAt_63 : decode b_Mo_billAt 63 = .ok (.if_icmp .ne 20, 3) := by decide +kernel
theorem d_Mo_billAt_66 : decode b_Mo_billAt 66 = .ok (.aload_n 0, 1) := by decide +kernel
theorem d_Mo_billAt_67 : decode b_Mo_billAt 67 = .ok (.getfield 63, 3) := by decide +kernel
theorem d_Mo_billAt_70 : decode b_Mo_billAt 70 = .ok (.iload_n 1, 1) := by decide +kernel
theorem d_Mo_billAt_71 : decode b_Mo_billAt 71 = .ok (.baload, 1) := by decide +kernel
theorem d_Mo_billAt_72 : decode b_Mo_billAt 72 = .ok (.ifCond .eq 7, 3) := by decide +kernel
theorem d_Mo_billAt_75 : decode b_Mo_billAt 75 = .ok (.iconst 1, 1) := by decide +kernel
theorem d_Mo_billAt_76 : decode b_Mo_billAt 76 = .ok (.goto 13, 3) := by decide +kernel
theorem d_Mo_billAt_79 : decode b_Mo_billAt 79 = .ok (.iconst 0, 1) := by decide +kernel
theorem d_Mo_billAt_80 : decode b_Mo_billAt 80 = .ok (.goto 9, 3) := by decide +kernel
theorem d_Mo_billAt_83 : decode b_Mo_billAt 83 = .ok (.aload_n 0, 1) := by decide +kernel
theorem d_Mo_billAt_84 : decode b_Mo_billAt 84 = .ok (.getfield 60, 3) := by decide +kernel
theorem d_Mo_billAt_87 : decode b_Mo_billAt 87 = .ok (.iload_n 1, 1) := by decide +kernel
theorem d_Mo_billAt_88 : decode b_Mo_billAt 88 = .ok (.iaload, 1) := by decide +kernel
theorem d_Mo_billAt_89 : decode b_Mo_billAt 89 = .ok (.ireturn, 1) := by decide +kernel
theorem d_Mo_weight_0 : decode b_Mo_weight 0 = .ok (.aload_n 0, 1) := by decide +kernel
theorem d_Mo_weight_1 : decode b_Mo_weight 1 = .ok (.iload_n 1, 1) := by decide +kernel
theorem d_Mo_weight_2 : decode b_Mo_weight 2 = .ok (.iconst 0, 1) := by decide +kernel
theorem d_Mo_weight_3 : decode b_Mo_weight 3 = .ok (.iconst 5, 1) := by decide +kernel
theorem d_Mo_weight_4 : decode b_Mo_weight 4 = .ok (.invokestatic 89, 3) := by decide +kernel
theorem d_Mo_weight_7 : decode b_Mo_weight 7 = .ok (.ifCond .ne 7, 3) := by decide +kernel
theorem d_Mo_weight_10 : decode b_Mo_weight 10 = .ok (.iconst 1, 1) := by decide +kernel
theorem d_Mo_weight_11 : decode b_Mo_weight 11 = .ok (.goto 4, 3) := by decide +kernel
theorem d_Mo_weight_14 : decode b_Mo_weight 14 = .ok (.iconst 0, 1) := by decide +kernel
theorem d_Mo_weight_15 : decode b_Mo_weight 15 = .ok (.iload_n 2, 1) := by decide +kernel
theorem d_Mo_weight_16 : decode b_Mo_weight 16 = .ok (.iconst 0, 1) := by decide +kernel
theorem d_Mo_weight_17 : decode b_Mo_weight 17 = .ok (.sipush 1000, 3) := by decide +kernel
theorem d_Mo_weight_20 : decode b_Mo_weight 20 = .ok (.invokestatic 89, 3) := by decide +kernel
theorem d_Mo_weight_23 : decode b_Mo_weight 23 = .ok (.ifCond .ne 7, 3) := by decide +kernel
theorem d_Mo_weight_26 : decode b_Mo_weight 26 = .ok (.iconst 1, 1) := by decide +kernel
theorem d_Mo_weight_27 : decode b_Mo_weight 27 = .ok (.goto 4, 3) := by decide +kernel
theorem d_Mo_weight_30 : decode b_Mo_weight 30 = .ok (.iconst 0, 1) := by decide +kernel
theorem d_Mo_weight_31 : decode b_Mo_weight 31 = .ok (.iconst 0, 1) := by decide +kernel
theorem d_Mo_weight_32 : decode b_Mo_weight 32 = .ok (.iconst 0, 1) := by decide +kernel
theorem d_Mo_weight_33 : decode b_Mo_weight 33 = .ok (.invokevirtual 101, 3) := by decide +kernel
theorem d_Mo_weight_36 : decode b_Mo_weight 36 = .ok (.ifCond .eq 4, 3) := by decide +kernel
theorem d_Mo_weight_39 : decode b_Mo_weight 39 = .ok (.return_, 1) := by decide +kernel
theorem d_Mo_weight_40 : decode b_Mo_weight 40 = .ok (.aload_n 0, 1) := by decide +kernel
theorem d_Mo_weight_41 : decode b_Mo_weight 41 = .ok (.getfield 66, 3) := by decide +kernel
theorem d_Mo_weight_44 : decode b_Mo_weight 44 = .ok (.iload_n 1, 1) := by decide +kernel
theorem d_Mo_weight_45 : decode b_Mo_weight 45 = .ok (.iload_n 2, 1) := by decide +kernel
theorem d_Mo_weight_46 : decode b_Mo_weight 46 = .ok (.iastore, 1) := by decide +kernel
theorem d_Mo_weight_47 : decode b_Mo_weight 47 = .ok (.return_, 1) := by decide +kernel
theorem d_Mo_share_0 : decode b_Mo_share 0 = .ok (.iconst 0, 1) := by decide +kernel
theorem d_Mo_share_1 : decode b_Mo_share 1 = .ok (.istore_n 3, 1) := by decide +kernel
theorem d_Mo_share_2 : decode b_Mo_share 2 = .ok (.iconst 0, 1) := by decide +kernel
theorem d_Mo_share_3 : decode b_Mo_share 3 = .ok (.istore 4, 2) := by decide +kernel
theorem d_Mo_share_5 : decode b_Mo_share 5 = .ok (.iload 4, 2) := by decide +kernel
theorem d_Mo_share_7 : decode b_Mo_share 7 = .ok (.bipush 6, 2) := by decide +kernel
theorem d_Mo_share_9 : decode b_Mo_share 9 = .ok (.if_icmp .ge 19, 3) := by decide +kernel
theorem d_Mo_share_12 : decode b_Mo_share 12 = .ok (.iload_n 3, 1) := by decide +kernel
theorem d_Mo_share_13 : decode b_Mo_share 13 = .ok (.aload_n 0, 1) := by decide +kernel
theorem d_Mo_share_14 : decode b_Mo_share 14 = .ok (.getfield 66, 3) := by decide +kernel
theorem d_Mo_share_17 : decode b_Mo_share 17 = .ok (.iload 4, 2) := by decide +kernel
theorem d_Mo_share_19 : decode b_Mo_share 19 = .ok (.iaload, 1) := by decide +kernel
theorem d_Mo_share_20 : decode b_Mo_share 20 = .ok (.iadd, 1) := by decide +kernel
theorem d_Mo_share_21 : decode b_Mo_share 21 = .ok (.istore_n 3, 1) := by decide +kernel
theorem d_Mo_share_22 : decode b_Mo_share 22 = .ok (.iinc 4 1, 3) := by decide +kernel
theorem d_Mo_share_25 : decode b_Mo_share 25 = .ok (.goto (-20), 3) := by decide +kernel
theorem d_Mo_share_28 : decode b_Mo_share 28 = .ok (.aload_n 0, 1) := by decide +kernel
theorem d_Mo_share_29 : decode b_Mo_share 29 = .ok (.iload_n 1, 1) := by decide +kernel
theorem d_Mo_share_30 : decode b_Mo_share 30 = .ok (.iconst 0, 1) := by decide +kernel
theorem d_Mo_share_31 : decode b_Mo_share 31 = .ok (.iconst 5, 1) := by decide +kernel
theorem d_Mo_share_32 : decode b_Mo_share 32 = .ok (.invokestatic 89, 3) := by decide +kernel
theorem d_Mo_share_35 : decode b_Mo_share 35 = .ok (.ifCond .ne 7, 3) := by decide +kernel
theorem d_Mo_share_38 : decode b_Mo_share 38 = .ok (.iconst 1, 1) := by decide +kernel
theorem d_Mo_share_39 : decode b_Mo_share 39 = .ok (.goto 4, 3) := by decide +kernel
theorem d_Mo_share_42 : decode b_Mo_share 42 = .ok (.iconst 0, 1) := by decide +kernel
theorem d_Mo_share_43 : decode b_Mo_share 43 = .ok (.iload_n 2, 1) := by decide +kernel
theorem d_Mo_share_44 : decode b_Mo_share 44 = .ok (.invokestatic 97, 3) := by decide +kernel
theorem d_Mo_share_47 : decode b_Mo_share 47 = .ok (.ifCond .ne 7, 3) := by decide +kernel
theorem d_Mo_share_50 : decode b_Mo_share 50 = .ok (.iconst 1, 1) := by decide +kernel
theorem d_Mo_share_51 : decode b_Mo_share 51 = .ok (.goto 4, 3) := by decide +kernel
theorem d_Mo_share_54 : decode b_Mo_share 54 = .ok (.iconst 0, 1) := by decide +kernel
theorem d_Mo_share_55 : decode b_Mo_share 55 = .ok (.iload_n 3, 1) := by decide +kernel
theorem d_Mo_share_56 : decode b_Mo_share 56 = .ok (.ifCond .ne 7, 3) := by decide +kernel
theorem d_Mo_share_59 : decode b_Mo_share 59 = .ok (.iconst 1, 1) := by decide +kernel
theorem d_Mo_share_60 : decode b_Mo_share 60 = .ok (.goto 4, 3) := by decide +kernel
theorem d_Mo_share_63 : decode b_Mo_share 63 = .ok (.iconst 0, 1) := by decide +kernel
theorem d_Mo_share_64 : decode b_Mo_share 64 = .ok (.iconst 0, 1) := by decide +kernel
theorem d_Mo_share_65 : decode b_Mo_share 65 = .ok (.invokevirtual 101, 3) := by decide +kernel
theorem d_Mo_share_68 : decode b_Mo_share 68 = .ok (.ifCond .eq 5, 3) := by decide +kernel
theorem d_Mo_share_71 : decode b_Mo_share 71 = .ok (.iconst 0, 1) := by decide +kernel
theorem d_Mo_share_72 : decode b_Mo_share 72 = .ok (.ireturn, 1) := by decide +kernel
theorem d_Mo_share_73 : decode b_Mo_share 73 = .ok (.iconst 0, 1) := by decide +kernel
theorem d_Mo_share_74 : decode b_Mo_share 74 = .ok (.istore 4, 2) := by decide +kernel
theorem d_Mo_share_76 : decode b_Mo_share 76 = .ok (.iconst 0, 1) := by decide +kernel
theorem d_Mo_share_77 : decode b_Mo_share 77 = .ok (.istore 5, 2) := by decide +kernel
theorem d_Mo_share_79 : decode b_Mo_share 79 = .ok (.iload_n 2, 1) := by decide +kernel
theorem d_Mo_share_80 : decode b_Mo_share 80 = .ok (.i2l, 1) := by decide +kernel
theorem d_Mo_share_81 : decode b_Mo_share 81 = .ok (.aload_n 0, 1) := by decide +kernel
theorem d_Mo_share_82 : decode b_Mo_share 82 = .ok (.getfield 66, 3) := by decide +kernel
theorem d_Mo_share_85 : decode b_Mo_share 85 = .ok (.iload_n 1, 1) := by decide +kernel
theorem d_Mo_share_86 : decode b_Mo_share 86 = .ok (.iaload, 1) := by decide +kernel
theorem d_Mo_share_87 : decode b_Mo_share 87 = .ok (.i2l, 1) := by decide +kernel
theorem d_Mo_share_88 : decode b_Mo_share 88 = .ok (.lmul, 1) := by decide +kernel
theorem d_Mo_share_89 : decode b_Mo_share 89 = .ok (.iload_n 3, 1) := by decide +kernel
theorem d_Mo_share_90 : decode b_Mo_share 90 = .ok (.i2l, 1) := by decide +kernel
theorem d_Mo_share_91 : decode b_Mo_share 91 = .ok (.lrem, 1) := by decide +kernel
theorem d_Mo_share_92 : decode b_Mo_share 92 = .ok (.lstore 6, 2) := by decide +kernel
theorem d_Mo_share_94 : decode b_Mo_share 94 = .ok (.iconst 0, 1) := by decide +kernel
theorem d_Mo_share_95 : decode b_Mo_share 95 = .ok (.istore 8, 2) := by decide +kernel
theorem d_Mo_share_97 : decode b_Mo_share 97 = .ok (.iload 8, 2) := by decide +kernel
theorem d_Mo_share_99 : decode b_Mo_share 99 = .ok (.bipush 6, 2) := by decide +kernel
theorem d_Mo_share_101 : decode b_Mo_share 101 = .ok (.if_icmp .ge 77, 3) := by decide +kernel
theorem d_Mo_share_104 : decode b_Mo_share 104 = .ok (.iload 4, 2) := by decide +kernel
theorem d_Mo_share_106 : decode b_Mo_share 106 = .ok (.iload_n 2, 1) := by decide +kernel
theorem d_Mo_share_107 : decode b_Mo_share 107 = .ok (.i2l, 1) := by decide +kernel
theorem d_Mo_share_108 : decode b_Mo_share 108 = .ok (.aload_n 0, 1) := by decide +kernel
theorem d_Mo_share_109 : decode b_Mo_share 109 = .ok (.getfield 66, 3) := by decide +kernel
theorem d_Mo_share_112 : decode b_Mo_share 112 = .ok (.iload 8, 2) := by decide +kernel
theorem d_Mo_share_114 : decode b_Mo_share 114 = .ok (.iaload, 1) := by decide +kernel
theorem d_Mo_share_115 : decode b_Mo_share 115 = .ok (.i2l, 1) := by decide +kernel
theorem d_Mo_share_116 : decode b_Mo_share 116 = .ok (.lmul, 1) := by decide +kernel
theorem d_Mo_share_117 : decode b_Mo_share 117 = .ok (.iload_n 3, 1) := by decide +kernel
theorem d_Mo_share_118 : decode b_Mo_share 118 = .ok (.i2l, 1) := by decide +kernel
theorem d_Mo_share_119 : decode b_Mo_share 119 = .ok (.ldiv, 1) := by decide +kernel
theorem d_Mo_share_120 : decode b_Mo_share 120 = .ok (.l2i, 1) := by decide +kernel
theorem d_Mo_share_121 : decode b_Mo_share 121 = .ok (.iadd, 1) := by decide +kernel
theorem d_Mo_share_122 : decode b_Mo_share 122 = .ok (.istore 4, 2) := by decide +kernel
theorem d_Mo_share_124 : decode b_Mo_share 124 = .ok (.iload_n 2, 1) := by decide +kernel
theorem d_Mo_share_125 : decode b_Mo_share 125 = .ok (.i2l, 1) := by decide +kernel
theorem d_Mo_share_126 : decode b_Mo_share 126 = .ok (.aload_n 0, 1) := by decide +kernel
theorem d_Mo_share_127 : decode b_Mo_share 127 = .ok (.getfield 66, 3) := by decide +kernel
theorem d_Mo_share_130 : decode b_Mo_share 130 = .ok (.iload 8, 2) := by decide +kernel
theorem d_Mo_share_132 : decode b_Mo_share 132 = .ok (.iaload, 1) := by decide +kernel
theorem d_Mo_share_133 : decode b_Mo_share 133 = .ok (.i2l, 1) := by decide +kernel
theorem d_Mo_share_134 : decode b_Mo_share 134 = .ok (.lmul, 1) := by decide +kernel
theorem d_Mo_share_135 : decode b_Mo_share 135 = .ok (.iload_n 3, 1) := by decide +kernel
theorem d_Mo_share_136 : decode b_Mo_share 136 = .ok (.i2l, 1) := by decide +kernel
theorem d_Mo_share_137 : decode b_Mo_share 137 = .ok (.lrem, 1) := by decide +kernel
theorem d_Mo_share_138 : decode b_Mo_share 138 = .ok (.lstore 9, 2) := by decide +kernel
theorem d_Mo_share_140 : decode b_Mo_share 140 = .ok (.iload 5, 2) := by decide +kernel
theorem d_Mo_share_142 : decode b_Mo_share 142 = .ok (.lload 9, 2) := by decide +kernel
theorem d_Mo_share_144 : decode b_Mo_share 144 = .ok (.lload 6, 2) := by decide +kernel
theorem d_Mo_share_146 : decode b_Mo_share 146 = .ok (.lcmp, 1) := by decide +kernel
theorem d_Mo_share_147 : decode b_Mo_share 147 = .ok (.ifCond .gt 17, 3) := by decide +kernel
theorem d_Mo_share_150 : decode b_Mo_share 150 = .ok (.lload 9, 2) := by decide +kernel
theorem d_Mo_share_152 : decode b_Mo_share 152 = .ok (.lload 6, 2) := by decide +kernel
theorem d_Mo_share_154 : decode b_Mo_share 154 = .ok (.lcmp, 1) := by decide +kernel
theorem d_Mo_share_155 : decode b_Mo_share 155 = .ok (.ifCond .ne 13, 3) := by decide +kernel
theorem d_Mo_share_158 : decode b_Mo_share 158 = .ok (.iload 8, 2) := by decide +kernel
theorem d_Mo_share_160 : decode b_Mo_share 160 = .ok (.iload_n 1, 1) := by decide +kernel
theorem d_Mo_share_161 : decode b_Mo_share 161 = .ok (.if_icmp .ge 7, 3) := by decide +kernel
theorem d_Mo_share_164 : decode b_Mo_share 164 = .ok (.iconst 1, 1) := by decide +kernel
theorem d_Mo_share_165 : decode b_Mo_share 165 = .ok (.goto 4, 3) := by decide +kernel
theorem d_Mo_share_168 : decode b_Mo_share 168 = .ok (.iconst 0, 1) := by decide +kernel
theorem d_Mo_share_169 : decode b_Mo_share 169 = .ok (.iadd, 1) := by decide +kernel
theorem d_Mo_share_170 : decode b_Mo_share 170 = .ok (.istore 5, 2) := by decide +kernel
theorem d_Mo_share_172 : decode b_Mo_share 172 = .ok (.iinc 8 1, 3) := by decide +kernel
theorem d_Mo_share_175 : decode b_Mo_share 175 = .ok (.goto (-78), 3) := by decide +kernel
theorem d_Mo_share_178 : decode b_Mo_share 178 = .ok (.iload_n 2, 1) := by decide +kernel
theorem d_Mo_share_179 : decode b_Mo_share 179 = .ok (.i2l, 1) := by decide +kernel
theorem d_Mo_share_180 : decode b_Mo_share 180 = .ok (.aload_n 0, 1) := by decide +kernel
theorem d_Mo_share_181 : decode b_Mo_share 181 = .ok (.getfield 66, 3) := by decide +kernel
theorem d_Mo_share_184 : decode b_Mo_share 184 = .ok (.iload_n 1, 1) := by decide +kernel
theorem d_Mo_share_185 : decode b_Mo_share 185 = .ok (.iaload, 1) := by decide +kernel
theorem d_Mo_share_186 : decode b_Mo_share 186 = .ok (.i2l, 1) := by decide +kernel
theorem d_Mo_share_187 : decode b_Mo_share 187 = .ok (.lmul, 1) := by decide +kernel
theorem d_Mo_share_188 : decode b_Mo_share 188 = .ok (.iload_n 3, 1) := by decide +kernel
theorem d_Mo_share_189 : decode b_Mo_share 189 = .ok (.i2l, 1) := by decide +kernel
theorem d_Mo_share_190 : decode b_Mo_share 190 = .ok (.ldiv, 1) := by decide +kernel
theorem d_Mo_share_191 : decode b_Mo_share 191 = .ok (.l2i, 1) := by decide +kernel
theorem d_Mo_share_192 : decode b_Mo_share 192 = .ok (.iload 5, 2) := by decide +kernel
theorem d_Mo_share_194 : decode b_Mo_share 194 = .ok (.iload_n 2, 1) := by decide +kernel
theorem d_Mo_share_195 : decode b_Mo_share 195 = .ok (.iload 4, 2) := by decide +kernel
theorem d_Mo_share_197 : decode b_Mo_share 197 = .ok (.isub, 1) := by decide +kernel
theorem d_Mo_share_198 : decode b_Mo_share 198 = .ok (.if_icmp .ge 7, 3) := by decide +kernel
theorem d_Mo_share_201 : decode b_Mo_share 201 = .ok (.iconst 1, 1) := by decide +kernel
theorem d_Mo_share_202 : decode b_Mo_share 202 = .ok (.goto 4, 3) := by decide +kernel
theorem d_Mo_share_205 : decode b_Mo_share 205 = .ok (.iconst 0, 1) := by decide +kernel
theorem d_Mo_share_206 : decode b_Mo_share 206 = .ok (.iadd, 1) := by decide +kernel
theorem d_Mo_share_207 : decode b_Mo_share 207 = .ok (.ireturn, 1) := by decide +kernel
theorem d_Mo_grant_0 : decode b_Mo_grant 0 = .ok (.aload_n 0, 1) := by decide +kernel
theorem d_Mo_grant_1 : decode b_Mo_grant 1 = .ok (.iload_n 1, 1) := by decide +kernel
theorem d_Mo_grant_2 : decode b_Mo_grant 2 = .ok (.iconst 0, 1) := by decide +kernel
theorem d_Mo_grant_3 : decode b_Mo_grant 3 = .ok (.bipush 9, 2) := by decide +kernel
theorem d_Mo_grant_5 : decode b_Mo_grant 5 = .ok (.invokestatic 89, 3) := by decide +kernel
theorem d_Mo_grant_8 : decode b_Mo_grant 8 = .ok (.ifCond .ne 7, 3) := by decide +kernel
theorem d_Mo_grant_11 : decode b_Mo_grant 11 = .ok (.iconst 1, 1) := by decide +kernel
theorem d_Mo_grant_12 : decode b_Mo_grant 12 = .ok (.goto 4, 3) := by decide +kernel
theorem d_Mo_grant_15 : decode b_Mo_grant 15 = .ok (.iconst 0, 1) := by decide +kernel
theorem d_Mo_grant_16 : decode b_Mo_grant 16 = .ok (.iload_n 2, 1) := by decide +kernel
theorem d_Mo_grant_17 : decode b_Mo_grant 17 = .ok (.invokestatic 97, 3) := by decide +kernel
theorem d_Mo_grant_20 : decode b_Mo_grant 20 = .ok (.ifCond .ne 7, 3) := by decide +kernel
theorem d_Mo_grant_23 : decode b_Mo_grant 23 = .ok (.iconst 1, 1) := by decide +kernel
theorem d_Mo_grant_24 : decode b_Mo_grant 24 = .ok (.goto 4, 3) := by decide +kernel
theorem d_Mo_grant_27 : decode b_Mo_grant 27 = .ok (.iconst 0, 1) := by decide +kernel
theorem d_Mo_grant_28 : decode b_Mo_grant 28 = .ok (.aload_n 0, 1) := by decide +kernel
theorem d_Mo_grant_29 : decode b_Mo_grant 29 = .ok (.getfield 157, 3) := by decide +kernel
theorem d_Mo_grant_32 : decode b_Mo_grant 32 = .ok (.bipush 20, 2) := by decide +kernel
theorem d_Mo_grant_34 : decode b_Mo_grant 34 = .ok (.if_icmp .ne 7, 3) := by decide +kernel
theorem d_Mo_grant_37 : decode b_Mo_grant 37 = .ok (.iconst 1, 1) := by decide +kernel
theorem d_Mo_grant_38 : decode b_Mo_grant 38 = .ok (.goto 4, 3) := by decide +kernel
theorem d_Mo_grant_41 : decode b_Mo_grant 41 = .ok (.iconst 0, 1) := by decide +kernel
theorem d_Mo_grant_42 : decode b_Mo_grant 42 = .ok (.iconst 0, 1) := by decide +kernel
theorem d_Mo_grant_43 : decode b_Mo_grant 43 = .ok (.invokevirtual 101, 3) := by decide +kernel
theorem d_Mo_grant_46 : decode b_Mo_grant 46 = .ok (.ifCond .eq 5, 3) := by decide +kernel
theorem d_Mo_grant_49 : decode b_Mo_grant 49 = .ok (.iconst 0, 1) := by decide +kernel
theorem d_Mo_grant_50 : decode b_Mo_grant 50 = .ok (.ireturn, 1) := by decide +kernel
theorem d_Mo_grant_51 : decode b_Mo_grant 51 = .ok (.aload_n 0, 1) := by decide +kernel
theorem d_Mo_grant_52 : decode b_Mo_grant 52 = .ok (.getfield 69, 3) := by decide +kernel
theorem d_Mo_grant_55 : decode b_Mo_grant 55 = .ok (.aload_n 0, 1) := by decide +kernel
theorem d_Mo_grant_56 : decode b_Mo_grant 56 = .ok (.getfield 157, 3) := by decide +kernel
theorem d_Mo_grant_59 : decode b_Mo_grant 59 = .ok (.iload_n 1, 1) := by decide +kernel
theorem d_Mo_grant_60 : decode b_Mo_grant 60 = .ok (.iastore, 1) := by decide +kernel
theorem d_Mo_grant_61 : decode b_Mo_grant 61 = .ok (.aload_n 0, 1) := by decide +kernel
theorem d_Mo_grant_62 : decode b_Mo_grant 62 = .ok (.getfield 72, 3) := by decide +kernel
theorem d_Mo_grant_65 : decode b_Mo_grant 65 = .ok (.aload_n 0, 1) := by decide +kernel
theorem d_Mo_grant_66 : decode b_Mo_grant 66 = .ok (.getfield 157, 3) := by decide +kernel
theorem d_Mo_grant_69 : decode b_Mo_grant 69 = .ok (.iload_n 2, 1) := by decide +kernel
theorem d_Mo_grant_70 : decode b_Mo_grant 70 = .ok (.iastore, 1) := by decide +kernel
theorem d_Mo_grant_71 : decode b_Mo_grant 71 = .ok (.aload_n 0, 1) := by decide +kernel
theorem d_Mo_grant_72 : decode b_Mo_grant 72 = .ok (.dup, 1) := by decide +kernel
theorem d_Mo_grant_73 : decode b_Mo_grant 73 = .ok (.getfield 157, 3) := by decide +kernel
theorem d_Mo_grant_76 : decode b_Mo_grant 76 = .ok (.iconst 1, 1) := by decide +kernel
theorem d_Mo_grant_77 : decode b_Mo_grant 77 = .ok (.iadd, 1) := by decide +kernel
theorem d_Mo_grant_78 : decode b_Mo_grant 78 = .ok (.putfield 157, 3) := by decide +kernel
theorem d_Mo_grant_81 : decode b_Mo_grant 81 = .ok (.aload_n 0, 1) := by decide +kernel
theorem d_Mo_grant_82 : decode b_Mo_grant 82 = .ok (.getfield 157, 3) := by decide +kernel
theorem d_Mo_grant_85 : decode b_Mo_grant 85 = .ok (.iconst 1, 1) := by decide +kernel
theorem d_Mo_grant_86 : decode b_Mo_grant 86 = .ok (.isub, 1) := by decide +kernel
theorem d_Mo_grant_87 : decode b_Mo_grant 87 = .ok (.ireturn, 1) := by decide +kernel
theorem d_Mo_use_0 : decode b_Mo_use 0 = .ok (.iload_n 1, 1) := by decide +kernel
theorem d_Mo_use_1 : decode b_Mo_use 1 = .ok (.iconst 0, 1) := by decide +kernel
theorem d_Mo_use_2 : decode b_Mo_use 2 = .ok (.aload_n 0, 1) := by decide +kernel
theorem d_Mo_use_3 : decode b_Mo_use 3 = .ok (.getfield 157, 3) := by decide +kernel
theorem d_Mo_use_6 : decode b_Mo_use 6 = .ok (.iconst 1, 1) := by decide +kernel
theorem d_Mo_use_7 : decode b_Mo_use 7 = .ok (.isub, 1) := by decide +kernel
theorem d_Mo_use_8 : decode b_Mo_use 8 = .ok (.invokestatic 89, 3) := by decide +kernel
theorem d_Mo_use_11 : decode b_Mo_use 11 = .ok (.ifCond .eq 13, 3) := by decide +kernel
theorem d_Mo_use_14 : decode b_Mo_use 14 = .ok (.iload_n 2, 1) := by decide +kernel
theorem d_Mo_use_15 : decode b_Mo_use 15 = .ok (.iconst 0, 1) := by decide +kernel
theorem d_Mo_use_16 : decode b_Mo_use 16 = .ok (.bipush 9, 2) := by decide +kernel
theorem d_Mo_use_18 : decode b_Mo_use 18 = .ok (.invokestatic 89, 3) := by decide +kernel
theorem d_Mo_use_21 : decode b_Mo_use 21 = .ok (.ifCond .ne 7, 3) := by decide +kernel
theorem d_Mo_use_24 : decode b_Mo_use 24 = .ok (.iconst 1, 1) := by decide +kernel
theorem d_Mo_use_25 : decode b_Mo_use 25 = .ok (.goto 4, 3) := by decide +kernel
theorem d_Mo_use_28 : decode b_Mo_use 28 = .ok (.iconst 0, 1) := by decide +kernel
theorem d_Mo_use_29 : decode b_Mo_use 29 = .ok (.istore 4, 2) := by decide +kernel
theorem d_Mo_use_31 : decode b_Mo_use 31 = .ok (.aload_n 0, 1) := by decide +kernel
theorem d_Mo_use_32 : decode b_Mo_use 32 = .ok (.iload 4, 2) := by decide +kernel
theorem d_Mo_use_34 : decode b_Mo_use 34 = .ok (.iload_n 3, 1) := by decide +kernel
theorem d_Mo_use_35 : decode b_Mo_use 35 = .ok (.invokestatic 97, 3) := by decide +kernel
theorem d_Mo_use_38 : decode b_Mo_use 38 = .ok (.ifCond .ne 7, 3) := by decide +kernel
theorem d_Mo_use_41 : decode b_Mo_use 41 = .ok (.iconst 1, 1) := by decide +kernel
theorem d_Mo_use_42 : decode b_Mo_use 42 = .ok (.goto 4, 3) := by decide +kernel
theorem d_Mo_use_45 : decode b_Mo_use 45 = .ok (.iconst 0, 1) := by decide +kernel
theorem d_Mo_use_46 : decode b_Mo_use 46 = .ok (.iload 4, 2) := by decide +kernel
theorem d_Mo_use_48 : decode b_Mo_use 48 = .ok (.ifCond .ne 45, 3) := by decide +kernel
theorem d_Mo_use_51 : decode b_Mo_use 51 = .ok (.aload_n 0, 1) := by decide +kernel
theorem d_Mo_use_52 : decode b_Mo_use 52 = .ok (.getfield 69, 3) := by decide +kernel
theorem d_Mo_use_55 : decode b_Mo_use 55 = .ok (.iload 4, 2) := by decide +kernel
theorem d_Mo_use_57 : decode b_Mo_use 57 = .ok (.ifCond .eq 7, 3) := by decide +kernel
theorem d_Mo_use_60 : decode b_Mo_use 60 = .ok (.iconst 0, 1) := by decide +kernel
theorem d_Mo_use_61 : decode b_Mo_use 61 = .ok (.goto 4, 3) := by decide +kernel
theorem d_Mo_use_64 : decode b_Mo_use 64 = .ok (.iload_n 1, 1) := by decide +kernel
theorem d_Mo_use_65 : decode b_Mo_use 65 = .ok (.iaload, 1) := by decide +kernel
theorem d_Mo_use_66 : decode b_Mo_use 66 = .ok (.iload_n 2, 1) := by decide +kernel
theorem d_Mo_use_67 : decode b_Mo_use 67 = .ok (.if_icmp .ne 22, 3) := by decide +kernel
theorem d_Mo_use_70 : decode b_Mo_use 70 = .ok (.iload_n 3, 1) := by decide +kernel
theorem d_Mo_use_71 : decode b_Mo_use 71 = .ok (.aload_n 0, 1) := by decide +kernel
theorem d_Mo_use_72 : decode b_Mo_use 72 = .ok (.getfield 72, 3) := by decide +kernel
theorem d_Mo_use_75 : decode b_Mo_use 75 = .ok (.iload 4, 2) := by decide +kernel
theorem d_Mo_use_77 : decode b_Mo_use 77 = .ok (.ifCond .eq 7, 3) := by decide +kernel
theorem d_Mo_use_80 : decode b_Mo_use 80 = .ok (.iconst 0, 1) := by decide +kernel
theorem d_Mo_use_81 : decode b_Mo_use 81 = .ok (.goto 4, 3) := by decide +kernel
theorem d_Mo_use_84 : decode b_Mo_use 84 = .ok (.iload_n 1, 1) := by decide +kernel
theorem d_Mo_use_85 : decode b_Mo_use 85 = .ok (.iaload, 1) := by decide +kernel
theorem d_Mo_use_86 : decode b_Mo_use 86 = .ok (.if_icmp .le 7, 3) := by decide +kernel
theorem d_Mo_use_89 : decode b_Mo_use 89 = .ok (.iconst 1, 1) := by decide +kernel
theorem d_Mo_use_90 : decode b_Mo_use 90 = .ok (.goto 4, 3) := by decide +kernel
theorem d_Mo_use_93 : decode b_Mo_use 93 = .ok (.iconst 0, 1) := by decide +kernel
theorem d_Mo_use_94 : decode b_Mo_use 94 = .ok (.iconst 0, 1) := by decide +kernel
theorem d_Mo_use_95 : decode b_Mo_use 95 = .ok (.invokevirtual 101, 3) := by decide +kernel
theorem d_Mo_use_98 : decode b_Mo_use 98 = .ok (.ifCond .eq 5, 3) := by decide +kernel
theorem d_Mo_use_101 : decode b_Mo_use 101 = .ok (.iconst 0, 1) := by decide +kernel
theorem d_Mo_use_102 : decode b_Mo_use 102 = .ok (.ireturn, 1) := by decide +kernel
theorem d_Mo_use_103 : decode b_Mo_use 103 = .ok (.aload_n 0, 1) := by decide +kernel
theorem d_Mo_use_104 : decode b_Mo_use 104 = .ok (.getfield 72, 3) := by decide +kernel
theorem d_Mo_use_107 : decode b_Mo_use 107 = .ok (.iload_n 1, 1) := by decide +kernel
theorem d_Mo_use_108 : decode b_Mo_use 108 = .ok (.dup2, 1) := by decide +kernel
theorem d_Mo_use_109 : decode b_Mo_use 109 = .ok (.iaload, 1) := by decide +kernel
theorem d_Mo_use_110 : decode b_Mo_use 110 = .ok (.iload_n 3, 1) := by decide +kernel
theorem d_Mo_use_111 : decode b_Mo_use 111 = .ok (.isub, 1) := by decide +kernel
theorem d_Mo_use_112 : decode b_Mo_use 112 = .ok (.iastore, 1) := by decide +kernel
theorem d_Mo_use_113 : decode b_Mo_use 113 = .ok (.aload_n 0, 1) := by decide +kernel
theorem d_Mo_use_114 : decode b_Mo_use 114 = .ok (.getfield 72, 3) := by decide +kernel
theorem d_Mo_use_117 : decode b_Mo_use 117 = .ok (.iload_n 1, 1) := by decide +kernel
theorem d_Mo_use_118 : decode b_Mo_use 118 = .ok (.iaload, 1) := by decide +kernel
theorem d_Mo_use_119 : decode b_Mo_use 119 = .ok (.ireturn, 1) := by decide +kernel
theorem d_Mo_row_0 : decode b_Mo_row 0 = .ok (.aload_n 0, 1) := by decide +kernel
theorem d_Mo_row_1 : decode b_Mo_row 1 = .ok (.iload_n 1, 1) := by decide +kernel
theorem d_Mo_row_2 : decode b_Mo_row 2 = .ok (.iconst 0, 1) := by decide +kernel
theorem d_Mo_row_3 : decode b_Mo_row 3 = .ok (.bipush 9, 2) := by decide +kernel
theorem d_Mo_row_5 : decode b_Mo_row 5 = .ok (.invokestatic 89, 3) := by decide +kernel
theorem d_Mo_row_8 : decode b_Mo_row 8 = .ok (.ifCond .ne 7, 3) := by decide +kernel
theorem d_Mo_row_11 : decode b_Mo_row 11 = .ok (.iconst 1, 1) := by decide +kernel
theorem d_Mo_row_12 : decode b_Mo_row 12 = .ok (.goto 4, 3) := by decide +kernel
theorem d_Mo_row_15 : decode b_Mo_row 15 = .ok (.iconst 0, 1) := by decide +kernel
theorem d_Mo_row_16 : decode b_Mo_row 16 = .ok (.iload_n 2, 1) := by decide +kernel
theorem d_Mo_row_17 : decode b_Mo_row 17 = .ok (.ldc 160, 2) := by decide +kernel
theorem d_Mo_row_19 : decode b_Mo_row 19 = .ok (.ldc 88, 2) := by decide +kernel
theorem d_Mo_row_21 : decode b_Mo_row 21 = .ok (.invokestatic 89, 3) := by decide +kernel
theorem d_Mo_row_24 : decode b_Mo_row 24 = .ok (.ifCond .ne 7, 3) := by decide +kernel
theorem d_Mo_row_27 : decode b_Mo_row 27 = .ok (.iconst 1, 1) := by decide +kernel
theorem d_Mo_row_28 : decode b_Mo_row 28 = .ok (.goto 4, 3) := by decide +kernel
theorem d_Mo_row_31 : decode b_Mo_row 31 = .ok (.iconst 0, 1) := by decide +kernel
theorem d_Mo_row_32 : decode b_Mo_row 32 = .ok (.aload_n 0, 1) := by decide +kernel
theorem d_Mo_row_33 : decode b_Mo_row 33 = .ok (.getfield 161, 3) := by decide +kernel
theorem d_Mo_row_36 : decode b_Mo_row 36 = .ok (.bipush 8, 2) := by decide +kernel
theorem d_Mo_row_38 : decode b_Mo_row 38 = .ok (.if_icmp .ne 7, 3) := by decide +kernel
theorem d_Mo_row_41 : decode b_Mo_row 41 = .ok (.iconst 1, 1) := by decide +kernel
theorem d_Mo_row_42 : decode b_Mo_row 42 = .ok (.goto 4, 3) := by decide +kernel
theorem d_Mo_row_45 : decode b_Mo_row 45 = .ok (.iconst 0, 1) := by decide +kernel
theorem d_Mo_row_46 : decode b_Mo_row 46 = .ok (.iconst 0, 1) := by decide +kernel
theorem d_Mo_row_47 : decode b_Mo_row 47 = .ok (.invokevirtual 101, 3) := by decide +kernel
theorem d_Mo_row_50 : decode b_Mo_row 50 = .ok (.ifCond .eq 5, 3) := by decide +kernel
theorem d_Mo_row_53 : decode b_Mo_row 53 = .ok (.iconst 0, 1) := by decide +kernel
theorem d_Mo_row_54 : decode b_Mo_row 54 = .ok (.ireturn, 1) := by decide +kernel
theorem d_Mo_row_55 : decode b_Mo_row 55 = .ok (.aload_n 0, 1) := by decide +kernel
theorem d_Mo_row_56 : decode b_Mo_row 56 = .ok (.getfield 75, 3) := by decide +kernel
theorem d_Mo_row_59 : decode b_Mo_row 59 = .ok (.aload_n 0, 1) := by decide +kernel
theorem d_Mo_row_60 : decode b_Mo_row 60 = .ok (.getfield 161, 3) := by decide +kernel
theorem d_Mo_row_63 : decode b_Mo_row 63 = .ok (.iload_n 1, 1) := by decide +kernel
theorem d_Mo_row_64 : decode b_Mo_row 64 = .ok (.iastore, 1) := by decide +kernel
theorem d_Mo_row_65 : decode b_Mo_row 65 = .ok (.aload_n 0, 1) := by decide +kernel
theorem d_Mo_row_66 : decode b_Mo_row 66 = .ok (.getfield 78, 3) := by decide +kernel
theorem d_Mo_row_69 : decode b_Mo_row 69 = .ok (.aload_n 0, 1) := by decide +kernel
theorem d_Mo_row_70 : decode b_Mo_row 70 = .ok (.getfield 161, 3) := by decide +kernel
theorem d_Mo_row_73 : decode b_Mo_row 73 = .ok (.iload_n 2, 1) := by decide +kernel
theorem d_Mo_row_74 : decode b_Mo_row 74 = .ok (.iastore, 1) := by decide +kernel
theorem d_Mo_row_75 : decode b_Mo_row 75 = .ok (.aload_n 0, 1) := by decide +kernel
theorem d_Mo_row_76 : decode b_Mo_row 76 = .ok (.dup, 1) := by decide +kernel
theorem d_Mo_row_77 : decode b_Mo_row 77 = .ok (.getfield 161, 3) := by decide +kernel
theorem d_Mo_row_80 : decode b_Mo_row 80 = .ok (.iconst 1, 1) := by decide +kernel
theorem d_Mo_row_81 : decode b_Mo_row 81 = .ok (.iadd, 1) := by decide +kernel
theorem d_Mo_row_82 : decode b_Mo_row 82 = .ok (.putfield 161, 3) := by decide +kernel
theorem d_Mo_row_85 : decode b_Mo_row 85 = .ok (.aload_n 0, 1) := by decide +kernel
theorem d_Mo_row_86 : decode b_Mo_row 86 = .ok (.getfield 161, 3) := by decide +kernel
theorem d_Mo_row_89 : decode b_Mo_row 89 = .ok (.ireturn, 1) := by decide +kernel
theorem d_Mo_post_0 : decode b_Mo_post 0 = .ok (.aload_n 0, 1) := by decide +kernel
theorem d_Mo_post_1 : decode b_Mo_post 1 = .ok (.iload_n 1, 1) := by decide +kernel
theorem d_Mo_post_2 : decode b_Mo_post 2 = .ok (.iconst 0, 1) := by decide +kernel
theorem d_Mo_post_3 : decode b_Mo_post 3 = .ok (.iconst 4, 1) := by decide +kernel
theorem d_Mo_post_4 : decode b_Mo_post 4 = .ok (.invokestatic 89, 3) := by decide +kernel
theorem d_Mo_post_7 : decode b_Mo_post 7 = .ok (.ifCond .ne 7, 3) := by decide +kernel
theorem d_Mo_post_10 : decode b_Mo_post 10 = .ok (.iconst 1, 1) := by decide +kernel
theorem d_Mo_post_11 : decode b_Mo_post 11 = .ok (.goto 4, 3) := by decide +kernel
theorem d_Mo_post_14 : decode b_Mo_post 14 = .ok (.iconst 0, 1) := by decide +kernel
theorem d_Mo_post_15 : decode b_Mo_post 15 = .ok (.iconst 0, 1) := by decide +kernel
theorem d_Mo_post_16 : decode b_Mo_post 16 = .ok (.iconst 0, 1) := by decide +kernel
theorem d_Mo_post_17 : decode b_Mo_post 17 = .ok (.iconst 0, 1) := by decide +kernel
theorem d_Mo_post_18 : decode b_Mo_post 18 = .ok (.invokevirtual 101, 3) := by decide +kernel
theorem d_Mo_post_21 : decode b_Mo_post 21 = .ok (.ifCond .eq 5, 3) := by decide +kernel
theorem d_Mo_post_24 : decode b_Mo_post 24 = .ok (.iconst 0, 1) := by decide +kernel
theorem d_Mo_post_25 : decode b_Mo_post 25 = .ok (.ireturn, 1) := by decide +kernel
theorem d_Mo_post_26 : decode b_Mo_post 26 = .ok (.iconst 0, 1) := by decide +kernel
theorem d_Mo_post_27 : decode b_Mo_post 27 = .ok (.istore_n 2, 1) := by decide +kernel
theorem d_Mo_post_28 : decode b_Mo_post 28 = .ok (.iconst 0, 1) := by decide +kernel
theorem d_Mo_post_29 : decode b_Mo_post 29 = .ok (.istore_n 3, 1) := by decide +kernel
theorem d_Mo_post_30 : decode b_Mo_post 30 = .ok (.iload_n 3, 1) := by decide +kernel
theorem d_Mo_post_31 : decode b_Mo_post 31 = .ok (.aload_n 0, 1) := by decide +kernel
theorem d_Mo_post_32 : decode b_Mo_post 32 = .ok (.getfield 161, 3) := by decide +kernel
theorem d_Mo_post_35 : decode b_Mo_post 35 = .ok (.if_icmp .ge 18, 3) := by decide +kernel
theorem d_Mo_post_38 : decode b_Mo_post 38 = .ok (.iload_n 2, 1) := by decide +kernel
theorem d_Mo_post_39 : decode b_Mo_post 39 = .ok (.aload_n 0, 1) := by decide +kernel
theorem d_Mo_post_40 : decode b_Mo_post 40 = .ok (.getfield 78, 3) := by decide +kernel
theorem d_Mo_post_43 : decode b_Mo_post 43 = .ok (.iload_n 3, 1) := by decide +kernel
theorem d_Mo_post_44 : decode b_Mo_post 44 = .ok (.iaload, 1) := by decide +kernel
theorem d_Mo_post_45 : decode b_Mo_post 45 = .ok (.iadd, 1) := by decide +kernel
theorem d_Mo_post_46 : decode b_Mo_post 46 = .ok (.istore_n 2, 1) := by decide +kernel
theorem d_Mo_post_47 : decode b_Mo_post 47 = .ok (.iinc 3 1, 3) := by decide +kernel
theorem d_Mo_post_50 : decode b_Mo_post 50 = .ok (.goto (-20), 3) := by decide +kernel
theorem d_Mo_post_53 : decode b_Mo_post 53 = .ok (.iload_n 1, 1) := by decide +kernel
theorem d_Mo_post_54 : decode b_Mo_post 54 = .ok (.istore_n 3, 1) := by decide +kernel
theorem d_Mo_post_55 : decode b_Mo_post 55 = .ok (.iload_n 3, 1) := by decide +kernel
theorem d_Mo_post_56 : decode b_Mo_post 56 = .ok (.iconst 5, 1) := by decide +kernel
theorem d_Mo_post_57 : decode b_Mo_post 57 = .ok (.if_icmp .ge 18, 3) := by decide +kernel
theorem d_Mo_post_60 : decode b_Mo_post 60 = .ok (.aload_n 0, 1) := by decide +kernel
theorem d_Mo_post_61 : decode b_Mo_post 61 = .ok (.getfield 19, 3) := by decide +kernel
theorem d_Mo_post_64 : decode b_Mo_post 64 = .ok (.iload_n 3, 1) := by decide +kernel
theorem d_Mo_post_65 : decode b_Mo_post 65 = .ok (.baload, 1) := by decide +kernel
theorem d_Mo_post_66 : decode b_Mo_post 66 = .ok (.ifCond .eq 9, 3) := by decide +kernel
theorem d_Mo_post_69 : decode b_Mo_post 69 = .ok (.iinc 3 1, 3) := by decide +kernel
theorem d_Mo_post_72 : decode b_Mo_post 72 = .ok (.goto (-17), 3) := by decide +kernel
theorem d_Mo_post_75 : decode b_Mo_post 75 = .ok (.aload_n 0, 1) := by decide +kernel
theorem d_Mo_post_76 : decode b_Mo_post 76 = .ok (.getfield 161, 3) := by decide +kernel
theorem d_Mo_post_79 : decode b_Mo_post 79 = .ok (.istore 4, 2) := by decide +kernel
theorem d_Mo_post_81 : decode b_Mo_post 81 = .ok (.aload_n 0, 1) := by decide +kernel
theorem d_Mo_post_82 : decode b_Mo_post 82 = .ok (.iconst 0, 1) := by decide +kernel
theorem d_Mo_post_83 : decode b_Mo_post 83 = .ok (.putfield 161, 3) := by decide +kernel
theorem d_Mo_post_86 : decode b_Mo_post 86 = .ok (.aload_n 0, 1) := by decide +kernel
theorem d_Mo_post_87 : decode b_Mo_post 87 = .ok (.iconst 0, 1) := by decide +kernel
theorem d_Mo_post_88 : decode b_Mo_post 88 = .ok (.iload_n 2, 1) := by decide +kernel
theorem d_Mo_post_89 : decode b_Mo_post 89 = .ok (.ifCond .ne 8, 3) := by decide +kernel
theorem d_Mo_post_92 : decode b_Mo_post 92 = .ok (.iload_n 3, 1) := by decide +kernel
theorem d_Mo_post_93 : decode b_Mo_post 93 = .ok (.iconst 5, 1) := by decide +kernel
theorem d_Mo_post_94 : decode b_Mo_post 94 = .ok (.if_icmp .ne 7, 3) := by decide +kernel
theorem d_Mo_post_97 : decode b_Mo_post 97 = .ok (.iconst 1, 1) := by decide +kernel
theorem d_Mo_post_98 : decode b_Mo_post 98 = .ok (.goto 4, 3) := by decide +kernel
theorem d_Mo_post_101 : decode b_Mo_post 101 = .ok (.iconst 0, 1) := by decide +kernel
theorem d_Mo_post_102 : decode b_Mo_post 102 = .ok (.iconst 0, 1) := by decide +kernel
theorem d_Mo_post_103 : decode b_Mo_post 103 = .ok (.iconst 0, 1) := by decide +kernel
theorem d_Mo_post_104 : decode b_Mo_post 104 = .ok (.invokevirtual 101, 3) := by decide +kernel
theorem d_Mo_post_107 : decode b_Mo_post 107 = .ok (.ifCond .eq 5, 3) := by decide +kernel
theorem d_Mo_post_110 : decode b_Mo_post 110 = .ok (.iconst 0, 1) := by decide +kernel
theorem d_Mo_post_111 : decode b_Mo_post 111 = .ok (.ireturn, 1) := by decide +kernel
theorem d_Mo_post_112 : decode b_Mo_post 112 = .ok (.iconst 0, 1) := by decide +kernel
theorem d_Mo_post_113 : decode b_Mo_post 113 = .ok (.istore 5, 2) := by decide +kernel
theorem d_Mo_post_115 : decode b_Mo_post 115 = .ok (.iload 5, 2) := by decide +kernel
theorem d_Mo_post_117 : decode b_Mo_post 117 = .ok (.iload 4, 2) := by decide +kernel
theorem d_Mo_post_119 : decode b_Mo_post 119 = .ok (.if_icmp .ge 36, 3) := by decide +kernel
theorem d_Mo_post_122 : decode b_Mo_post 122 = .ok (.aload_n 0, 1) := by decide +kernel
theorem d_Mo_post_123 : decode b_Mo_post 123 = .ok (.getfield 81, 3) := by decide +kernel
theorem d_Mo_post_126 : decode b_Mo_post 126 = .ok (.iconst 5, 1) := by decide +kernel
theorem d_Mo_post_127 : decode b_Mo_post 127 = .ok (.aload_n 0, 1) := by decide +kernel
theorem d_Mo_post_128 : decode b_Mo_post 128 = .ok (.getfield 75, 3) := by decide +kernel
theorem d_Mo_post_131 : decode b_Mo_post 131 = .ok (.iload 5, 2) := by decide +kernel
theorem d_Mo_post_133 : decode b_Mo_post 133 = .ok (.iaload, 1) := by decide +kernel
theorem d_Mo_post_134 : decode b_Mo_post 134 = .ok (.imul, 1) := by decide +kernel
theorem d_Mo_post_135 : decode b_Mo_post 135 = .ok (.iload_n 3, 1) := by decide +kernel
theorem d_Mo_post_136 : decode b_Mo_post 136 = .ok (.iadd, 1) := by decide +kernel
theorem d_Mo_post_137 : decode b_Mo_post 137 = .ok (.dup2, 1) := by decide +kernel
theorem d_Mo_post_138 : decode b_Mo_post 138 = .ok (.laload, 1) := by decide +kernel
theorem d_Mo_post_139 : decode b_Mo_post 139 = .ok (.aload_n 0, 1) := by decide +kernel
theorem d_Mo_post_140 : decode b_Mo_post 140 = .ok (.getfield 78, 3) := by decide +kernel
theorem d_Mo_post_143 : decode b_Mo_post 143 = .ok (.iload 5, 2) := by decide +kernel
theorem d_Mo_post_145 : decode b_Mo_post 145 = .ok (.iaload, 1) := by decide +kernel
theorem d_Mo_post_146 : decode b_Mo_post 146 = .ok (.i2l, 1) := by decide +kernel
theorem d_Mo_post_147 : decode b_Mo_post 147 = .ok (.ladd, 1) := by decide +kernel
theorem d_Mo_post_148 : decode b_Mo_post 148 = .ok (.lastore, 1) := by decide +kernel
theorem d_Mo_post_149 : decode b_Mo_post 149 = .ok (.iinc 5 1, 3) := by decide +kernel
theorem d_Mo_post_152 : decode b_Mo_post 152 = .ok (.goto (-37), 3) := by decide +kernel
theorem d_Mo_post_155 : decode b_Mo_post 155 = .ok (.iload_n 3, 1) := by decide +kernel
theorem d_Mo_post_156 : decode b_Mo_post 156 = .ok (.ireturn, 1) := by decide +kernel
theorem d_Mo_balance_0 : decode b_Mo_balance 0 = .ok (.aload_n 0, 1) := by decide +kernel
theorem d_Mo_balance_1 : decode b_Mo_balance 1 = .ok (.iload_n 1, 1) := by decide +kernel
theorem d_Mo_balance_2 : decode b_Mo_balance 2 = .ok (.iconst 0, 1) := by decide +kernel
theorem d_Mo_balance_3 : decode b_Mo_balance 3 = .ok (.bipush 9, 2) := by decide +kernel
theorem d_Mo_balance_5 : decode b_Mo_balance 5 = .ok (.invokestatic 89, 3) := by decide +kernel
theorem d_Mo_balance_8 : decode b_Mo_balance 8 = .ok (.ifCond .eq 12, 3) := by decide +kernel
theorem d_Mo_balance_11 : decode b_Mo_balance 11 = .ok (.iload_n 2, 1) := by decide +kernel
theorem d_Mo_balance_12 : decode b_Mo_balance 12 = .ok (.iconst 0, 1) := by decide +kernel
theorem d_Mo_balance_13 : decode b_Mo_balance 13 = .ok (.iconst 4, 1) := by decide +kernel
theorem d_Mo_balance_14 : decode b_Mo_balance 14 = .ok (.invokestatic 89, 3) := by decide +kernel
theorem d_Mo_balance_17 : decode b_Mo_balance 17 = .ok (.ifCond .ne 7, 3) := by decide +kernel
theorem d_Mo_balance_20 : decode b_Mo_balance 20 = .ok (.iconst 1, 1) := by decide +kernel
theorem d_Mo_balance_21 : decode b_Mo_balance 21 = .ok (.goto 4, 3) := by decide +kernel
theorem d_Mo_balance_24 : decode b_Mo_balance 24 = .ok (.iconst 0, 1) := by decide +kernel
theorem d_Mo_balance_25 : decode b_Mo_balance 25 = .ok (.iconst 0, 1) := by decide +kernel
theorem d_Mo_balance_26 : decode b_Mo_balance 26 = .ok (.iconst 0, 1) := by decide +kernel
theorem d_Mo_balance_27 : decode b_Mo_balance 27 = .ok (.iconst 0, 1) := by decide +kernel
theorem d_Mo_balance_28 : decode b_Mo_balance 28 = .ok (.invokevirtual 101, 3) := by decide +kernel
theorem d_Mo_balance_31 : decode b_Mo_balance 31 = .ok (.ifCond .eq 5, 3) := by decide +kernel
theorem d_Mo_balance_34 : decode b_Mo_balance 34 = .ok (.lconst 0, 1) := by decide +kernel
theorem d_Mo_balance_35 : decode b_Mo_balance 35 = .ok (.lreturn, 1) := by decide +kernel
theorem d_Mo_balance_36 : decode b_Mo_balance 36 = .ok (.aload_n 0, 1) := by decide +kernel
theorem d_Mo_balance_37 : decode b_Mo_balance 37 = .ok (.getfield 81, 3) := by decide +kernel
theorem d_Mo_balance_40 : decode b_Mo_balance 40 = .ok (.iconst 5, 1) := by decide +kernel
theorem d_Mo_balance_41 : decode b_Mo_balance 41 = .ok (.iload_n 1, 1) := by decide +kernel
theorem d_Mo_balance_42 : decode b_Mo_balance 42 = .ok (.imul, 1) := by decide +kernel
theorem d_Mo_balance_43 : decode b_Mo_balance 43 = .ok (.iload_n 2, 1) := by decide +kernel
theorem d_Mo_balance_44 : decode b_Mo_balance 44 = .ok (.iadd, 1) := by decide +kernel
theorem d_Mo_balance_45 : decode b_Mo_balance 45 = .ok (.laload, 1) := by decide +kernel
theorem d_Mo_balance_46 : decode b_Mo_balance 46 = .ok (.lreturn, 1) := by decide +kernel
theorem d_Mo_close_0 : decode b_Mo_close 0 = .ok (.iload_n 1, 1) := by decide +kernel
theorem d_Mo_close_1 : decode b_Mo_close 1 = .ok (.iconst 0, 1) := by decide +kernel
theorem d_Mo_close_2 : decode b_Mo_close 2 = .ok (.iconst 4, 1) := by decide +kernel
theorem d_Mo_close_3 : decode b_Mo_close 3 = .ok (.invokestatic 89, 3) := by decide +kernel
theorem d_Mo_close_6 : decode b_Mo_close 6 = .ok (.ifCond .ne 7, 3) := by decide +kernel
theorem d_Mo_close_9 : decode b_Mo_close 9 = .ok (.iconst 1, 1) := by decide +kernel
theorem d_Mo_close_10 : decode b_Mo_close 10 = .ok (.goto 4, 3) := by decide +kernel
theorem d_Mo_close_13 : decode b_Mo_close 13 = .ok (.iconst 0, 1) := by decide +kernel
theorem d_Mo_close_14 : decode b_Mo_close 14 = .ok (.istore_n 2, 1) := by decide +kernel
theorem d_Mo_close_15 : decode b_Mo_close 15 = .ok (.iload_n 2, 1) := by decide +kernel
theorem d_Mo_close_16 : decode b_Mo_close 16 = .ok (.ifCond .ne 24, 3) := by decide +kernel
theorem d_Mo_close_19 : decode b_Mo_close 19 = .ok (.aload_n 0, 1) := by decide +kernel
theorem d_Mo_close_20 : decode b_Mo_close 20 = .ok (.getfield 19, 3) := by decide +kernel
theorem d_Mo_close_23 : decode b_Mo_close 23 = .ok (.iload_n 2, 1) := by decide +kernel
theorem d_Mo_close_24 : decode b_Mo_close 24 = .ok (.ifCond .eq 7, 3) := by decide +kernel
theorem d_Mo_close_27 : decode b_Mo_close 27 = .ok (.iconst 0, 1) := by decide +kernel
theorem d_Mo_close_28 : decode b_Mo_close 28 = .ok (.goto 4, 3) := by decide +kernel
theorem d_Mo_close_31 : decode b_Mo_close 31 = .ok (.iload_n 1, 1) := by decide +kernel
theorem d_Mo_close_32 : decode b_Mo_close 32 = .ok (.baload, 1) := by decide +kernel
theorem d_Mo_close_33 : decode b_Mo_close 33 = .ok (.ifCond .eq 7, 3) := by decide +kernel
theorem d_Mo_close_36 : decode b_Mo_close 36 = .ok (.iconst 1, 1) := by decide +kernel
theorem d_Mo_close_37 : decode b_Mo_close 37 = .ok (.goto 4, 3) := by decide +kernel
theorem d_Mo_close_40 : decode b_Mo_close 40 = .ok (.iconst 0, 1) := by decide +kernel
theorem d_Mo_close_41 : decode b_Mo_close 41 = .ok (.istore_n 3, 1) := by decide +kernel
theorem d_Mo_close_42 : decode b_Mo_close 42 = .ok (.iconst 0, 1) := by decide +kernel
theorem d_Mo_close_43 : decode b_Mo_close 43 = .ok (.istore 4, 2) := by decide +kernel
theorem d_Mo_close_45 : decode b_Mo_close 45 = .ok (.iload 4, 2) := by decide +kernel
theorem d_Mo_close_47 : decode b_Mo_close 47 = .ok (.iload_n 1, 1) := by decide +kernel
theorem d_Mo_close_48 : decode b_Mo_close 48 = .ok (.if_icmp .ge 33, 3) := by decide +kernel
theorem d_Mo_close_51 : decode b_Mo_close 51 = .ok (.iload_n 2, 1) := by decide +kernel
theorem d_Mo_close_52 : decode b_Mo_close 52 = .ok (.ifCond .ne 29, 3) := by decide +kernel
theorem d_Mo_close_55 : decode b_Mo_close 55 = .ok (.iload_n 3, 1) := by decide +kernel
theorem d_Mo_close_56 : decode b_Mo_close 56 = .ok (.ifCond .ne 13, 3) := by decide +kernel
theorem d_Mo_close_59 : decode b_Mo_close 59 = .ok (.aload_n 0, 1) := by decide +kernel
theorem d_Mo_close_60 : decode b_Mo_close 60 = .ok (.getfield 19, 3) := by decide +kernel
theorem d_Mo_close_63 : decode b_Mo_close 63 = .ok (.iload 4, 2) := by decide +kernel
theorem d_Mo_close_65 : decode b_Mo_close 65 = .ok (.baload, 1) := by decide +kernel
theorem d_Mo_close_66 : decode b_Mo_close 66 = .ok (.ifCond .ne 7, 3) := by decide +kernel
theorem d_Mo_close_69 : decode b_Mo_close 69 = .ok (.iconst 1, 1) := by decide +kernel
theorem d_Mo_close_70 : decode b_Mo_close 70 = .ok (.goto 4, 3) := by decide +kernel
theorem d_Mo_close_73 : decode b_Mo_close 73 = .ok (.iconst 0, 1) := by decide +kernel
theorem d_Mo_close_74 : decode b_Mo_close 74 = .ok (.istore_n 3, 1) := by decide +kernel
theorem d_Mo_close_75 : decode b_Mo_close 75 = .ok (.iinc 4 1, 3) := by decide +kernel
theorem d_Mo_close_78 : decode b_Mo_close 78 = .ok (.goto (-33), 3) := by decide +kernel
theorem d_Mo_close_81 : decode b_Mo_close 81 = .ok (.iconst 0, 1) := by decide +kernel
theorem d_Mo_close_82 : decode b_Mo_close 82 = .ok (.istore 4, 2) := by decide +kernel
theorem d_Mo_close_84 : decode b_Mo_close 84 = .ok (.iload 4, 2) := by decide +kernel
theorem d_Mo_close_86 : decode b_Mo_close 86 = .ok (.aload_n 0, 1) := by decide +kernel
theorem d_Mo_close_87 : decode b_Mo_close 87 = .ok (.getfield 109, 3) := by decide +kernel
theorem d_Mo_close_90 : decode b_Mo_close 90 = .ok (.if_icmp .ge 43, 3) := by decide +kernel
theorem d_Mo_close_93 : decode b_Mo_close 93 = .ok (.iload_n 3, 1) := by decide +kernel
theorem d_Mo_close_94 : decode b_Mo_close 94 = .ok (.ifCond .ne 27, 3) := by decide +kernel
theorem d_Mo_close_97 : decode b_Mo_close 97 = .ok (.aload_n 0, 1) := by decide +kernel
theorem d_Mo_close_98 : decode b_Mo_close 98 = .ok (.getfield 33, 3) := by decide +kernel
theorem d_Mo_close_101 : decode b_Mo_close 101 = .ok (.iload 4, 2) := by decide +kernel
theorem d_Mo_close_103 : decode b_Mo_close 103 = .ok (.iaload, 1) := by decide +kernel
theorem d_Mo_close_104 : decode b_Mo_close 104 = .ok (.ifCond .ne 21, 3) := by decide +kernel
theorem d_Mo_close_107 : decode b_Mo_close 107 = .ok (.aload_n 0, 1) := by decide +kernel
theorem d_Mo_close_108 : decode b_Mo_close 108 = .ok (.getfield 27, 3) := by decide +kernel
theorem d_Mo_close_111 : decode b_Mo_close 111 = .ok (.iload 4, 2) := by decide +kernel
theorem d_Mo_close_113 : decode b_Mo_close 113 = .ok (.iaload, 1) := by decide +kernel
theorem d_Mo_close_114 : decode b_Mo_close 114 = .ok (.bipush 10, 2) := by decide +kernel
theorem d_Mo_close_116 : decode b_Mo_close 116 = .ok (.idiv, 1) := by decide +kernel
theorem d_Mo_close_117 : decode b_Mo_close 117 = .ok (.iload_n 1, 1) := by decide +kernel
theorem d_Mo_close_118 : decode b_Mo_close 118 = .ok (.if_icmp .ne 7, 3) := by decide +kernel
theorem d_Mo_close_121 : decode b_Mo_close 121 = .ok (.iconst 1, 1) := by decide +kernel
theorem d_Mo_close_122 : decode b_Mo_close 122 = .ok (.goto 4, 3) := by decide +kernel
theorem d_Mo_close_125 : decode b_Mo_close 125 = .ok (.iconst 0, 1) := by decide +kernel
theorem d_Mo_close_126 : decode b_Mo_close 126 = .ok (.istore_n 3, 1) := by decide +kernel
theorem d_Mo_close_127 : decode b_Mo_close 127 = .ok (.iinc 4 1, 3) := by decide +kernel
theorem d_Mo_close_130 : decode b_Mo_close 130 = .ok (.goto (-46), 3) := by decide +kernel
theorem d_Mo_close_133 : decode b_Mo_close 133 = .ok (.aload_n 0, 1) := by decide +kernel
theorem d_Mo_close_134 : decode b_Mo_close 134 = .ok (.iload_n 2, 1) := by decide +kernel
theorem d_Mo_close_135 : decode b_Mo_close 135 = .ok (.iload_n 3, 1) := by decide +kernel
theorem d_Mo_close_136 : decode b_Mo_close 136 = .ok (.iconst 0, 1) := by decide +kernel
theorem d_Mo_close_137 : decode b_Mo_close 137 = .ok (.iconst 0, 1) := by decide +kernel
theorem d_Mo_close_138 : decode b_Mo_close 138 = .ok (.invokevirtual 101, 3) := by decide +kernel
theorem d_Mo_close_141 : decode b_Mo_close 141 = .ok (.ifCond .eq 4, 3) := by decide +kernel
theorem d_Mo_close_144 : decode b_Mo_close 144 = .ok (.return_, 1) := by decide +kernel
theorem d_Mo_close_145 : decode b_Mo_close 145 = .ok (.aload_n 0, 1) := by decide +kernel
theorem d_Mo_close_146 : decode b_Mo_close 146 = .ok (.getfield 19, 3) := by decide +kernel
theorem d_Mo_close_149 : decode b_Mo_close 149 = .ok (.iload_n 1, 1) := by decide +kernel
theorem d_Mo_close_150 : decode b_Mo_close 150 = .ok (.iconst 1, 1) := by decide +kernel
theorem d_Mo_close_151 : decode b_Mo_close 151 = .ok (.bastore, 1) := by decide +kernel
theorem d_Mo_close_152 : decode b_Mo_close 152 = .ok (.return_, 1) := by decide +kernel
theorem d_Mo_forecast_0 : decode b_Mo_forecast 0 = .ok (.iload_n 1, 1) := by decide +kernel
theorem d_Mo_forecast_1 : decode b_Mo_forecast 1 = .ok (.iload_n 2, 1) := by decide +kernel
theorem d_Mo_forecast_2 : decode b_Mo_forecast 2 = .ok (.invokestatic 93, 3) := by decide +kernel
theorem d_Mo_forecast_5 : decode b_Mo_forecast 5 = .ok (.ifCond .ne 7, 3) := by decide +kernel
theorem d_Mo_forecast_8 : decode b_Mo_forecast 8 = .ok (.iconst 1, 1) := by decide +kernel
theorem d_Mo_forecast_9 : decode b_Mo_forecast 9 = .ok (.goto 4, 3) := by decide +kernel
theorem d_Mo_forecast_12 : decode b_Mo_forecast 12 = .ok (.iconst 0, 1) := by decide +kernel
theorem d_Mo_forecast_13 : decode b_Mo_forecast 13 = .ok (.istore 4, 2) := by decide +kernel
theorem d_Mo_forecast_15 : decode b_Mo_forecast 15 = .ok (.aload_n 0, 1) := by decide +kernel
theorem d_Mo_forecast_16 : decode b_Mo_forecast 16 = .ok (.iload 4, 2) := by decide +kernel
theorem d_Mo_forecast_18 : decode b_Mo_forecast 18 = .ok (.iload_n 3, 1) := by decide +kernel
theorem d_Mo_forecast_19 : decode b_Mo_forecast 19 = .ok (.iconst 0, 1) := by decide +kernel
theorem d_Mo_forecast_20 : decode b_Mo_forecast 20 = .ok (.sipush 365, 3) := by decide +kernel
theorem d_Mo_forecast_23 : decode b_Mo_forecast 23 = .ok (.invokestatic 89, 3) := by decide +kernel
theorem d_Mo_forecast_26 : decode b_Mo_forecast 26 = .ok (.ifCond .ne 7, 3) := by decide +kernel
theorem d_Mo_forecast_29 : decode b_Mo_forecast 29 = .ok (.iconst 1, 1) := by decide +kernel
theorem d_Mo_forecast_30 : decode b_Mo_forecast 30 = .ok (.goto 4, 3) := by decide +kernel
theorem d_Mo_forecast_33 : decode b_Mo_forecast 33 = .ok (.iconst 0, 1) := by decide +kernel
theorem d_Mo_forecast_34 : decode b_Mo_forecast 34 = .ok (.iload_n 3, 1) := by decide +kernel
theorem d_Mo_forecast_35 : decode b_Mo_forecast 35 = .ok (.ifCond .ne 7, 3) := by decide +kernel
theorem d_Mo_forecast_38 : decode b_Mo_forecast 38 = .ok (.iconst 1, 1) := by decide +kernel
theorem d_Mo_forecast_39 : decode b_Mo_forecast 39 = .ok (.goto 4, 3) := by decide +kernel
theorem d_Mo_forecast_42 : decode b_Mo_forecast 42 = .ok (.iconst 0, 1) := by decide +kernel
theorem d_Mo_forecast_43 : decode b_Mo_forecast 43 = .ok (.iconst 0, 1) := by decide +kernel
theorem d_Mo_forecast_44 : decode b_Mo_forecast 44 = .ok (.invokevirtual 101, 3) := by decide +kernel
theorem d_Mo_forecast_47 : decode b_Mo_forecast 47 = .ok (.ifCond .eq 5, 3) := by decide +kernel
theorem d_Mo_forecast_50 : decode b_Mo_forecast 50 = .ok (.lconst 0, 1) := by decide +kernel
theorem d_Mo_forecast_51 : decode b_Mo_forecast 51 = .ok (.lreturn, 1) := by decide +kernel
theorem d_Mo_forecast_52 : decode b_Mo_forecast 52 = .ok (.ldc2_w 164, 3) := by decide +kernel
theorem d_Mo_forecast_55 : decode b_Mo_forecast 55 = .ok (.aload_n 0, 1) := by decide +kernel
theorem d_Mo_forecast_56 : decode b_Mo_forecast 56 = .ok (.getfield 16, 3) := by decide +kernel
theorem d_Mo_forecast_59 : decode b_Mo_forecast 59 = .ok (.bipush 10, 2) := by decide +kernel
theorem d_Mo_forecast_61 : decode b_Mo_forecast 61 = .ok (.iload_n 1, 1) := by decide +kernel
theorem d_Mo_forecast_62 : decode b_Mo_forecast 62 = .ok (.imul, 1) := by decide +kernel
theorem d_Mo_forecast_63 : decode b_Mo_forecast 63 = .ok (.iload_n 2, 1) := by decide +kernel
theorem d_Mo_forecast_64 : decode b_Mo_forecast 64 = .ok (.iadd, 1) := by decide +kernel
theorem d_Mo_forecast_65 : decode b_Mo_forecast 65 = .ok (.iaload, 1) := by decide +kernel
theorem d_Mo_forecast_66 : decode b_Mo_forecast 66 = .ok (.i2l, 1) := by decide +kernel
theorem d_Mo_forecast_67 : decode b_Mo_forecast 67 = .ok (.lmul, 1) := by decide +kernel
theorem d_Mo_forecast_68 : decode b_Mo_forecast 68 = .ok (.iload_n 3, 1) := by decide +kernel
theorem d_Mo_forecast_69 : decode b_Mo_forecast 69 = .ok (.i2l, 1) := by decide +kernel
theorem d_Mo_forecast_70 : decode b_Mo_forecast 70 = .ok (.ldiv, 1) := by decide +kernel
theorem d_Mo_forecast_71 : decode b_Mo_forecast 71 = .ok (.lreturn, 1) := by decide +kernel
