theorem d_CB_init_0 : decode b_CB_init 0 = .ok (.aload_n 0, 1) := by decide +kernel
theorem d_CB_init_1 : decode b_CB_init 1 = .ok (.invokespecial 1, 3) := by decide +kernel
theorem d_CB_init_4 : decode b_CB_init 4 = .ok (.aload_n 0, 1) := by decide +kernel
theorem d_CB_init_5 : decode b_CB_init 5 = .ok (.new 7, 3) := by decide +kernel
theorem d_CB_init_8 : decode b_CB_init 8 = .ok (.dup, 1) := by decide +kernel
theorem d_CB_init_9 : decode b_CB_init 9 = .ok (.invokespecial 9, 3) := by decide +kernel
theorem d_CB_init_12 : decode b_CB_init 12 = .ok (.putfield 10, 3) := by decide +kernel
theorem d_CB_init_15 : decode b_CB_init 15 = .ok (.aload_n 0, 1) := by decide +kernel
theorem d_CB_init_16 : decode b_CB_init 16 = .ok (.new 16, 3) := by decide +kernel
theorem d_CB_init_19 : decode b_CB_init 19 = .ok (.dup, 1) := by decide +kernel
theorem d_CB_init_20 : decode b_CB_init 20 = .ok (.invokespecial 18, 3) := by decide +kernel
theorem d_CB_init_23 : decode b_CB_init 23 = .ok (.putfield 19, 3) := by decide +kernel
theorem d_CB_init_26 : decode b_CB_init 26 = .ok (.aload_n 0, 1) := by decide +kernel
theorem d_CB_init_27 : decode b_CB_init 27 = .ok (.new 23, 3) := by decide +kernel
theorem d_CB_init_30 : decode b_CB_init 30 = .ok (.dup, 1) := by decide +kernel
theorem d_CB_init_31 : decode b_CB_init 31 = .ok (.invokespecial 25, 3) := by decide +kernel
theorem d_CB_init_34 : decode b_CB_init 34 = .ok (.putfield 26, 3) := by decide +kernel
theorem d_CB_init_37 : decode b_CB_init 37 = .ok (.aload_n 0, 1) := by decide +kernel
theorem d_CB_init_38 : decode b_CB_init 38 = .ok (.new 30, 3) := by decide +kernel
theorem d_CB_init_41 : decode b_CB_init 41 = .ok (.dup, 1) := by decide +kernel
theorem d_CB_init_42 : decode b_CB_init 42 = .ok (.invokespecial 32, 3) := by decide +kernel
theorem d_CB_init_45 : decode b_CB_init 45 = .ok (.putfield 33, 3) := by decide +kernel
theorem d_CB_init_48 : decode b_CB_init 48 = .ok (.aload_n 0, 1) := by decide +kernel
theorem d_CB_init_49 : decode b_CB_init 49 = .ok (.new 37, 3) := by decide +kernel
theorem d_CB_init_52 : decode b_CB_init 52 = .ok (.dup, 1) := by decide +kernel
theorem d_CB_init_53 : decode b_CB_init 53 = .ok (.invokespecial 39, 3) := by decide +kernel
theorem d_CB_init_56 : decode b_CB_init 56 = .ok (.putfield 40, 3) := by decide +kernel
theorem d_CB_init_59 : decode b_CB_init 59 = .ok (.aload_n 0, 1) := by decide +kernel
theorem d_CB_init_60 : decode b_CB_init 60 = .ok (.new 44, 3) := by decide +kernel
theorem d_CB_init_63 : decode b_CB_init 63 = .ok (.dup, 1) := by decide +kernel
theorem d_CB_init_64 : decode b_CB_init 64 = .ok (.invokespecial 46, 3) := by decide +kernel
theorem d_CB_init_67 : decode b_CB_init 67 = .ok (.putfield 47, 3) := by decide +kernel
theorem d_CB_init_70 : decode b_CB_init 70 = .ok (.aload_n 0, 1) := by decide +kernel
theorem d_CB_init_71 : decode b_CB_init 71 = .ok (.new 51, 3) := by decide +kernel
theorem d_CB_init_74 : decode b_CB_init 74 = .ok (.dup, 1) := by decide +kernel
theorem d_CB_init_75 : decode b_CB_init 75 = .ok (.invokespecial 53, 3) := by decide +kernel
theorem d_CB_init_78 : decode b_CB_init 78 = .ok (.putfield 54, 3) := by decide +kernel
theorem d_CB_init_81 : decode b_CB_init 81 = .ok (.aload_n 0, 1) := by decide +kernel
theorem d_CB_init_82 : decode b_CB_init 82 = .ok (.new 58, 3) := by decide +kernel
theorem d_CB_init_85 : decode b_CB_init 85 = .ok (.dup, 1) := by decide +kernel
theorem d_CB_init_86 : decode b_CB_init 86 = .ok (.invokespecial 60, 3) := by decide +kernel
theorem d_CB_init_89 : decode b_CB_init 89 = .ok (.putfield 61, 3) := by decide +kernel
theorem d_CB_init_92 : decode b_CB_init 92 = .ok (.aload_n 0, 1) := by decide +kernel
theorem d_CB_init_93 : decode b_CB_init 93 = .ok (.new 65, 3) := by decide +kernel
theorem d_CB_init_96 : decode b_CB_init 96 = .ok (.dup, 1) := by decide +kernel
theorem d_CB_init_97 : decode b_CB_init 97 = .ok (.invokespecial 67, 3) := by decide +kernel
theorem d_CB_init_100 : decode b_CB_init 100 = .ok (.putfield 68, 3) := by decide +kernel
theorem d_CB_init_103 : decode b_CB_init 103 = .ok (.aload_n 0, 1) := by decide +kernel
theorem d_CB_init_104 : decode b_CB_init 104 = .ok (.bipush 100, 2) := by decide +kernel
theorem d_CB_init_106 : decode b_CB_init 106 = .ok (.putfield 72, 3) := by decide +kernel
theorem d_CB_init_109 : decode b_CB_init 109 = .ok (.aload_n 0, 1) := by decide +kernel
theorem d_CB_init_110 : decode b_CB_init 110 = .ok (.iconst (-1), 1) := by decide +kernel
theorem d_CB_init_111 : decode b_CB_init 111 = .ok (.putfield 76, 3) := by decide +kernel
theorem d_CB_init_114 : decode b_CB_init 114 = .ok (.aload_n 0, 1) := by decide +kernel
theorem d_CB_init_115 : decode b_CB_init 115 = .ok (.iconst 0, 1) := by decide +kernel
theorem d_CB_init_116 : decode b_CB_init 116 = .ok (.putfield 79, 3) := by decide +kernel
theorem d_CB_init_119 : decode b_CB_init 119 = .ok (.return_, 1) := by decide +kernel
theorem d_CB_budget_0 : decode b_CB_budget 0 = .ok (.iload_n 1, 1) := by decide +kernel
theorem d_CB_budget_1 : decode b_CB_budget 1 = .ok (.iconst 5, 1) := by decide +kernel
theorem d_CB_budget_2 : decode b_CB_budget 2 = .ok (.invokestatic 82, 3) := by decide +kernel
theorem d_CB_budget_5 : decode b_CB_budget 5 = .ok (.iload_n 2, 1) := by decide +kernel
theorem d_CB_budget_6 : decode b_CB_budget 6 = .ok (.bipush 10, 2) := by decide +kernel
theorem d_CB_budget_8 : decode b_CB_budget 8 = .ok (.invokestatic 82, 3) := by decide +kernel
theorem d_CB_budget_11 : decode b_CB_budget 11 = .ok (.iload_n 3, 1) := by decide +kernel
theorem d_CB_budget_12 : decode b_CB_budget 12 = .ok (.iconst 0, 1) := by decide +kernel
theorem d_CB_budget_13 : decode b_CB_budget 13 = .ok (.ldc 86, 2) := by decide +kernel
theorem d_CB_budget_15 : decode b_CB_budget 15 = .ok (.invokestatic 87, 3) := by decide +kernel
theorem d_CB_budget_18 : decode b_CB_budget 18 = .ok (.iload_n 1, 1) := by decide +kernel
theorem d_CB_budget_19 : decode b_CB_budget 19 = .ok (.iload_n 2, 1) := by decide +kernel
theorem d_CB_budget_20 : decode b_CB_budget 20 = .ok (.invokestatic 91, 3) := by decide +kernel
theorem d_CB_budget_23 : decode b_CB_budget 23 = .ok (.istore 4, 2) := by decide +kernel
theorem d_CB_budget_25 : decode b_CB_budget 25 = .ok (.aload_n 0, 1) := by decide +kernel
theorem d_CB_budget_26 : decode b_CB_budget 26 = .ok (.iload_n 1, 1) := by decide +kernel
theorem d_CB_budget_27 : decode b_CB_budget 27 = .ok (.invokevirtual 95, 3) := by decide +kernel
theorem d_CB_budget_30 : decode b_CB_budget 30 = .ok (.ifCond .ne 20, 3) := by decide +kernel
theorem d_CB_budget_33 : decode b_CB_budget 33 = .ok (.iload_n 3, 1) := by decide +kernel
theorem d_CB_budget_34 : decode b_CB_budget 34 = .ok (.aload_n 0, 1) := by decide +kernel
theorem d_CB_budget_35 : decode b_CB_budget 35 = .ok (.getfield 10, 3) := by decide +kernel
theorem d_CB_budget_38 : decode b_CB_budget 38 = .ok (.iload 4, 2) := by decide +kernel
theorem d_CB_budget_40 : decode b_CB_budget 40 = .ok (.invokevirtual 99, 3) := by decide +kernel
theorem d_CB_budget_43 : decode b_CB_budget 43 = .ok (.if_icmp .lt 7, 3) := by decide +kernel
theorem d_CB_budget_46 : decode b_CB_budget 46 = .ok (.iconst 1, 1) := by decide +kernel
theorem d_CB_budget_47 : decode b_CB_budget 47 = .ok (.goto 4, 3) := by decide +kernel
theorem d_CB_budget_50 : decode b_CB_budget 50 = .ok (.iconst 0, 1) := by decide +kernel
theorem d_CB_budget_51 : decode b_CB_budget 51 = .ok (.invokestatic 103, 3) := by decide +kernel
theorem d_CB_budget_54 : decode b_CB_budget 54 = .ok (.aload_n 0, 1) := by decide +kernel
theorem d_CB_budget_55 : decode b_CB_budget 55 = .ok (.getfield 10, 3) := by decide +kernel
theorem d_CB_budget_58 : decode b_CB_budget 58 = .ok (.getfield 107, 3) := by decide +kernel
theorem d_CB_budget_61 : decode b_CB_budget 61 = .ok (.iload 4, 2) := by decide +kernel
theorem d_CB_budget_63 : decode b_CB_budget 63 = .ok (.iload_n 3, 1) := by decide +kernel
theorem d_CB_budget_64 : decode b_CB_budget 64 = .ok (.iastore, 1) := by decide +kernel
theorem d_CB_budget_65 : decode b_CB_budget 65 = .ok (.return_, 1) := by decide +kernel
theorem d_CB_budgetAt_0 : decode b_CB_budgetAt 0 = .ok (.iload_n 1, 1) := by decide +kernel
theorem d_CB_budgetAt_1 : decode b_CB_budgetAt 1 = .ok (.iconst 5, 1) := by decide +kernel
theorem d_CB_budgetAt_2 : decode b_CB_budgetAt 2 = .ok (.invokestatic 82, 3) := by decide +kernel
theorem d_CB_budgetAt_5 : decode b_CB_budgetAt 5 = .ok (.iload_n 2, 1) := by decide +kernel
theorem d_CB_budgetAt_6 : decode b_CB_budgetAt 6 = .ok (.bipush 10, 2) := by decide +kernel
theorem d_CB_budgetAt_8 : decode b_CB_budgetAt 8 = .ok (.invokestatic 82, 3) := by decide +kernel
theorem d_CB_budgetAt_11 : decode b_CB_budgetAt 11 = .ok (.iload_n 3, 1) := by decide +kernel
theorem d_CB_budgetAt_12 : decode b_CB_budgetAt 12 = .ok (.iconst 4, 1) := by decide +kernel
theorem d_CB_budgetAt_13 : decode b_CB_budgetAt 13 = .ok (.invokestatic 82, 3) := by decide +kernel
theorem d_CB_budgetAt_16 : decode b_CB_budgetAt 16 = .ok (.iload_n 1, 1) := by decide +kernel
theorem d_CB_budgetAt_17 : decode b_CB_budgetAt 17 = .ok (.iload_n 2, 1) := by decide +kernel
theorem d_CB_budgetAt_18 : decode b_CB_budgetAt 18 = .ok (.invokestatic 91, 3) := by decide +kernel
theorem d_CB_budgetAt_21 : decode b_CB_budgetAt 21 = .ok (.istore 4, 2) := by decide +kernel
theorem d_CB_budgetAt_23 : decode b_CB_budgetAt 23 = .ok (.iload_n 3, 1) := by decide +kernel
theorem d_CB_budgetAt_24 : decode b_CB_budgetAt 24 = .ok (.tableswitch 61 0 2 #[28, 39, 50], 28) := by decide +kernel
theorem d_CB_budgetAt_52 : decode b_CB_budgetAt 52 = .ok (.aload_n 0, 1) := by decide +kernel
theorem d_CB_budgetAt_53 : decode b_CB_budgetAt 53 = .ok (.getfield 10, 3) := by decide +kernel
theorem d_CB_budgetAt_56 : decode b_CB_budgetAt 56 = .ok (.getfield 107, 3) := by decide +kernel
theorem d_CB_budgetAt_59 : decode b_CB_budgetAt 59 = .ok (.iload 4, 2) := by decide +kernel
theorem d_CB_budgetAt_61 : decode b_CB_budgetAt 61 = .ok (.iaload, 1) := by decide +kernel
theorem d_CB_budgetAt_62 : decode b_CB_budgetAt 62 = .ok (.ireturn, 1) := by decide +kernel
theorem d_CB_budgetAt_63 : decode b_CB_budgetAt 63 = .ok (.aload_n 0, 1) := by decide +kernel
theorem d_CB_budgetAt_64 : decode b_CB_budgetAt 64 = .ok (.getfield 10, 3) := by decide +kernel
theorem d_CB_budgetAt_67 : decode b_CB_budgetAt 67 = .ok (.getfield 111, 3) := by decide +kernel
theorem d_CB_budgetAt_70 : decode b_CB_budgetAt 70 = .ok (.iload 4, 2) := by decide +kernel
theorem d_CB_budgetAt_72 : decode b_CB_budgetAt 72 = .ok (.iaload, 1) := by decide +kernel
theorem d_CB_budgetAt_73 : decode b_CB_budgetAt 73 = .ok (.ireturn, 1) := by decide +kernel
theorem d_CB_budgetAt_74 : decode b_CB_budgetAt 74 = .ok (.aload_n 0, 1) := by decide +kernel
theorem d_CB_budgetAt_75 : decode b_CB_budgetAt 75 = .ok (.getfield 10, 3) := by decide +kernel
theorem d_CB_budgetAt_78 : decode b_CB_budgetAt 78 = .ok (.getfield 114, 3) := by decide +kernel
theorem d_CB_budgetAt_81 : decode b_CB_budgetAt 81 = .ok (.iload 4, 2) := by decide +kernel
theorem d_CB_budgetAt_83 : decode b_CB_budgetAt 83 = .ok (.iaload, 1) := by decide +kernel
theorem d_CB_budgetAt_84 : decode b_CB_budgetAt 84 = .ok (.ireturn, 1) := by decide +kernel
theorem d_CB_budgetAt_85 : decode b_CB_budgetAt 85 = .ok (.aload_n 0, 1) := by decide +kernel
theorem d_CB_budgetAt_86 : decode b_CB_budgetAt 86 = .ok (.getfield 10, 3) := by decide +kernel
theorem d_CB_budgetAt_89 : decode b_CB_budgetAt 89 = .ok (.iload 4, 2) := by decide +kernel
theorem d_CB_budgetAt_91 : decode b_CB_budgetAt 91 = .ok (.invokevirtual 117, 3) := by decide +kernel
theorem d_CB_budgetAt_94 : decode b_CB_budgetAt 94 = .ok (.ireturn, 1) := by decide +kernel
theorem d_CB_band_0 : decode b_CB_band 0 = .ok (.iload_n 1, 1) := by decide +kernel
theorem d_CB_band_1 : decode b_CB_band 1 = .ok (.iconst 0, 1) := by decide +kernel
theorem d_CB_band_2 : decode b_CB_band 2 = .ok (.sipush 1000, 3) := by decide +kernel
theorem d_CB_band_5 : decode b_CB_band 5 = .ok (.invokestatic 87, 3) := by decide +kernel
theorem d_CB_band_8 : decode b_CB_band 8 = .ok (.aload_n 0, 1) := by decide +kernel
theorem d_CB_band_9 : decode b_CB_band 9 = .ok (.iload_n 1, 1) := by decide +kernel
theorem d_CB_band_10 : decode b_CB_band 10 = .ok (.putfield 72, 3) := by decide +kernel
theorem d_CB_band_13 : decode b_CB_band 13 = .ok (.return_, 1) := by decide +kernel
theorem d_CB_order_0 : decode b_CB_order 0 = .ok (.iload_n 1, 1) := by decide +kernel
theorem d_CB_order_1 : decode b_CB_order 1 = .ok (.iconst 5, 1) := by decide +kernel
theorem d_CB_order_2 : decode b_CB_order 2 = .ok (.invokestatic 82, 3) := by decide +kernel
theorem d_CB_order_5 : decode b_CB_order 5 = .ok (.iload_n 2, 1) := by decide +kernel
theorem d_CB_order_6 : decode b_CB_order 6 = .ok (.bipush 10, 2) := by decide +kernel
theorem d_CB_order_8 : decode b_CB_order 8 = .ok (.invokestatic 82, 3) := by decide +kernel
theorem d_CB_order_11 : decode b_CB_order 11 = .ok (.iload_n 3, 1) := by decide +kernel
theorem d_CB_order_12 : decode b_CB_order 12 = .ok (.iconst 0, 1) := by decide +kernel
theorem d_CB_order_13 : decode b_CB_order 13 = .ok (.ldc 86, 2) := by decide +kernel
theorem d_CB_order_15 : decode b_CB_order 15 = .ok (.invokestatic 87, 3) := by decide +kernel
theorem d_CB_order_18 : decode b_CB_order 18 = .ok (.iload_n 1, 1) := by decide +kernel
theorem d_CB_order_19 : decode b_CB_order 19 = .ok (.iload_n 2, 1) := by decide +kernel
theorem d_CB_order_20 : decode b_CB_order 20 = .ok (.invokestatic 91, 3) := by decide +kernel
theorem d_CB_order_23 : decode b_CB_order 23 = .ok (.istore 4, 2) := by decide +kernel
theorem d_CB_order_25 : decode b_CB_order 25 = .ok (.aload_n 0, 1) := by decide +kernel
theorem d_CB_order_26 : decode b_CB_order 26 = .ok (.iload_n 1, 1) := by decide +kernel
theorem d_CB_order_27 : decode b_CB_order 27 = .ok (.invokevirtual 95, 3) := by decide +kernel
theorem d_CB_order_30 : decode b_CB_order 30 = .ok (.ifCond .ne 20, 3) := by decide +kernel
theorem d_CB_order_33 : decode b_CB_order 33 = .ok (.iload_n 3, 1) := by decide +kernel
theorem d_CB_order_34 : decode b_CB_order 34 = .ok (.aload_n 0, 1) := by decide +kernel
theorem d_CB_order_35 : decode b_CB_order 35 = .ok (.getfield 10, 3) := by decide +kernel
theorem d_CB_order_38 : decode b_CB_order 38 = .ok (.iload 4, 2) := by decide +kernel
theorem d_CB_order_40 : decode b_CB_order 40 = .ok (.invokevirtual 117, 3) := by decide +kernel
theorem d_CB_order_43 : decode b_CB_order 43 = .ok (.if_icmp .gt 7, 3) := by decide +kernel
theorem d_CB_order_46 : decode b_CB_order 46 = .ok (.iconst 1, 1) := by decide +kernel
theorem d_CB_order_47 : decode b_CB_order 47 = .ok (.goto 4, 3) := by decide +kernel
theorem d_CB_order_50 : decode b_CB_order 50 = .ok (.iconst 0, 1) := by decide +kernel
theorem d_CB_order_51 : decode b_CB_order 51 = .ok (.invokestatic 103, 3) := by decide +kernel
theorem d_CB_order_54 : decode b_CB_order 54 = .ok (.aload_n 0, 1) := by decide +kernel
theorem d_CB_order_55 : decode b_CB_order 55 = .ok (.getfield 19, 3) := by decide +kernel
theorem d_CB_order_58 : decode b_CB_order 58 = .ok (.getfield 120, 3) := by decide +kernel
theorem d_CB_order_61 : decode b_CB_order 61 = .ok (.bipush 60, 2) := by decide +kernel
theorem d_CB_order_63 : decode b_CB_order 63 = .ok (.if_icmp .ge 7, 3) := by decide +kernel
theorem d_CB_order_66 : decode b_CB_order 66 = .ok (.iconst 1, 1) := by decide +kernel
theorem d_CB_order_67 : decode b_CB_order 67 = .ok (.goto 4, 3) := by decide +kernel
theorem d_CB_order_70 : decode b_CB_order 70 = .ok (.iconst 0, 1) := by decide +kernel
theorem d_CB_order_71 : decode b_CB_order 71 = .ok (.invokestatic 123, 3) := by decide +kernel
theorem d_CB_order_74 : decode b_CB_order 74 = .ok (.aload_n 0, 1) := by decide +kernel
theorem d_CB_order_75 : decode b_CB_order 75 = .ok (.getfield 10, 3) := by decide +kernel
theorem d_CB_order_78 : decode b_CB_order 78 = .ok (.getfield 111, 3) := by decide +kernel
theorem d_CB_order_81 : decode b_CB_order 81 = .ok (.iload 4, 2) := by decide +kernel
theorem d_CB_order_83 : decode b_CB_order 83 = .ok (.dup2, 1) := by decide +kernel
theorem d_CB_order_84 : decode b_CB_order 84 = .ok (.iaload, 1) := by decide +kernel
theorem d_CB_order_85 : decode b_CB_order 85 = .ok (.iload_n 3, 1) := by decide +kernel
theorem d_CB_order_86 : decode b_CB_order 86 = .ok (.iadd, 1) := by decide +kernel
theorem d_CB_order_87 : decode b_CB_order 87 = .ok (.iastore, 1) := by decide +kernel
theorem d_CB_order_88 : decode b_CB_order 88 = .ok (.aload_n 0, 1) := by decide +kernel
theorem d_CB_order_89 : decode b_CB_order 89 = .ok (.getfield 19, 3) := by decide +kernel
theorem d_CB_order_92 : decode b_CB_order 92 = .ok (.iload 4, 2) := by decide +kernel
theorem d_CB_order_94 : decode b_CB_order 94 = .ok (.iload_n 3, 1) := by decide +kernel
theorem d_CB_order_95 : decode b_CB_order 95 = .ok (.invokevirtual 126, 3) := by decide +kernel
theorem d_CB_order_98 : decode b_CB_order 98 = .ok (.ireturn, 1) := by decide +kernel
theorem d_CB_invoice_0 : decode b_CB_invoice 0 = .ok (.iload_n 1, 1) := by decide +kernel
theorem d_CB_invoice_1 : decode b_CB_invoice 1 = .ok (.aload_n 0, 1) := by decide +kernel
theorem d_CB_invoice_2 : decode b_CB_invoice 2 = .ok (.getfield 19, 3) := by decide +kernel
theorem d_CB_invoice_5 : decode b_CB_invoice 5 = .ok (.getfield 120, 3) := by decide +kernel
theorem d_CB_invoice_8 : decode b_CB_invoice 8 = .ok (.invokestatic 82, 3) := by decide +kernel
theorem d_CB_invoice_11 : decode b_CB_invoice 11 = .ok (.iload_n 2, 1) := by decide +kernel
theorem d_CB_invoice_12 : decode b_CB_invoice 12 = .ok (.iconst 0, 1) := by decide +kernel
theorem d_CB_invoice_13 : decode b_CB_invoice 13 = .ok (.ldc 86, 2) := by decide +kernel
theorem d_CB_invoice_15 : decode b_CB_invoice 15 = .ok (.invokestatic 87, 3) := by decide +kernel
theorem d_CB_invoice_18 : decode b_CB_invoice 18 = .ok (.aload_n 0, 1) := by decide +kernel
theorem d_CB_invoice_19 : decode b_CB_invoice 19 = .ok (.getfield 19, 3) := by decide +kernel
theorem d_CB_invoice_22 : decode b_CB_invoice 22 = .ok (.getfield 129, 3) := by decide +kernel
theorem d_CB_invoice_25 : decode b_CB_invoice 25 = .ok (.iload_n 1, 1) := by decide +kernel
theorem d_CB_invoice_26 : decode b_CB_invoice 26 = .ok (.baload, 1) := by decide +kernel
theorem d_CB_invoice_27 : decode b_CB_invoice 27 = .ok (.invokestatic 103, 3) := by decide +kernel
theorem d_CB_invoice_30 : decode b_CB_invoice 30 = .ok (.aload_n 0, 1) := by decide +kernel
theorem d_CB_invoice_31 : decode b_CB_invoice 31 = .ok (.getfield 19, 3) := by decide +kernel
theorem d_CB_invoice_34 : decode b_CB_invoice 34 = .ok (.getfield 133, 3) := by decide +kernel
theorem d_CB_invoice_37 : decode b_CB_invoice 37 = .ok (.iload_n 1, 1) := by decide +kernel
theorem d_CB_invoice_38 : decode b_CB_invoice 38 = .ok (.iaload, 1) := by decide +kernel
theorem d_CB_invoice_39 : decode b_CB_invoice 39 = .ok (.istore_n 3, 1) := by decide +kernel
theorem d_CB_invoice_40 : decode b_CB_invoice 40 = .ok (.iload_n 2, 1) := by decide +kernel
theorem d_CB_invoice_41 : decode b_CB_invoice 41 = .ok (.aload_n 0, 1) := by decide +kernel
theorem d_CB_invoice_42 : decode b_CB_invoice 42 = .ok (.getfield 19, 3) := by decide +kernel
theorem d_CB_invoice_45 : decode b_CB_invoice 45 = .ok (.getfield 136, 3) := by decide +kernel
theorem d_CB_invoice_48 : decode b_CB_invoice 48 = .ok (.iload_n 1, 1) := by decide +kernel
theorem d_CB_invoice_49 : decode b_CB_invoice 49 = .ok (.iaload, 1) := by decide +kernel
theorem d_CB_invoice_50 : decode b_CB_invoice 50 = .ok (.isub, 1) := by decide +kernel
theorem d_CB_invoice_51 : decode b_CB_invoice 51 = .ok (.istore 4, 2) := by decide +kernel
theorem d_CB_invoice_53 : decode b_CB_invoice 53 = .ok (.iload 4, 2) := by decide +kernel
theorem d_CB_invoice_55 : decode b_CB_invoice 55 = .ok (.invokestatic 139, 3) := by decide +kernel
theorem d_CB_invoice_58 : decode b_CB_invoice 58 = .ok (.i2l, 1) := by decide +kernel
theorem d_CB_invoice_59 : decode b_CB_invoice 59 = .ok (.aload_n 0, 1) := by decide +kernel
theorem d_CB_invoice_60 : decode b_CB_invoice 60 = .ok (.getfield 19, 3) := by decide +kernel
theorem d_CB_invoice_63 : decode b_CB_invoice 63 = .ok (.iload_n 1, 1) := by decide +kernel
theorem d_CB_invoice_64 : decode b_CB_invoice 64 = .ok (.aload_n 0, 1) := by decide +kernel
theorem d_CB_invoice_65 : decode b_CB_invoice 65 = .ok (.getfield 72, 3) := by decide +kernel
theorem d_CB_invoice_68 : decode b_CB_invoice 68 = .ok (.invokevirtual 144, 3) := by decide +kernel
theorem d_CB_invoice_71 : decode b_CB_invoice 71 = .ok (.lcmp, 1) := by decide +kernel
theorem d_CB_invoice_72 : decode b_CB_invoice 72 = .ok (.ifCond .gt 7, 3) := by decide +kernel
theorem d_CB_invoice_75 : decode b_CB_invoice 75 = .ok (.iconst 1, 1) := by decide +kernel
theorem d_CB_invoice_76 : decode b_CB_invoice 76 = .ok (.goto 4, 3) := by decide +kernel
theorem d_CB_invoice_79 : decode b_CB_invoice 79 = .ok (.iconst 0, 1) := by decide +kernel
theorem d_CB_invoice_80 : decode b_CB_invoice 80 = .ok (.invokestatic 103, 3) := by decide +kernel
theorem d_CB_invoice_83 : decode b_CB_invoice 83 = .ok (.iload 4, 2) := by decide +kernel
theorem d_CB_invoice_85 : decode b_CB_invoice 85 = .ok (.aload_n 0, 1) := by decide +kernel
theorem d_CB_invoice_86 : decode b_CB_invoice 86 = .ok (.getfield 10, 3) := by decide +kernel
theorem d_CB_invoice_89 : decode b_CB_invoice 89 = .ok (.iload_n 3, 1) := by decide +kernel
theorem d_CB_invoice_90 : decode b_CB_invoice 90 = .ok (.invokevirtual 117, 3) := by decide +kernel
theorem d_CB_invoice_93 : decode b_CB_invoice 93 = .ok (.if_icmp .gt 7, 3) := by decide +kernel
theorem d_CB_invoice_96 : decode b_CB_invoice 96 = .ok (.iconst 1, 1) := by decide +kernel
theorem d_CB_invoice_97 : decode b_CB_invoice 97 = .ok (.goto 4, 3) := by decide +kernel
theorem d_CB_invoice_100 : decode b_CB_invoice 100 = .ok (.iconst 0, 1) := by decide +kernel
theorem d_CB_invoice_101 : decode b_CB_invoice 101 = .ok (.invokestatic 103, 3) := by decide +kernel
theorem d_CB_invoice_104 : decode b_CB_invoice 104 = .ok (.aload_n 0, 1) := by decide +kernel
theorem d_CB_invoice_105 : decode b_CB_invoice 105 = .ok (.iload_n 1, 1) := by decide +kernel
theorem d_CB_invoice_106 : decode b_CB_invoice 106 = .ok (.invokevirtual 148, 3) := by decide +kernel
theorem d_CB_invoice_109 : decode b_CB_invoice 109 = .ok (.aload_n 0, 1) := by decide +kernel
theorem d_CB_invoice_110 : decode b_CB_invoice 110 = .ok (.getfield 10, 3) := by decide +kernel
theorem d_CB_invoice_113 : decode b_CB_invoice 113 = .ok (.getfield 114, 3) := by decide +kernel
theorem d_CB_invoice_116 : decode b_CB_invoice 116 = .ok (.iload_n 3, 1) := by decide +kernel
theorem d_CB_invoice_117 : decode b_CB_invoice 117 = .ok (.dup2, 1) := by decide +kernel
theorem d_CB_invoice_118 : decode b_CB_invoice 118 = .ok (.iaload, 1) := by decide +kernel
theorem d_CB_invoice_119 : decode b_CB_invoice 119 = .ok (.iload_n 2, 1) := by decide +kernel
theorem d_CB_invoice_120 : decode b_CB_invoice 120 = .ok (.iadd, 1) := by decide +kernel
theorem d_CB_invoice_121 : decode b_CB_invoice 121 = .ok (.iastore, 1) := by decide +kernel
theorem d_CB_invoice_122 : decode b_CB_invoice 122 = .ok (.return_, 1) := by decide +kernel
theorem d_CB_cancel_0 : decode b_CB_cancel 0 = .ok (.iload_n 1, 1) := by decide +kernel
theorem d_CB_cancel_1 : decode b_CB_cancel 1 = .ok (.aload_n 0, 1) := by decide +kernel
theorem d_CB_cancel_2 : decode b_CB_cancel 2 = .ok (.getfield 19, 3) := by decide +kernel
theorem d_CB_cancel_5 : decode b_CB_cancel 5 = .ok (.getfield 120, 3) := by decide +kernel
theorem d_CB_cancel_8 : decode b_CB_cancel 8 = .ok (.invokestatic 82, 3) := by decide +kernel
theorem d_CB_cancel_11 : decode b_CB_cancel 11 = .ok (.aload_n 0, 1) := by decide +kernel
theorem d_CB_cancel_12 : decode b_CB_cancel 12 = .ok (.getfield 19, 3) := by decide +kernel
theorem d_CB_cancel_15 : decode b_CB_cancel 15 = .ok (.getfield 129, 3) := by decide +kernel
theorem d_CB_cancel_18 : decode b_CB_cancel 18 = .ok (.iload_n 1, 1) := by decide +kernel
theorem d_CB_cancel_19 : decode b_CB_cancel 19 = .ok (.baload, 1) := by decide +kernel
theorem d_CB_cancel_20 : decode b_CB_cancel 20 = .ok (.invokestatic 103, 3) := by decide +kernel
theorem d_CB_cancel_23 : decode b_CB_cancel 23 = .ok (.aload_n 0, 1) := by decide +kernel
theorem d_CB_cancel_24 : decode b_CB_cancel 24 = .ok (.iload_n 1, 1) := by decide +kernel
theorem d_CB_cancel_25 : decode b_CB_cancel 25 = .ok (.invokevirtual 148, 3) := by decide +kernel
theorem d_CB_cancel_28 : decode b_CB_cancel 28 = .ok (.return_, 1) := by decide +kernel
theorem d_CB_sign_0 : decode b_CB_sign 0 = .ok (.iload_n 3, 1) := by decide +kernel
theorem d_CB_sign_1 : decode b_CB_sign 1 = .ok (.iconst 1, 1) := by decide +kernel
theorem d_CB_sign_2 : decode b_CB_sign 2 = .ok (.bipush 8, 2) := by decide +kernel
theorem d_CB_sign_4 : decode b_CB_sign 4 = .ok (.invokestatic 87, 3) := by decide +kernel
theorem d_CB_sign_7 : decode b_CB_sign 7 = .ok (.aload_n 0, 1) := by decide +kernel
theorem d_CB_sign_8 : decode b_CB_sign 8 = .ok (.getfield 26, 3) := by decide +kernel
theorem d_CB_sign_11 : decode b_CB_sign 11 = .ok (.getfield 152, 3) := by decide +kernel
theorem d_CB_sign_14 : decode b_CB_sign 14 = .ok (.iload_n 3, 1) := by decide +kernel
theorem d_CB_sign_15 : decode b_CB_sign 15 = .ok (.iadd, 1) := by decide +kernel
theorem d_CB_sign_16 : decode b_CB_sign 16 = .ok (.sipush 200, 3) := by decide +kernel
theorem d_CB_sign_19 : decode b_CB_sign 19 = .ok (.if_icmp .gt 7, 3) := by decide +kernel
theorem d_CB_sign_22 : decode b_CB_sign 22 = .ok (.iconst 1, 1) := by decide +kernel
theorem d_CB_sign_23 : decode b_CB_sign 23 = .ok (.goto 4, 3) := by decide +kernel
theorem d_CB_sign_26 : decode b_CB_sign 26 = .ok (.iconst 0, 1) := by decide +kernel
theorem d_CB_sign_27 : decode b_CB_sign 27 = .ok (.invokestatic 123, 3) := by decide +kernel
theorem d_CB_sign_30 : decode b_CB_sign 30 = .ok (.aload_n 0, 1) := by decide +kernel
theorem d_CB_sign_31 : decode b_CB_sign 31 = .ok (.getfield 26, 3) := by decide +kernel
theorem d_CB_sign_34 : decode b_CB_sign 34 = .ok (.lload_n 1, 1) := by decide +kernel
theorem d_CB_sign_35 : decode b_CB_sign 35 = .ok (.iload_n 3, 1) := by decide +kernel
theorem d_CB_sign_36 : decode b_CB_sign 36 = .ok (.invokevirtual 155, 3) := by decide +kernel
theorem d_CB_sign_39 : decode b_CB_sign 39 = .ok (.aload_n 0, 1) := by decide +kernel
theorem d_CB_sign_40 : decode b_CB_sign 40 = .ok (.getfield 26, 3) := by decide +kernel
theorem d_CB_sign_43 : decode b_CB_sign 43 = .ok (.getfield 152, 3) := by decide +kernel
theorem d_CB_sign_46 : decode b_CB_sign 46 = .ok (.ireturn, 1) := by decide +kernel
theorem d_CB_tariff_0 : decode b_CB_tariff 0 = .ok (.aload_n 0, 1) := by decide +kernel
theorem d_CB_tariff_1 : decode b_CB_tariff 1 = .ok (.aload_n 0, 1) := by decide +kernel
theorem d_CB_tariff_2 : decode b_CB_tariff 2 = .ok (.getfield 33, 3) := by decide +kernel
theorem d_CB_tariff_5 : decode b_CB_tariff 5 = .ok (.aload_n 0, 1) := by decide +kernel
theorem d_CB_tariff_6 : decode b_CB_tariff 6 = .ok (.getfield 26, 3) := by decide +kernel
theorem d_CB_tariff_9 : decode b_CB_tariff 9 = .ok (.invokevirtual 159, 3) := by decide +kernel
theorem d_CB_tariff_12 : decode b_CB_tariff 12 = .ok (.putfield 76, 3) := by decide +kernel
theorem d_CB_tariff_15 : decode b_CB_tariff 15 = .ok (.aload_n 0, 1) := by decide +kernel
theorem d_CB_tariff_16 : decode b_CB_tariff 16 = .ok (.getfield 26, 3) := by decide +kernel
theorem d_CB_tariff_19 : decode b_CB_tariff 19 = .ok (.iconst 0, 1) := by decide +kernel
theorem d_CB_tariff_20 : decode b_CB_tariff 20 = .ok (.putfield 152, 3) := by decide +kernel
theorem d_CB_tariff_23 : decode b_CB_tariff 23 = .ok (.aload_n 0, 1) := by decide +kernel
theorem d_CB_tariff_24 : decode b_CB_tariff 24 = .ok (.getfield 76, 3) := by decide +kernel
theorem d_CB_tariff_27 : decode b_CB_tariff 27 = .ok (.iconst (-1), 1) := by decide +kernel
theorem d_CB_tariff_28 : decode b_CB_tariff 28 = .ok (.if_icmp .ne 7, 3) := by decide +kernel
theorem d_CB_tariff_31 : decode b_CB_tariff 31 = .ok (.iconst 1, 1) := by decide +kernel
theorem d_CB_tariff_32 : decode b_CB_tariff 32 = .ok (.goto 4, 3) := by decide +kernel
theorem d_CB_tariff_35 : decode b_CB_tariff 35 = .ok (.iconst 0, 1) := by decide +kernel
theorem d_CB_tariff_36 : decode b_CB_tariff 36 = .ok (.invokestatic 103, 3) := by decide +kernel
theorem d_CB_tariff_39 : decode b_CB_tariff 39 = .ok (.aload_n 0, 1) := by decide +kernel
theorem d_CB_tariff_40 : decode b_CB_tariff 40 = .ok (.getfield 40, 3) := by decide +kernel
theorem d_CB_tariff_43 : decode b_CB_tariff 43 = .ok (.aload_n 0, 1) := by decide +kernel
theorem d_CB_tariff_44 : decode b_CB_tariff 44 = .ok (.getfield 33, 3) := by decide +kernel
theorem d_CB_tariff_47 : decode b_CB_tariff 47 = .ok (.invokevirtual 163, 3) := by decide +kernel
theorem d_CB_tariff_50 : decode b_CB_tariff 50 = .ok (.aload_n 0, 1) := by decide +kernel
theorem d_CB_tariff_51 : decode b_CB_tariff 51 = .ok (.getfield 33, 3) := by decide +kernel
theorem d_CB_tariff_54 : decode b_CB_tariff 54 = .ok (.getfield 167, 3) := by decide +kernel
theorem d_CB_tariff_57 : decode b_CB_tariff 57 = .ok (.ireturn, 1) := by decide +kernel
theorem d_CB_place_0 : decode b_CB_place 0 = .ok (.aload_n 0, 1) := by decide +kernel
theorem d_CB_place_1 : decode b_CB_place 1 = .ok (.getfield 76, 3) := by decide +kernel
theorem d_CB_place_4 : decode b_CB_place 4 = .ok (.ireturn, 1) := by decide +kernel
theorem d_CB_bill_0 : decode b_CB_bill 0 = .ok (.iload_n 1, 1) := by decide +kernel
theorem d_CB_bill_1 : decode b_CB_bill 1 = .ok (.bipush 10, 2) := by decide +kernel
theorem d_CB_bill_3 : decode b_CB_bill 3 = .ok (.invokestatic 82, 3) := by decide +kernel
theorem d_CB_bill_6 : decode b_CB_bill 6 = .ok (.iload_n 2, 1) := by decide +kernel
theorem d_CB_bill_7 : decode b_CB_bill 7 = .ok (.iconst 0, 1) := by decide +kernel
theorem d_CB_bill_8 : decode b_CB_bill 8 = .ok (.ldc 170, 2) := by decide +kernel
theorem d_CB_bill_10 : decode b_CB_bill 10 = .ok (.invokestatic 87, 3) := by decide +kernel
theorem d_CB_bill_13 : decode b_CB_bill 13 = .ok (.iload_n 3, 1) := by decide +kernel
theorem d_CB_bill_14 : decode b_CB_bill 14 = .ok (.iconst 0, 1) := by decide +kernel
theorem d_CB_bill_15 : decode b_CB_bill 15 = .ok (.ldc 86, 2) := by decide +kernel
theorem d_CB_bill_17 : decode b_CB_bill 17 = .ok (.invokestatic 87, 3) := by decide +kernel
theorem d_CB_bill_20 : decode b_CB_bill 20 = .ok (.iload 4, 2) := by decide +kernel
theorem d_CB_bill_22 : decode b_CB_bill 22 = .ok (.iconst 0, 1) := by decide +kernel
theorem d_CB_bill_23 : decode b_CB_bill 23 = .ok (.sipush 9999, 3) := by decide +kernel
theorem d_CB_bill_26 : decode b_CB_bill 26 = .ok (.invokestatic 87, 3) := by decide +kernel
theorem d_CB_bill_29 : decode b_CB_bill 29 = .ok (.aload_n 0, 1) := by decide +kernel
theorem d_CB_bill_30 : decode b_CB_bill 30 = .ok (.getfield 40, 3) := by decide +kernel
theorem d_CB_bill_33 : decode b_CB_bill 33 = .ok (.iload_n 1, 1) := by decide +kernel
theorem d_CB_bill_34 : decode b_CB_bill 34 = .ok (.invokevirtual 171, 3) := by decide +kernel
theorem d_CB_bill_37 : decode b_CB_bill 37 = .ok (.ifCond .ne 7, 3) := by decide +kernel
theorem d_CB_bill_40 : decode b_CB_bill 40 = .ok (.iconst 1, 1) := by decide +kernel
theorem d_CB_bill_41 : decode b_CB_bill 41 = .ok (.goto 4, 3) := by decide +kernel
theorem d_CB_bill_44 : decode b_CB_bill 44 = .ok (.iconst 0, 1) := by decide +kernel
theorem d_CB_bill_45 : decode b_CB_bill 45 = .ok (.invokestatic 103, 3) := by decide +kernel
theorem d_CB_bill_48 : decode b_CB_bill 48 = .ok (.aload_n 0, 1) := by decide +kernel
theorem d_CB_bill_49 : decode b_CB_bill 49 = .ok (.getfield 40, 3) := by decide +kernel
theorem d_CB_bill_52 : decode b_CB_bill 52 = .ok (.iload_n 1, 1) := by decide +kernel
theorem d_CB_bill_53 : decode b_CB_bill 53 = .ok (.iload_n 2, 1) := by decide +kernel
theorem d_CB_bill_54 : decode b_CB_bill 54 = .ok (.invokevirtual 174, 3) := by decide +kernel
theorem d_CB_bill_57 : decode b_CB_bill 57 = .ok (.iload_n 3, 1) := by decide +kernel
theorem d_CB_bill_58 : decode b_CB_bill 58 = .ok (.i2l, 1) := by decide +kernel
theorem d_CB_bill_59 : decode b_CB_bill 59 = .ok (.ladd, 1) := by decide +kernel
theorem d_CB_bill_60 : decode b_CB_bill 60 = .ok (.lstore 5, 2) := by decide +kernel
theorem d_CB_bill_62 : decode b_CB_bill 62 = .ok (.aload_n 0, 1) := by decide +kernel
theorem d_CB_bill_63 : decode b_CB_bill 63 = .ok (.getfield 47, 3) := by decide +kernel
theorem d_CB_bill_66 : decode b_CB_bill 66 = .ok (.getfield 177, 3) := by decide +kernel
theorem d_CB_bill_69 : decode b_CB_bill 69 = .ok (.bipush 60, 2) := by decide +kernel
theorem d_CB_bill_71 : decode b_CB_bill 71 = .ok (.if_icmp .ge 16, 3) := by decide +kernel
theorem d_CB_bill_74 : decode b_CB_bill 74 = .ok (.lload 5, 2) := by decide +kernel
theorem d_CB_bill_76 : decode b_CB_bill 76 = .ok (.ldc2_w 178, 3) := by decide +kernel
theorem d_CB_bill_79 : decode b_CB_bill 79 = .ok (.lcmp, 1) := by decide +kernel
theorem d_CB_bill_80 : decode b_CB_bill 80 = .ok (.ifCond .gt 7, 3) := by decide +kernel
theorem d_CB_bill_83 : decode b_CB_bill 83 = .ok (.iconst 1, 1) := by decide +kernel
theorem d_CB_bill_84 : decode b_CB_bill 84 = .ok (.goto 4, 3) := by decide +kernel
theorem d_CB_bill_87 : decode b_CB_bill 87 = .ok (.iconst 0, 1) := by decide +kernel
theorem d_CB_bill_88 : decode b_CB_bill 88 = .ok (.invokestatic 123, 3) := by decide +kernel
theorem d_CB_bill_91 : decode b_CB_bill 91 = .ok (.aload_n 0, 1) := by decide +kernel
theorem d_CB_bill_92 : decode b_CB_bill 92 = .ok (.getfield 47, 3) := by decide +kernel
theorem d_CB_bill_95 : decode b_CB_bill 95 = .ok (.lload 5, 2) := by decide +kernel
theorem d_CB_bill_97 : decode b_CB_bill 97 = .ok (.l2i, 1) := by decide +kernel
theorem d_CB_bill_98 : decode b_CB_bill 98 = .ok (.iload 4, 2) := by decide +kernel
theorem d_CB_bill_100 : decode b_CB_bill 100 = .ok (.invokevirtual 180, 3) := by decide +kernel
theorem d_CB_bill_103 : decode b_CB_bill 103 = .ok (.ireturn, 1) := by decide +kernel
theorem d_CB_pay_0 : decode b_CB_pay 0 = .ok (.iload_n 1, 1) := by decide +kernel
theorem d_CB_pay_1 : decode b_CB_pay 1 = .ok (.aload_n 0, 1) := by decide +kernel
theorem d_CB_pay_2 : decode b_CB_pay 2 = .ok (.getfield 47, 3) := by decide +kernel
theorem d_CB_pay_5 : decode b_CB_pay 5 = .ok (.getfield 177, 3) := by decide +kernel
theorem d_CB_pay_8 : decode b_CB_pay 8 = .ok (.invokestatic 82, 3) := by decide +kernel
theorem d_CB_pay_11 : decode b_CB_pay 11 = .ok (.iload_n 2, 1) := by decide +kernel
theorem d_CB_pay_12 : decode b_CB_pay 12 = .ok (.iconst 1, 1) := by decide +kernel
theorem d_CB_pay_13 : decode b_CB_pay 13 = .ok (.ldc 86, 2) := by decide +kernel
theorem d_CB_pay_15 : decode b_CB_pay 15 = .ok (.invokestatic 87, 3) := by decide +kernel
theorem d_CB_pay_18 : decode b_CB_pay 18 = .ok (.iload_n 2, 1) := by decide +kernel
theorem d_CB_pay_19 : decode b_CB_pay 19 = .ok (.aload_n 0, 1) := by decide +kernel
theorem d_CB_pay_20 : decode b_CB_pay 20 = .ok (.getfield 47, 3) := by decide +kernel
theorem d_CB_pay_23 : decode b_CB_pay 23 = .ok (.iload_n 1, 1) := by decide +kernel
theorem d_CB_pay_24 : decode b_CB_pay 24 = .ok (.invokevirtual 181, 3) := by decide +kernel
theorem d_CB_pay_27 : decode b_CB_pay 27 = .ok (.if_icmp .gt 7, 3) := by decide +kernel
theorem d_CB_pay_30 : decode b_CB_pay 30 = .ok (.iconst 1, 1) := by decide +kernel
theorem d_CB_pay_31 : decode b_CB_pay 31 = .ok (.goto 4, 3) := by decide +kernel
theorem d_CB_pay_34 : decode b_CB_pay 34 = .ok (.iconst 0, 1) := by decide +kernel
theorem d_CB_pay_35 : decode b_CB_pay 35 = .ok (.invokestatic 103, 3) := by decide +kernel
theorem d_CB_pay_38 : decode b_CB_pay 38 = .ok (.aload_n 0, 1) := by decide +kernel
theorem d_CB_pay_39 : decode b_CB_pay 39 = .ok (.getfield 47, 3) := by decide +kernel
theorem d_CB_pay_42 : decode b_CB_pay 42 = .ok (.getfield 184, 3) := by decide +kernel
theorem d_CB_pay_45 : decode b_CB_pay 45 = .ok (.iload_n 1, 1) := by decide +kernel
theorem d_CB_pay_46 : decode b_CB_pay 46 = .ok (.dup2, 1) := by decide +kernel
theorem d_CB_pay_47 : decode b_CB_pay 47 = .ok (.iaload, 1) := by decide +kernel
theorem d_CB_pay_48 : decode b_CB_pay 48 = .ok (.iload_n 2, 1) := by decide +kernel
theorem d_CB_pay_49 : decode b_CB_pay 49 = .ok (.iadd, 1) := by decide +kernel
theorem d_CB_pay_50 : decode b_CB_pay 50 = .ok (.iastore, 1) := by decide +kernel
theorem d_CB_pay_51 : decode b_CB_pay 51 = .ok (.aload_n 0, 1) := by decide +kernel
theorem d_CB_pay_52 : decode b_CB_pay 52 = .ok (.getfield 47, 3) := by decide +kernel
theorem d_CB_pay_55 : decode b_CB_pay 55 = .ok (.iload_n 1, 1) := by decide +kernel
theorem d_CB_pay_56 : decode b_CB_pay 56 = .ok (.invokevirtual 181, 3) := by decide +kernel
theorem d_CB_pay_59 : decode b_CB_pay 59 = .ok (.ireturn, 1) := by decide +kernel
theorem d_CB_dispute_0 : decode b_CB_dispute 0 = .ok (.iload_n 1, 1) := by decide +kernel
theorem d_CB_dispute_1 : decode b_CB_dispute 1 = .ok (.aload_n 0, 1) := by decide +kernel
theorem d_CB_dispute_2 : decode b_CB_dispute 2 = .ok (.getfield 47, 3) := by decide +kernel
theorem d_CB_dispute_5 : decode b_CB_dispute 5 = .ok (.getfield 177, 3) := by decide +kernel
theorem d_CB_dispute_8 : decode b_CB_dispute 8 = .ok (.invokestatic 82, 3) := by decide +kernel
theorem d_CB_dispute_11 : decode b_CB_dispute 11 = .ok (.aload_n 0, 1) := by decide +kernel
theorem d_CB_dispute_12 : decode b_CB_dispute 12 = .ok (.getfield 47, 3) := by decide +kernel
theorem d_CB_dispute_15 : decode b_CB_dispute 15 = .ok (.getfield 187, 3) := by decide +kernel
theorem d_CB_dispute_18 : decode b_CB_dispute 18 = .ok (.iload_n 1, 1) := by decide +kernel
theorem d_CB_dispute_19 : decode b_CB_dispute 19 = .ok (.baload, 1) := by decide +kernel
theorem d_CB_dispute_20 : decode b_CB_dispute 20 = .ok (.iload_n 2, 1) := by decide +kernel
theorem d_CB_dispute_21 : decode b_CB_dispute 21 = .ok (.if_icmp .eq 7, 3) := by decide +kernel
theorem d_CB_dispute_24 : decode b_CB_dispute 24 = .ok (.iconst 1, 1) := by decide +kernel
theorem d_CB_dispute_25 : decode b_CB_dispute 25 = .ok (.goto 4, 3) := by decide +kernel
theorem d_CB_dispute_28 : decode b_CB_dispute 28 = .ok (.iconst 0, 1) := by decide +kernel
theorem d_CB_dispute_29 : decode b_CB_dispute 29 = .ok (.invokestatic 103, 3) := by decide +kernel
theorem d_CB_dispute_32 : decode b_CB_dispute 32 = .ok (.iload_n 2, 1) := by decide +kernel
theorem d_CB_dispute_33 : decode b_CB_dispute 33 = .ok (.ifCond .eq 14, 3) := by decide +kernel
theorem d_CB_dispute_36 : decode b_CB_dispute 36 = .ok (.aload_n 0, 1) := by decide +kernel
theorem d_CB_dispute_37 : decode b_CB_dispute 37 = .ok (.getfield 47, 3) := by decide +kernel
theorem d_CB_dispute_40 : decode b_CB_dispute 40 = .ok (.iload_n 1, 1) := by decide +kernel
theorem d_CB_dispute_41 : decode b_CB_dispute 41 = .ok (.invokevirtual 190, 3) := by decide +kernel
theorem d_CB_dispute_44 : decode b_CB_dispute 44 = .ok (.ifCond .eq 7, 3) := by decide +kernel
theorem d_CB_dispute_47 : decode b_CB_dispute 47 = .ok (.iconst 1, 1) := by decide +kernel
theorem d_CB_dispute_48 : decode b_CB_dispute 48 = .ok (.goto 4, 3) := by decide +kernel
theorem d_CB_dispute_51 : decode b_CB_dispute 51 = .ok (.iconst 0, 1) := by decide +kernel
theorem d_CB_dispute_52 : decode b_CB_dispute 52 = .ok (.invokestatic 103, 3) := by decide +kernel
theorem d_CB_dispute_55 : decode b_CB_dispute 55 = .ok (.aload_n 0, 1) := by decide +kernel
theorem d_CB_dispute_56 : decode b_CB_dispute 56 = .ok (.getfield 47, 3) := by decide +kernel
theorem d_CB_dispute_59 : decode b_CB_dispute 59 = .ok (.getfield 187, 3) := by decide +kernel
theorem d_CB_dispute_62 : decode b_CB_dispute 62 = .ok (.iload_n 1, 1) := by decide +kernel
theorem d_CB_dispute_63 : decode b_CB_dispute 63 = .ok (.iload_n 2, 1) := by decide +kernel
theorem d_CB_dispute_64 : decode b_CB_dispute 64 = .ok (.bastore, 1) := by decide +kernel
theorem d_CB_dispute_65 : decode b_CB_dispute 65 = .ok (.return_, 1) := by decide +kernel
theorem d_CB_remind_0 : decode b_CB_remind 0 = .ok (.iload_n 1, 1) := by decide +kernel
theorem d_CB_remind_1 : decode b_CB_remind 1 = .ok (.iconst 0, 1) := by decide +kernel
theorem d_CB_remind_2 : decode b_CB_remind 2 = .ok (.sipush 9999, 3) := by decide +kernel
theorem d_CB_remind_5 : decode b_CB_remind 5 = .ok (.invokestatic 87, 3) := by decide +kernel
theorem d_CB_remind_8 : decode b_CB_remind 8 = .ok (.aload_n 0, 1) := by decide +kernel
theorem d_CB_remind_9 : decode b_CB_remind 9 = .ok (.getfield 47, 3) := by decide +kernel
theorem d_CB_remind_12 : decode b_CB_remind 12 = .ok (.iload_n 1, 1) := by decide +kernel
theorem d_CB_remind_13 : decode b_CB_remind 13 = .ok (.invokevirtual 193, 3) := by decide +kernel
theorem d_CB_remind_16 : decode b_CB_remind 16 = .ok (.ireturn, 1) := by decide +kernel
theorem d_CB_billAt_0 : decode b_CB_billAt 0 = .ok (.iload_n 1, 1) := by decide +kernel
theorem d_CB_billAt_1 : decode b_CB_billAt 1 = .ok (.aload_n 0, 1) := by decide +kernel
theorem d_CB_billAt_2 : decode b_CB_billAt 2 = .ok (.getfield 47, 3) := by decide +kernel
theorem d_CB_billAt_5 : decode b_CB_billAt 5 = .ok (.getfield 177, 3) := by decide +kernel
theorem d_CB_billAt_8 : decode b_CB_billAt 8 = .ok (.invokestatic 82, 3) := by decide +kernel
theorem d_CB_billAt_11 : decode b_CB_billAt 11 = .ok (.iload_n 2, 1) := by decide +kernel
theorem d_CB_billAt_12 : decode b_CB_billAt 12 = .ok (.iconst 4, 1) := by decide +kernel
theorem d_CB_billAt_13 : decode b_CB_billAt 13 = .ok (.invokestatic 82, 3) := by decide +kernel
theorem d_CB_billAt_16 : decode b_CB_billAt 16 = .ok (.iload_n 2, 1) := by decide +kernel
theorem d_CB_billAt_17 : decode b_CB_billAt 17 = .ok (.tableswitch 65 0 2 #[27, 37, 47], 27) := by decide +kernel
theorem d_CB_billAt_44 : decode b_CB_billAt 44 = .ok (.aload_n 0, 1) := by decide +kernel
theorem d_CB_billAt_45 : decode b_CB_billAt 45 = .ok (.getfield 47, 3) := by decide +kernel
theorem d_CB_billAt_48 : decode b_CB_billAt 48 = .ok (.getfield 196, 3) := by decide +kernel
theorem d_CB_billAt_51 : decode b_CB_billAt 51 = .ok (.iload_n 1, 1) := by decide +kernel
theorem d_CB_billAt_52 : decode b_CB_billAt 52 = .ok (.iaload, 1) := by decide +kernel
theorem d_CB_billAt_53 : decode b_CB_billAt 53 = .ok (.ireturn, 1) := by decide +kernel
theorem d_CB_billAt_54 : decode b_CB_billAt 54 = .ok (.aload_n 0, 1) := by decide +kernel
theorem d_CB_billAt_55 : decode b_CB_billAt 55 = .ok (.getfield 47, 3) := by decide +kernel
theorem d_CB_billAt_58 : decode b_CB_billAt 58 = .ok (.getfield 184, 3) := by decide +kernel
theorem d_CB_billAt_61 : decode b_CB_billAt 61 = .ok (.iload_n 1, 1) := by decide +kernel
theorem d_CB_billAt_62 : decode b_CB_billAt 62 = .ok (.iaload, 1) := by decide +kernel
theorem d_CB_billAt_63 : decode b_CB_billAt 63 = .ok (.ireturn, 1) := by decide +kernel
theorem d_CB_billAt_64 : decode b_CB_billAt 64 = .ok (.aload_n 0, 1) := by decide +kernel
theorem d_CB_billAt_65 : decode b_CB_billAt 65 = .ok (.getfield 47, 3) := by decide +kernel
theorem d_CB_billAt_68 : decode b_CB_billAt 68 = .ok (.getfield 187, 3) := by decide +kernel
theorem d_CB_billAt_71 : decode b_CB_billAt 71 = .ok (.iload_n 1, 1) := by decide +kernel
theorem d_CB_billAt_72 : decode b_CB_billAt 72 = .ok (.baload, 1) := by decide +kernel
theorem d_CB_billAt_73 : decode b_CB_billAt 73 = .ok (.ifCond .eq 7, 3) := by decide +kernel
theorem d_CB_billAt_76 : decode b_CB_billAt 76 = .ok (.iconst 1, 1) := by decide +kernel
theorem d_CB_billAt_77 : decode b_CB_billAt 77 = .ok (.goto 4, 3) := by decide +kernel
theorem d_CB_billAt_80 : decode b_CB_billAt 80 = .ok (.iconst 0, 1) := by decide +kernel
theorem d_CB_billAt_81 : decode b_CB_billAt 81 = .ok (.ireturn, 1) := by decide +kernel
theorem d_CB_billAt_82 : decode b_CB_billAt 82 = .ok (.aload_n 0, 1) := by decide +kernel
theorem d_CB_billAt_83 : decode b_CB_billAt 83 = .ok (.getfield 47, 3) := by decide +kernel
theorem d_CB_billAt_86 : decode b_CB_billAt 86 = .ok (.getfield 197, 3) := by decide +kernel
theorem d_CB_billAt_89 : decode b_CB_billAt 89 = .ok (.iload_n 1, 1) := by decide +kernel
theorem d_CB_billAt_90 : decode b_CB_billAt 90 = .ok (.iaload, 1) := by decide +kernel
theorem d_CB_billAt_91 : decode b_CB_billAt 91 = .ok (.ireturn, 1) := by decide +kernel
theorem d_CB_weight_0 : decode b_CB_weight 0 = .ok (.iload_n 1, 1) := by decide +kernel
theorem d_CB_weight_1 : decode b_CB_weight 1 = .ok (.bipush 6, 2) := by decide +kernel
theorem d_CB_weight_3 : decode b_CB_weight 3 = .ok (.invokestatic 82, 3) := by decide +kernel
theorem d_CB_weight_6 : decode b_CB_weight 6 = .ok (.iload_n 2, 1) := by decide +kernel
theorem d_CB_weight_7 : decode b_CB_weight 7 = .ok (.iconst 0, 1) := by decide +kernel
theorem d_CB_weight_8 : decode b_CB_weight 8 = .ok (.sipush 1000, 3) := by decide +kernel
theorem d_CB_weight_11 : decode b_CB_weight 11 = .ok (.invokestatic 87, 3) := by decide +kernel
theorem d_CB_weight_14 : decode b_CB_weight 14 = .ok (.aload_n 0, 1) := by decide +kernel
theorem d_CB_weight_15 : decode b_CB_weight 15 = .ok (.getfield 54, 3) := by decide +kernel
theorem d_CB_weight_18 : decode b_CB_weight 18 = .ok (.getfield 200, 3) := by decide +kernel
theorem d_CB_weight_21 : decode b_CB_weight 21 = .ok (.iload_n 1, 1) := by decide +kernel
theorem d_CB_weight_22 : decode b_CB_weight 22 = .ok (.iload_n 2, 1) := by decide +kernel
theorem d_CB_weight_23 : decode b_CB_weight 23 = .ok (.iastore, 1) := by decide +kernel
theorem d_CB_weight_24 : decode b_CB_weight 24 = .ok (.return_, 1) := by decide +kernel
theorem d_CB_share_0 : decode b_CB_share 0 = .ok (.iload_n 1, 1) := by decide +kernel
theorem d_CB_share_1 : decode b_CB_share 1 = .ok (.bipush 6, 2) := by decide +kernel
theorem d_CB_share_3 : decode b_CB_share 3 = .ok (.invokestatic 82, 3) := by decide +kernel
theorem d_CB_share_6 : decode b_CB_share 6 = .ok (.iload_n 2, 1) := by decide +kernel
theorem d_CB_share_7 : decode b_CB_share 7 = .ok (.iconst 0, 1) := by decide +kernel
theorem d_CB_share_8 : decode b_CB_share 8 = .ok (.ldc 86, 2) := by decide +kernel
theorem d_CB_share_10 : decode b_CB_share 10 = .ok (.invokestatic 87, 3) := by decide +kernel
theorem d_CB_share_13 : decode b_CB_share 13 = .ok (.aload_n 0, 1) := by decide +kernel
theorem d_CB_share_14 : decode b_CB_share 14 = .ok (.getfield 54, 3) := by decide +kernel
theorem d_CB_share_17 : decode b_CB_share 17 = .ok (.invokevirtual 203, 3) := by decide +kernel
theorem d_CB_share_20 : decode b_CB_share 20 = .ok (.istore_n 3, 1) := by decide +kernel
theorem d_CB_share_21 : decode b_CB_share 21 = .ok (.iload_n 3, 1) := by decide +kernel
theorem d_CB_share_22 : decode b_CB_share 22 = .ok (.ifCond .gt 13, 3) := by decide +kernel
theorem d_CB_share_25 : decode b_CB_share 25 = .ok (.new 207, 3) := by decide +kernel
theorem d_CB_share_28 : decode b_CB_share 28 = .ok (.dup, 1) := by decide +kernel
theorem d_CB_share_29 : decode b_CB_share 29 = .ok (.ldc 209, 2) := by decide +kernel
theorem d_CB_share_31 : decode b_CB_share 31 = .ok (.invokespecial 211, 3) := by decide +kernel
theorem d_CB_share_34 : decode b_CB_share 34 = .ok (.athrow, 1) := by decide +kernel
theorem d_CB_share_35 : decode b_CB_share 35 = .ok (.aload_n 0, 1) := by decide +kernel
theorem d_CB_share_36 : decode b_CB_share 36 = .ok (.getfield 54, 3) := by decide +kernel
theorem d_CB_share_39 : decode b_CB_share 39 = .ok (.iload_n 1, 1) := by decide +kernel
theorem d_CB_share_40 : decode b_CB_share 40 = .ok (.iload_n 2, 1) := by decide +kernel
theorem d_CB_share_41 : decode b_CB_share 41 = .ok (.iload_n 3, 1) := by decide +kernel
theorem d_CB_share_42 : decode b_CB_share 42 = .ok (.invokevirtual 214, 3) := by decide +kernel
theorem d_CB_share_45 : decode b_CB_share 45 = .ok (.ireturn, 1) := by decide +kernel
theorem d_CB_grant_0 : decode b_CB_grant 0 = .ok (.iload_n 1, 1) := by decide +kernel
theorem d_CB_grant_1 : decode b_CB_grant 1 = .ok (.bipush 10, 2) := by decide +kernel
theorem d_CB_grant_3 : decode b_CB_grant 3 = .ok (.invokestatic 82, 3) := by decide +kernel
theorem d_CB_grant_6 : decode b_CB_grant 6 = .ok (.iload_n 2, 1) := by decide +kernel
theorem d_CB_grant_7 : decode b_CB_grant 7 = .ok (.iconst 0, 1) := by decide +kernel
theorem d_CB_grant_8 : decode b_CB_grant 8 = .ok (.ldc 86, 2) := by decide +kernel
theorem d_CB_grant_10 : decode b_CB_grant 10 = .ok (.invokestatic 87, 3) := by decide +kernel
theorem d_CB_grant_13 : decode b_CB_grant 13 = .ok (.aload_n 0, 1) := by decide +kernel
theorem d_CB_grant_14 : decode b_CB_grant 14 = .ok (.getfield 61, 3) := by decide +kernel
theorem d_CB_grant_17 : decode b_CB_grant 17 = .ok (.getfield 218, 3) := by decide +kernel
theorem d_CB_grant_20 : decode b_CB_grant 20 = .ok (.bipush 20, 2) := by decide +kernel
theorem d_CB_grant_22 : decode b_CB_grant 22 = .ok (.if_icmp .ge 7, 3) := by decide +kernel
theorem d_CB_grant_25 : decode b_CB_grant 25 = .ok (.iconst 1, 1) := by decide +kernel
theorem d_CB_grant_26 : decode b_CB_grant 26 = .ok (.goto 4, 3) := by decide +kernel
theorem d_CB_grant_29 : decode b_CB_grant 29 = .ok (.iconst 0, 1) := by decide +kernel
theorem d_CB_grant_30 : decode b_CB_grant 30 = .ok (.invokestatic 123, 3) := by decide +kernel
theorem d_CB_grant_33 : decode b_CB_grant 33 = .ok (.aload_n 0, 1) := by decide +kernel
theorem d_CB_grant_34 : decode b_CB_grant 34 = .ok (.getfield 61, 3) := by decide +kernel
theorem d_CB_grant_37 : decode b_CB_grant 37 = .ok (.iload_n 1, 1) := by decide +kernel
theorem d_CB_grant_38 : decode b_CB_grant 38 = .ok (.iload_n 2, 1) := by decide +kernel
theorem d_CB_grant_39 : decode b_CB_grant 39 = .ok (.invokevirtual 219, 3) := by decide +kernel
theorem d_CB_grant_42 : decode b_CB_grant 42 = .ok (.ireturn, 1) := by decide +kernel
theorem d_CB_use_0 : decode b_CB_use 0 = .ok (.iload_n 1, 1) := by decide +kernel
theorem d_CB_use_1 : decode b_CB_use 1 = .ok (.aload_n 0, 1) := by decide +kernel
theorem d_CB_use_2 : decode b_CB_use 2 = .ok (.getfield 61, 3) := by decide +kernel
theorem d_CB_use_5 : decode b_CB_use 5 = .ok (.getfield 218, 3) := by decide +kernel
theorem d_CB_use_8 : decode b_CB_use 8 = .ok (.invokestatic 82, 3) := by decide +kernel
theorem d_CB_use_11 : decode b_CB_use 11 = .ok (.iload_n 2, 1) := by decide +kernel
theorem d_CB_use_12 : decode b_CB_use 12 = .ok (.bipush 10, 2) := by decide +kernel
theorem d_CB_use_14 : decode b_CB_use 14 = .ok (.invokestatic 82, 3) := by decide +kernel
theorem d_CB_use_17 : decode b_CB_use 17 = .ok (.iload_n 3, 1) := by decide +kernel
theorem d_CB_use_18 : decode b_CB_use 18 = .ok (.iconst 0, 1) := by decide +kernel
theorem d_CB_use_19 : decode b_CB_use 19 = .ok (.ldc 86, 2) := by decide +kernel
theorem d_CB_use_21 : decode b_CB_use 21 = .ok (.invokestatic 87, 3) := by decide +kernel
theorem d_CB_use_24 : decode b_CB_use 24 = .ok (.aload_n 0, 1) := by decide +kernel
theorem d_CB_use_25 : decode b_CB_use 25 = .ok (.getfield 61, 3) := by decide +kernel
theorem d_CB_use_28 : decode b_CB_use 28 = .ok (.getfield 220, 3) := by decide +kernel
theorem d_CB_use_31 : decode b_CB_use 31 = .ok (.iload_n 1, 1) := by decide +kernel
theorem d_CB_use_32 : decode b_CB_use 32 = .ok (.iaload, 1) := by decide +kernel
theorem d_CB_use_33 : decode b_CB_use 33 = .ok (.iload_n 2, 1) := by decide +kernel
theorem d_CB_use_34 : decode b_CB_use 34 = .ok (.if_icmp .ne 20, 3) := by decide +kernel
theorem d_CB_use_37 : decode b_CB_use 37 = .ok (.iload_n 3, 1) := by decide +kernel
theorem d_CB_use_38 : decode b_CB_use 38 = .ok (.aload_n 0, 1) := by decide +kernel
theorem d_CB_use_39 : decode b_CB_use 39 = .ok (.getfield 61, 3) := by decide +kernel
theorem d_CB_use_42 : decode b_CB_use 42 = .ok (.getfield 223, 3) := by decide +kernel
theorem d_CB_use_45 : decode b_CB_use 45 = .ok (.iload_n 1, 1) := by decide +kernel
theorem d_CB_use_46 : decode b_CB_use 46 = .ok (.iaload, 1) := by decide +kernel
theorem d_CB_use_47 : decode b_CB_use 47 = .ok (.if_icmp .gt 7, 3) := by decide +kernel
theorem d_CB_use_50 : decode b_CB_use 50 = .ok (.iconst 1, 1) := by decide +kernel
theorem d_CB_use_51 : decode b_CB_use 51 = .ok (.goto 4, 3) := by decide +kernel
theorem d_CB_use_54 : decode b_CB_use 54 = .ok (.iconst 0, 1) := by decide +kernel
theorem d_CB_use_55 : decode b_CB_use 55 = .ok (.invokestatic 103, 3) := by decide +kernel
theorem d_CB_use_58 : decode b_CB_use 58 = .ok (.aload_n 0, 1) := by decide +kernel
theorem d_CB_use_59 : decode b_CB_use 59 = .ok (.getfield 61, 3) := by decide +kernel
theorem d_CB_use_62 : decode b_CB_use 62 = .ok (.getfield 223, 3) := by decide +kernel
theorem d_CB_use_65 : decode b_CB_use 65 = .ok (.iload_n 1, 1) := by decide +kernel
theorem d_CB_use_66 : decode b_CB_use 66 = .ok (.dup2, 1) := by decide +kernel
theorem d_CB_use_67 : decode b_CB_use 67 = .ok (.iaload, 1) := by decide +kernel
theorem d_CB_use_68 : decode b_CB_use 68 = .ok (.iload_n 3, 1) := by decide +kernel
theorem d_CB_use_69 : decode b_CB_use 69 = .ok (.isub, 1) := by decide +kernel
theorem d_CB_use_70 : decode b_CB_use 70 = .ok (.iastore, 1) := by decide +kernel
theorem d_CB_use_71 : decode b_CB_use 71 = .ok (.aload_n 0, 1) := by decide +kernel
theorem d_CB_use_72 : decode b_CB_use 72 = .ok (.getfield 61, 3) := by decide +kernel
theorem d_CB_use_75 : decode b_CB_use 75 = .ok (.getfield 223, 3) := by decide +kernel
theorem d_CB_use_78 : decode b_CB_use 78 = .ok (.iload_n 1, 1) := by decide +kernel
theorem d_CB_use_79 : decode b_CB_use 79 = .ok (.iaload, 1) := by decide +kernel
theorem d_CB_use_80 : decode b_CB_use 80 = .ok (.ireturn, 1) := by decide +kernel
theorem d_CB_row_0 : decode b_CB_row 0 = .ok (.iload_n 1, 1) := by decide +kernel
theorem d_CB_row_1 : decode b_CB_row 1 = .ok (.bipush 10, 2) := by decide +kernel
theorem d_CB_row_3 : decode b_CB_row 3 = .ok (.invokestatic 82, 3) := by decide +kernel
theorem d_CB_row_6 : decode b_CB_row 6 = .ok (.iload_n 2, 1) := by decide +kernel
theorem d_CB_row_7 : decode b_CB_row 7 = .ok (.ldc 226, 2) := by decide +kernel
theorem d_CB_row_9 : decode b_CB_row 9 = .ok (.ldc 86, 2) := by decide +kernel
theorem d_CB_row_11 : decode b_CB_row 11 = .ok (.invokestatic 87, 3) := by decide +kernel
theorem d_CB_row_14 : decode b_CB_row 14 = .ok (.aload_n 0, 1) := by decide +kernel
theorem d_CB_row_15 : decode b_CB_row 15 = .ok (.getfield 68, 3) := by decide +kernel
theorem d_CB_row_18 : decode b_CB_row 18 = .ok (.getfield 227, 3) := by decide +kernel
theorem d_CB_row_21 : decode b_CB_row 21 = .ok (.bipush 8, 2) := by decide +kernel
theorem d_CB_row_23 : decode b_CB_row 23 = .ok (.if_icmp .ge 7, 3) := by decide +kernel
theorem d_CB_row_26 : decode b_CB_row 26 = .ok (.iconst 1, 1) := by decide +kernel
theorem d_CB_row_27 : decode b_CB_row 27 = .ok (.goto 4, 3) := by decide +kernel
theorem d_CB_row_30 : decode b_CB_row 30 = .ok (.iconst 0, 1) := by decide +kernel
theorem d_CB_row_31 : decode b_CB_row 31 = .ok (.invokestatic 123, 3) := by decide +kernel
theorem d_CB_row_34 : decode b_CB_row 34 = .ok (.aload_n 0, 1) := by decide +kernel
theorem d_CB_row_35 : decode b_CB_row 35 = .ok (.getfield 68, 3) := by decide +kernel
theorem d_CB_row_38 : decode b_CB_row 38 = .ok (.iload_n 1, 1) := by decide +kernel
theorem d_CB_row_39 : decode b_CB_row 39 = .ok (.iload_n 2, 1) := by decide +kernel
theorem d_CB_row_40 : decode b_CB_row 40 = .ok (.invokevirtual 228, 3) := by decide +kernel
theorem d_CB_row_43 : decode b_CB_row 43 = .ok (.aload_n 0, 1) := by decide +kernel
theorem d_CB_row_44 : decode b_CB_row 44 = .ok (.getfield 68, 3) := by decide +kernel
theorem d_CB_row_47 : decode b_CB_row 47 = .ok (.getfield 227, 3) := by decide +kernel
theorem d_CB_row_50 : decode b_CB_row 50 = .ok (.ireturn, 1) := by decide +kernel
theorem d_CB_post_0 : decode b_CB_post 0 = .ok (.iload_n 1, 1) := by decide +kernel
theorem d_CB_post_1 : decode b_CB_post 1 = .ok (.iconst 5, 1) := by decide +kernel
theorem d_CB_post_2 : decode b_CB_post 2 = .ok (.invokestatic 82, 3) := by decide +kernel
theorem d_CB_post_5 : decode b_CB_post 5 = .ok (.iload_n 1, 1) := by decide +kernel
theorem d_CB_post_6 : decode b_CB_post 6 = .ok (.aload_n 0, 1) := by decide +kernel
theorem d_CB_post_7 : decode b_CB_post 7 = .ok (.getfield 79, 3) := by decide +kernel
theorem d_CB_post_10 : decode b_CB_post 10 = .ok (.invokestatic 231, 3) := by decide +kernel
theorem d_CB_post_13 : decode b_CB_post 13 = .ok (.istore_n 2, 1) := by decide +kernel
theorem d_CB_post_14 : decode b_CB_post 14 = .ok (.iload_n 2, 1) := by decide +kernel
theorem d_CB_post_15 : decode b_CB_post 15 = .ok (.iconst 5, 1) := by decide +kernel
theorem d_CB_post_16 : decode b_CB_post 16 = .ok (.if_icmp .ge 17, 3) := by decide +kernel
theorem d_CB_post_19 : decode b_CB_post 19 = .ok (.aload_n 0, 1) := by decide +kernel
theorem d_CB_post_20 : decode b_CB_post 20 = .ok (.getfield 68, 3) := by decide +kernel
theorem d_CB_post_23 : decode b_CB_post 23 = .ok (.invokevirtual 234, 3) := by decide +kernel
theorem d_CB_post_26 : decode b_CB_post 26 = .ok (.ifCond .ne 7, 3) := by decide +kernel
theorem d_CB_post_29 : decode b_CB_post 29 = .ok (.iconst 1, 1) := by decide +kernel
theorem d_CB_post_30 : decode b_CB_post 30 = .ok (.goto 4, 3) := by decide +kernel
theorem d_CB_post_33 : decode b_CB_post 33 = .ok (.iconst 0, 1) := by decide +kernel
theorem d_CB_post_34 : decode b_CB_post 34 = .ok (.istore_n 3, 1) := by decide +kernel
theorem d_CB_post_35 : decode b_CB_post 35 = .ok (.iload_n 3, 1) := by decide +kernel
theorem d_CB_post_36 : decode b_CB_post 36 = .ok (.ifCond .eq 11, 3) := by decide +kernel
theorem d_CB_post_39 : decode b_CB_post 39 = .ok (.aload_n 0, 1) := by decide +kernel
theorem d_CB_post_40 : decode b_CB_post 40 = .ok (.getfield 68, 3) := by decide +kernel
theorem d_CB_post_43 : decode b_CB_post 43 = .ok (.iload_n 2, 1) := by decide +kernel
theorem d_CB_post_44 : decode b_CB_post 44 = .ok (.invokevirtual 237, 3) := by decide +kernel
theorem d_CB_post_47 : decode b_CB_post 47 = .ok (.aload_n 0, 1) := by decide +kernel
theorem d_CB_post_48 : decode b_CB_post 48 = .ok (.getfield 68, 3) := by decide +kernel
theorem d_CB_post_51 : decode b_CB_post 51 = .ok (.iconst 0, 1) := by decide +kernel
theorem d_CB_post_52 : decode b_CB_post 52 = .ok (.putfield 227, 3) := by decide +kernel
theorem d_CB_post_55 : decode b_CB_post 55 = .ok (.iload_n 3, 1) := by decide +kernel
theorem d_CB_post_56 : decode b_CB_post 56 = .ok (.invokestatic 103, 3) := by decide +kernel
theorem d_CB_post_59 : decode b_CB_post 59 = .ok (.iload_n 2, 1) := by decide +kernel
theorem d_CB_post_60 : decode b_CB_post 60 = .ok (.ireturn, 1) := by decide +kernel
theorem d_CB_balance_0 : decode b_CB_balance 0 = .ok (.iload_n 1, 1) := by decide +kernel
theorem d_CB_balance_1 : decode b_CB_balance 1 = .ok (.bipush 10, 2) := by decide +kernel
theorem d_CB_balance_3 : decode b_CB_balance 3 = .ok (.invokestatic 82, 3) := by decide +kernel
theorem d_CB_balance_6 : decode b_CB_balance 6 = .ok (.iload_n 2, 1) := by decide +kernel
theorem d_CB_balance_7 : decode b_CB_balance 7 = .ok (.iconst 5, 1) := by decide +kernel
theorem d_CB_balance_8 : decode b_CB_balance 8 = .ok (.invokestatic 82, 3) := by decide +kernel
theorem d_CB_balance_11 : decode b_CB_balance 11 = .ok (.aload_n 0, 1) := by decide +kernel
theorem d_CB_balance_12 : decode b_CB_balance 12 = .ok (.getfield 68, 3) := by decide +kernel
theorem d_CB_balance_15 : decode b_CB_balance 15 = .ok (.getfield 240, 3) := by decide +kernel
theorem d_CB_balance_18 : decode b_CB_balance 18 = .ok (.aload_n 0, 1) := by decide +kernel
theorem d_CB_balance_19 : decode b_CB_balance 19 = .ok (.getfield 68, 3) := by decide +kernel
theorem d_CB_balance_22 : decode b_CB_balance 22 = .ok (.iload_n 1, 1) := by decide +kernel
theorem d_CB_balance_23 : decode b_CB_balance 23 = .ok (.iload_n 2, 1) := by decide +kernel
theorem d_CB_balance_24 : decode b_CB_balance 24 = .ok (.invokevirtual 244, 3) := by decide +kernel
theorem d_CB_balance_27 : decode b_CB_balance 27 = .ok (.laload, 1) := by decide +kernel
theorem d_CB_balance_28 : decode b_CB_balance 28 = .ok (.lreturn, 1) := by decide +kernel
theorem d_CB_close_0 : decode b_CB_close 0 = .ok (.iload_n 1, 1) := by decide +kernel
theorem d_CB_close_1 : decode b_CB_close 1 = .ok (.iconst 5, 1) := by decide +kernel
theorem d_CB_close_2 : decode b_CB_close 2 = .ok (.invokestatic 82, 3) := by decide +kernel
theorem d_CB_close_5 : decode b_CB_close 5 = .ok (.iload_n 1, 1) := by decide +kernel
theorem d_CB_close_6 : decode b_CB_close 6 = .ok (.aload_n 0, 1) := by decide +kernel
theorem d_CB_close_7 : decode b_CB_close 7 = .ok (.getfield 79, 3) := by decide +kernel
theorem d_CB_close_10 : decode b_CB_close 10 = .ok (.if_icmp .ne 18, 3) := by decide +kernel
theorem d_CB_close_13 : decode b_CB_close 13 = .ok (.aload_n 0, 1) := by decide +kernel
theorem d_CB_close_14 : decode b_CB_close 14 = .ok (.getfield 19, 3) := by decide +kernel
theorem d_CB_close_17 : decode b_CB_close 17 = .ok (.iload_n 1, 1) := by decide +kernel
theorem d_CB_close_18 : decode b_CB_close 18 = .ok (.invokevirtual 247, 3) := by decide +kernel
theorem d_CB_close_21 : decode b_CB_close 21 = .ok (.ifCond .ne 7, 3) := by decide +kernel
theorem d_CB_close_24 : decode b_CB_close 24 = .ok (.iconst 1, 1) := by decide +kernel
theorem d_CB_close_25 : decode b_CB_close 25 = .ok (.goto 4, 3) := by decide +kernel
theorem d_CB_close_28 : decode b_CB_close 28 = .ok (.iconst 0, 1) := by decide +kernel
theorem d_CB_close_29 : decode b_CB_close 29 = .ok (.invokestatic 103, 3) := by decide +kernel
theorem d_CB_close_32 : decode b_CB_close 32 = .ok (.aload_n 0, 1) := by decide +kernel
theorem d_CB_close_33 : decode b_CB_close 33 = .ok (.dup, 1) := by decide +kernel
theorem d_CB_close_34 : decode b_CB_close 34 = .ok (.getfield 79, 3) := by decide +kernel
theorem d_CB_close_37 : decode b_CB_close 37 = .ok (.iconst 1, 1) := by decide +kernel
theorem d_CB_close_38 : decode b_CB_close 38 = .ok (.iadd, 1) := by decide +kernel
theorem d_CB_close_39 : decode b_CB_close 39 = .ok (.putfield 79, 3) := by decide +kernel
theorem d_CB_close_42 : decode b_CB_close 42 = .ok (.return_, 1) := by decide +kernel
theorem d_CB_forecast_0 : decode b_CB_forecast 0 = .ok (.iload_n 1, 1) := by decide +kernel
theorem d_CB_forecast_1 : decode b_CB_forecast 1 = .ok (.iconst 5, 1) := by decide +kernel
theorem d_CB_forecast_2 : decode b_CB_forecast 2 = .ok (.invokestatic 82, 3) := by decide +kernel
theorem d_CB_forecast_5 : decode b_CB_forecast 5 = .ok (.iload_n 2, 1) := by decide +kernel
theorem d_CB_forecast_6 : decode b_CB_forecast 6 = .ok (.bipush 10, 2) := by decide +kernel
theorem d_CB_forecast_8 : decode b_CB_forecast 8 = .ok (.invokestatic 82, 3) := by decide +kernel
theorem d_CB_forecast_11 : decode b_CB_forecast 11 = .ok (.iload_n 3, 1) := by decide +kernel
theorem d_CB_forecast_12 : decode b_CB_forecast 12 = .ok (.iconst 0, 1) := by decide +kernel
theorem d_CB_forecast_13 : decode b_CB_forecast 13 = .ok (.sipush 365, 3) := by decide +kernel
theorem d_CB_forecast_16 : decode b_CB_forecast 16 = .ok (.invokestatic 87, 3) := by decide +kernel
theorem d_CB_forecast_19 : decode b_CB_forecast 19 = .ok (.iload_n 3, 1) := by decide +kernel
theorem d_CB_forecast_20 : decode b_CB_forecast 20 = .ok (.ifCond .ne 13, 3) := by decide +kernel
theorem d_CB_forecast_23 : decode b_CB_forecast 23 = .ok (.new 207, 3) := by decide +kernel
theorem d_CB_forecast_26 : decode b_CB_forecast 26 = .ok (.dup, 1) := by decide +kernel
theorem d_CB_forecast_27 : decode b_CB_forecast 27 = .ok (.ldc 250, 2) := by decide +kernel
theorem d_CB_forecast_29 : decode b_CB_forecast 29 = .ok (.invokespecial 211, 3) := by decide +kernel
theorem d_CB_forecast_32 : decode b_CB_forecast 32 = .ok (.athrow, 1) := by decide +kernel
theorem d_CB_forecast_33 : decode b_CB_forecast 33 = .ok (.aload_n 0, 1) := by decide +kernel
theorem d_CB_forecast_34 : decode b_CB_forecast 34 = .ok (.getfield 10, 3) := by decide +kernel
theorem d_CB_forecast_37 : decode b_CB_forecast 37 = .ok (.getfield 114, 3) := by decide +kernel
theorem d_CB_forecast_40 : decode b_CB_forecast 40 = .ok (.iload_n 1, 1) := by decide +kernel
theorem d_CB_forecast_41 : decode b_CB_forecast 41 = .ok (.iload_n 2, 1) := by decide +kernel
theorem d_CB_forecast_42 : decode b_CB_forecast 42 = .ok (.invokestatic 91, 3) := by decide +kernel
theorem d_CB_forecast_45 : decode b_CB_forecast 45 = .ok (.iaload, 1) := by decide +kernel
theorem d_CB_forecast_46 : decode b_CB_forecast 46 = .ok (.i2l, 1) := by decide +kernel
theorem d_CB_forecast_47 : decode b_CB_forecast 47 = .ok (.ldc2_w 252, 3) := by decide +kernel
theorem d_CB_forecast_50 : decode b_CB_forecast 50 = .ok (.lmul, 1) := by decide +kernel
theorem d_CB_forecast_51 : decode b_CB_forecast 51 = .ok (.iload_n 3, 1) := by decide +kernel
theorem d_CB_forecast_52 : decode b_CB_forecast 52 = .ok (.i2l, 1) := by decide +kernel
theorem d_CB_forecast_53 : decode b_CB_forecast 53 = .ok (.ldiv, 1) := by decide +kernel
theorem d_CB_forecast_54 : decode b_CB_forecast 54 = .ok (.lreturn, 1) := by decide +kernel
theorem d_CB_requireKnown_0 : decode b_CB_requireKnown 0 = .ok (.iload_n 0, 1) := by decide +kernel
theorem d_CB_requireKnown_1 : decode b_CB_requireKnown 1 = .ok (.ifCond .lt 8, 3) := by decide +kernel
theorem d_CB_requireKnown_4 : decode b_CB_requireKnown 4 = .ok (.iload_n 0, 1) := by decide +kernel
theorem d_CB_requireKnown_5 : decode b_CB_requireKnown 5 = .ok (.iload_n 1, 1) := by decide +kernel
theorem d_CB_requireKnown_6 : decode b_CB_requireKnown 6 = .ok (.if_icmp .lt 14, 3) := by decide +kernel
theorem d_CB_requireKnown_9 : decode b_CB_requireKnown 9 = .ok (.new 254, 3) := by decide +kernel
theorem d_CB_requireKnown_12 : decode b_CB_requireKnown 12 = .ok (.dup, 1) := by decide +kernel
theorem d_CB_requireKnown_13 : decode b_CB_requireKnown 13 = .ok (.ldc_w 256, 3) := by decide +kernel
theorem d_CB_requireKnown_16 : decode b_CB_requireKnown 16 = .ok (.invokespecial 258, 3) := by decide +kernel
theorem d_CB_requireKnown_19 : decode b_CB_requireKnown 19 = .ok (.athrow, 1) := by decide +kernel
theorem d_CB_requireKnown_20 : decode b_CB_requireKnown 20 = .ok (.return_, 1) := by decide +kernel
theorem d_CB_requireRange_0 : decode b_CB_requireRange 0 = .ok (.iload_n 0, 1) := by decide +kernel
theorem d_CB_requireRange_1 : decode b_CB_requireRange 1 = .ok (.iload_n 1, 1) := by decide +kernel
theorem d_CB_requireRange_2 : decode b_CB_requireRange 2 = .ok (.if_icmp .lt 8, 3) := by decide +kernel
theorem d_CB_requireRange_5 : decode b_CB_requireRange 5 = .ok (.iload_n 0, 1) := by decide +kernel
theorem d_CB_requireRange_6 : decode b_CB_requireRange 6 = .ok (.iload_n 2, 1) := by decide +kernel
theorem d_CB_requireRange_7 : decode b_CB_requireRange 7 = .ok (.if_icmp .le 14, 3) := by decide +kernel
theorem d_CB_requireRange_10 : decode b_CB_requireRange 10 = .ok (.new 259, 3) := by decide +kernel
theorem d_CB_requireRange_13 : decode b_CB_requireRange 13 = .ok (.dup, 1) := by decide +kernel
theorem d_CB_requireRange_14 : decode b_CB_requireRange 14 = .ok (.ldc_w 261, 3) := by decide +kernel
theorem d_CB_requireRange_17 : decode b_CB_requireRange 17 = .ok (.invokespecial 263, 3) := by decide +kernel
theorem d_CB_requireRange_20 : decode b_CB_requireRange 20 = .ok (.athrow, 1) := by decide +kernel
theorem d_CB_requireRange_21 : decode b_CB_requireRange 21 = .ok (.return_, 1) := by decide +kernel
theorem d_CB_requireState_0 : decode b_CB_requireState 0 = .ok (.iload_n 0, 1) := by decide +kernel
theorem d_CB_requireState_1 : decode b_CB_requireState 1 = .ok (.ifCond .ne 14, 3) := by decide +kernel
theorem d_CB_requireState_4 : decode b_CB_requireState 4 = .ok (.new 264, 3) := by decide +kernel
theorem d_CB_requireState_7 : decode b_CB_requireState 7 = .ok (.dup, 1) := by decide +kernel
theorem d_CB_requireState_8 : decode b_CB_requireState 8 = .ok (.ldc_w 266, 3) := by decide +kernel
theorem d_CB_requireState_11 : decode b_CB_requireState 11 = .ok (.invokespecial 268, 3) := by decide +kernel
theorem d_CB_requireState_14 : decode b_CB_requireState 14 = .ok (.athrow, 1) := by decide +kernel
theorem d_CB_requireState_15 : decode b_CB_requireState 15 = .ok (.return_, 1) := by decide +kernel
theorem d_CB_requireRoom_0 : decode b_CB_requireRoom 0 = .ok (.iload_n 0, 1) := by decide +kernel
theorem d_CB_requireRoom_1 : decode b_CB_requireRoom 1 = .ok (.ifCond .ne 14, 3) := by decide +kernel
theorem d_CB_requireRoom_4 : decode b_CB_requireRoom 4 = .ok (.new 269, 3) := by decide +kernel
theorem d_CB_requireRoom_7 : decode b_CB_requireRoom 7 = .ok (.dup, 1) := by decide +kernel
theorem d_CB_requireRoom_8 : decode b_CB_requireRoom 8 = .ok (.ldc_w 271, 3) := by decide +kernel
theorem d_CB_requireRoom_11 : decode b_CB_requireRoom 11 = .ok (.invokespecial 273, 3) := by decide +kernel
theorem d_CB_requireRoom_14 : decode b_CB_requireRoom 14 = .ok (.athrow, 1) := by decide +kernel
theorem d_CB_requireRoom_15 : decode b_CB_requireRoom 15 = .ok (.return_, 1) := by decide +kernel
theorem d_CB_slotOf_0 : decode b_CB_slotOf 0 = .ok (.iload_n 0, 1) := by decide +kernel
theorem d_CB_slotOf_1 : decode b_CB_slotOf 1 = .ok (.bipush 10, 2) := by decide +kernel
theorem d_CB_slotOf_3 : decode b_CB_slotOf 3 = .ok (.imul, 1) := by decide +kernel
theorem d_CB_slotOf_4 : decode b_CB_slotOf 4 = .ok (.iload_n 1, 1) := by decide +kernel
theorem d_CB_slotOf_5 : decode b_CB_slotOf 5 = .ok (.iadd, 1) := by decide +kernel
theorem d_CB_slotOf_6 : decode b_CB_slotOf 6 = .ok (.ireturn, 1) := by decide +kernel
theorem d_CB_isClosed_0 : decode b_CB_isClosed 0 = .ok (.iload_n 1, 1) := by decide +kernel
theorem d_CB_isClosed_1 : decode b_CB_isClosed 1 = .ok (.aload_n 0, 1) := by decide +kernel
theorem d_CB_isClosed_2 : decode b_CB_isClosed 2 = .ok (.getfield 79, 3) := by decide +kernel
theorem d_CB_isClosed_5 : decode b_CB_isClosed 5 = .ok (.if_icmp .ge 7, 3) := by decide +kernel
theorem d_CB_isClosed_8 : decode b_CB_isClosed 8 = .ok (.iconst 1, 1) := by decide +kernel
theorem d_CB_isClosed_9 : decode b_CB_isClosed 9 = .ok (.goto 4, 3) := by decide +kernel
theorem d_CB_isClosed_12 : decode b_CB_isClosed 12 = .ok (.iconst 0, 1) := by decide +kernel
theorem d_CB_isClosed_13 : decode b_CB_isClosed 13 = .ok (.ireturn, 1) := by decide +kernel
theorem d_CB_release_0 : decode b_CB_release 0 = .ok (.aload_n 0, 1) := by decide +kernel
theorem d_CB_release_1 : decode b_CB_release 1 = .ok (.getfield 19, 3) := by decide +kernel
theorem d_CB_release_4 : decode b_CB_release 4 = .ok (.getfield 129, 3) := by decide +kernel
theorem d_CB_release_7 : decode b_CB_release 7 = .ok (.iload_n 1, 1) := by decide +kernel
theorem d_CB_release_8 : decode b_CB_release 8 = .ok (.iconst 0, 1) := by decide +kernel
theorem d_CB_release_9 : decode b_CB_release 9 = .ok (.bastore, 1) := by decide +kernel
theorem d_CB_release_10 : decode b_CB_release 10 = .ok (.aload_n 0, 1) := by decide +kernel
theorem d_CB_release_11 : decode b_CB_release 11 = .ok (.getfield 10, 3) := by decide +kernel
theorem d_CB_release_14 : decode b_CB_release 14 = .ok (.getfield 111, 3) := by decide +kernel
theorem d_CB_release_17 : decode b_CB_release 17 = .ok (.aload_n 0, 1) := by decide +kernel
theorem d_CB_release_18 : decode b_CB_release 18 = .ok (.getfield 19, 3) := by decide +kernel
theorem d_CB_release_21 : decode b_CB_release 21 = .ok (.getfield 133, 3) := by decide +kernel
theorem d_CB_release_24 : decode b_CB_release 24 = .ok (.iload_n 1, 1) := by decide +kernel
theorem d_CB_release_25 : decode b_CB_release 25 = .ok (.iaload, 1) := by decide +kernel
theorem d_CB_release_26 : decode b_CB_release 26 = .ok (.dup2, 1) := by decide +kernel
theorem d_CB_release_27 : decode b_CB_release 27 = .ok (.iaload, 1) := by decide +kernel
theorem d_CB_release_28 : decode b_CB_release 28 = .ok (.aload_n 0, 1) := by decide +kernel
theorem d_CB_release_29 : decode b_CB_release 29 = .ok (.getfield 19, 3) := by decide +kernel
theorem d_CB_release_32 : decode b_CB_release 32 = .ok (.getfield 136, 3) := by decide +kernel
theorem d_CB_release_35 : decode b_CB_release 35 = .ok (.iload_n 1, 1) := by decide +kernel
theorem d_CB_release_36 : decode b_CB_release 36 = .ok (.iaload, 1) := by decide +kernel
theorem d_CB_release_37 : decode b_CB_release 37 = .ok (.isub, 1) := by decide +kernel
theorem d_CB_release_38 : decode b_CB_release 38 = .ok (.iastore, 1) := by decide +kernel
theorem d_CB_release_39 : decode b_CB_release 39 = .ok (.return_, 1) := by decide +kernel
