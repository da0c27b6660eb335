theorem d_La_budget_0 : decode b_La_budget 0 = .ok (.aload_n 0, 1) := by decide +kernel
theorem d_La_budget_1 : decode b_La_budget 1 = .ok (.iload_n 1, 1) := by decide +kernel
theorem d_La_budget_2 : decode b_La_budget 2 = .ok (.iload_n 2, 1) := by decide +kernel
theorem d_La_budget_3 : decode b_La_budget 3 = .ok (.iload_n 3, 1) := by decide +kernel
theorem d_La_budget_4 : decode b_La_budget 4 = .ok (.invokevirtual 7, 3) := by decide +kernel
theorem d_La_budget_7 : decode b_La_budget 7 = .ok (.goto 15, 3) := by decide +kernel
theorem d_La_budget_10 : decode b_La_budget 10 = .ok (.astore 4, 2) := by decide +kernel
theorem d_La_budget_12 : decode b_La_budget 12 = .ok (.iconst 1, 1) := by decide +kernel
theorem d_La_budget_13 : decode b_La_budget 13 = .ok (.ireturn, 1) := by decide +kernel
theorem d_La_budget_14 : decode b_La_budget 14 = .ok (.astore 4, 2) := by decide +kernel
theorem d_La_budget_16 : decode b_La_budget 16 = .ok (.iconst 2, 1) := by decide +kernel
theorem d_La_budget_17 : decode b_La_budget 17 = .ok (.ireturn, 1) := by decide +kernel
theorem d_La_budget_18 : decode b_La_budget 18 = .ok (.astore 4, 2) := by decide +kernel
theorem d_La_budget_20 : decode b_La_budget 20 = .ok (.iconst 3, 1) := by decide +kernel
theorem d_La_budget_21 : decode b_La_budget 21 = .ok (.ireturn, 1) := by decide +kernel
theorem d_La_budget_22 : decode b_La_budget 22 = .ok (.iconst 0, 1) := by decide +kernel
theorem d_La_budget_23 : decode b_La_budget 23 = .ok (.ireturn, 1) := by decide +kernel
theorem d_La_budgetAt_0 : decode b_La_budgetAt 0 = .ok (.aload 4, 2) := by decide +kernel
theorem d_La_budgetAt_2 : decode b_La_budgetAt 2 = .ok (.iconst 0, 1) := by decide +kernel
theorem d_La_budgetAt_3 : decode b_La_budgetAt 3 = .ok (.aload_n 0, 1) := by decide +kernel
theorem d_La_budgetAt_4 : decode b_La_budgetAt 4 = .ok (.iload_n 1, 1) := by decide +kernel
theorem d_La_budgetAt_5 : decode b_La_budgetAt 5 = .ok (.iload_n 2, 1) := by decide +kernel
theorem d_La_budgetAt_6 : decode b_La_budgetAt 6 = .ok (.iload_n 3, 1) := by decide +kernel
theorem d_La_budgetAt_7 : decode b_La_budgetAt 7 = .ok (.invokevirtual 19, 3) := by decide +kernel
theorem d_La_budgetAt_10 : decode b_La_budgetAt 10 = .ok (.i2l, 1) := by decide +kernel
theorem d_La_budgetAt_11 : decode b_La_budgetAt 11 = .ok (.lastore, 1) := by decide +kernel
theorem d_La_budgetAt_12 : decode b_La_budgetAt 12 = .ok (.goto 7, 3) := by decide +kernel
theorem d_La_budgetAt_15 : decode b_La_budgetAt 15 = .ok (.astore 5, 2) := by decide +kernel
theorem d_La_budgetAt_17 : decode b_La_budgetAt 17 = .ok (.iconst 1, 1) := by decide +kernel
theorem d_La_budgetAt_18 : decode b_La_budgetAt 18 = .ok (.ireturn, 1) := by decide +kernel
theorem d_La_budgetAt_19 : decode b_La_budgetAt 19 = .ok (.iconst 0, 1) := by decide +kernel
theorem d_La_budgetAt_20 : decode b_La_budgetAt 20 = .ok (.ireturn, 1) := by decide +kernel
theorem d_La_band_0 : decode b_La_band 0 = .ok (.aload_n 0, 1) := by decide +kernel
theorem d_La_band_1 : decode b_La_band 1 = .ok (.iload_n 1, 1) := by decide +kernel
theorem d_La_band_2 : decode b_La_band 2 = .ok (.invokevirtual 23, 3) := by decide +kernel
theorem d_La_band_5 : decode b_La_band 5 = .ok (.goto 6, 3) := by decide +kernel
theorem d_La_band_8 : decode b_La_band 8 = .ok (.astore_n 2, 1) := by decide +kernel
theorem d_La_band_9 : decode b_La_band 9 = .ok (.iconst 1, 1) := by decide +kernel
theorem d_La_band_10 : decode b_La_band 10 = .ok (.ireturn, 1) := by decide +kernel
theorem d_La_band_11 : decode b_La_band 11 = .ok (.iconst 0, 1) := by decide +kernel
theorem d_La_band_12 : decode b_La_band 12 = .ok (.ireturn, 1) := by decide +kernel
theorem d_La_order_0 : decode b_La_order 0 = .ok (.aload 4, 2) := by decide +kernel
theorem d_La_order_2 : decode b_La_order 2 = .ok (.iconst 0, 1) := by decide +kernel
theorem d_La_order_3 : decode b_La_order 3 = .ok (.aload_n 0, 1) := by decide +kernel
theorem d_La_order_4 : decode b_La_order 4 = .ok (.iload_n 1, 1) := by decide +kernel
theorem d_La_order_5 : decode b_La_order 5 = .ok (.iload_n 2, 1) := by decide +kernel
theorem d_La_order_6 : decode b_La_order 6 = .ok (.iload_n 3, 1) := by decide +kernel
theorem d_La_order_7 : decode b_La_order 7 = .ok (.invokevirtual 27, 3) := by decide +kernel
theorem d_La_order_10 : decode b_La_order 10 = .ok (.i2l, 1) := by decide +kernel
theorem d_La_order_11 : decode b_La_order 11 = .ok (.lastore, 1) := by decide +kernel
theorem d_La_order_12 : decode b_La_order 12 = .ok (.goto 19, 3) := by decide +kernel
theorem d_La_order_15 : decode b_La_order 15 = .ok (.astore 5, 2) := by decide +kernel
theorem d_La_order_17 : decode b_La_order 17 = .ok (.iconst 1, 1) := by decide +kernel
theorem d_La_order_18 : decode b_La_order 18 = .ok (.ireturn, 1) := by decide +kernel
theorem d_La_order_19 : decode b_La_order 19 = .ok (.astore 5, 2) := by decide +kernel
theorem d_La_order_21 : decode b_La_order 21 = .ok (.iconst 2, 1) := by decide +kernel
theorem d_La_order_22 : decode b_La_order 22 = .ok (.ireturn, 1) := by decide +kernel
theorem d_La_order_23 : decode b_La_order 23 = .ok (.astore 5, 2) := by decide +kernel
theorem d_La_order_25 : decode b_La_order 25 = .ok (.iconst 3, 1) := by decide +kernel
theorem d_La_order_26 : decode b_La_order 26 = .ok (.ireturn, 1) := by decide +kernel
theorem d_La_order_27 : decode b_La_order 27 = .ok (.astore 5, 2) := by decide +kernel
theorem d_La_order_29 : decode b_La_order 29 = .ok (.iconst 4, 1) := by decide +kernel
theorem d_La_order_30 : decode b_La_order 30 = .ok (.ireturn, 1) := by decide +kernel
theorem d_La_order_31 : decode b_La_order 31 = .ok (.iconst 0, 1) := by decide +kernel
theorem d_La_order_32 : decode b_La_order 32 = .ok (.ireturn, 1) := by decide +kernel
theorem d_La_invoice_0 : decode b_La_invoice 0 = .ok (.aload_n 0, 1) := by decide +kernel
theorem d_La_invoice_1 : decode b_La_invoice 1 = .ok (.iload_n 1, 1) := by decide +kernel
theorem d_La_invoice_2 : decode b_La_invoice 2 = .ok (.iload_n 2, 1) := by decide +kernel
theorem d_La_invoice_3 : decode b_La_invoice 3 = .ok (.invokevirtual 32, 3) := by decide +kernel
theorem d_La_invoice_6 : decode b_La_invoice 6 = .ok (.goto 12, 3) := by decide +kernel
theorem d_La_invoice_9 : decode b_La_invoice 9 = .ok (.astore_n 3, 1) := by decide +kernel
theorem d_La_invoice_10 : decode b_La_invoice 10 = .ok (.iconst 1, 1) := by decide +kernel
theorem d_La_invoice_11 : decode b_La_invoice 11 = .ok (.ireturn, 1) := by decide +kernel
theorem d_La_invoice_12 : decode b_La_invoice 12 = .ok (.astore_n 3, 1) := by decide +kernel
theorem d_La_invoice_13 : decode b_La_invoice 13 = .ok (.iconst 2, 1) := by decide +kernel
theorem d_La_invoice_14 : decode b_La_invoice 14 = .ok (.ireturn, 1) := by decide +kernel
theorem d_La_invoice_15 : decode b_La_invoice 15 = .ok (.astore_n 3, 1) := by decide +kernel
theorem d_La_invoice_16 : decode b_La_invoice 16 = .ok (.iconst 3, 1) := by decide +kernel
theorem d_La_invoice_17 : decode b_La_invoice 17 = .ok (.ireturn, 1) := by decide +kernel
theorem d_La_invoice_18 : decode b_La_invoice 18 = .ok (.iconst 0, 1) := by decide +kernel
theorem d_La_invoice_19 : decode b_La_invoice 19 = .ok (.ireturn, 1) := by decide +kernel
theorem d_La_cancel_0 : decode b_La_cancel 0 = .ok (.aload_n 0, 1) := by decide +kernel
theorem d_La_cancel_1 : decode b_La_cancel 1 = .ok (.iload_n 1, 1) := by decide +kernel
theorem d_La_cancel_2 : decode b_La_cancel 2 = .ok (.invokevirtual 36, 3) := by decide +kernel
theorem d_La_cancel_5 : decode b_La_cancel 5 = .ok (.goto 9, 3) := by decide +kernel
theorem d_La_cancel_8 : decode b_La_cancel 8 = .ok (.astore_n 2, 1) := by decide +kernel
theorem d_La_cancel_9 : decode b_La_cancel 9 = .ok (.iconst 1, 1) := by decide +kernel
theorem d_La_cancel_10 : decode b_La_cancel 10 = .ok (.ireturn, 1) := by decide +kernel
theorem d_La_cancel_11 : decode b_La_cancel 11 = .ok (.astore_n 2, 1) := by decide +kernel
theorem d_La_cancel_12 : decode b_La_cancel 12 = .ok (.iconst 2, 1) := by decide +kernel
theorem d_La_cancel_13 : decode b_La_cancel 13 = .ok (.ireturn, 1) := by decide +kernel
theorem d_La_cancel_14 : decode b_La_cancel 14 = .ok (.iconst 0, 1) := by decide +kernel
theorem d_La_cancel_15 : decode b_La_cancel 15 = .ok (.ireturn, 1) := by decide +kernel
theorem d_La_sign_0 : decode b_La_sign 0 = .ok (.aload 4, 2) := by decide +kernel
theorem d_La_sign_2 : decode b_La_sign 2 = .ok (.iconst 0, 1) := by decide +kernel
theorem d_La_sign_3 : decode b_La_sign 3 = .ok (.aload_n 0, 1) := by decide +kernel
theorem d_La_sign_4 : decode b_La_sign 4 = .ok (.lload_n 1, 1) := by decide +kernel
theorem d_La_sign_5 : decode b_La_sign 5 = .ok (.iload_n 3, 1) := by decide +kernel
theorem d_La_sign_6 : decode b_La_sign 6 = .ok (.invokevirtual 39, 3) := by decide +kernel
theorem d_La_sign_9 : decode b_La_sign 9 = .ok (.i2l, 1) := by decide +kernel
theorem d_La_sign_10 : decode b_La_sign 10 = .ok (.lastore, 1) := by decide +kernel
theorem d_La_sign_11 : decode b_La_sign 11 = .ok (.goto 11, 3) := by decide +kernel
theorem d_La_sign_14 : decode b_La_sign 14 = .ok (.astore 5, 2) := by decide +kernel
theorem d_La_sign_16 : decode b_La_sign 16 = .ok (.iconst 1, 1) := by decide +kernel
theorem d_La_sign_17 : decode b_La_sign 17 = .ok (.ireturn, 1) := by decide +kernel
theorem d_La_sign_18 : decode b_La_sign 18 = .ok (.astore 5, 2) := by decide +kernel
theorem d_La_sign_20 : decode b_La_sign 20 = .ok (.iconst 2, 1) := by decide +kernel
theorem d_La_sign_21 : decode b_La_sign 21 = .ok (.ireturn, 1) := by decide +kernel
theorem d_La_sign_22 : decode b_La_sign 22 = .ok (.iconst 0, 1) := by decide +kernel
theorem d_La_sign_23 : decode b_La_sign 23 = .ok (.ireturn, 1) := by decide +kernel
theorem d_La_tariff_0 : decode b_La_tariff 0 = .ok (.aload_n 1, 1) := by decide +kernel
theorem d_La_tariff_1 : decode b_La_tariff 1 = .ok (.iconst 0, 1) := by decide +kernel
theorem d_La_tariff_2 : decode b_La_tariff 2 = .ok (.aload_n 0, 1) := by decide +kernel
theorem d_La_tariff_3 : decode b_La_tariff 3 = .ok (.invokevirtual 43, 3) := by decide +kernel
theorem d_La_tariff_6 : decode b_La_tariff 6 = .ok (.i2l, 1) := by decide +kernel
theorem d_La_tariff_7 : decode b_La_tariff 7 = .ok (.lastore, 1) := by decide +kernel
theorem d_La_tariff_8 : decode b_La_tariff 8 = .ok (.goto 6, 3) := by decide +kernel
theorem d_La_tariff_11 : decode b_La_tariff 11 = .ok (.astore_n 2, 1) := by decide +kernel
theorem d_La_tariff_12 : decode b_La_tariff 12 = .ok (.iconst 1, 1) := by decide +kernel
theorem d_La_tariff_13 : decode b_La_tariff 13 = .ok (.ireturn, 1) := by decide +kernel
theorem d_La_tariff_14 : decode b_La_tariff 14 = .ok (.iconst 0, 1) := by decide +kernel
theorem d_La_tariff_15 : decode b_La_tariff 15 = .ok (.ireturn, 1) := by decide +kernel
theorem d_La_bill_0 : decode b_La_bill 0 = .ok (.aload 5, 2) := by decide +kernel
theorem d_La_bill_2 : decode b_La_bill 2 = .ok (.iconst 0, 1) := by decide +kernel
theorem d_La_bill_3 : decode b_La_bill 3 = .ok (.aload_n 0, 1) := by decide +kernel
theorem d_La_bill_4 : decode b_La_bill 4 = .ok (.iload_n 1, 1) := by decide +kernel
theorem d_La_bill_5 : decode b_La_bill 5 = .ok (.iload_n 2, 1) := by decide +kernel
theorem d_La_bill_6 : decode b_La_bill 6 = .ok (.iload_n 3, 1) := by decide +kernel
theorem d_La_bill_7 : decode b_La_bill 7 = .ok (.iload 4, 2) := by decide +kernel
theorem d_La_bill_9 : decode b_La_bill 9 = .ok (.invokevirtual 47, 3) := by decide +kernel
theorem d_La_bill_12 : decode b_La_bill 12 = .ok (.i2l, 1) := by decide +kernel
theorem d_La_bill_13 : decode b_La_bill 13 = .ok (.lastore, 1) := by decide +kernel
theorem d_La_bill_14 : decode b_La_bill 14 = .ok (.goto 19, 3) := by decide +kernel
theorem d_La_bill_17 : decode b_La_bill 17 = .ok (.astore 6, 2) := by decide +kernel
theorem d_La_bill_19 : decode b_La_bill 19 = .ok (.iconst 1, 1) := by decide +kernel
theorem d_La_bill_20 : decode b_La_bill 20 = .ok (.ireturn, 1) := by decide +kernel
theorem d_La_bill_21 : decode b_La_bill 21 = .ok (.astore 6, 2) := by decide +kernel
theorem d_La_bill_23 : decode b_La_bill 23 = .ok (.iconst 2, 1) := by decide +kernel
theorem d_La_bill_24 : decode b_La_bill 24 = .ok (.ireturn, 1) := by decide +kernel
theorem d_La_bill_25 : decode b_La_bill 25 = .ok (.astore 6, 2) := by decide +kernel
theorem d_La_bill_27 : decode b_La_bill 27 = .ok (.iconst 3, 1) := by decide +kernel
theorem d_La_bill_28 : decode b_La_bill 28 = .ok (.ireturn, 1) := by decide +kernel
theorem d_La_bill_29 : decode b_La_bill 29 = .ok (.astore 6, 2) := by decide +kernel
theorem d_La_bill_31 : decode b_La_bill 31 = .ok (.iconst 4, 1) := by decide +kernel
theorem d_La_bill_32 : decode b_La_bill 32 = .ok (.ireturn, 1) := by decide +kernel
theorem d_La_bill_33 : decode b_La_bill 33 = .ok (.iconst 0, 1) := by decide +kernel
theorem d_La_bill_34 : decode b_La_bill 34 = .ok (.ireturn, 1) := by decide +kernel
theorem d_La_pay_0 : decode b_La_pay 0 = .ok (.aload_n 3, 1) := by decide +kernel
theorem d_La_pay_1 : decode b_La_pay 1 = .ok (.iconst 0, 1) := by decide +kernel
theorem d_La_pay_2 : decode b_La_pay 2 = .ok (.aload_n 0, 1) := by decide +kernel
theorem d_La_pay_3 : decode b_La_pay 3 = .ok (.iload_n 1, 1) := by decide +kernel
theorem d_La_pay_4 : decode b_La_pay 4 = .ok (.iload_n 2, 1) := by decide +kernel
theorem d_La_pay_5 : decode b_La_pay 5 = .ok (.invokevirtual 51, 3) := by decide +kernel
theorem d_La_pay_8 : decode b_La_pay 8 = .ok (.i2l, 1) := by decide +kernel
theorem d_La_pay_9 : decode b_La_pay 9 = .ok (.lastore, 1) := by decide +kernel
theorem d_La_pay_10 : decode b_La_pay 10 = .ok (.goto 15, 3) := by decide +kernel
theorem d_La_pay_13 : decode b_La_pay 13 = .ok (.astore 4, 2) := by decide +kernel
theorem d_La_pay_15 : decode b_La_pay 15 = .ok (.iconst 1, 1) := by decide +kernel
theorem d_La_pay_16 : decode b_La_pay 16 = .ok (.ireturn, 1) := by decide +kernel
theorem d_La_pay_17 : decode b_La_pay 17 = .ok (.astore 4, 2) := by decide +kernel
theorem d_La_pay_19 : decode b_La_pay 19 = .ok (.iconst 2, 1) := by decide +kernel
theorem d_La_pay_20 : decode b_La_pay 20 = .ok (.ireturn, 1) := by decide +kernel
theorem d_La_pay_21 : decode b_La_pay 21 = .ok (.astore 4, 2) := by decide +kernel
theorem d_La_pay_23 : decode b_La_pay 23 = .ok (.iconst 3, 1) := by decide +kernel
theorem d_La_pay_24 : decode b_La_pay 24 = .ok (.ireturn, 1) := by decide +kernel
theorem d_La_pay_25 : decode b_La_pay 25 = .ok (.iconst 0, 1) := by decide +kernel
theorem d_La_pay_26 : decode b_La_pay 26 = .ok (.ireturn, 1) := by decide +kernel
theorem d_La_dispute_0 : decode b_La_dispute 0 = .ok (.aload_n 0, 1) := by decide +kernel
theorem d_La_dispute_1 : decode b_La_dispute 1 = .ok (.iload_n 1, 1) := by decide +kernel
theorem d_La_dispute_2 : decode b_La_dispute 2 = .ok (.iload_n 2, 1) := by decide +kernel
theorem d_La_dispute_3 : decode b_La_dispute 3 = .ok (.invokevirtual 55, 3) := by decide +kernel
theorem d_La_dispute_6 : decode b_La_dispute 6 = .ok (.goto 9, 3) := by decide +kernel
theorem d_La_dispute_9 : decode b_La_dispute 9 = .ok (.astore_n 3, 1) := by decide +kernel
theorem d_La_dispute_10 : decode b_La_dispute 10 = .ok (.iconst 1, 1) := by decide +kernel
theorem d_La_dispute_11 : decode b_La_dispute 11 = .ok (.ireturn, 1) := by decide +kernel
theorem d_La_dispute_12 : decode b_La_dispute 12 = .ok (.astore_n 3, 1) := by decide +kernel
theorem d_La_dispute_13 : decode b_La_dispute 13 = .ok (.iconst 2, 1) := by decide +kernel
theorem d_La_dispute_14 : decode b_La_dispute 14 = .ok (.ireturn, 1) := by decide +kernel
theorem d_La_dispute_15 : decode b_La_dispute 15 = .ok (.iconst 0, 1) := by decide +kernel
theorem d_La_dispute_16 : decode b_La_dispute 16 = .ok (.ireturn, 1) := by decide +kernel
theorem d_La_remind_0 : decode b_La_remind 0 = .ok (.aload_n 2, 1) := by decide +kernel
theorem d_La_remind_1 : decode b_La_remind 1 = .ok (.iconst 0, 1) := by decide +kernel
theorem d_La_remind_2 : decode b_La_remind 2 = .ok (.aload_n 0, 1) := by decide +kernel
theorem d_La_remind_3 : decode b_La_remind 3 = .ok (.iload_n 1, 1) := by decide +kernel
theorem d_La_remind_4 : decode b_La_remind 4 = .ok (.invokevirtual 59, 3) := by decide +kernel
theorem d_La_remind_7 : decode b_La_remind 7 = .ok (.i2l, 1) := by decide +kernel
theorem d_La_remind_8 : decode b_La_remind 8 = .ok (.lastore, 1) := by decide +kernel
theorem d_La_remind_9 : decode b_La_remind 9 = .ok (.goto 6, 3) := by decide +kernel
theorem d_La_remind_12 : decode b_La_remind 12 = .ok (.astore_n 3, 1) := by decide +kernel
theorem d_La_remind_13 : decode b_La_remind 13 = .ok (.iconst 1, 1) := by decide +kernel
theorem d_La_remind_14 : decode b_La_remind 14 = .ok (.ireturn, 1) := by decide +kernel
theorem d_La_remind_15 : decode b_La_remind 15 = .ok (.iconst 0, 1) := by decide +kernel
theorem d_La_remind_16 : decode b_La_remind 16 = .ok (.ireturn, 1) := by decide +kernel
theorem d_La_billAt_0 : decode b_La_billAt 0 = .ok (.aload_n 3, 1) := by decide +kernel
theorem d_La_billAt_1 : decode b_La_billAt 1 = .ok (.iconst 0, 1) := by decide +kernel
theorem d_La_billAt_2 : decode b_La_billAt 2 = .ok (.aload_n 0, 1) := by decide +kernel
theorem d_La_billAt_3 : decode b_La_billAt 3 = .ok (.iload_n 1, 1) := by decide +kernel
theorem d_La_billAt_4 : decode b_La_billAt 4 = .ok (.iload_n 2, 1) := by decide +kernel
theorem d_La_billAt_5 : decode b_La_billAt 5 = .ok (.invokevirtual 63, 3) := by decide +kernel
theorem d_La_billAt_8 : decode b_La_billAt 8 = .ok (.i2l, 1) := by decide +kernel
theorem d_La_billAt_9 : decode b_La_billAt 9 = .ok (.lastore, 1) := by decide +kernel
theorem d_La_billAt_10 : decode b_La_billAt 10 = .ok (.goto 7, 3) := by decide +kernel
theorem d_La_billAt_13 : decode b_La_billAt 13 = .ok (.astore 4, 2) := by decide +kernel
theorem d_La_billAt_15 : decode b_La_billAt 15 = .ok (.iconst 1, 1) := by decide +kernel
theorem d_La_billAt_16 : decode b_La_billAt 16 = .ok (.ireturn, 1) := by decide +kernel
theorem d_La_billAt_17 : decode b_La_billAt 17 = .ok (.iconst 0, 1) := by decide +kernel
theorem d_La_billAt_18 : decode b_La_billAt 18 = .ok (.ireturn, 1) := by decide +kernel
theorem d_La_weight_0 : decode b_La_weight 0 = .ok (.aload_n 0, 1) := by decide +kernel
theorem d_La_weight_1 : decode b_La_weight 1 = .ok (.iload_n 1, 1) := by decide +kernel
theorem d_La_weight_2 : decode b_La_weight 2 = .ok (.iload_n 2, 1) := by decide +kernel
theorem d_La_weight_3 : decode b_La_weight 3 = .ok (.invokevirtual 66, 3) := by decide +kernel
theorem d_La_weight_6 : decode b_La_weight 6 = .ok (.goto 9, 3) := by decide +kernel
theorem d_La_weight_9 : decode b_La_weight 9 = .ok (.astore_n 3, 1) := by decide +kernel
theorem d_La_weight_10 : decode b_La_weight 10 = .ok (.iconst 1, 1) := by decide +kernel
theorem d_La_weight_11 : decode b_La_weight 11 = .ok (.ireturn, 1) := by decide +kernel
theorem d_La_weight_12 : decode b_La_weight 12 = .ok (.astore_n 3, 1) := by decide +kernel
theorem d_La_weight_13 : decode b_La_weight 13 = .ok (.iconst 2, 1) := by decide +kernel
theorem d_La_weight_14 : decode b_La_weight 14 = .ok (.ireturn, 1) := by decide +kernel
theorem d_La_weight_15 : decode b_La_weight 15 = .ok (.iconst 0, 1) := by decide +kernel
theorem d_La_weight_16 : decode b_La_weight 16 = .ok (.ireturn, 1) := by decide +kernel
theorem d_La_share_0 : decode b_La_share 0 = .ok (.aload_n 3, 1) := by decide +kernel
theorem d_La_share_1 : decode b_La_share 1 = .ok (.iconst 0, 1) := by decide +kernel
theorem d_La_share_2 : decode b_La_share 2 = .ok (.aload_n 0, 1) := by decide +kernel
theorem d_La_share_3 : decode b_La_share 3 = .ok (.iload_n 1, 1) := by decide +kernel
theorem d_La_share_4 : decode b_La_share 4 = .ok (.iload_n 2, 1) := by decide +kernel
theorem d_La_share_5 : decode b_La_share 5 = .ok (.invokevirtual 69, 3) := by decide +kernel
theorem d_La_share_8 : decode b_La_share 8 = .ok (.i2l, 1) := by decide +kernel
theorem d_La_share_9 : decode b_La_share 9 = .ok (.lastore, 1) := by decide +kernel
theorem d_La_share_10 : decode b_La_share 10 = .ok (.goto 15, 3) := by decide +kernel
theorem d_La_share_13 : decode b_La_share 13 = .ok (.astore 4, 2) := by decide +kernel
theorem d_La_share_15 : decode b_La_share 15 = .ok (.iconst 1, 1) := by decide +kernel
theorem d_La_share_16 : decode b_La_share 16 = .ok (.ireturn, 1) := by decide +kernel
theorem d_La_share_17 : decode b_La_share 17 = .ok (.astore 4, 2) := by decide +kernel
theorem d_La_share_19 : decode b_La_share 19 = .ok (.iconst 2, 1) := by decide +kernel
theorem d_La_share_20 : decode b_La_share 20 = .ok (.ireturn, 1) := by decide +kernel
theorem d_La_share_21 : decode b_La_share 21 = .ok (.astore 4, 2) := by decide +kernel
theorem d_La_share_23 : decode b_La_share 23 = .ok (.iconst 3, 1) := by decide +kernel
theorem d_La_share_24 : decode b_La_share 24 = .ok (.ireturn, 1) := by decide +kernel
theorem d_La_share_25 : decode b_La_share 25 = .ok (.iconst 0, 1) := by decide +kernel
theorem d_La_share_26 : decode b_La_share 26 = .ok (.ireturn, 1) := by decide +kernel
theorem d_La_grant_0 : decode b_La_grant 0 = .ok (.aload_n 3, 1) := by decide +kernel
theorem d_La_grant_1 : decode b_La_grant 1 = .ok (.iconst 0, 1) := by decide +kernel
theorem d_La_grant_2 : decode b_La_grant 2 = .ok (.aload_n 0, 1) := by decide +kernel
theorem d_La_grant_3 : decode b_La_grant 3 = .ok (.iload_n 1, 1) := by decide +kernel
theorem d_La_grant_4 : decode b_La_grant 4 = .ok (.iload_n 2, 1) := by decide +kernel
theorem d_La_grant_5 : decode b_La_grant 5 = .ok (.invokevirtual 74, 3) := by decide +kernel
theorem d_La_grant_8 : decode b_La_grant 8 = .ok (.i2l, 1) := by decide +kernel
theorem d_La_grant_9 : decode b_La_grant 9 = .ok (.lastore, 1) := by decide +kernel
theorem d_La_grant_10 : decode b_La_grant 10 = .ok (.goto 15, 3) := by decide +kernel
theorem d_La_grant_13 : decode b_La_grant 13 = .ok (.astore 4, 2) := by decide +kernel
theorem d_La_grant_15 : decode b_La_grant 15 = .ok (.iconst 1, 1) := by decide +kernel
theorem d_La_grant_16 : decode b_La_grant 16 = .ok (.ireturn, 1) := by decide +kernel
theorem d_La_grant_17 : decode b_La_grant 17 = .ok (.astore 4, 2) := by decide +kernel
theorem d_La_grant_19 : decode b_La_grant 19 = .ok (.iconst 2, 1) := by decide +kernel
theorem d_La_grant_20 : decode b_La_grant 20 = .ok (.ireturn, 1) := by decide +kernel
theorem d_La_grant_21 : decode b_La_grant 21 = .ok (.astore 4, 2) := by decide +kernel
theorem d_La_grant_23 : decode b_La_grant 23 = .ok (.iconst 3, 1) := by decide +kernel
theorem d_La_grant_24 : decode b_La_grant 24 = .ok (.ireturn, 1) := by decide +kernel
theorem d_La_grant_25 : decode b_La_grant 25 = .ok (.iconst 0, 1) := by decide +kernel
theorem d_La_grant_26 : decode b_La_grant 26 = .ok (.ireturn, 1) := by decide +kernel
theorem d_La_use_0 : decode b_La_use 0 = .ok (.aload 4, 2) := by decide +kernel
theorem d_La_use_2 : decode b_La_use 2 = .ok (.iconst 0, 1) := by decide +kernel
theorem d_La_use_3 : decode b_La_use 3 = .ok (.aload_n 0, 1) := by decide +kernel
theorem d_La_use_4 : decode b_La_use 4 = .ok (.iload_n 1, 1) := by decide +kernel
theorem d_La_use_5 : decode b_La_use 5 = .ok (.iload_n 2, 1) := by decide +kernel
theorem d_La_use_6 : decode b_La_use 6 = .ok (.iload_n 3, 1) := by decide +kernel
theorem d_La_use_7 : decode b_La_use 7 = .ok (.invokevirtual 77, 3) := by decide +kernel
theorem d_La_use_10 : decode b_La_use 10 = .ok (.i2l, 1) := by decide +kernel
theorem d_La_use_11 : decode b_La_use 11 = .ok (.lastore, 1) := by decide +kernel
theorem d_La_use_12 : decode b_La_use 12 = .ok (.goto 15, 3) := by decide +kernel
theorem d_La_use_15 : decode b_La_use 15 = .ok (.astore 5, 2) := by decide +kernel
theorem d_La_use_17 : decode b_La_use 17 = .ok (.iconst 1, 1) := by decide +kernel
theorem d_La_use_18 : decode b_La_use 18 = .ok (.ireturn, 1) := by decide +kernel
theorem d_La_use_19 : decode b_La_use 19 = .ok (.astore 5, 2) := by decide +kernel
theorem d_La_use_21 : decode b_La_use 21 = .ok (.iconst 2, 1) := by decide +kernel
theorem d_La_use_22 : decode b_La_use 22 = .ok (.ireturn, 1) := by decide +kernel
theorem d_La_use_23 : decode b_La_use 23 = .ok (.astore 5, 2) := by decide +kernel
theorem d_La_use_25 : decode b_La_use 25 = .ok (.iconst 3, 1) := by decide +kernel
theorem d_La_use_26 : decode b_La_use 26 = .ok (.ireturn, 1) := by decide +kernel
theorem d_La_use_27 : decode b_La_use 27 = .ok (.iconst 0, 1) := by decide +kernel
theorem d_La_use_28 : decode b_La_use 28 = .ok (.ireturn, 1) := by decide +kernel
theorem d_La_row_0 : decode b_La_row 0 = .ok (.aload_n 3, 1) := by decide +kernel
theorem d_La_row_1 : decode b_La_row 1 = .ok (.iconst 0, 1) := by decide +kernel
theorem d_La_row_2 : decode b_La_row 2 = .ok (.aload_n 0, 1) := by decide +kernel
theorem d_La_row_3 : decode b_La_row 3 = .ok (.iload_n 1, 1) := by decide +kernel
theorem d_La_row_4 : decode b_La_row 4 = .ok (.iload_n 2, 1) := by decide +kernel
theorem d_La_row_5 : decode b_La_row 5 = .ok (.invokevirtual 80, 3) := by decide +kernel
theorem d_La_row_8 : decode b_La_row 8 = .ok (.i2l, 1) := by decide +kernel
theorem d_La_row_9 : decode b_La_row 9 = .ok (.lastore, 1) := by decide +kernel
theorem d_La_row_10 : decode b_La_row 10 = .ok (.goto 15, 3) := by decide +kernel
theorem d_La_row_13 : decode b_La_row 13 = .ok (.astore 4, 2) := by decide +kernel
theorem d_La_row_15 : decode b_La_row 15 = .ok (.iconst 1, 1) := by decide +kernel
theorem d_La_row_16 : decode b_La_row 16 = .ok (.ireturn, 1) := by decide +kernel
theorem d_La_row_17 : decode b_La_row 17 = .ok (.astore 4, 2) := by decide +kernel
theorem d_La_row_19 : decode b_La_row 19 = .ok (.iconst 2, 1) := by decide +kernel
theorem d_La_row_20 : decode b_La_row 20 = .ok (.ireturn, 1) := by decide +kernel
theorem d_La_row_21 : decode b_La_row 21 = .ok (.astore 4, 2) := by decide +kernel
theorem d_La_row_23 : decode b_La_row 23 = .ok (.iconst 3, 1) := by decide +kernel
theorem d_La_row_24 : decode b_La_row 24 = .ok (.ireturn, 1) := by decide +kernel
theorem d_La_row_25 : decode b_La_row 25 = .ok (.iconst 0, 1) := by decide +kernel
theorem d_La_row_26 : decode b_La_row 26 = .ok (.ireturn, 1) := by decide +kernel
theorem d_La_post_0 : decode b_La_post 0 = .ok (.aload_n 2, 1) := by decide +kernel
theorem d_La_post_1 : decode b_La_post 1 = .ok (.iconst 0, 1) := by decide +kernel
theorem d_La_post_2 : decode b_La_post 2 = .ok (.aload_n 0, 1) := by decide +kernel
theorem d_La_post_3 : decode b_La_post 3 = .ok (.iload_n 1, 1) := by decide +kernel
theorem d_La_post_4 : decode b_La_post 4 = .ok (.invokevirtual 83, 3) := by decide +kernel
theorem d_La_post_7 : decode b_La_post 7 = .ok (.i2l, 1) := by decide +kernel
theorem d_La_post_8 : decode b_La_post 8 = .ok (.lastore, 1) := by decide +kernel
theorem d_La_post_9 : decode b_La_post 9 = .ok (.goto 9, 3) := by decide +kernel
theorem d_La_post_12 : decode b_La_post 12 = .ok (.astore_n 3, 1) := by decide +kernel
theorem d_La_post_13 : decode b_La_post 13 = .ok (.iconst 1, 1) := by decide +kernel
theorem d_La_post_14 : decode b_La_post 14 = .ok (.ireturn, 1) := by decide +kernel
theorem d_La_post_15 : decode b_La_post 15 = .ok (.astore_n 3, 1) := by decide +kernel
theorem d_La_post_16 : decode b_La_post 16 = .ok (.iconst 2, 1) := by decide +kernel
theorem d_La_post_17 : decode b_La_post 17 = .ok (.ireturn, 1) := by decide +kernel
theorem d_La_post_18 : decode b_La_post 18 = .ok (.iconst 0, 1) := by decide +kernel
theorem d_La_post_19 : decode b_La_post 19 = .ok (.ireturn, 1) := by decide +kernel
theorem d_La_balance_0 : decode b_La_balance 0 = .ok (.aload_n 3, 1) := by decide +kernel
theorem d_La_balance_1 : decode b_La_balance 1 = .ok (.iconst 0, 1) := by decide +kernel
theorem d_La_balance_2 : decode b_La_balance 2 = .ok (.aload_n 0, 1) := by decide +kernel
theorem d_La_balance_3 : decode b_La_balance 3 = .ok (.iload_n 1, 1) := by decide +kernel
theorem d_La_balance_4 : decode b_La_balance 4 = .ok (.iload_n 2, 1) := by decide +kernel
theorem d_La_balance_5 : decode b_La_balance 5 = .ok (.invokevirtual 86, 3) := by decide +kernel
theorem d_La_balance_8 : decode b_La_balance 8 = .ok (.lastore, 1) := by decide +kernel
theorem d_La_balance_9 : decode b_La_balance 9 = .ok (.goto 7, 3) := by decide +kernel
theorem d_La_balance_12 : decode b_La_balance 12 = .ok (.astore 4, 2) := by decide +kernel
theorem d_La_balance_14 : decode b_La_balance 14 = .ok (.iconst 1, 1) := by decide +kernel
theorem d_La_balance_15 : decode b_La_balance 15 = .ok (.ireturn, 1) := by decide +kernel
theorem d_La_balance_16 : decode b_La_balance 16 = .ok (.iconst 0, 1) := by decide +kernel
theorem d_La_balance_17 : decode b_La_balance 17 = .ok (.ireturn, 1) := by decide +kernel
theorem d_La_close_0 : decode b_La_close 0 = .ok (.aload_n 0, 1) := by decide +kernel
theorem d_La_close_1 : decode b_La_close 1 = .ok (.iload_n 1, 1) := by decide +kernel
theorem d_La_close_2 : decode b_La_close 2 = .ok (.invokevirtual 90, 3) := by decide +kernel
theorem d_La_close_5 : decode b_La_close 5 = .ok (.goto 9, 3) := by decide +kernel
theorem d_La_close_8 : decode b_La_close 8 = .ok (.astore_n 2, 1) := by decide +kernel
theorem d_La_close_9 : decode b_La_close 9 = .ok (.iconst 1, 1) := by decide +kernel
theorem d_La_close_10 : decode b_La_close 10 = .ok (.ireturn, 1) := by decide +kernel
theorem d_La_close_11 : decode b_La_close 11 = .ok (.astore_n 2, 1) := by decide +kernel
theorem d_La_close_12 : decode b_La_close 12 = .ok (.iconst 2, 1) := by decide +kernel
theorem d_La_close_13 : decode b_La_close 13 = .ok (.ireturn, 1) := by decide +kernel
theorem d_La_close_14 : decode b_La_close 14 = .ok (.iconst 0, 1) := by decide +kernel
theorem d_La_close_15 : decode b_La_close 15 = .ok (.ireturn, 1) := by decide +kernel
theorem d_La_forecast_0 : decode b_La_forecast 0 = .ok (.aload 4, 2) := by decide +kernel
theorem d_La_forecast_2 : decode b_La_forecast 2 = .ok (.iconst 0, 1) := by decide +kernel
theorem d_La_forecast_3 : decode b_La_forecast 3 = .ok (.aload_n 0, 1) := by decide +kernel
theorem d_La_forecast_4 : decode b_La_forecast 4 = .ok (.iload_n 1, 1) := by decide +kernel
theorem d_La_forecast_5 : decode b_La_forecast 5 = .ok (.iload_n 2, 1) := by decide +kernel
theorem d_La_forecast_6 : decode b_La_forecast 6 = .ok (.iload_n 3, 1) := by decide +kernel
theorem d_La_forecast_7 : decode b_La_forecast 7 = .ok (.invokevirtual 93, 3) := by decide +kernel
theorem d_La_forecast_10 : decode b_La_forecast 10 = .ok (.lastore, 1) := by decide +kernel
theorem d_La_forecast_11 : decode b_La_forecast 11 = .ok (.goto 15, 3) := by decide +kernel
theorem d_La_forecast_14 : decode b_La_forecast 14 = .ok (.astore 5, 2) := by decide +kernel
theorem d_La_forecast_16 : decode b_La_forecast 16 = .ok (.iconst 1, 1) := by decide +kernel
theorem d_La_forecast_17 : decode b_La_forecast 17 = .ok (.ireturn, 1) := by decide +kernel
theorem d_La_forecast_18 : decode b_La_forecast 18 = .ok (.astore 5, 2) := by decide +kernel
theorem d_La_forecast_20 : decode b_La_forecast 20 = .ok (.iconst 2, 1) := by decide +kernel
theorem d_La_forecast_21 : decode b_La_forecast 21 = .ok (.ireturn, 1) := by decide +kernel
theorem d_La_forecast_22 : decode b_La_forecast 22 = .ok (.astore 5, 2) := by decide +kernel
theorem d_La_forecast_24 : decode b_La_forecast 24 = .ok (.iconst 3, 1) := by decide +kernel
theorem d_La_forecast_25 : decode b_La_forecast 25 = .ok (.ireturn, 1) := by decide +kernel
theorem d_La_forecast_26 : decode b_La_forecast 26 = .ok (.iconst 0, 1) := by decide +kernel
theorem d_La_forecast_27 : decode b_La_forecast 27 = .ok (.ireturn, 1) := by decide +kernel
