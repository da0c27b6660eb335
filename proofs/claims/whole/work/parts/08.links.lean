theorem k_CB_1 {G : GG} {U : State} {A : Array Value} (h : g_C G U) : (Cond.methodLink R_CB 1 objectInit).before A U = true := h.w (tb_1 (List.mem_of_getElem? (i := 26) rfl)) rfl
theorem k_CB_7 {G : GG} {U : State} {A : Array Value} (h : g_C G U) : (Cond.classLink R_CB 7 "CostBooks$Budgets").before A U = true := h.w (tb_1 (List.mem_of_getElem? (i := 29) rfl)) rfl
theorem k_CB_9 {G : GG} {U : State} {A : Array Value} (h : g_C G U) : (Cond.methodLinkNest R_CB 9 y_Bu_init "CostBooks").before A U = true := h.w (tb_1 (List.mem_of_getElem? (i := 31) rfl)) rfl
theorem k_CB_10 {G : GG} {U : State} {A : Array Value} (h : g_C G U) : (Cond.fieldLink R_CB 10 "CostBooks" "budgets" "LCostBooks$Budgets;").before A U = true := h.w (tb_1 (List.mem_of_getElem? (i := 218) rfl)) rfl
theorem k_CB_16 {G : GG} {U : State} {A : Array Value} (h : g_C G U) : (Cond.classLink R_CB 16 "CostBooks$Orders").before A U = true := h.w (tb_1 (List.mem_of_getElem? (i := 49) rfl)) rfl
theorem k_CB_18 {G : GG} {U : State} {A : Array Value} (h : g_C G U) : (Cond.methodLinkNest R_CB 18 y_Or_init "CostBooks").before A U = true := h.w (tb_1 (List.mem_of_getElem? (i := 51) rfl)) rfl
theorem k_CB_19 {G : GG} {U : State} {A : Array Value} (h : g_C G U) : (Cond.fieldLink R_CB 19 "CostBooks" "orders" "LCostBooks$Orders;").before A U = true := h.w (tb_1 (List.mem_of_getElem? (i := 219) rfl)) rfl
theorem k_CB_23 {G : GG} {U : State} {A : Array Value} (h : g_C G U) : (Cond.classLink R_CB 23 "CostBooks$Tape").before A U = true := h.w (tb_1 (List.mem_of_getElem? (i := 73) rfl)) rfl
theorem k_CB_25 {G : GG} {U : State} {A : Array Value} (h : g_C G U) : (Cond.methodLinkNest R_CB 25 y_Ta_init "CostBooks").before A U = true := h.w (tb_1 (List.mem_of_getElem? (i := 75) rfl)) rfl
theorem k_CB_26 {G : GG} {U : State} {A : Array Value} (h : g_C G U) : (Cond.fieldLink R_CB 26 "CostBooks" "tape" "LCostBooks$Tape;").before A U = true := h.w (tb_1 (List.mem_of_getElem? (i := 220) rfl)) rfl
theorem k_CB_30 {G : GG} {U : State} {A : Array Value} (h : g_C G U) : (Cond.classLink R_CB 30 "CostBooks$TariffReader").before A U = true := h.w (tb_1 (List.mem_of_getElem? (i := 89) rfl)) rfl
theorem k_CB_32 {G : GG} {U : State} {A : Array Value} (h : g_C G U) : (Cond.methodLinkNest R_CB 32 y_Re_init "CostBooks").before A U = true := h.w (tb_1 (List.mem_of_getElem? (i := 91) rfl)) rfl
theorem k_CB_33 {G : GG} {U : State} {A : Array Value} (h : g_C G U) : (Cond.fieldLink R_CB 33 "CostBooks" "reader" "LCostBooks$TariffReader;").before A U = true := h.w (tb_1 (List.mem_of_getElem? (i := 221) rfl)) rfl
theorem k_CB_37 {G : GG} {U : State} {A : Array Value} (h : g_C G U) : (Cond.classLink R_CB 37 "CostBooks$Tariff").before A U = true := h.w (tb_1 (List.mem_of_getElem? (i := 123) rfl)) rfl
theorem k_CB_39 {G : GG} {U : State} {A : Array Value} (h : g_C G U) : (Cond.methodLinkNest R_CB 39 y_Tf_init "CostBooks").before A U = true := h.w (tb_1 (List.mem_of_getElem? (i := 125) rfl)) rfl
theorem k_CB_40 {G : GG} {U : State} {A : Array Value} (h : g_C G U) : (Cond.fieldLink R_CB 40 "CostBooks" "charges" "LCostBooks$Tariff;").before A U = true := h.w (tb_1 (List.mem_of_getElem? (i := 222) rfl)) rfl
theorem k_CB_44 {G : GG} {U : State} {A : Array Value} (h : g_C G U) : (Cond.classLink R_CB 44 "CostBooks$Bills").before A U = true := h.w (tb_1 (List.mem_of_getElem? (i := 136) rfl)) rfl
theorem k_CB_46 {G : GG} {U : State} {A : Array Value} (h : g_C G U) : (Cond.methodLinkNest R_CB 46 y_Bi_init "CostBooks").before A U = true := h.w (tb_1 (List.mem_of_getElem? (i := 138) rfl)) rfl
theorem k_CB_47 {G : GG} {U : State} {A : Array Value} (h : g_C G U) : (Cond.fieldLink R_CB 47 "CostBooks" "bills" "LCostBooks$Bills;").before A U = true := h.w (tb_1 (List.mem_of_getElem? (i := 223) rfl)) rfl
theorem k_CB_51 {G : GG} {U : State} {A : Array Value} (h : g_C G U) : (Cond.classLink R_CB 51 "CostBooks$Houses").before A U = true := h.w (tb_1 (List.mem_of_getElem? (i := 166) rfl)) rfl
theorem k_CB_53 {G : GG} {U : State} {A : Array Value} (h : g_C G U) : (Cond.methodLinkNest R_CB 53 y_Ho_init "CostBooks").before A U = true := h.w (tb_1 (List.mem_of_getElem? (i := 168) rfl)) rfl
theorem k_CB_54 {G : GG} {U : State} {A : Array Value} (h : g_C G U) : (Cond.fieldLink R_CB 54 "CostBooks" "houses" "LCostBooks$Houses;").before A U = true := h.w (tb_1 (List.mem_of_getElem? (i := 224) rfl)) rfl
theorem k_CB_58 {G : GG} {U : State} {A : Array Value} (h : g_C G U) : (Cond.classLink R_CB 58 "CostBooks$Grants").before A U = true := h.w (tb_1 (List.mem_of_getElem? (i := 177) rfl)) rfl
theorem k_CB_60 {G : GG} {U : State} {A : Array Value} (h : g_C G U) : (Cond.methodLinkNest R_CB 60 y_Gr_init "CostBooks").before A U = true := h.w (tb_1 (List.mem_of_getElem? (i := 179) rfl)) rfl
theorem k_CB_61 {G : GG} {U : State} {A : Array Value} (h : g_C G U) : (Cond.fieldLink R_CB 61 "CostBooks" "grants" "LCostBooks$Grants;").before A U = true := h.w (tb_1 (List.mem_of_getElem? (i := 225) rfl)) rfl
theorem k_CB_65 {G : GG} {U : State} {A : Array Value} (h : g_C G U) : (Cond.classLink R_CB 65 "CostBooks$Ledger").before A U = true := h.w (tb_1 (List.mem_of_getElem? (i := 196) rfl)) rfl
theorem k_CB_67 {G : GG} {U : State} {A : Array Value} (h : g_C G U) : (Cond.methodLinkNest R_CB 67 y_Le_init "CostBooks").before A U = true := h.w (tb_1 (List.mem_of_getElem? (i := 198) rfl)) rfl
theorem k_CB_68 {G : GG} {U : State} {A : Array Value} (h : g_C G U) : (Cond.fieldLink R_CB 68 "CostBooks" "ledger" "LCostBooks$Ledger;").before A U = true := h.w (tb_1 (List.mem_of_getElem? (i := 226) rfl)) rfl
theorem k_CB_72 {G : GG} {U : State} {A : Array Value} (h : g_C G U) : (Cond.fieldLink R_CB 72 "CostBooks" "bandThousandths" "I").before A U = true := h.w (tb_1 (List.mem_of_getElem? (i := 227) rfl)) rfl
theorem k_CB_76 {G : GG} {U : State} {A : Array Value} (h : g_C G U) : (Cond.fieldLink R_CB 76 "CostBooks" "wrongPlace" "I").before A U = true := h.w (tb_1 (List.mem_of_getElem? (i := 228) rfl)) rfl
theorem k_CB_79 {G : GG} {U : State} {A : Array Value} (h : g_C G U) : (Cond.fieldLink R_CB 79 "CostBooks" "closedYears" "I").before A U = true := h.w (tb_1 (List.mem_of_getElem? (i := 229) rfl)) rfl
theorem k_CB_82 {G : GG} {U : State} {A : Array Value} (h : g_C G U) : (Cond.methodLink R_CB 82 y_CB_requireKnown).before A U = true := h.w (tb_2 (List.mem_of_getElem? (i := 29) rfl)) rfl
theorem k_CB_86 {G : GG} {U : State} {A : Array Value} (h : g_C G U) : (Cond.constant R_CB 86 (100000000 : Int32)).before A U = true := h.w (tb_2 (List.mem_of_getElem? (i := 102) rfl)) rfl
theorem k_CB_87 {G : GG} {U : State} {A : Array Value} (h : g_C G U) : (Cond.methodLink R_CB 87 y_CB_requireRange).before A U = true := h.w (tb_2 (List.mem_of_getElem? (i := 103) rfl)) rfl
theorem k_CB_91 {G : GG} {U : State} {A : Array Value} (h : g_C G U) : (Cond.methodLink R_CB 91 y_CB_slotOf).before A U = true := h.w (tb_2 (List.mem_of_getElem? (i := 122) rfl)) rfl
theorem k_CB_95 {G : GG} {U : State} {A : Array Value} (h : g_C G U) : (Cond.methodLink R_CB 95 y_CB_isClosed).before A U = true := h.w (tb_2 (List.mem_of_getElem? (i := 125) rfl)) rfl
theorem k_CB_99 {G : GG} {U : State} {A : Array Value} (h : g_C G U) : (Cond.methodLinkNest R_CB 99 y_Bu_boundIn "CostBooks").before A U = true := h.w (tb_2 (List.mem_of_getElem? (i := 129) rfl)) rfl
theorem k_CB_103 {G : GG} {U : State} {A : Array Value} (h : g_C G U) : (Cond.methodLink R_CB 103 y_CB_requireState).before A U = true := h.w (tb_2 (List.mem_of_getElem? (i := 133) rfl)) rfl
theorem k_CB_107 {G : GG} {U : State} {A : Array Value} (h : g_C G U) : (Cond.fieldLinkNest R_CB 107 "CostBooks$Budgets" "total" "[I" "CostBooks").before A U = true := h.w (tb_1 (List.mem_of_getElem? (i := 36) rfl)) rfl
theorem k_CB_111 {G : GG} {U : State} {A : Array Value} (h : g_C G U) : (Cond.fieldLinkNest R_CB 111 "CostBooks$Budgets" "held" "[I" "CostBooks").before A U = true := h.w (tb_1 (List.mem_of_getElem? (i := 38) rfl)) rfl
theorem k_CB_114 {G : GG} {U : State} {A : Array Value} (h : g_C G U) : (Cond.fieldLinkNest R_CB 114 "CostBooks$Budgets" "spent" "[I" "CostBooks").before A U = true := h.w (tb_1 (List.mem_of_getElem? (i := 40) rfl)) rfl
theorem k_CB_117 {G : GG} {U : State} {A : Array Value} (h : g_C G U) : (Cond.methodLinkNest R_CB 117 y_Bu_freeIn "CostBooks").before A U = true := h.w (tb_2 (List.mem_of_getElem? (i := 159) rfl)) rfl
theorem k_CB_120 {G : GG} {U : State} {A : Array Value} (h : g_C G U) : (Cond.fieldLinkNest R_CB 120 "CostBooks$Orders" "count" "I" "CostBooks").before A U = true := h.w (tb_1 (List.mem_of_getElem? (i := 62) rfl)) rfl
theorem k_CB_123 {G : GG} {U : State} {A : Array Value} (h : g_C G U) : (Cond.methodLink R_CB 123 y_CB_requireRoom).before A U = true := h.w (tb_2 (List.mem_of_getElem? (i := 179) rfl)) rfl
theorem k_CB_126 {G : GG} {U : State} {A : Array Value} (h : g_C G U) : (Cond.methodLinkNest R_CB 126 y_Or_add "CostBooks").before A U = true := h.w (tb_2 (List.mem_of_getElem? (i := 198) rfl)) rfl
theorem k_CB_129 {G : GG} {U : State} {A : Array Value} (h : g_C G U) : (Cond.fieldLinkNest R_CB 129 "CostBooks$Orders" "open" "[Z" "CostBooks").before A U = true := h.w (tb_1 (List.mem_of_getElem? (i := 60) rfl)) rfl
theorem k_CB_133 {G : GG} {U : State} {A : Array Value} (h : g_C G U) : (Cond.fieldLinkNest R_CB 133 "CostBooks$Orders" "slot" "[I" "CostBooks").before A U = true := h.w (tb_1 (List.mem_of_getElem? (i := 56) rfl)) rfl
theorem k_CB_136 {G : GG} {U : State} {A : Array Value} (h : g_C G U) : (Cond.fieldLinkNest R_CB 136 "CostBooks$Orders" "cents" "[I" "CostBooks").before A U = true := h.w (tb_1 (List.mem_of_getElem? (i := 58) rfl)) rfl
theorem k_CB_139 {G : GG} {U : State} {A : Array Value} (h : g_C G U) : (Cond.methodLink R_CB 139 Lib.Math.abs.name).before A U = true := h.w (tb_2 (List.mem_of_getElem? (i := 209) rfl)) rfl
theorem k_CB_144 {G : GG} {U : State} {A : Array Value} (h : g_C G U) : (Cond.methodLinkNest R_CB 144 y_Or_bandOf "CostBooks").before A U = true := h.w (tb_2 (List.mem_of_getElem? (i := 212) rfl)) rfl
theorem k_CB_148 {G : GG} {U : State} {A : Array Value} (h : g_C G U) : (Cond.methodLink R_CB 148 y_CB_release).before A U = true := h.w (tb_2 (List.mem_of_getElem? (i := 217) rfl)) rfl
theorem k_CB_152 {G : GG} {U : State} {A : Array Value} (h : g_C G U) : (Cond.fieldLinkNest R_CB 152 "CostBooks$Tape" "length" "I" "CostBooks").before A U = true := h.w (tb_1 (List.mem_of_getElem? (i := 83) rfl)) rfl
theorem k_CB_155 {G : GG} {U : State} {A : Array Value} (h : g_C G U) : (Cond.methodLinkNest R_CB 155 y_Ta_write "CostBooks").before A U = true := h.w (tb_2 (List.mem_of_getElem? (i := 235) rfl)) rfl
theorem k_CB_159 {G : GG} {U : State} {A : Array Value} (h : g_C G U) : (Cond.methodLinkNest R_CB 159 y_Re_read "CostBooks").before A U = true := h.w (tb_3 (List.mem_of_getElem? (i := 6) rfl)) rfl
theorem k_CB_163 {G : GG} {U : State} {A : Array Value} (h : g_C G U) : (Cond.methodLinkNest R_CB 163 y_Tf_become "CostBooks").before A U = true := h.w (tb_3 (List.mem_of_getElem? (i := 41) rfl)) rfl
theorem k_CB_167 {G : GG} {U : State} {A : Array Value} (h : g_C G U) : (Cond.fieldLinkNest R_CB 167 "CostBooks$TariffReader" "rows" "I" "CostBooks").before A U = true := h.w (tb_1 (List.mem_of_getElem? (i := 101) rfl)) rfl
theorem k_CB_170 {G : GG} {U : State} {A : Array Value} (h : g_C G U) : (Cond.constant R_CB 170 (100000 : Int32)).before A U = true := h.w (tb_3 (List.mem_of_getElem? (i := 52) rfl)) rfl
theorem k_CB_171 {G : GG} {U : State} {A : Array Value} (h : g_C G U) : (Cond.methodLinkNest R_CB 171 y_Tf_isFree "CostBooks").before A U = true := h.w (tb_3 (List.mem_of_getElem? (i := 53) rfl)) rfl
theorem k_CB_174 {G : GG} {U : State} {A : Array Value} (h : g_C G U) : (Cond.methodLinkNest R_CB 174 y_Tf_costOf "CostBooks").before A U = true := h.w (tb_3 (List.mem_of_getElem? (i := 57) rfl)) rfl
theorem k_CB_177 {G : GG} {U : State} {A : Array Value} (h : g_C G U) : (Cond.fieldLinkNest R_CB 177 "CostBooks$Bills" "count" "I" "CostBooks").before A U = true := h.w (tb_1 (List.mem_of_getElem? (i := 152) rfl)) rfl
theorem k_CB_178 {G : GG} {U : State} {A : Array Value} (h : g_C G U) : (Cond.constantLong R_CB 178 (1000000000 : Int64)).before A U = true := h.w (tb_3 (List.mem_of_getElem? (i := 61) rfl)) rfl
theorem k_CB_180 {G : GG} {U : State} {A : Array Value} (h : g_C G U) : (Cond.methodLinkNest R_CB 180 y_Bi_add "CostBooks").before A U = true := h.w (tb_3 (List.mem_of_getElem? (i := 62) rfl)) rfl
theorem k_CB_181 {G : GG} {U : State} {A : Array Value} (h : g_C G U) : (Cond.methodLinkNest R_CB 181 y_Bi_leftOf "CostBooks").before A U = true := h.w (tb_3 (List.mem_of_getElem? (i := 73) rfl)) rfl
theorem k_CB_184 {G : GG} {U : State} {A : Array Value} (h : g_C G U) : (Cond.fieldLinkNest R_CB 184 "CostBooks$Bills" "paid" "[I" "CostBooks").before A U = true := h.w (tb_1 (List.mem_of_getElem? (i := 145) rfl)) rfl
theorem k_CB_187 {G : GG} {U : State} {A : Array Value} (h : g_C G U) : (Cond.fieldLinkNest R_CB 187 "CostBooks$Bills" "disputed" "[Z" "CostBooks").before A U = true := h.w (tb_1 (List.mem_of_getElem? (i := 150) rfl)) rfl
theorem k_CB_190 {G : GG} {U : State} {A : Array Value} (h : g_C G U) : (Cond.methodLinkNest R_CB 190 y_Bi_isOpen "CostBooks").before A U = true := h.w (tb_3 (List.mem_of_getElem? (i := 84) rfl)) rfl
theorem k_CB_193 {G : GG} {U : State} {A : Array Value} (h : g_C G U) : (Cond.methodLinkNest R_CB 193 y_Bi_remindAll "CostBooks").before A U = true := h.w (tb_3 (List.mem_of_getElem? (i := 96) rfl)) rfl
theorem k_CB_196 {G : GG} {U : State} {A : Array Value} (h : g_C G U) : (Cond.fieldLinkNest R_CB 196 "CostBooks$Bills" "cents" "[I" "CostBooks").before A U = true := h.w (tb_1 (List.mem_of_getElem? (i := 143) rfl)) rfl
theorem k_CB_197 {G : GG} {U : State} {A : Array Value} (h : g_C G U) : (Cond.fieldLinkNest R_CB 197 "CostBooks$Bills" "reminded" "[I" "CostBooks").before A U = true := h.w (tb_1 (List.mem_of_getElem? (i := 148) rfl)) rfl
theorem k_CB_200 {G : GG} {U : State} {A : Array Value} (h : g_C G U) : (Cond.fieldLinkNest R_CB 200 "CostBooks$Houses" "weights" "[I" "CostBooks").before A U = true := h.w (tb_1 (List.mem_of_getElem? (i := 173) rfl)) rfl
theorem k_CB_203 {G : GG} {U : State} {A : Array Value} (h : g_C G U) : (Cond.methodLinkNest R_CB 203 y_Ho_sumOfWeights "CostBooks").before A U = true := h.w (tb_3 (List.mem_of_getElem? (i := 123) rfl)) rfl
theorem k_CB_207 {G : GG} {U : State} {A : Array Value} (h : g_C G U) : (Cond.classLink R_CB 207 "java/lang/ArithmeticException").before A U = true := h.w (tb_3 (List.mem_of_getElem? (i := 127) rfl)) rfl
theorem k_CB_209 {G : GG} {U : State} (h : g_C G U) : vk_R R_CB 209 "the weights sum to 0" (G.2.2.1 209) U := h.2.2.2.2.1 (209, "the weights sum to 0") (by decide +kernel)
theorem k_CB_211 {G : GG} {U : State} {A : Array Value} (h : g_C G U) : (Cond.methodLink R_CB 211 ⟨"java/lang/ArithmeticException", "<init>", "(Ljava/lang/String;)V"⟩).before A U = true := h.w (tb_3 (List.mem_of_getElem? (i := 137) rfl)) rfl
theorem k_CB_214 {G : GG} {U : State} {A : Array Value} (h : g_C G U) : (Cond.methodLinkNest R_CB 214 y_Ho_partOf "CostBooks").before A U = true := h.w (tb_3 (List.mem_of_getElem? (i := 143) rfl)) rfl
theorem k_CB_218 {G : GG} {U : State} {A : Array Value} (h : g_C G U) : (Cond.fieldLinkNest R_CB 218 "CostBooks$Grants" "count" "I" "CostBooks").before A U = true := h.w (tb_1 (List.mem_of_getElem? (i := 188) rfl)) rfl
theorem k_CB_219 {G : GG} {U : State} {A : Array Value} (h : g_C G U) : (Cond.methodLinkNest R_CB 219 y_Gr_add "CostBooks").before A U = true := h.w (tb_3 (List.mem_of_getElem? (i := 166) rfl)) rfl
theorem k_CB_220 {G : GG} {U : State} {A : Array Value} (h : g_C G U) : (Cond.fieldLinkNest R_CB 220 "CostBooks$Grants" "purpose" "[I" "CostBooks").before A U = true := h.w (tb_1 (List.mem_of_getElem? (i := 184) rfl)) rfl
theorem k_CB_223 {G : GG} {U : State} {A : Array Value} (h : g_C G U) : (Cond.fieldLinkNest R_CB 223 "CostBooks$Grants" "left" "[I" "CostBooks").before A U = true := h.w (tb_1 (List.mem_of_getElem? (i := 186) rfl)) rfl
theorem k_CB_226 {G : GG} {U : State} {A : Array Value} (h : g_C G U) : (Cond.constant R_CB 226 (-100000000 : Int32)).before A U = true := h.w (tb_3 (List.mem_of_getElem? (i := 184) rfl)) rfl
theorem k_CB_227 {G : GG} {U : State} {A : Array Value} (h : g_C G U) : (Cond.fieldLinkNest R_CB 227 "CostBooks$Ledger" "rows" "I" "CostBooks").before A U = true := h.w (tb_1 (List.mem_of_getElem? (i := 207) rfl)) rfl
theorem k_CB_228 {G : GG} {U : State} {A : Array Value} (h : g_C G U) : (Cond.methodLinkNest R_CB 228 y_Le_addRow "CostBooks").before A U = true := h.w (tb_3 (List.mem_of_getElem? (i := 185) rfl)) rfl
theorem k_CB_231 {G : GG} {U : State} {A : Array Value} (h : g_C G U) : (Cond.methodLink R_CB 231 Lib.Math.max.name).before A U = true := h.w (tb_3 (List.mem_of_getElem? (i := 196) rfl)) rfl
theorem k_CB_234 {G : GG} {U : State} {A : Array Value} (h : g_C G U) : (Cond.methodLinkNest R_CB 234 y_Le_sumOfRows "CostBooks").before A U = true := h.w (tb_3 (List.mem_of_getElem? (i := 199) rfl)) rfl
theorem k_CB_237 {G : GG} {U : State} {A : Array Value} (h : g_C G U) : (Cond.methodLinkNest R_CB 237 y_Le_bookRows "CostBooks").before A U = true := h.w (tb_3 (List.mem_of_getElem? (i := 203) rfl)) rfl
theorem k_CB_240 {G : GG} {U : State} {A : Array Value} (h : g_C G U) : (Cond.fieldLinkNest R_CB 240 "CostBooks$Ledger" "balances" "[J" "CostBooks").before A U = true := h.w (tb_1 (List.mem_of_getElem? (i := 203) rfl)) rfl
theorem k_CB_244 {G : GG} {U : State} {A : Array Value} (h : g_C G U) : (Cond.methodLinkNest R_CB 244 y_Le_cellOf "CostBooks").before A U = true := h.w (tb_3 (List.mem_of_getElem? (i := 218) rfl)) rfl
theorem k_CB_247 {G : GG} {U : State} {A : Array Value} (h : g_C G U) : (Cond.methodLinkNest R_CB 247 y_Or_anyOpenIn "CostBooks").before A U = true := h.w (tb_3 (List.mem_of_getElem? (i := 226) rfl)) rfl
theorem k_CB_250 {G : GG} {U : State} (h : g_C G U) : vk_R R_CB 250 "no day went by" (G.2.2.1 250) U := h.2.2.2.2.1 (250, "no day went by") (by decide +kernel)
theorem k_CB_252 {G : GG} {U : State} {A : Array Value} (h : g_C G U) : (Cond.constantLong R_CB 252 (365 : Int64)).before A U = true := h.w (tb_3 (List.mem_of_getElem? (i := 238) rfl)) rfl
theorem k_CB_254 {G : GG} {U : State} {A : Array Value} (h : g_C G U) : (Cond.classLink R_CB 254 "java/lang/IllegalArgumentException").before A U = true := h.w (tb_2 (List.mem_of_getElem? (i := 32) rfl)) rfl
theorem k_CB_256 {G : GG} {U : State} (h : g_C G U) : vk_R R_CB 256 "unknown number" (G.2.2.1 256) U := h.2.2.2.2.1 (256, "unknown number") (by decide +kernel)
theorem k_CB_258 {G : GG} {U : State} {A : Array Value} (h : g_C G U) : (Cond.methodLink R_CB 258 ⟨"java/lang/IllegalArgumentException", "<init>", "(Ljava/lang/String;)V"⟩).before A U = true := h.w (tb_2 (List.mem_of_getElem? (i := 76) rfl)) rfl
theorem k_CB_259 {G : GG} {U : State} {A : Array Value} (h : g_C G U) : (Cond.classLink R_CB 259 "java/lang/IndexOutOfBoundsException").before A U = true := h.w (tb_2 (List.mem_of_getElem? (i := 106) rfl)) rfl
theorem k_CB_261 {G : GG} {U : State} (h : g_C G U) : vk_R R_CB 261 "number outside its range" (G.2.2.1 261) U := h.2.2.2.2.1 (261, "number outside its range") (by decide +kernel)
theorem k_CB_263 {G : GG} {U : State} {A : Array Value} (h : g_C G U) : (Cond.methodLink R_CB 263 ⟨"java/lang/IndexOutOfBoundsException", "<init>", "(Ljava/lang/String;)V"⟩).before A U = true := h.w (tb_2 (List.mem_of_getElem? (i := 116) rfl)) rfl
theorem k_CB_264 {G : GG} {U : State} {A : Array Value} (h : g_C G U) : (Cond.classLink R_CB 264 "java/lang/IllegalStateException").before A U = true := h.w (tb_2 (List.mem_of_getElem? (i := 136) rfl)) rfl
theorem k_CB_266 {G : GG} {U : State} (h : g_C G U) : vk_R R_CB 266 "not in this state" (G.2.2.1 266) U := h.2.2.2.2.1 (266, "not in this state") (by decide +kernel)
theorem k_CB_268 {G : GG} {U : State} {A : Array Value} (h : g_C G U) : (Cond.methodLink R_CB 268 ⟨"java/lang/IllegalStateException", "<init>", "(Ljava/lang/String;)V"⟩).before A U = true := h.w (tb_2 (List.mem_of_getElem? (i := 146) rfl)) rfl
theorem k_CB_269 {G : GG} {U : State} {A : Array Value} (h : g_C G U) : (Cond.classLink R_CB 269 "java/lang/UnsupportedOperationException").before A U = true := h.w (tb_2 (List.mem_of_getElem? (i := 182) rfl)) rfl
theorem k_CB_271 {G : GG} {U : State} (h : g_C G U) : vk_R R_CB 271 "no room" (G.2.2.1 271) U := h.2.2.2.2.1 (271, "no room") (by decide +kernel)
theorem k_CB_273 {G : GG} {U : State} {A : Array Value} (h : g_C G U) : (Cond.methodLink R_CB 273 ⟨"java/lang/UnsupportedOperationException", "<init>", "(Ljava/lang/String;)V"⟩).before A U = true := h.w (tb_2 (List.mem_of_getElem? (i := 192) rfl)) rfl
theorem k_Bi_3 {G : GG} {U : State} {A : Array Value} (h : g_C G U) : (Cond.methodLink R_Bi 3 objectInit).before A U = true := h.w (tb_1 (List.mem_of_getElem? (i := 141) rfl)) rfl
theorem k_Bi_9 {G : GG} {U : State} {A : Array Value} (h : g_C G U) : (Cond.fieldLink R_Bi 9 "CostBooks$Bills" "cents" "[I").before A U = true := h.w (tb_1 (List.mem_of_getElem? (i := 142) rfl)) rfl
theorem k_Bi_15 {G : GG} {U : State} {A : Array Value} (h : g_C G U) : (Cond.fieldLink R_Bi 15 "CostBooks$Bills" "paid" "[I").before A U = true := h.w (tb_1 (List.mem_of_getElem? (i := 144) rfl)) rfl
theorem k_Bi_18 {G : GG} {U : State} {A : Array Value} (h : g_C G U) : (Cond.fieldLink R_Bi 18 "CostBooks$Bills" "dueDay" "[I").before A U = true := h.w (tb_1 (List.mem_of_getElem? (i := 146) rfl)) rfl
theorem k_Bi_21 {G : GG} {U : State} {A : Array Value} (h : g_C G U) : (Cond.fieldLink R_Bi 21 "CostBooks$Bills" "reminded" "[I").before A U = true := h.w (tb_1 (List.mem_of_getElem? (i := 147) rfl)) rfl
theorem k_Bi_24 {G : GG} {U : State} {A : Array Value} (h : g_C G U) : (Cond.fieldLink R_Bi 24 "CostBooks$Bills" "disputed" "[Z").before A U = true := h.w (tb_1 (List.mem_of_getElem? (i := 149) rfl)) rfl
theorem k_Bi_28 {G : GG} {U : State} {A : Array Value} (h : g_C G U) : (Cond.fieldLink R_Bi 28 "CostBooks$Bills" "count" "I").before A U = true := h.w (tb_1 (List.mem_of_getElem? (i := 151) rfl)) rfl
theorem k_Bi_32 {G : GG} {U : State} {A : Array Value} (h : g_C G U) : (Cond.methodLink R_Bi 32 y_Bi_leftOf).before A U = true := h.w (tb_3 (List.mem_of_getElem? (i := 88) rfl)) rfl
theorem k_Bi_36 {G : GG} {U : State} {A : Array Value} (h : g_C G U) : (Cond.methodLink R_Bi 36 y_Bi_isOpen).before A U = true := h.w (tb_3 (List.mem_of_getElem? (i := 100) rfl)) rfl
theorem k_Bu_3 {G : GG} {U : State} {A : Array Value} (h : g_C G U) : (Cond.methodLink R_Bu 3 objectInit).before A U = true := h.w (tb_1 (List.mem_of_getElem? (i := 34) rfl)) rfl
theorem k_Bu_9 {G : GG} {U : State} {A : Array Value} (h : g_C G U) : (Cond.fieldLink R_Bu 9 "CostBooks$Budgets" "total" "[I").before A U = true := h.w (tb_1 (List.mem_of_getElem? (i := 35) rfl)) rfl
theorem k_Bu_15 {G : GG} {U : State} {A : Array Value} (h : g_C G U) : (Cond.fieldLink R_Bu 15 "CostBooks$Budgets" "held" "[I").before A U = true := h.w (tb_1 (List.mem_of_getElem? (i := 37) rfl)) rfl
theorem k_Bu_18 {G : GG} {U : State} {A : Array Value} (h : g_C G U) : (Cond.fieldLink R_Bu 18 "CostBooks$Budgets" "spent" "[I").before A U = true := h.w (tb_1 (List.mem_of_getElem? (i := 39) rfl)) rfl
theorem k_Bu_21 {G : GG} {U : State} {A : Array Value} (h : g_C G U) : (Cond.methodLink R_Bu 21 y_Bu_boundIn).before A U = true := h.w (tb_2 (List.mem_of_getElem? (i := 163) rfl)) rfl
theorem k_Gr_3 {G : GG} {U : State} {A : Array Value} (h : g_C G U) : (Cond.methodLink R_Gr 3 objectInit).before A U = true := h.w (tb_1 (List.mem_of_getElem? (i := 182) rfl)) rfl
theorem k_Gr_9 {G : GG} {U : State} {A : Array Value} (h : g_C G U) : (Cond.fieldLink R_Gr 9 "CostBooks$Grants" "purpose" "[I").before A U = true := h.w (tb_1 (List.mem_of_getElem? (i := 183) rfl)) rfl
theorem k_Gr_15 {G : GG} {U : State} {A : Array Value} (h : g_C G U) : (Cond.fieldLink R_Gr 15 "CostBooks$Grants" "left" "[I").before A U = true := h.w (tb_1 (List.mem_of_getElem? (i := 185) rfl)) rfl
theorem k_Gr_18 {G : GG} {U : State} {A : Array Value} (h : g_C G U) : (Cond.fieldLink R_Gr 18 "CostBooks$Grants" "count" "I").before A U = true := h.w (tb_1 (List.mem_of_getElem? (i := 187) rfl)) rfl
theorem k_Ho_3 {G : GG} {U : State} {A : Array Value} (h : g_C G U) : (Cond.methodLink R_Ho 3 objectInit).before A U = true := h.w (tb_1 (List.mem_of_getElem? (i := 171) rfl)) rfl
theorem k_Ho_9 {G : GG} {U : State} {A : Array Value} (h : g_C G U) : (Cond.fieldLink R_Ho 9 "CostBooks$Houses" "weights" "[I").before A U = true := h.w (tb_1 (List.mem_of_getElem? (i := 172) rfl)) rfl
theorem k_Ho_15 {G : GG} {U : State} {A : Array Value} (h : g_C G U) : (Cond.methodLink R_Ho 15 y_Ho_roundedPart).before A U = true := h.w (tb_3 (List.mem_of_getElem? (i := 147) rfl)) rfl
theorem k_Ho_19 {G : GG} {U : State} {A : Array Value} (h : g_C G U) : (Cond.methodLink R_Ho 19 y_Ho_comesBefore).before A U = true := h.w (tb_3 (List.mem_of_getElem? (i := 151) rfl)) rfl
theorem k_Ho_23 {G : GG} {U : State} {A : Array Value} (h : g_C G U) : (Cond.methodLink R_Ho 23 y_Ho_remainder).before A U = true := h.w (tb_3 (List.mem_of_getElem? (i := 155) rfl)) rfl
theorem k_Le_3 {G : GG} {U : State} {A : Array Value} (h : g_C G U) : (Cond.methodLink R_Le 3 objectInit).before A U = true := h.w (tb_1 (List.mem_of_getElem? (i := 201) rfl)) rfl
theorem k_Le_9 {G : GG} {U : State} {A : Array Value} (h : g_C G U) : (Cond.fieldLink R_Le 9 "CostBooks$Ledger" "balances" "[J").before A U = true := h.w (tb_1 (List.mem_of_getElem? (i := 202) rfl)) rfl
theorem k_Le_15 {G : GG} {U : State} {A : Array Value} (h : g_C G U) : (Cond.fieldLink R_Le 15 "CostBooks$Ledger" "accounts" "[I").before A U = true := h.w (tb_1 (List.mem_of_getElem? (i := 204) rfl)) rfl
theorem k_Le_19 {G : GG} {U : State} {A : Array Value} (h : g_C G U) : (Cond.fieldLink R_Le 19 "CostBooks$Ledger" "cents" "[I").before A U = true := h.w (tb_1 (List.mem_of_getElem? (i := 205) rfl)) rfl
theorem k_Le_22 {G : GG} {U : State} {A : Array Value} (h : g_C G U) : (Cond.fieldLink R_Le 22 "CostBooks$Ledger" "rows" "I").before A U = true := h.w (tb_1 (List.mem_of_getElem? (i := 206) rfl)) rfl
theorem k_Le_26 {G : GG} {U : State} {A : Array Value} (h : g_C G U) : (Cond.methodLink R_Le 26 y_Le_cellOf).before A U = true := h.w (tb_3 (List.mem_of_getElem? (i := 207) rfl)) rfl
theorem k_Or_3 {G : GG} {U : State} {A : Array Value} (h : g_C G U) : (Cond.methodLink R_Or 3 objectInit).before A U = true := h.w (tb_1 (List.mem_of_getElem? (i := 54) rfl)) rfl
theorem k_Or_9 {G : GG} {U : State} {A : Array Value} (h : g_C G U) : (Cond.fieldLink R_Or 9 "CostBooks$Orders" "slot" "[I").before A U = true := h.w (tb_1 (List.mem_of_getElem? (i := 55) rfl)) rfl
theorem k_Or_15 {G : GG} {U : State} {A : Array Value} (h : g_C G U) : (Cond.fieldLink R_Or 15 "CostBooks$Orders" "cents" "[I").before A U = true := h.w (tb_1 (List.mem_of_getElem? (i := 57) rfl)) rfl
theorem k_Or_18 {G : GG} {U : State} {A : Array Value} (h : g_C G U) : (Cond.fieldLink R_Or 18 "CostBooks$Orders" "open" "[Z").before A U = true := h.w (tb_1 (List.mem_of_getElem? (i := 59) rfl)) rfl
theorem k_Or_22 {G : GG} {U : State} {A : Array Value} (h : g_C G U) : (Cond.fieldLink R_Or 22 "CostBooks$Orders" "count" "I").before A U = true := h.w (tb_1 (List.mem_of_getElem? (i := 61) rfl)) rfl
theorem k_Or_26 {G : GG} {U : State} {A : Array Value} (h : g_C G U) : (Cond.constantLong R_Or 26 (1000 : Int64)).before A U = true := h.w (tb_2 (List.mem_of_getElem? (i := 216) rfl)) rfl
theorem k_Ta_3 {G : GG} {U : State} {A : Array Value} (h : g_C G U) : (Cond.methodLink R_Ta 3 objectInit).before A U = true := h.w (tb_1 (List.mem_of_getElem? (i := 78) rfl)) rfl
theorem k_Ta_9 {G : GG} {U : State} {A : Array Value} (h : g_C G U) : (Cond.fieldLink R_Ta 9 "CostBooks$Tape" "bytes" "[I").before A U = true := h.w (tb_1 (List.mem_of_getElem? (i := 79) rfl)) rfl
theorem k_Ta_15 {G : GG} {U : State} {A : Array Value} (h : g_C G U) : (Cond.fieldLink R_Ta 15 "CostBooks$Tape" "length" "I").before A U = true := h.w (tb_1 (List.mem_of_getElem? (i := 81) rfl)) rfl
theorem k_Tf_3 {G : GG} {U : State} {A : Array Value} (h : g_C G U) : (Cond.methodLink R_Tf 3 objectInit).before A U = true := h.w (tb_1 (List.mem_of_getElem? (i := 128) rfl)) rfl
theorem k_Tf_9 {G : GG} {U : State} {A : Array Value} (h : g_C G U) : (Cond.fieldLink R_Tf 9 "CostBooks$Tariff" "base" "[I").before A U = true := h.w (tb_1 (List.mem_of_getElem? (i := 129) rfl)) rfl
theorem k_Tf_15 {G : GG} {U : State} {A : Array Value} (h : g_C G U) : (Cond.fieldLink R_Tf 15 "CostBooks$Tariff" "hour" "[I").before A U = true := h.w (tb_1 (List.mem_of_getElem? (i := 130) rfl)) rfl
theorem k_Tf_18 {G : GG} {U : State} {A : Array Value} (h : g_C G U) : (Cond.fieldLinkNest R_Tf 18 "CostBooks$TariffReader" "base" "[I" "CostBooks").before A U = true := h.w (tb_1 (List.mem_of_getElem? (i := 96) rfl)) rfl
theorem k_Tf_21 {G : GG} {U : State} {A : Array Value} (h : g_C G U) : (Cond.fieldLinkNest R_Tf 21 "CostBooks$TariffReader" "hour" "[I" "CostBooks").before A U = true := h.w (tb_1 (List.mem_of_getElem? (i := 98) rfl)) rfl
theorem k_Re_3 {G : GG} {U : State} {A : Array Value} (h : g_C G U) : (Cond.methodLink R_Re 3 objectInit).before A U = true := h.w (tb_1 (List.mem_of_getElem? (i := 94) rfl)) rfl
theorem k_Re_9 {G : GG} {U : State} {A : Array Value} (h : g_C G U) : (Cond.fieldLink R_Re 9 "CostBooks$TariffReader" "base" "[I").before A U = true := h.w (tb_1 (List.mem_of_getElem? (i := 95) rfl)) rfl
theorem k_Re_15 {G : GG} {U : State} {A : Array Value} (h : g_C G U) : (Cond.fieldLink R_Re 15 "CostBooks$TariffReader" "hour" "[I").before A U = true := h.w (tb_1 (List.mem_of_getElem? (i := 97) rfl)) rfl
theorem k_Re_18 {G : GG} {U : State} {A : Array Value} (h : g_C G U) : (Cond.fieldLink R_Re 18 "CostBooks$TariffReader" "told" "[Z").before A U = true := h.w (tb_1 (List.mem_of_getElem? (i := 99) rfl)) rfl
theorem k_Re_22 {G : GG} {U : State} {A : Array Value} (h : g_C G U) : (Cond.fieldLink R_Re 22 "CostBooks$TariffReader" "rows" "I").before A U = true := h.w (tb_1 (List.mem_of_getElem? (i := 100) rfl)) rfl
theorem k_Re_26 {G : GG} {U : State} {A : Array Value} (h : g_C G U) : (Cond.fieldLink R_Re 26 "CostBooks$TariffReader" "part" "I").before A U = true := h.w (tb_1 (List.mem_of_getElem? (i := 102) rfl)) rfl
theorem k_Re_29 {G : GG} {U : State} {A : Array Value} (h : g_C G U) : (Cond.fieldLink R_Re 29 "CostBooks$TariffReader" "kind" "I").before A U = true := h.w (tb_1 (List.mem_of_getElem? (i := 103) rfl)) rfl
theorem k_Re_32 {G : GG} {U : State} {A : Array Value} (h : g_C G U) : (Cond.fieldLink R_Re 32 "CostBooks$TariffReader" "number" "I").before A U = true := h.w (tb_1 (List.mem_of_getElem? (i := 104) rfl)) rfl
theorem k_Re_35 {G : GG} {U : State} {A : Array Value} (h : g_C G U) : (Cond.fieldLink R_Re 35 "CostBooks$TariffReader" "digits" "I").before A U = true := h.w (tb_1 (List.mem_of_getElem? (i := 105) rfl)) rfl
theorem k_Re_38 {G : GG} {U : State} {A : Array Value} (h : g_C G U) : (Cond.methodLink R_Re 38 y_Re_startAnew).before A U = true := h.w (tb_3 (List.mem_of_getElem? (i := 10) rfl)) rfl
theorem k_Re_41 {G : GG} {U : State} {A : Array Value} (h : g_C G U) : (Cond.fieldLinkNest R_Re 41 "CostBooks$Tape" "length" "I" "CostBooks").before A U = true := h.w (tb_1 (List.mem_of_getElem? (i := 82) rfl)) rfl
theorem k_Re_46 {G : GG} {U : State} {A : Array Value} (h : g_C G U) : (Cond.fieldLinkNest R_Re 46 "CostBooks$Tape" "bytes" "[I" "CostBooks").before A U = true := h.w (tb_1 (List.mem_of_getElem? (i := 80) rfl)) rfl
theorem k_Re_49 {G : GG} {U : State} {A : Array Value} (h : g_C G U) : (Cond.methodLink R_Re 49 y_Re_takes).before A U = true := h.w (tb_3 (List.mem_of_getElem? (i := 18) rfl)) rfl
theorem k_Re_53 {G : GG} {U : State} {A : Array Value} (h : g_C G U) : (Cond.methodLink R_Re 53 y_Re_startNumber).before A U = true := h.w (tb_3 (List.mem_of_getElem? (i := 14) rfl)) rfl
theorem k_Re_56 {G : GG} {U : State} {A : Array Value} (h : g_C G U) : (Cond.methodLink R_Re 56 y_Re_takesKind).before A U = true := h.w (tb_3 (List.mem_of_getElem? (i := 22) rfl)) rfl
theorem k_Re_59 {G : GG} {U : State} {A : Array Value} (h : g_C G U) : (Cond.methodLink R_Re 59 y_Re_endsBase).before A U = true := h.w (tb_3 (List.mem_of_getElem? (i := 29) rfl)) rfl
theorem k_Re_63 {G : GG} {U : State} {A : Array Value} (h : g_C G U) : (Cond.methodLink R_Re 63 y_Re_takesDigit).before A U = true := h.w (tb_3 (List.mem_of_getElem? (i := 33) rfl)) rfl
theorem k_Re_66 {G : GG} {U : State} {A : Array Value} (h : g_C G U) : (Cond.methodLink R_Re 66 y_Re_endsHour).before A U = true := h.w (tb_3 (List.mem_of_getElem? (i := 37) rfl)) rfl
theorem k_Re_69 {G : GG} {U : State} {A : Array Value} (h : g_C G U) : (Cond.methodLink R_Re 69 y_Re_isDigit).before A U = true := h.w (tb_3 (List.mem_of_getElem? (i := 26) rfl)) rfl
theorem k_La_7 {G : GG} {U : State} {A : Array Value} (h : g_C G U) : (Cond.methodLink R_La 7 y_CB_budget).before A U = true := h.w (tb_2 (List.mem_of_getElem? (i := 25) rfl)) rfl
theorem k_La_8 {G : GG} {U : State} {A : Array Value} (h : g_C G U) : (Cond.classLink R_La 8 "CostBooks").before A U = true := h.w (tb_1 (List.mem_of_getElem? (i := 21) rfl)) rfl
theorem k_La_13 {G : GG} {U : State} {A : Array Value} (h : g_C G U) : (Cond.classLink R_La 13 "java/lang/IllegalArgumentException").before A U = true := h.w (tb_2 (List.mem_of_getElem? (i := 22) rfl)) rfl
theorem k_La_15 {G : GG} {U : State} {A : Array Value} (h : g_C G U) : (Cond.classLink R_La 15 "java/lang/IndexOutOfBoundsException").before A U = true := h.w (tb_2 (List.mem_of_getElem? (i := 23) rfl)) rfl
theorem k_La_17 {G : GG} {U : State} {A : Array Value} (h : g_C G U) : (Cond.classLink R_La 17 "java/lang/IllegalStateException").before A U = true := h.w (tb_2 (List.mem_of_getElem? (i := 24) rfl)) rfl
theorem k_La_19 {G : GG} {U : State} {A : Array Value} (h : g_C G U) : (Cond.methodLink R_La 19 y_CB_budgetAt).before A U = true := h.w (tb_2 (List.mem_of_getElem? (i := 155) rfl)) rfl
theorem k_La_23 {G : GG} {U : State} {A : Array Value} (h : g_C G U) : (Cond.methodLink R_La 23 y_CB_band).before A U = true := h.w (tb_2 (List.mem_of_getElem? (i := 167) rfl)) rfl
theorem k_La_27 {G : GG} {U : State} {A : Array Value} (h : g_C G U) : (Cond.methodLink R_La 27 y_CB_order).before A U = true := h.w (tb_2 (List.mem_of_getElem? (i := 175) rfl)) rfl
theorem k_La_30 {G : GG} {U : State} {A : Array Value} (h : g_C G U) : (Cond.classLink R_La 30 "java/lang/UnsupportedOperationException").before A U = true := h.w (tb_2 (List.mem_of_getElem? (i := 174) rfl)) rfl
theorem k_La_32 {G : GG} {U : State} {A : Array Value} (h : g_C G U) : (Cond.methodLink R_La 32 y_CB_invoice).before A U = true := h.w (tb_2 (List.mem_of_getElem? (i := 205) rfl)) rfl
theorem k_La_36 {G : GG} {U : State} {A : Array Value} (h : g_C G U) : (Cond.methodLink R_La 36 y_CB_cancel).before A U = true := h.w (tb_2 (List.mem_of_getElem? (i := 224) rfl)) rfl
theorem k_La_39 {G : GG} {U : State} {A : Array Value} (h : g_C G U) : (Cond.methodLink R_La 39 y_CB_sign).before A U = true := h.w (tb_2 (List.mem_of_getElem? (i := 231) rfl)) rfl
theorem k_La_43 {G : GG} {U : State} {A : Array Value} (h : g_C G U) : (Cond.methodLink R_La 43 y_CB_tariff).before A U = true := h.w (tb_3 (List.mem_of_getElem? (i := 2) rfl)) rfl
theorem k_La_47 {G : GG} {U : State} {A : Array Value} (h : g_C G U) : (Cond.methodLink R_La 47 y_CB_bill).before A U = true := h.w (tb_3 (List.mem_of_getElem? (i := 48) rfl)) rfl
theorem k_La_51 {G : GG} {U : State} {A : Array Value} (h : g_C G U) : (Cond.methodLink R_La 51 y_CB_pay).before A U = true := h.w (tb_3 (List.mem_of_getElem? (i := 69) rfl)) rfl
theorem k_La_55 {G : GG} {U : State} {A : Array Value} (h : g_C G U) : (Cond.methodLink R_La 55 y_CB_dispute).before A U = true := h.w (tb_3 (List.mem_of_getElem? (i := 80) rfl)) rfl
theorem k_La_59 {G : GG} {U : State} {A : Array Value} (h : g_C G U) : (Cond.methodLink R_La 59 y_CB_remind).before A U = true := h.w (tb_3 (List.mem_of_getElem? (i := 92) rfl)) rfl
theorem k_La_63 {G : GG} {U : State} {A : Array Value} (h : g_C G U) : (Cond.methodLink R_La 63 y_CB_billAt).before A U = true := h.w (tb_3 (List.mem_of_getElem? (i := 104) rfl)) rfl
theorem k_La_66 {G : GG} {U : State} {A : Array Value} (h : g_C G U) : (Cond.methodLink R_La 66 y_CB_weight).before A U = true := h.w (tb_3 (List.mem_of_getElem? (i := 111) rfl)) rfl
theorem k_La_69 {G : GG} {U : State} {A : Array Value} (h : g_C G U) : (Cond.methodLink R_La 69 y_CB_share).before A U = true := h.w (tb_3 (List.mem_of_getElem? (i := 119) rfl)) rfl
theorem k_La_72 {G : GG} {U : State} {A : Array Value} (h : g_C G U) : (Cond.classLink R_La 72 "java/lang/ArithmeticException").before A U = true := h.w (tb_3 (List.mem_of_getElem? (i := 118) rfl)) rfl
theorem k_La_74 {G : GG} {U : State} {A : Array Value} (h : g_C G U) : (Cond.methodLink R_La 74 y_CB_grant).before A U = true := h.w (tb_3 (List.mem_of_getElem? (i := 162) rfl)) rfl
theorem k_La_77 {G : GG} {U : State} {A : Array Value} (h : g_C G U) : (Cond.methodLink R_La 77 y_CB_use).before A U = true := h.w (tb_3 (List.mem_of_getElem? (i := 173) rfl)) rfl
theorem k_La_80 {G : GG} {U : State} {A : Array Value} (h : g_C G U) : (Cond.methodLink R_La 80 y_CB_row).before A U = true := h.w (tb_3 (List.mem_of_getElem? (i := 180) rfl)) rfl
theorem k_La_83 {G : GG} {U : State} {A : Array Value} (h : g_C G U) : (Cond.methodLink R_La 83 y_CB_post).before A U = true := h.w (tb_3 (List.mem_of_getElem? (i := 192) rfl)) rfl
theorem k_La_86 {G : GG} {U : State} {A : Array Value} (h : g_C G U) : (Cond.methodLink R_La 86 y_CB_balance).before A U = true := h.w (tb_3 (List.mem_of_getElem? (i := 214) rfl)) rfl
theorem k_La_90 {G : GG} {U : State} {A : Array Value} (h : g_C G U) : (Cond.methodLink R_La 90 y_CB_close).before A U = true := h.w (tb_3 (List.mem_of_getElem? (i := 222) rfl)) rfl
theorem k_La_93 {G : GG} {U : State} {A : Array Value} (h : g_C G U) : (Cond.methodLink R_La 93 y_CB_forecast).before A U = true := h.w (tb_3 (List.mem_of_getElem? (i := 233) rfl)) rfl
theorem k_La_97 {G : GG} {U : State} {A : Array Value} (h : g_C G U) : (Cond.methodLink R_La 97 y_CB_init).before A U = true := h.w (tb_1 (List.mem_of_getElem? (i := 23) rfl)) rfl
theorem k_La_98 {G : GG} {U : State} {A : Array Value} (h : g_C G U) : (Cond.classLink R_La 98 "CostBooksModel").before A U = true := h.w (tb_3 (List.mem_of_getElem? (i := 239) rfl)) rfl
theorem k_La_100 {G : GG} {U : State} {A : Array Value} (h : g_C G U) : (Cond.methodLink R_La 100 y_Mo_init).before A U = true := h.w (tb_4 (List.mem_of_getElem? (i := 1) rfl)) rfl
theorem k_La_101 {G : GG} {U : State} {A : Array Value} (h : g_C G U) : (Cond.methodLink R_La 101 y_La_budget).before A U = true := h.w (tb_2 (List.mem_of_getElem? (i := 19) rfl)) rfl
theorem k_La_106 {G : GG} {U : State} {A : Array Value} (h : g_C G U) : (Cond.methodLink R_La 106 y_Mo_budget).before A U = true := h.w (tb_4 (List.mem_of_getElem? (i := 109) rfl)) rfl
theorem k_La_107 {G : GG} {U : State} {A : Array Value} (h : g_C G U) : (Cond.methodLink R_La 107 y_Mo_thrown).before A U = true := h.w (tb_4 (List.mem_of_getElem? (i := 105) rfl)) rfl
theorem k_La_110 {G : GG} {U : State} {A : Array Value} (h : g_C G U) : (Cond.methodLink R_La 110 y_La_budgetAt).before A U = true := h.w (tb_2 (List.mem_of_getElem? (i := 152) rfl)) rfl
theorem k_La_113 {G : GG} {U : State} {A : Array Value} (h : g_C G U) : (Cond.methodLink R_La 113 y_Mo_budgetAt).before A U = true := h.w (tb_4 (List.mem_of_getElem? (i := 127) rfl)) rfl
theorem k_La_114 {G : GG} {U : State} {A : Array Value} (h : g_C G U) : (Cond.methodLink R_La 114 y_La_band).before A U = true := h.w (tb_2 (List.mem_of_getElem? (i := 164) rfl)) rfl
theorem k_La_117 {G : GG} {U : State} {A : Array Value} (h : g_C G U) : (Cond.methodLink R_La 117 y_Mo_band).before A U = true := h.w (tb_4 (List.mem_of_getElem? (i := 135) rfl)) rfl
theorem k_La_118 {G : GG} {U : State} {A : Array Value} (h : g_C G U) : (Cond.methodLink R_La 118 y_La_order).before A U = true := h.w (tb_2 (List.mem_of_getElem? (i := 171) rfl)) rfl
theorem k_La_120 {G : GG} {U : State} {A : Array Value} (h : g_C G U) : (Cond.methodLink R_La 120 y_Mo_order).before A U = true := h.w (tb_4 (List.mem_of_getElem? (i := 139) rfl)) rfl
theorem k_La_121 {G : GG} {U : State} {A : Array Value} (h : g_C G U) : (Cond.methodLink R_La 121 y_La_invoice).before A U = true := h.w (tb_2 (List.mem_of_getElem? (i := 202) rfl)) rfl
theorem k_La_124 {G : GG} {U : State} {A : Array Value} (h : g_C G U) : (Cond.methodLink R_La 124 y_Mo_invoice).before A U = true := h.w (tb_4 (List.mem_of_getElem? (i := 143) rfl)) rfl
theorem k_La_125 {G : GG} {U : State} {A : Array Value} (h : g_C G U) : (Cond.methodLink R_La 125 y_La_cancel).before A U = true := h.w (tb_2 (List.mem_of_getElem? (i := 221) rfl)) rfl
theorem k_La_127 {G : GG} {U : State} {A : Array Value} (h : g_C G U) : (Cond.methodLink R_La 127 y_Mo_cancel).before A U = true := h.w (tb_4 (List.mem_of_getElem? (i := 148) rfl)) rfl
theorem k_La_128 {G : GG} {U : State} {A : Array Value} (h : g_C G U) : (Cond.constantLong R_La 128 (4294967295 : Int64)).before A U = true := h.w (tb_5 (List.mem_of_getElem? (i := 12) rfl)) rfl
theorem k_La_130 {G : GG} {U : State} {A : Array Value} (h : g_C G U) : (Cond.methodLink R_La 130 y_La_sign).before A U = true := h.w (tb_2 (List.mem_of_getElem? (i := 228) rfl)) rfl
theorem k_La_133 {G : GG} {U : State} {A : Array Value} (h : g_C G U) : (Cond.methodLink R_La 133 y_Mo_sign).before A U = true := h.w (tb_4 (List.mem_of_getElem? (i := 152) rfl)) rfl
theorem k_La_134 {G : GG} {U : State} {A : Array Value} (h : g_C G U) : (Cond.methodLink R_La 134 y_La_tariff).before A U = true := h.w (tb_2 (List.mem_of_getElem? (i := 239) rfl)) rfl
theorem k_La_137 {G : GG} {U : State} {A : Array Value} (h : g_C G U) : (Cond.methodLink R_La 137 y_Mo_tariff).before A U = true := h.w (tb_4 (List.mem_of_getElem? (i := 156) rfl)) rfl
theorem k_La_138 {G : GG} {U : State} {A : Array Value} (h : g_C G U) : (Cond.methodLink R_La 138 y_CB_place).before A U = true := h.w (tb_2 (List.mem_of_getElem? (i := 15) rfl)) rfl
theorem k_La_141 {G : GG} {U : State} {A : Array Value} (h : g_C G U) : (Cond.methodLink R_La 141 y_Mo_place).before A U = true := h.w (tb_4 (List.mem_of_getElem? (i := 184) rfl)) rfl
theorem k_La_142 {G : GG} {U : State} {A : Array Value} (h : g_C G U) : (Cond.methodLink R_La 142 y_La_bill).before A U = true := h.w (tb_3 (List.mem_of_getElem? (i := 45) rfl)) rfl
theorem k_La_145 {G : GG} {U : State} {A : Array Value} (h : g_C G U) : (Cond.methodLink R_La 145 y_Mo_bill).before A U = true := h.w (tb_4 (List.mem_of_getElem? (i := 188) rfl)) rfl
theorem k_La_146 {G : GG} {U : State} {A : Array Value} (h : g_C G U) : (Cond.methodLink R_La 146 y_La_pay).before A U = true := h.w (tb_3 (List.mem_of_getElem? (i := 66) rfl)) rfl
theorem k_La_149 {G : GG} {U : State} {A : Array Value} (h : g_C G U) : (Cond.methodLink R_La 149 y_Mo_pay).before A U = true := h.w (tb_4 (List.mem_of_getElem? (i := 194) rfl)) rfl
theorem k_La_150 {G : GG} {U : State} {A : Array Value} (h : g_C G U) : (Cond.methodLink R_La 150 y_La_dispute).before A U = true := h.w (tb_3 (List.mem_of_getElem? (i := 77) rfl)) rfl
theorem k_La_153 {G : GG} {U : State} {A : Array Value} (h : g_C G U) : (Cond.methodLink R_La 153 y_Mo_dispute).before A U = true := h.w (tb_4 (List.mem_of_getElem? (i := 202) rfl)) rfl
theorem k_La_154 {G : GG} {U : State} {A : Array Value} (h : g_C G U) : (Cond.methodLink R_La 154 y_La_remind).before A U = true := h.w (tb_3 (List.mem_of_getElem? (i := 89) rfl)) rfl
theorem k_La_157 {G : GG} {U : State} {A : Array Value} (h : g_C G U) : (Cond.methodLink R_La 157 y_Mo_remind).before A U = true := h.w (tb_4 (List.mem_of_getElem? (i := 206) rfl)) rfl
theorem k_La_158 {G : GG} {U : State} {A : Array Value} (h : g_C G U) : (Cond.methodLink R_La 158 y_La_billAt).before A U = true := h.w (tb_3 (List.mem_of_getElem? (i := 101) rfl)) rfl
theorem k_La_160 {G : GG} {U : State} {A : Array Value} (h : g_C G U) : (Cond.methodLink R_La 160 y_Mo_billAt).before A U = true := h.w (tb_4 (List.mem_of_getElem? (i := 210) rfl)) rfl
theorem k_La_161 {G : GG} {U : State} {A : Array Value} (h : g_C G U) : (Cond.methodLink R_La 161 y_La_weight).before A U = true := h.w (tb_3 (List.mem_of_getElem? (i := 108) rfl)) rfl
theorem k_La_163 {G : GG} {U : State} {A : Array Value} (h : g_C G U) : (Cond.methodLink R_La 163 y_Mo_weight).before A U = true := h.w (tb_4 (List.mem_of_getElem? (i := 214) rfl)) rfl
theorem k_La_164 {G : GG} {U : State} {A : Array Value} (h : g_C G U) : (Cond.methodLink R_La 164 y_La_share).before A U = true := h.w (tb_3 (List.mem_of_getElem? (i := 115) rfl)) rfl
theorem k_La_166 {G : GG} {U : State} {A : Array Value} (h : g_C G U) : (Cond.methodLink R_La 166 y_Mo_share).before A U = true := h.w (tb_4 (List.mem_of_getElem? (i := 218) rfl)) rfl
theorem k_La_167 {G : GG} {U : State} {A : Array Value} (h : g_C G U) : (Cond.methodLink R_La 167 y_La_grant).before A U = true := h.w (tb_3 (List.mem_of_getElem? (i := 159) rfl)) rfl
theorem k_La_169 {G : GG} {U : State} {A : Array Value} (h : g_C G U) : (Cond.methodLink R_La 169 y_Mo_grant).before A U = true := h.w (tb_4 (List.mem_of_getElem? (i := 222) rfl)) rfl
theorem k_La_170 {G : GG} {U : State} {A : Array Value} (h : g_C G U) : (Cond.methodLink R_La 170 y_La_use).before A U = true := h.w (tb_3 (List.mem_of_getElem? (i := 170) rfl)) rfl
theorem k_La_172 {G : GG} {U : State} {A : Array Value} (h : g_C G U) : (Cond.methodLink R_La 172 y_Mo_use).before A U = true := h.w (tb_4 (List.mem_of_getElem? (i := 226) rfl)) rfl
theorem k_La_173 {G : GG} {U : State} {A : Array Value} (h : g_C G U) : (Cond.methodLink R_La 173 y_La_row).before A U = true := h.w (tb_3 (List.mem_of_getElem? (i := 177) rfl)) rfl
theorem k_La_175 {G : GG} {U : State} {A : Array Value} (h : g_C G U) : (Cond.methodLink R_La 175 y_Mo_row).before A U = true := h.w (tb_4 (List.mem_of_getElem? (i := 230) rfl)) rfl
theorem k_La_176 {G : GG} {U : State} {A : Array Value} (h : g_C G U) : (Cond.methodLink R_La 176 y_La_post).before A U = true := h.w (tb_3 (List.mem_of_getElem? (i := 189) rfl)) rfl
theorem k_La_178 {G : GG} {U : State} {A : Array Value} (h : g_C G U) : (Cond.methodLink R_La 178 y_Mo_post).before A U = true := h.w (tb_4 (List.mem_of_getElem? (i := 235) rfl)) rfl
theorem k_La_179 {G : GG} {U : State} {A : Array Value} (h : g_C G U) : (Cond.methodLink R_La 179 y_La_balance).before A U = true := h.w (tb_3 (List.mem_of_getElem? (i := 211) rfl)) rfl
theorem k_La_181 {G : GG} {U : State} {A : Array Value} (h : g_C G U) : (Cond.methodLink R_La 181 y_Mo_balance).before A U = true := h.w (tb_4 (List.mem_of_getElem? (i := 239) rfl)) rfl
theorem k_La_182 {G : GG} {U : State} {A : Array Value} (h : g_C G U) : (Cond.methodLink R_La 182 y_La_close).before A U = true := h.w (tb_3 (List.mem_of_getElem? (i := 219) rfl)) rfl
theorem k_La_184 {G : GG} {U : State} {A : Array Value} (h : g_C G U) : (Cond.methodLink R_La 184 y_Mo_close).before A U = true := h.w (tb_5 (List.mem_of_getElem? (i := 3) rfl)) rfl
theorem k_La_185 {G : GG} {U : State} {A : Array Value} (h : g_C G U) : (Cond.methodLink R_La 185 y_La_forecast).before A U = true := h.w (tb_3 (List.mem_of_getElem? (i := 230) rfl)) rfl
theorem k_La_187 {G : GG} {U : State} {A : Array Value} (h : g_C G U) : (Cond.methodLink R_La 187 y_Mo_forecast).before A U = true := h.w (tb_5 (List.mem_of_getElem? (i := 7) rfl)) rfl
theorem k_Mo_1 {G : GG} {U : State} {A : Array Value} (h : g_C G U) : (Cond.methodLink R_Mo 1 objectInit).before A U = true := h.w (tb_4 (List.mem_of_getElem? (i := 4) rfl)) rfl
theorem k_Mo_7 {G : GG} {U : State} {A : Array Value} (h : g_C G U) : (Cond.fieldLink R_Mo 7 "CostBooksModel" "total" "[I").before A U = true := h.w (tb_4 (List.mem_of_getElem? (i := 6) rfl)) rfl
theorem k_Mo_13 {G : GG} {U : State} {A : Array Value} (h : g_C G U) : (Cond.fieldLink R_Mo 13 "CostBooksModel" "held" "[I").before A U = true := h.w (tb_4 (List.mem_of_getElem? (i := 7) rfl)) rfl
theorem k_Mo_16 {G : GG} {U : State} {A : Array Value} (h : g_C G U) : (Cond.fieldLink R_Mo 16 "CostBooksModel" "spent" "[I").before A U = true := h.w (tb_4 (List.mem_of_getElem? (i := 8) rfl)) rfl
theorem k_Mo_19 {G : GG} {U : State} {A : Array Value} (h : g_C G U) : (Cond.fieldLink R_Mo 19 "CostBooksModel" "closed" "[Z").before A U = true := h.w (tb_4 (List.mem_of_getElem? (i := 9) rfl)) rfl
theorem k_Mo_23 {G : GG} {U : State} {A : Array Value} (h : g_C G U) : (Cond.fieldLink R_Mo 23 "CostBooksModel" "band" "I").before A U = true := h.w (tb_4 (List.mem_of_getElem? (i := 10) rfl)) rfl
theorem k_Mo_27 {G : GG} {U : State} {A : Array Value} (h : g_C G U) : (Cond.fieldLink R_Mo 27 "CostBooksModel" "orderAt" "[I").before A U = true := h.w (tb_4 (List.mem_of_getElem? (i := 12) rfl)) rfl
theorem k_Mo_30 {G : GG} {U : State} {A : Array Value} (h : g_C G U) : (Cond.fieldLink R_Mo 30 "CostBooksModel" "orderCents" "[I").before A U = true := h.w (tb_4 (List.mem_of_getElem? (i := 13) rfl)) rfl
theorem k_Mo_33 {G : GG} {U : State} {A : Array Value} (h : g_C G U) : (Cond.fieldLink R_Mo 33 "CostBooksModel" "orderState" "[I").before A U = true := h.w (tb_4 (List.mem_of_getElem? (i := 14) rfl)) rfl
theorem k_Mo_36 {G : GG} {U : State} {A : Array Value} (h : g_C G U) : (Cond.fieldLink R_Mo 36 "CostBooksModel" "tape" "[I").before A U = true := h.w (tb_4 (List.mem_of_getElem? (i := 15) rfl)) rfl
theorem k_Mo_39 {G : GG} {U : State} {A : Array Value} (h : g_C G U) : (Cond.fieldLink R_Mo 39 "CostBooksModel" "place" "I").before A U = true := h.w (tb_4 (List.mem_of_getElem? (i := 20) rfl)) rfl
theorem k_Mo_42 {G : GG} {U : State} {A : Array Value} (h : g_C G U) : (Cond.fieldLink R_Mo 42 "CostBooksModel" "told" "[Z").before A U = true := h.w (tb_4 (List.mem_of_getElem? (i := 21) rfl)) rfl
theorem k_Mo_45 {G : GG} {U : State} {A : Array Value} (h : g_C G U) : (Cond.fieldLink R_Mo 45 "CostBooksModel" "base" "[I").before A U = true := h.w (tb_4 (List.mem_of_getElem? (i := 22) rfl)) rfl
theorem k_Mo_48 {G : GG} {U : State} {A : Array Value} (h : g_C G U) : (Cond.fieldLink R_Mo 48 "CostBooksModel" "hour" "[I").before A U = true := h.w (tb_4 (List.mem_of_getElem? (i := 23) rfl)) rfl
theorem k_Mo_51 {G : GG} {U : State} {A : Array Value} (h : g_C G U) : (Cond.fieldLink R_Mo 51 "CostBooksModel" "billCents" "[I").before A U = true := h.w (tb_4 (List.mem_of_getElem? (i := 25) rfl)) rfl
theorem k_Mo_54 {G : GG} {U : State} {A : Array Value} (h : g_C G U) : (Cond.fieldLink R_Mo 54 "CostBooksModel" "paid" "[I").before A U = true := h.w (tb_4 (List.mem_of_getElem? (i := 26) rfl)) rfl
theorem k_Mo_57 {G : GG} {U : State} {A : Array Value} (h : g_C G U) : (Cond.fieldLink R_Mo 57 "CostBooksModel" "due" "[I").before A U = true := h.w (tb_4 (List.mem_of_getElem? (i := 27) rfl)) rfl
theorem k_Mo_60 {G : GG} {U : State} {A : Array Value} (h : g_C G U) : (Cond.fieldLink R_Mo 60 "CostBooksModel" "reminded" "[I").before A U = true := h.w (tb_4 (List.mem_of_getElem? (i := 28) rfl)) rfl
theorem k_Mo_63 {G : GG} {U : State} {A : Array Value} (h : g_C G U) : (Cond.fieldLink R_Mo 63 "CostBooksModel" "disputed" "[Z").before A U = true := h.w (tb_4 (List.mem_of_getElem? (i := 29) rfl)) rfl
theorem k_Mo_66 {G : GG} {U : State} {A : Array Value} (h : g_C G U) : (Cond.fieldLink R_Mo 66 "CostBooksModel" "weights" "[I").before A U = true := h.w (tb_4 (List.mem_of_getElem? (i := 30) rfl)) rfl
theorem k_Mo_69 {G : GG} {U : State} {A : Array Value} (h : g_C G U) : (Cond.fieldLink R_Mo 69 "CostBooksModel" "purpose" "[I").before A U = true := h.w (tb_4 (List.mem_of_getElem? (i := 32) rfl)) rfl
theorem k_Mo_72 {G : GG} {U : State} {A : Array Value} (h : g_C G U) : (Cond.fieldLink R_Mo 72 "CostBooksModel" "left" "[I").before A U = true := h.w (tb_4 (List.mem_of_getElem? (i := 33) rfl)) rfl
theorem k_Mo_75 {G : GG} {U : State} {A : Array Value} (h : g_C G U) : (Cond.fieldLink R_Mo 75 "CostBooksModel" "rowAccount" "[I").before A U = true := h.w (tb_4 (List.mem_of_getElem? (i := 35) rfl)) rfl
theorem k_Mo_78 {G : GG} {U : State} {A : Array Value} (h : g_C G U) : (Cond.fieldLink R_Mo 78 "CostBooksModel" "rowCents" "[I").before A U = true := h.w (tb_4 (List.mem_of_getElem? (i := 36) rfl)) rfl
theorem k_Mo_81 {G : GG} {U : State} {A : Array Value} (h : g_C G U) : (Cond.fieldLink R_Mo 81 "CostBooksModel" "balances" "[J").before A U = true := h.w (tb_4 (List.mem_of_getElem? (i := 37) rfl)) rfl
theorem k_Mo_85 {G : GG} {U : State} {A : Array Value} (h : g_C G U) : (Cond.fieldLink R_Mo 85 "CostBooksModel" "thrown" "I").before A U = true := h.w (tb_4 (List.mem_of_getElem? (i := 5) rfl)) rfl
theorem k_Mo_88 {G : GG} {U : State} {A : Array Value} (h : g_C G U) : (Cond.constant R_Mo 88 (100000000 : Int32)).before A U = true := h.w (tb_4 (List.mem_of_getElem? (i := 122) rfl)) rfl
theorem k_Mo_89 {G : GG} {U : State} {A : Array Value} (h : g_C G U) : (Cond.methodLink R_Mo 89 y_Mo_in).before A U = true := h.w (tb_4 (List.mem_of_getElem? (i := 116) rfl)) rfl
theorem k_Mo_93 {G : GG} {U : State} {A : Array Value} (h : g_C G U) : (Cond.methodLink R_Mo 93 y_Mo_isBudget).before A U = true := h.w (tb_4 (List.mem_of_getElem? (i := 113) rfl)) rfl
theorem k_Mo_97 {G : GG} {U : State} {A : Array Value} (h : g_C G U) : (Cond.methodLink R_Mo 97 y_Mo_isCents).before A U = true := h.w (tb_4 (List.mem_of_getElem? (i := 119) rfl)) rfl
theorem k_Mo_101 {G : GG} {U : State} {A : Array Value} (h : g_C G U) : (Cond.methodLink R_Mo 101 y_Mo_throwing).before A U = true := h.w (tb_4 (List.mem_of_getElem? (i := 123) rfl)) rfl
theorem k_Mo_105 {G : GG} {U : State} {A : Array Value} (h : g_C G U) : (Cond.methodLink R_Mo 105 y_Mo_freeOf).before A U = true := h.w (tb_4 (List.mem_of_getElem? (i := 131) rfl)) rfl
theorem k_Mo_109 {G : GG} {U : State} {A : Array Value} (h : g_C G U) : (Cond.fieldLink R_Mo 109 "CostBooksModel" "orders" "I").before A U = true := h.w (tb_4 (List.mem_of_getElem? (i := 11) rfl)) rfl
theorem k_Mo_112 {G : GG} {U : State} {A : Array Value} (h : g_C G U) : (Cond.constantLong R_Mo 112 (1000 : Int64)).before A U = true := h.w (tb_4 (List.mem_of_getElem? (i := 147) rfl)) rfl
theorem k_Mo_114 {G : GG} {U : State} {A : Array Value} (h : g_C G U) : (Cond.fieldLink R_Mo 114 "CostBooksModel" "taped" "I").before A U = true := h.w (tb_4 (List.mem_of_getElem? (i := 16) rfl)) rfl
theorem k_Mo_117 {G : GG} {U : State} {A : Array Value} (h : g_C G U) : (Cond.fieldLink R_Mo 117 "CostBooksModel" "wrong" "Z").before A U = true := h.w (tb_4 (List.mem_of_getElem? (i := 19) rfl)) rfl
theorem k_Mo_121 {G : GG} {U : State} {A : Array Value} (h : g_C G U) : (Cond.fieldLink R_Mo 121 "CostBooksModel" "at" "I").before A U = true := h.w (tb_4 (List.mem_of_getElem? (i := 18) rfl)) rfl
theorem k_Mo_124 {G : GG} {U : State} {A : Array Value} (h : g_C G U) : (Cond.fieldLink R_Mo 124 "CostBooksModel" "length" "I").before A U = true := h.w (tb_4 (List.mem_of_getElem? (i := 17) rfl)) rfl
theorem k_Mo_127 {G : GG} {U : State} {A : Array Value} (h : g_C G U) : (Cond.methodLink R_Mo 127 y_Mo_see).before A U = true := h.w (tb_4 (List.mem_of_getElem? (i := 164) rfl)) rfl
theorem k_Mo_131 {G : GG} {U : State} {A : Array Value} (h : g_C G U) : (Cond.methodLink R_Mo 131 y_Mo_fail).before A U = true := h.w (tb_4 (List.mem_of_getElem? (i := 172) rfl)) rfl
theorem k_Mo_135 {G : GG} {U : State} {A : Array Value} (h : g_C G U) : (Cond.methodLink R_Mo 135 y_Mo_isDigit).before A U = true := h.w (tb_4 (List.mem_of_getElem? (i := 168) rfl)) rfl
theorem k_Mo_139 {G : GG} {U : State} {A : Array Value} (h : g_C G U) : (Cond.methodLink R_Mo 139 y_Mo_expect).before A U = true := h.w (tb_4 (List.mem_of_getElem? (i := 176) rfl)) rfl
theorem k_Mo_142 {G : GG} {U : State} {A : Array Value} (h : g_C G U) : (Cond.methodLink R_Mo 142 y_Mo_number).before A U = true := h.w (tb_4 (List.mem_of_getElem? (i := 180) rfl)) rfl
theorem k_Mo_145 {G : GG} {U : State} {A : Array Value} (h : g_C G U) : (Cond.methodLink R_Mo 145 y_Mo_readRow).before A U = true := h.w (tb_4 (List.mem_of_getElem? (i := 160) rfl)) rfl
theorem k_Mo_148 {G : GG} {U : State} {A : Array Value} (h : g_C G U) : (Cond.constant R_Mo 148 (100000 : Int32)).before A U = true := h.w (tb_4 (List.mem_of_getElem? (i := 192) rfl)) rfl
theorem k_Mo_149 {G : GG} {U : State} {A : Array Value} (h : g_C G U) : (Cond.fieldLink R_Mo 149 "CostBooksModel" "bills" "I").before A U = true := h.w (tb_4 (List.mem_of_getElem? (i := 24) rfl)) rfl
theorem k_Mo_152 {G : GG} {U : State} {A : Array Value} (h : g_C G U) : (Cond.constantLong R_Mo 152 (1000000000 : Int64)).before A U = true := h.w (tb_4 (List.mem_of_getElem? (i := 193) rfl)) rfl
theorem k_Mo_154 {G : GG} {U : State} {A : Array Value} (h : g_C G U) : (Cond.methodLink R_Mo 154 y_Mo_isBill).before A U = true := h.w (tb_4 (List.mem_of_getElem? (i := 198) rfl)) rfl
theorem k_Mo_157 {G : GG} {U : State} {A : Array Value} (h : g_C G U) : (Cond.fieldLink R_Mo 157 "CostBooksModel" "grants" "I").before A U = true := h.w (tb_4 (List.mem_of_getElem? (i := 31) rfl)) rfl
theorem k_Mo_160 {G : GG} {U : State} {A : Array Value} (h : g_C G U) : (Cond.constant R_Mo 160 (-100000000 : Int32)).before A U = true := h.w (tb_4 (List.mem_of_getElem? (i := 234) rfl)) rfl
theorem k_Mo_161 {G : GG} {U : State} {A : Array Value} (h : g_C G U) : (Cond.fieldLink R_Mo 161 "CostBooksModel" "rows" "I").before A U = true := h.w (tb_4 (List.mem_of_getElem? (i := 34) rfl)) rfl
theorem k_Mo_164 {G : GG} {U : State} {A : Array Value} (h : g_C G U) : (Cond.constantLong R_Mo 164 (365 : Int64)).before A U = true := h.w (tb_5 (List.mem_of_getElem? (i := 11) rfl)) rfl
def g_isCode : Cond → Bool
  | .code .. => true
  | .codeSync .. => true
  | _ => false
theorem g_own2 {G : GG} {U : State} {A : Array Value} (h : g_C G U) (L : List Cond) (ps : List Nat) (hp : L.filter g_isCode = ps.filterMap (fun i => tables_1[i]?)) (hg : (L.filter g_isCode).all g_ok = true) (ho : (L.filter (fun w => !g_isCode w)).all (fun w => g_heapw w || (decide (w ∈ lw_tbl) && g_ok w)) = true) : ∀ w ∈ L, w.before A U = true := by
  refine g_own h L (fun w hw => ?_)
  by_cases hc : g_isCode w = true
  · have h1 : w ∈ L.filter g_isCode := List.mem_filter.mpr ⟨hw, hc⟩
    have h2 := List.all_eq_true.mp hg w h1
    rw [hp] at h1
    obtain ⟨i, -, hi⟩ := List.mem_filterMap.mp h1
    exact Or.inr ⟨List.mem_append_right _ (List.mem_of_getElem? hi), h2⟩
  · have h1 : w ∈ L.filter (fun w => !g_isCode w) := List.mem_filter.mpr ⟨hw, by simp [hc]⟩
    have h2 := List.all_eq_true.mp ho w h1
    simp only [Bool.or_eq_true, Bool.and_eq_true, decide_eq_true_eq] at h2
    exact h2
set_option maxRecDepth 20000 in
theorem oa_CB_211 {G : GG} {U : State} {A : Array Value} (h : g_C G U) : ∀ w ∈ Bundle.ownAtoms R_CB 211 eAR ["java/lang/RuntimeException", "java/lang/Exception"], w.before A U = true := g_own2 h _ [309, 296, 28, 327, 619, 321, 324] rfl (by decide +kernel) (by decide +kernel)
set_option maxRecDepth 20000 in
theorem oa_CB_258 {G : GG} {U : State} {A : Array Value} (h : g_C G U) : ∀ w ∈ Bundle.ownAtoms R_CB 258 eIA ["java/lang/RuntimeException", "java/lang/Exception"], w.before A U = true := g_own2 h _ [309, 296, 28, 327, 318, 321, 324] rfl (by decide +kernel) (by decide +kernel)
set_option maxRecDepth 20000 in
theorem oa_CB_263 {G : GG} {U : State} {A : Array Value} (h : g_C G U) : ∀ w ∈ Bundle.ownAtoms R_CB 263 eIO ["java/lang/RuntimeException", "java/lang/Exception"], w.before A U = true := g_own2 h _ [309, 296, 28, 327, 358, 321, 324] rfl (by decide +kernel) (by decide +kernel)
set_option maxRecDepth 20000 in
theorem oa_CB_268 {G : GG} {U : State} {A : Array Value} (h : g_C G U) : ∀ w ∈ Bundle.ownAtoms R_CB 268 eIS ["java/lang/RuntimeException", "java/lang/Exception"], w.before A U = true := g_own2 h _ [309, 296, 28, 327, 388, 321, 324] rfl (by decide +kernel) (by decide +kernel)
set_option maxRecDepth 20000 in
theorem oa_CB_273 {G : GG} {U : State} {A : Array Value} (h : g_C G U) : ∀ w ∈ Bundle.ownAtoms R_CB 273 eUO ["java/lang/RuntimeException", "java/lang/Exception"], w.before A U = true := g_own2 h _ [309, 296, 28, 327, 434, 321, 324] rfl (by decide +kernel) (by decide +kernel)
