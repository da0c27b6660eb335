theorem i_CB : ∀ w ∈ u_ws R_CB F_CB 12, w ∈ lw_tbl ∧ g_ok w = true := by decide +kernel
theorem u_CB {G : GG} {U : State} {A : Array Value} (h : g_C G U) : ∀ w ∈ u_ws R_CB F_CB 12, w.before A U = true := fun w hw => h.w (i_CB w hw).1 (i_CB w hw).2
theorem kI_CB {G : GG} {U : State} {A : Array Value} (h : g_C G U) : (Cond.instantiable R_CB 12).before A U = true := h.w (tb_1 (List.mem_of_getElem? (i := 22) rfl)) rfl
theorem i_Bu : ∀ w ∈ u_ws R_Bu F_Bu 3, w ∈ lw_tbl ∧ g_ok w = true := by decide +kernel
theorem u_Bu {G : GG} {U : State} {A : Array Value} (h : g_C G U) : ∀ w ∈ u_ws R_Bu F_Bu 3, w.before A U = true := fun w hw => h.w (i_Bu w hw).1 (i_Bu w hw).2
theorem kI_Bu {G : GG} {U : State} {A : Array Value} (h : g_C G U) : (Cond.instantiable R_Bu 3).before A U = true := h.w (tb_1 (List.mem_of_getElem? (i := 30) rfl)) rfl
theorem i_Or : ∀ w ∈ u_ws R_Or F_Or 4, w ∈ lw_tbl ∧ g_ok w = true := by decide +kernel
theorem u_Or {G : GG} {U : State} {A : Array Value} (h : g_C G U) : ∀ w ∈ u_ws R_Or F_Or 4, w.before A U = true := fun w hw => h.w (i_Or w hw).1 (i_Or w hw).2
theorem kI_Or {G : GG} {U : State} {A : Array Value} (h : g_C G U) : (Cond.instantiable R_Or 4).before A U = true := h.w (tb_1 (List.mem_of_getElem? (i := 50) rfl)) rfl
theorem i_Ta : ∀ w ∈ u_ws R_Ta F_Ta 2, w ∈ lw_tbl ∧ g_ok w = true := by decide +kernel
theorem u_Ta {G : GG} {U : State} {A : Array Value} (h : g_C G U) : ∀ w ∈ u_ws R_Ta F_Ta 2, w.before A U = true := fun w hw => h.w (i_Ta w hw).1 (i_Ta w hw).2
theorem kI_Ta {G : GG} {U : State} {A : Array Value} (h : g_C G U) : (Cond.instantiable R_Ta 2).before A U = true := h.w (tb_1 (List.mem_of_getElem? (i := 74) rfl)) rfl
theorem i_Re : ∀ w ∈ u_ws R_Re F_Re 8, w ∈ lw_tbl ∧ g_ok w = true := by decide +kernel
theorem u_Re {G : GG} {U : State} {A : Array Value} (h : g_C G U) : ∀ w ∈ u_ws R_Re F_Re 8, w.before A U = true := fun w hw => h.w (i_Re w hw).1 (i_Re w hw).2
theorem kI_Re {G : GG} {U : State} {A : Array Value} (h : g_C G U) : (Cond.instantiable R_Re 8).before A U = true := h.w (tb_1 (List.mem_of_getElem? (i := 90) rfl)) rfl
theorem i_Tf : ∀ w ∈ u_ws R_Tf F_Tf 2, w ∈ lw_tbl ∧ g_ok w = true := by decide +kernel
theorem u_Tf {G : GG} {U : State} {A : Array Value} (h : g_C G U) : ∀ w ∈ u_ws R_Tf F_Tf 2, w.before A U = true := fun w hw => h.w (i_Tf w hw).1 (i_Tf w hw).2
theorem kI_Tf {G : GG} {U : State} {A : Array Value} (h : g_C G U) : (Cond.instantiable R_Tf 2).before A U = true := h.w (tb_1 (List.mem_of_getElem? (i := 124) rfl)) rfl
theorem i_Bi : ∀ w ∈ u_ws R_Bi F_Bi 6, w ∈ lw_tbl ∧ g_ok w = true := by decide +kernel
theorem u_Bi {G : GG} {U : State} {A : Array Value} (h : g_C G U) : ∀ w ∈ u_ws R_Bi F_Bi 6, w.before A U = true := fun w hw => h.w (i_Bi w hw).1 (i_Bi w hw).2
theorem kI_Bi {G : GG} {U : State} {A : Array Value} (h : g_C G U) : (Cond.instantiable R_Bi 6).before A U = true := h.w (tb_1 (List.mem_of_getElem? (i := 137) rfl)) rfl
theorem i_Ho : ∀ w ∈ u_ws R_Ho F_Ho 1, w ∈ lw_tbl ∧ g_ok w = true := by decide +kernel
theorem u_Ho {G : GG} {U : State} {A : Array Value} (h : g_C G U) : ∀ w ∈ u_ws R_Ho F_Ho 1, w.before A U = true := fun w hw => h.w (i_Ho w hw).1 (i_Ho w hw).2
theorem kI_Ho {G : GG} {U : State} {A : Array Value} (h : g_C G U) : (Cond.instantiable R_Ho 1).before A U = true := h.w (tb_1 (List.mem_of_getElem? (i := 167) rfl)) rfl
theorem i_Gr : ∀ w ∈ u_ws R_Gr F_Gr 3, w ∈ lw_tbl ∧ g_ok w = true := by decide +kernel
theorem u_Gr {G : GG} {U : State} {A : Array Value} (h : g_C G U) : ∀ w ∈ u_ws R_Gr F_Gr 3, w.before A U = true := fun w hw => h.w (i_Gr w hw).1 (i_Gr w hw).2
theorem kI_Gr {G : GG} {U : State} {A : Array Value} (h : g_C G U) : (Cond.instantiable R_Gr 3).before A U = true := h.w (tb_1 (List.mem_of_getElem? (i := 178) rfl)) rfl
theorem i_Le : ∀ w ∈ u_ws R_Le F_Le 4, w ∈ lw_tbl ∧ g_ok w = true := by decide +kernel
theorem u_Le {G : GG} {U : State} {A : Array Value} (h : g_C G U) : ∀ w ∈ u_ws R_Le F_Le 4, w.before A U = true := fun w hw => h.w (i_Le w hw).1 (i_Le w hw).2
theorem kI_Le {G : GG} {U : State} {A : Array Value} (h : g_C G U) : (Cond.instantiable R_Le 4).before A U = true := h.w (tb_1 (List.mem_of_getElem? (i := 197) rfl)) rfl
theorem i_Mo : ∀ w ∈ u_ws R_Mo F_Mo 33, w ∈ lw_tbl ∧ g_ok w = true := by decide +kernel
theorem u_Mo {G : GG} {U : State} {A : Array Value} (h : g_C G U) : ∀ w ∈ u_ws R_Mo F_Mo 33, w.before A U = true := fun w hw => h.w (i_Mo w hw).1 (i_Mo w hw).2
theorem kI_Mo {G : GG} {U : State} {A : Array Value} (h : g_C G U) : (Cond.instantiable R_Mo 33).before A U = true := h.w (tb_4 (List.mem_of_getElem? (i := 0) rfl)) rfl
theorem kn_CB {G : GG} {U : State} {A : Array Value} (h : g_C G U) : (Cond.initialized R_CB).before A U = true := h.w (tb_1 (List.mem_of_getElem? (i := 1) rfl)) rfl
theorem kn_Bu {G : GG} {U : State} {A : Array Value} (h : g_C G U) : (Cond.initialized R_Bu).before A U = true := h.w (tb_1 (List.mem_of_getElem? (i := 2) rfl)) rfl
theorem kn_Or {G : GG} {U : State} {A : Array Value} (h : g_C G U) : (Cond.initialized R_Or).before A U = true := h.w (tb_1 (List.mem_of_getElem? (i := 3) rfl)) rfl
theorem kn_Ta {G : GG} {U : State} {A : Array Value} (h : g_C G U) : (Cond.initialized R_Ta).before A U = true := h.w (tb_1 (List.mem_of_getElem? (i := 4) rfl)) rfl
theorem kn_Re {G : GG} {U : State} {A : Array Value} (h : g_C G U) : (Cond.initialized R_Re).before A U = true := h.w (tb_1 (List.mem_of_getElem? (i := 5) rfl)) rfl
theorem kn_Tf {G : GG} {U : State} {A : Array Value} (h : g_C G U) : (Cond.initialized R_Tf).before A U = true := h.w (tb_1 (List.mem_of_getElem? (i := 6) rfl)) rfl
theorem kn_Bi {G : GG} {U : State} {A : Array Value} (h : g_C G U) : (Cond.initialized R_Bi).before A U = true := h.w (tb_1 (List.mem_of_getElem? (i := 7) rfl)) rfl
theorem kn_Ho {G : GG} {U : State} {A : Array Value} (h : g_C G U) : (Cond.initialized R_Ho).before A U = true := h.w (tb_1 (List.mem_of_getElem? (i := 8) rfl)) rfl
theorem kn_Gr {G : GG} {U : State} {A : Array Value} (h : g_C G U) : (Cond.initialized R_Gr).before A U = true := h.w (tb_1 (List.mem_of_getElem? (i := 9) rfl)) rfl
theorem kn_Le {G : GG} {U : State} {A : Array Value} (h : g_C G U) : (Cond.initialized R_Le).before A U = true := h.w (tb_1 (List.mem_of_getElem? (i := 10) rfl)) rfl
theorem kn_Mo {G : GG} {U : State} {A : Array Value} (h : g_C G U) : (Cond.initialized R_Mo).before A U = true := h.w (tb_1 (List.mem_of_getElem? (i := 11) rfl)) rfl
theorem kn_La {G : GG} {U : State} {A : Array Value} (h : g_C G U) : (Cond.initialized R_La).before A U = true := h.w (tb_1 (List.mem_of_getElem? (i := 0) rfl)) rfl
theorem kn_eIA {G : GG} {U : State} {A : Array Value} (h : g_C G U) : (Cond.initialized eIA).before A U = true := h.w (tb_1 (List.mem_of_getElem? (i := 15) rfl)) rfl
theorem kt_eIA {G : GG} {U : State} {A : Array Value} (h : g_C G U) : (Cond.castable eIA eIA).before A U = true := h.w (tb_2 (List.mem_of_getElem? (i := 34) rfl)) rfl
theorem kn_eIO {G : GG} {U : State} {A : Array Value} (h : g_C G U) : (Cond.initialized eIO).before A U = true := h.w (tb_1 (List.mem_of_getElem? (i := 16) rfl)) rfl
theorem kt_eIO {G : GG} {U : State} {A : Array Value} (h : g_C G U) : (Cond.castable eIO eIO).before A U = true := h.w (tb_2 (List.mem_of_getElem? (i := 108) rfl)) rfl
theorem kn_eIS {G : GG} {U : State} {A : Array Value} (h : g_C G U) : (Cond.initialized eIS).before A U = true := h.w (tb_1 (List.mem_of_getElem? (i := 17) rfl)) rfl
theorem kt_eIS {G : GG} {U : State} {A : Array Value} (h : g_C G U) : (Cond.castable eIS eIS).before A U = true := h.w (tb_2 (List.mem_of_getElem? (i := 138) rfl)) rfl
theorem kn_eUO {G : GG} {U : State} {A : Array Value} (h : g_C G U) : (Cond.initialized eUO).before A U = true := h.w (tb_1 (List.mem_of_getElem? (i := 18) rfl)) rfl
theorem kt_eUO {G : GG} {U : State} {A : Array Value} (h : g_C G U) : (Cond.castable eUO eUO).before A U = true := h.w (tb_2 (List.mem_of_getElem? (i := 184) rfl)) rfl
theorem kn_eAR {G : GG} {U : State} {A : Array Value} (h : g_C G U) : (Cond.initialized eAR).before A U = true := h.w (tb_1 (List.mem_of_getElem? (i := 20) rfl)) rfl
theorem kt_eAR {G : GG} {U : State} {A : Array Value} (h : g_C G U) : (Cond.castable eAR eAR).before A U = true := h.w (tb_3 (List.mem_of_getElem? (i := 129) rfl)) rfl
theorem ka_int {G : GG} {U : State} {A : Array Value} (h : g_C G U) : (Cond.arrayClass .int).before A U = true := h.w (tb_1 (List.mem_of_getElem? (i := 48) rfl)) rfl
theorem ka_boolean {G : GG} {U : State} {A : Array Value} (h : g_C G U) : (Cond.arrayClass .boolean).before A U = true := h.w (tb_1 (List.mem_of_getElem? (i := 72) rfl)) rfl
theorem ka_long {G : GG} {U : State} {A : Array Value} (h : g_C G U) : (Cond.arrayClass .long).before A U = true := h.w (tb_1 (List.mem_of_getElem? (i := 217) rfl)) rfl
theorem k_oi {G : GG} {U : State} {A : Array Value} (h : g_C G U) : (Cond.instanceMethod objectInit).before A U = true := h.w (tb_1 (List.mem_of_getElem? (i := 27) rfl)) rfl
theorem k_oc {G : GG} {U : State} {A : Array Value} (h : g_C G U) : (Cond.code objectInit ⟨#[0xb1]⟩ 1 none).before A U = true := h.w (tb_1 (List.mem_of_getElem? (i := 28) rfl)) rfl
theorem k_mabs_s {G : GG} {U : State} {A : Array Value} (h : g_C G U) : (Cond.static Lib.Math.abs.name).before A U = true := h.w (tb_2 (List.mem_of_getElem? (i := 210) rfl)) rfl
theorem k_mabs_c {G : GG} {U : State} {A : Array Value} (h : g_C G U) : (Cond.code Lib.Math.abs.name Lib.Math.abs.code 1 (some .int)).before A U = true := h.w (tb_2 (List.mem_of_getElem? (i := 211) rfl)) rfl
theorem k_mmax_s {G : GG} {U : State} {A : Array Value} (h : g_C G U) : (Cond.static Lib.Math.max.name).before A U = true := h.w (tb_3 (List.mem_of_getElem? (i := 197) rfl)) rfl
theorem k_mmax_c {G : GG} {U : State} {A : Array Value} (h : g_C G U) : (Cond.code Lib.Math.max.name Lib.Math.max.code 2 (some .int)).before A U = true := h.w (tb_3 (List.mem_of_getElem? (i := 198) rfl)) rfl
theorem k_m_n {G : GG} {U : State} {A : Array Value} (h : g_C G U) : (Cond.initialized "java/lang/Math").before A U = true := h.w (tb_1 (List.mem_of_getElem? (i := 19) rfl)) rfl
theorem kc_CB_init {G : GG} {U : State} {A : Array Value} (h : g_C G U) : cd_CB_init.before A U = true := h.w (tb_1 (List.mem_of_getElem? (i := 25) rfl)) rfl
theorem ki_CB_init {G : GG} {U : State} {A : Array Value} (h : g_C G U) : (Cond.instanceMethod y_CB_init).before A U = true := h.w (tb_1 (List.mem_of_getElem? (i := 24) rfl)) rfl
theorem kc_CB_budget {G : GG} {U : State} {A : Array Value} (h : g_C G U) : cd_CB_budget.before A U = true := h.w (tb_2 (List.mem_of_getElem? (i := 28) rfl)) rfl
theorem ki_CB_budget {G : GG} {U : State} {A : Array Value} (h : g_C G U) : (Cond.instanceMethod y_CB_budget).before A U = true := h.w (tb_2 (List.mem_of_getElem? (i := 26) rfl)) rfl
theorem kv_CB_budget {G : GG} {U : State} {A : Array Value} (h : g_C G U) : (Cond.selects R_CB y_CB_budget y_CB_budget).before A U = true := h.w (tb_2 (List.mem_of_getElem? (i := 27) rfl)) rfl
theorem kc_CB_budgetAt {G : GG} {U : State} {A : Array Value} (h : g_C G U) : cd_CB_budgetAt.before A U = true := h.w (tb_2 (List.mem_of_getElem? (i := 158) rfl)) rfl
theorem ki_CB_budgetAt {G : GG} {U : State} {A : Array Value} (h : g_C G U) : (Cond.instanceMethod y_CB_budgetAt).before A U = true := h.w (tb_2 (List.mem_of_getElem? (i := 156) rfl)) rfl
theorem kv_CB_budgetAt {G : GG} {U : State} {A : Array Value} (h : g_C G U) : (Cond.selects R_CB y_CB_budgetAt y_CB_budgetAt).before A U = true := h.w (tb_2 (List.mem_of_getElem? (i := 157) rfl)) rfl
theorem kc_CB_band {G : GG} {U : State} {A : Array Value} (h : g_C G U) : cd_CB_band.before A U = true := h.w (tb_2 (List.mem_of_getElem? (i := 170) rfl)) rfl
theorem ki_CB_band {G : GG} {U : State} {A : Array Value} (h : g_C G U) : (Cond.instanceMethod y_CB_band).before A U = true := h.w (tb_2 (List.mem_of_getElem? (i := 168) rfl)) rfl
theorem kv_CB_band {G : GG} {U : State} {A : Array Value} (h : g_C G U) : (Cond.selects R_CB y_CB_band y_CB_band).before A U = true := h.w (tb_2 (List.mem_of_getElem? (i := 169) rfl)) rfl
theorem kc_CB_order {G : GG} {U : State} {A : Array Value} (h : g_C G U) : cd_CB_order.before A U = true := h.w (tb_2 (List.mem_of_getElem? (i := 178) rfl)) rfl
theorem ki_CB_order {G : GG} {U : State} {A : Array Value} (h : g_C G U) : (Cond.instanceMethod y_CB_order).before A U = true := h.w (tb_2 (List.mem_of_getElem? (i := 176) rfl)) rfl
theorem kv_CB_order {G : GG} {U : State} {A : Array Value} (h : g_C G U) : (Cond.selects R_CB y_CB_order y_CB_order).before A U = true := h.w (tb_2 (List.mem_of_getElem? (i := 177) rfl)) rfl
theorem kc_CB_invoice {G : GG} {U : State} {A : Array Value} (h : g_C G U) : cd_CB_invoice.before A U = true := h.w (tb_2 (List.mem_of_getElem? (i := 208) rfl)) rfl
theorem ki_CB_invoice {G : GG} {U : State} {A : Array Value} (h : g_C G U) : (Cond.instanceMethod y_CB_invoice).before A U = true := h.w (tb_2 (List.mem_of_getElem? (i := 206) rfl)) rfl
theorem kv_CB_invoice {G : GG} {U : State} {A : Array Value} (h : g_C G U) : (Cond.selects R_CB y_CB_invoice y_CB_invoice).before A U = true := h.w (tb_2 (List.mem_of_getElem? (i := 207) rfl)) rfl
theorem kc_CB_cancel {G : GG} {U : State} {A : Array Value} (h : g_C G U) : cd_CB_cancel.before A U = true := h.w (tb_2 (List.mem_of_getElem? (i := 227) rfl)) rfl
theorem ki_CB_cancel {G : GG} {U : State} {A : Array Value} (h : g_C G U) : (Cond.instanceMethod y_CB_cancel).before A U = true := h.w (tb_2 (List.mem_of_getElem? (i := 225) rfl)) rfl
theorem kv_CB_cancel {G : GG} {U : State} {A : Array Value} (h : g_C G U) : (Cond.selects R_CB y_CB_cancel y_CB_cancel).before A U = true := h.w (tb_2 (List.mem_of_getElem? (i := 226) rfl)) rfl
theorem kc_CB_sign {G : GG} {U : State} {A : Array Value} (h : g_C G U) : cd_CB_sign.before A U = true := h.w (tb_2 (List.mem_of_getElem? (i := 234) rfl)) rfl
theorem ki_CB_sign {G : GG} {U : State} {A : Array Value} (h : g_C G U) : (Cond.instanceMethod y_CB_sign).before A U = true := h.w (tb_2 (List.mem_of_getElem? (i := 232) rfl)) rfl
theorem kv_CB_sign {G : GG} {U : State} {A : Array Value} (h : g_C G U) : (Cond.selects R_CB y_CB_sign y_CB_sign).before A U = true := h.w (tb_2 (List.mem_of_getElem? (i := 233) rfl)) rfl
theorem kc_CB_tariff {G : GG} {U : State} {A : Array Value} (h : g_C G U) : cd_CB_tariff.before A U = true := h.w (tb_3 (List.mem_of_getElem? (i := 5) rfl)) rfl
theorem ki_CB_tariff {G : GG} {U : State} {A : Array Value} (h : g_C G U) : (Cond.instanceMethod y_CB_tariff).before A U = true := h.w (tb_3 (List.mem_of_getElem? (i := 3) rfl)) rfl
theorem kv_CB_tariff {G : GG} {U : State} {A : Array Value} (h : g_C G U) : (Cond.selects R_CB y_CB_tariff y_CB_tariff).before A U = true := h.w (tb_3 (List.mem_of_getElem? (i := 4) rfl)) rfl
theorem kc_CB_place {G : GG} {U : State} {A : Array Value} (h : g_C G U) : cd_CB_place.before A U = true := h.w (tb_2 (List.mem_of_getElem? (i := 18) rfl)) rfl
theorem ki_CB_place {G : GG} {U : State} {A : Array Value} (h : g_C G U) : (Cond.instanceMethod y_CB_place).before A U = true := h.w (tb_2 (List.mem_of_getElem? (i := 16) rfl)) rfl
theorem kv_CB_place {G : GG} {U : State} {A : Array Value} (h : g_C G U) : (Cond.selects R_CB y_CB_place y_CB_place).before A U = true := h.w (tb_2 (List.mem_of_getElem? (i := 17) rfl)) rfl
theorem kc_CB_bill {G : GG} {U : State} {A : Array Value} (h : g_C G U) : cd_CB_bill.before A U = true := h.w (tb_3 (List.mem_of_getElem? (i := 51) rfl)) rfl
theorem ki_CB_bill {G : GG} {U : State} {A : Array Value} (h : g_C G U) : (Cond.instanceMethod y_CB_bill).before A U = true := h.w (tb_3 (List.mem_of_getElem? (i := 49) rfl)) rfl
theorem kv_CB_bill {G : GG} {U : State} {A : Array Value} (h : g_C G U) : (Cond.selects R_CB y_CB_bill y_CB_bill).before A U = true := h.w (tb_3 (List.mem_of_getElem? (i := 50) rfl)) rfl
theorem kc_CB_pay {G : GG} {U : State} {A : Array Value} (h : g_C G U) : cd_CB_pay.before A U = true := h.w (tb_3 (List.mem_of_getElem? (i := 72) rfl)) rfl
theorem ki_CB_pay {G : GG} {U : State} {A : Array Value} (h : g_C G U) : (Cond.instanceMethod y_CB_pay).before A U = true := h.w (tb_3 (List.mem_of_getElem? (i := 70) rfl)) rfl
theorem kv_CB_pay {G : GG} {U : State} {A : Array Value} (h : g_C G U) : (Cond.selects R_CB y_CB_pay y_CB_pay).before A U = true := h.w (tb_3 (List.mem_of_getElem? (i := 71) rfl)) rfl
theorem kc_CB_dispute {G : GG} {U : State} {A : Array Value} (h : g_C G U) : cd_CB_dispute.before A U = true := h.w (tb_3 (List.mem_of_getElem? (i := 83) rfl)) rfl
theorem ki_CB_dispute {G : GG} {U : State} {A : Array Value} (h : g_C G U) : (Cond.instanceMethod y_CB_dispute).before A U = true := h.w (tb_3 (List.mem_of_getElem? (i := 81) rfl)) rfl
theorem kv_CB_dispute {G : GG} {U : State} {A : Array Value} (h : g_C G U) : (Cond.selects R_CB y_CB_dispute y_CB_dispute).before A U = true := h.w (tb_3 (List.mem_of_getElem? (i := 82) rfl)) rfl
theorem kc_CB_remind {G : GG} {U : State} {A : Array Value} (h : g_C G U) : cd_CB_remind.before A U = true := h.w (tb_3 (List.mem_of_getElem? (i := 95) rfl)) rfl
theorem ki_CB_remind {G : GG} {U : State} {A : Array Value} (h : g_C G U) : (Cond.instanceMethod y_CB_remind).before A U = true := h.w (tb_3 (List.mem_of_getElem? (i := 93) rfl)) rfl
theorem kv_CB_remind {G : GG} {U : State} {A : Array Value} (h : g_C G U) : (Cond.selects R_CB y_CB_remind y_CB_remind).before A U = true := h.w (tb_3 (List.mem_of_getElem? (i := 94) rfl)) rfl
theorem kc_CB_billAt {G : GG} {U : State} {A : Array Value} (h : g_C G U) : cd_CB_billAt.before A U = true := h.w (tb_3 (List.mem_of_getElem? (i := 107) rfl)) rfl
theorem ki_CB_billAt {G : GG} {U : State} {A : Array Value} (h : g_C G U) : (Cond.instanceMethod y_CB_billAt).before A U = true := h.w (tb_3 (List.mem_of_getElem? (i := 105) rfl)) rfl
theorem kv_CB_billAt {G : GG} {U : State} {A : Array Value} (h : g_C G U) : (Cond.selects R_CB y_CB_billAt y_CB_billAt).before A U = true := h.w (tb_3 (List.mem_of_getElem? (i := 106) rfl)) rfl
theorem kc_CB_weight {G : GG} {U : State} {A : Array Value} (h : g_C G U) : cd_CB_weight.before A U = true := h.w (tb_3 (List.mem_of_getElem? (i := 114) rfl)) rfl
theorem ki_CB_weight {G : GG} {U : State} {A : Array Value} (h : g_C G U) : (Cond.instanceMethod y_CB_weight).before A U = true := h.w (tb_3 (List.mem_of_getElem? (i := 112) rfl)) rfl
theorem kv_CB_weight {G : GG} {U : State} {A : Array Value} (h : g_C G U) : (Cond.selects R_CB y_CB_weight y_CB_weight).before A U = true := h.w (tb_3 (List.mem_of_getElem? (i := 113) rfl)) rfl
theorem kc_CB_share {G : GG} {U : State} {A : Array Value} (h : g_C G U) : cd_CB_share.before A U = true := h.w (tb_3 (List.mem_of_getElem? (i := 122) rfl)) rfl
theorem ki_CB_share {G : GG} {U : State} {A : Array Value} (h : g_C G U) : (Cond.instanceMethod y_CB_share).before A U = true := h.w (tb_3 (List.mem_of_getElem? (i := 120) rfl)) rfl
theorem kv_CB_share {G : GG} {U : State} {A : Array Value} (h : g_C G U) : (Cond.selects R_CB y_CB_share y_CB_share).before A U = true := h.w (tb_3 (List.mem_of_getElem? (i := 121) rfl)) rfl
theorem kc_CB_grant {G : GG} {U : State} {A : Array Value} (h : g_C G U) : cd_CB_grant.before A U = true := h.w (tb_3 (List.mem_of_getElem? (i := 165) rfl)) rfl
theorem ki_CB_grant {G : GG} {U : State} {A : Array Value} (h : g_C G U) : (Cond.instanceMethod y_CB_grant).before A U = true := h.w (tb_3 (List.mem_of_getElem? (i := 163) rfl)) rfl
theorem kv_CB_grant {G : GG} {U : State} {A : Array Value} (h : g_C G U) : (Cond.selects R_CB y_CB_grant y_CB_grant).before A U = true := h.w (tb_3 (List.mem_of_getElem? (i := 164) rfl)) rfl
theorem kc_CB_use {G : GG} {U : State} {A : Array Value} (h : g_C G U) : cd_CB_use.before A U = true := h.w (tb_3 (List.mem_of_getElem? (i := 176) rfl)) rfl
theorem ki_CB_use {G : GG} {U : State} {A : Array Value} (h : g_C G U) : (Cond.instanceMethod y_CB_use).before A U = true := h.w (tb_3 (List.mem_of_getElem? (i := 174) rfl)) rfl
theorem kv_CB_use {G : GG} {U : State} {A : Array Value} (h : g_C G U) : (Cond.selects R_CB y_CB_use y_CB_use).before A U = true := h.w (tb_3 (List.mem_of_getElem? (i := 175) rfl)) rfl
theorem kc_CB_row {G : GG} {U : State} {A : Array Value} (h : g_C G U) : cd_CB_row.before A U = true := h.w (tb_3 (List.mem_of_getElem? (i := 183) rfl)) rfl
theorem ki_CB_row {G : GG} {U : State} {A : Array Value} (h : g_C G U) : (Cond.instanceMethod y_CB_row).before A U = true := h.w (tb_3 (List.mem_of_getElem? (i := 181) rfl)) rfl
theorem kv_CB_row {G : GG} {U : State} {A : Array Value} (h : g_C G U) : (Cond.selects R_CB y_CB_row y_CB_row).before A U = true := h.w (tb_3 (List.mem_of_getElem? (i := 182) rfl)) rfl
theorem kc_CB_post {G : GG} {U : State} {A : Array Value} (h : g_C G U) : cd_CB_post.before A U = true := h.w (tb_3 (List.mem_of_getElem? (i := 195) rfl)) rfl
theorem ki_CB_post {G : GG} {U : State} {A : Array Value} (h : g_C G U) : (Cond.instanceMethod y_CB_post).before A U = true := h.w (tb_3 (List.mem_of_getElem? (i := 193) rfl)) rfl
theorem kv_CB_post {G : GG} {U : State} {A : Array Value} (h : g_C G U) : (Cond.selects R_CB y_CB_post y_CB_post).before A U = true := h.w (tb_3 (List.mem_of_getElem? (i := 194) rfl)) rfl
theorem kc_CB_balance {G : GG} {U : State} {A : Array Value} (h : g_C G U) : cd_CB_balance.before A U = true := h.w (tb_3 (List.mem_of_getElem? (i := 217) rfl)) rfl
theorem ki_CB_balance {G : GG} {U : State} {A : Array Value} (h : g_C G U) : (Cond.instanceMethod y_CB_balance).before A U = true := h.w (tb_3 (List.mem_of_getElem? (i := 215) rfl)) rfl
theorem kv_CB_balance {G : GG} {U : State} {A : Array Value} (h : g_C G U) : (Cond.selects R_CB y_CB_balance y_CB_balance).before A U = true := h.w (tb_3 (List.mem_of_getElem? (i := 216) rfl)) rfl
theorem kc_CB_close {G : GG} {U : State} {A : Array Value} (h : g_C G U) : cd_CB_close.before A U = true := h.w (tb_3 (List.mem_of_getElem? (i := 225) rfl)) rfl
theorem ki_CB_close {G : GG} {U : State} {A : Array Value} (h : g_C G U) : (Cond.instanceMethod y_CB_close).before A U = true := h.w (tb_3 (List.mem_of_getElem? (i := 223) rfl)) rfl
theorem kv_CB_close {G : GG} {U : State} {A : Array Value} (h : g_C G U) : (Cond.selects R_CB y_CB_close y_CB_close).before A U = true := h.w (tb_3 (List.mem_of_getElem? (i := 224) rfl)) rfl
theorem kc_CB_forecast {G : GG} {U : State} {A : Array Value} (h : g_C G U) : cd_CB_forecast.before A U = true := h.w (tb_3 (List.mem_of_getElem? (i := 236) rfl)) rfl
theorem ki_CB_forecast {G : GG} {U : State} {A : Array Value} (h : g_C G U) : (Cond.instanceMethod y_CB_forecast).before A U = true := h.w (tb_3 (List.mem_of_getElem? (i := 234) rfl)) rfl
theorem kv_CB_forecast {G : GG} {U : State} {A : Array Value} (h : g_C G U) : (Cond.selects R_CB y_CB_forecast y_CB_forecast).before A U = true := h.w (tb_3 (List.mem_of_getElem? (i := 235) rfl)) rfl
theorem kc_CB_requireKnown {G : GG} {U : State} {A : Array Value} (h : g_C G U) : cd_CB_requireKnown.before A U = true := h.w (tb_2 (List.mem_of_getElem? (i := 31) rfl)) rfl
theorem ks_CB_requireKnown {G : GG} {U : State} {A : Array Value} (h : g_C G U) : (Cond.static y_CB_requireKnown).before A U = true := h.w (tb_2 (List.mem_of_getElem? (i := 30) rfl)) rfl
theorem kc_CB_requireRange {G : GG} {U : State} {A : Array Value} (h : g_C G U) : cd_CB_requireRange.before A U = true := h.w (tb_2 (List.mem_of_getElem? (i := 105) rfl)) rfl
theorem ks_CB_requireRange {G : GG} {U : State} {A : Array Value} (h : g_C G U) : (Cond.static y_CB_requireRange).before A U = true := h.w (tb_2 (List.mem_of_getElem? (i := 104) rfl)) rfl
theorem kc_CB_requireState {G : GG} {U : State} {A : Array Value} (h : g_C G U) : cd_CB_requireState.before A U = true := h.w (tb_2 (List.mem_of_getElem? (i := 135) rfl)) rfl
theorem ks_CB_requireState {G : GG} {U : State} {A : Array Value} (h : g_C G U) : (Cond.static y_CB_requireState).before A U = true := h.w (tb_2 (List.mem_of_getElem? (i := 134) rfl)) rfl
theorem kc_CB_requireRoom {G : GG} {U : State} {A : Array Value} (h : g_C G U) : cd_CB_requireRoom.before A U = true := h.w (tb_2 (List.mem_of_getElem? (i := 181) rfl)) rfl
theorem ks_CB_requireRoom {G : GG} {U : State} {A : Array Value} (h : g_C G U) : (Cond.static y_CB_requireRoom).before A U = true := h.w (tb_2 (List.mem_of_getElem? (i := 180) rfl)) rfl
theorem kc_CB_slotOf {G : GG} {U : State} {A : Array Value} (h : g_C G U) : cd_CB_slotOf.before A U = true := h.w (tb_2 (List.mem_of_getElem? (i := 124) rfl)) rfl
theorem ks_CB_slotOf {G : GG} {U : State} {A : Array Value} (h : g_C G U) : (Cond.static y_CB_slotOf).before A U = true := h.w (tb_2 (List.mem_of_getElem? (i := 123) rfl)) rfl
theorem kc_CB_isClosed {G : GG} {U : State} {A : Array Value} (h : g_C G U) : cd_CB_isClosed.before A U = true := h.w (tb_2 (List.mem_of_getElem? (i := 128) rfl)) rfl
theorem ki_CB_isClosed {G : GG} {U : State} {A : Array Value} (h : g_C G U) : (Cond.instanceMethod y_CB_isClosed).before A U = true := h.w (tb_2 (List.mem_of_getElem? (i := 127) rfl)) rfl
theorem kv_CB_isClosed {G : GG} {U : State} {A : Array Value} (h : g_C G U) : (Cond.selects R_CB y_CB_isClosed y_CB_isClosed).before A U = true := h.w (List.mem_append_left _ (by decide +kernel)) rfl
theorem kc_CB_release {G : GG} {U : State} {A : Array Value} (h : g_C G U) : cd_CB_release.before A U = true := h.w (tb_2 (List.mem_of_getElem? (i := 220) rfl)) rfl
theorem ki_CB_release {G : GG} {U : State} {A : Array Value} (h : g_C G U) : (Cond.instanceMethod y_CB_release).before A U = true := h.w (tb_2 (List.mem_of_getElem? (i := 219) rfl)) rfl
theorem kv_CB_release {G : GG} {U : State} {A : Array Value} (h : g_C G U) : (Cond.selects R_CB y_CB_release y_CB_release).before A U = true := h.w (List.mem_append_left _ (by decide +kernel)) rfl
theorem kc_Bu_init {G : GG} {U : State} {A : Array Value} (h : g_C G U) : cd_Bu_init.before A U = true := h.w (tb_1 (List.mem_of_getElem? (i := 33) rfl)) rfl
theorem ki_Bu_init {G : GG} {U : State} {A : Array Value} (h : g_C G U) : (Cond.instanceMethod y_Bu_init).before A U = true := h.w (tb_1 (List.mem_of_getElem? (i := 32) rfl)) rfl
theorem kc_Bu_boundIn {G : GG} {U : State} {A : Array Value} (h : g_C G U) : cd_Bu_boundIn.before A U = true := h.w (tb_2 (List.mem_of_getElem? (i := 132) rfl)) rfl
theorem ki_Bu_boundIn {G : GG} {U : State} {A : Array Value} (h : g_C G U) : (Cond.instanceMethod y_Bu_boundIn).before A U = true := h.w (tb_2 (List.mem_of_getElem? (i := 131) rfl)) rfl
theorem kv_Bu_boundIn {G : GG} {U : State} {A : Array Value} (h : g_C G U) : (Cond.selects R_Bu y_Bu_boundIn y_Bu_boundIn).before A U = true := h.w (List.mem_append_left _ (by decide +kernel)) rfl
theorem kc_Bu_freeIn {G : GG} {U : State} {A : Array Value} (h : g_C G U) : cd_Bu_freeIn.before A U = true := h.w (tb_2 (List.mem_of_getElem? (i := 162) rfl)) rfl
theorem ki_Bu_freeIn {G : GG} {U : State} {A : Array Value} (h : g_C G U) : (Cond.instanceMethod y_Bu_freeIn).before A U = true := h.w (tb_2 (List.mem_of_getElem? (i := 161) rfl)) rfl
theorem kv_Bu_freeIn {G : GG} {U : State} {A : Array Value} (h : g_C G U) : (Cond.selects R_Bu y_Bu_freeIn y_Bu_freeIn).before A U = true := h.w (List.mem_append_left _ (by decide +kernel)) rfl
theorem kc_Or_init {G : GG} {U : State} {A : Array Value} (h : g_C G U) : cd_Or_init.before A U = true := h.w (tb_1 (List.mem_of_getElem? (i := 53) rfl)) rfl
theorem ki_Or_init {G : GG} {U : State} {A : Array Value} (h : g_C G U) : (Cond.instanceMethod y_Or_init).before A U = true := h.w (tb_1 (List.mem_of_getElem? (i := 52) rfl)) rfl
theorem kc_Or_add {G : GG} {U : State} {A : Array Value} (h : g_C G U) : cd_Or_add.before A U = true := h.w (tb_2 (List.mem_of_getElem? (i := 201) rfl)) rfl
theorem ki_Or_add {G : GG} {U : State} {A : Array Value} (h : g_C G U) : (Cond.instanceMethod y_Or_add).before A U = true := h.w (tb_2 (List.mem_of_getElem? (i := 200) rfl)) rfl
theorem kv_Or_add {G : GG} {U : State} {A : Array Value} (h : g_C G U) : (Cond.selects R_Or y_Or_add y_Or_add).before A U = true := h.w (List.mem_append_left _ (by decide +kernel)) rfl
theorem kc_Or_bandOf {G : GG} {U : State} {A : Array Value} (h : g_C G U) : cd_Or_bandOf.before A U = true := h.w (tb_2 (List.mem_of_getElem? (i := 215) rfl)) rfl
theorem ki_Or_bandOf {G : GG} {U : State} {A : Array Value} (h : g_C G U) : (Cond.instanceMethod y_Or_bandOf).before A U = true := h.w (tb_2 (List.mem_of_getElem? (i := 214) rfl)) rfl
theorem kv_Or_bandOf {G : GG} {U : State} {A : Array Value} (h : g_C G U) : (Cond.selects R_Or y_Or_bandOf y_Or_bandOf).before A U = true := h.w (List.mem_append_left _ (by decide +kernel)) rfl
theorem kc_Or_anyOpenIn {G : GG} {U : State} {A : Array Value} (h : g_C G U) : cd_Or_anyOpenIn.before A U = true := h.w (tb_3 (List.mem_of_getElem? (i := 229) rfl)) rfl
theorem ki_Or_anyOpenIn {G : GG} {U : State} {A : Array Value} (h : g_C G U) : (Cond.instanceMethod y_Or_anyOpenIn).before A U = true := h.w (tb_3 (List.mem_of_getElem? (i := 228) rfl)) rfl
theorem kv_Or_anyOpenIn {G : GG} {U : State} {A : Array Value} (h : g_C G U) : (Cond.selects R_Or y_Or_anyOpenIn y_Or_anyOpenIn).before A U = true := h.w (List.mem_append_left _ (by decide +kernel)) rfl
theorem kc_Ta_init {G : GG} {U : State} {A : Array Value} (h : g_C G U) : cd_Ta_init.before A U = true := h.w (tb_1 (List.mem_of_getElem? (i := 77) rfl)) rfl
theorem ki_Ta_init {G : GG} {U : State} {A : Array Value} (h : g_C G U) : (Cond.instanceMethod y_Ta_init).before A U = true := h.w (tb_1 (List.mem_of_getElem? (i := 76) rfl)) rfl
theorem kc_Ta_write {G : GG} {U : State} {A : Array Value} (h : g_C G U) : cd_Ta_write.before A U = true := h.w (tb_2 (List.mem_of_getElem? (i := 238) rfl)) rfl
theorem ki_Ta_write {G : GG} {U : State} {A : Array Value} (h : g_C G U) : (Cond.instanceMethod y_Ta_write).before A U = true := h.w (tb_2 (List.mem_of_getElem? (i := 237) rfl)) rfl
theorem kv_Ta_write {G : GG} {U : State} {A : Array Value} (h : g_C G U) : (Cond.selects R_Ta y_Ta_write y_Ta_write).before A U = true := h.w (List.mem_append_left _ (by decide +kernel)) rfl
theorem kc_Re_init {G : GG} {U : State} {A : Array Value} (h : g_C G U) : cd_Re_init.before A U = true := h.w (tb_1 (List.mem_of_getElem? (i := 93) rfl)) rfl
theorem ki_Re_init {G : GG} {U : State} {A : Array Value} (h : g_C G U) : (Cond.instanceMethod y_Re_init).before A U = true := h.w (tb_1 (List.mem_of_getElem? (i := 92) rfl)) rfl
theorem kc_Re_read {G : GG} {U : State} {A : Array Value} (h : g_C G U) : cd_Re_read.before A U = true := h.w (tb_3 (List.mem_of_getElem? (i := 9) rfl)) rfl
theorem ki_Re_read {G : GG} {U : State} {A : Array Value} (h : g_C G U) : (Cond.instanceMethod y_Re_read).before A U = true := h.w (tb_3 (List.mem_of_getElem? (i := 8) rfl)) rfl
theorem kv_Re_read {G : GG} {U : State} {A : Array Value} (h : g_C G U) : (Cond.selects R_Re y_Re_read y_Re_read).before A U = true := h.w (List.mem_append_left _ (by decide +kernel)) rfl
theorem kc_Re_startAnew {G : GG} {U : State} {A : Array Value} (h : g_C G U) : cd_Re_startAnew.before A U = true := h.w (tb_3 (List.mem_of_getElem? (i := 13) rfl)) rfl
theorem ki_Re_startAnew {G : GG} {U : State} {A : Array Value} (h : g_C G U) : (Cond.instanceMethod y_Re_startAnew).before A U = true := h.w (tb_3 (List.mem_of_getElem? (i := 12) rfl)) rfl
theorem kv_Re_startAnew {G : GG} {U : State} {A : Array Value} (h : g_C G U) : (Cond.selects R_Re y_Re_startAnew y_Re_startAnew).before A U = true := h.w (List.mem_append_left _ (by decide +kernel)) rfl
theorem kc_Re_startNumber {G : GG} {U : State} {A : Array Value} (h : g_C G U) : cd_Re_startNumber.before A U = true := h.w (tb_3 (List.mem_of_getElem? (i := 17) rfl)) rfl
theorem ki_Re_startNumber {G : GG} {U : State} {A : Array Value} (h : g_C G U) : (Cond.instanceMethod y_Re_startNumber).before A U = true := h.w (tb_3 (List.mem_of_getElem? (i := 16) rfl)) rfl
theorem kv_Re_startNumber {G : GG} {U : State} {A : Array Value} (h : g_C G U) : (Cond.selects R_Re y_Re_startNumber y_Re_startNumber).before A U = true := h.w (List.mem_append_left _ (by decide +kernel)) rfl
theorem kc_Re_takes {G : GG} {U : State} {A : Array Value} (h : g_C G U) : cd_Re_takes.before A U = true := h.w (tb_3 (List.mem_of_getElem? (i := 21) rfl)) rfl
theorem ki_Re_takes {G : GG} {U : State} {A : Array Value} (h : g_C G U) : (Cond.instanceMethod y_Re_takes).before A U = true := h.w (tb_3 (List.mem_of_getElem? (i := 20) rfl)) rfl
theorem kv_Re_takes {G : GG} {U : State} {A : Array Value} (h : g_C G U) : (Cond.selects R_Re y_Re_takes y_Re_takes).before A U = true := h.w (List.mem_append_left _ (by decide +kernel)) rfl
theorem kc_Re_takesKind {G : GG} {U : State} {A : Array Value} (h : g_C G U) : cd_Re_takesKind.before A U = true := h.w (tb_3 (List.mem_of_getElem? (i := 25) rfl)) rfl
theorem ki_Re_takesKind {G : GG} {U : State} {A : Array Value} (h : g_C G U) : (Cond.instanceMethod y_Re_takesKind).before A U = true := h.w (tb_3 (List.mem_of_getElem? (i := 24) rfl)) rfl
theorem kv_Re_takesKind {G : GG} {U : State} {A : Array Value} (h : g_C G U) : (Cond.selects R_Re y_Re_takesKind y_Re_takesKind).before A U = true := h.w (List.mem_append_left _ (by decide +kernel)) rfl
theorem kc_Re_takesDigit {G : GG} {U : State} {A : Array Value} (h : g_C G U) : cd_Re_takesDigit.before A U = true := h.w (tb_3 (List.mem_of_getElem? (i := 36) rfl)) rfl
theorem ki_Re_takesDigit {G : GG} {U : State} {A : Array Value} (h : g_C G U) : (Cond.instanceMethod y_Re_takesDigit).before A U = true := h.w (tb_3 (List.mem_of_getElem? (i := 35) rfl)) rfl
theorem kv_Re_takesDigit {G : GG} {U : State} {A : Array Value} (h : g_C G U) : (Cond.selects R_Re y_Re_takesDigit y_Re_takesDigit).before A U = true := h.w (List.mem_append_left _ (by decide +kernel)) rfl
theorem kc_Re_endsBase {G : GG} {U : State} {A : Array Value} (h : g_C G U) : cd_Re_endsBase.before A U = true := h.w (tb_3 (List.mem_of_getElem? (i := 32) rfl)) rfl
theorem ki_Re_endsBase {G : GG} {U : State} {A : Array Value} (h : g_C G U) : (Cond.instanceMethod y_Re_endsBase).before A U = true := h.w (tb_3 (List.mem_of_getElem? (i := 31) rfl)) rfl
theorem kv_Re_endsBase {G : GG} {U : State} {A : Array Value} (h : g_C G U) : (Cond.selects R_Re y_Re_endsBase y_Re_endsBase).before A U = true := h.w (List.mem_append_left _ (by decide +kernel)) rfl
theorem kc_Re_endsHour {G : GG} {U : State} {A : Array Value} (h : g_C G U) : cd_Re_endsHour.before A U = true := h.w (tb_3 (List.mem_of_getElem? (i := 40) rfl)) rfl
theorem ki_Re_endsHour {G : GG} {U : State} {A : Array Value} (h : g_C G U) : (Cond.instanceMethod y_Re_endsHour).before A U = true := h.w (tb_3 (List.mem_of_getElem? (i := 39) rfl)) rfl
theorem kv_Re_endsHour {G : GG} {U : State} {A : Array Value} (h : g_C G U) : (Cond.selects R_Re y_Re_endsHour y_Re_endsHour).before A U = true := h.w (List.mem_append_left _ (by decide +kernel)) rfl
theorem kc_Re_isDigit {G : GG} {U : State} {A : Array Value} (h : g_C G U) : cd_Re_isDigit.before A U = true := h.w (tb_3 (List.mem_of_getElem? (i := 28) rfl)) rfl
theorem ks_Re_isDigit {G : GG} {U : State} {A : Array Value} (h : g_C G U) : (Cond.static y_Re_isDigit).before A U = true := h.w (tb_3 (List.mem_of_getElem? (i := 27) rfl)) rfl
theorem kc_Tf_init {G : GG} {U : State} {A : Array Value} (h : g_C G U) : cd_Tf_init.before A U = true := h.w (tb_1 (List.mem_of_getElem? (i := 127) rfl)) rfl
theorem ki_Tf_init {G : GG} {U : State} {A : Array Value} (h : g_C G U) : (Cond.instanceMethod y_Tf_init).before A U = true := h.w (tb_1 (List.mem_of_getElem? (i := 126) rfl)) rfl
theorem kc_Tf_become {G : GG} {U : State} {A : Array Value} (h : g_C G U) : cd_Tf_become.before A U = true := h.w (tb_3 (List.mem_of_getElem? (i := 44) rfl)) rfl
theorem ki_Tf_become {G : GG} {U : State} {A : Array Value} (h : g_C G U) : (Cond.instanceMethod y_Tf_become).before A U = true := h.w (tb_3 (List.mem_of_getElem? (i := 43) rfl)) rfl
theorem kv_Tf_become {G : GG} {U : State} {A : Array Value} (h : g_C G U) : (Cond.selects R_Tf y_Tf_become y_Tf_become).before A U = true := h.w (List.mem_append_left _ (by decide +kernel)) rfl
theorem kc_Tf_isFree {G : GG} {U : State} {A : Array Value} (h : g_C G U) : cd_Tf_isFree.before A U = true := h.w (tb_3 (List.mem_of_getElem? (i := 56) rfl)) rfl
theorem ki_Tf_isFree {G : GG} {U : State} {A : Array Value} (h : g_C G U) : (Cond.instanceMethod y_Tf_isFree).before A U = true := h.w (tb_3 (List.mem_of_getElem? (i := 55) rfl)) rfl
theorem kv_Tf_isFree {G : GG} {U : State} {A : Array Value} (h : g_C G U) : (Cond.selects R_Tf y_Tf_isFree y_Tf_isFree).before A U = true := h.w (List.mem_append_left _ (by decide +kernel)) rfl
theorem kc_Tf_costOf {G : GG} {U : State} {A : Array Value} (h : g_C G U) : cd_Tf_costOf.before A U = true := h.w (tb_3 (List.mem_of_getElem? (i := 60) rfl)) rfl
theorem ki_Tf_costOf {G : GG} {U : State} {A : Array Value} (h : g_C G U) : (Cond.instanceMethod y_Tf_costOf).before A U = true := h.w (tb_3 (List.mem_of_getElem? (i := 59) rfl)) rfl
theorem kv_Tf_costOf {G : GG} {U : State} {A : Array Value} (h : g_C G U) : (Cond.selects R_Tf y_Tf_costOf y_Tf_costOf).before A U = true := h.w (List.mem_append_left _ (by decide +kernel)) rfl
theorem kc_Bi_init {G : GG} {U : State} {A : Array Value} (h : g_C G U) : cd_Bi_init.before A U = true := h.w (tb_1 (List.mem_of_getElem? (i := 140) rfl)) rfl
theorem ki_Bi_init {G : GG} {U : State} {A : Array Value} (h : g_C G U) : (Cond.instanceMethod y_Bi_init).before A U = true := h.w (tb_1 (List.mem_of_getElem? (i := 139) rfl)) rfl
theorem kc_Bi_add {G : GG} {U : State} {A : Array Value} (h : g_C G U) : cd_Bi_add.before A U = true := h.w (tb_3 (List.mem_of_getElem? (i := 65) rfl)) rfl
theorem ki_Bi_add {G : GG} {U : State} {A : Array Value} (h : g_C G U) : (Cond.instanceMethod y_Bi_add).before A U = true := h.w (tb_3 (List.mem_of_getElem? (i := 64) rfl)) rfl
theorem kv_Bi_add {G : GG} {U : State} {A : Array Value} (h : g_C G U) : (Cond.selects R_Bi y_Bi_add y_Bi_add).before A U = true := h.w (List.mem_append_left _ (by decide +kernel)) rfl
theorem kc_Bi_leftOf {G : GG} {U : State} {A : Array Value} (h : g_C G U) : cd_Bi_leftOf.before A U = true := h.w (tb_3 (List.mem_of_getElem? (i := 76) rfl)) rfl
theorem ki_Bi_leftOf {G : GG} {U : State} {A : Array Value} (h : g_C G U) : (Cond.instanceMethod y_Bi_leftOf).before A U = true := h.w (tb_3 (List.mem_of_getElem? (i := 75) rfl)) rfl
theorem kv_Bi_leftOf {G : GG} {U : State} {A : Array Value} (h : g_C G U) : (Cond.selects R_Bi y_Bi_leftOf y_Bi_leftOf).before A U = true := h.w (List.mem_append_left _ (by decide +kernel)) rfl
theorem kc_Bi_isOpen {G : GG} {U : State} {A : Array Value} (h : g_C G U) : cd_Bi_isOpen.before A U = true := h.w (tb_3 (List.mem_of_getElem? (i := 87) rfl)) rfl
theorem ki_Bi_isOpen {G : GG} {U : State} {A : Array Value} (h : g_C G U) : (Cond.instanceMethod y_Bi_isOpen).before A U = true := h.w (tb_3 (List.mem_of_getElem? (i := 86) rfl)) rfl
theorem kv_Bi_isOpen {G : GG} {U : State} {A : Array Value} (h : g_C G U) : (Cond.selects R_Bi y_Bi_isOpen y_Bi_isOpen).before A U = true := h.w (List.mem_append_left _ (by decide +kernel)) rfl
theorem kc_Bi_remindAll {G : GG} {U : State} {A : Array Value} (h : g_C G U) : cd_Bi_remindAll.before A U = true := h.w (tb_3 (List.mem_of_getElem? (i := 99) rfl)) rfl
theorem ki_Bi_remindAll {G : GG} {U : State} {A : Array Value} (h : g_C G U) : (Cond.instanceMethod y_Bi_remindAll).before A U = true := h.w (tb_3 (List.mem_of_getElem? (i := 98) rfl)) rfl
theorem kv_Bi_remindAll {G : GG} {U : State} {A : Array Value} (h : g_C G U) : (Cond.selects R_Bi y_Bi_remindAll y_Bi_remindAll).before A U = true := h.w (List.mem_append_left _ (by decide +kernel)) rfl
theorem kc_Ho_init {G : GG} {U : State} {A : Array Value} (h : g_C G U) : cd_Ho_init.before A U = true := h.w (tb_1 (List.mem_of_getElem? (i := 170) rfl)) rfl
theorem ki_Ho_init {G : GG} {U : State} {A : Array Value} (h : g_C G U) : (Cond.instanceMethod y_Ho_init).before A U = true := h.w (tb_1 (List.mem_of_getElem? (i := 169) rfl)) rfl
theorem kc_Ho_sumOfWeights {G : GG} {U : State} {A : Array Value} (h : g_C G U) : cd_Ho_sumOfWeights.before A U = true := h.w (tb_3 (List.mem_of_getElem? (i := 126) rfl)) rfl
theorem ki_Ho_sumOfWeights {G : GG} {U : State} {A : Array Value} (h : g_C G U) : (Cond.instanceMethod y_Ho_sumOfWeights).before A U = true := h.w (tb_3 (List.mem_of_getElem? (i := 125) rfl)) rfl
theorem kv_Ho_sumOfWeights {G : GG} {U : State} {A : Array Value} (h : g_C G U) : (Cond.selects R_Ho y_Ho_sumOfWeights y_Ho_sumOfWeights).before A U = true := h.w (List.mem_append_left _ (by decide +kernel)) rfl
theorem kc_Ho_partOf {G : GG} {U : State} {A : Array Value} (h : g_C G U) : cd_Ho_partOf.before A U = true := h.w (tb_3 (List.mem_of_getElem? (i := 146) rfl)) rfl
theorem ki_Ho_partOf {G : GG} {U : State} {A : Array Value} (h : g_C G U) : (Cond.instanceMethod y_Ho_partOf).before A U = true := h.w (tb_3 (List.mem_of_getElem? (i := 145) rfl)) rfl
theorem kv_Ho_partOf {G : GG} {U : State} {A : Array Value} (h : g_C G U) : (Cond.selects R_Ho y_Ho_partOf y_Ho_partOf).before A U = true := h.w (List.mem_append_left _ (by decide +kernel)) rfl
theorem kc_Ho_roundedPart {G : GG} {U : State} {A : Array Value} (h : g_C G U) : cd_Ho_roundedPart.before A U = true := h.w (tb_3 (List.mem_of_getElem? (i := 150) rfl)) rfl
theorem ki_Ho_roundedPart {G : GG} {U : State} {A : Array Value} (h : g_C G U) : (Cond.instanceMethod y_Ho_roundedPart).before A U = true := h.w (tb_3 (List.mem_of_getElem? (i := 149) rfl)) rfl
theorem kv_Ho_roundedPart {G : GG} {U : State} {A : Array Value} (h : g_C G U) : (Cond.selects R_Ho y_Ho_roundedPart y_Ho_roundedPart).before A U = true := h.w (List.mem_append_left _ (by decide +kernel)) rfl
theorem kc_Ho_remainder {G : GG} {U : State} {A : Array Value} (h : g_C G U) : cd_Ho_remainder.before A U = true := h.w (tb_3 (List.mem_of_getElem? (i := 158) rfl)) rfl
theorem ki_Ho_remainder {G : GG} {U : State} {A : Array Value} (h : g_C G U) : (Cond.instanceMethod y_Ho_remainder).before A U = true := h.w (tb_3 (List.mem_of_getElem? (i := 157) rfl)) rfl
theorem kv_Ho_remainder {G : GG} {U : State} {A : Array Value} (h : g_C G U) : (Cond.selects R_Ho y_Ho_remainder y_Ho_remainder).before A U = true := h.w (List.mem_append_left _ (by decide +kernel)) rfl
theorem kc_Ho_comesBefore {G : GG} {U : State} {A : Array Value} (h : g_C G U) : cd_Ho_comesBefore.before A U = true := h.w (tb_3 (List.mem_of_getElem? (i := 154) rfl)) rfl
theorem ki_Ho_comesBefore {G : GG} {U : State} {A : Array Value} (h : g_C G U) : (Cond.instanceMethod y_Ho_comesBefore).before A U = true := h.w (tb_3 (List.mem_of_getElem? (i := 153) rfl)) rfl
theorem kv_Ho_comesBefore {G : GG} {U : State} {A : Array Value} (h : g_C G U) : (Cond.selects R_Ho y_Ho_comesBefore y_Ho_comesBefore).before A U = true := h.w (List.mem_append_left _ (by decide +kernel)) rfl
theorem kc_Gr_init {G : GG} {U : State} {A : Array Value} (h : g_C G U) : cd_Gr_init.before A U = true := h.w (tb_1 (List.mem_of_getElem? (i := 181) rfl)) rfl
theorem ki_Gr_init {G : GG} {U : State} {A : Array Value} (h : g_C G U) : (Cond.instanceMethod y_Gr_init).before A U = true := h.w (tb_1 (List.mem_of_getElem? (i := 180) rfl)) rfl
theorem kc_Gr_add {G : GG} {U : State} {A : Array Value} (h : g_C G U) : cd_Gr_add.before A U = true := h.w (tb_3 (List.mem_of_getElem? (i := 169) rfl)) rfl
theorem ki_Gr_add {G : GG} {U : State} {A : Array Value} (h : g_C G U) : (Cond.instanceMethod y_Gr_add).before A U = true := h.w (tb_3 (List.mem_of_getElem? (i := 168) rfl)) rfl
theorem kv_Gr_add {G : GG} {U : State} {A : Array Value} (h : g_C G U) : (Cond.selects R_Gr y_Gr_add y_Gr_add).before A U = true := h.w (List.mem_append_left _ (by decide +kernel)) rfl
theorem kc_Le_init {G : GG} {U : State} {A : Array Value} (h : g_C G U) : cd_Le_init.before A U = true := h.w (tb_1 (List.mem_of_getElem? (i := 200) rfl)) rfl
theorem ki_Le_init {G : GG} {U : State} {A : Array Value} (h : g_C G U) : (Cond.instanceMethod y_Le_init).before A U = true := h.w (tb_1 (List.mem_of_getElem? (i := 199) rfl)) rfl
theorem kc_Le_cellOf {G : GG} {U : State} {A : Array Value} (h : g_C G U) : cd_Le_cellOf.before A U = true := h.w (tb_3 (List.mem_of_getElem? (i := 210) rfl)) rfl
theorem ki_Le_cellOf {G : GG} {U : State} {A : Array Value} (h : g_C G U) : (Cond.instanceMethod y_Le_cellOf).before A U = true := h.w (tb_3 (List.mem_of_getElem? (i := 209) rfl)) rfl
theorem kv_Le_cellOf {G : GG} {U : State} {A : Array Value} (h : g_C G U) : (Cond.selects R_Le y_Le_cellOf y_Le_cellOf).before A U = true := h.w (List.mem_append_left _ (by decide +kernel)) rfl
theorem kc_Le_addRow {G : GG} {U : State} {A : Array Value} (h : g_C G U) : cd_Le_addRow.before A U = true := h.w (tb_3 (List.mem_of_getElem? (i := 188) rfl)) rfl
theorem ki_Le_addRow {G : GG} {U : State} {A : Array Value} (h : g_C G U) : (Cond.instanceMethod y_Le_addRow).before A U = true := h.w (tb_3 (List.mem_of_getElem? (i := 187) rfl)) rfl
theorem kv_Le_addRow {G : GG} {U : State} {A : Array Value} (h : g_C G U) : (Cond.selects R_Le y_Le_addRow y_Le_addRow).before A U = true := h.w (List.mem_append_left _ (by decide +kernel)) rfl
theorem kc_Le_sumOfRows {G : GG} {U : State} {A : Array Value} (h : g_C G U) : cd_Le_sumOfRows.before A U = true := h.w (tb_3 (List.mem_of_getElem? (i := 202) rfl)) rfl
theorem ki_Le_sumOfRows {G : GG} {U : State} {A : Array Value} (h : g_C G U) : (Cond.instanceMethod y_Le_sumOfRows).before A U = true := h.w (tb_3 (List.mem_of_getElem? (i := 201) rfl)) rfl
theorem kv_Le_sumOfRows {G : GG} {U : State} {A : Array Value} (h : g_C G U) : (Cond.selects R_Le y_Le_sumOfRows y_Le_sumOfRows).before A U = true := h.w (List.mem_append_left _ (by decide +kernel)) rfl
theorem kc_Le_bookRows {G : GG} {U : State} {A : Array Value} (h : g_C G U) : cd_Le_bookRows.before A U = true := h.w (tb_3 (List.mem_of_getElem? (i := 206) rfl)) rfl
theorem ki_Le_bookRows {G : GG} {U : State} {A : Array Value} (h : g_C G U) : (Cond.instanceMethod y_Le_bookRows).before A U = true := h.w (tb_3 (List.mem_of_getElem? (i := 205) rfl)) rfl
theorem kv_Le_bookRows {G : GG} {U : State} {A : Array Value} (h : g_C G U) : (Cond.selects R_Le y_Le_bookRows y_Le_bookRows).before A U = true := h.w (List.mem_append_left _ (by decide +kernel)) rfl
theorem kc_Mo_init {G : GG} {U : State} {A : Array Value} (h : g_C G U) : cd_Mo_init.before A U = true := h.w (tb_4 (List.mem_of_getElem? (i := 3) rfl)) rfl
theorem ki_Mo_init {G : GG} {U : State} {A : Array Value} (h : g_C G U) : (Cond.instanceMethod y_Mo_init).before A U = true := h.w (tb_4 (List.mem_of_getElem? (i := 2) rfl)) rfl
theorem kc_Mo_thrown {G : GG} {U : State} {A : Array Value} (h : g_C G U) : cd_Mo_thrown.before A U = true := h.w (tb_4 (List.mem_of_getElem? (i := 108) rfl)) rfl
theorem ki_Mo_thrown {G : GG} {U : State} {A : Array Value} (h : g_C G U) : (Cond.instanceMethod y_Mo_thrown).before A U = true := h.w (tb_4 (List.mem_of_getElem? (i := 106) rfl)) rfl
theorem kv_Mo_thrown {G : GG} {U : State} {A : Array Value} (h : g_C G U) : (Cond.selects R_Mo y_Mo_thrown y_Mo_thrown).before A U = true := h.w (tb_4 (List.mem_of_getElem? (i := 107) rfl)) rfl
theorem kc_Mo_throwing {G : GG} {U : State} {A : Array Value} (h : g_C G U) : cd_Mo_throwing.before A U = true := h.w (tb_4 (List.mem_of_getElem? (i := 126) rfl)) rfl
theorem ki_Mo_throwing {G : GG} {U : State} {A : Array Value} (h : g_C G U) : (Cond.instanceMethod y_Mo_throwing).before A U = true := h.w (tb_4 (List.mem_of_getElem? (i := 125) rfl)) rfl
theorem kv_Mo_throwing {G : GG} {U : State} {A : Array Value} (h : g_C G U) : (Cond.selects R_Mo y_Mo_throwing y_Mo_throwing).before A U = true := h.w (List.mem_append_left _ (by decide +kernel)) rfl
theorem kc_Mo_in {G : GG} {U : State} {A : Array Value} (h : g_C G U) : cd_Mo_in.before A U = true := h.w (tb_4 (List.mem_of_getElem? (i := 118) rfl)) rfl
theorem ks_Mo_in {G : GG} {U : State} {A : Array Value} (h : g_C G U) : (Cond.static y_Mo_in).before A U = true := h.w (tb_4 (List.mem_of_getElem? (i := 117) rfl)) rfl
theorem kc_Mo_isCents {G : GG} {U : State} {A : Array Value} (h : g_C G U) : cd_Mo_isCents.before A U = true := h.w (tb_4 (List.mem_of_getElem? (i := 121) rfl)) rfl
theorem ks_Mo_isCents {G : GG} {U : State} {A : Array Value} (h : g_C G U) : (Cond.static y_Mo_isCents).before A U = true := h.w (tb_4 (List.mem_of_getElem? (i := 120) rfl)) rfl
theorem kc_Mo_isBudget {G : GG} {U : State} {A : Array Value} (h : g_C G U) : cd_Mo_isBudget.before A U = true := h.w (tb_4 (List.mem_of_getElem? (i := 115) rfl)) rfl
theorem ks_Mo_isBudget {G : GG} {U : State} {A : Array Value} (h : g_C G U) : (Cond.static y_Mo_isBudget).before A U = true := h.w (tb_4 (List.mem_of_getElem? (i := 114) rfl)) rfl
theorem kc_Mo_budget {G : GG} {U : State} {A : Array Value} (h : g_C G U) : cd_Mo_budget.before A U = true := h.w (tb_4 (List.mem_of_getElem? (i := 112) rfl)) rfl
theorem ki_Mo_budget {G : GG} {U : State} {A : Array Value} (h : g_C G U) : (Cond.instanceMethod y_Mo_budget).before A U = true := h.w (tb_4 (List.mem_of_getElem? (i := 110) rfl)) rfl
theorem kv_Mo_budget {G : GG} {U : State} {A : Array Value} (h : g_C G U) : (Cond.selects R_Mo y_Mo_budget y_Mo_budget).before A U = true := h.w (tb_4 (List.mem_of_getElem? (i := 111) rfl)) rfl
theorem kc_Mo_freeOf {G : GG} {U : State} {A : Array Value} (h : g_C G U) : cd_Mo_freeOf.before A U = true := h.w (tb_4 (List.mem_of_getElem? (i := 134) rfl)) rfl
theorem ki_Mo_freeOf {G : GG} {U : State} {A : Array Value} (h : g_C G U) : (Cond.instanceMethod y_Mo_freeOf).before A U = true := h.w (tb_4 (List.mem_of_getElem? (i := 133) rfl)) rfl
theorem kv_Mo_freeOf {G : GG} {U : State} {A : Array Value} (h : g_C G U) : (Cond.selects R_Mo y_Mo_freeOf y_Mo_freeOf).before A U = true := h.w (List.mem_append_left _ (by decide +kernel)) rfl
theorem kc_Mo_budgetAt {G : GG} {U : State} {A : Array Value} (h : g_C G U) : cd_Mo_budgetAt.before A U = true := h.w (tb_4 (List.mem_of_getElem? (i := 130) rfl)) rfl
theorem ki_Mo_budgetAt {G : GG} {U : State} {A : Array Value} (h : g_C G U) : (Cond.instanceMethod y_Mo_budgetAt).before A U = true := h.w (tb_4 (List.mem_of_getElem? (i := 128) rfl)) rfl
theorem kv_Mo_budgetAt {G : GG} {U : State} {A : Array Value} (h : g_C G U) : (Cond.selects R_Mo y_Mo_budgetAt y_Mo_budgetAt).before A U = true := h.w (tb_4 (List.mem_of_getElem? (i := 129) rfl)) rfl
theorem kc_Mo_band {G : GG} {U : State} {A : Array Value} (h : g_C G U) : cd_Mo_band.before A U = true := h.w (tb_4 (List.mem_of_getElem? (i := 138) rfl)) rfl
theorem ki_Mo_band {G : GG} {U : State} {A : Array Value} (h : g_C G U) : (Cond.instanceMethod y_Mo_band).before A U = true := h.w (tb_4 (List.mem_of_getElem? (i := 136) rfl)) rfl
theorem kv_Mo_band {G : GG} {U : State} {A : Array Value} (h : g_C G U) : (Cond.selects R_Mo y_Mo_band y_Mo_band).before A U = true := h.w (tb_4 (List.mem_of_getElem? (i := 137) rfl)) rfl
theorem kc_Mo_order {G : GG} {U : State} {A : Array Value} (h : g_C G U) : cd_Mo_order.before A U = true := h.w (tb_4 (List.mem_of_getElem? (i := 142) rfl)) rfl
theorem ki_Mo_order {G : GG} {U : State} {A : Array Value} (h : g_C G U) : (Cond.instanceMethod y_Mo_order).before A U = true := h.w (tb_4 (List.mem_of_getElem? (i := 140) rfl)) rfl
theorem kv_Mo_order {G : GG} {U : State} {A : Array Value} (h : g_C G U) : (Cond.selects R_Mo y_Mo_order y_Mo_order).before A U = true := h.w (tb_4 (List.mem_of_getElem? (i := 141) rfl)) rfl
theorem kc_Mo_invoice {G : GG} {U : State} {A : Array Value} (h : g_C G U) : cd_Mo_invoice.before A U = true := h.w (tb_4 (List.mem_of_getElem? (i := 146) rfl)) rfl
theorem ki_Mo_invoice {G : GG} {U : State} {A : Array Value} (h : g_C G U) : (Cond.instanceMethod y_Mo_invoice).before A U = true := h.w (tb_4 (List.mem_of_getElem? (i := 144) rfl)) rfl
theorem kv_Mo_invoice {G : GG} {U : State} {A : Array Value} (h : g_C G U) : (Cond.selects R_Mo y_Mo_invoice y_Mo_invoice).before A U = true := h.w (tb_4 (List.mem_of_getElem? (i := 145) rfl)) rfl
theorem kc_Mo_cancel {G : GG} {U : State} {A : Array Value} (h : g_C G U) : cd_Mo_cancel.before A U = true := h.w (tb_4 (List.mem_of_getElem? (i := 151) rfl)) rfl
theorem ki_Mo_cancel {G : GG} {U : State} {A : Array Value} (h : g_C G U) : (Cond.instanceMethod y_Mo_cancel).before A U = true := h.w (tb_4 (List.mem_of_getElem? (i := 149) rfl)) rfl
theorem kv_Mo_cancel {G : GG} {U : State} {A : Array Value} (h : g_C G U) : (Cond.selects R_Mo y_Mo_cancel y_Mo_cancel).before A U = true := h.w (tb_4 (List.mem_of_getElem? (i := 150) rfl)) rfl
theorem kc_Mo_sign {G : GG} {U : State} {A : Array Value} (h : g_C G U) : cd_Mo_sign.before A U = true := h.w (tb_4 (List.mem_of_getElem? (i := 155) rfl)) rfl
theorem ki_Mo_sign {G : GG} {U : State} {A : Array Value} (h : g_C G U) : (Cond.instanceMethod y_Mo_sign).before A U = true := h.w (tb_4 (List.mem_of_getElem? (i := 153) rfl)) rfl
theorem kv_Mo_sign {G : GG} {U : State} {A : Array Value} (h : g_C G U) : (Cond.selects R_Mo y_Mo_sign y_Mo_sign).before A U = true := h.w (tb_4 (List.mem_of_getElem? (i := 154) rfl)) rfl
theorem kc_Mo_fail {G : GG} {U : State} {A : Array Value} (h : g_C G U) : cd_Mo_fail.before A U = true := h.w (tb_4 (List.mem_of_getElem? (i := 175) rfl)) rfl
theorem ki_Mo_fail {G : GG} {U : State} {A : Array Value} (h : g_C G U) : (Cond.instanceMethod y_Mo_fail).before A U = true := h.w (tb_4 (List.mem_of_getElem? (i := 174) rfl)) rfl
theorem kv_Mo_fail {G : GG} {U : State} {A : Array Value} (h : g_C G U) : (Cond.selects R_Mo y_Mo_fail y_Mo_fail).before A U = true := h.w (List.mem_append_left _ (by decide +kernel)) rfl
theorem kc_Mo_see {G : GG} {U : State} {A : Array Value} (h : g_C G U) : cd_Mo_see.before A U = true := h.w (tb_4 (List.mem_of_getElem? (i := 167) rfl)) rfl
theorem ki_Mo_see {G : GG} {U : State} {A : Array Value} (h : g_C G U) : (Cond.instanceMethod y_Mo_see).before A U = true := h.w (tb_4 (List.mem_of_getElem? (i := 166) rfl)) rfl
theorem kv_Mo_see {G : GG} {U : State} {A : Array Value} (h : g_C G U) : (Cond.selects R_Mo y_Mo_see y_Mo_see).before A U = true := h.w (List.mem_append_left _ (by decide +kernel)) rfl
theorem kc_Mo_expect {G : GG} {U : State} {A : Array Value} (h : g_C G U) : cd_Mo_expect.before A U = true := h.w (tb_4 (List.mem_of_getElem? (i := 179) rfl)) rfl
theorem ki_Mo_expect {G : GG} {U : State} {A : Array Value} (h : g_C G U) : (Cond.instanceMethod y_Mo_expect).before A U = true := h.w (tb_4 (List.mem_of_getElem? (i := 178) rfl)) rfl
theorem kv_Mo_expect {G : GG} {U : State} {A : Array Value} (h : g_C G U) : (Cond.selects R_Mo y_Mo_expect y_Mo_expect).before A U = true := h.w (List.mem_append_left _ (by decide +kernel)) rfl
theorem kc_Mo_isDigit {G : GG} {U : State} {A : Array Value} (h : g_C G U) : cd_Mo_isDigit.before A U = true := h.w (tb_4 (List.mem_of_getElem? (i := 171) rfl)) rfl
theorem ki_Mo_isDigit {G : GG} {U : State} {A : Array Value} (h : g_C G U) : (Cond.instanceMethod y_Mo_isDigit).before A U = true := h.w (tb_4 (List.mem_of_getElem? (i := 170) rfl)) rfl
theorem kv_Mo_isDigit {G : GG} {U : State} {A : Array Value} (h : g_C G U) : (Cond.selects R_Mo y_Mo_isDigit y_Mo_isDigit).before A U = true := h.w (List.mem_append_left _ (by decide +kernel)) rfl
theorem kc_Mo_number {G : GG} {U : State} {A : Array Value} (h : g_C G U) : cd_Mo_number.before A U = true := h.w (tb_4 (List.mem_of_getElem? (i := 183) rfl)) rfl
theorem ki_Mo_number {G : GG} {U : State} {A : Array Value} (h : g_C G U) : (Cond.instanceMethod y_Mo_number).before A U = true := h.w (tb_4 (List.mem_of_getElem? (i := 182) rfl)) rfl
theorem kv_Mo_number {G : GG} {U : State} {A : Array Value} (h : g_C G U) : (Cond.selects R_Mo y_Mo_number y_Mo_number).before A U = true := h.w (List.mem_append_left _ (by decide +kernel)) rfl
theorem kc_Mo_readRow {G : GG} {U : State} {A : Array Value} (h : g_C G U) : cd_Mo_readRow.before A U = true := h.w (tb_4 (List.mem_of_getElem? (i := 163) rfl)) rfl
theorem ki_Mo_readRow {G : GG} {U : State} {A : Array Value} (h : g_C G U) : (Cond.instanceMethod y_Mo_readRow).before A U = true := h.w (tb_4 (List.mem_of_getElem? (i := 162) rfl)) rfl
theorem kv_Mo_readRow {G : GG} {U : State} {A : Array Value} (h : g_C G U) : (Cond.selects R_Mo y_Mo_readRow y_Mo_readRow).before A U = true := h.w (List.mem_append_left _ (by decide +kernel)) rfl
theorem kc_Mo_tariff {G : GG} {U : State} {A : Array Value} (h : g_C G U) : cd_Mo_tariff.before A U = true := h.w (tb_4 (List.mem_of_getElem? (i := 159) rfl)) rfl
theorem ki_Mo_tariff {G : GG} {U : State} {A : Array Value} (h : g_C G U) : (Cond.instanceMethod y_Mo_tariff).before A U = true := h.w (tb_4 (List.mem_of_getElem? (i := 157) rfl)) rfl
theorem kv_Mo_tariff {G : GG} {U : State} {A : Array Value} (h : g_C G U) : (Cond.selects R_Mo y_Mo_tariff y_Mo_tariff).before A U = true := h.w (tb_4 (List.mem_of_getElem? (i := 158) rfl)) rfl
theorem kc_Mo_place {G : GG} {U : State} {A : Array Value} (h : g_C G U) : cd_Mo_place.before A U = true := h.w (tb_4 (List.mem_of_getElem? (i := 187) rfl)) rfl
theorem ki_Mo_place {G : GG} {U : State} {A : Array Value} (h : g_C G U) : (Cond.instanceMethod y_Mo_place).before A U = true := h.w (tb_4 (List.mem_of_getElem? (i := 185) rfl)) rfl
theorem kv_Mo_place {G : GG} {U : State} {A : Array Value} (h : g_C G U) : (Cond.selects R_Mo y_Mo_place y_Mo_place).before A U = true := h.w (tb_4 (List.mem_of_getElem? (i := 186) rfl)) rfl
theorem kc_Mo_bill {G : GG} {U : State} {A : Array Value} (h : g_C G U) : cd_Mo_bill.before A U = true := h.w (tb_4 (List.mem_of_getElem? (i := 191) rfl)) rfl
theorem ki_Mo_bill {G : GG} {U : State} {A : Array Value} (h : g_C G U) : (Cond.instanceMethod y_Mo_bill).before A U = true := h.w (tb_4 (List.mem_of_getElem? (i := 189) rfl)) rfl
theorem kv_Mo_bill {G : GG} {U : State} {A : Array Value} (h : g_C G U) : (Cond.selects R_Mo y_Mo_bill y_Mo_bill).before A U = true := h.w (tb_4 (List.mem_of_getElem? (i := 190) rfl)) rfl
theorem kc_Mo_isBill {G : GG} {U : State} {A : Array Value} (h : g_C G U) : cd_Mo_isBill.before A U = true := h.w (tb_4 (List.mem_of_getElem? (i := 201) rfl)) rfl
theorem ki_Mo_isBill {G : GG} {U : State} {A : Array Value} (h : g_C G U) : (Cond.instanceMethod y_Mo_isBill).before A U = true := h.w (tb_4 (List.mem_of_getElem? (i := 200) rfl)) rfl
theorem kv_Mo_isBill {G : GG} {U : State} {A : Array Value} (h : g_C G U) : (Cond.selects R_Mo y_Mo_isBill y_Mo_isBill).before A U = true := h.w (List.mem_append_left _ (by decide +kernel)) rfl
theorem kc_Mo_pay {G : GG} {U : State} {A : Array Value} (h : g_C G U) : cd_Mo_pay.before A U = true := h.w (tb_4 (List.mem_of_getElem? (i := 197) rfl)) rfl
theorem ki_Mo_pay {G : GG} {U : State} {A : Array Value} (h : g_C G U) : (Cond.instanceMethod y_Mo_pay).before A U = true := h.w (tb_4 (List.mem_of_getElem? (i := 195) rfl)) rfl
theorem kv_Mo_pay {G : GG} {U : State} {A : Array Value} (h : g_C G U) : (Cond.selects R_Mo y_Mo_pay y_Mo_pay).before A U = true := h.w (tb_4 (List.mem_of_getElem? (i := 196) rfl)) rfl
theorem kc_Mo_dispute {G : GG} {U : State} {A : Array Value} (h : g_C G U) : cd_Mo_dispute.before A U = true := h.w (tb_4 (List.mem_of_getElem? (i := 205) rfl)) rfl
theorem ki_Mo_dispute {G : GG} {U : State} {A : Array Value} (h : g_C G U) : (Cond.instanceMethod y_Mo_dispute).before A U = true := h.w (tb_4 (List.mem_of_getElem? (i := 203) rfl)) rfl
theorem kv_Mo_dispute {G : GG} {U : State} {A : Array Value} (h : g_C G U) : (Cond.selects R_Mo y_Mo_dispute y_Mo_dispute).before A U = true := h.w (tb_4 (List.mem_of_getElem? (i := 204) rfl)) rfl
theorem kc_Mo_remind {G : GG} {U : State} {A : Array Value} (h : g_C G U) : cd_Mo_remind.before A U = true := h.w (tb_4 (List.mem_of_getElem? (i := 209) rfl)) rfl
theorem ki_Mo_remind {G : GG} {U : State} {A : Array Value} (h : g_C G U) : (Cond.instanceMethod y_Mo_remind).before A U = true := h.w (tb_4 (List.mem_of_getElem? (i := 207) rfl)) rfl
theorem kv_Mo_remind {G : GG} {U : State} {A : Array Value} (h : g_C G U) : (Cond.selects R_Mo y_Mo_remind y_Mo_remind).before A U = true := h.w (tb_4 (List.mem_of_getElem? (i := 208) rfl)) rfl
theorem kc_Mo_billAt {G : GG} {U : State} {A : Array Value} (h : g_C G U) : cd_Mo_billAt.before A U = true := h.w (tb_4 (List.mem_of_getElem? (i := 213) rfl)) rfl
theorem ki_Mo_billAt {G : GG} {U : State} {A : Array Value} (h : g_C G U) : (Cond.instanceMethod y_Mo_billAt).before A U = true := h.w (tb_4 (List.mem_of_getElem? (i := 211) rfl)) rfl
theorem kv_Mo_billAt {G : GG} {U : State} {A : Array Value} (h : g_C G U) : (Cond.selects R_Mo y_Mo_billAt y_Mo_billAt).before A U = true := h.w (tb_4 (List.mem_of_getElem? (i := 212) rfl)) rfl
theorem kc_Mo_weight {G : GG} {U : State} {A : Array Value} (h : g_C G U) : cd_Mo_weight.before A U = true := h.w (tb_4 (List.mem_of_getElem? (i := 217) rfl)) rfl
theorem ki_Mo_weight {G : GG} {U : State} {A : Array Value} (h : g_C G U) : (Cond.instanceMethod y_Mo_weight).before A U = true := h.w (tb_4 (List.mem_of_getElem? (i := 215) rfl)) rfl
theorem kv_Mo_weight {G : GG} {U : State} {A : Array Value} (h : g_C G U) : (Cond.selects R_Mo y_Mo_weight y_Mo_weight).before A U = true := h.w (tb_4 (List.mem_of_getElem? (i := 216) rfl)) rfl
theorem kc_Mo_share {G : GG} {U : State} {A : Array Value} (h : g_C G U) : cd_Mo_share.before A U = true := h.w (tb_4 (List.mem_of_getElem? (i := 221) rfl)) rfl
theorem ki_Mo_share {G : GG} {U : State} {A : Array Value} (h : g_C G U) : (Cond.instanceMethod y_Mo_share).before A U = true := h.w (tb_4 (List.mem_of_getElem? (i := 219) rfl)) rfl
theorem kv_Mo_share {G : GG} {U : State} {A : Array Value} (h : g_C G U) : (Cond.selects R_Mo y_Mo_share y_Mo_share).before A U = true := h.w (tb_4 (List.mem_of_getElem? (i := 220) rfl)) rfl
theorem kc_Mo_grant {G : GG} {U : State} {A : Array Value} (h : g_C G U) : cd_Mo_grant.before A U = true := h.w (tb_4 (List.mem_of_getElem? (i := 225) rfl)) rfl
theorem ki_Mo_grant {G : GG} {U : State} {A : Array Value} (h : g_C G U) : (Cond.instanceMethod y_Mo_grant).before A U = true := h.w (tb_4 (List.mem_of_getElem? (i := 223) rfl)) rfl
theorem kv_Mo_grant {G : GG} {U : State} {A : Array Value} (h : g_C G U) : (Cond.selects R_Mo y_Mo_grant y_Mo_grant).before A U = true := h.w (tb_4 (List.mem_of_getElem? (i := 224) rfl)) rfl
theorem kc_Mo_use {G : GG} {U : State} {A : Array Value} (h : g_C G U) : cd_Mo_use.before A U = true := h.w (tb_4 (List.mem_of_getElem? (i := 229) rfl)) rfl
theorem ki_Mo_use {G : GG} {U : State} {A : Array Value} (h : g_C G U) : (Cond.instanceMethod y_Mo_use).before A U = true := h.w (tb_4 (List.mem_of_getElem? (i := 227) rfl)) rfl
theorem kv_Mo_use {G : GG} {U : State} {A : Array Value} (h : g_C G U) : (Cond.selects R_Mo y_Mo_use y_Mo_use).before A U = true := h.w (tb_4 (List.mem_of_getElem? (i := 228) rfl)) rfl
theorem kc_Mo_row {G : GG} {U : State} {A : Array Value} (h : g_C G U) : cd_Mo_row.before A U = true := h.w (tb_4 (List.mem_of_getElem? (i := 233) rfl)) rfl
theorem ki_Mo_row {G : GG} {U : State} {A : Array Value} (h : g_C G U) : (Cond.instanceMethod y_Mo_row).before A U = true := h.w (tb_4 (List.mem_of_getElem? (i := 231) rfl)) rfl
theorem kv_Mo_row {G : GG} {U : State} {A : Array Value} (h : g_C G U) : (Cond.selects R_Mo y_Mo_row y_Mo_row).before A U = true := h.w (tb_4 (List.mem_of_getElem? (i := 232) rfl)) rfl
theorem kc_Mo_post {G : GG} {U : State} {A : Array Value} (h : g_C G U) : cd_Mo_post.before A U = true := h.w (tb_4 (List.mem_of_getElem? (i := 238) rfl)) rfl
theorem ki_Mo_post {G : GG} {U : State} {A : Array Value} (h : g_C G U) : (Cond.instanceMethod y_Mo_post).before A U = true := h.w (tb_4 (List.mem_of_getElem? (i := 236) rfl)) rfl
theorem kv_Mo_post {G : GG} {U : State} {A : Array Value} (h : g_C G U) : (Cond.selects R_Mo y_Mo_post y_Mo_post).before A U = true := h.w (tb_4 (List.mem_of_getElem? (i := 237) rfl)) rfl
theorem kc_Mo_balance {G : GG} {U : State} {A : Array Value} (h : g_C G U) : cd_Mo_balance.before A U = true := h.w (tb_5 (List.mem_of_getElem? (i := 2) rfl)) rfl
theorem ki_Mo_balance {G : GG} {U : State} {A : Array Value} (h : g_C G U) : (Cond.instanceMethod y_Mo_balance).before A U = true := h.w (tb_5 (List.mem_of_getElem? (i := 0) rfl)) rfl
theorem kv_Mo_balance {G : GG} {U : State} {A : Array Value} (h : g_C G U) : (Cond.selects R_Mo y_Mo_balance y_Mo_balance).before A U = true := h.w (tb_5 (List.mem_of_getElem? (i := 1) rfl)) rfl
theorem kc_Mo_close {G : GG} {U : State} {A : Array Value} (h : g_C G U) : cd_Mo_close.before A U = true := h.w (tb_5 (List.mem_of_getElem? (i := 6) rfl)) rfl
theorem ki_Mo_close {G : GG} {U : State} {A : Array Value} (h : g_C G U) : (Cond.instanceMethod y_Mo_close).before A U = true := h.w (tb_5 (List.mem_of_getElem? (i := 4) rfl)) rfl
theorem kv_Mo_close {G : GG} {U : State} {A : Array Value} (h : g_C G U) : (Cond.selects R_Mo y_Mo_close y_Mo_close).before A U = true := h.w (tb_5 (List.mem_of_getElem? (i := 5) rfl)) rfl
theorem kc_Mo_forecast {G : GG} {U : State} {A : Array Value} (h : g_C G U) : cd_Mo_forecast.before A U = true := h.w (tb_5 (List.mem_of_getElem? (i := 10) rfl)) rfl
theorem ki_Mo_forecast {G : GG} {U : State} {A : Array Value} (h : g_C G U) : (Cond.instanceMethod y_Mo_forecast).before A U = true := h.w (tb_5 (List.mem_of_getElem? (i := 8) rfl)) rfl
theorem kv_Mo_forecast {G : GG} {U : State} {A : Array Value} (h : g_C G U) : (Cond.selects R_Mo y_Mo_forecast y_Mo_forecast).before A U = true := h.w (tb_5 (List.mem_of_getElem? (i := 9) rfl)) rfl
theorem kc_La_budget {G : GG} {U : State} {A : Array Value} (h : g_C G U) : cd_La_budget.before A U = true := h.w (tb_2 (List.mem_of_getElem? (i := 21) rfl)) rfl
theorem ks_La_budget {G : GG} {U : State} {A : Array Value} (h : g_C G U) : (Cond.static y_La_budget).before A U = true := h.w (tb_2 (List.mem_of_getElem? (i := 20) rfl)) rfl
theorem kc_La_budgetAt {G : GG} {U : State} {A : Array Value} (h : g_C G U) : cd_La_budgetAt.before A U = true := h.w (tb_2 (List.mem_of_getElem? (i := 154) rfl)) rfl
theorem ks_La_budgetAt {G : GG} {U : State} {A : Array Value} (h : g_C G U) : (Cond.static y_La_budgetAt).before A U = true := h.w (tb_2 (List.mem_of_getElem? (i := 153) rfl)) rfl
theorem kc_La_band {G : GG} {U : State} {A : Array Value} (h : g_C G U) : cd_La_band.before A U = true := h.w (tb_2 (List.mem_of_getElem? (i := 166) rfl)) rfl
theorem ks_La_band {G : GG} {U : State} {A : Array Value} (h : g_C G U) : (Cond.static y_La_band).before A U = true := h.w (tb_2 (List.mem_of_getElem? (i := 165) rfl)) rfl
theorem kc_La_order {G : GG} {U : State} {A : Array Value} (h : g_C G U) : cd_La_order.before A U = true := h.w (tb_2 (List.mem_of_getElem? (i := 173) rfl)) rfl
theorem ks_La_order {G : GG} {U : State} {A : Array Value} (h : g_C G U) : (Cond.static y_La_order).before A U = true := h.w (tb_2 (List.mem_of_getElem? (i := 172) rfl)) rfl
theorem kc_La_invoice {G : GG} {U : State} {A : Array Value} (h : g_C G U) : cd_La_invoice.before A U = true := h.w (tb_2 (List.mem_of_getElem? (i := 204) rfl)) rfl
theorem ks_La_invoice {G : GG} {U : State} {A : Array Value} (h : g_C G U) : (Cond.static y_La_invoice).before A U = true := h.w (tb_2 (List.mem_of_getElem? (i := 203) rfl)) rfl
theorem kc_La_cancel {G : GG} {U : State} {A : Array Value} (h : g_C G U) : cd_La_cancel.before A U = true := h.w (tb_2 (List.mem_of_getElem? (i := 223) rfl)) rfl
theorem ks_La_cancel {G : GG} {U : State} {A : Array Value} (h : g_C G U) : (Cond.static y_La_cancel).before A U = true := h.w (tb_2 (List.mem_of_getElem? (i := 222) rfl)) rfl
theorem kc_La_sign {G : GG} {U : State} {A : Array Value} (h : g_C G U) : cd_La_sign.before A U = true := h.w (tb_2 (List.mem_of_getElem? (i := 230) rfl)) rfl
theorem ks_La_sign {G : GG} {U : State} {A : Array Value} (h : g_C G U) : (Cond.static y_La_sign).before A U = true := h.w (tb_2 (List.mem_of_getElem? (i := 229) rfl)) rfl
theorem kc_La_tariff {G : GG} {U : State} {A : Array Value} (h : g_C G U) : cd_La_tariff.before A U = true := h.w (tb_3 (List.mem_of_getElem? (i := 1) rfl)) rfl
theorem ks_La_tariff {G : GG} {U : State} {A : Array Value} (h : g_C G U) : (Cond.static y_La_tariff).before A U = true := h.w (tb_3 (List.mem_of_getElem? (i := 0) rfl)) rfl
theorem kc_La_bill {G : GG} {U : State} {A : Array Value} (h : g_C G U) : cd_La_bill.before A U = true := h.w (tb_3 (List.mem_of_getElem? (i := 47) rfl)) rfl
theorem ks_La_bill {G : GG} {U : State} {A : Array Value} (h : g_C G U) : (Cond.static y_La_bill).before A U = true := h.w (tb_3 (List.mem_of_getElem? (i := 46) rfl)) rfl
theorem kc_La_pay {G : GG} {U : State} {A : Array Value} (h : g_C G U) : cd_La_pay.before A U = true := h.w (tb_3 (List.mem_of_getElem? (i := 68) rfl)) rfl
theorem ks_La_pay {G : GG} {U : State} {A : Array Value} (h : g_C G U) : (Cond.static y_La_pay).before A U = true := h.w (tb_3 (List.mem_of_getElem? (i := 67) rfl)) rfl
theorem kc_La_dispute {G : GG} {U : State} {A : Array Value} (h : g_C G U) : cd_La_dispute.before A U = true := h.w (tb_3 (List.mem_of_getElem? (i := 79) rfl)) rfl
theorem ks_La_dispute {G : GG} {U : State} {A : Array Value} (h : g_C G U) : (Cond.static y_La_dispute).before A U = true := h.w (tb_3 (List.mem_of_getElem? (i := 78) rfl)) rfl
theorem kc_La_remind {G : GG} {U : State} {A : Array Value} (h : g_C G U) : cd_La_remind.before A U = true := h.w (tb_3 (List.mem_of_getElem? (i := 91) rfl)) rfl
theorem ks_La_remind {G : GG} {U : State} {A : Array Value} (h : g_C G U) : (Cond.static y_La_remind).before A U = true := h.w (tb_3 (List.mem_of_getElem? (i := 90) rfl)) rfl
theorem kc_La_billAt {G : GG} {U : State} {A : Array Value} (h : g_C G U) : cd_La_billAt.before A U = true := h.w (tb_3 (List.mem_of_getElem? (i := 103) rfl)) rfl
theorem ks_La_billAt {G : GG} {U : State} {A : Array Value} (h : g_C G U) : (Cond.static y_La_billAt).before A U = true := h.w (tb_3 (List.mem_of_getElem? (i := 102) rfl)) rfl
theorem kc_La_weight {G : GG} {U : State} {A : Array Value} (h : g_C G U) : cd_La_weight.before A U = true := h.w (tb_3 (List.mem_of_getElem? (i := 110) rfl)) rfl
theorem ks_La_weight {G : GG} {U : State} {A : Array Value} (h : g_C G U) : (Cond.static y_La_weight).before A U = true := h.w (tb_3 (List.mem_of_getElem? (i := 109) rfl)) rfl
theorem kc_La_share {G : GG} {U : State} {A : Array Value} (h : g_C G U) : cd_La_share.before A U = true := h.w (tb_3 (List.mem_of_getElem? (i := 117) rfl)) rfl
theorem ks_La_share {G : GG} {U : State} {A : Array Value} (h : g_C G U) : (Cond.static y_La_share).before A U = true := h.w (tb_3 (List.mem_of_getElem? (i := 116) rfl)) rfl
theorem kc_La_grant {G : GG} {U : State} {A : Array Value} (h : g_C G U) : cd_La_grant.before A U = true := h.w (tb_3 (List.mem_of_getElem? (i := 161) rfl)) rfl
theorem ks_La_grant {G : GG} {U : State} {A : Array Value} (h : g_C G U) : (Cond.static y_La_grant).before A U = true := h.w (tb_3 (List.mem_of_getElem? (i := 160) rfl)) rfl
theorem kc_La_use {G : GG} {U : State} {A : Array Value} (h : g_C G U) : cd_La_use.before A U = true := h.w (tb_3 (List.mem_of_getElem? (i := 172) rfl)) rfl
theorem ks_La_use {G : GG} {U : State} {A : Array Value} (h : g_C G U) : (Cond.static y_La_use).before A U = true := h.w (tb_3 (List.mem_of_getElem? (i := 171) rfl)) rfl
theorem kc_La_row {G : GG} {U : State} {A : Array Value} (h : g_C G U) : cd_La_row.before A U = true := h.w (tb_3 (List.mem_of_getElem? (i := 179) rfl)) rfl
theorem ks_La_row {G : GG} {U : State} {A : Array Value} (h : g_C G U) : (Cond.static y_La_row).before A U = true := h.w (tb_3 (List.mem_of_getElem? (i := 178) rfl)) rfl
theorem kc_La_post {G : GG} {U : State} {A : Array Value} (h : g_C G U) : cd_La_post.before A U = true := h.w (tb_3 (List.mem_of_getElem? (i := 191) rfl)) rfl
theorem ks_La_post {G : GG} {U : State} {A : Array Value} (h : g_C G U) : (Cond.static y_La_post).before A U = true := h.w (tb_3 (List.mem_of_getElem? (i := 190) rfl)) rfl
theorem kc_La_balance {G : GG} {U : State} {A : Array Value} (h : g_C G U) : cd_La_balance.before A U = true := h.w (tb_3 (List.mem_of_getElem? (i := 213) rfl)) rfl
theorem ks_La_balance {G : GG} {U : State} {A : Array Value} (h : g_C G U) : (Cond.static y_La_balance).before A U = true := h.w (tb_3 (List.mem_of_getElem? (i := 212) rfl)) rfl
theorem kc_La_close {G : GG} {U : State} {A : Array Value} (h : g_C G U) : cd_La_close.before A U = true := h.w (tb_3 (List.mem_of_getElem? (i := 221) rfl)) rfl
theorem ks_La_close {G : GG} {U : State} {A : Array Value} (h : g_C G U) : (Cond.static y_La_close).before A U = true := h.w (tb_3 (List.mem_of_getElem? (i := 220) rfl)) rfl
theorem kc_La_forecast {G : GG} {U : State} {A : Array Value} (h : g_C G U) : cd_La_forecast.before A U = true := h.w (tb_3 (List.mem_of_getElem? (i := 232) rfl)) rfl
theorem ks_La_forecast {G : GG} {U : State} {A : Array Value} (h : g_C G U) : (Cond.static y_La_forecast).before A U = true := h.w (tb_3 (List.mem_of_getElem? (i := 231) rfl)) rfl
