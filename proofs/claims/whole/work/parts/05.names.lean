/-! NAMES, printed by wip/names.py out of the task: classes and their fields, methods, what stands at each place of the tables -/
def R_CB : String := "CostBooks"
def F_CB : u_T := fun k => match k with
  | 0 => ("CostBooks", "budgets", "LCostBooks$Budgets;", true)
  | 1 => ("CostBooks", "orders", "LCostBooks$Orders;", true)
  | 2 => ("CostBooks", "tape", "LCostBooks$Tape;", true)
  | 3 => ("CostBooks", "reader", "LCostBooks$TariffReader;", true)
  | 4 => ("CostBooks", "charges", "LCostBooks$Tariff;", true)
  | 5 => ("CostBooks", "bills", "LCostBooks$Bills;", true)
  | 6 => ("CostBooks", "houses", "LCostBooks$Houses;", true)
  | 7 => ("CostBooks", "grants", "LCostBooks$Grants;", true)
  | 8 => ("CostBooks", "ledger", "LCostBooks$Ledger;", true)
  | 9 => ("CostBooks", "bandThousandths", "I", false)
  | 10 => ("CostBooks", "wrongPlace", "I", false)
  | _ => ("CostBooks", "closedYears", "I", false)
def t_CB : Nat → FieldType := fun k => match k with
  | 0 => .object "CostBooks$Budgets"
  | 1 => .object "CostBooks$Orders"
  | 2 => .object "CostBooks$Tape"
  | 3 => .object "CostBooks$TariffReader"
  | 4 => .object "CostBooks$Tariff"
  | 5 => .object "CostBooks$Bills"
  | 6 => .object "CostBooks$Houses"
  | 7 => .object "CostBooks$Grants"
  | 8 => .object "CostBooks$Ledger"
  | 9 => .int
  | 10 => .int
  | _ => .int
theorem n_CB : ∀ a, a < 12 → ∀ b, b < 12 → a ≠ b → (F_CB a).2.1 ≠ (F_CB b).2.1 := by decide +kernel
theorem t_CB_ok : ∀ k, k < 12 → parseFieldDescriptor (F_CB k).2.2.1 = some (t_CB k) := by decide +kernel
def R_Bu : String := "CostBooks$Budgets"
def F_Bu : u_T := fun k => match k with
  | 0 => ("CostBooks$Budgets", "total", "[I", true)
  | 1 => ("CostBooks$Budgets", "held", "[I", true)
  | _ => ("CostBooks$Budgets", "spent", "[I", true)
def t_Bu : Nat → FieldType := fun k => match k with
  | 0 => .array .int
  | 1 => .array .int
  | _ => .array .int
theorem n_Bu : ∀ a, a < 3 → ∀ b, b < 3 → a ≠ b → (F_Bu a).2.1 ≠ (F_Bu b).2.1 := by decide +kernel
theorem t_Bu_ok : ∀ k, k < 3 → parseFieldDescriptor (F_Bu k).2.2.1 = some (t_Bu k) := by decide +kernel
def R_Or : String := "CostBooks$Orders"
def F_Or : u_T := fun k => match k with
  | 0 => ("CostBooks$Orders", "slot", "[I", true)
  | 1 => ("CostBooks$Orders", "cents", "[I", true)
  | 2 => ("CostBooks$Orders", "open", "[Z", true)
  | _ => ("CostBooks$Orders", "count", "I", false)
def t_Or : Nat → FieldType := fun k => match k with
  | 0 => .array .int
  | 1 => .array .int
  | 2 => .array .boolean
  | _ => .int
theorem n_Or : ∀ a, a < 4 → ∀ b, b < 4 → a ≠ b → (F_Or a).2.1 ≠ (F_Or b).2.1 := by decide +kernel
theorem t_Or_ok : ∀ k, k < 4 → parseFieldDescriptor (F_Or k).2.2.1 = some (t_Or k) := by decide +kernel
def R_Ta : String := "CostBooks$Tape"
def F_Ta : u_T := fun k => match k with
  | 0 => ("CostBooks$Tape", "bytes", "[I", true)
  | _ => ("CostBooks$Tape", "length", "I", false)
def t_Ta : Nat → FieldType := fun k => match k with
  | 0 => .array .int
  | _ => .int
theorem n_Ta : ∀ a, a < 2 → ∀ b, b < 2 → a ≠ b → (F_Ta a).2.1 ≠ (F_Ta b).2.1 := by decide +kernel
theorem t_Ta_ok : ∀ k, k < 2 → parseFieldDescriptor (F_Ta k).2.2.1 = some (t_Ta k) := by decide +kernel
def R_Re : String := "CostBooks$TariffReader"
def F_Re : u_T := fun k => match k with
  | 0 => ("CostBooks$TariffReader", "base", "[I", true)
  | 1 => ("CostBooks$TariffReader", "hour", "[I", true)
  | 2 => ("CostBooks$TariffReader", "told", "[Z", true)
  | 3 => ("CostBooks$TariffReader", "rows", "I", false)
  | 4 => ("CostBooks$TariffReader", "part", "I", false)
  | 5 => ("CostBooks$TariffReader", "kind", "I", false)
  | 6 => ("CostBooks$TariffReader", "number", "I", false)
  | _ => ("CostBooks$TariffReader", "digits", "I", false)
def t_Re : Nat → FieldType := fun k => match k with
  | 0 => .array .int
  | 1 => .array .int
  | 2 => .array .boolean
  | 3 => .int
  | 4 => .int
  | 5 => .int
  | 6 => .int
  | _ => .int
theorem n_Re : ∀ a, a < 8 → ∀ b, b < 8 → a ≠ b → (F_Re a).2.1 ≠ (F_Re b).2.1 := by decide +kernel
theorem t_Re_ok : ∀ k, k < 8 → parseFieldDescriptor (F_Re k).2.2.1 = some (t_Re k) := by decide +kernel
def R_Tf : String := "CostBooks$Tariff"
def F_Tf : u_T := fun k => match k with
  | 0 => ("CostBooks$Tariff", "base", "[I", true)
  | _ => ("CostBooks$Tariff", "hour", "[I", true)
def t_Tf : Nat → FieldType := fun k => match k with
  | 0 => .array .int
  | _ => .array .int
theorem n_Tf : ∀ a, a < 2 → ∀ b, b < 2 → a ≠ b → (F_Tf a).2.1 ≠ (F_Tf b).2.1 := by decide +kernel
theorem t_Tf_ok : ∀ k, k < 2 → parseFieldDescriptor (F_Tf k).2.2.1 = some (t_Tf k) := by decide +kernel
def R_Bi : String := "CostBooks$Bills"
def F_Bi : u_T := fun k => match k with
  | 0 => ("CostBooks$Bills", "cents", "[I", true)
  | 1 => ("CostBooks$Bills", "paid", "[I", true)
  | 2 => ("CostBooks$Bills", "dueDay", "[I", true)
  | 3 => ("CostBooks$Bills", "reminded", "[I", true)
  | 4 => ("CostBooks$Bills", "disputed", "[Z", true)
  | _ => ("CostBooks$Bills", "count", "I", false)
def t_Bi : Nat → FieldType := fun k => match k with
  | 0 => .array .int
  | 1 => .array .int
  | 2 => .array .int
  | 3 => .array .int
  | 4 => .array .boolean
  | _ => .int
theorem n_Bi : ∀ a, a < 6 → ∀ b, b < 6 → a ≠ b → (F_Bi a).2.1 ≠ (F_Bi b).2.1 := by decide +kernel
theorem t_Bi_ok : ∀ k, k < 6 → parseFieldDescriptor (F_Bi k).2.2.1 = some (t_Bi k) := by decide +kernel
def R_Ho : String := "CostBooks$Houses"
def F_Ho : u_T := fun k => match k with
  | _ => ("CostBooks$Houses", "weights", "[I", true)
def t_Ho : Nat → FieldType := fun k => match k with
  | _ => .array .int
theorem n_Ho : ∀ a, a < 1 → ∀ b, b < 1 → a ≠ b → (F_Ho a).2.1 ≠ (F_Ho b).2.1 := by decide +kernel
theorem t_Ho_ok : ∀ k, k < 1 → parseFieldDescriptor (F_Ho k).2.2.1 = some (t_Ho k) := by decide +kernel
def R_Gr : String := "CostBooks$Grants"
def F_Gr : u_T := fun k => match k with
  | 0 => ("CostBooks$Grants", "purpose", "[I", true)
  | 1 => ("CostBooks$Grants", "left", "[I", true)
  | _ => ("CostBooks$Grants", "count", "I", false)
def t_Gr : Nat → FieldType := fun k => match k with
  | 0 => .array .int
  | 1 => .array .int
  | _ => .int
theorem n_Gr : ∀ a, a < 3 → ∀ b, b < 3 → a ≠ b → (F_Gr a).2.1 ≠ (F_Gr b).2.1 := by decide +kernel
theorem t_Gr_ok : ∀ k, k < 3 → parseFieldDescriptor (F_Gr k).2.2.1 = some (t_Gr k) := by decide +kernel
def R_Le : String := "CostBooks$Ledger"
def F_Le : u_T := fun k => match k with
  | 0 => ("CostBooks$Ledger", "balances", "[J", true)
  | 1 => ("CostBooks$Ledger", "accounts", "[I", true)
  | 2 => ("CostBooks$Ledger", "cents", "[I", true)
  | _ => ("CostBooks$Ledger", "rows", "I", false)
def t_Le : Nat → FieldType := fun k => match k with
  | 0 => .array .long
  | 1 => .array .int
  | 2 => .array .int
  | _ => .int
theorem n_Le : ∀ a, a < 4 → ∀ b, b < 4 → a ≠ b → (F_Le a).2.1 ≠ (F_Le b).2.1 := by decide +kernel
theorem t_Le_ok : ∀ k, k < 4 → parseFieldDescriptor (F_Le k).2.2.1 = some (t_Le k) := by decide +kernel
def R_Mo : String := "CostBooksModel"
def F_Mo : u_T := fun k => match k with
  | 0 => ("CostBooksModel", "thrown", "I", false)
  | 1 => ("CostBooksModel", "total", "[I", true)
  | 2 => ("CostBooksModel", "held", "[I", true)
  | 3 => ("CostBooksModel", "spent", "[I", true)
  | 4 => ("CostBooksModel", "closed", "[Z", true)
  | 5 => ("CostBooksModel", "band", "I", false)
  | 6 => ("CostBooksModel", "orders", "I", false)
  | 7 => ("CostBooksModel", "orderAt", "[I", true)
  | 8 => ("CostBooksModel", "orderCents", "[I", true)
  | 9 => ("CostBooksModel", "orderState", "[I", true)
  | 10 => ("CostBooksModel", "tape", "[I", true)
  | 11 => ("CostBooksModel", "taped", "I", false)
  | 12 => ("CostBooksModel", "length", "I", false)
  | 13 => ("CostBooksModel", "at", "I", false)
  | 14 => ("CostBooksModel", "wrong", "Z", false)
  | 15 => ("CostBooksModel", "place", "I", false)
  | 16 => ("CostBooksModel", "told", "[Z", true)
  | 17 => ("CostBooksModel", "base", "[I", true)
  | 18 => ("CostBooksModel", "hour", "[I", true)
  | 19 => ("CostBooksModel", "bills", "I", false)
  | 20 => ("CostBooksModel", "billCents", "[I", true)
  | 21 => ("CostBooksModel", "paid", "[I", true)
  | 22 => ("CostBooksModel", "due", "[I", true)
  | 23 => ("CostBooksModel", "reminded", "[I", true)
  | 24 => ("CostBooksModel", "disputed", "[Z", true)
  | 25 => ("CostBooksModel", "weights", "[I", true)
  | 26 => ("CostBooksModel", "grants", "I", false)
  | 27 => ("CostBooksModel", "purpose", "[I", true)
  | 28 => ("CostBooksModel", "left", "[I", true)
  | 29 => ("CostBooksModel", "rows", "I", false)
  | 30 => ("CostBooksModel", "rowAccount", "[I", true)
  | 31 => ("CostBooksModel", "rowCents", "[I", true)
  | _ => ("CostBooksModel", "balances", "[J", true)
def t_Mo : Nat → FieldType := fun k => match k with
  | 0 => .int
  | 1 => .array .int
  | 2 => .array .int
  | 3 => .array .int
  | 4 => .array .boolean
  | 5 => .int
  | 6 => .int
  | 7 => .array .int
  | 8 => .array .int
  | 9 => .array .int
  | 10 => .array .int
  | 11 => .int
  | 12 => .int
  | 13 => .int
  | 14 => .boolean
  | 15 => .int
  | 16 => .array .boolean
  | 17 => .array .int
  | 18 => .array .int
  | 19 => .int
  | 20 => .array .int
  | 21 => .array .int
  | 22 => .array .int
  | 23 => .array .int
  | 24 => .array .boolean
  | 25 => .array .int
  | 26 => .int
  | 27 => .array .int
  | 28 => .array .int
  | 29 => .int
  | 30 => .array .int
  | 31 => .array .int
  | _ => .array .long
theorem n_Mo : ∀ a, a < 33 → ∀ b, b < 33 → a ≠ b → (F_Mo a).2.1 ≠ (F_Mo b).2.1 := by decide +kernel
theorem t_Mo_ok : ∀ k, k < 33 → parseFieldDescriptor (F_Mo k).2.2.1 = some (t_Mo k) := by decide +kernel
def R_La : String := "CostBooksLaw"
abbrev eIA : String := "java/lang/IllegalArgumentException"
abbrev eIO : String := "java/lang/IndexOutOfBoundsException"
abbrev eIS : String := "java/lang/IllegalStateException"
abbrev eUO : String := "java/lang/UnsupportedOperationException"
abbrev eAR : String := "java/lang/ArithmeticException"
abbrev g_cl : List vw_C := [(R_CB, F_CB, 12), (R_Bu, F_Bu, 3), (R_Or, F_Or, 4), (R_Ta, F_Ta, 2), (R_Re, F_Re, 8), (R_Tf, F_Tf, 2), (R_Bi, F_Bi, 6), (R_Ho, F_Ho, 1), (R_Gr, F_Gr, 3), (R_Le, F_Le, 4), (R_Mo, F_Mo, 33)]
abbrev b_CB_init : ByteArray := prog_1_method_1_code
def y_CB_init : MethodName := ⟨R_CB, "<init>", "()V"⟩
def cd_CB_init : Cond := .code y_CB_init b_CB_init 1 none
theorem kh_CB_init : y_CB_init.cls ≠ "java/lang/invoke/MethodHandle" ∧ y_CB_init.cls ≠ "java/lang/invoke/VarHandle" := by decide +kernel
theorem kp_CB_init : (parseMethodDescriptor y_CB_init.desc).map (fun d => d.parameters.length) = some 0 := by decide +kernel
abbrev b_CB_budget : ByteArray := prog_1_method_2_code
def y_CB_budget : MethodName := ⟨R_CB, "budget", "(III)V"⟩
def cd_CB_budget : Cond := .code y_CB_budget b_CB_budget 5 none
theorem kh_CB_budget : y_CB_budget.cls ≠ "java/lang/invoke/MethodHandle" ∧ y_CB_budget.cls ≠ "java/lang/invoke/VarHandle" := by decide +kernel
theorem kp_CB_budget : (parseMethodDescriptor y_CB_budget.desc).map (fun d => d.parameters.length) = some 3 := by decide +kernel
abbrev b_CB_budgetAt : ByteArray := prog_1_method_3_code
def y_CB_budgetAt : MethodName := ⟨R_CB, "budgetAt", "(III)I"⟩
def cd_CB_budgetAt : Cond := .code y_CB_budgetAt b_CB_budgetAt 5 (some .int)
theorem kh_CB_budgetAt : y_CB_budgetAt.cls ≠ "java/lang/invoke/MethodHandle" ∧ y_CB_budgetAt.cls ≠ "java/lang/invoke/VarHandle" := by decide +kernel
theorem kp_CB_budgetAt : (parseMethodDescriptor y_CB_budgetAt.desc).map (fun d => d.parameters.length) = some 3 := by decide +kernel
abbrev b_CB_band : ByteArray := prog_1_method_4_code
def y_CB_band : MethodName := ⟨R_CB, "band", "(I)V"⟩
def cd_CB_band : Cond := .code y_CB_band b_CB_band 2 none
theorem kh_CB_band : y_CB_band.cls ≠ "java/lang/invoke/MethodHandle" ∧ y_CB_band.cls ≠ "java/lang/invoke/VarHandle" := by decide +kernel
theorem kp_CB_band : (parseMethodDescriptor y_CB_band.desc).map (fun d => d.parameters.length) = some 1 := by decide +kernel
abbrev b_CB_order : ByteArray := prog_1_method_5_code
def y_CB_order : MethodName := ⟨R_CB, "order", "(III)I"⟩
def cd_CB_order : Cond := .code y_CB_order b_CB_order 5 (some .int)
theorem kh_CB_order : y_CB_order.cls ≠ "java/lang/invoke/MethodHandle" ∧ y_CB_order.cls ≠ "java/lang/invoke/VarHandle" := by decide +kernel
theorem kp_CB_order : (parseMethodDescriptor y_CB_order.desc).map (fun d => d.parameters.length) = some 3 := by decide +kernel
abbrev b_CB_invoice : ByteArray := prog_1_method_6_code
def y_CB_invoice : MethodName := ⟨R_CB, "invoice", "(II)V"⟩
def cd_CB_invoice : Cond := .code y_CB_invoice b_CB_invoice 5 none
theorem kh_CB_invoice : y_CB_invoice.cls ≠ "java/lang/invoke/MethodHandle" ∧ y_CB_invoice.cls ≠ "java/lang/invoke/VarHandle" := by decide +kernel
theorem kp_CB_invoice : (parseMethodDescriptor y_CB_invoice.desc).map (fun d => d.parameters.length) = some 2 := by decide +kernel
abbrev b_CB_cancel : ByteArray := prog_1_method_7_code
def y_CB_cancel : MethodName := ⟨R_CB, "cancel", "(I)V"⟩
def cd_CB_cancel : Cond := .code y_CB_cancel b_CB_cancel 2 none
theorem kh_CB_cancel : y_CB_cancel.cls ≠ "java/lang/invoke/MethodHandle" ∧ y_CB_cancel.cls ≠ "java/lang/invoke/VarHandle" := by decide +kernel
theorem kp_CB_cancel : (parseMethodDescriptor y_CB_cancel.desc).map (fun d => d.parameters.length) = some 1 := by decide +kernel
abbrev b_CB_sign : ByteArray := prog_1_method_8_code
def y_CB_sign : MethodName := ⟨R_CB, "sign", "(JI)I"⟩
def cd_CB_sign : Cond := .code y_CB_sign b_CB_sign 4 (some .int)
theorem kh_CB_sign : y_CB_sign.cls ≠ "java/lang/invoke/MethodHandle" ∧ y_CB_sign.cls ≠ "java/lang/invoke/VarHandle" := by decide +kernel
theorem kp_CB_sign : (parseMethodDescriptor y_CB_sign.desc).map (fun d => d.parameters.length) = some 2 := by decide +kernel
abbrev b_CB_tariff : ByteArray := prog_1_method_9_code
def y_CB_tariff : MethodName := ⟨R_CB, "tariff", "()I"⟩
def cd_CB_tariff : Cond := .code y_CB_tariff b_CB_tariff 1 (some .int)
theorem kh_CB_tariff : y_CB_tariff.cls ≠ "java/lang/invoke/MethodHandle" ∧ y_CB_tariff.cls ≠ "java/lang/invoke/VarHandle" := by decide +kernel
theorem kp_CB_tariff : (parseMethodDescriptor y_CB_tariff.desc).map (fun d => d.parameters.length) = some 0 := by decide +kernel
abbrev b_CB_place : ByteArray := prog_1_method_10_code
def y_CB_place : MethodName := ⟨R_CB, "place", "()I"⟩
def cd_CB_place : Cond := .code y_CB_place b_CB_place 1 (some .int)
theorem kh_CB_place : y_CB_place.cls ≠ "java/lang/invoke/MethodHandle" ∧ y_CB_place.cls ≠ "java/lang/invoke/VarHandle" := by decide +kernel
theorem kp_CB_place : (parseMethodDescriptor y_CB_place.desc).map (fun d => d.parameters.length) = some 0 := by decide +kernel
abbrev b_CB_bill : ByteArray := prog_1_method_11_code
def y_CB_bill : MethodName := ⟨R_CB, "bill", "(IIII)I"⟩
def cd_CB_bill : Cond := .code y_CB_bill b_CB_bill 7 (some .int)
theorem kh_CB_bill : y_CB_bill.cls ≠ "java/lang/invoke/MethodHandle" ∧ y_CB_bill.cls ≠ "java/lang/invoke/VarHandle" := by decide +kernel
theorem kp_CB_bill : (parseMethodDescriptor y_CB_bill.desc).map (fun d => d.parameters.length) = some 4 := by decide +kernel
abbrev b_CB_pay : ByteArray := prog_1_method_12_code
def y_CB_pay : MethodName := ⟨R_CB, "pay", "(II)I"⟩
def cd_CB_pay : Cond := .code y_CB_pay b_CB_pay 3 (some .int)
theorem kh_CB_pay : y_CB_pay.cls ≠ "java/lang/invoke/MethodHandle" ∧ y_CB_pay.cls ≠ "java/lang/invoke/VarHandle" := by decide +kernel
theorem kp_CB_pay : (parseMethodDescriptor y_CB_pay.desc).map (fun d => d.parameters.length) = some 2 := by decide +kernel
abbrev b_CB_dispute : ByteArray := prog_1_method_13_code
def y_CB_dispute : MethodName := ⟨R_CB, "dispute", "(IZ)V"⟩
def cd_CB_dispute : Cond := .code y_CB_dispute b_CB_dispute 3 none
theorem kh_CB_dispute : y_CB_dispute.cls ≠ "java/lang/invoke/MethodHandle" ∧ y_CB_dispute.cls ≠ "java/lang/invoke/VarHandle" := by decide +kernel
theorem kp_CB_dispute : (parseMethodDescriptor y_CB_dispute.desc).map (fun d => d.parameters.length) = some 2 := by decide +kernel
abbrev b_CB_remind : ByteArray := prog_1_method_14_code
def y_CB_remind : MethodName := ⟨R_CB, "remind", "(I)I"⟩
def cd_CB_remind : Cond := .code y_CB_remind b_CB_remind 2 (some .int)
theorem kh_CB_remind : y_CB_remind.cls ≠ "java/lang/invoke/MethodHandle" ∧ y_CB_remind.cls ≠ "java/lang/invoke/VarHandle" := by decide +kernel
theorem kp_CB_remind : (parseMethodDescriptor y_CB_remind.desc).map (fun d => d.parameters.length) = some 1 := by decide +kernel
abbrev b_CB_billAt : ByteArray := prog_1_method_15_code
def y_CB_billAt : MethodName := ⟨R_CB, "billAt", "(II)I"⟩
def cd_CB_billAt : Cond := .code y_CB_billAt b_CB_billAt 3 (some .int)
theorem kh_CB_billAt : y_CB_billAt.cls ≠ "java/lang/invoke/MethodHandle" ∧ y_CB_billAt.cls ≠ "java/lang/invoke/VarHandle" := by decide +kernel
theorem kp_CB_billAt : (parseMethodDescriptor y_CB_billAt.desc).map (fun d => d.parameters.length) = some 2 := by decide +kernel
abbrev b_CB_weight : ByteArray := prog_1_method_16_code
def y_CB_weight : MethodName := ⟨R_CB, "weight", "(II)V"⟩
def cd_CB_weight : Cond := .code y_CB_weight b_CB_weight 3 none
theorem kh_CB_weight : y_CB_weight.cls ≠ "java/lang/invoke/MethodHandle" ∧ y_CB_weight.cls ≠ "java/lang/invoke/VarHandle" := by decide +kernel
theorem kp_CB_weight : (parseMethodDescriptor y_CB_weight.desc).map (fun d => d.parameters.length) = some 2 := by decide +kernel
abbrev b_CB_share : ByteArray := prog_1_method_17_code
def y_CB_share : MethodName := ⟨R_CB, "share", "(II)I"⟩
def cd_CB_share : Cond := .code y_CB_share b_CB_share 4 (some .int)
theorem kh_CB_share : y_CB_share.cls ≠ "java/lang/invoke/MethodHandle" ∧ y_CB_share.cls ≠ "java/lang/invoke/VarHandle" := by decide +kernel
theorem kp_CB_share : (parseMethodDescriptor y_CB_share.desc).map (fun d => d.parameters.length) = some 2 := by decide +kernel
abbrev b_CB_grant : ByteArray := prog_1_method_18_code
def y_CB_grant : MethodName := ⟨R_CB, "grant", "(II)I"⟩
def cd_CB_grant : Cond := .code y_CB_grant b_CB_grant 3 (some .int)
theorem kh_CB_grant : y_CB_grant.cls ≠ "java/lang/invoke/MethodHandle" ∧ y_CB_grant.cls ≠ "java/lang/invoke/VarHandle" := by decide +kernel
theorem kp_CB_grant : (parseMethodDescriptor y_CB_grant.desc).map (fun d => d.parameters.length) = some 2 := by decide +kernel
abbrev b_CB_use : ByteArray := prog_1_method_19_code
def y_CB_use : MethodName := ⟨R_CB, "use", "(III)I"⟩
def cd_CB_use : Cond := .code y_CB_use b_CB_use 4 (some .int)
theorem kh_CB_use : y_CB_use.cls ≠ "java/lang/invoke/MethodHandle" ∧ y_CB_use.cls ≠ "java/lang/invoke/VarHandle" := by decide +kernel
theorem kp_CB_use : (parseMethodDescriptor y_CB_use.desc).map (fun d => d.parameters.length) = some 3 := by decide +kernel
abbrev b_CB_row : ByteArray := prog_1_method_20_code
def y_CB_row : MethodName := ⟨R_CB, "row", "(II)I"⟩
def cd_CB_row : Cond := .code y_CB_row b_CB_row 3 (some .int)
theorem kh_CB_row : y_CB_row.cls ≠ "java/lang/invoke/MethodHandle" ∧ y_CB_row.cls ≠ "java/lang/invoke/VarHandle" := by decide +kernel
theorem kp_CB_row : (parseMethodDescriptor y_CB_row.desc).map (fun d => d.parameters.length) = some 2 := by decide +kernel
abbrev b_CB_post : ByteArray := prog_1_method_21_code
def y_CB_post : MethodName := ⟨R_CB, "post", "(I)I"⟩
def cd_CB_post : Cond := .code y_CB_post b_CB_post 4 (some .int)
theorem kh_CB_post : y_CB_post.cls ≠ "java/lang/invoke/MethodHandle" ∧ y_CB_post.cls ≠ "java/lang/invoke/VarHandle" := by decide +kernel
theorem kp_CB_post : (parseMethodDescriptor y_CB_post.desc).map (fun d => d.parameters.length) = some 1 := by decide +kernel
abbrev b_CB_balance : ByteArray := prog_1_method_22_code
def y_CB_balance : MethodName := ⟨R_CB, "balance", "(II)J"⟩
def cd_CB_balance : Cond := .code y_CB_balance b_CB_balance 3 (some .long)
theorem kh_CB_balance : y_CB_balance.cls ≠ "java/lang/invoke/MethodHandle" ∧ y_CB_balance.cls ≠ "java/lang/invoke/VarHandle" := by decide +kernel
theorem kp_CB_balance : (parseMethodDescriptor y_CB_balance.desc).map (fun d => d.parameters.length) = some 2 := by decide +kernel
abbrev b_CB_close : ByteArray := prog_1_method_23_code
def y_CB_close : MethodName := ⟨R_CB, "close", "(I)V"⟩
def cd_CB_close : Cond := .code y_CB_close b_CB_close 2 none
theorem kh_CB_close : y_CB_close.cls ≠ "java/lang/invoke/MethodHandle" ∧ y_CB_close.cls ≠ "java/lang/invoke/VarHandle" := by decide +kernel
theorem kp_CB_close : (parseMethodDescriptor y_CB_close.desc).map (fun d => d.parameters.length) = some 1 := by decide +kernel
abbrev b_CB_forecast : ByteArray := prog_1_method_24_code
def y_CB_forecast : MethodName := ⟨R_CB, "forecast", "(III)J"⟩
def cd_CB_forecast : Cond := .code y_CB_forecast b_CB_forecast 4 (some .long)
theorem kh_CB_forecast : y_CB_forecast.cls ≠ "java/lang/invoke/MethodHandle" ∧ y_CB_forecast.cls ≠ "java/lang/invoke/VarHandle" := by decide +kernel
theorem kp_CB_forecast : (parseMethodDescriptor y_CB_forecast.desc).map (fun d => d.parameters.length) = some 3 := by decide +kernel
abbrev b_CB_requireKnown : ByteArray := prog_1_method_25_code
def y_CB_requireKnown : MethodName := ⟨R_CB, "requireKnown", "(II)V"⟩
def cd_CB_requireKnown : Cond := .code y_CB_requireKnown b_CB_requireKnown 2 none
theorem kh_CB_requireKnown : y_CB_requireKnown.cls ≠ "java/lang/invoke/MethodHandle" ∧ y_CB_requireKnown.cls ≠ "java/lang/invoke/VarHandle" := by decide +kernel
theorem kp_CB_requireKnown : (parseMethodDescriptor y_CB_requireKnown.desc).map (fun d => d.parameters.length) = some 2 := by decide +kernel
abbrev b_CB_requireRange : ByteArray := prog_1_method_26_code
def y_CB_requireRange : MethodName := ⟨R_CB, "requireRange", "(III)V"⟩
def cd_CB_requireRange : Cond := .code y_CB_requireRange b_CB_requireRange 3 none
theorem kh_CB_requireRange : y_CB_requireRange.cls ≠ "java/lang/invoke/MethodHandle" ∧ y_CB_requireRange.cls ≠ "java/lang/invoke/VarHandle" := by decide +kernel
theorem kp_CB_requireRange : (parseMethodDescriptor y_CB_requireRange.desc).map (fun d => d.parameters.length) = some 3 := by decide +kernel
abbrev b_CB_requireState : ByteArray := prog_1_method_27_code
def y_CB_requireState : MethodName := ⟨R_CB, "requireState", "(Z)V"⟩
def cd_CB_requireState : Cond := .code y_CB_requireState b_CB_requireState 1 none
theorem kh_CB_requireState : y_CB_requireState.cls ≠ "java/lang/invoke/MethodHandle" ∧ y_CB_requireState.cls ≠ "java/lang/invoke/VarHandle" := by decide +kernel
theorem kp_CB_requireState : (parseMethodDescriptor y_CB_requireState.desc).map (fun d => d.parameters.length) = some 1 := by decide +kernel
abbrev b_CB_requireRoom : ByteArray := prog_1_method_28_code
def y_CB_requireRoom : MethodName := ⟨R_CB, "requireRoom", "(Z)V"⟩
def cd_CB_requireRoom : Cond := .code y_CB_requireRoom b_CB_requireRoom 1 none
theorem kh_CB_requireRoom : y_CB_requireRoom.cls ≠ "java/lang/invoke/MethodHandle" ∧ y_CB_requireRoom.cls ≠ "java/lang/invoke/VarHandle" := by decide +kernel
theorem kp_CB_requireRoom : (parseMethodDescriptor y_CB_requireRoom.desc).map (fun d => d.parameters.length) = some 1 := by decide +kernel
abbrev b_CB_slotOf : ByteArray := prog_1_method_29_code
def y_CB_slotOf : MethodName := ⟨R_CB, "slotOf", "(II)I"⟩
def cd_CB_slotOf : Cond := .code y_CB_slotOf b_CB_slotOf 2 (some .int)
theorem kh_CB_slotOf : y_CB_slotOf.cls ≠ "java/lang/invoke/MethodHandle" ∧ y_CB_slotOf.cls ≠ "java/lang/invoke/VarHandle" := by decide +kernel
theorem kp_CB_slotOf : (parseMethodDescriptor y_CB_slotOf.desc).map (fun d => d.parameters.length) = some 2 := by decide +kernel
abbrev b_CB_isClosed : ByteArray := prog_1_method_30_code
def y_CB_isClosed : MethodName := ⟨R_CB, "isClosed", "(I)Z"⟩
def cd_CB_isClosed : Cond := .code y_CB_isClosed b_CB_isClosed 2 (some .boolean)
theorem kh_CB_isClosed : y_CB_isClosed.cls ≠ "java/lang/invoke/MethodHandle" ∧ y_CB_isClosed.cls ≠ "java/lang/invoke/VarHandle" := by decide +kernel
theorem kp_CB_isClosed : (parseMethodDescriptor y_CB_isClosed.desc).map (fun d => d.parameters.length) = some 1 := by decide +kernel
abbrev b_CB_release : ByteArray := prog_1_method_31_code
def y_CB_release : MethodName := ⟨R_CB, "release", "(I)V"⟩
def cd_CB_release : Cond := .code y_CB_release b_CB_release 2 none
theorem kh_CB_release : y_CB_release.cls ≠ "java/lang/invoke/MethodHandle" ∧ y_CB_release.cls ≠ "java/lang/invoke/VarHandle" := by decide +kernel
theorem kp_CB_release : (parseMethodDescriptor y_CB_release.desc).map (fun d => d.parameters.length) = some 1 := by decide +kernel
abbrev b_Bu_init : ByteArray := prog_3_method_1_code
def y_Bu_init : MethodName := ⟨R_Bu, "<init>", "()V"⟩
def cd_Bu_init : Cond := .code y_Bu_init b_Bu_init 1 none
theorem kh_Bu_init : y_Bu_init.cls ≠ "java/lang/invoke/MethodHandle" ∧ y_Bu_init.cls ≠ "java/lang/invoke/VarHandle" := by decide +kernel
theorem kp_Bu_init : (parseMethodDescriptor y_Bu_init.desc).map (fun d => d.parameters.length) = some 0 := by decide +kernel
abbrev b_Bu_boundIn : ByteArray := prog_3_method_2_code
def y_Bu_boundIn : MethodName := ⟨R_Bu, "boundIn", "(I)I"⟩
def cd_Bu_boundIn : Cond := .code y_Bu_boundIn b_Bu_boundIn 2 (some .int)
theorem kh_Bu_boundIn : y_Bu_boundIn.cls ≠ "java/lang/invoke/MethodHandle" ∧ y_Bu_boundIn.cls ≠ "java/lang/invoke/VarHandle" := by decide +kernel
theorem kp_Bu_boundIn : (parseMethodDescriptor y_Bu_boundIn.desc).map (fun d => d.parameters.length) = some 1 := by decide +kernel
abbrev b_Bu_freeIn : ByteArray := prog_3_method_3_code
def y_Bu_freeIn : MethodName := ⟨R_Bu, "freeIn", "(I)I"⟩
def cd_Bu_freeIn : Cond := .code y_Bu_freeIn b_Bu_freeIn 2 (some .int)
theorem kh_Bu_freeIn : y_Bu_freeIn.cls ≠ "java/lang/invoke/MethodHandle" ∧ y_Bu_freeIn.cls ≠ "java/lang/invoke/VarHandle" := by decide +kernel
theorem kp_Bu_freeIn : (parseMethodDescriptor y_Bu_freeIn.desc).map (fun d => d.parameters.length) = some 1 := by decide +kernel
abbrev b_Or_init : ByteArray := prog_7_method_1_code
def y_Or_init : MethodName := ⟨R_Or, "<init>", "()V"⟩
def cd_Or_init : Cond := .code y_Or_init b_Or_init 1 none
theorem kh_Or_init : y_Or_init.cls ≠ "java/lang/invoke/MethodHandle" ∧ y_Or_init.cls ≠ "java/lang/invoke/VarHandle" := by decide +kernel
theorem kp_Or_init : (parseMethodDescriptor y_Or_init.desc).map (fun d => d.parameters.length) = some 0 := by decide +kernel
abbrev b_Or_add : ByteArray := prog_7_method_2_code
def y_Or_add : MethodName := ⟨R_Or, "add", "(II)I"⟩
def cd_Or_add : Cond := .code y_Or_add b_Or_add 3 (some .int)
theorem kh_Or_add : y_Or_add.cls ≠ "java/lang/invoke/MethodHandle" ∧ y_Or_add.cls ≠ "java/lang/invoke/VarHandle" := by decide +kernel
theorem kp_Or_add : (parseMethodDescriptor y_Or_add.desc).map (fun d => d.parameters.length) = some 2 := by decide +kernel
abbrev b_Or_bandOf : ByteArray := prog_7_method_3_code
def y_Or_bandOf : MethodName := ⟨R_Or, "bandOf", "(II)J"⟩
def cd_Or_bandOf : Cond := .code y_Or_bandOf b_Or_bandOf 3 (some .long)
theorem kh_Or_bandOf : y_Or_bandOf.cls ≠ "java/lang/invoke/MethodHandle" ∧ y_Or_bandOf.cls ≠ "java/lang/invoke/VarHandle" := by decide +kernel
theorem kp_Or_bandOf : (parseMethodDescriptor y_Or_bandOf.desc).map (fun d => d.parameters.length) = some 2 := by decide +kernel
abbrev b_Or_anyOpenIn : ByteArray := prog_7_method_4_code
def y_Or_anyOpenIn : MethodName := ⟨R_Or, "anyOpenIn", "(I)Z"⟩
def cd_Or_anyOpenIn : Cond := .code y_Or_anyOpenIn b_Or_anyOpenIn 3 (some .boolean)
theorem kh_Or_anyOpenIn : y_Or_anyOpenIn.cls ≠ "java/lang/invoke/MethodHandle" ∧ y_Or_anyOpenIn.cls ≠ "java/lang/invoke/VarHandle" := by decide +kernel
theorem kp_Or_anyOpenIn : (parseMethodDescriptor y_Or_anyOpenIn.desc).map (fun d => d.parameters.length) = some 1 := by decide +kernel
abbrev b_Ta_init : ByteArray := prog_8_method_1_code
def y_Ta_init : MethodName := ⟨R_Ta, "<init>", "()V"⟩
def cd_Ta_init : Cond := .code y_Ta_init b_Ta_init 1 none
theorem kh_Ta_init : y_Ta_init.cls ≠ "java/lang/invoke/MethodHandle" ∧ y_Ta_init.cls ≠ "java/lang/invoke/VarHandle" := by decide +kernel
theorem kp_Ta_init : (parseMethodDescriptor y_Ta_init.desc).map (fun d => d.parameters.length) = some 0 := by decide +kernel
abbrev b_Ta_write : ByteArray := prog_8_method_2_code
def y_Ta_write : MethodName := ⟨R_Ta, "write", "(JI)V"⟩
def cd_Ta_write : Cond := .code y_Ta_write b_Ta_write 5 none
theorem kh_Ta_write : y_Ta_write.cls ≠ "java/lang/invoke/MethodHandle" ∧ y_Ta_write.cls ≠ "java/lang/invoke/VarHandle" := by decide +kernel
theorem kp_Ta_write : (parseMethodDescriptor y_Ta_write.desc).map (fun d => d.parameters.length) = some 2 := by decide +kernel
abbrev b_Re_init : ByteArray := prog_10_method_1_code
def y_Re_init : MethodName := ⟨R_Re, "<init>", "()V"⟩
def cd_Re_init : Cond := .code y_Re_init b_Re_init 1 none
theorem kh_Re_init : y_Re_init.cls ≠ "java/lang/invoke/MethodHandle" ∧ y_Re_init.cls ≠ "java/lang/invoke/VarHandle" := by decide +kernel
theorem kp_Re_init : (parseMethodDescriptor y_Re_init.desc).map (fun d => d.parameters.length) = some 0 := by decide +kernel
abbrev b_Re_read : ByteArray := prog_10_method_2_code
def y_Re_read : MethodName := ⟨R_Re, "read", "(LCostBooks$Tape;)I"⟩
def cd_Re_read : Cond := .code y_Re_read b_Re_read 3 (some .int)
theorem kh_Re_read : y_Re_read.cls ≠ "java/lang/invoke/MethodHandle" ∧ y_Re_read.cls ≠ "java/lang/invoke/VarHandle" := by decide +kernel
theorem kp_Re_read : (parseMethodDescriptor y_Re_read.desc).map (fun d => d.parameters.length) = some 1 := by decide +kernel
abbrev b_Re_startAnew : ByteArray := prog_10_method_3_code
def y_Re_startAnew : MethodName := ⟨R_Re, "startAnew", "()V"⟩
def cd_Re_startAnew : Cond := .code y_Re_startAnew b_Re_startAnew 2 none
theorem kh_Re_startAnew : y_Re_startAnew.cls ≠ "java/lang/invoke/MethodHandle" ∧ y_Re_startAnew.cls ≠ "java/lang/invoke/VarHandle" := by decide +kernel
theorem kp_Re_startAnew : (parseMethodDescriptor y_Re_startAnew.desc).map (fun d => d.parameters.length) = some 0 := by decide +kernel
abbrev b_Re_startNumber : ByteArray := prog_10_method_4_code
def y_Re_startNumber : MethodName := ⟨R_Re, "startNumber", "()V"⟩
def cd_Re_startNumber : Cond := .code y_Re_startNumber b_Re_startNumber 1 none
theorem kh_Re_startNumber : y_Re_startNumber.cls ≠ "java/lang/invoke/MethodHandle" ∧ y_Re_startNumber.cls ≠ "java/lang/invoke/VarHandle" := by decide +kernel
theorem kp_Re_startNumber : (parseMethodDescriptor y_Re_startNumber.desc).map (fun d => d.parameters.length) = some 0 := by decide +kernel
abbrev b_Re_takes : ByteArray := prog_10_method_5_code
def y_Re_takes : MethodName := ⟨R_Re, "takes", "(I)Z"⟩
def cd_Re_takes : Cond := .code y_Re_takes b_Re_takes 2 (some .boolean)
theorem kh_Re_takes : y_Re_takes.cls ≠ "java/lang/invoke/MethodHandle" ∧ y_Re_takes.cls ≠ "java/lang/invoke/VarHandle" := by decide +kernel
theorem kp_Re_takes : (parseMethodDescriptor y_Re_takes.desc).map (fun d => d.parameters.length) = some 1 := by decide +kernel
abbrev b_Re_takesKind : ByteArray := prog_10_method_6_code
def y_Re_takesKind : MethodName := ⟨R_Re, "takesKind", "(I)Z"⟩
def cd_Re_takesKind : Cond := .code y_Re_takesKind b_Re_takesKind 2 (some .boolean)
theorem kh_Re_takesKind : y_Re_takesKind.cls ≠ "java/lang/invoke/MethodHandle" ∧ y_Re_takesKind.cls ≠ "java/lang/invoke/VarHandle" := by decide +kernel
theorem kp_Re_takesKind : (parseMethodDescriptor y_Re_takesKind.desc).map (fun d => d.parameters.length) = some 1 := by decide +kernel
abbrev b_Re_takesDigit : ByteArray := prog_10_method_7_code
def y_Re_takesDigit : MethodName := ⟨R_Re, "takesDigit", "(I)Z"⟩
def cd_Re_takesDigit : Cond := .code y_Re_takesDigit b_Re_takesDigit 3 (some .boolean)
theorem kh_Re_takesDigit : y_Re_takesDigit.cls ≠ "java/lang/invoke/MethodHandle" ∧ y_Re_takesDigit.cls ≠ "java/lang/invoke/VarHandle" := by decide +kernel
theorem kp_Re_takesDigit : (parseMethodDescriptor y_Re_takesDigit.desc).map (fun d => d.parameters.length) = some 1 := by decide +kernel
abbrev b_Re_endsBase : ByteArray := prog_10_method_8_code
def y_Re_endsBase : MethodName := ⟨R_Re, "endsBase", "()Z"⟩
def cd_Re_endsBase : Cond := .code y_Re_endsBase b_Re_endsBase 2 (some .boolean)
theorem kh_Re_endsBase : y_Re_endsBase.cls ≠ "java/lang/invoke/MethodHandle" ∧ y_Re_endsBase.cls ≠ "java/lang/invoke/VarHandle" := by decide +kernel
theorem kp_Re_endsBase : (parseMethodDescriptor y_Re_endsBase.desc).map (fun d => d.parameters.length) = some 0 := by decide +kernel
abbrev b_Re_endsHour : ByteArray := prog_10_method_9_code
def y_Re_endsHour : MethodName := ⟨R_Re, "endsHour", "()Z"⟩
def cd_Re_endsHour : Cond := .code y_Re_endsHour b_Re_endsHour 2 (some .boolean)
theorem kh_Re_endsHour : y_Re_endsHour.cls ≠ "java/lang/invoke/MethodHandle" ∧ y_Re_endsHour.cls ≠ "java/lang/invoke/VarHandle" := by decide +kernel
theorem kp_Re_endsHour : (parseMethodDescriptor y_Re_endsHour.desc).map (fun d => d.parameters.length) = some 0 := by decide +kernel
abbrev b_Re_isDigit : ByteArray := prog_10_method_10_code
def y_Re_isDigit : MethodName := ⟨R_Re, "isDigit", "(I)Z"⟩
def cd_Re_isDigit : Cond := .code y_Re_isDigit b_Re_isDigit 1 (some .boolean)
theorem kh_Re_isDigit : y_Re_isDigit.cls ≠ "java/lang/invoke/MethodHandle" ∧ y_Re_isDigit.cls ≠ "java/lang/invoke/VarHandle" := by decide +kernel
theorem kp_Re_isDigit : (parseMethodDescriptor y_Re_isDigit.desc).map (fun d => d.parameters.length) = some 1 := by decide +kernel
abbrev b_Tf_init : ByteArray := prog_9_method_1_code
def y_Tf_init : MethodName := ⟨R_Tf, "<init>", "()V"⟩
def cd_Tf_init : Cond := .code y_Tf_init b_Tf_init 1 none
theorem kh_Tf_init : y_Tf_init.cls ≠ "java/lang/invoke/MethodHandle" ∧ y_Tf_init.cls ≠ "java/lang/invoke/VarHandle" := by decide +kernel
theorem kp_Tf_init : (parseMethodDescriptor y_Tf_init.desc).map (fun d => d.parameters.length) = some 0 := by decide +kernel
abbrev b_Tf_become : ByteArray := prog_9_method_2_code
def y_Tf_become : MethodName := ⟨R_Tf, "become", "(LCostBooks$TariffReader;)V"⟩
def cd_Tf_become : Cond := .code y_Tf_become b_Tf_become 3 none
theorem kh_Tf_become : y_Tf_become.cls ≠ "java/lang/invoke/MethodHandle" ∧ y_Tf_become.cls ≠ "java/lang/invoke/VarHandle" := by decide +kernel
theorem kp_Tf_become : (parseMethodDescriptor y_Tf_become.desc).map (fun d => d.parameters.length) = some 1 := by decide +kernel
abbrev b_Tf_isFree : ByteArray := prog_9_method_3_code
def y_Tf_isFree : MethodName := ⟨R_Tf, "isFree", "(I)Z"⟩
def cd_Tf_isFree : Cond := .code y_Tf_isFree b_Tf_isFree 2 (some .boolean)
theorem kh_Tf_isFree : y_Tf_isFree.cls ≠ "java/lang/invoke/MethodHandle" ∧ y_Tf_isFree.cls ≠ "java/lang/invoke/VarHandle" := by decide +kernel
theorem kp_Tf_isFree : (parseMethodDescriptor y_Tf_isFree.desc).map (fun d => d.parameters.length) = some 1 := by decide +kernel
abbrev b_Tf_costOf : ByteArray := prog_9_method_4_code
def y_Tf_costOf : MethodName := ⟨R_Tf, "costOf", "(II)J"⟩
def cd_Tf_costOf : Cond := .code y_Tf_costOf b_Tf_costOf 4 (some .long)
theorem kh_Tf_costOf : y_Tf_costOf.cls ≠ "java/lang/invoke/MethodHandle" ∧ y_Tf_costOf.cls ≠ "java/lang/invoke/VarHandle" := by decide +kernel
theorem kp_Tf_costOf : (parseMethodDescriptor y_Tf_costOf.desc).map (fun d => d.parameters.length) = some 2 := by decide +kernel
abbrev b_Bi_init : ByteArray := prog_2_method_1_code
def y_Bi_init : MethodName := ⟨R_Bi, "<init>", "()V"⟩
def cd_Bi_init : Cond := .code y_Bi_init b_Bi_init 1 none
theorem kh_Bi_init : y_Bi_init.cls ≠ "java/lang/invoke/MethodHandle" ∧ y_Bi_init.cls ≠ "java/lang/invoke/VarHandle" := by decide +kernel
theorem kp_Bi_init : (parseMethodDescriptor y_Bi_init.desc).map (fun d => d.parameters.length) = some 0 := by decide +kernel
abbrev b_Bi_add : ByteArray := prog_2_method_2_code
def y_Bi_add : MethodName := ⟨R_Bi, "add", "(II)I"⟩
def cd_Bi_add : Cond := .code y_Bi_add b_Bi_add 3 (some .int)
theorem kh_Bi_add : y_Bi_add.cls ≠ "java/lang/invoke/MethodHandle" ∧ y_Bi_add.cls ≠ "java/lang/invoke/VarHandle" := by decide +kernel
theorem kp_Bi_add : (parseMethodDescriptor y_Bi_add.desc).map (fun d => d.parameters.length) = some 2 := by decide +kernel
abbrev b_Bi_leftOf : ByteArray := prog_2_method_3_code
def y_Bi_leftOf : MethodName := ⟨R_Bi, "leftOf", "(I)I"⟩
def cd_Bi_leftOf : Cond := .code y_Bi_leftOf b_Bi_leftOf 2 (some .int)
theorem kh_Bi_leftOf : y_Bi_leftOf.cls ≠ "java/lang/invoke/MethodHandle" ∧ y_Bi_leftOf.cls ≠ "java/lang/invoke/VarHandle" := by decide +kernel
theorem kp_Bi_leftOf : (parseMethodDescriptor y_Bi_leftOf.desc).map (fun d => d.parameters.length) = some 1 := by decide +kernel
abbrev b_Bi_isOpen : ByteArray := prog_2_method_4_code
def y_Bi_isOpen : MethodName := ⟨R_Bi, "isOpen", "(I)Z"⟩
def cd_Bi_isOpen : Cond := .code y_Bi_isOpen b_Bi_isOpen 2 (some .boolean)
theorem kh_Bi_isOpen : y_Bi_isOpen.cls ≠ "java/lang/invoke/MethodHandle" ∧ y_Bi_isOpen.cls ≠ "java/lang/invoke/VarHandle" := by decide +kernel
theorem kp_Bi_isOpen : (parseMethodDescriptor y_Bi_isOpen.desc).map (fun d => d.parameters.length) = some 1 := by decide +kernel
abbrev b_Bi_remindAll : ByteArray := prog_2_method_5_code
def y_Bi_remindAll : MethodName := ⟨R_Bi, "remindAll", "(I)I"⟩
def cd_Bi_remindAll : Cond := .code y_Bi_remindAll b_Bi_remindAll 4 (some .int)
theorem kh_Bi_remindAll : y_Bi_remindAll.cls ≠ "java/lang/invoke/MethodHandle" ∧ y_Bi_remindAll.cls ≠ "java/lang/invoke/VarHandle" := by decide +kernel
theorem kp_Bi_remindAll : (parseMethodDescriptor y_Bi_remindAll.desc).map (fun d => d.parameters.length) = some 1 := by decide +kernel
abbrev b_Ho_init : ByteArray := prog_5_method_1_code
def y_Ho_init : MethodName := ⟨R_Ho, "<init>", "()V"⟩
def cd_Ho_init : Cond := .code y_Ho_init b_Ho_init 1 none
theorem kh_Ho_init : y_Ho_init.cls ≠ "java/lang/invoke/MethodHandle" ∧ y_Ho_init.cls ≠ "java/lang/invoke/VarHandle" := by decide +kernel
theorem kp_Ho_init : (parseMethodDescriptor y_Ho_init.desc).map (fun d => d.parameters.length) = some 0 := by decide +kernel
abbrev b_Ho_sumOfWeights : ByteArray := prog_5_method_2_code
def y_Ho_sumOfWeights : MethodName := ⟨R_Ho, "sumOfWeights", "()I"⟩
def cd_Ho_sumOfWeights : Cond := .code y_Ho_sumOfWeights b_Ho_sumOfWeights 3 (some .int)
theorem kh_Ho_sumOfWeights : y_Ho_sumOfWeights.cls ≠ "java/lang/invoke/MethodHandle" ∧ y_Ho_sumOfWeights.cls ≠ "java/lang/invoke/VarHandle" := by decide +kernel
theorem kp_Ho_sumOfWeights : (parseMethodDescriptor y_Ho_sumOfWeights.desc).map (fun d => d.parameters.length) = some 0 := by decide +kernel
abbrev b_Ho_partOf : ByteArray := prog_5_method_3_code
def y_Ho_partOf : MethodName := ⟨R_Ho, "partOf", "(III)I"⟩
def cd_Ho_partOf : Cond := .code y_Ho_partOf b_Ho_partOf 7 (some .int)
theorem kh_Ho_partOf : y_Ho_partOf.cls ≠ "java/lang/invoke/MethodHandle" ∧ y_Ho_partOf.cls ≠ "java/lang/invoke/VarHandle" := by decide +kernel
theorem kp_Ho_partOf : (parseMethodDescriptor y_Ho_partOf.desc).map (fun d => d.parameters.length) = some 3 := by decide +kernel
abbrev b_Ho_roundedPart : ByteArray := prog_5_method_4_code
def y_Ho_roundedPart : MethodName := ⟨R_Ho, "roundedPart", "(III)I"⟩
def cd_Ho_roundedPart : Cond := .code y_Ho_roundedPart b_Ho_roundedPart 4 (some .int)
theorem kh_Ho_roundedPart : y_Ho_roundedPart.cls ≠ "java/lang/invoke/MethodHandle" ∧ y_Ho_roundedPart.cls ≠ "java/lang/invoke/VarHandle" := by decide +kernel
theorem kp_Ho_roundedPart : (parseMethodDescriptor y_Ho_roundedPart.desc).map (fun d => d.parameters.length) = some 3 := by decide +kernel
abbrev b_Ho_remainder : ByteArray := prog_5_method_5_code
def y_Ho_remainder : MethodName := ⟨R_Ho, "remainder", "(III)J"⟩
def cd_Ho_remainder : Cond := .code y_Ho_remainder b_Ho_remainder 4 (some .long)
theorem kh_Ho_remainder : y_Ho_remainder.cls ≠ "java/lang/invoke/MethodHandle" ∧ y_Ho_remainder.cls ≠ "java/lang/invoke/VarHandle" := by decide +kernel
theorem kp_Ho_remainder : (parseMethodDescriptor y_Ho_remainder.desc).map (fun d => d.parameters.length) = some 3 := by decide +kernel
abbrev b_Ho_comesBefore : ByteArray := prog_5_method_6_code
def y_Ho_comesBefore : MethodName := ⟨R_Ho, "comesBefore", "(IIII)Z"⟩
def cd_Ho_comesBefore : Cond := .code y_Ho_comesBefore b_Ho_comesBefore 9 (some .boolean)
theorem kh_Ho_comesBefore : y_Ho_comesBefore.cls ≠ "java/lang/invoke/MethodHandle" ∧ y_Ho_comesBefore.cls ≠ "java/lang/invoke/VarHandle" := by decide +kernel
theorem kp_Ho_comesBefore : (parseMethodDescriptor y_Ho_comesBefore.desc).map (fun d => d.parameters.length) = some 4 := by decide +kernel
abbrev b_Gr_init : ByteArray := prog_4_method_1_code
def y_Gr_init : MethodName := ⟨R_Gr, "<init>", "()V"⟩
def cd_Gr_init : Cond := .code y_Gr_init b_Gr_init 1 none
theorem kh_Gr_init : y_Gr_init.cls ≠ "java/lang/invoke/MethodHandle" ∧ y_Gr_init.cls ≠ "java/lang/invoke/VarHandle" := by decide +kernel
theorem kp_Gr_init : (parseMethodDescriptor y_Gr_init.desc).map (fun d => d.parameters.length) = some 0 := by decide +kernel
abbrev b_Gr_add : ByteArray := prog_4_method_2_code
def y_Gr_add : MethodName := ⟨R_Gr, "add", "(II)I"⟩
def cd_Gr_add : Cond := .code y_Gr_add b_Gr_add 3 (some .int)
theorem kh_Gr_add : y_Gr_add.cls ≠ "java/lang/invoke/MethodHandle" ∧ y_Gr_add.cls ≠ "java/lang/invoke/VarHandle" := by decide +kernel
theorem kp_Gr_add : (parseMethodDescriptor y_Gr_add.desc).map (fun d => d.parameters.length) = some 2 := by decide +kernel
abbrev b_Le_init : ByteArray := prog_6_method_1_code
def y_Le_init : MethodName := ⟨R_Le, "<init>", "()V"⟩
def cd_Le_init : Cond := .code y_Le_init b_Le_init 1 none
theorem kh_Le_init : y_Le_init.cls ≠ "java/lang/invoke/MethodHandle" ∧ y_Le_init.cls ≠ "java/lang/invoke/VarHandle" := by decide +kernel
theorem kp_Le_init : (parseMethodDescriptor y_Le_init.desc).map (fun d => d.parameters.length) = some 0 := by decide +kernel
abbrev b_Le_cellOf : ByteArray := prog_6_method_2_code
def y_Le_cellOf : MethodName := ⟨R_Le, "cellOf", "(II)I"⟩
def cd_Le_cellOf : Cond := .code y_Le_cellOf b_Le_cellOf 3 (some .int)
theorem kh_Le_cellOf : y_Le_cellOf.cls ≠ "java/lang/invoke/MethodHandle" ∧ y_Le_cellOf.cls ≠ "java/lang/invoke/VarHandle" := by decide +kernel
theorem kp_Le_cellOf : (parseMethodDescriptor y_Le_cellOf.desc).map (fun d => d.parameters.length) = some 2 := by decide +kernel
abbrev b_Le_addRow : ByteArray := prog_6_method_3_code
def y_Le_addRow : MethodName := ⟨R_Le, "addRow", "(II)V"⟩
def cd_Le_addRow : Cond := .code y_Le_addRow b_Le_addRow 3 none
theorem kh_Le_addRow : y_Le_addRow.cls ≠ "java/lang/invoke/MethodHandle" ∧ y_Le_addRow.cls ≠ "java/lang/invoke/VarHandle" := by decide +kernel
theorem kp_Le_addRow : (parseMethodDescriptor y_Le_addRow.desc).map (fun d => d.parameters.length) = some 2 := by decide +kernel
abbrev b_Le_sumOfRows : ByteArray := prog_6_method_4_code
def y_Le_sumOfRows : MethodName := ⟨R_Le, "sumOfRows", "()I"⟩
def cd_Le_sumOfRows : Cond := .code y_Le_sumOfRows b_Le_sumOfRows 3 (some .int)
theorem kh_Le_sumOfRows : y_Le_sumOfRows.cls ≠ "java/lang/invoke/MethodHandle" ∧ y_Le_sumOfRows.cls ≠ "java/lang/invoke/VarHandle" := by decide +kernel
theorem kp_Le_sumOfRows : (parseMethodDescriptor y_Le_sumOfRows.desc).map (fun d => d.parameters.length) = some 0 := by decide +kernel
abbrev b_Le_bookRows : ByteArray := prog_6_method_5_code
def y_Le_bookRows : MethodName := ⟨R_Le, "bookRows", "(I)V"⟩
def cd_Le_bookRows : Cond := .code y_Le_bookRows b_Le_bookRows 3 none
theorem kh_Le_bookRows : y_Le_bookRows.cls ≠ "java/lang/invoke/MethodHandle" ∧ y_Le_bookRows.cls ≠ "java/lang/invoke/VarHandle" := by decide +kernel
theorem kp_Le_bookRows : (parseMethodDescriptor y_Le_bookRows.desc).map (fun d => d.parameters.length) = some 1 := by decide +kernel
abbrev b_Mo_init : ByteArray := prog_12_method_1_code
def y_Mo_init : MethodName := ⟨R_Mo, "<init>", "()V"⟩
def cd_Mo_init : Cond := .code y_Mo_init b_Mo_init 1 none
theorem kh_Mo_init : y_Mo_init.cls ≠ "java/lang/invoke/MethodHandle" ∧ y_Mo_init.cls ≠ "java/lang/invoke/VarHandle" := by decide +kernel
theorem kp_Mo_init : (parseMethodDescriptor y_Mo_init.desc).map (fun d => d.parameters.length) = some 0 := by decide +kernel
abbrev b_Mo_thrown : ByteArray := prog_12_method_2_code
def y_Mo_thrown : MethodName := ⟨R_Mo, "thrown", "()I"⟩
def cd_Mo_thrown : Cond := .code y_Mo_thrown b_Mo_thrown 1 (some .int)
theorem kh_Mo_thrown : y_Mo_thrown.cls ≠ "java/lang/invoke/MethodHandle" ∧ y_Mo_thrown.cls ≠ "java/lang/invoke/VarHandle" := by decide +kernel
theorem kp_Mo_thrown : (parseMethodDescriptor y_Mo_thrown.desc).map (fun d => d.parameters.length) = some 0 := by decide +kernel
abbrev b_Mo_throwing : ByteArray := prog_12_method_3_code
def y_Mo_throwing : MethodName := ⟨R_Mo, "throwing", "(ZZZZ)Z"⟩
def cd_Mo_throwing : Cond := .code y_Mo_throwing b_Mo_throwing 5 (some .boolean)
theorem kh_Mo_throwing : y_Mo_throwing.cls ≠ "java/lang/invoke/MethodHandle" ∧ y_Mo_throwing.cls ≠ "java/lang/invoke/VarHandle" := by decide +kernel
theorem kp_Mo_throwing : (parseMethodDescriptor y_Mo_throwing.desc).map (fun d => d.parameters.length) = some 4 := by decide +kernel
abbrev b_Mo_in : ByteArray := prog_12_method_4_code
def y_Mo_in : MethodName := ⟨R_Mo, "in", "(III)Z"⟩
def cd_Mo_in : Cond := .code y_Mo_in b_Mo_in 3 (some .boolean)
theorem kh_Mo_in : y_Mo_in.cls ≠ "java/lang/invoke/MethodHandle" ∧ y_Mo_in.cls ≠ "java/lang/invoke/VarHandle" := by decide +kernel
theorem kp_Mo_in : (parseMethodDescriptor y_Mo_in.desc).map (fun d => d.parameters.length) = some 3 := by decide +kernel
abbrev b_Mo_isCents : ByteArray := prog_12_method_5_code
def y_Mo_isCents : MethodName := ⟨R_Mo, "isCents", "(I)Z"⟩
def cd_Mo_isCents : Cond := .code y_Mo_isCents b_Mo_isCents 1 (some .boolean)
theorem kh_Mo_isCents : y_Mo_isCents.cls ≠ "java/lang/invoke/MethodHandle" ∧ y_Mo_isCents.cls ≠ "java/lang/invoke/VarHandle" := by decide +kernel
theorem kp_Mo_isCents : (parseMethodDescriptor y_Mo_isCents.desc).map (fun d => d.parameters.length) = some 1 := by decide +kernel
abbrev b_Mo_isBudget : ByteArray := prog_12_method_6_code
def y_Mo_isBudget : MethodName := ⟨R_Mo, "isBudget", "(II)Z"⟩
def cd_Mo_isBudget : Cond := .code y_Mo_isBudget b_Mo_isBudget 2 (some .boolean)
theorem kh_Mo_isBudget : y_Mo_isBudget.cls ≠ "java/lang/invoke/MethodHandle" ∧ y_Mo_isBudget.cls ≠ "java/lang/invoke/VarHandle" := by decide +kernel
theorem kp_Mo_isBudget : (parseMethodDescriptor y_Mo_isBudget.desc).map (fun d => d.parameters.length) = some 2 := by decide +kernel
abbrev b_Mo_budget : ByteArray := prog_12_method_7_code
def y_Mo_budget : MethodName := ⟨R_Mo, "budget", "(III)V"⟩
def cd_Mo_budget : Cond := .code y_Mo_budget b_Mo_budget 6 none
theorem kh_Mo_budget : y_Mo_budget.cls ≠ "java/lang/invoke/MethodHandle" ∧ y_Mo_budget.cls ≠ "java/lang/invoke/VarHandle" := by decide +kernel
theorem kp_Mo_budget : (parseMethodDescriptor y_Mo_budget.desc).map (fun d => d.parameters.length) = some 3 := by decide +kernel
abbrev b_Mo_freeOf : ByteArray := prog_12_method_8_code
def y_Mo_freeOf : MethodName := ⟨R_Mo, "freeOf", "(I)I"⟩
def cd_Mo_freeOf : Cond := .code y_Mo_freeOf b_Mo_freeOf 2 (some .int)
theorem kh_Mo_freeOf : y_Mo_freeOf.cls ≠ "java/lang/invoke/MethodHandle" ∧ y_Mo_freeOf.cls ≠ "java/lang/invoke/VarHandle" := by decide +kernel
theorem kp_Mo_freeOf : (parseMethodDescriptor y_Mo_freeOf.desc).map (fun d => d.parameters.length) = some 1 := by decide +kernel
abbrev b_Mo_budgetAt : ByteArray := prog_12_method_9_code
def y_Mo_budgetAt : MethodName := ⟨R_Mo, "budgetAt", "(III)I"⟩
def cd_Mo_budgetAt : Cond := .code y_Mo_budgetAt b_Mo_budgetAt 5 (some .int)
theorem kh_Mo_budgetAt : y_Mo_budgetAt.cls ≠ "java/lang/invoke/MethodHandle" ∧ y_Mo_budgetAt.cls ≠ "java/lang/invoke/VarHandle" := by decide +kernel
theorem kp_Mo_budgetAt : (parseMethodDescriptor y_Mo_budgetAt.desc).map (fun d => d.parameters.length) = some 3 := by decide +kernel
abbrev b_Mo_band : ByteArray := prog_12_method_10_code
def y_Mo_band : MethodName := ⟨R_Mo, "band", "(I)V"⟩
def cd_Mo_band : Cond := .code y_Mo_band b_Mo_band 2 none
theorem kh_Mo_band : y_Mo_band.cls ≠ "java/lang/invoke/MethodHandle" ∧ y_Mo_band.cls ≠ "java/lang/invoke/VarHandle" := by decide +kernel
theorem kp_Mo_band : (parseMethodDescriptor y_Mo_band.desc).map (fun d => d.parameters.length) = some 1 := by decide +kernel
abbrev b_Mo_order : ByteArray := prog_12_method_11_code
def y_Mo_order : MethodName := ⟨R_Mo, "order", "(III)I"⟩
def cd_Mo_order : Cond := .code y_Mo_order b_Mo_order 6 (some .int)
theorem kh_Mo_order : y_Mo_order.cls ≠ "java/lang/invoke/MethodHandle" ∧ y_Mo_order.cls ≠ "java/lang/invoke/VarHandle" := by decide +kernel
theorem kp_Mo_order : (parseMethodDescriptor y_Mo_order.desc).map (fun d => d.parameters.length) = some 3 := by decide +kernel
abbrev b_Mo_invoice : ByteArray := prog_12_method_12_code
def y_Mo_invoice : MethodName := ⟨R_Mo, "invoice", "(II)V"⟩
def cd_Mo_invoice : Cond := .code y_Mo_invoice b_Mo_invoice 8 none
theorem kh_Mo_invoice : y_Mo_invoice.cls ≠ "java/lang/invoke/MethodHandle" ∧ y_Mo_invoice.cls ≠ "java/lang/invoke/VarHandle" := by decide +kernel
theorem kp_Mo_invoice : (parseMethodDescriptor y_Mo_invoice.desc).map (fun d => d.parameters.length) = some 2 := by decide +kernel
abbrev b_Mo_cancel : ByteArray := prog_12_method_13_code
def y_Mo_cancel : MethodName := ⟨R_Mo, "cancel", "(I)V"⟩
def cd_Mo_cancel : Cond := .code y_Mo_cancel b_Mo_cancel 3 none
theorem kh_Mo_cancel : y_Mo_cancel.cls ≠ "java/lang/invoke/MethodHandle" ∧ y_Mo_cancel.cls ≠ "java/lang/invoke/VarHandle" := by decide +kernel
theorem kp_Mo_cancel : (parseMethodDescriptor y_Mo_cancel.desc).map (fun d => d.parameters.length) = some 1 := by decide +kernel
abbrev b_Mo_sign : ByteArray := prog_12_method_14_code
def y_Mo_sign : MethodName := ⟨R_Mo, "sign", "(JI)I"⟩
def cd_Mo_sign : Cond := .code y_Mo_sign b_Mo_sign 6 (some .int)
theorem kh_Mo_sign : y_Mo_sign.cls ≠ "java/lang/invoke/MethodHandle" ∧ y_Mo_sign.cls ≠ "java/lang/invoke/VarHandle" := by decide +kernel
theorem kp_Mo_sign : (parseMethodDescriptor y_Mo_sign.desc).map (fun d => d.parameters.length) = some 2 := by decide +kernel
abbrev b_Mo_fail : ByteArray := prog_12_method_15_code
def y_Mo_fail : MethodName := ⟨R_Mo, "fail", "(I)V"⟩
def cd_Mo_fail : Cond := .code y_Mo_fail b_Mo_fail 2 none
theorem kh_Mo_fail : y_Mo_fail.cls ≠ "java/lang/invoke/MethodHandle" ∧ y_Mo_fail.cls ≠ "java/lang/invoke/VarHandle" := by decide +kernel
theorem kp_Mo_fail : (parseMethodDescriptor y_Mo_fail.desc).map (fun d => d.parameters.length) = some 1 := by decide +kernel
abbrev b_Mo_see : ByteArray := prog_12_method_16_code
def y_Mo_see : MethodName := ⟨R_Mo, "see", "()I"⟩
def cd_Mo_see : Cond := .code y_Mo_see b_Mo_see 1 (some .int)
theorem kh_Mo_see : y_Mo_see.cls ≠ "java/lang/invoke/MethodHandle" ∧ y_Mo_see.cls ≠ "java/lang/invoke/VarHandle" := by decide +kernel
theorem kp_Mo_see : (parseMethodDescriptor y_Mo_see.desc).map (fun d => d.parameters.length) = some 0 := by decide +kernel
abbrev b_Mo_expect : ByteArray := prog_12_method_17_code
def y_Mo_expect : MethodName := ⟨R_Mo, "expect", "(I)V"⟩
def cd_Mo_expect : Cond := .code y_Mo_expect b_Mo_expect 2 none
theorem kh_Mo_expect : y_Mo_expect.cls ≠ "java/lang/invoke/MethodHandle" ∧ y_Mo_expect.cls ≠ "java/lang/invoke/VarHandle" := by decide +kernel
theorem kp_Mo_expect : (parseMethodDescriptor y_Mo_expect.desc).map (fun d => d.parameters.length) = some 1 := by decide +kernel
abbrev b_Mo_isDigit : ByteArray := prog_12_method_18_code
def y_Mo_isDigit : MethodName := ⟨R_Mo, "isDigit", "()Z"⟩
def cd_Mo_isDigit : Cond := .code y_Mo_isDigit b_Mo_isDigit 1 (some .boolean)
theorem kh_Mo_isDigit : y_Mo_isDigit.cls ≠ "java/lang/invoke/MethodHandle" ∧ y_Mo_isDigit.cls ≠ "java/lang/invoke/VarHandle" := by decide +kernel
theorem kp_Mo_isDigit : (parseMethodDescriptor y_Mo_isDigit.desc).map (fun d => d.parameters.length) = some 0 := by decide +kernel
abbrev b_Mo_number : ByteArray := prog_12_method_19_code
def y_Mo_number : MethodName := ⟨R_Mo, "number", "()I"⟩
def cd_Mo_number : Cond := .code y_Mo_number b_Mo_number 3 (some .int)
theorem kh_Mo_number : y_Mo_number.cls ≠ "java/lang/invoke/MethodHandle" ∧ y_Mo_number.cls ≠ "java/lang/invoke/VarHandle" := by decide +kernel
theorem kp_Mo_number : (parseMethodDescriptor y_Mo_number.desc).map (fun d => d.parameters.length) = some 0 := by decide +kernel
abbrev b_Mo_readRow : ByteArray := prog_12_method_20_code
def y_Mo_readRow : MethodName := ⟨R_Mo, "readRow", "()V"⟩
def cd_Mo_readRow : Cond := .code y_Mo_readRow b_Mo_readRow 4 none
theorem kh_Mo_readRow : y_Mo_readRow.cls ≠ "java/lang/invoke/MethodHandle" ∧ y_Mo_readRow.cls ≠ "java/lang/invoke/VarHandle" := by decide +kernel
theorem kp_Mo_readRow : (parseMethodDescriptor y_Mo_readRow.desc).map (fun d => d.parameters.length) = some 0 := by decide +kernel
abbrev b_Mo_tariff : ByteArray := prog_12_method_21_code
def y_Mo_tariff : MethodName := ⟨R_Mo, "tariff", "()I"⟩
def cd_Mo_tariff : Cond := .code y_Mo_tariff b_Mo_tariff 3 (some .int)
theorem kh_Mo_tariff : y_Mo_tariff.cls ≠ "java/lang/invoke/MethodHandle" ∧ y_Mo_tariff.cls ≠ "java/lang/invoke/VarHandle" := by decide +kernel
theorem kp_Mo_tariff : (parseMethodDescriptor y_Mo_tariff.desc).map (fun d => d.parameters.length) = some 0 := by decide +kernel
abbrev b_Mo_place : ByteArray := prog_12_method_22_code
def y_Mo_place : MethodName := ⟨R_Mo, "place", "()I"⟩
def cd_Mo_place : Cond := .code y_Mo_place b_Mo_place 1 (some .int)
theorem kh_Mo_place : y_Mo_place.cls ≠ "java/lang/invoke/MethodHandle" ∧ y_Mo_place.cls ≠ "java/lang/invoke/VarHandle" := by decide +kernel
theorem kp_Mo_place : (parseMethodDescriptor y_Mo_place.desc).map (fun d => d.parameters.length) = some 0 := by decide +kernel
abbrev b_Mo_bill : ByteArray := prog_12_method_23_code
def y_Mo_bill : MethodName := ⟨R_Mo, "bill", "(IIII)I"⟩
def cd_Mo_bill : Cond := .code y_Mo_bill b_Mo_bill 10 (some .int)
theorem kh_Mo_bill : y_Mo_bill.cls ≠ "java/lang/invoke/MethodHandle" ∧ y_Mo_bill.cls ≠ "java/lang/invoke/VarHandle" := by decide +kernel
theorem kp_Mo_bill : (parseMethodDescriptor y_Mo_bill.desc).map (fun d => d.parameters.length) = some 4 := by decide +kernel
abbrev b_Mo_isBill : ByteArray := prog_12_method_24_code
def y_Mo_isBill : MethodName := ⟨R_Mo, "isBill", "(I)Z"⟩
def cd_Mo_isBill : Cond := .code y_Mo_isBill b_Mo_isBill 2 (some .boolean)
theorem kh_Mo_isBill : y_Mo_isBill.cls ≠ "java/lang/invoke/MethodHandle" ∧ y_Mo_isBill.cls ≠ "java/lang/invoke/VarHandle" := by decide +kernel
theorem kp_Mo_isBill : (parseMethodDescriptor y_Mo_isBill.desc).map (fun d => d.parameters.length) = some 1 := by decide +kernel
abbrev b_Mo_pay : ByteArray := prog_12_method_25_code
def y_Mo_pay : MethodName := ⟨R_Mo, "pay", "(II)I"⟩
def cd_Mo_pay : Cond := .code y_Mo_pay b_Mo_pay 5 (some .int)
theorem kh_Mo_pay : y_Mo_pay.cls ≠ "java/lang/invoke/MethodHandle" ∧ y_Mo_pay.cls ≠ "java/lang/invoke/VarHandle" := by decide +kernel
theorem kp_Mo_pay : (parseMethodDescriptor y_Mo_pay.desc).map (fun d => d.parameters.length) = some 2 := by decide +kernel
abbrev b_Mo_dispute : ByteArray := prog_12_method_26_code
def y_Mo_dispute : MethodName := ⟨R_Mo, "dispute", "(IZ)V"⟩
def cd_Mo_dispute : Cond := .code y_Mo_dispute b_Mo_dispute 5 none
theorem kh_Mo_dispute : y_Mo_dispute.cls ≠ "java/lang/invoke/MethodHandle" ∧ y_Mo_dispute.cls ≠ "java/lang/invoke/VarHandle" := by decide +kernel
theorem kp_Mo_dispute : (parseMethodDescriptor y_Mo_dispute.desc).map (fun d => d.parameters.length) = some 2 := by decide +kernel
abbrev b_Mo_remind : ByteArray := prog_12_method_27_code
def y_Mo_remind : MethodName := ⟨R_Mo, "remind", "(I)I"⟩
def cd_Mo_remind : Cond := .code y_Mo_remind b_Mo_remind 4 (some .int)
theorem kh_Mo_remind : y_Mo_remind.cls ≠ "java/lang/invoke/MethodHandle" ∧ y_Mo_remind.cls ≠ "java/lang/invoke/VarHandle" := by decide +kernel
theorem kp_Mo_remind : (parseMethodDescriptor y_Mo_remind.desc).map (fun d => d.parameters.length) = some 1 := by decide +kernel
abbrev b_Mo_billAt : ByteArray := prog_12_method_28_code
def y_Mo_billAt : MethodName := ⟨R_Mo, "billAt", "(II)I"⟩
def cd_Mo_billAt : Cond := .code y_Mo_billAt b_Mo_billAt 3 (some .int)
theorem kh_Mo_billAt : y_Mo_billAt.cls ≠ "java/lang/invoke/MethodHandle" ∧ y_Mo_billAt.cls ≠ "java/lang/invoke/VarHandle" := by decide +kernel
theorem kp_Mo_billAt : (parseMethodDescriptor y_Mo_billAt.desc).map (fun d => d.parameters.length) = some 2 := by decide +kernel
abbrev b_Mo_weight : ByteArray := prog_12_method_29_code
def y_Mo_weight : MethodName := ⟨R_Mo, "weight", "(II)V"⟩
def cd_Mo_weight : Cond := .code y_Mo_weight b_Mo_weight 3 none
theorem kh_Mo_weight : y_Mo_weight.cls ≠ "java/lang/invoke/MethodHandle" ∧ y_Mo_weight.cls ≠ "java/lang/invoke/VarHandle" := by decide +kernel
theorem kp_Mo_weight : (parseMethodDescriptor y_Mo_weight.desc).map (fun d => d.parameters.length) = some 2 := by decide +kernel
abbrev b_Mo_share : ByteArray := prog_12_method_30_code
def y_Mo_share : MethodName := ⟨R_Mo, "share", "(II)I"⟩
def cd_Mo_share : Cond := .code y_Mo_share b_Mo_share 11 (some .int)
theorem kh_Mo_share : y_Mo_share.cls ≠ "java/lang/invoke/MethodHandle" ∧ y_Mo_share.cls ≠ "java/lang/invoke/VarHandle" := by decide +kernel
theorem kp_Mo_share : (parseMethodDescriptor y_Mo_share.desc).map (fun d => d.parameters.length) = some 2 := by decide +kernel
abbrev b_Mo_grant : ByteArray := prog_12_method_31_code
def y_Mo_grant : MethodName := ⟨R_Mo, "grant", "(II)I"⟩
def cd_Mo_grant : Cond := .code y_Mo_grant b_Mo_grant 3 (some .int)
theorem kh_Mo_grant : y_Mo_grant.cls ≠ "java/lang/invoke/MethodHandle" ∧ y_Mo_grant.cls ≠ "java/lang/invoke/VarHandle" := by decide +kernel
theorem kp_Mo_grant : (parseMethodDescriptor y_Mo_grant.desc).map (fun d => d.parameters.length) = some 2 := by decide +kernel
abbrev b_Mo_use : ByteArray := prog_12_method_32_code
def y_Mo_use : MethodName := ⟨R_Mo, "use", "(III)I"⟩
def cd_Mo_use : Cond := .code y_Mo_use b_Mo_use 5 (some .int)
theorem kh_Mo_use : y_Mo_use.cls ≠ "java/lang/invoke/MethodHandle" ∧ y_Mo_use.cls ≠ "java/lang/invoke/VarHandle" := by decide +kernel
theorem kp_Mo_use : (parseMethodDescriptor y_Mo_use.desc).map (fun d => d.parameters.length) = some 3 := by decide +kernel
abbrev b_Mo_row : ByteArray := prog_12_method_33_code
def y_Mo_row : MethodName := ⟨R_Mo, "row", "(II)I"⟩
def cd_Mo_row : Cond := .code y_Mo_row b_Mo_row 3 (some .int)
theorem kh_Mo_row : y_Mo_row.cls ≠ "java/lang/invoke/MethodHandle" ∧ y_Mo_row.cls ≠ "java/lang/invoke/VarHandle" := by decide +kernel
theorem kp_Mo_row : (parseMethodDescriptor y_Mo_row.desc).map (fun d => d.parameters.length) = some 2 := by decide +kernel
abbrev b_Mo_post : ByteArray := prog_12_method_34_code
def y_Mo_post : MethodName := ⟨R_Mo, "post", "(I)I"⟩
def cd_Mo_post : Cond := .code y_Mo_post b_Mo_post 6 (some .int)
theorem kh_Mo_post : y_Mo_post.cls ≠ "java/lang/invoke/MethodHandle" ∧ y_Mo_post.cls ≠ "java/lang/invoke/VarHandle" := by decide +kernel
theorem kp_Mo_post : (parseMethodDescriptor y_Mo_post.desc).map (fun d => d.parameters.length) = some 1 := by decide +kernel
abbrev b_Mo_balance : ByteArray := prog_12_method_35_code
def y_Mo_balance : MethodName := ⟨R_Mo, "balance", "(II)J"⟩
def cd_Mo_balance : Cond := .code y_Mo_balance b_Mo_balance 3 (some .long)
theorem kh_Mo_balance : y_Mo_balance.cls ≠ "java/lang/invoke/MethodHandle" ∧ y_Mo_balance.cls ≠ "java/lang/invoke/VarHandle" := by decide +kernel
theorem kp_Mo_balance : (parseMethodDescriptor y_Mo_balance.desc).map (fun d => d.parameters.length) = some 2 := by decide +kernel
abbrev b_Mo_close : ByteArray := prog_12_method_36_code
def y_Mo_close : MethodName := ⟨R_Mo, "close", "(I)V"⟩
def cd_Mo_close : Cond := .code y_Mo_close b_Mo_close 5 none
theorem kh_Mo_close : y_Mo_close.cls ≠ "java/lang/invoke/MethodHandle" ∧ y_Mo_close.cls ≠ "java/lang/invoke/VarHandle" := by decide +kernel
theorem kp_Mo_close : (parseMethodDescriptor y_Mo_close.desc).map (fun d => d.parameters.length) = some 1 := by decide +kernel
abbrev b_Mo_forecast : ByteArray := prog_12_method_37_code
def y_Mo_forecast : MethodName := ⟨R_Mo, "forecast", "(III)J"⟩
def cd_Mo_forecast : Cond := .code y_Mo_forecast b_Mo_forecast 5 (some .long)
theorem kh_Mo_forecast : y_Mo_forecast.cls ≠ "java/lang/invoke/MethodHandle" ∧ y_Mo_forecast.cls ≠ "java/lang/invoke/VarHandle" := by decide +kernel
theorem kp_Mo_forecast : (parseMethodDescriptor y_Mo_forecast.desc).map (fun d => d.parameters.length) = some 3 := by decide +kernel
abbrev b_La_budget : ByteArray := method_3_code
def y_La_budget : MethodName := ⟨R_La, "budget", "(LCostBooks;III)I"⟩
def hh_La_budget : List (Nat × Nat × Nat × Nat) := [(0, 7, 10, 13), (0, 7, 14, 15), (0, 7, 18, 17)]
def cd_La_budget : Cond := .codeWith y_La_budget b_La_budget 5 (some .int) hh_La_budget
theorem kh_La_budget : y_La_budget.cls ≠ "java/lang/invoke/MethodHandle" ∧ y_La_budget.cls ≠ "java/lang/invoke/VarHandle" := by decide +kernel
theorem kp_La_budget : (parseMethodDescriptor y_La_budget.desc).map (fun d => d.parameters.length) = some 4 := by decide +kernel
abbrev b_La_budgetAt : ByteArray := method_4_code
def y_La_budgetAt : MethodName := ⟨R_La, "budgetAt", "(LCostBooks;III[J)I"⟩
def hh_La_budgetAt : List (Nat × Nat × Nat × Nat) := [(0, 12, 15, 13)]
def cd_La_budgetAt : Cond := .codeWith y_La_budgetAt b_La_budgetAt 6 (some .int) hh_La_budgetAt
theorem kh_La_budgetAt : y_La_budgetAt.cls ≠ "java/lang/invoke/MethodHandle" ∧ y_La_budgetAt.cls ≠ "java/lang/invoke/VarHandle" := by decide +kernel
theorem kp_La_budgetAt : (parseMethodDescriptor y_La_budgetAt.desc).map (fun d => d.parameters.length) = some 5 := by decide +kernel
abbrev b_La_band : ByteArray := method_5_code
def y_La_band : MethodName := ⟨R_La, "band", "(LCostBooks;I)I"⟩
def hh_La_band : List (Nat × Nat × Nat × Nat) := [(0, 5, 8, 15)]
def cd_La_band : Cond := .codeWith y_La_band b_La_band 3 (some .int) hh_La_band
theorem kh_La_band : y_La_band.cls ≠ "java/lang/invoke/MethodHandle" ∧ y_La_band.cls ≠ "java/lang/invoke/VarHandle" := by decide +kernel
theorem kp_La_band : (parseMethodDescriptor y_La_band.desc).map (fun d => d.parameters.length) = some 2 := by decide +kernel
abbrev b_La_order : ByteArray := method_6_code
def y_La_order : MethodName := ⟨R_La, "order", "(LCostBooks;III[J)I"⟩
def hh_La_order : List (Nat × Nat × Nat × Nat) := [(0, 12, 15, 13), (0, 12, 19, 15), (0, 12, 23, 17), (0, 12, 27, 30)]
def cd_La_order : Cond := .codeWith y_La_order b_La_order 6 (some .int) hh_La_order
theorem kh_La_order : y_La_order.cls ≠ "java/lang/invoke/MethodHandle" ∧ y_La_order.cls ≠ "java/lang/invoke/VarHandle" := by decide +kernel
theorem kp_La_order : (parseMethodDescriptor y_La_order.desc).map (fun d => d.parameters.length) = some 5 := by decide +kernel
abbrev b_La_invoice : ByteArray := method_7_code
def y_La_invoice : MethodName := ⟨R_La, "invoice", "(LCostBooks;II)I"⟩
def hh_La_invoice : List (Nat × Nat × Nat × Nat) := [(0, 6, 9, 13), (0, 6, 12, 15), (0, 6, 15, 17)]
def cd_La_invoice : Cond := .codeWith y_La_invoice b_La_invoice 4 (some .int) hh_La_invoice
theorem kh_La_invoice : y_La_invoice.cls ≠ "java/lang/invoke/MethodHandle" ∧ y_La_invoice.cls ≠ "java/lang/invoke/VarHandle" := by decide +kernel
theorem kp_La_invoice : (parseMethodDescriptor y_La_invoice.desc).map (fun d => d.parameters.length) = some 3 := by decide +kernel
abbrev b_La_cancel : ByteArray := method_8_code
def y_La_cancel : MethodName := ⟨R_La, "cancel", "(LCostBooks;I)I"⟩
def hh_La_cancel : List (Nat × Nat × Nat × Nat) := [(0, 5, 8, 13), (0, 5, 11, 17)]
def cd_La_cancel : Cond := .codeWith y_La_cancel b_La_cancel 3 (some .int) hh_La_cancel
theorem kh_La_cancel : y_La_cancel.cls ≠ "java/lang/invoke/MethodHandle" ∧ y_La_cancel.cls ≠ "java/lang/invoke/VarHandle" := by decide +kernel
theorem kp_La_cancel : (parseMethodDescriptor y_La_cancel.desc).map (fun d => d.parameters.length) = some 2 := by decide +kernel
abbrev b_La_sign : ByteArray := method_9_code
def y_La_sign : MethodName := ⟨R_La, "sign", "(LCostBooks;JI[J)I"⟩
def hh_La_sign : List (Nat × Nat × Nat × Nat) := [(0, 11, 14, 15), (0, 11, 18, 30)]
def cd_La_sign : Cond := .codeWith y_La_sign b_La_sign 6 (some .int) hh_La_sign
theorem kh_La_sign : y_La_sign.cls ≠ "java/lang/invoke/MethodHandle" ∧ y_La_sign.cls ≠ "java/lang/invoke/VarHandle" := by decide +kernel
theorem kp_La_sign : (parseMethodDescriptor y_La_sign.desc).map (fun d => d.parameters.length) = some 4 := by decide +kernel
abbrev b_La_tariff : ByteArray := method_10_code
def y_La_tariff : MethodName := ⟨R_La, "tariff", "(LCostBooks;[J)I"⟩
def hh_La_tariff : List (Nat × Nat × Nat × Nat) := [(0, 8, 11, 17)]
def cd_La_tariff : Cond := .codeWith y_La_tariff b_La_tariff 3 (some .int) hh_La_tariff
theorem kh_La_tariff : y_La_tariff.cls ≠ "java/lang/invoke/MethodHandle" ∧ y_La_tariff.cls ≠ "java/lang/invoke/VarHandle" := by decide +kernel
theorem kp_La_tariff : (parseMethodDescriptor y_La_tariff.desc).map (fun d => d.parameters.length) = some 2 := by decide +kernel
abbrev b_La_bill : ByteArray := method_11_code
def y_La_bill : MethodName := ⟨R_La, "bill", "(LCostBooks;IIII[J)I"⟩
def hh_La_bill : List (Nat × Nat × Nat × Nat) := [(0, 14, 17, 13), (0, 14, 21, 15), (0, 14, 25, 17), (0, 14, 29, 30)]
def cd_La_bill : Cond := .codeWith y_La_bill b_La_bill 7 (some .int) hh_La_bill
theorem kh_La_bill : y_La_bill.cls ≠ "java/lang/invoke/MethodHandle" ∧ y_La_bill.cls ≠ "java/lang/invoke/VarHandle" := by decide +kernel
theorem kp_La_bill : (parseMethodDescriptor y_La_bill.desc).map (fun d => d.parameters.length) = some 6 := by decide +kernel
abbrev b_La_pay : ByteArray := method_12_code
def y_La_pay : MethodName := ⟨R_La, "pay", "(LCostBooks;II[J)I"⟩
def hh_La_pay : List (Nat × Nat × Nat × Nat) := [(0, 10, 13, 13), (0, 10, 17, 15), (0, 10, 21, 17)]
def cd_La_pay : Cond := .codeWith y_La_pay b_La_pay 5 (some .int) hh_La_pay
theorem kh_La_pay : y_La_pay.cls ≠ "java/lang/invoke/MethodHandle" ∧ y_La_pay.cls ≠ "java/lang/invoke/VarHandle" := by decide +kernel
theorem kp_La_pay : (parseMethodDescriptor y_La_pay.desc).map (fun d => d.parameters.length) = some 4 := by decide +kernel
abbrev b_La_dispute : ByteArray := method_13_code
def y_La_dispute : MethodName := ⟨R_La, "dispute", "(LCostBooks;IZ)I"⟩
def hh_La_dispute : List (Nat × Nat × Nat × Nat) := [(0, 6, 9, 13), (0, 6, 12, 17)]
def cd_La_dispute : Cond := .codeWith y_La_dispute b_La_dispute 4 (some .int) hh_La_dispute
theorem kh_La_dispute : y_La_dispute.cls ≠ "java/lang/invoke/MethodHandle" ∧ y_La_dispute.cls ≠ "java/lang/invoke/VarHandle" := by decide +kernel
theorem kp_La_dispute : (parseMethodDescriptor y_La_dispute.desc).map (fun d => d.parameters.length) = some 3 := by decide +kernel
abbrev b_La_remind : ByteArray := method_14_code
def y_La_remind : MethodName := ⟨R_La, "remind", "(LCostBooks;I[J)I"⟩
def hh_La_remind : List (Nat × Nat × Nat × Nat) := [(0, 9, 12, 15)]
def cd_La_remind : Cond := .codeWith y_La_remind b_La_remind 4 (some .int) hh_La_remind
theorem kh_La_remind : y_La_remind.cls ≠ "java/lang/invoke/MethodHandle" ∧ y_La_remind.cls ≠ "java/lang/invoke/VarHandle" := by decide +kernel
theorem kp_La_remind : (parseMethodDescriptor y_La_remind.desc).map (fun d => d.parameters.length) = some 3 := by decide +kernel
abbrev b_La_billAt : ByteArray := method_15_code
def y_La_billAt : MethodName := ⟨R_La, "billAt", "(LCostBooks;II[J)I"⟩
def hh_La_billAt : List (Nat × Nat × Nat × Nat) := [(0, 10, 13, 13)]
def cd_La_billAt : Cond := .codeWith y_La_billAt b_La_billAt 5 (some .int) hh_La_billAt
theorem kh_La_billAt : y_La_billAt.cls ≠ "java/lang/invoke/MethodHandle" ∧ y_La_billAt.cls ≠ "java/lang/invoke/VarHandle" := by decide +kernel
theorem kp_La_billAt : (parseMethodDescriptor y_La_billAt.desc).map (fun d => d.parameters.length) = some 4 := by decide +kernel
abbrev b_La_weight : ByteArray := method_16_code
def y_La_weight : MethodName := ⟨R_La, "weight", "(LCostBooks;II)I"⟩
def hh_La_weight : List (Nat × Nat × Nat × Nat) := [(0, 6, 9, 13), (0, 6, 12, 15)]
def cd_La_weight : Cond := .codeWith y_La_weight b_La_weight 4 (some .int) hh_La_weight
theorem kh_La_weight : y_La_weight.cls ≠ "java/lang/invoke/MethodHandle" ∧ y_La_weight.cls ≠ "java/lang/invoke/VarHandle" := by decide +kernel
theorem kp_La_weight : (parseMethodDescriptor y_La_weight.desc).map (fun d => d.parameters.length) = some 3 := by decide +kernel
abbrev b_La_share : ByteArray := method_17_code
def y_La_share : MethodName := ⟨R_La, "share", "(LCostBooks;II[J)I"⟩
def hh_La_share : List (Nat × Nat × Nat × Nat) := [(0, 10, 13, 13), (0, 10, 17, 15), (0, 10, 21, 72)]
def cd_La_share : Cond := .codeWith y_La_share b_La_share 5 (some .int) hh_La_share
theorem kh_La_share : y_La_share.cls ≠ "java/lang/invoke/MethodHandle" ∧ y_La_share.cls ≠ "java/lang/invoke/VarHandle" := by decide +kernel
theorem kp_La_share : (parseMethodDescriptor y_La_share.desc).map (fun d => d.parameters.length) = some 4 := by decide +kernel
abbrev b_La_grant : ByteArray := method_18_code
def y_La_grant : MethodName := ⟨R_La, "grant", "(LCostBooks;II[J)I"⟩
def hh_La_grant : List (Nat × Nat × Nat × Nat) := [(0, 10, 13, 13), (0, 10, 17, 15), (0, 10, 21, 30)]
def cd_La_grant : Cond := .codeWith y_La_grant b_La_grant 5 (some .int) hh_La_grant
theorem kh_La_grant : y_La_grant.cls ≠ "java/lang/invoke/MethodHandle" ∧ y_La_grant.cls ≠ "java/lang/invoke/VarHandle" := by decide +kernel
theorem kp_La_grant : (parseMethodDescriptor y_La_grant.desc).map (fun d => d.parameters.length) = some 4 := by decide +kernel
abbrev b_La_use : ByteArray := method_19_code
def y_La_use : MethodName := ⟨R_La, "use", "(LCostBooks;III[J)I"⟩
def hh_La_use : List (Nat × Nat × Nat × Nat) := [(0, 12, 15, 13), (0, 12, 19, 15), (0, 12, 23, 17)]
def cd_La_use : Cond := .codeWith y_La_use b_La_use 6 (some .int) hh_La_use
theorem kh_La_use : y_La_use.cls ≠ "java/lang/invoke/MethodHandle" ∧ y_La_use.cls ≠ "java/lang/invoke/VarHandle" := by decide +kernel
theorem kp_La_use : (parseMethodDescriptor y_La_use.desc).map (fun d => d.parameters.length) = some 5 := by decide +kernel
abbrev b_La_row : ByteArray := method_20_code
def y_La_row : MethodName := ⟨R_La, "row", "(LCostBooks;II[J)I"⟩
def hh_La_row : List (Nat × Nat × Nat × Nat) := [(0, 10, 13, 13), (0, 10, 17, 15), (0, 10, 21, 30)]
def cd_La_row : Cond := .codeWith y_La_row b_La_row 5 (some .int) hh_La_row
theorem kh_La_row : y_La_row.cls ≠ "java/lang/invoke/MethodHandle" ∧ y_La_row.cls ≠ "java/lang/invoke/VarHandle" := by decide +kernel
theorem kp_La_row : (parseMethodDescriptor y_La_row.desc).map (fun d => d.parameters.length) = some 4 := by decide +kernel
abbrev b_La_post : ByteArray := method_21_code
def y_La_post : MethodName := ⟨R_La, "post", "(LCostBooks;I[J)I"⟩
def hh_La_post : List (Nat × Nat × Nat × Nat) := [(0, 9, 12, 13), (0, 9, 15, 17)]
def cd_La_post : Cond := .codeWith y_La_post b_La_post 4 (some .int) hh_La_post
theorem kh_La_post : y_La_post.cls ≠ "java/lang/invoke/MethodHandle" ∧ y_La_post.cls ≠ "java/lang/invoke/VarHandle" := by decide +kernel
theorem kp_La_post : (parseMethodDescriptor y_La_post.desc).map (fun d => d.parameters.length) = some 3 := by decide +kernel
abbrev b_La_balance : ByteArray := method_22_code
def y_La_balance : MethodName := ⟨R_La, "balance", "(LCostBooks;II[J)I"⟩
def hh_La_balance : List (Nat × Nat × Nat × Nat) := [(0, 9, 12, 13)]
def cd_La_balance : Cond := .codeWith y_La_balance b_La_balance 5 (some .int) hh_La_balance
theorem kh_La_balance : y_La_balance.cls ≠ "java/lang/invoke/MethodHandle" ∧ y_La_balance.cls ≠ "java/lang/invoke/VarHandle" := by decide +kernel
theorem kp_La_balance : (parseMethodDescriptor y_La_balance.desc).map (fun d => d.parameters.length) = some 4 := by decide +kernel
abbrev b_La_close : ByteArray := method_23_code
def y_La_close : MethodName := ⟨R_La, "close", "(LCostBooks;I)I"⟩
def hh_La_close : List (Nat × Nat × Nat × Nat) := [(0, 5, 8, 13), (0, 5, 11, 17)]
def cd_La_close : Cond := .codeWith y_La_close b_La_close 3 (some .int) hh_La_close
theorem kh_La_close : y_La_close.cls ≠ "java/lang/invoke/MethodHandle" ∧ y_La_close.cls ≠ "java/lang/invoke/VarHandle" := by decide +kernel
theorem kp_La_close : (parseMethodDescriptor y_La_close.desc).map (fun d => d.parameters.length) = some 2 := by decide +kernel
abbrev b_La_forecast : ByteArray := method_24_code
def y_La_forecast : MethodName := ⟨R_La, "forecast", "(LCostBooks;III[J)I"⟩
def hh_La_forecast : List (Nat × Nat × Nat × Nat) := [(0, 11, 14, 13), (0, 11, 18, 15), (0, 11, 22, 72)]
def cd_La_forecast : Cond := .codeWith y_La_forecast b_La_forecast 6 (some .int) hh_La_forecast
theorem kh_La_forecast : y_La_forecast.cls ≠ "java/lang/invoke/MethodHandle" ∧ y_La_forecast.cls ≠ "java/lang/invoke/VarHandle" := by decide +kernel
theorem kp_La_forecast : (parseMethodDescriptor y_La_forecast.desc).map (fun d => d.parameters.length) = some 5 := by decide +kernel
