section
-- ===== PART A: goes FIRST, ahead of the names: the tables' words, and 'selects' of the private methods out of them =====
/-- a private method of a class that the tables say can be made, by its rows of tables_1 -/
def lw_okq (q : MethodName × Nat) : Prop := (q.1.cls ≠ "java/lang/invoke/MethodHandle" ∧ q.1.cls ≠ "java/lang/invoke/VarHandle") ∧ Cond.instantiable q.1.cls q.2 ∈ tables_1 ∧ Cond.privateMethod q.1 ∈ tables_1 ∧ Cond.instanceMethod q.1 ∈ tables_1
theorem lw_p0 : lw_okq (⟨"ReturnRows", "sum", "(III)I"⟩, 5) := ⟨⟨by decide +kernel, by decide +kernel⟩, List.mem_of_getElem? (i := 15) (by decide +kernel), List.mem_of_getElem? (i := 47) (by decide +kernel), List.mem_of_getElem? (i := 48) (by decide +kernel)⟩
theorem lw_p1 : lw_okq (⟨"ReturnRows", "backOfClass", "(I)I"⟩, 5) := ⟨⟨by decide +kernel, by decide +kernel⟩, List.mem_of_getElem? (i := 15) (by decide +kernel), List.mem_of_getElem? (i := 59) (by decide +kernel), List.mem_of_getElem? (i := 60) (by decide +kernel)⟩
theorem lw_p2 : lw_okq (⟨"java/lang/Throwable", "fillInStackTrace", "(I)Ljava/lang/Throwable;"⟩, 6) := ⟨⟨by decide +kernel, by decide +kernel⟩, List.mem_of_getElem? (i := 113) (by decide +kernel), List.mem_of_getElem? (i := 111) (by decide +kernel), List.mem_of_getElem? (i := 112) (by decide +kernel)⟩
theorem lw_p3 : lw_okq (⟨"ReturnRows", "saleAt", "(I)LReturnRows$Sale;"⟩, 5) := ⟨⟨by decide +kernel, by decide +kernel⟩, List.mem_of_getElem? (i := 15) (by decide +kernel), List.mem_of_getElem? (i := 207) (by decide +kernel), List.mem_of_getElem? (i := 208) (by decide +kernel)⟩
theorem lw_p4 : lw_okq (⟨"ReturnRows", "returnAt", "(I)LReturnRows$Return;"⟩, 5) := ⟨⟨by decide +kernel, by decide +kernel⟩, List.mem_of_getElem? (i := 15) (by decide +kernel), List.mem_of_getElem? (i := 314) (by decide +kernel), List.mem_of_getElem? (i := 315) (by decide +kernel)⟩
theorem lw_p5 : lw_okq (⟨"ReturnRows", "isCertificateUsed", "(I)Z"⟩, 5) := ⟨⟨by decide +kernel, by decide +kernel⟩, List.mem_of_getElem? (i := 15) (by decide +kernel), List.mem_of_getElem? (i := 401) (by decide +kernel), List.mem_of_getElem? (i := 402) (by decide +kernel)⟩
theorem lw_p6 : lw_okq (⟨"ReturnRows", "salesTo", "(I)I"⟩, 5) := ⟨⟨by decide +kernel, by decide +kernel⟩, List.mem_of_getElem? (i := 15) (by decide +kernel), List.mem_of_getElem? (i := 461) (by decide +kernel), List.mem_of_getElem? (i := 462) (by decide +kernel)⟩
theorem lw_p7 : lw_okq (⟨"ReturnRows", "isMarked", "(I)Z"⟩, 5) := ⟨⟨by decide +kernel, by decide +kernel⟩, List.mem_of_getElem? (i := 15) (by decide +kernel), List.mem_of_getElem? (i := 465) (by decide +kernel), List.mem_of_getElem? (i := 466) (by decide +kernel)⟩
theorem lw_p8 : lw_okq (⟨"ReturnRows", "recentReturnsOf", "(I)I"⟩, 5) := ⟨⟨by decide +kernel, by decide +kernel⟩, List.mem_of_getElem? (i := 15) (by decide +kernel), List.mem_of_getElem? (i := 469) (by decide +kernel), List.mem_of_getElem? (i := 470) (by decide +kernel)⟩
theorem lw_p9 : lw_okq (⟨"ReturnRowsModel", "isSale", "(I)Z"⟩, 23) := ⟨⟨by decide +kernel, by decide +kernel⟩, List.mem_of_getElem? (i := 482) (by decide +kernel), List.mem_of_getElem? (i := 580) (by decide +kernel), List.mem_of_getElem? (i := 581) (by decide +kernel)⟩
theorem lw_p10 : lw_okq (⟨"ReturnRowsModel", "hasReturn", "(I)Z"⟩, 23) := ⟨⟨by decide +kernel, by decide +kernel⟩, List.mem_of_getElem? (i := 482) (by decide +kernel), List.mem_of_getElem? (i := 584) (by decide +kernel), List.mem_of_getElem? (i := 585) (by decide +kernel)⟩
theorem lw_p11 : lw_okq (⟨"ReturnRowsModel", "isReturn", "(I)Z"⟩, 23) := ⟨⟨by decide +kernel, by decide +kernel⟩, List.mem_of_getElem? (i := 482) (by decide +kernel), List.mem_of_getElem? (i := 592) (by decide +kernel), List.mem_of_getElem? (i := 593) (by decide +kernel)⟩
theorem lw_p12 : lw_okq (⟨"ReturnRowsModel", "isSeen", "(I)Z"⟩, 23) := ⟨⟨by decide +kernel, by decide +kernel⟩, List.mem_of_getElem? (i := 482) (by decide +kernel), List.mem_of_getElem? (i := 604) (by decide +kernel), List.mem_of_getElem? (i := 605) (by decide +kernel)⟩
theorem lw_p13 : lw_okq (⟨"ReturnRowsModel", "regrade", "(II)V"⟩, 23) := ⟨⟨by decide +kernel, by decide +kernel⟩, List.mem_of_getElem? (i := 482) (by decide +kernel), List.mem_of_getElem? (i := 616) (by decide +kernel), List.mem_of_getElem? (i := 617) (by decide +kernel)⟩
theorem lw_p14 : lw_okq (⟨"ReturnRowsModel", "backs", "(I)I"⟩, 23) := ⟨⟨by decide +kernel, by decide +kernel⟩, List.mem_of_getElem? (i := 482) (by decide +kernel), List.mem_of_getElem? (i := 636) (by decide +kernel), List.mem_of_getElem? (i := 637) (by decide +kernel)⟩
theorem lw_p15 : lw_okq (⟨"ReturnRowsModel", "dueOf", "(I)I"⟩, 23) := ⟨⟨by decide +kernel, by decide +kernel⟩, List.mem_of_getElem? (i := 482) (by decide +kernel), List.mem_of_getElem? (i := 648) (by decide +kernel), List.mem_of_getElem? (i := 649) (by decide +kernel)⟩
def lw_privs_1 : List (MethodName × Nat) := [(⟨"ReturnRows", "sum", "(III)I"⟩, 5), (⟨"ReturnRows", "backOfClass", "(I)I"⟩, 5), (⟨"java/lang/Throwable", "fillInStackTrace", "(I)Ljava/lang/Throwable;"⟩, 6), (⟨"ReturnRows", "saleAt", "(I)LReturnRows$Sale;"⟩, 5), (⟨"ReturnRows", "returnAt", "(I)LReturnRows$Return;"⟩, 5), (⟨"ReturnRows", "isCertificateUsed", "(I)Z"⟩, 5), (⟨"ReturnRows", "salesTo", "(I)I"⟩, 5), (⟨"ReturnRows", "isMarked", "(I)Z"⟩, 5), (⟨"ReturnRows", "recentReturnsOf", "(I)I"⟩, 5), (⟨"ReturnRowsModel", "isSale", "(I)Z"⟩, 23), (⟨"ReturnRowsModel", "hasReturn", "(I)Z"⟩, 23), (⟨"ReturnRowsModel", "isReturn", "(I)Z"⟩, 23), (⟨"ReturnRowsModel", "isSeen", "(I)Z"⟩, 23), (⟨"ReturnRowsModel", "regrade", "(II)V"⟩, 23), (⟨"ReturnRowsModel", "backs", "(I)I"⟩, 23), (⟨"ReturnRowsModel", "dueOf", "(I)I"⟩, 23)]
theorem lw_r1 : ∀ q ∈ lw_privs_1, lw_okq q := List.forall_mem_cons.mpr ⟨lw_p0, List.forall_mem_cons.mpr ⟨lw_p1, List.forall_mem_cons.mpr ⟨lw_p2, List.forall_mem_cons.mpr ⟨lw_p3, List.forall_mem_cons.mpr ⟨lw_p4, List.forall_mem_cons.mpr ⟨lw_p5, List.forall_mem_cons.mpr ⟨lw_p6, List.forall_mem_cons.mpr ⟨lw_p7, List.forall_mem_cons.mpr ⟨lw_p8, List.forall_mem_cons.mpr ⟨lw_p9, List.forall_mem_cons.mpr ⟨lw_p10, List.forall_mem_cons.mpr ⟨lw_p11, List.forall_mem_cons.mpr ⟨lw_p12, List.forall_mem_cons.mpr ⟨lw_p13, List.forall_mem_cons.mpr ⟨lw_p14, List.forall_mem_cons.mpr ⟨lw_p15, fun _ h => absurd h List.not_mem_nil⟩⟩⟩⟩⟩⟩⟩⟩⟩⟩⟩⟩⟩⟩⟩⟩
theorem lw_p16 : lw_okq (⟨"ReturnRowsModel", "returnsOf", "(IZ)I"⟩, 23) := ⟨⟨by decide +kernel, by decide +kernel⟩, List.mem_of_getElem? (i := 482) (by decide +kernel), List.mem_of_getElem? (i := 667) (by decide +kernel), List.mem_of_getElem? (i := 668) (by decide +kernel)⟩
def lw_privs_2 : List (MethodName × Nat) := [(⟨"ReturnRowsModel", "returnsOf", "(IZ)I"⟩, 23)]
theorem lw_r2 : ∀ q ∈ lw_privs_2, lw_okq q := List.forall_mem_cons.mpr ⟨lw_p16, fun _ h => absurd h List.not_mem_nil⟩
def lw_privs : List (MethodName × Nat) := lw_privs_1 ++ (lw_privs_2)
def lw_tbl : List Cond := k2_sels lw_privs ++ tables_1
theorem lw_privs_ok : ∀ q ∈ lw_privs, lw_okq q := by
  show ∀ q ∈ lw_privs_1 ++ (lw_privs_2), lw_okq q
  exact List.forall_mem_append.mpr ⟨lw_r1, lw_r2⟩
end
section
/-! ===== names: classes, fields, methods (by program, out of the listing and the Statement) ===== -/
abbrev R_RR : String := "ReturnRows"
abbrev R_SA : String := "ReturnRows$Sale"
abbrev R_RE : String := "ReturnRows$Return"
abbrev R_MO : String := "ReturnRowsModel"
abbrev R_LA : String := "ReturnRowsLaw"
abbrev R_IN : String := "java/lang/Integer"
abbrev R_MA : String := "java/lang/Math"
abbrev E_IAE : String := "java/lang/IllegalArgumentException"
abbrev E_ISE : String := "java/lang/IllegalStateException"
abbrev E_UOE : String := "java/lang/UnsupportedOperationException"
abbrev E_NSE : String := "java/util/NoSuchElementException"
def F_RR : u_T := fun k => match k with
  | 0 => ("ReturnRows", "sales", "[LReturnRows$Sale;", true)
  | 1 => ("ReturnRows", "returns", "[LReturnRows$Return;", true)
  | 2 => ("ReturnRows", "saleCount", "I", false)
  | 3 => ("ReturnRows", "returnCount", "I", false)
  | _ => ("ReturnRows", "today", "I", false)
def t_RR : Nat → FieldType := fun k => match k with
  | 0 => .array (.object "ReturnRows$Sale")
  | 1 => .array (.object "ReturnRows$Return")
  | 2 => .int
  | 3 => .int
  | _ => .int
theorem n_RR : ∀ a, a < 5 → ∀ b, b < 5 → a ≠ b → (F_RR a).2.1 ≠ (F_RR b).2.1 := by decide +kernel
theorem t_RR_ok : ∀ k, k < 5 → parseFieldDescriptor (F_RR k).2.2.1 = some (t_RR k) := by decide +kernel
theorem i_RR : ∀ w ∈ u_ws R_RR F_RR 5, w ∈ lw_tbl := by decide +kernel
def F_SA : u_T := fun k => match k with
  | 0 => ("ReturnRows$Sale", "number", "I", true)
  | 1 => ("ReturnRows$Sale", "buyer", "I", true)
  | 2 => ("ReturnRows$Sale", "price", "I", true)
  | 3 => ("ReturnRows$Sale", "lastDay", "I", true)
  | 4 => ("ReturnRows$Sale", "soldDay", "I", true)
  | _ => ("ReturnRows$Sale", "hasReturn", "Z", false)
def t_SA : Nat → FieldType := fun k => match k with
  | 0 => .int
  | 1 => .int
  | 2 => .int
  | 3 => .int
  | 4 => .int
  | _ => .boolean
theorem n_SA : ∀ a, a < 6 → ∀ b, b < 6 → a ≠ b → (F_SA a).2.1 ≠ (F_SA b).2.1 := by decide +kernel
theorem t_SA_ok : ∀ k, k < 6 → parseFieldDescriptor (F_SA k).2.2.1 = some (t_SA k) := by decide +kernel
theorem i_SA : ∀ w ∈ u_ws R_SA F_SA 6, w ∈ lw_tbl := by decide +kernel
def F_RE : u_T := fun k => match k with
  | 0 => ("ReturnRows$Return", "sold", "LReturnRows$Sale;", true)
  | 1 => ("ReturnRows$Return", "cause", "I", true)
  | 2 => ("ReturnRows$Return", "cameDay", "I", true)
  | 3 => ("ReturnRows$Return", "state", "I", false)
  | 4 => ("ReturnRows$Return", "person", "I", false)
  | 5 => ("ReturnRows$Return", "quarantined", "Z", false)
  | 6 => ("ReturnRows$Return", "wrong", "Z", false)
  | 7 => ("ReturnRows$Return", "badChecks", "I", false)
  | 8 => ("ReturnRows$Return", "grade", "I", false)
  | 9 => ("ReturnRows$Return", "gradeBefore", "I", false)
  | 10 => ("ReturnRows$Return", "bestGrade", "I", false)
  | 11 => ("ReturnRows$Return", "stepsLeft", "I", false)
  | 12 => ("ReturnRows$Return", "missingPieces", "I", false)
  | 13 => ("ReturnRows$Return", "paid", "I", false)
  | _ => ("ReturnRows$Return", "certificate", "I", false)
def t_RE : Nat → FieldType := fun k => match k with
  | 0 => .object "ReturnRows$Sale"
  | 1 => .int
  | 2 => .int
  | 3 => .int
  | 4 => .int
  | 5 => .boolean
  | 6 => .boolean
  | 7 => .int
  | 8 => .int
  | 9 => .int
  | 10 => .int
  | 11 => .int
  | 12 => .int
  | 13 => .int
  | _ => .int
theorem n_RE : ∀ a, a < 15 → ∀ b, b < 15 → a ≠ b → (F_RE a).2.1 ≠ (F_RE b).2.1 := by decide +kernel
theorem t_RE_ok : ∀ k, k < 15 → parseFieldDescriptor (F_RE k).2.2.1 = some (t_RE k) := by decide +kernel
theorem i_RE : ∀ w ∈ u_ws R_RE F_RE 15, w ∈ lw_tbl := by decide +kernel
def F_MO : u_T := fun k => match k with
  | 0 => ("ReturnRowsModel", "code", "I", false)
  | 1 => ("ReturnRowsModel", "today", "I", false)
  | 2 => ("ReturnRowsModel", "sales", "I", false)
  | 3 => ("ReturnRowsModel", "returns", "I", false)
  | 4 => ("ReturnRowsModel", "customer", "[I", true)
  | 5 => ("ReturnRowsModel", "price", "[I", true)
  | 6 => ("ReturnRowsModel", "last", "[I", true)
  | 7 => ("ReturnRowsModel", "sold", "[I", true)
  | 8 => ("ReturnRowsModel", "sale", "[I", true)
  | 9 => ("ReturnRowsModel", "reason", "[I", true)
  | 10 => ("ReturnRowsModel", "state", "[I", true)
  | 11 => ("ReturnRowsModel", "came", "[I", true)
  | 12 => ("ReturnRowsModel", "person", "[I", true)
  | 13 => ("ReturnRowsModel", "quarantined", "[Z", true)
  | 14 => ("ReturnRowsModel", "wrong", "[Z", true)
  | 15 => ("ReturnRowsModel", "grade", "[I", true)
  | 16 => ("ReturnRowsModel", "before", "[I", true)
  | 17 => ("ReturnRowsModel", "best", "[I", true)
  | 18 => ("ReturnRowsModel", "bad", "[I", true)
  | 19 => ("ReturnRowsModel", "steps", "[I", true)
  | 20 => ("ReturnRowsModel", "lacks", "[I", true)
  | 21 => ("ReturnRowsModel", "paid", "[I", true)
  | _ => ("ReturnRowsModel", "certificate", "[I", true)
def t_MO : Nat → FieldType := fun k => match k with
  | 0 => .int
  | 1 => .int
  | 2 => .int
  | 3 => .int
  | 4 => .array (.int)
  | 5 => .array (.int)
  | 6 => .array (.int)
  | 7 => .array (.int)
  | 8 => .array (.int)
  | 9 => .array (.int)
  | 10 => .array (.int)
  | 11 => .array (.int)
  | 12 => .array (.int)
  | 13 => .array (.boolean)
  | 14 => .array (.boolean)
  | 15 => .array (.int)
  | 16 => .array (.int)
  | 17 => .array (.int)
  | 18 => .array (.int)
  | 19 => .array (.int)
  | 20 => .array (.int)
  | 21 => .array (.int)
  | _ => .array (.int)
theorem n_MO : ∀ a, a < 23 → ∀ b, b < 23 → a ≠ b → (F_MO a).2.1 ≠ (F_MO b).2.1 := by decide +kernel
theorem t_MO_ok : ∀ k, k < 23 → parseFieldDescriptor (F_MO k).2.2.1 = some (t_MO k) := by decide +kernel
theorem i_MO : ∀ w ∈ u_ws R_MO F_MO 23, w ∈ lw_tbl := by decide +kernel
/-- the classes whose objects the worlds hold -/
abbrev cls4 : List vw_C := [(R_RR, F_RR, 5), (R_SA, F_SA, 6), (R_RE, F_RE, 15), (R_MO, F_MO, 23)]
abbrev b_LA_arrive : ByteArray := method_6_code
abbrev y_LA_arrive : MethodName := ⟨"ReturnRowsLaw", "arrive", "(LReturnRows;II)I"⟩
abbrev h_LA_arrive : List (Nat × Nat × Nat × Nat) := [(0, 6, 9, 25), (0, 6, 12, 13), (0, 6, 15, 27)]
abbrev w_LA_arrive : Cond := .codeWith y_LA_arrive b_LA_arrive 4 (Option.some FieldType.int) h_LA_arrive
abbrev b_LA_back : ByteArray := method_14_code
abbrev y_LA_back : MethodName := ⟨"ReturnRowsLaw", "back", "(LReturnRows;I[J)I"⟩
abbrev h_LA_back : List (Nat × Nat × Nat × Nat) := [(0, 9, 12, 25), (0, 9, 15, 27)]
abbrev w_LA_back : Cond := .codeWith y_LA_back b_LA_back 4 (Option.some FieldType.int) h_LA_back
abbrev b_LA_check : ByteArray := method_9_code
abbrev y_LA_check : MethodName := ⟨"ReturnRowsLaw", "check", "(LReturnRows;IIZ[J)I"⟩
abbrev h_LA_check : List (Nat × Nat × Nat × Nat) := [(0, 12, 15, 25), (0, 12, 19, 13), (0, 12, 23, 27)]
abbrev w_LA_check : Cond := .codeWith y_LA_check b_LA_check 6 (Option.some FieldType.int) h_LA_check
abbrev b_LA_comes : ByteArray := method_5_code
abbrev y_LA_comes : MethodName := ⟨"ReturnRowsLaw", "comes", "(LReturnRows;IIZ[J)I"⟩
abbrev h_LA_comes : List (Nat × Nat × Nat × Nat) := [(0, 12, 15, 25), (0, 12, 19, 13), (0, 12, 23, 27), (0, 12, 27, 19)]
abbrev w_LA_comes : Cond := .codeWith y_LA_comes b_LA_comes 6 (Option.some FieldType.int) h_LA_comes
abbrev b_LA_customer : ByteArray := method_19_code
abbrev y_LA_customer : MethodName := ⟨"ReturnRowsLaw", "customer", "(LReturnRows;II[J)I"⟩
abbrev h_LA_customer : List (Nat × Nat × Nat × Nat) := [(0, 10, 13, 13)]
abbrev w_LA_customer : Cond := .codeWith y_LA_customer b_LA_customer 5 (Option.some FieldType.int) h_LA_customer
abbrev b_LA_day : ByteArray := method_3_code
abbrev y_LA_day : MethodName := ⟨"ReturnRowsLaw", "day", "(LReturnRows;I)I"⟩
abbrev h_LA_day : List (Nat × Nat × Nat × Nat) := [(0, 5, 8, 13)]
abbrev w_LA_day : Cond := .codeWith y_LA_day b_LA_day 3 (Option.some FieldType.int) h_LA_day
abbrev b_LA_due : ByteArray := method_17_code
abbrev y_LA_due : MethodName := ⟨"ReturnRowsLaw", "due", "(LReturnRows;I[J)I"⟩
abbrev h_LA_due : List (Nat × Nat × Nat × Nat) := [(0, 9, 12, 25)]
abbrev w_LA_due : Cond := .codeWith y_LA_due b_LA_due 4 (Option.some FieldType.int) h_LA_due
abbrev b_LA_grade : ByteArray := method_10_code
abbrev y_LA_grade : MethodName := ⟨"ReturnRowsLaw", "grade", "(LReturnRows;II[J)I"⟩
abbrev h_LA_grade : List (Nat × Nat × Nat × Nat) := [(0, 10, 13, 25), (0, 10, 17, 13), (0, 10, 21, 27)]
abbrev w_LA_grade : Cond := .codeWith y_LA_grade b_LA_grade 5 (Option.some FieldType.int) h_LA_grade
abbrev b_LA_missing : ByteArray := method_15_code
abbrev y_LA_missing : MethodName := ⟨"ReturnRowsLaw", "missing", "(LReturnRows;II)I"⟩
abbrev h_LA_missing : List (Nat × Nat × Nat × Nat) := [(0, 6, 9, 25), (0, 6, 12, 13), (0, 6, 15, 27)]
abbrev w_LA_missing : Cond := .codeWith y_LA_missing b_LA_missing 4 (Option.some FieldType.int) h_LA_missing
abbrev b_LA_quarantine : ByteArray := method_8_code
abbrev y_LA_quarantine : MethodName := ⟨"ReturnRowsLaw", "quarantine", "(LReturnRows;IZ)I"⟩
abbrev h_LA_quarantine : List (Nat × Nat × Nat × Nat) := [(0, 6, 9, 25), (0, 6, 12, 27)]
abbrev w_LA_quarantine : Cond := .codeWith y_LA_quarantine b_LA_quarantine 4 (Option.some FieldType.int) h_LA_quarantine
abbrev b_LA_reason : ByteArray := method_18_code
abbrev y_LA_reason : MethodName := ⟨"ReturnRowsLaw", "reason", "(LReturnRows;II[J)I"⟩
abbrev h_LA_reason : List (Nat × Nat × Nat × Nat) := [(0, 10, 13, 13)]
abbrev w_LA_reason : Cond := .codeWith y_LA_reason b_LA_reason 5 (Option.some FieldType.int) h_LA_reason
abbrev b_LA_refund : ByteArray := method_16_code
abbrev y_LA_refund : MethodName := ⟨"ReturnRowsLaw", "refund", "(LReturnRows;II[J)I"⟩
abbrev h_LA_refund : List (Nat × Nat × Nat × Nat) := [(0, 10, 13, 25), (0, 10, 17, 13), (0, 10, 21, 27)]
abbrev w_LA_refund : Cond := .codeWith y_LA_refund b_LA_refund 5 (Option.some FieldType.int) h_LA_refund
abbrev b_LA_repair : ByteArray := method_11_code
abbrev y_LA_repair : MethodName := ⟨"ReturnRowsLaw", "repair", "(LReturnRows;II)I"⟩
abbrev h_LA_repair : List (Nat × Nat × Nat × Nat) := [(0, 6, 9, 25), (0, 6, 12, 13), (0, 6, 15, 27)]
abbrev w_LA_repair : Cond := .codeWith y_LA_repair b_LA_repair 4 (Option.some FieldType.int) h_LA_repair
abbrev b_LA_sale : ByteArray := method_4_code
abbrev y_LA_sale : MethodName := ⟨"ReturnRowsLaw", "sale", "(LReturnRows;III[J)I"⟩
abbrev h_LA_sale : List (Nat × Nat × Nat × Nat) := [(0, 12, 15, 13), (0, 12, 19, 19)]
abbrev w_LA_sale : Cond := .codeWith y_LA_sale b_LA_sale 6 (Option.some FieldType.int) h_LA_sale
abbrev b_LA_scrap : ByteArray := method_13_code
abbrev y_LA_scrap : MethodName := ⟨"ReturnRowsLaw", "scrap", "(LReturnRows;II[J)I"⟩
abbrev h_LA_scrap : List (Nat × Nat × Nat × Nat) := [(0, 17, 20, 25), (0, 17, 24, 13), (0, 17, 28, 27)]
abbrev w_LA_scrap : Cond := .codeWith y_LA_scrap b_LA_scrap 5 (Option.some FieldType.int) h_LA_scrap
abbrev b_LA_serial : ByteArray := method_7_code
abbrev y_LA_serial : MethodName := ⟨"ReturnRowsLaw", "serial", "(LReturnRows;II[J)I"⟩
abbrev h_LA_serial : List (Nat × Nat × Nat × Nat) := [(0, 10, 13, 25), (0, 10, 17, 27)]
abbrev w_LA_serial : Cond := .codeWith y_LA_serial b_LA_serial 5 (Option.some FieldType.int) h_LA_serial
abbrev b_LA_step : ByteArray := method_12_code
abbrev y_LA_step : MethodName := ⟨"ReturnRowsLaw", "step", "(LReturnRows;IZ[J)I"⟩
abbrev h_LA_step : List (Nat × Nat × Nat × Nat) := [(0, 10, 13, 25), (0, 10, 17, 27)]
abbrev w_LA_step : Cond := .codeWith y_LA_step b_LA_step 5 (Option.some FieldType.int) h_LA_step
abbrev b_LA_told : ByteArray := method_20_code
abbrev y_LA_told : MethodName := ⟨"ReturnRowsLaw", "told", "(LReturnRows;II[J)I"⟩
abbrev h_LA_told : List (Nat × Nat × Nat × Nat) := [(0, 10, 13, 25), (0, 10, 17, 13)]
abbrev w_LA_told : Cond := .codeWith y_LA_told b_LA_told 5 (Option.some FieldType.int) h_LA_told
abbrev b_MO_arrive : ByteArray := prog_5_method_10_code
abbrev y_MO_arrive : MethodName := ⟨"ReturnRowsModel", "arrive", "(II)V"⟩
abbrev w_MO_arrive : Cond := .code y_MO_arrive b_MO_arrive 3 (Option.none : Option FieldType)
abbrev b_MO_back : ByteArray := prog_5_method_21_code
abbrev y_MO_back : MethodName := ⟨"ReturnRowsModel", "back", "(I)I"⟩
abbrev w_MO_back : Cond := .code y_MO_back b_MO_back 2 (Option.some FieldType.int)
abbrev b_MO_backs : ByteArray := prog_5_method_20_code
abbrev y_MO_backs : MethodName := ⟨"ReturnRowsModel", "backs", "(I)I"⟩
abbrev w_MO_backs : Cond := .code y_MO_backs b_MO_backs 4 (Option.some FieldType.int)
abbrev b_MO_check : ByteArray := prog_5_method_14_code
abbrev y_MO_check : MethodName := ⟨"ReturnRowsModel", "check", "(IIZ)I"⟩
abbrev w_MO_check : Cond := .code y_MO_check b_MO_check 6 (Option.some FieldType.int)
abbrev b_MO_comes : ByteArray := prog_5_method_9_code
abbrev y_MO_comes : MethodName := ⟨"ReturnRowsModel", "comes", "(IIZ)I"⟩
abbrev w_MO_comes : Cond := .code y_MO_comes b_MO_comes 4 (Option.some FieldType.int)
abbrev b_MO_count : ByteArray := prog_5_method_31_code
abbrev y_MO_count : MethodName := ⟨"ReturnRowsModel", "count", "(I)I"⟩
abbrev w_MO_count : Cond := .code y_MO_count b_MO_count 4 (Option.some FieldType.int)
abbrev b_MO_customer : ByteArray := prog_5_method_29_code
abbrev y_MO_customer : MethodName := ⟨"ReturnRowsModel", "customer", "(II)I"⟩
abbrev w_MO_customer : Cond := .code y_MO_customer b_MO_customer 5 (Option.some FieldType.int)
abbrev b_MO_day : ByteArray := prog_5_method_6_code
abbrev y_MO_day : MethodName := ⟨"ReturnRowsModel", "day", "(I)V"⟩
abbrev w_MO_day : Cond := .code y_MO_day b_MO_day 2 (Option.none : Option FieldType)
abbrev b_MO_due : ByteArray := prog_5_method_25_code
abbrev y_MO_due : MethodName := ⟨"ReturnRowsModel", "due", "(I)I"⟩
abbrev w_MO_due : Cond := .code y_MO_due b_MO_due 2 (Option.some FieldType.int)
abbrev b_MO_dueOf : ByteArray := prog_5_method_24_code
abbrev y_MO_dueOf : MethodName := ⟨"ReturnRowsModel", "dueOf", "(I)I"⟩
abbrev w_MO_dueOf : Cond := .code y_MO_dueOf b_MO_dueOf 4 (Option.some FieldType.int)
abbrev b_MO_grade : ByteArray := prog_5_method_16_code
abbrev y_MO_grade : MethodName := ⟨"ReturnRowsModel", "grade", "(II)I"⟩
abbrev w_MO_grade : Cond := .code y_MO_grade b_MO_grade 3 (Option.some FieldType.int)
abbrev b_MO_hasReturn : ByteArray := prog_5_method_8_code
abbrev y_MO_hasReturn : MethodName := ⟨"ReturnRowsModel", "hasReturn", "(I)Z"⟩
abbrev w_MO_hasReturn : Cond := .code y_MO_hasReturn b_MO_hasReturn 3 (Option.some FieldType.boolean)
abbrev b_MO_in : ByteArray := prog_5_method_3_code
abbrev y_MO_in : MethodName := ⟨"ReturnRowsModel", "in", "(III)Z"⟩
abbrev w_MO_in : Cond := .code y_MO_in b_MO_in 3 (Option.some FieldType.boolean)
abbrev b_MO_init : ByteArray := prog_5_method_1_code
abbrev y_MO_init : MethodName := ⟨"ReturnRowsModel", "<init>", "()V"⟩
abbrev w_MO_init : Cond := .code y_MO_init b_MO_init 1 (Option.none : Option FieldType)
abbrev b_MO_isReturn : ByteArray := prog_5_method_5_code
abbrev y_MO_isReturn : MethodName := ⟨"ReturnRowsModel", "isReturn", "(I)Z"⟩
abbrev w_MO_isReturn : Cond := .code y_MO_isReturn b_MO_isReturn 2 (Option.some FieldType.boolean)
abbrev b_MO_isSale : ByteArray := prog_5_method_4_code
abbrev y_MO_isSale : MethodName := ⟨"ReturnRowsModel", "isSale", "(I)Z"⟩
abbrev w_MO_isSale : Cond := .code y_MO_isSale b_MO_isSale 2 (Option.some FieldType.boolean)
abbrev b_MO_isSeen : ByteArray := prog_5_method_12_code
abbrev y_MO_isSeen : MethodName := ⟨"ReturnRowsModel", "isSeen", "(I)Z"⟩
abbrev w_MO_isSeen : Cond := .code y_MO_isSeen b_MO_isSeen 2 (Option.some FieldType.boolean)
abbrev b_MO_missing : ByteArray := prog_5_method_22_code
abbrev y_MO_missing : MethodName := ⟨"ReturnRowsModel", "missing", "(II)V"⟩
abbrev w_MO_missing : Cond := .code y_MO_missing b_MO_missing 3 (Option.none : Option FieldType)
abbrev b_MO_percent : ByteArray := prog_5_method_23_code
abbrev y_MO_percent : MethodName := ⟨"ReturnRowsModel", "percent", "(I)I"⟩
abbrev w_MO_percent : Cond := .code y_MO_percent b_MO_percent 1 (Option.some FieldType.int)
abbrev b_MO_quarantine : ByteArray := prog_5_method_13_code
abbrev y_MO_quarantine : MethodName := ⟨"ReturnRowsModel", "quarantine", "(IZ)V"⟩
abbrev w_MO_quarantine : Cond := .code y_MO_quarantine b_MO_quarantine 3 (Option.none : Option FieldType)
abbrev b_MO_reason : ByteArray := prog_5_method_27_code
abbrev y_MO_reason : MethodName := ⟨"ReturnRowsModel", "reason", "(II)I"⟩
abbrev w_MO_reason : Cond := .code y_MO_reason b_MO_reason 5 (Option.some FieldType.int)
abbrev b_MO_refund : ByteArray := prog_5_method_26_code
abbrev y_MO_refund : MethodName := ⟨"ReturnRowsModel", "refund", "(II)I"⟩
abbrev w_MO_refund : Cond := .code y_MO_refund b_MO_refund 3 (Option.some FieldType.int)
abbrev b_MO_regrade : ByteArray := prog_5_method_15_code
abbrev y_MO_regrade : MethodName := ⟨"ReturnRowsModel", "regrade", "(II)V"⟩
abbrev w_MO_regrade : Cond := .code y_MO_regrade b_MO_regrade 3 (Option.none : Option FieldType)
abbrev b_MO_repair : ByteArray := prog_5_method_17_code
abbrev y_MO_repair : MethodName := ⟨"ReturnRowsModel", "repair", "(II)V"⟩
abbrev w_MO_repair : Cond := .code y_MO_repair b_MO_repair 3 (Option.none : Option FieldType)
abbrev b_MO_returnsOf : ByteArray := prog_5_method_28_code
abbrev y_MO_returnsOf : MethodName := ⟨"ReturnRowsModel", "returnsOf", "(IZ)I"⟩
abbrev w_MO_returnsOf : Cond := .code y_MO_returnsOf b_MO_returnsOf 5 (Option.some FieldType.int)
abbrev b_MO_sale : ByteArray := prog_5_method_7_code
abbrev y_MO_sale : MethodName := ⟨"ReturnRowsModel", "sale", "(III)I"⟩
abbrev w_MO_sale : Cond := .code y_MO_sale b_MO_sale 4 (Option.some FieldType.int)
abbrev b_MO_scrap : ByteArray := prog_5_method_19_code
abbrev y_MO_scrap : MethodName := ⟨"ReturnRowsModel", "scrap", "(II)Z"⟩
abbrev w_MO_scrap : Cond := .code y_MO_scrap b_MO_scrap 3 (Option.some FieldType.boolean)
abbrev b_MO_serial : ByteArray := prog_5_method_11_code
abbrev y_MO_serial : MethodName := ⟨"ReturnRowsModel", "serial", "(II)I"⟩
abbrev w_MO_serial : Cond := .code y_MO_serial b_MO_serial 3 (Option.some FieldType.int)
abbrev b_MO_step : ByteArray := prog_5_method_18_code
abbrev y_MO_step : MethodName := ⟨"ReturnRowsModel", "step", "(IZ)I"⟩
abbrev w_MO_step : Cond := .code y_MO_step b_MO_step 3 (Option.some FieldType.int)
abbrev b_MO_thrown : ByteArray := prog_5_method_2_code
abbrev y_MO_thrown : MethodName := ⟨"ReturnRowsModel", "thrown", "()I"⟩
abbrev w_MO_thrown : Cond := .code y_MO_thrown b_MO_thrown 1 (Option.some FieldType.int)
abbrev b_MO_told : ByteArray := prog_5_method_30_code
abbrev y_MO_told : MethodName := ⟨"ReturnRowsModel", "told", "(II)I"⟩
abbrev w_MO_told : Cond := .code y_MO_told b_MO_told 3 (Option.some FieldType.int)
abbrev b_RE_amountDue : ByteArray := prog_2_method_5_code
abbrev y_RE_amountDue : MethodName := ⟨"ReturnRows$Return", "amountDue", "()I"⟩
abbrev w_RE_amountDue : Cond := .code y_RE_amountDue b_RE_amountDue 3 (Option.some FieldType.int)
abbrev b_RE_init : ByteArray := prog_2_method_1_code
abbrev y_RE_init : MethodName := ⟨"ReturnRows$Return", "<init>", "(LReturnRows$Sale;III)V"⟩
abbrev w_RE_init : Cond := .code y_RE_init b_RE_init 5 (Option.none : Option FieldType)
abbrev b_RE_isOf : ByteArray := prog_2_method_3_code
abbrev y_RE_isOf : MethodName := ⟨"ReturnRows$Return", "isOf", "(II)Z"⟩
abbrev w_RE_isOf : Cond := .code y_RE_isOf b_RE_isOf 3 (Option.some FieldType.boolean)
abbrev b_RE_measured : ByteArray := prog_2_method_4_code
abbrev y_RE_measured : MethodName := ⟨"ReturnRows$Return", "measured", "(I)I"⟩
abbrev w_RE_measured : Cond := .code y_RE_measured b_RE_measured 2 (Option.some FieldType.int)
abbrev b_RE_takeGrade : ByteArray := prog_2_method_2_code
abbrev y_RE_takeGrade : MethodName := ⟨"ReturnRows$Return", "takeGrade", "(I)V"⟩
abbrev w_RE_takeGrade : Cond := .code y_RE_takeGrade b_RE_takeGrade 2 (Option.none : Option FieldType)
abbrev b_RR_arrive : ByteArray := prog_1_method_5_code
abbrev y_RR_arrive : MethodName := ⟨"ReturnRows", "arrive", "(II)V"⟩
abbrev w_RR_arrive : Cond := .code y_RR_arrive b_RR_arrive 5 (Option.none : Option FieldType)
abbrev b_RR_back : ByteArray := prog_1_method_13_code
abbrev y_RR_back : MethodName := ⟨"ReturnRows", "back", "(I)I"⟩
abbrev w_RR_back : Cond := .code y_RR_back b_RR_back 3 (Option.some FieldType.int)
abbrev b_RR_backOfClass : ByteArray := prog_1_method_29_code
abbrev y_RR_backOfClass : MethodName := ⟨"ReturnRows", "backOfClass", "(I)I"⟩
abbrev w_RR_backOfClass : Cond := .code y_RR_backOfClass b_RR_backOfClass 7 (Option.some FieldType.int)
abbrev b_RR_check : ByteArray := prog_1_method_8_code
abbrev y_RR_check : MethodName := ⟨"ReturnRows", "check", "(IIZ)I"⟩
abbrev w_RR_check : Cond := .code y_RR_check b_RR_check 6 (Option.some FieldType.int)
abbrev b_RR_comes : ByteArray := prog_1_method_4_code
abbrev y_RR_comes : MethodName := ⟨"ReturnRows", "comes", "(IIZ)I"⟩
abbrev w_RR_comes : Cond := .code y_RR_comes b_RR_comes 5 (Option.some FieldType.int)
abbrev b_RR_count : ByteArray := prog_1_method_20_code
abbrev y_RR_count : MethodName := ⟨"ReturnRows", "count", "(I)I"⟩
abbrev w_RR_count : Cond := .code y_RR_count b_RR_count 2 (Option.some FieldType.int)
abbrev b_RR_customer : ByteArray := prog_1_method_18_code
abbrev y_RR_customer : MethodName := ⟨"ReturnRows", "customer", "(II)I"⟩
abbrev w_RR_customer : Cond := .code y_RR_customer b_RR_customer 3 (Option.some FieldType.int)
abbrev b_RR_day : ByteArray := prog_1_method_2_code
abbrev y_RR_day : MethodName := ⟨"ReturnRows", "day", "(I)V"⟩
abbrev w_RR_day : Cond := .code y_RR_day b_RR_day 2 (Option.none : Option FieldType)
abbrev b_RR_due : ByteArray := prog_1_method_16_code
abbrev y_RR_due : MethodName := ⟨"ReturnRows", "due", "(I)I"⟩
abbrev w_RR_due : Cond := .code y_RR_due b_RR_due 2 (Option.some FieldType.int)
abbrev b_RR_grade : ByteArray := prog_1_method_9_code
abbrev y_RR_grade : MethodName := ⟨"ReturnRows", "grade", "(II)I"⟩
abbrev w_RR_grade : Cond := .code y_RR_grade b_RR_grade 4 (Option.some FieldType.int)
abbrev b_RR_init : ByteArray := prog_1_method_1_code
abbrev y_RR_init : MethodName := ⟨"ReturnRows", "<init>", "()V"⟩
abbrev w_RR_init : Cond := .code y_RR_init b_RR_init 1 (Option.none : Option FieldType)
abbrev b_RR_isCertificateUsed : ByteArray := prog_1_method_28_code
abbrev y_RR_isCertificateUsed : MethodName := ⟨"ReturnRows", "isCertificateUsed", "(I)Z"⟩
abbrev w_RR_isCertificateUsed : Cond := .code y_RR_isCertificateUsed b_RR_isCertificateUsed 6 (Option.some FieldType.boolean)
abbrev b_RR_isMarked : ByteArray := prog_1_method_32_code
abbrev y_RR_isMarked : MethodName := ⟨"ReturnRows", "isMarked", "(I)Z"⟩
abbrev w_RR_isMarked : Cond := .code y_RR_isMarked b_RR_isMarked 2 (Option.some FieldType.boolean)
abbrev b_RR_missing : ByteArray := prog_1_method_14_code
abbrev y_RR_missing : MethodName := ⟨"ReturnRows", "missing", "(II)V"⟩
abbrev w_RR_missing : Cond := .code y_RR_missing b_RR_missing 4 (Option.none : Option FieldType)
abbrev b_RR_quarantine : ByteArray := prog_1_method_7_code
abbrev y_RR_quarantine : MethodName := ⟨"ReturnRows", "quarantine", "(IZ)V"⟩
abbrev w_RR_quarantine : Cond := .code y_RR_quarantine b_RR_quarantine 4 (Option.none : Option FieldType)
abbrev b_RR_reason : ByteArray := prog_1_method_17_code
abbrev y_RR_reason : MethodName := ⟨"ReturnRows", "reason", "(II)I"⟩
abbrev w_RR_reason : Cond := .code y_RR_reason b_RR_reason 3 (Option.some FieldType.int)
abbrev b_RR_recentReturnsOf : ByteArray := prog_1_method_31_code
abbrev y_RR_recentReturnsOf : MethodName := ⟨"ReturnRows", "recentReturnsOf", "(I)I"⟩
abbrev w_RR_recentReturnsOf : Cond := .code y_RR_recentReturnsOf b_RR_recentReturnsOf 7 (Option.some FieldType.int)
abbrev b_RR_refund : ByteArray := prog_1_method_15_code
abbrev y_RR_refund : MethodName := ⟨"ReturnRows", "refund", "(II)I"⟩
abbrev w_RR_refund : Cond := .code y_RR_refund b_RR_refund 5 (Option.some FieldType.int)
abbrev b_RR_repair : ByteArray := prog_1_method_10_code
abbrev y_RR_repair : MethodName := ⟨"ReturnRows", "repair", "(II)V"⟩
abbrev w_RR_repair : Cond := .code y_RR_repair b_RR_repair 4 (Option.none : Option FieldType)
abbrev b_RR_requireGraded : ByteArray := prog_1_method_25_code
abbrev y_RR_requireGraded : MethodName := ⟨"ReturnRows", "requireGraded", "(LReturnRows$Return;)V"⟩
abbrev w_RR_requireGraded : Cond := .code y_RR_requireGraded b_RR_requireGraded 1 (Option.none : Option FieldType)
abbrev b_RR_requireHere : ByteArray := prog_1_method_24_code
abbrev y_RR_requireHere : MethodName := ⟨"ReturnRows", "requireHere", "(LReturnRows$Return;)V"⟩
abbrev w_RR_requireHere : Cond := .code y_RR_requireHere b_RR_requireHere 1 (Option.none : Option FieldType)
abbrev b_RR_requireHereOrGraded : ByteArray := prog_1_method_26_code
abbrev y_RR_requireHereOrGraded : MethodName := ⟨"ReturnRows", "requireHereOrGraded", "(LReturnRows$Return;)V"⟩
abbrev w_RR_requireHereOrGraded : Cond := .code y_RR_requireHereOrGraded b_RR_requireHereOrGraded 1 (Option.none : Option FieldType)
abbrev b_RR_requireNoQuarantine : ByteArray := prog_1_method_27_code
abbrev y_RR_requireNoQuarantine : MethodName := ⟨"ReturnRows", "requireNoQuarantine", "(LReturnRows$Return;)V"⟩
abbrev w_RR_requireNoQuarantine : Cond := .code y_RR_requireNoQuarantine b_RR_requireNoQuarantine 1 (Option.none : Option FieldType)
abbrev b_RR_requireWithin : ByteArray := prog_1_method_23_code
abbrev y_RR_requireWithin : MethodName := ⟨"ReturnRows", "requireWithin", "(III)V"⟩
abbrev w_RR_requireWithin : Cond := .code y_RR_requireWithin b_RR_requireWithin 3 (Option.none : Option FieldType)
abbrev b_RR_returnAt : ByteArray := prog_1_method_22_code
abbrev y_RR_returnAt : MethodName := ⟨"ReturnRows", "returnAt", "(I)LReturnRows$Return;"⟩
abbrev w_RR_returnAt : Cond := .code y_RR_returnAt b_RR_returnAt 3 (Option.some (FieldType.object "ReturnRows$Return"))
abbrev b_RR_sale : ByteArray := prog_1_method_3_code
abbrev y_RR_sale : MethodName := ⟨"ReturnRows", "sale", "(III)I"⟩
abbrev w_RR_sale : Cond := .code y_RR_sale b_RR_sale 5 (Option.some FieldType.int)
abbrev b_RR_saleAt : ByteArray := prog_1_method_21_code
abbrev y_RR_saleAt : MethodName := ⟨"ReturnRows", "saleAt", "(I)LReturnRows$Sale;"⟩
abbrev w_RR_saleAt : Cond := .code y_RR_saleAt b_RR_saleAt 3 (Option.some (FieldType.object "ReturnRows$Sale"))
abbrev b_RR_salesTo : ByteArray := prog_1_method_30_code
abbrev y_RR_salesTo : MethodName := ⟨"ReturnRows", "salesTo", "(I)I"⟩
abbrev w_RR_salesTo : Cond := .code y_RR_salesTo b_RR_salesTo 7 (Option.some FieldType.int)
abbrev b_RR_scrap : ByteArray := prog_1_method_12_code
abbrev y_RR_scrap : MethodName := ⟨"ReturnRows", "scrap", "(II)Z"⟩
abbrev w_RR_scrap : Cond := .code y_RR_scrap b_RR_scrap 4 (Option.some FieldType.boolean)
abbrev b_RR_serial : ByteArray := prog_1_method_6_code
abbrev y_RR_serial : MethodName := ⟨"ReturnRows", "serial", "(II)I"⟩
abbrev w_RR_serial : Cond := .code y_RR_serial b_RR_serial 5 (Option.some FieldType.int)
abbrev b_RR_step : ByteArray := prog_1_method_11_code
abbrev y_RR_step : MethodName := ⟨"ReturnRows", "step", "(IZ)I"⟩
abbrev w_RR_step : Cond := .code y_RR_step b_RR_step 4 (Option.some FieldType.int)
abbrev b_RR_sum : ByteArray := prog_1_method_33_code
abbrev y_RR_sum : MethodName := ⟨"ReturnRows", "sum", "(III)I"⟩
abbrev w_RR_sum : Cond := .code y_RR_sum b_RR_sum 9 (Option.some FieldType.int)
abbrev b_RR_told : ByteArray := prog_1_method_19_code
abbrev y_RR_told : MethodName := ⟨"ReturnRows", "told", "(II)I"⟩
abbrev w_RR_told : Cond := .code y_RR_told b_RR_told 4 (Option.some FieldType.int)
abbrev b_SA_init : ByteArray := prog_3_method_1_code
abbrev y_SA_init : MethodName := ⟨"ReturnRows$Sale", "<init>", "(IIIII)V"⟩
abbrev w_SA_init : Cond := .code y_SA_init b_SA_init 6 (Option.none : Option FieldType)
end
section
/-! ===== each word of the tables, by its place ===== -/
theorem k_0 : (.selects "ReturnRows" ⟨"ReturnRows","sum","(III)I"⟩ ⟨"ReturnRows","sum","(III)I"⟩ : Cond) ∈ lw_tbl := List.mem_of_getElem? (i := 0) rfl
theorem k_1 : (.selects "ReturnRows" ⟨"ReturnRows","backOfClass","(I)I"⟩ ⟨"ReturnRows","backOfClass","(I)I"⟩ : Cond) ∈ lw_tbl := List.mem_of_getElem? (i := 1) rfl
theorem k_2 : (.selects "java/lang/Throwable" ⟨"java/lang/Throwable","fillInStackTrace","(I)Ljava/lang/Throwable;"⟩ ⟨"java/lang/Throwable","fillInStackTrace","(I)Ljava/lang/Throwable;"⟩ : Cond) ∈ lw_tbl := List.mem_of_getElem? (i := 2) rfl
theorem k_3 : (.selects "ReturnRows" ⟨"ReturnRows","saleAt","(I)LReturnRows$Sale;"⟩ ⟨"ReturnRows","saleAt","(I)LReturnRows$Sale;"⟩ : Cond) ∈ lw_tbl := List.mem_of_getElem? (i := 3) rfl
theorem k_4 : (.selects "ReturnRows" ⟨"ReturnRows","returnAt","(I)LReturnRows$Return;"⟩ ⟨"ReturnRows","returnAt","(I)LReturnRows$Return;"⟩ : Cond) ∈ lw_tbl := List.mem_of_getElem? (i := 4) rfl
theorem k_5 : (.selects "ReturnRows" ⟨"ReturnRows","isCertificateUsed","(I)Z"⟩ ⟨"ReturnRows","isCertificateUsed","(I)Z"⟩ : Cond) ∈ lw_tbl := List.mem_of_getElem? (i := 5) rfl
theorem k_6 : (.selects "ReturnRows" ⟨"ReturnRows","salesTo","(I)I"⟩ ⟨"ReturnRows","salesTo","(I)I"⟩ : Cond) ∈ lw_tbl := List.mem_of_getElem? (i := 6) rfl
theorem k_7 : (.selects "ReturnRows" ⟨"ReturnRows","isMarked","(I)Z"⟩ ⟨"ReturnRows","isMarked","(I)Z"⟩ : Cond) ∈ lw_tbl := List.mem_of_getElem? (i := 7) rfl
theorem k_8 : (.selects "ReturnRows" ⟨"ReturnRows","recentReturnsOf","(I)I"⟩ ⟨"ReturnRows","recentReturnsOf","(I)I"⟩ : Cond) ∈ lw_tbl := List.mem_of_getElem? (i := 8) rfl
theorem k_9 : (.selects "ReturnRowsModel" ⟨"ReturnRowsModel","isSale","(I)Z"⟩ ⟨"ReturnRowsModel","isSale","(I)Z"⟩ : Cond) ∈ lw_tbl := List.mem_of_getElem? (i := 9) rfl
theorem k_10 : (.selects "ReturnRowsModel" ⟨"ReturnRowsModel","hasReturn","(I)Z"⟩ ⟨"ReturnRowsModel","hasReturn","(I)Z"⟩ : Cond) ∈ lw_tbl := List.mem_of_getElem? (i := 10) rfl
theorem k_11 : (.selects "ReturnRowsModel" ⟨"ReturnRowsModel","isReturn","(I)Z"⟩ ⟨"ReturnRowsModel","isReturn","(I)Z"⟩ : Cond) ∈ lw_tbl := List.mem_of_getElem? (i := 11) rfl
theorem k_12 : (.selects "ReturnRowsModel" ⟨"ReturnRowsModel","isSeen","(I)Z"⟩ ⟨"ReturnRowsModel","isSeen","(I)Z"⟩ : Cond) ∈ lw_tbl := List.mem_of_getElem? (i := 12) rfl
theorem k_13 : (.selects "ReturnRowsModel" ⟨"ReturnRowsModel","regrade","(II)V"⟩ ⟨"ReturnRowsModel","regrade","(II)V"⟩ : Cond) ∈ lw_tbl := List.mem_of_getElem? (i := 13) rfl
theorem k_14 : (.selects "ReturnRowsModel" ⟨"ReturnRowsModel","backs","(I)I"⟩ ⟨"ReturnRowsModel","backs","(I)I"⟩ : Cond) ∈ lw_tbl := List.mem_of_getElem? (i := 14) rfl
theorem k_15 : (.selects "ReturnRowsModel" ⟨"ReturnRowsModel","dueOf","(I)I"⟩ ⟨"ReturnRowsModel","dueOf","(I)I"⟩ : Cond) ∈ lw_tbl := List.mem_of_getElem? (i := 15) rfl
theorem k_16 : (.selects "ReturnRowsModel" ⟨"ReturnRowsModel","returnsOf","(IZ)I"⟩ ⟨"ReturnRowsModel","returnsOf","(IZ)I"⟩ : Cond) ∈ lw_tbl := List.mem_of_getElem? (i := 16) rfl
theorem k_17 : (.initialized "ReturnRowsLaw" : Cond) ∈ lw_tbl := List.mem_of_getElem? (i := 17) rfl
theorem k_18 : (.initialized "ReturnRows" : Cond) ∈ lw_tbl := List.mem_of_getElem? (i := 18) rfl
theorem k_19 : (.initialized "ReturnRowsModel" : Cond) ∈ lw_tbl := List.mem_of_getElem? (i := 19) rfl
theorem k_20 : (.initialized "java/lang/Throwable" : Cond) ∈ lw_tbl := List.mem_of_getElem? (i := 20) rfl
theorem k_21 : (.initialized "java/lang/Exception" : Cond) ∈ lw_tbl := List.mem_of_getElem? (i := 21) rfl
theorem k_22 : (.initialized "java/lang/RuntimeException" : Cond) ∈ lw_tbl := List.mem_of_getElem? (i := 22) rfl
theorem k_23 : (.initialized "java/lang/IllegalArgumentException" : Cond) ∈ lw_tbl := List.mem_of_getElem? (i := 23) rfl
theorem k_24 : (.initialized "java/lang/UnsupportedOperationException" : Cond) ∈ lw_tbl := List.mem_of_getElem? (i := 24) rfl
theorem k_25 : (.initialized "ReturnRows$Sale" : Cond) ∈ lw_tbl := List.mem_of_getElem? (i := 25) rfl
theorem k_26 : (.initialized "java/util/NoSuchElementException" : Cond) ∈ lw_tbl := List.mem_of_getElem? (i := 26) rfl
theorem k_27 : (.initialized "java/lang/IllegalStateException" : Cond) ∈ lw_tbl := List.mem_of_getElem? (i := 27) rfl
theorem k_28 : (.initialized "ReturnRows$Return" : Cond) ∈ lw_tbl := List.mem_of_getElem? (i := 28) rfl
theorem k_29 : (.initialized "java/lang/Integer" : Cond) ∈ lw_tbl := List.mem_of_getElem? (i := 29) rfl
theorem k_30 : (.initialized "java/lang/Math" : Cond) ∈ lw_tbl := List.mem_of_getElem? (i := 30) rfl
theorem k_31 : (.classLink "ReturnRowsLaw" 8 "ReturnRows" : Cond) ∈ lw_tbl := List.mem_of_getElem? (i := 31) rfl
theorem k_32 : (.instantiable "ReturnRows" 5 : Cond) ∈ lw_tbl := List.mem_of_getElem? (i := 32) rfl
theorem k_33 : (.methodLink "ReturnRowsLaw" 80 ⟨"ReturnRows","<init>","()V"⟩ : Cond) ∈ lw_tbl := List.mem_of_getElem? (i := 33) rfl
theorem k_34 : (.instanceMethod ⟨"ReturnRows","<init>","()V"⟩ : Cond) ∈ lw_tbl := List.mem_of_getElem? (i := 34) rfl
theorem k_35 : (.code ⟨"ReturnRows","<init>","()V"⟩ prog_1_method_1_code 1 (Option.none : Option FieldType) : Cond) ∈ lw_tbl := List.mem_of_getElem? (i := 35) rfl
theorem k_36 : (.methodLink "ReturnRows" 1 ⟨"java/lang/Object","<init>","()V"⟩ : Cond) ∈ lw_tbl := List.mem_of_getElem? (i := 36) rfl
theorem k_37 : (.instanceMethod ⟨"java/lang/Object","<init>","()V"⟩ : Cond) ∈ lw_tbl := List.mem_of_getElem? (i := 37) rfl
theorem k_38 : (.code ⟨"java/lang/Object","<init>","()V"⟩ object_method_1_code 1 (Option.none : Option FieldType) : Cond) ∈ lw_tbl := List.mem_of_getElem? (i := 38) rfl
theorem k_39 : (.classLink "ReturnRows" 9 "ReturnRows$Sale" : Cond) ∈ lw_tbl := List.mem_of_getElem? (i := 39) rfl
theorem k_40 : (.arrayOver (FieldType.object "ReturnRows$Sale") : Cond) ∈ lw_tbl := List.mem_of_getElem? (i := 40) rfl
theorem k_41 : (.classLink "ReturnRows" 15 "ReturnRows$Return" : Cond) ∈ lw_tbl := List.mem_of_getElem? (i := 41) rfl
theorem k_42 : (.arrayOver (FieldType.object "ReturnRows$Return") : Cond) ∈ lw_tbl := List.mem_of_getElem? (i := 42) rfl
theorem k_43 : (.fieldLink "ReturnRows" 11 "ReturnRows" "sales" "[LReturnRows$Sale;" : Cond) ∈ lw_tbl := List.mem_of_getElem? (i := 43) rfl
theorem k_44 : (.fieldLink "ReturnRows" 17 "ReturnRows" "returns" "[LReturnRows$Return;" : Cond) ∈ lw_tbl := List.mem_of_getElem? (i := 44) rfl
theorem k_45 : (.fieldLink "ReturnRows" 30 "ReturnRows" "saleCount" "I" : Cond) ∈ lw_tbl := List.mem_of_getElem? (i := 45) rfl
theorem k_46 : (.fieldLink "ReturnRows" 56 "ReturnRows" "returnCount" "I" : Cond) ∈ lw_tbl := List.mem_of_getElem? (i := 46) rfl
theorem k_47 : (.fieldLink "ReturnRows" 21 "ReturnRows" "today" "I" : Cond) ∈ lw_tbl := List.mem_of_getElem? (i := 47) rfl
theorem k_48 : (.laysFinal "ReturnRows" "ReturnRows" "sales" "[LReturnRows$Sale;" : Cond) ∈ lw_tbl := List.mem_of_getElem? (i := 48) rfl
theorem k_49 : (.soleField "ReturnRows" "sales" : Cond) ∈ lw_tbl := List.mem_of_getElem? (i := 49) rfl
theorem k_50 : (.laysFinal "ReturnRows" "ReturnRows" "returns" "[LReturnRows$Return;" : Cond) ∈ lw_tbl := List.mem_of_getElem? (i := 50) rfl
theorem k_51 : (.soleField "ReturnRows" "returns" : Cond) ∈ lw_tbl := List.mem_of_getElem? (i := 51) rfl
theorem k_52 : (.lays "ReturnRows" "ReturnRows" "saleCount" "I" : Cond) ∈ lw_tbl := List.mem_of_getElem? (i := 52) rfl
theorem k_53 : (.soleField "ReturnRows" "saleCount" : Cond) ∈ lw_tbl := List.mem_of_getElem? (i := 53) rfl
theorem k_54 : (.lays "ReturnRows" "ReturnRows" "returnCount" "I" : Cond) ∈ lw_tbl := List.mem_of_getElem? (i := 54) rfl
theorem k_55 : (.soleField "ReturnRows" "returnCount" : Cond) ∈ lw_tbl := List.mem_of_getElem? (i := 55) rfl
theorem k_56 : (.lays "ReturnRows" "ReturnRows" "today" "I" : Cond) ∈ lw_tbl := List.mem_of_getElem? (i := 56) rfl
theorem k_57 : (.soleField "ReturnRows" "today" : Cond) ∈ lw_tbl := List.mem_of_getElem? (i := 57) rfl
theorem k_58 : (.superclass "ReturnRows" "java/lang/Object" : Cond) ∈ lw_tbl := List.mem_of_getElem? (i := 58) rfl
theorem k_59 : (.methodLink "ReturnRowsLaw" 152 ⟨"ReturnRows","count","(I)I"⟩ : Cond) ∈ lw_tbl := List.mem_of_getElem? (i := 59) rfl
theorem k_60 : (.instanceMethod ⟨"ReturnRows","count","(I)I"⟩ : Cond) ∈ lw_tbl := List.mem_of_getElem? (i := 60) rfl
theorem k_61 : (.selects "ReturnRows" ⟨"ReturnRows","count","(I)I"⟩ ⟨"ReturnRows","count","(I)I"⟩ : Cond) ∈ lw_tbl := List.mem_of_getElem? (i := 61) rfl
theorem k_62 : (.code ⟨"ReturnRows","count","(I)I"⟩ prog_1_method_20_code 2 (Option.some FieldType.int) : Cond) ∈ lw_tbl := List.mem_of_getElem? (i := 62) rfl
theorem k_63 : (.methodLink "ReturnRows" 167 ⟨"ReturnRows","sum","(III)I"⟩ : Cond) ∈ lw_tbl := List.mem_of_getElem? (i := 63) rfl
theorem k_64 : (.privateMethod ⟨"ReturnRows","sum","(III)I"⟩ : Cond) ∈ lw_tbl := List.mem_of_getElem? (i := 64) rfl
theorem k_65 : (.instanceMethod ⟨"ReturnRows","sum","(III)I"⟩ : Cond) ∈ lw_tbl := List.mem_of_getElem? (i := 65) rfl
theorem k_66 : (.code ⟨"ReturnRows","sum","(III)I"⟩ prog_1_method_33_code 9 (Option.some FieldType.int) : Cond) ∈ lw_tbl := List.mem_of_getElem? (i := 66) rfl
theorem k_67 : (.methodLink "ReturnRows" 218 ⟨"ReturnRows$Return","isOf","(II)Z"⟩ : Cond) ∈ lw_tbl := List.mem_of_getElem? (i := 67) rfl
theorem k_68 : (.instanceMethod ⟨"ReturnRows$Return","isOf","(II)Z"⟩ : Cond) ∈ lw_tbl := List.mem_of_getElem? (i := 68) rfl
theorem k_69 : (.selects "ReturnRows$Return" ⟨"ReturnRows$Return","isOf","(II)Z"⟩ ⟨"ReturnRows$Return","isOf","(II)Z"⟩ : Cond) ∈ lw_tbl := List.mem_of_getElem? (i := 69) rfl
theorem k_70 : (.code ⟨"ReturnRows$Return","isOf","(II)Z"⟩ prog_2_method_3_code 3 (Option.some FieldType.boolean) : Cond) ∈ lw_tbl := List.mem_of_getElem? (i := 70) rfl
theorem k_71 : (.methodLink "ReturnRows" 222 ⟨"ReturnRows$Return","measured","(I)I"⟩ : Cond) ∈ lw_tbl := List.mem_of_getElem? (i := 71) rfl
theorem k_72 : (.instanceMethod ⟨"ReturnRows$Return","measured","(I)I"⟩ : Cond) ∈ lw_tbl := List.mem_of_getElem? (i := 72) rfl
theorem k_73 : (.selects "ReturnRows$Return" ⟨"ReturnRows$Return","measured","(I)I"⟩ ⟨"ReturnRows$Return","measured","(I)I"⟩ : Cond) ∈ lw_tbl := List.mem_of_getElem? (i := 73) rfl
theorem k_74 : (.code ⟨"ReturnRows$Return","measured","(I)I"⟩ prog_2_method_4_code 2 (Option.some FieldType.int) : Cond) ∈ lw_tbl := List.mem_of_getElem? (i := 74) rfl
theorem k_75 : (.methodLink "ReturnRows" 152 ⟨"ReturnRows","backOfClass","(I)I"⟩ : Cond) ∈ lw_tbl := List.mem_of_getElem? (i := 75) rfl
theorem k_76 : (.privateMethod ⟨"ReturnRows","backOfClass","(I)I"⟩ : Cond) ∈ lw_tbl := List.mem_of_getElem? (i := 76) rfl
theorem k_77 : (.instanceMethod ⟨"ReturnRows","backOfClass","(I)I"⟩ : Cond) ∈ lw_tbl := List.mem_of_getElem? (i := 77) rfl
theorem k_78 : (.code ⟨"ReturnRows","backOfClass","(I)I"⟩ prog_1_method_29_code 7 (Option.some FieldType.int) : Cond) ∈ lw_tbl := List.mem_of_getElem? (i := 78) rfl
theorem k_79 : (.methodLink "ReturnRowsLaw" 84 ⟨"ReturnRowsLaw","day","(LReturnRows;I)I"⟩ : Cond) ∈ lw_tbl := List.mem_of_getElem? (i := 79) rfl
theorem k_80 : (.static ⟨"ReturnRowsLaw","day","(LReturnRows;I)I"⟩ : Cond) ∈ lw_tbl := List.mem_of_getElem? (i := 80) rfl
theorem k_81 : (.codeWith ⟨"ReturnRowsLaw","day","(LReturnRows;I)I"⟩ method_3_code 3 (Option.some FieldType.int) [(0, 5, 8, 13)] : Cond) ∈ lw_tbl := List.mem_of_getElem? (i := 81) rfl
theorem k_82 : (.classLink "ReturnRowsLaw" 13 "java/lang/IllegalArgumentException" : Cond) ∈ lw_tbl := List.mem_of_getElem? (i := 82) rfl
theorem k_83 : (.methodLink "ReturnRowsLaw" 7 ⟨"ReturnRows","day","(I)V"⟩ : Cond) ∈ lw_tbl := List.mem_of_getElem? (i := 83) rfl
theorem k_84 : (.instanceMethod ⟨"ReturnRows","day","(I)V"⟩ : Cond) ∈ lw_tbl := List.mem_of_getElem? (i := 84) rfl
theorem k_85 : (.selects "ReturnRows" ⟨"ReturnRows","day","(I)V"⟩ ⟨"ReturnRows","day","(I)V"⟩ : Cond) ∈ lw_tbl := List.mem_of_getElem? (i := 85) rfl
theorem k_86 : (.code ⟨"ReturnRows","day","(I)V"⟩ prog_1_method_2_code 2 (Option.none : Option FieldType) : Cond) ∈ lw_tbl := List.mem_of_getElem? (i := 86) rfl
theorem k_87 : (.methodLink "ReturnRows" 25 ⟨"ReturnRows","requireWithin","(III)V"⟩ : Cond) ∈ lw_tbl := List.mem_of_getElem? (i := 87) rfl
theorem k_88 : (.static ⟨"ReturnRows","requireWithin","(III)V"⟩ : Cond) ∈ lw_tbl := List.mem_of_getElem? (i := 88) rfl
theorem k_89 : (.code ⟨"ReturnRows","requireWithin","(III)V"⟩ prog_1_method_23_code 3 (Option.none : Option FieldType) : Cond) ∈ lw_tbl := List.mem_of_getElem? (i := 89) rfl
theorem k_90 : (.classLink "ReturnRows" 171 "java/lang/IllegalArgumentException" : Cond) ∈ lw_tbl := List.mem_of_getElem? (i := 90) rfl
theorem k_91 : (.instantiable "java/lang/IllegalArgumentException" 6 : Cond) ∈ lw_tbl := List.mem_of_getElem? (i := 91) rfl
theorem k_92 : (.castable "java/lang/IllegalArgumentException" "java/lang/IllegalArgumentException" : Cond) ∈ lw_tbl := List.mem_of_getElem? (i := 92) rfl
theorem k_93 : (.declares ⟨"java/lang/RuntimeException","<init>","()V"⟩ : Cond) ∈ lw_tbl := List.mem_of_getElem? (i := 93) rfl
theorem k_94 : (.declares ⟨"java/lang/RuntimeException","<init>","(Ljava/lang/String;)V"⟩ : Cond) ∈ lw_tbl := List.mem_of_getElem? (i := 94) rfl
theorem k_95 : (.declares ⟨"java/lang/Exception","<init>","()V"⟩ : Cond) ∈ lw_tbl := List.mem_of_getElem? (i := 95) rfl
theorem k_96 : (.declares ⟨"java/lang/Exception","<init>","(Ljava/lang/String;)V"⟩ : Cond) ∈ lw_tbl := List.mem_of_getElem? (i := 96) rfl
theorem k_97 : (.declares ⟨"java/lang/Throwable","<init>","()V"⟩ : Cond) ∈ lw_tbl := List.mem_of_getElem? (i := 97) rfl
theorem k_98 : (.declares ⟨"java/lang/Throwable","<init>","(Ljava/lang/String;)V"⟩ : Cond) ∈ lw_tbl := List.mem_of_getElem? (i := 98) rfl
theorem k_99 : (.selects "java/lang/IllegalArgumentException" ⟨"java/lang/Throwable","fillInStackTrace","(I)Ljava/lang/Throwable;"⟩ ⟨"java/lang/Throwable","fillInStackTrace","(I)Ljava/lang/Throwable;"⟩ : Cond) ∈ lw_tbl := List.mem_of_getElem? (i := 99) rfl
theorem k_100 : (.selects "java/lang/IllegalArgumentException" ⟨"java/lang/Throwable","fillInStackTrace","()Ljava/lang/Throwable;"⟩ ⟨"java/lang/Throwable","fillInStackTrace","()Ljava/lang/Throwable;"⟩ : Cond) ∈ lw_tbl := List.mem_of_getElem? (i := 100) rfl
theorem k_101 : (.lays "java/lang/IllegalArgumentException" "java/lang/Throwable" "cause" "Ljava/lang/Throwable;" : Cond) ∈ lw_tbl := List.mem_of_getElem? (i := 101) rfl
theorem k_102 : (.lays "java/lang/Throwable" "java/lang/Throwable" "cause" "Ljava/lang/Throwable;" : Cond) ∈ lw_tbl := List.mem_of_getElem? (i := 102) rfl
theorem k_103 : (.lays "java/lang/IllegalArgumentException" "java/lang/Throwable" "stackTrace" "[Ljava/lang/StackTraceElement;" : Cond) ∈ lw_tbl := List.mem_of_getElem? (i := 103) rfl
theorem k_104 : (.lays "java/lang/Throwable" "java/lang/Throwable" "stackTrace" "[Ljava/lang/StackTraceElement;" : Cond) ∈ lw_tbl := List.mem_of_getElem? (i := 104) rfl
theorem k_105 : (.lays "java/lang/IllegalArgumentException" "java/lang/Throwable" "suppressedExceptions" "Ljava/util/List;" : Cond) ∈ lw_tbl := List.mem_of_getElem? (i := 105) rfl
theorem k_106 : (.lays "java/lang/Throwable" "java/lang/Throwable" "suppressedExceptions" "Ljava/util/List;" : Cond) ∈ lw_tbl := List.mem_of_getElem? (i := 106) rfl
theorem k_107 : (.lays "java/lang/IllegalArgumentException" "java/lang/Throwable" "detailMessage" "Ljava/lang/String;" : Cond) ∈ lw_tbl := List.mem_of_getElem? (i := 107) rfl
theorem k_108 : (.lays "java/lang/Throwable" "java/lang/Throwable" "detailMessage" "Ljava/lang/String;" : Cond) ∈ lw_tbl := List.mem_of_getElem? (i := 108) rfl
theorem k_109 : (.lays "java/lang/IllegalArgumentException" "java/lang/Throwable" "backtrace" "Ljava/lang/Object;" : Cond) ∈ lw_tbl := List.mem_of_getElem? (i := 109) rfl
theorem k_110 : (.lays "java/lang/Throwable" "java/lang/Throwable" "backtrace" "Ljava/lang/Object;" : Cond) ∈ lw_tbl := List.mem_of_getElem? (i := 110) rfl
theorem k_111 : (.fieldLink "java/lang/Throwable" 198 "java/lang/Throwable" "backtrace" "Ljava/lang/Object;" : Cond) ∈ lw_tbl := List.mem_of_getElem? (i := 111) rfl
theorem k_112 : (.superclass "java/lang/Throwable" "java/lang/Object" : Cond) ∈ lw_tbl := List.mem_of_getElem? (i := 112) rfl
theorem k_113 : (.instanceMethod ⟨"java/lang/Throwable","<init>","()V"⟩ : Cond) ∈ lw_tbl := List.mem_of_getElem? (i := 113) rfl
theorem k_114 : (.code ⟨"java/lang/Throwable","<init>","()V"⟩ prog_13_method_1_code 1 (Option.none : Option FieldType) : Cond) ∈ lw_tbl := List.mem_of_getElem? (i := 114) rfl
theorem k_115 : (.methodLink "java/lang/Throwable" 1 ⟨"java/lang/Object","<init>","()V"⟩ : Cond) ∈ lw_tbl := List.mem_of_getElem? (i := 115) rfl
theorem k_116 : (.fieldLink "java/lang/Throwable" 13 "java/lang/Throwable" "UNASSIGNED_STACK" "[Ljava/lang/StackTraceElement;" : Cond) ∈ lw_tbl := List.mem_of_getElem? (i := 116) rfl
theorem k_117 : (.laysStatic "java/lang/Throwable" "UNASSIGNED_STACK" "[Ljava/lang/StackTraceElement;" : Cond) ∈ lw_tbl := List.mem_of_getElem? (i := 117) rfl
theorem k_118 : (.fieldLink "java/lang/Throwable" 20 "java/lang/Throwable" "SUPPRESSED_SENTINEL" "Ljava/util/List;" : Cond) ∈ lw_tbl := List.mem_of_getElem? (i := 118) rfl
theorem k_119 : (.laysStatic "java/lang/Throwable" "SUPPRESSED_SENTINEL" "Ljava/util/List;" : Cond) ∈ lw_tbl := List.mem_of_getElem? (i := 119) rfl
theorem k_120 : (.methodLink "java/lang/Throwable" 27 ⟨"java/lang/Throwable","fillInStackTrace","()Ljava/lang/Throwable;"⟩ : Cond) ∈ lw_tbl := List.mem_of_getElem? (i := 120) rfl
theorem k_121 : (.instanceMethod ⟨"java/lang/Throwable","fillInStackTrace","()Ljava/lang/Throwable;"⟩ : Cond) ∈ lw_tbl := List.mem_of_getElem? (i := 121) rfl
theorem k_122 : (.sameMethod "java/lang/Throwable" "java/lang/Throwable" "fillInStackTrace" "()Ljava/lang/Throwable;" : Cond) ∈ lw_tbl := List.mem_of_getElem? (i := 122) rfl
theorem k_123 : (.selects "java/lang/IllegalStateException" ⟨"java/lang/Throwable","fillInStackTrace","()Ljava/lang/Throwable;"⟩ ⟨"java/lang/Throwable","fillInStackTrace","()Ljava/lang/Throwable;"⟩ : Cond) ∈ lw_tbl := List.mem_of_getElem? (i := 123) rfl
theorem k_124 : (.selects "java/lang/UnsupportedOperationException" ⟨"java/lang/Throwable","fillInStackTrace","()Ljava/lang/Throwable;"⟩ ⟨"java/lang/Throwable","fillInStackTrace","()Ljava/lang/Throwable;"⟩ : Cond) ∈ lw_tbl := List.mem_of_getElem? (i := 124) rfl
theorem k_125 : (.selects "java/util/NoSuchElementException" ⟨"java/lang/Throwable","fillInStackTrace","()Ljava/lang/Throwable;"⟩ ⟨"java/lang/Throwable","fillInStackTrace","()Ljava/lang/Throwable;"⟩ : Cond) ∈ lw_tbl := List.mem_of_getElem? (i := 125) rfl
theorem k_126 : (.codeSync ⟨"java/lang/Throwable","fillInStackTrace","()Ljava/lang/Throwable;"⟩ prog_13_method_18_code 1 (Option.some (FieldType.object "java/lang/Throwable")) : Cond) ∈ lw_tbl := List.mem_of_getElem? (i := 126) rfl
theorem k_127 : (.methodLink "java/lang/Throwable" 202 ⟨"java/lang/Throwable","fillInStackTrace","(I)Ljava/lang/Throwable;"⟩ : Cond) ∈ lw_tbl := List.mem_of_getElem? (i := 127) rfl
theorem k_128 : (.privateMethod ⟨"java/lang/Throwable","fillInStackTrace","(I)Ljava/lang/Throwable;"⟩ : Cond) ∈ lw_tbl := List.mem_of_getElem? (i := 128) rfl
theorem k_129 : (.instanceMethod ⟨"java/lang/Throwable","fillInStackTrace","(I)Ljava/lang/Throwable;"⟩ : Cond) ∈ lw_tbl := List.mem_of_getElem? (i := 129) rfl
theorem k_130 : (.instantiable "java/lang/Throwable" 6 : Cond) ∈ lw_tbl := List.mem_of_getElem? (i := 130) rfl
theorem k_131 : (.native ⟨"java/lang/Throwable","fillInStackTrace","(I)Ljava/lang/Throwable;"⟩ : Cond) ∈ lw_tbl := List.mem_of_getElem? (i := 131) rfl
theorem k_132 : (.stringRef "ReturnRows" 199 "a number is outside its range" : Cond) ∈ lw_tbl := List.mem_of_getElem? (i := 132) rfl
theorem k_133 : (.methodLink "ReturnRows" 175 ⟨"java/lang/IllegalArgumentException","<init>","(Ljava/lang/String;)V"⟩ : Cond) ∈ lw_tbl := List.mem_of_getElem? (i := 133) rfl
theorem k_134 : (.instanceMethod ⟨"java/lang/IllegalArgumentException","<init>","(Ljava/lang/String;)V"⟩ : Cond) ∈ lw_tbl := List.mem_of_getElem? (i := 134) rfl
theorem k_135 : (.code ⟨"java/lang/IllegalArgumentException","<init>","(Ljava/lang/String;)V"⟩ prog_7_method_2_code 2 (Option.none : Option FieldType) : Cond) ∈ lw_tbl := List.mem_of_getElem? (i := 135) rfl
theorem k_136 : (.methodLink "java/lang/IllegalArgumentException" 7 ⟨"java/lang/RuntimeException","<init>","(Ljava/lang/String;)V"⟩ : Cond) ∈ lw_tbl := List.mem_of_getElem? (i := 136) rfl
theorem k_137 : (.instanceMethod ⟨"java/lang/RuntimeException","<init>","(Ljava/lang/String;)V"⟩ : Cond) ∈ lw_tbl := List.mem_of_getElem? (i := 137) rfl
theorem k_138 : (.code ⟨"java/lang/RuntimeException","<init>","(Ljava/lang/String;)V"⟩ prog_11_method_2_code 2 (Option.none : Option FieldType) : Cond) ∈ lw_tbl := List.mem_of_getElem? (i := 138) rfl
theorem k_139 : (.methodLink "java/lang/RuntimeException" 7 ⟨"java/lang/Exception","<init>","(Ljava/lang/String;)V"⟩ : Cond) ∈ lw_tbl := List.mem_of_getElem? (i := 139) rfl
theorem k_140 : (.instanceMethod ⟨"java/lang/Exception","<init>","(Ljava/lang/String;)V"⟩ : Cond) ∈ lw_tbl := List.mem_of_getElem? (i := 140) rfl
theorem k_141 : (.code ⟨"java/lang/Exception","<init>","(Ljava/lang/String;)V"⟩ prog_6_method_2_code 2 (Option.none : Option FieldType) : Cond) ∈ lw_tbl := List.mem_of_getElem? (i := 141) rfl
theorem k_142 : (.methodLink "java/lang/Exception" 7 ⟨"java/lang/Throwable","<init>","(Ljava/lang/String;)V"⟩ : Cond) ∈ lw_tbl := List.mem_of_getElem? (i := 142) rfl
theorem k_143 : (.instanceMethod ⟨"java/lang/Throwable","<init>","(Ljava/lang/String;)V"⟩ : Cond) ∈ lw_tbl := List.mem_of_getElem? (i := 143) rfl
theorem k_144 : (.code ⟨"java/lang/Throwable","<init>","(Ljava/lang/String;)V"⟩ prog_13_method_2_code 2 (Option.none : Option FieldType) : Cond) ∈ lw_tbl := List.mem_of_getElem? (i := 144) rfl
theorem k_146 : (.fieldLink "java/lang/Throwable" 31 "java/lang/Throwable" "detailMessage" "Ljava/lang/String;" : Cond) ∈ lw_tbl := List.mem_of_getElem? (i := 146) rfl
theorem k_147 : (.fieldLink "java/lang/Throwable" 7 "java/lang/Throwable" "cause" "Ljava/lang/Throwable;" : Cond) ∈ lw_tbl := List.mem_of_getElem? (i := 147) rfl
theorem k_148 : (.fieldLink "java/lang/Throwable" 17 "java/lang/Throwable" "stackTrace" "[Ljava/lang/StackTraceElement;" : Cond) ∈ lw_tbl := List.mem_of_getElem? (i := 148) rfl
theorem k_149 : (.fieldLink "java/lang/Throwable" 24 "java/lang/Throwable" "suppressedExceptions" "Ljava/util/List;" : Cond) ∈ lw_tbl := List.mem_of_getElem? (i := 149) rfl
theorem k_150 : (.soleField "java/lang/Throwable" "backtrace" : Cond) ∈ lw_tbl := List.mem_of_getElem? (i := 150) rfl
theorem k_151 : (.soleField "java/lang/Throwable" "detailMessage" : Cond) ∈ lw_tbl := List.mem_of_getElem? (i := 151) rfl
theorem k_152 : (.soleField "java/lang/Throwable" "cause" : Cond) ∈ lw_tbl := List.mem_of_getElem? (i := 152) rfl
theorem k_153 : (.soleField "java/lang/Throwable" "stackTrace" : Cond) ∈ lw_tbl := List.mem_of_getElem? (i := 153) rfl
theorem k_154 : (.lays "java/lang/IllegalArgumentException" "java/lang/Throwable" "depth" "I" : Cond) ∈ lw_tbl := List.mem_of_getElem? (i := 154) rfl
theorem k_155 : (.soleField "java/lang/Throwable" "depth" : Cond) ∈ lw_tbl := List.mem_of_getElem? (i := 155) rfl
theorem k_156 : (.soleField "java/lang/Throwable" "suppressedExceptions" : Cond) ∈ lw_tbl := List.mem_of_getElem? (i := 156) rfl
theorem k_157 : (.superclass "java/lang/IllegalArgumentException" "java/lang/RuntimeException" : Cond) ∈ lw_tbl := List.mem_of_getElem? (i := 157) rfl
theorem k_158 : (.arrayClass FieldType.byte : Cond) ∈ lw_tbl := List.mem_of_getElem? (i := 158) rfl
theorem k_159 : (.methodLink "ReturnRowsLaw" 94 ⟨"ReturnRowsLaw","sale","(LReturnRows;III[J)I"⟩ : Cond) ∈ lw_tbl := List.mem_of_getElem? (i := 159) rfl
theorem k_160 : (.static ⟨"ReturnRowsLaw","sale","(LReturnRows;III[J)I"⟩ : Cond) ∈ lw_tbl := List.mem_of_getElem? (i := 160) rfl
theorem k_161 : (.codeWith ⟨"ReturnRowsLaw","sale","(LReturnRows;III[J)I"⟩ method_4_code 6 (Option.some FieldType.int) [(0, 12, 15, 13), (0, 12, 19, 19)] : Cond) ∈ lw_tbl := List.mem_of_getElem? (i := 161) rfl
theorem k_162 : (.classLink "ReturnRowsLaw" 19 "java/lang/UnsupportedOperationException" : Cond) ∈ lw_tbl := List.mem_of_getElem? (i := 162) rfl
theorem k_163 : (.methodLink "ReturnRowsLaw" 15 ⟨"ReturnRows","sale","(III)I"⟩ : Cond) ∈ lw_tbl := List.mem_of_getElem? (i := 163) rfl
theorem k_164 : (.instanceMethod ⟨"ReturnRows","sale","(III)I"⟩ : Cond) ∈ lw_tbl := List.mem_of_getElem? (i := 164) rfl
theorem k_165 : (.selects "ReturnRows" ⟨"ReturnRows","sale","(III)I"⟩ ⟨"ReturnRows","sale","(III)I"⟩ : Cond) ∈ lw_tbl := List.mem_of_getElem? (i := 165) rfl
theorem k_166 : (.code ⟨"ReturnRows","sale","(III)I"⟩ prog_1_method_3_code 5 (Option.some FieldType.int) : Cond) ∈ lw_tbl := List.mem_of_getElem? (i := 166) rfl
theorem k_167 : (.constant "ReturnRows" 29 100000 : Cond) ∈ lw_tbl := List.mem_of_getElem? (i := 167) rfl
theorem k_168 : (.classLink "ReturnRows" 33 "java/lang/UnsupportedOperationException" : Cond) ∈ lw_tbl := List.mem_of_getElem? (i := 168) rfl
theorem k_169 : (.instantiable "java/lang/UnsupportedOperationException" 6 : Cond) ∈ lw_tbl := List.mem_of_getElem? (i := 169) rfl
theorem k_170 : (.castable "java/lang/UnsupportedOperationException" "java/lang/UnsupportedOperationException" : Cond) ∈ lw_tbl := List.mem_of_getElem? (i := 170) rfl
theorem k_171 : (.selects "java/lang/UnsupportedOperationException" ⟨"java/lang/Throwable","fillInStackTrace","(I)Ljava/lang/Throwable;"⟩ ⟨"java/lang/Throwable","fillInStackTrace","(I)Ljava/lang/Throwable;"⟩ : Cond) ∈ lw_tbl := List.mem_of_getElem? (i := 171) rfl
theorem k_172 : (.lays "java/lang/UnsupportedOperationException" "java/lang/Throwable" "cause" "Ljava/lang/Throwable;" : Cond) ∈ lw_tbl := List.mem_of_getElem? (i := 172) rfl
theorem k_173 : (.lays "java/lang/UnsupportedOperationException" "java/lang/Throwable" "stackTrace" "[Ljava/lang/StackTraceElement;" : Cond) ∈ lw_tbl := List.mem_of_getElem? (i := 173) rfl
theorem k_174 : (.lays "java/lang/UnsupportedOperationException" "java/lang/Throwable" "suppressedExceptions" "Ljava/util/List;" : Cond) ∈ lw_tbl := List.mem_of_getElem? (i := 174) rfl
theorem k_175 : (.lays "java/lang/UnsupportedOperationException" "java/lang/Throwable" "detailMessage" "Ljava/lang/String;" : Cond) ∈ lw_tbl := List.mem_of_getElem? (i := 175) rfl
theorem k_176 : (.lays "java/lang/UnsupportedOperationException" "java/lang/Throwable" "backtrace" "Ljava/lang/Object;" : Cond) ∈ lw_tbl := List.mem_of_getElem? (i := 176) rfl
theorem k_177 : (.stringRef "ReturnRows" 35 "no room for another sale" : Cond) ∈ lw_tbl := List.mem_of_getElem? (i := 177) rfl
theorem k_178 : (.methodLink "ReturnRows" 37 ⟨"java/lang/UnsupportedOperationException","<init>","(Ljava/lang/String;)V"⟩ : Cond) ∈ lw_tbl := List.mem_of_getElem? (i := 178) rfl
theorem k_179 : (.instanceMethod ⟨"java/lang/UnsupportedOperationException","<init>","(Ljava/lang/String;)V"⟩ : Cond) ∈ lw_tbl := List.mem_of_getElem? (i := 179) rfl
theorem k_180 : (.code ⟨"java/lang/UnsupportedOperationException","<init>","(Ljava/lang/String;)V"⟩ prog_14_method_2_code 2 (Option.none : Option FieldType) : Cond) ∈ lw_tbl := List.mem_of_getElem? (i := 180) rfl
theorem k_181 : (.methodLink "java/lang/UnsupportedOperationException" 7 ⟨"java/lang/RuntimeException","<init>","(Ljava/lang/String;)V"⟩ : Cond) ∈ lw_tbl := List.mem_of_getElem? (i := 181) rfl
theorem k_182 : (.lays "java/lang/UnsupportedOperationException" "java/lang/Throwable" "depth" "I" : Cond) ∈ lw_tbl := List.mem_of_getElem? (i := 182) rfl
theorem k_183 : (.superclass "java/lang/UnsupportedOperationException" "java/lang/RuntimeException" : Cond) ∈ lw_tbl := List.mem_of_getElem? (i := 183) rfl
theorem k_184 : (.instantiable "ReturnRows$Sale" 6 : Cond) ∈ lw_tbl := List.mem_of_getElem? (i := 184) rfl
theorem k_185 : (.methodLink "ReturnRows" 40 ⟨"ReturnRows$Sale","<init>","(IIIII)V"⟩ : Cond) ∈ lw_tbl := List.mem_of_getElem? (i := 185) rfl
theorem k_186 : (.instanceMethod ⟨"ReturnRows$Sale","<init>","(IIIII)V"⟩ : Cond) ∈ lw_tbl := List.mem_of_getElem? (i := 186) rfl
theorem k_187 : (.code ⟨"ReturnRows$Sale","<init>","(IIIII)V"⟩ prog_3_method_1_code 6 (Option.none : Option FieldType) : Cond) ∈ lw_tbl := List.mem_of_getElem? (i := 187) rfl
theorem k_188 : (.methodLink "ReturnRows$Sale" 1 ⟨"java/lang/Object","<init>","()V"⟩ : Cond) ∈ lw_tbl := List.mem_of_getElem? (i := 188) rfl
theorem k_189 : (.fieldLink "ReturnRows$Sale" 7 "ReturnRows$Sale" "number" "I" : Cond) ∈ lw_tbl := List.mem_of_getElem? (i := 189) rfl
theorem k_190 : (.fieldLink "ReturnRows" 82 "ReturnRows$Sale" "number" "I" : Cond) ∈ lw_tbl := List.mem_of_getElem? (i := 190) rfl
theorem k_191 : (.fieldLink "ReturnRows$Sale" 13 "ReturnRows$Sale" "buyer" "I" : Cond) ∈ lw_tbl := List.mem_of_getElem? (i := 191) rfl
theorem k_192 : (.fieldLink "ReturnRows$Return" 37 "ReturnRows$Sale" "buyer" "I" : Cond) ∈ lw_tbl := List.mem_of_getElem? (i := 192) rfl
theorem k_193 : (.fieldLink "ReturnRows" 209 "ReturnRows$Sale" "buyer" "I" : Cond) ∈ lw_tbl := List.mem_of_getElem? (i := 193) rfl
theorem k_194 : (.fieldLink "ReturnRows$Sale" 16 "ReturnRows$Sale" "price" "I" : Cond) ∈ lw_tbl := List.mem_of_getElem? (i := 194) rfl
theorem k_195 : (.fieldLink "ReturnRows$Return" 59 "ReturnRows$Sale" "price" "I" : Cond) ∈ lw_tbl := List.mem_of_getElem? (i := 195) rfl
theorem k_196 : (.fieldLink "ReturnRows$Sale" 19 "ReturnRows$Sale" "lastDay" "I" : Cond) ∈ lw_tbl := List.mem_of_getElem? (i := 196) rfl
theorem k_197 : (.fieldLink "ReturnRows" 147 "ReturnRows$Sale" "lastDay" "I" : Cond) ∈ lw_tbl := List.mem_of_getElem? (i := 197) rfl
theorem k_198 : (.fieldLink "ReturnRows$Sale" 22 "ReturnRows$Sale" "soldDay" "I" : Cond) ∈ lw_tbl := List.mem_of_getElem? (i := 198) rfl
theorem k_199 : (.fieldLink "ReturnRows$Return" 56 "ReturnRows$Sale" "soldDay" "I" : Cond) ∈ lw_tbl := List.mem_of_getElem? (i := 199) rfl
theorem k_200 : (.fieldLink "ReturnRows" 47 "ReturnRows$Sale" "hasReturn" "Z" : Cond) ∈ lw_tbl := List.mem_of_getElem? (i := 200) rfl
theorem k_201 : (.laysFinal "ReturnRows$Sale" "ReturnRows$Sale" "number" "I" : Cond) ∈ lw_tbl := List.mem_of_getElem? (i := 201) rfl
theorem k_202 : (.soleField "ReturnRows$Sale" "number" : Cond) ∈ lw_tbl := List.mem_of_getElem? (i := 202) rfl
theorem k_203 : (.laysFinal "ReturnRows$Sale" "ReturnRows$Sale" "buyer" "I" : Cond) ∈ lw_tbl := List.mem_of_getElem? (i := 203) rfl
theorem k_204 : (.soleField "ReturnRows$Sale" "buyer" : Cond) ∈ lw_tbl := List.mem_of_getElem? (i := 204) rfl
theorem k_205 : (.laysFinal "ReturnRows$Sale" "ReturnRows$Sale" "price" "I" : Cond) ∈ lw_tbl := List.mem_of_getElem? (i := 205) rfl
theorem k_206 : (.soleField "ReturnRows$Sale" "price" : Cond) ∈ lw_tbl := List.mem_of_getElem? (i := 206) rfl
theorem k_207 : (.laysFinal "ReturnRows$Sale" "ReturnRows$Sale" "lastDay" "I" : Cond) ∈ lw_tbl := List.mem_of_getElem? (i := 207) rfl
theorem k_208 : (.soleField "ReturnRows$Sale" "lastDay" : Cond) ∈ lw_tbl := List.mem_of_getElem? (i := 208) rfl
theorem k_209 : (.laysFinal "ReturnRows$Sale" "ReturnRows$Sale" "soldDay" "I" : Cond) ∈ lw_tbl := List.mem_of_getElem? (i := 209) rfl
theorem k_210 : (.soleField "ReturnRows$Sale" "soldDay" : Cond) ∈ lw_tbl := List.mem_of_getElem? (i := 210) rfl
theorem k_211 : (.lays "ReturnRows$Sale" "ReturnRows$Sale" "hasReturn" "Z" : Cond) ∈ lw_tbl := List.mem_of_getElem? (i := 211) rfl
theorem k_212 : (.soleField "ReturnRows$Sale" "hasReturn" : Cond) ∈ lw_tbl := List.mem_of_getElem? (i := 212) rfl
theorem k_213 : (.superclass "ReturnRows$Sale" "java/lang/Object" : Cond) ∈ lw_tbl := List.mem_of_getElem? (i := 213) rfl
theorem k_214 : (.methodLink "ReturnRowsLaw" 98 ⟨"ReturnRowsLaw","comes","(LReturnRows;IIZ[J)I"⟩ : Cond) ∈ lw_tbl := List.mem_of_getElem? (i := 214) rfl
theorem k_215 : (.static ⟨"ReturnRowsLaw","comes","(LReturnRows;IIZ[J)I"⟩ : Cond) ∈ lw_tbl := List.mem_of_getElem? (i := 215) rfl
theorem k_216 : (.codeWith ⟨"ReturnRowsLaw","comes","(LReturnRows;IIZ[J)I"⟩ method_5_code 6 (Option.some FieldType.int) [(0, 12, 15, 25), (0, 12, 19, 13), (0, 12, 23, 27), (0, 12, 27, 19)] : Cond) ∈ lw_tbl := List.mem_of_getElem? (i := 216) rfl
theorem k_217 : (.classLink "ReturnRowsLaw" 25 "java/util/NoSuchElementException" : Cond) ∈ lw_tbl := List.mem_of_getElem? (i := 217) rfl
theorem k_218 : (.classLink "ReturnRowsLaw" 27 "java/lang/IllegalStateException" : Cond) ∈ lw_tbl := List.mem_of_getElem? (i := 218) rfl
theorem k_219 : (.methodLink "ReturnRowsLaw" 21 ⟨"ReturnRows","comes","(IIZ)I"⟩ : Cond) ∈ lw_tbl := List.mem_of_getElem? (i := 219) rfl
theorem k_220 : (.instanceMethod ⟨"ReturnRows","comes","(IIZ)I"⟩ : Cond) ∈ lw_tbl := List.mem_of_getElem? (i := 220) rfl
theorem k_221 : (.selects "ReturnRows" ⟨"ReturnRows","comes","(IIZ)I"⟩ ⟨"ReturnRows","comes","(IIZ)I"⟩ : Cond) ∈ lw_tbl := List.mem_of_getElem? (i := 221) rfl
theorem k_222 : (.code ⟨"ReturnRows","comes","(IIZ)I"⟩ prog_1_method_4_code 5 (Option.some FieldType.int) : Cond) ∈ lw_tbl := List.mem_of_getElem? (i := 222) rfl
theorem k_223 : (.methodLink "ReturnRows" 43 ⟨"ReturnRows","saleAt","(I)LReturnRows$Sale;"⟩ : Cond) ∈ lw_tbl := List.mem_of_getElem? (i := 223) rfl
theorem k_224 : (.privateMethod ⟨"ReturnRows","saleAt","(I)LReturnRows$Sale;"⟩ : Cond) ∈ lw_tbl := List.mem_of_getElem? (i := 224) rfl
theorem k_225 : (.instanceMethod ⟨"ReturnRows","saleAt","(I)LReturnRows$Sale;"⟩ : Cond) ∈ lw_tbl := List.mem_of_getElem? (i := 225) rfl
theorem k_226 : (.code ⟨"ReturnRows","saleAt","(I)LReturnRows$Sale;"⟩ prog_1_method_21_code 3 (Option.some (FieldType.object "ReturnRows$Sale")) : Cond) ∈ lw_tbl := List.mem_of_getElem? (i := 226) rfl
theorem k_227 : (.classLink "ReturnRows" 192 "java/util/NoSuchElementException" : Cond) ∈ lw_tbl := List.mem_of_getElem? (i := 227) rfl
theorem k_228 : (.instantiable "java/util/NoSuchElementException" 6 : Cond) ∈ lw_tbl := List.mem_of_getElem? (i := 228) rfl
theorem k_229 : (.castable "java/util/NoSuchElementException" "java/util/NoSuchElementException" : Cond) ∈ lw_tbl := List.mem_of_getElem? (i := 229) rfl
theorem k_230 : (.selects "java/util/NoSuchElementException" ⟨"java/lang/Throwable","fillInStackTrace","(I)Ljava/lang/Throwable;"⟩ ⟨"java/lang/Throwable","fillInStackTrace","(I)Ljava/lang/Throwable;"⟩ : Cond) ∈ lw_tbl := List.mem_of_getElem? (i := 230) rfl
theorem k_231 : (.lays "java/util/NoSuchElementException" "java/lang/Throwable" "cause" "Ljava/lang/Throwable;" : Cond) ∈ lw_tbl := List.mem_of_getElem? (i := 231) rfl
theorem k_232 : (.lays "java/util/NoSuchElementException" "java/lang/Throwable" "stackTrace" "[Ljava/lang/StackTraceElement;" : Cond) ∈ lw_tbl := List.mem_of_getElem? (i := 232) rfl
theorem k_233 : (.lays "java/util/NoSuchElementException" "java/lang/Throwable" "suppressedExceptions" "Ljava/util/List;" : Cond) ∈ lw_tbl := List.mem_of_getElem? (i := 233) rfl
theorem k_234 : (.lays "java/util/NoSuchElementException" "java/lang/Throwable" "detailMessage" "Ljava/lang/String;" : Cond) ∈ lw_tbl := List.mem_of_getElem? (i := 234) rfl
theorem k_235 : (.lays "java/util/NoSuchElementException" "java/lang/Throwable" "backtrace" "Ljava/lang/Object;" : Cond) ∈ lw_tbl := List.mem_of_getElem? (i := 235) rfl
theorem k_236 : (.stringRef "ReturnRows" 194 "there is no such sale" : Cond) ∈ lw_tbl := List.mem_of_getElem? (i := 236) rfl
theorem k_237 : (.methodLink "ReturnRows" 196 ⟨"java/util/NoSuchElementException","<init>","(Ljava/lang/String;)V"⟩ : Cond) ∈ lw_tbl := List.mem_of_getElem? (i := 237) rfl
theorem k_238 : (.instanceMethod ⟨"java/util/NoSuchElementException","<init>","(Ljava/lang/String;)V"⟩ : Cond) ∈ lw_tbl := List.mem_of_getElem? (i := 238) rfl
theorem k_239 : (.code ⟨"java/util/NoSuchElementException","<init>","(Ljava/lang/String;)V"⟩ prog_15_method_4_code 2 (Option.none : Option FieldType) : Cond) ∈ lw_tbl := List.mem_of_getElem? (i := 239) rfl
theorem k_240 : (.methodLink "java/util/NoSuchElementException" 13 ⟨"java/lang/RuntimeException","<init>","(Ljava/lang/String;)V"⟩ : Cond) ∈ lw_tbl := List.mem_of_getElem? (i := 240) rfl
theorem k_241 : (.lays "java/util/NoSuchElementException" "java/lang/Throwable" "depth" "I" : Cond) ∈ lw_tbl := List.mem_of_getElem? (i := 241) rfl
theorem k_242 : (.superclass "java/util/NoSuchElementException" "java/lang/RuntimeException" : Cond) ∈ lw_tbl := List.mem_of_getElem? (i := 242) rfl
theorem k_243 : (.classLink "ReturnRows" 51 "java/lang/IllegalStateException" : Cond) ∈ lw_tbl := List.mem_of_getElem? (i := 243) rfl
theorem k_244 : (.instantiable "java/lang/IllegalStateException" 6 : Cond) ∈ lw_tbl := List.mem_of_getElem? (i := 244) rfl
theorem k_245 : (.castable "java/lang/IllegalStateException" "java/lang/IllegalStateException" : Cond) ∈ lw_tbl := List.mem_of_getElem? (i := 245) rfl
theorem k_246 : (.selects "java/lang/IllegalStateException" ⟨"java/lang/Throwable","fillInStackTrace","(I)Ljava/lang/Throwable;"⟩ ⟨"java/lang/Throwable","fillInStackTrace","(I)Ljava/lang/Throwable;"⟩ : Cond) ∈ lw_tbl := List.mem_of_getElem? (i := 246) rfl
theorem k_247 : (.lays "java/lang/IllegalStateException" "java/lang/Throwable" "cause" "Ljava/lang/Throwable;" : Cond) ∈ lw_tbl := List.mem_of_getElem? (i := 247) rfl
theorem k_248 : (.lays "java/lang/IllegalStateException" "java/lang/Throwable" "stackTrace" "[Ljava/lang/StackTraceElement;" : Cond) ∈ lw_tbl := List.mem_of_getElem? (i := 248) rfl
theorem k_249 : (.lays "java/lang/IllegalStateException" "java/lang/Throwable" "suppressedExceptions" "Ljava/util/List;" : Cond) ∈ lw_tbl := List.mem_of_getElem? (i := 249) rfl
theorem k_250 : (.lays "java/lang/IllegalStateException" "java/lang/Throwable" "detailMessage" "Ljava/lang/String;" : Cond) ∈ lw_tbl := List.mem_of_getElem? (i := 250) rfl
theorem k_251 : (.lays "java/lang/IllegalStateException" "java/lang/Throwable" "backtrace" "Ljava/lang/Object;" : Cond) ∈ lw_tbl := List.mem_of_getElem? (i := 251) rfl
theorem k_252 : (.stringRef "ReturnRows" 53 "there is a return of this sale" : Cond) ∈ lw_tbl := List.mem_of_getElem? (i := 252) rfl
theorem k_253 : (.methodLink "ReturnRows" 55 ⟨"java/lang/IllegalStateException","<init>","(Ljava/lang/String;)V"⟩ : Cond) ∈ lw_tbl := List.mem_of_getElem? (i := 253) rfl
theorem k_254 : (.instanceMethod ⟨"java/lang/IllegalStateException","<init>","(Ljava/lang/String;)V"⟩ : Cond) ∈ lw_tbl := List.mem_of_getElem? (i := 254) rfl
theorem k_255 : (.code ⟨"java/lang/IllegalStateException","<init>","(Ljava/lang/String;)V"⟩ prog_8_method_2_code 2 (Option.none : Option FieldType) : Cond) ∈ lw_tbl := List.mem_of_getElem? (i := 255) rfl
theorem k_256 : (.methodLink "java/lang/IllegalStateException" 7 ⟨"java/lang/RuntimeException","<init>","(Ljava/lang/String;)V"⟩ : Cond) ∈ lw_tbl := List.mem_of_getElem? (i := 256) rfl
theorem k_257 : (.lays "java/lang/IllegalStateException" "java/lang/Throwable" "depth" "I" : Cond) ∈ lw_tbl := List.mem_of_getElem? (i := 257) rfl
theorem k_258 : (.superclass "java/lang/IllegalStateException" "java/lang/RuntimeException" : Cond) ∈ lw_tbl := List.mem_of_getElem? (i := 258) rfl
theorem k_259 : (.stringRef "ReturnRows" 59 "no room for another return" : Cond) ∈ lw_tbl := List.mem_of_getElem? (i := 259) rfl
theorem k_260 : (.instantiable "ReturnRows$Return" 15 : Cond) ∈ lw_tbl := List.mem_of_getElem? (i := 260) rfl
theorem k_261 : (.methodLink "ReturnRows" 61 ⟨"ReturnRows$Return","<init>","(LReturnRows$Sale;III)V"⟩ : Cond) ∈ lw_tbl := List.mem_of_getElem? (i := 261) rfl
theorem k_262 : (.instanceMethod ⟨"ReturnRows$Return","<init>","(LReturnRows$Sale;III)V"⟩ : Cond) ∈ lw_tbl := List.mem_of_getElem? (i := 262) rfl
theorem k_263 : (.code ⟨"ReturnRows$Return","<init>","(LReturnRows$Sale;III)V"⟩ prog_2_method_1_code 5 (Option.none : Option FieldType) : Cond) ∈ lw_tbl := List.mem_of_getElem? (i := 263) rfl
theorem k_264 : (.methodLink "ReturnRows$Return" 3 ⟨"java/lang/Object","<init>","()V"⟩ : Cond) ∈ lw_tbl := List.mem_of_getElem? (i := 264) rfl
theorem k_265 : (.fieldLink "ReturnRows$Return" 9 "ReturnRows$Return" "sold" "LReturnRows$Sale;" : Cond) ∈ lw_tbl := List.mem_of_getElem? (i := 265) rfl
theorem k_266 : (.fieldLink "ReturnRows" 85 "ReturnRows$Return" "sold" "LReturnRows$Sale;" : Cond) ∈ lw_tbl := List.mem_of_getElem? (i := 266) rfl
theorem k_267 : (.fieldLink "ReturnRows$Return" 15 "ReturnRows$Return" "cause" "I" : Cond) ∈ lw_tbl := List.mem_of_getElem? (i := 267) rfl
theorem k_268 : (.fieldLink "ReturnRows" 184 "ReturnRows$Return" "cause" "I" : Cond) ∈ lw_tbl := List.mem_of_getElem? (i := 268) rfl
theorem k_269 : (.fieldLink "ReturnRows$Return" 22 "ReturnRows$Return" "cameDay" "I" : Cond) ∈ lw_tbl := List.mem_of_getElem? (i := 269) rfl
theorem k_270 : (.fieldLink "ReturnRows" 212 "ReturnRows$Return" "cameDay" "I" : Cond) ∈ lw_tbl := List.mem_of_getElem? (i := 270) rfl
theorem k_271 : (.fieldLink "ReturnRows$Return" 19 "ReturnRows$Return" "state" "I" : Cond) ∈ lw_tbl := List.mem_of_getElem? (i := 271) rfl
theorem k_272 : (.fieldLink "ReturnRows" 68 "ReturnRows$Return" "state" "I" : Cond) ∈ lw_tbl := List.mem_of_getElem? (i := 272) rfl
theorem k_273 : (.fieldLink "ReturnRows$Return" 25 "ReturnRows$Return" "person" "I" : Cond) ∈ lw_tbl := List.mem_of_getElem? (i := 273) rfl
theorem k_274 : (.fieldLink "ReturnRows" 75 "ReturnRows$Return" "person" "I" : Cond) ∈ lw_tbl := List.mem_of_getElem? (i := 274) rfl
theorem k_275 : (.fieldLink "ReturnRows$Return" 49 "ReturnRows$Return" "quarantined" "Z" : Cond) ∈ lw_tbl := List.mem_of_getElem? (i := 275) rfl
theorem k_276 : (.fieldLink "ReturnRows" 92 "ReturnRows$Return" "quarantined" "Z" : Cond) ∈ lw_tbl := List.mem_of_getElem? (i := 276) rfl
theorem k_277 : (.fieldLink "ReturnRows$Return" 45 "ReturnRows$Return" "wrong" "Z" : Cond) ∈ lw_tbl := List.mem_of_getElem? (i := 277) rfl
theorem k_278 : (.fieldLink "ReturnRows" 89 "ReturnRows$Return" "wrong" "Z" : Cond) ∈ lw_tbl := List.mem_of_getElem? (i := 278) rfl
theorem k_279 : (.fieldLink "ReturnRows" 100 "ReturnRows$Return" "badChecks" "I" : Cond) ∈ lw_tbl := List.mem_of_getElem? (i := 279) rfl
theorem k_280 : (.fieldLink "ReturnRows$Return" 28 "ReturnRows$Return" "grade" "I" : Cond) ∈ lw_tbl := List.mem_of_getElem? (i := 280) rfl
theorem k_281 : (.fieldLink "ReturnRows" 124 "ReturnRows$Return" "grade" "I" : Cond) ∈ lw_tbl := List.mem_of_getElem? (i := 281) rfl
theorem k_282 : (.fieldLink "ReturnRows$Return" 31 "ReturnRows$Return" "gradeBefore" "I" : Cond) ∈ lw_tbl := List.mem_of_getElem? (i := 282) rfl
theorem k_283 : (.fieldLink "ReturnRows" 118 "ReturnRows$Return" "gradeBefore" "I" : Cond) ∈ lw_tbl := List.mem_of_getElem? (i := 283) rfl
theorem k_284 : (.fieldLink "ReturnRows$Return" 34 "ReturnRows$Return" "bestGrade" "I" : Cond) ∈ lw_tbl := List.mem_of_getElem? (i := 284) rfl
theorem k_285 : (.fieldLink "ReturnRows" 187 "ReturnRows$Return" "bestGrade" "I" : Cond) ∈ lw_tbl := List.mem_of_getElem? (i := 285) rfl
theorem k_286 : (.fieldLink "ReturnRows" 129 "ReturnRows$Return" "stepsLeft" "I" : Cond) ∈ lw_tbl := List.mem_of_getElem? (i := 286) rfl
theorem k_287 : (.fieldLink "ReturnRows$Return" 62 "ReturnRows$Return" "missingPieces" "I" : Cond) ∈ lw_tbl := List.mem_of_getElem? (i := 287) rfl
theorem k_288 : (.fieldLink "ReturnRows" 155 "ReturnRows$Return" "missingPieces" "I" : Cond) ∈ lw_tbl := List.mem_of_getElem? (i := 288) rfl
theorem k_289 : (.fieldLink "ReturnRows$Return" 42 "ReturnRows$Return" "paid" "I" : Cond) ∈ lw_tbl := List.mem_of_getElem? (i := 289) rfl
theorem k_290 : (.fieldLink "ReturnRows" 162 "ReturnRows$Return" "paid" "I" : Cond) ∈ lw_tbl := List.mem_of_getElem? (i := 290) rfl
theorem k_291 : (.fieldLink "ReturnRows" 140 "ReturnRows$Return" "certificate" "I" : Cond) ∈ lw_tbl := List.mem_of_getElem? (i := 291) rfl
theorem k_292 : (.laysFinal "ReturnRows$Return" "ReturnRows$Return" "sold" "LReturnRows$Sale;" : Cond) ∈ lw_tbl := List.mem_of_getElem? (i := 292) rfl
theorem k_293 : (.soleField "ReturnRows$Return" "sold" : Cond) ∈ lw_tbl := List.mem_of_getElem? (i := 293) rfl
theorem k_294 : (.laysFinal "ReturnRows$Return" "ReturnRows$Return" "cause" "I" : Cond) ∈ lw_tbl := List.mem_of_getElem? (i := 294) rfl
theorem k_295 : (.soleField "ReturnRows$Return" "cause" : Cond) ∈ lw_tbl := List.mem_of_getElem? (i := 295) rfl
theorem k_296 : (.laysFinal "ReturnRows$Return" "ReturnRows$Return" "cameDay" "I" : Cond) ∈ lw_tbl := List.mem_of_getElem? (i := 296) rfl
theorem k_297 : (.soleField "ReturnRows$Return" "cameDay" : Cond) ∈ lw_tbl := List.mem_of_getElem? (i := 297) rfl
theorem k_298 : (.lays "ReturnRows$Return" "ReturnRows$Return" "state" "I" : Cond) ∈ lw_tbl := List.mem_of_getElem? (i := 298) rfl
theorem k_299 : (.soleField "ReturnRows$Return" "state" : Cond) ∈ lw_tbl := List.mem_of_getElem? (i := 299) rfl
theorem k_300 : (.lays "ReturnRows$Return" "ReturnRows$Return" "person" "I" : Cond) ∈ lw_tbl := List.mem_of_getElem? (i := 300) rfl
theorem k_301 : (.soleField "ReturnRows$Return" "person" : Cond) ∈ lw_tbl := List.mem_of_getElem? (i := 301) rfl
theorem k_302 : (.lays "ReturnRows$Return" "ReturnRows$Return" "quarantined" "Z" : Cond) ∈ lw_tbl := List.mem_of_getElem? (i := 302) rfl
theorem k_303 : (.soleField "ReturnRows$Return" "quarantined" : Cond) ∈ lw_tbl := List.mem_of_getElem? (i := 303) rfl
theorem k_304 : (.lays "ReturnRows$Return" "ReturnRows$Return" "wrong" "Z" : Cond) ∈ lw_tbl := List.mem_of_getElem? (i := 304) rfl
theorem k_305 : (.soleField "ReturnRows$Return" "wrong" : Cond) ∈ lw_tbl := List.mem_of_getElem? (i := 305) rfl
theorem k_306 : (.lays "ReturnRows$Return" "ReturnRows$Return" "badChecks" "I" : Cond) ∈ lw_tbl := List.mem_of_getElem? (i := 306) rfl
theorem k_307 : (.soleField "ReturnRows$Return" "badChecks" : Cond) ∈ lw_tbl := List.mem_of_getElem? (i := 307) rfl
theorem k_308 : (.lays "ReturnRows$Return" "ReturnRows$Return" "grade" "I" : Cond) ∈ lw_tbl := List.mem_of_getElem? (i := 308) rfl
theorem k_309 : (.soleField "ReturnRows$Return" "grade" : Cond) ∈ lw_tbl := List.mem_of_getElem? (i := 309) rfl
theorem k_310 : (.lays "ReturnRows$Return" "ReturnRows$Return" "gradeBefore" "I" : Cond) ∈ lw_tbl := List.mem_of_getElem? (i := 310) rfl
theorem k_311 : (.soleField "ReturnRows$Return" "gradeBefore" : Cond) ∈ lw_tbl := List.mem_of_getElem? (i := 311) rfl
theorem k_312 : (.lays "ReturnRows$Return" "ReturnRows$Return" "bestGrade" "I" : Cond) ∈ lw_tbl := List.mem_of_getElem? (i := 312) rfl
theorem k_313 : (.soleField "ReturnRows$Return" "bestGrade" : Cond) ∈ lw_tbl := List.mem_of_getElem? (i := 313) rfl
theorem k_314 : (.lays "ReturnRows$Return" "ReturnRows$Return" "stepsLeft" "I" : Cond) ∈ lw_tbl := List.mem_of_getElem? (i := 314) rfl
theorem k_315 : (.soleField "ReturnRows$Return" "stepsLeft" : Cond) ∈ lw_tbl := List.mem_of_getElem? (i := 315) rfl
theorem k_316 : (.lays "ReturnRows$Return" "ReturnRows$Return" "missingPieces" "I" : Cond) ∈ lw_tbl := List.mem_of_getElem? (i := 316) rfl
theorem k_317 : (.soleField "ReturnRows$Return" "missingPieces" : Cond) ∈ lw_tbl := List.mem_of_getElem? (i := 317) rfl
theorem k_318 : (.lays "ReturnRows$Return" "ReturnRows$Return" "paid" "I" : Cond) ∈ lw_tbl := List.mem_of_getElem? (i := 318) rfl
theorem k_319 : (.soleField "ReturnRows$Return" "paid" : Cond) ∈ lw_tbl := List.mem_of_getElem? (i := 319) rfl
theorem k_320 : (.lays "ReturnRows$Return" "ReturnRows$Return" "certificate" "I" : Cond) ∈ lw_tbl := List.mem_of_getElem? (i := 320) rfl
theorem k_321 : (.soleField "ReturnRows$Return" "certificate" : Cond) ∈ lw_tbl := List.mem_of_getElem? (i := 321) rfl
theorem k_322 : (.superclass "ReturnRows$Return" "java/lang/Object" : Cond) ∈ lw_tbl := List.mem_of_getElem? (i := 322) rfl
theorem k_323 : (.methodLink "ReturnRowsLaw" 102 ⟨"ReturnRowsLaw","arrive","(LReturnRows;II)I"⟩ : Cond) ∈ lw_tbl := List.mem_of_getElem? (i := 323) rfl
theorem k_324 : (.static ⟨"ReturnRowsLaw","arrive","(LReturnRows;II)I"⟩ : Cond) ∈ lw_tbl := List.mem_of_getElem? (i := 324) rfl
theorem k_325 : (.codeWith ⟨"ReturnRowsLaw","arrive","(LReturnRows;II)I"⟩ method_6_code 4 (Option.some FieldType.int) [(0, 6, 9, 25), (0, 6, 12, 13), (0, 6, 15, 27)] : Cond) ∈ lw_tbl := List.mem_of_getElem? (i := 325) rfl
theorem k_326 : (.methodLink "ReturnRowsLaw" 29 ⟨"ReturnRows","arrive","(II)V"⟩ : Cond) ∈ lw_tbl := List.mem_of_getElem? (i := 326) rfl
theorem k_327 : (.instanceMethod ⟨"ReturnRows","arrive","(II)V"⟩ : Cond) ∈ lw_tbl := List.mem_of_getElem? (i := 327) rfl
theorem k_328 : (.selects "ReturnRows" ⟨"ReturnRows","arrive","(II)V"⟩ ⟨"ReturnRows","arrive","(II)V"⟩ : Cond) ∈ lw_tbl := List.mem_of_getElem? (i := 328) rfl
theorem k_329 : (.code ⟨"ReturnRows","arrive","(II)V"⟩ prog_1_method_5_code 5 (Option.none : Option FieldType) : Cond) ∈ lw_tbl := List.mem_of_getElem? (i := 329) rfl
theorem k_330 : (.methodLink "ReturnRows" 64 ⟨"ReturnRows","returnAt","(I)LReturnRows$Return;"⟩ : Cond) ∈ lw_tbl := List.mem_of_getElem? (i := 330) rfl
theorem k_331 : (.privateMethod ⟨"ReturnRows","returnAt","(I)LReturnRows$Return;"⟩ : Cond) ∈ lw_tbl := List.mem_of_getElem? (i := 331) rfl
theorem k_332 : (.instanceMethod ⟨"ReturnRows","returnAt","(I)LReturnRows$Return;"⟩ : Cond) ∈ lw_tbl := List.mem_of_getElem? (i := 332) rfl
theorem k_333 : (.code ⟨"ReturnRows","returnAt","(I)LReturnRows$Return;"⟩ prog_1_method_22_code 3 (Option.some (FieldType.object "ReturnRows$Return")) : Cond) ∈ lw_tbl := List.mem_of_getElem? (i := 333) rfl
theorem k_334 : (.stringRef "ReturnRows" 197 "there is no such return" : Cond) ∈ lw_tbl := List.mem_of_getElem? (i := 334) rfl
theorem k_335 : (.stringRef "ReturnRows" 71 "the return is neither announced nor waiting" : Cond) ∈ lw_tbl := List.mem_of_getElem? (i := 335) rfl
theorem k_336 : (.stringRef "ReturnRows" 73 "a person lets in a waiting return, none an announced one" : Cond) ∈ lw_tbl := List.mem_of_getElem? (i := 336) rfl
theorem k_337 : (.methodLink "ReturnRowsLaw" 106 ⟨"ReturnRowsLaw","serial","(LReturnRows;II[J)I"⟩ : Cond) ∈ lw_tbl := List.mem_of_getElem? (i := 337) rfl
theorem k_338 : (.static ⟨"ReturnRowsLaw","serial","(LReturnRows;II[J)I"⟩ : Cond) ∈ lw_tbl := List.mem_of_getElem? (i := 338) rfl
theorem k_339 : (.codeWith ⟨"ReturnRowsLaw","serial","(LReturnRows;II[J)I"⟩ method_7_code 5 (Option.some FieldType.int) [(0, 10, 13, 25), (0, 10, 17, 27)] : Cond) ∈ lw_tbl := List.mem_of_getElem? (i := 339) rfl
theorem k_340 : (.methodLink "ReturnRowsLaw" 33 ⟨"ReturnRows","serial","(II)I"⟩ : Cond) ∈ lw_tbl := List.mem_of_getElem? (i := 340) rfl
theorem k_341 : (.instanceMethod ⟨"ReturnRows","serial","(II)I"⟩ : Cond) ∈ lw_tbl := List.mem_of_getElem? (i := 341) rfl
theorem k_342 : (.selects "ReturnRows" ⟨"ReturnRows","serial","(II)I"⟩ ⟨"ReturnRows","serial","(II)I"⟩ : Cond) ∈ lw_tbl := List.mem_of_getElem? (i := 342) rfl
theorem k_343 : (.code ⟨"ReturnRows","serial","(II)I"⟩ prog_1_method_6_code 5 (Option.some FieldType.int) : Cond) ∈ lw_tbl := List.mem_of_getElem? (i := 343) rfl
theorem k_344 : (.methodLink "ReturnRows" 78 ⟨"ReturnRows","requireHere","(LReturnRows$Return;)V"⟩ : Cond) ∈ lw_tbl := List.mem_of_getElem? (i := 344) rfl
theorem k_345 : (.static ⟨"ReturnRows","requireHere","(LReturnRows$Return;)V"⟩ : Cond) ∈ lw_tbl := List.mem_of_getElem? (i := 345) rfl
theorem k_346 : (.code ⟨"ReturnRows","requireHere","(LReturnRows$Return;)V"⟩ prog_1_method_24_code 1 (Option.none : Option FieldType) : Cond) ∈ lw_tbl := List.mem_of_getElem? (i := 346) rfl
theorem k_347 : (.stringRef "ReturnRows" 201 "the return is not here" : Cond) ∈ lw_tbl := List.mem_of_getElem? (i := 347) rfl
theorem k_348 : (.methodLink "ReturnRowsLaw" 110 ⟨"ReturnRowsLaw","quarantine","(LReturnRows;IZ)I"⟩ : Cond) ∈ lw_tbl := List.mem_of_getElem? (i := 348) rfl
theorem k_349 : (.static ⟨"ReturnRowsLaw","quarantine","(LReturnRows;IZ)I"⟩ : Cond) ∈ lw_tbl := List.mem_of_getElem? (i := 349) rfl
theorem k_350 : (.codeWith ⟨"ReturnRowsLaw","quarantine","(LReturnRows;IZ)I"⟩ method_8_code 4 (Option.some FieldType.int) [(0, 6, 9, 25), (0, 6, 12, 27)] : Cond) ∈ lw_tbl := List.mem_of_getElem? (i := 350) rfl
theorem k_351 : (.methodLink "ReturnRowsLaw" 37 ⟨"ReturnRows","quarantine","(IZ)V"⟩ : Cond) ∈ lw_tbl := List.mem_of_getElem? (i := 351) rfl
theorem k_352 : (.instanceMethod ⟨"ReturnRows","quarantine","(IZ)V"⟩ : Cond) ∈ lw_tbl := List.mem_of_getElem? (i := 352) rfl
theorem k_353 : (.selects "ReturnRows" ⟨"ReturnRows","quarantine","(IZ)V"⟩ ⟨"ReturnRows","quarantine","(IZ)V"⟩ : Cond) ∈ lw_tbl := List.mem_of_getElem? (i := 353) rfl
theorem k_354 : (.code ⟨"ReturnRows","quarantine","(IZ)V"⟩ prog_1_method_7_code 4 (Option.none : Option FieldType) : Cond) ∈ lw_tbl := List.mem_of_getElem? (i := 354) rfl
theorem k_355 : (.stringRef "ReturnRows" 95 "the quarantine is so already" : Cond) ∈ lw_tbl := List.mem_of_getElem? (i := 355) rfl
theorem k_356 : (.methodLink "ReturnRows" 97 ⟨"ReturnRows","requireHereOrGraded","(LReturnRows$Return;)V"⟩ : Cond) ∈ lw_tbl := List.mem_of_getElem? (i := 356) rfl
theorem k_357 : (.static ⟨"ReturnRows","requireHereOrGraded","(LReturnRows$Return;)V"⟩ : Cond) ∈ lw_tbl := List.mem_of_getElem? (i := 357) rfl
theorem k_358 : (.code ⟨"ReturnRows","requireHereOrGraded","(LReturnRows$Return;)V"⟩ prog_1_method_26_code 1 (Option.none : Option FieldType) : Cond) ∈ lw_tbl := List.mem_of_getElem? (i := 358) rfl
theorem k_359 : (.stringRef "ReturnRows" 205 "the return is neither here nor graded" : Cond) ∈ lw_tbl := List.mem_of_getElem? (i := 359) rfl
theorem k_360 : (.methodLink "ReturnRowsLaw" 114 ⟨"ReturnRowsLaw","check","(LReturnRows;IIZ[J)I"⟩ : Cond) ∈ lw_tbl := List.mem_of_getElem? (i := 360) rfl
theorem k_361 : (.static ⟨"ReturnRowsLaw","check","(LReturnRows;IIZ[J)I"⟩ : Cond) ∈ lw_tbl := List.mem_of_getElem? (i := 361) rfl
theorem k_362 : (.codeWith ⟨"ReturnRowsLaw","check","(LReturnRows;IIZ[J)I"⟩ method_9_code 6 (Option.some FieldType.int) [(0, 12, 15, 25), (0, 12, 19, 13), (0, 12, 23, 27)] : Cond) ∈ lw_tbl := List.mem_of_getElem? (i := 362) rfl
theorem k_363 : (.methodLink "ReturnRowsLaw" 41 ⟨"ReturnRows","check","(IIZ)I"⟩ : Cond) ∈ lw_tbl := List.mem_of_getElem? (i := 363) rfl
theorem k_364 : (.instanceMethod ⟨"ReturnRows","check","(IIZ)I"⟩ : Cond) ∈ lw_tbl := List.mem_of_getElem? (i := 364) rfl
theorem k_365 : (.selects "ReturnRows" ⟨"ReturnRows","check","(IIZ)I"⟩ ⟨"ReturnRows","check","(IIZ)I"⟩ : Cond) ∈ lw_tbl := List.mem_of_getElem? (i := 365) rfl
theorem k_366 : (.code ⟨"ReturnRows","check","(IIZ)I"⟩ prog_1_method_8_code 6 (Option.some FieldType.int) : Cond) ∈ lw_tbl := List.mem_of_getElem? (i := 366) rfl
theorem k_367 : (.methodLink "ReturnRows" 103 ⟨"java/lang/Integer","bitCount","(I)I"⟩ : Cond) ∈ lw_tbl := List.mem_of_getElem? (i := 367) rfl
theorem k_368 : (.static ⟨"java/lang/Integer","bitCount","(I)I"⟩ : Cond) ∈ lw_tbl := List.mem_of_getElem? (i := 368) rfl
theorem k_369 : (.code ⟨"java/lang/Integer","bitCount","(I)I"⟩ prog_9_method_49_code 1 (Option.some FieldType.int) : Cond) ∈ lw_tbl := List.mem_of_getElem? (i := 369) rfl
theorem k_370 : (.constant "java/lang/Integer" 265 1431655765 : Cond) ∈ lw_tbl := List.mem_of_getElem? (i := 370) rfl
theorem k_371 : (.constant "java/lang/Integer" 266 858993459 : Cond) ∈ lw_tbl := List.mem_of_getElem? (i := 371) rfl
theorem k_372 : (.constant "java/lang/Integer" 267 252645135 : Cond) ∈ lw_tbl := List.mem_of_getElem? (i := 372) rfl
theorem k_373 : (.methodLink "ReturnRowsLaw" 117 ⟨"ReturnRowsLaw","grade","(LReturnRows;II[J)I"⟩ : Cond) ∈ lw_tbl := List.mem_of_getElem? (i := 373) rfl
theorem k_374 : (.static ⟨"ReturnRowsLaw","grade","(LReturnRows;II[J)I"⟩ : Cond) ∈ lw_tbl := List.mem_of_getElem? (i := 374) rfl
theorem k_375 : (.codeWith ⟨"ReturnRowsLaw","grade","(LReturnRows;II[J)I"⟩ method_10_code 5 (Option.some FieldType.int) [(0, 10, 13, 25), (0, 10, 17, 13), (0, 10, 21, 27)] : Cond) ∈ lw_tbl := List.mem_of_getElem? (i := 375) rfl
theorem k_376 : (.methodLink "ReturnRowsLaw" 44 ⟨"ReturnRows","grade","(II)I"⟩ : Cond) ∈ lw_tbl := List.mem_of_getElem? (i := 376) rfl
theorem k_377 : (.instanceMethod ⟨"ReturnRows","grade","(II)I"⟩ : Cond) ∈ lw_tbl := List.mem_of_getElem? (i := 377) rfl
theorem k_378 : (.selects "ReturnRows" ⟨"ReturnRows","grade","(II)I"⟩ ⟨"ReturnRows","grade","(II)I"⟩ : Cond) ∈ lw_tbl := List.mem_of_getElem? (i := 378) rfl
theorem k_379 : (.code ⟨"ReturnRows","grade","(II)I"⟩ prog_1_method_9_code 4 (Option.some FieldType.int) : Cond) ∈ lw_tbl := List.mem_of_getElem? (i := 379) rfl
theorem k_380 : (.methodLink "ReturnRows" 109 ⟨"ReturnRows","requireNoQuarantine","(LReturnRows$Return;)V"⟩ : Cond) ∈ lw_tbl := List.mem_of_getElem? (i := 380) rfl
set_option maxRecDepth 8000 in
theorem k_381 : (.static ⟨"ReturnRows","requireNoQuarantine","(LReturnRows$Return;)V"⟩ : Cond) ∈ lw_tbl := List.mem_of_getElem? (i := 381) rfl
set_option maxRecDepth 8000 in
theorem k_382 : (.code ⟨"ReturnRows","requireNoQuarantine","(LReturnRows$Return;)V"⟩ prog_1_method_27_code 1 (Option.none : Option FieldType) : Cond) ∈ lw_tbl := List.mem_of_getElem? (i := 382) rfl
set_option maxRecDepth 8000 in
theorem k_383 : (.stringRef "ReturnRows" 207 "the return is quarantined" : Cond) ∈ lw_tbl := List.mem_of_getElem? (i := 383) rfl
set_option maxRecDepth 8000 in
theorem k_384 : (.stringRef "ReturnRows" 112 "a bad check forbids so good a grade" : Cond) ∈ lw_tbl := List.mem_of_getElem? (i := 384) rfl
set_option maxRecDepth 8000 in
theorem k_385 : (.methodLink "ReturnRows" 114 ⟨"ReturnRows$Return","takeGrade","(I)V"⟩ : Cond) ∈ lw_tbl := List.mem_of_getElem? (i := 385) rfl
set_option maxRecDepth 8000 in
theorem k_386 : (.instanceMethod ⟨"ReturnRows$Return","takeGrade","(I)V"⟩ : Cond) ∈ lw_tbl := List.mem_of_getElem? (i := 386) rfl
set_option maxRecDepth 8000 in
theorem k_387 : (.selects "ReturnRows$Return" ⟨"ReturnRows$Return","takeGrade","(I)V"⟩ ⟨"ReturnRows$Return","takeGrade","(I)V"⟩ : Cond) ∈ lw_tbl := List.mem_of_getElem? (i := 387) rfl
set_option maxRecDepth 8000 in
theorem k_388 : (.code ⟨"ReturnRows$Return","takeGrade","(I)V"⟩ prog_2_method_2_code 2 (Option.none : Option FieldType) : Cond) ∈ lw_tbl := List.mem_of_getElem? (i := 388) rfl
set_option maxRecDepth 8000 in
theorem k_389 : (.methodLink "ReturnRowsLaw" 120 ⟨"ReturnRowsLaw","repair","(LReturnRows;II)I"⟩ : Cond) ∈ lw_tbl := List.mem_of_getElem? (i := 389) rfl
set_option maxRecDepth 8000 in
theorem k_390 : (.static ⟨"ReturnRowsLaw","repair","(LReturnRows;II)I"⟩ : Cond) ∈ lw_tbl := List.mem_of_getElem? (i := 390) rfl
set_option maxRecDepth 8000 in
theorem k_391 : (.codeWith ⟨"ReturnRowsLaw","repair","(LReturnRows;II)I"⟩ method_11_code 4 (Option.some FieldType.int) [(0, 6, 9, 25), (0, 6, 12, 13), (0, 6, 15, 27)] : Cond) ∈ lw_tbl := List.mem_of_getElem? (i := 391) rfl
set_option maxRecDepth 8000 in
theorem k_392 : (.methodLink "ReturnRowsLaw" 47 ⟨"ReturnRows","repair","(II)V"⟩ : Cond) ∈ lw_tbl := List.mem_of_getElem? (i := 392) rfl
set_option maxRecDepth 8000 in
theorem k_393 : (.instanceMethod ⟨"ReturnRows","repair","(II)V"⟩ : Cond) ∈ lw_tbl := List.mem_of_getElem? (i := 393) rfl
set_option maxRecDepth 8000 in
theorem k_394 : (.selects "ReturnRows" ⟨"ReturnRows","repair","(II)V"⟩ ⟨"ReturnRows","repair","(II)V"⟩ : Cond) ∈ lw_tbl := List.mem_of_getElem? (i := 394) rfl
set_option maxRecDepth 8000 in
theorem k_395 : (.code ⟨"ReturnRows","repair","(II)V"⟩ prog_1_method_10_code 4 (Option.none : Option FieldType) : Cond) ∈ lw_tbl := List.mem_of_getElem? (i := 395) rfl
set_option maxRecDepth 8000 in
theorem k_396 : (.methodLink "ReturnRows" 121 ⟨"ReturnRows","requireGraded","(LReturnRows$Return;)V"⟩ : Cond) ∈ lw_tbl := List.mem_of_getElem? (i := 396) rfl
set_option maxRecDepth 8000 in
theorem k_397 : (.static ⟨"ReturnRows","requireGraded","(LReturnRows$Return;)V"⟩ : Cond) ∈ lw_tbl := List.mem_of_getElem? (i := 397) rfl
set_option maxRecDepth 8000 in
theorem k_398 : (.code ⟨"ReturnRows","requireGraded","(LReturnRows$Return;)V"⟩ prog_1_method_25_code 1 (Option.none : Option FieldType) : Cond) ∈ lw_tbl := List.mem_of_getElem? (i := 398) rfl
set_option maxRecDepth 8000 in
theorem k_399 : (.stringRef "ReturnRows" 203 "the return is not graded" : Cond) ∈ lw_tbl := List.mem_of_getElem? (i := 399) rfl
set_option maxRecDepth 8000 in
theorem k_400 : (.stringRef "ReturnRows" 127 "the best grade needs no repair" : Cond) ∈ lw_tbl := List.mem_of_getElem? (i := 400) rfl
set_option maxRecDepth 8000 in
theorem k_401 : (.methodLink "ReturnRowsLaw" 123 ⟨"ReturnRowsLaw","step","(LReturnRows;IZ[J)I"⟩ : Cond) ∈ lw_tbl := List.mem_of_getElem? (i := 401) rfl
set_option maxRecDepth 8000 in
theorem k_402 : (.static ⟨"ReturnRowsLaw","step","(LReturnRows;IZ[J)I"⟩ : Cond) ∈ lw_tbl := List.mem_of_getElem? (i := 402) rfl
set_option maxRecDepth 8000 in
theorem k_403 : (.codeWith ⟨"ReturnRowsLaw","step","(LReturnRows;IZ[J)I"⟩ method_12_code 5 (Option.some FieldType.int) [(0, 10, 13, 25), (0, 10, 17, 27)] : Cond) ∈ lw_tbl := List.mem_of_getElem? (i := 403) rfl
set_option maxRecDepth 8000 in
theorem k_404 : (.methodLink "ReturnRowsLaw" 50 ⟨"ReturnRows","step","(IZ)I"⟩ : Cond) ∈ lw_tbl := List.mem_of_getElem? (i := 404) rfl
set_option maxRecDepth 8000 in
theorem k_405 : (.instanceMethod ⟨"ReturnRows","step","(IZ)I"⟩ : Cond) ∈ lw_tbl := List.mem_of_getElem? (i := 405) rfl
set_option maxRecDepth 8000 in
theorem k_406 : (.selects "ReturnRows" ⟨"ReturnRows","step","(IZ)I"⟩ ⟨"ReturnRows","step","(IZ)I"⟩ : Cond) ∈ lw_tbl := List.mem_of_getElem? (i := 406) rfl
set_option maxRecDepth 8000 in
theorem k_407 : (.code ⟨"ReturnRows","step","(IZ)I"⟩ prog_1_method_11_code 4 (Option.some FieldType.int) : Cond) ∈ lw_tbl := List.mem_of_getElem? (i := 407) rfl
set_option maxRecDepth 8000 in
theorem k_408 : (.stringRef "ReturnRows" 132 "the return is not in repair" : Cond) ∈ lw_tbl := List.mem_of_getElem? (i := 408) rfl
set_option maxRecDepth 8000 in
theorem k_409 : (.methodLink "ReturnRowsLaw" 127 ⟨"ReturnRowsLaw","scrap","(LReturnRows;II[J)I"⟩ : Cond) ∈ lw_tbl := List.mem_of_getElem? (i := 409) rfl
set_option maxRecDepth 8000 in
theorem k_410 : (.static ⟨"ReturnRowsLaw","scrap","(LReturnRows;II[J)I"⟩ : Cond) ∈ lw_tbl := List.mem_of_getElem? (i := 410) rfl
set_option maxRecDepth 8000 in
theorem k_411 : (.codeWith ⟨"ReturnRowsLaw","scrap","(LReturnRows;II[J)I"⟩ method_13_code 5 (Option.some FieldType.int) [(0, 17, 20, 25), (0, 17, 24, 13), (0, 17, 28, 27)] : Cond) ∈ lw_tbl := List.mem_of_getElem? (i := 411) rfl
set_option maxRecDepth 8000 in
theorem k_412 : (.methodLink "ReturnRowsLaw" 54 ⟨"ReturnRows","scrap","(II)Z"⟩ : Cond) ∈ lw_tbl := List.mem_of_getElem? (i := 412) rfl
set_option maxRecDepth 8000 in
theorem k_413 : (.instanceMethod ⟨"ReturnRows","scrap","(II)Z"⟩ : Cond) ∈ lw_tbl := List.mem_of_getElem? (i := 413) rfl
set_option maxRecDepth 8000 in
theorem k_414 : (.selects "ReturnRows" ⟨"ReturnRows","scrap","(II)Z"⟩ ⟨"ReturnRows","scrap","(II)Z"⟩ : Cond) ∈ lw_tbl := List.mem_of_getElem? (i := 414) rfl
set_option maxRecDepth 8000 in
theorem k_415 : (.code ⟨"ReturnRows","scrap","(II)Z"⟩ prog_1_method_12_code 4 (Option.some FieldType.boolean) : Cond) ∈ lw_tbl := List.mem_of_getElem? (i := 415) rfl
set_option maxRecDepth 8000 in
theorem k_416 : (.stringRef "ReturnRows" 134 "the grade is too good for scrap" : Cond) ∈ lw_tbl := List.mem_of_getElem? (i := 416) rfl
set_option maxRecDepth 8000 in
theorem k_417 : (.methodLink "ReturnRows" 136 ⟨"ReturnRows","isCertificateUsed","(I)Z"⟩ : Cond) ∈ lw_tbl := List.mem_of_getElem? (i := 417) rfl
set_option maxRecDepth 8000 in
theorem k_418 : (.privateMethod ⟨"ReturnRows","isCertificateUsed","(I)Z"⟩ : Cond) ∈ lw_tbl := List.mem_of_getElem? (i := 418) rfl
set_option maxRecDepth 8000 in
theorem k_419 : (.instanceMethod ⟨"ReturnRows","isCertificateUsed","(I)Z"⟩ : Cond) ∈ lw_tbl := List.mem_of_getElem? (i := 419) rfl
set_option maxRecDepth 8000 in
theorem k_420 : (.code ⟨"ReturnRows","isCertificateUsed","(I)Z"⟩ prog_1_method_28_code 6 (Option.some FieldType.boolean) : Cond) ∈ lw_tbl := List.mem_of_getElem? (i := 420) rfl
set_option maxRecDepth 8000 in
theorem k_421 : (.methodLink "ReturnRowsLaw" 130 ⟨"ReturnRowsLaw","back","(LReturnRows;I[J)I"⟩ : Cond) ∈ lw_tbl := List.mem_of_getElem? (i := 421) rfl
set_option maxRecDepth 8000 in
theorem k_422 : (.static ⟨"ReturnRowsLaw","back","(LReturnRows;I[J)I"⟩ : Cond) ∈ lw_tbl := List.mem_of_getElem? (i := 422) rfl
set_option maxRecDepth 8000 in
theorem k_423 : (.codeWith ⟨"ReturnRowsLaw","back","(LReturnRows;I[J)I"⟩ method_14_code 4 (Option.some FieldType.int) [(0, 9, 12, 25), (0, 9, 15, 27)] : Cond) ∈ lw_tbl := List.mem_of_getElem? (i := 423) rfl
set_option maxRecDepth 8000 in
theorem k_424 : (.methodLink "ReturnRowsLaw" 58 ⟨"ReturnRows","back","(I)I"⟩ : Cond) ∈ lw_tbl := List.mem_of_getElem? (i := 424) rfl
set_option maxRecDepth 8000 in
theorem k_425 : (.instanceMethod ⟨"ReturnRows","back","(I)I"⟩ : Cond) ∈ lw_tbl := List.mem_of_getElem? (i := 425) rfl
set_option maxRecDepth 8000 in
theorem k_426 : (.selects "ReturnRows" ⟨"ReturnRows","back","(I)I"⟩ ⟨"ReturnRows","back","(I)I"⟩ : Cond) ∈ lw_tbl := List.mem_of_getElem? (i := 426) rfl
set_option maxRecDepth 8000 in
theorem k_427 : (.code ⟨"ReturnRows","back","(I)I"⟩ prog_1_method_13_code 3 (Option.some FieldType.int) : Cond) ∈ lw_tbl := List.mem_of_getElem? (i := 427) rfl
set_option maxRecDepth 8000 in
theorem k_428 : (.stringRef "ReturnRows" 143 "the serial is that of another sale" : Cond) ∈ lw_tbl := List.mem_of_getElem? (i := 428) rfl
set_option maxRecDepth 8000 in
theorem k_429 : (.stringRef "ReturnRows" 145 "the grade is too bad for resale" : Cond) ∈ lw_tbl := List.mem_of_getElem? (i := 429) rfl
set_option maxRecDepth 8000 in
theorem k_430 : (.stringRef "ReturnRows" 150 "the last day of the lot is over" : Cond) ∈ lw_tbl := List.mem_of_getElem? (i := 430) rfl
set_option maxRecDepth 8000 in
theorem k_431 : (.methodLink "ReturnRowsLaw" 134 ⟨"ReturnRowsLaw","missing","(LReturnRows;II)I"⟩ : Cond) ∈ lw_tbl := List.mem_of_getElem? (i := 431) rfl
set_option maxRecDepth 8000 in
theorem k_432 : (.static ⟨"ReturnRowsLaw","missing","(LReturnRows;II)I"⟩ : Cond) ∈ lw_tbl := List.mem_of_getElem? (i := 432) rfl
set_option maxRecDepth 8000 in
theorem k_433 : (.codeWith ⟨"ReturnRowsLaw","missing","(LReturnRows;II)I"⟩ method_15_code 4 (Option.some FieldType.int) [(0, 6, 9, 25), (0, 6, 12, 13), (0, 6, 15, 27)] : Cond) ∈ lw_tbl := List.mem_of_getElem? (i := 433) rfl
set_option maxRecDepth 8000 in
theorem k_434 : (.methodLink "ReturnRowsLaw" 62 ⟨"ReturnRows","missing","(II)V"⟩ : Cond) ∈ lw_tbl := List.mem_of_getElem? (i := 434) rfl
set_option maxRecDepth 8000 in
theorem k_435 : (.instanceMethod ⟨"ReturnRows","missing","(II)V"⟩ : Cond) ∈ lw_tbl := List.mem_of_getElem? (i := 435) rfl
set_option maxRecDepth 8000 in
theorem k_436 : (.selects "ReturnRows" ⟨"ReturnRows","missing","(II)V"⟩ ⟨"ReturnRows","missing","(II)V"⟩ : Cond) ∈ lw_tbl := List.mem_of_getElem? (i := 436) rfl
set_option maxRecDepth 8000 in
theorem k_437 : (.code ⟨"ReturnRows","missing","(II)V"⟩ prog_1_method_14_code 4 (Option.none : Option FieldType) : Cond) ∈ lw_tbl := List.mem_of_getElem? (i := 437) rfl
set_option maxRecDepth 8000 in
theorem k_438 : (.methodLink "ReturnRowsLaw" 137 ⟨"ReturnRowsLaw","refund","(LReturnRows;II[J)I"⟩ : Cond) ∈ lw_tbl := List.mem_of_getElem? (i := 438) rfl
set_option maxRecDepth 8000 in
theorem k_439 : (.static ⟨"ReturnRowsLaw","refund","(LReturnRows;II[J)I"⟩ : Cond) ∈ lw_tbl := List.mem_of_getElem? (i := 439) rfl
set_option maxRecDepth 8000 in
theorem k_440 : (.codeWith ⟨"ReturnRowsLaw","refund","(LReturnRows;II[J)I"⟩ method_16_code 5 (Option.some FieldType.int) [(0, 10, 13, 25), (0, 10, 17, 13), (0, 10, 21, 27)] : Cond) ∈ lw_tbl := List.mem_of_getElem? (i := 440) rfl
set_option maxRecDepth 8000 in
theorem k_441 : (.methodLink "ReturnRowsLaw" 65 ⟨"ReturnRows","refund","(II)I"⟩ : Cond) ∈ lw_tbl := List.mem_of_getElem? (i := 441) rfl
set_option maxRecDepth 8000 in
theorem k_442 : (.instanceMethod ⟨"ReturnRows","refund","(II)I"⟩ : Cond) ∈ lw_tbl := List.mem_of_getElem? (i := 442) rfl
set_option maxRecDepth 8000 in
theorem k_443 : (.selects "ReturnRows" ⟨"ReturnRows","refund","(II)I"⟩ ⟨"ReturnRows","refund","(II)I"⟩ : Cond) ∈ lw_tbl := List.mem_of_getElem? (i := 443) rfl
set_option maxRecDepth 8000 in
theorem k_444 : (.code ⟨"ReturnRows","refund","(II)I"⟩ prog_1_method_15_code 5 (Option.some FieldType.int) : Cond) ∈ lw_tbl := List.mem_of_getElem? (i := 444) rfl
set_option maxRecDepth 8000 in
theorem k_445 : (.methodLink "ReturnRows" 158 ⟨"ReturnRows$Return","amountDue","()I"⟩ : Cond) ∈ lw_tbl := List.mem_of_getElem? (i := 445) rfl
set_option maxRecDepth 8000 in
theorem k_446 : (.instanceMethod ⟨"ReturnRows$Return","amountDue","()I"⟩ : Cond) ∈ lw_tbl := List.mem_of_getElem? (i := 446) rfl
set_option maxRecDepth 8000 in
theorem k_447 : (.selects "ReturnRows$Return" ⟨"ReturnRows$Return","amountDue","()I"⟩ ⟨"ReturnRows$Return","amountDue","()I"⟩ : Cond) ∈ lw_tbl := List.mem_of_getElem? (i := 447) rfl
set_option maxRecDepth 8000 in
theorem k_448 : (.code ⟨"ReturnRows$Return","amountDue","()I"⟩ prog_2_method_5_code 3 (Option.some FieldType.int) : Cond) ∈ lw_tbl := List.mem_of_getElem? (i := 448) rfl
set_option maxRecDepth 8000 in
theorem k_449 : (.fieldLinkNest "ReturnRows$Return" 52 "ReturnRows" "PERCENTS" "[I" "ReturnRows" : Cond) ∈ lw_tbl := List.mem_of_getElem? (i := 449) rfl
set_option maxRecDepth 8000 in
theorem k_450 : (.laysStatic "ReturnRows" "PERCENTS" "[I" : Cond) ∈ lw_tbl := List.mem_of_getElem? (i := 450) rfl
set_option maxRecDepth 8000 in
theorem k_451 : (.methodLink "ReturnRows$Return" 65 ⟨"java/lang/Math","max","(II)I"⟩ : Cond) ∈ lw_tbl := List.mem_of_getElem? (i := 451) rfl
set_option maxRecDepth 8000 in
theorem k_452 : (.static ⟨"java/lang/Math","max","(II)I"⟩ : Cond) ∈ lw_tbl := List.mem_of_getElem? (i := 452) rfl
set_option maxRecDepth 8000 in
theorem k_453 : (.code ⟨"java/lang/Math","max","(II)I"⟩ prog_10_method_65_code 2 (Option.some FieldType.int) : Cond) ∈ lw_tbl := List.mem_of_getElem? (i := 453) rfl
set_option maxRecDepth 8000 in
theorem k_454 : (.stringRef "ReturnRows" 165 "this is more than is left" : Cond) ∈ lw_tbl := List.mem_of_getElem? (i := 454) rfl
set_option maxRecDepth 8000 in
theorem k_455 : (.methodLink "ReturnRowsLaw" 140 ⟨"ReturnRowsLaw","due","(LReturnRows;I[J)I"⟩ : Cond) ∈ lw_tbl := List.mem_of_getElem? (i := 455) rfl
set_option maxRecDepth 8000 in
theorem k_456 : (.static ⟨"ReturnRowsLaw","due","(LReturnRows;I[J)I"⟩ : Cond) ∈ lw_tbl := List.mem_of_getElem? (i := 456) rfl
set_option maxRecDepth 8000 in
theorem k_457 : (.codeWith ⟨"ReturnRowsLaw","due","(LReturnRows;I[J)I"⟩ method_17_code 4 (Option.some FieldType.int) [(0, 9, 12, 25)] : Cond) ∈ lw_tbl := List.mem_of_getElem? (i := 457) rfl
set_option maxRecDepth 8000 in
theorem k_458 : (.methodLink "ReturnRowsLaw" 68 ⟨"ReturnRows","due","(I)I"⟩ : Cond) ∈ lw_tbl := List.mem_of_getElem? (i := 458) rfl
set_option maxRecDepth 8000 in
theorem k_459 : (.instanceMethod ⟨"ReturnRows","due","(I)I"⟩ : Cond) ∈ lw_tbl := List.mem_of_getElem? (i := 459) rfl
set_option maxRecDepth 8000 in
theorem k_460 : (.selects "ReturnRows" ⟨"ReturnRows","due","(I)I"⟩ ⟨"ReturnRows","due","(I)I"⟩ : Cond) ∈ lw_tbl := List.mem_of_getElem? (i := 460) rfl
set_option maxRecDepth 8000 in
theorem k_461 : (.code ⟨"ReturnRows","due","(I)I"⟩ prog_1_method_16_code 2 (Option.some FieldType.int) : Cond) ∈ lw_tbl := List.mem_of_getElem? (i := 461) rfl
set_option maxRecDepth 8000 in
theorem k_462 : (.methodLink "ReturnRowsLaw" 143 ⟨"ReturnRowsLaw","reason","(LReturnRows;II[J)I"⟩ : Cond) ∈ lw_tbl := List.mem_of_getElem? (i := 462) rfl
set_option maxRecDepth 8000 in
theorem k_463 : (.static ⟨"ReturnRowsLaw","reason","(LReturnRows;II[J)I"⟩ : Cond) ∈ lw_tbl := List.mem_of_getElem? (i := 463) rfl
set_option maxRecDepth 8000 in
theorem k_464 : (.codeWith ⟨"ReturnRowsLaw","reason","(LReturnRows;II[J)I"⟩ method_18_code 5 (Option.some FieldType.int) [(0, 10, 13, 13)] : Cond) ∈ lw_tbl := List.mem_of_getElem? (i := 464) rfl
set_option maxRecDepth 8000 in
theorem k_465 : (.methodLink "ReturnRowsLaw" 71 ⟨"ReturnRows","reason","(II)I"⟩ : Cond) ∈ lw_tbl := List.mem_of_getElem? (i := 465) rfl
set_option maxRecDepth 8000 in
theorem k_466 : (.instanceMethod ⟨"ReturnRows","reason","(II)I"⟩ : Cond) ∈ lw_tbl := List.mem_of_getElem? (i := 466) rfl
set_option maxRecDepth 8000 in
theorem k_467 : (.selects "ReturnRows" ⟨"ReturnRows","reason","(II)I"⟩ ⟨"ReturnRows","reason","(II)I"⟩ : Cond) ∈ lw_tbl := List.mem_of_getElem? (i := 467) rfl
set_option maxRecDepth 8000 in
theorem k_468 : (.code ⟨"ReturnRows","reason","(II)I"⟩ prog_1_method_17_code 3 (Option.some FieldType.int) : Cond) ∈ lw_tbl := List.mem_of_getElem? (i := 468) rfl
set_option maxRecDepth 8000 in
theorem k_469 : (.stringRef "ReturnRows" 173 "a reason has no such number" : Cond) ∈ lw_tbl := List.mem_of_getElem? (i := 469) rfl
set_option maxRecDepth 8000 in
theorem k_470 : (.methodLink "ReturnRowsLaw" 146 ⟨"ReturnRowsLaw","customer","(LReturnRows;II[J)I"⟩ : Cond) ∈ lw_tbl := List.mem_of_getElem? (i := 470) rfl
set_option maxRecDepth 8000 in
theorem k_471 : (.static ⟨"ReturnRowsLaw","customer","(LReturnRows;II[J)I"⟩ : Cond) ∈ lw_tbl := List.mem_of_getElem? (i := 471) rfl
set_option maxRecDepth 8000 in
theorem k_472 : (.codeWith ⟨"ReturnRowsLaw","customer","(LReturnRows;II[J)I"⟩ method_19_code 5 (Option.some FieldType.int) [(0, 10, 13, 13)] : Cond) ∈ lw_tbl := List.mem_of_getElem? (i := 472) rfl
set_option maxRecDepth 8000 in
theorem k_473 : (.methodLink "ReturnRowsLaw" 74 ⟨"ReturnRows","customer","(II)I"⟩ : Cond) ∈ lw_tbl := List.mem_of_getElem? (i := 473) rfl
set_option maxRecDepth 8000 in
theorem k_474 : (.instanceMethod ⟨"ReturnRows","customer","(II)I"⟩ : Cond) ∈ lw_tbl := List.mem_of_getElem? (i := 474) rfl
set_option maxRecDepth 8000 in
theorem k_475 : (.selects "ReturnRows" ⟨"ReturnRows","customer","(II)I"⟩ ⟨"ReturnRows","customer","(II)I"⟩ : Cond) ∈ lw_tbl := List.mem_of_getElem? (i := 475) rfl
set_option maxRecDepth 8000 in
theorem k_476 : (.code ⟨"ReturnRows","customer","(II)I"⟩ prog_1_method_18_code 3 (Option.some FieldType.int) : Cond) ∈ lw_tbl := List.mem_of_getElem? (i := 476) rfl
set_option maxRecDepth 8000 in
theorem k_477 : (.methodLink "ReturnRows" 176 ⟨"ReturnRows","salesTo","(I)I"⟩ : Cond) ∈ lw_tbl := List.mem_of_getElem? (i := 477) rfl
set_option maxRecDepth 8000 in
theorem k_478 : (.privateMethod ⟨"ReturnRows","salesTo","(I)I"⟩ : Cond) ∈ lw_tbl := List.mem_of_getElem? (i := 478) rfl
set_option maxRecDepth 8000 in
theorem k_479 : (.instanceMethod ⟨"ReturnRows","salesTo","(I)I"⟩ : Cond) ∈ lw_tbl := List.mem_of_getElem? (i := 479) rfl
set_option maxRecDepth 8000 in
theorem k_480 : (.code ⟨"ReturnRows","salesTo","(I)I"⟩ prog_1_method_30_code 7 (Option.some FieldType.int) : Cond) ∈ lw_tbl := List.mem_of_getElem? (i := 480) rfl
set_option maxRecDepth 8000 in
theorem k_481 : (.methodLink "ReturnRows" 179 ⟨"ReturnRows","isMarked","(I)Z"⟩ : Cond) ∈ lw_tbl := List.mem_of_getElem? (i := 481) rfl
set_option maxRecDepth 8000 in
theorem k_482 : (.privateMethod ⟨"ReturnRows","isMarked","(I)Z"⟩ : Cond) ∈ lw_tbl := List.mem_of_getElem? (i := 482) rfl
set_option maxRecDepth 8000 in
theorem k_483 : (.instanceMethod ⟨"ReturnRows","isMarked","(I)Z"⟩ : Cond) ∈ lw_tbl := List.mem_of_getElem? (i := 483) rfl
set_option maxRecDepth 8000 in
theorem k_484 : (.code ⟨"ReturnRows","isMarked","(I)Z"⟩ prog_1_method_32_code 2 (Option.some FieldType.boolean) : Cond) ∈ lw_tbl := List.mem_of_getElem? (i := 484) rfl
set_option maxRecDepth 8000 in
theorem k_485 : (.methodLink "ReturnRows" 215 ⟨"ReturnRows","recentReturnsOf","(I)I"⟩ : Cond) ∈ lw_tbl := List.mem_of_getElem? (i := 485) rfl
set_option maxRecDepth 8000 in
theorem k_486 : (.privateMethod ⟨"ReturnRows","recentReturnsOf","(I)I"⟩ : Cond) ∈ lw_tbl := List.mem_of_getElem? (i := 486) rfl
set_option maxRecDepth 8000 in
theorem k_487 : (.instanceMethod ⟨"ReturnRows","recentReturnsOf","(I)I"⟩ : Cond) ∈ lw_tbl := List.mem_of_getElem? (i := 487) rfl
set_option maxRecDepth 8000 in
theorem k_488 : (.code ⟨"ReturnRows","recentReturnsOf","(I)I"⟩ prog_1_method_31_code 7 (Option.some FieldType.int) : Cond) ∈ lw_tbl := List.mem_of_getElem? (i := 488) rfl
set_option maxRecDepth 8000 in
theorem k_489 : (.stringRef "ReturnRows" 182 "a customer has no such number" : Cond) ∈ lw_tbl := List.mem_of_getElem? (i := 489) rfl
set_option maxRecDepth 8000 in
theorem k_490 : (.methodLink "ReturnRowsLaw" 149 ⟨"ReturnRowsLaw","told","(LReturnRows;II[J)I"⟩ : Cond) ∈ lw_tbl := List.mem_of_getElem? (i := 490) rfl
set_option maxRecDepth 8000 in
theorem k_491 : (.static ⟨"ReturnRowsLaw","told","(LReturnRows;II[J)I"⟩ : Cond) ∈ lw_tbl := List.mem_of_getElem? (i := 491) rfl
set_option maxRecDepth 8000 in
theorem k_492 : (.codeWith ⟨"ReturnRowsLaw","told","(LReturnRows;II[J)I"⟩ method_20_code 5 (Option.some FieldType.int) [(0, 10, 13, 25), (0, 10, 17, 13)] : Cond) ∈ lw_tbl := List.mem_of_getElem? (i := 492) rfl
set_option maxRecDepth 8000 in
theorem k_493 : (.methodLink "ReturnRowsLaw" 77 ⟨"ReturnRows","told","(II)I"⟩ : Cond) ∈ lw_tbl := List.mem_of_getElem? (i := 493) rfl
set_option maxRecDepth 8000 in
theorem k_494 : (.instanceMethod ⟨"ReturnRows","told","(II)I"⟩ : Cond) ∈ lw_tbl := List.mem_of_getElem? (i := 494) rfl
set_option maxRecDepth 8000 in
theorem k_495 : (.selects "ReturnRows" ⟨"ReturnRows","told","(II)I"⟩ ⟨"ReturnRows","told","(II)I"⟩ : Cond) ∈ lw_tbl := List.mem_of_getElem? (i := 495) rfl
set_option maxRecDepth 8000 in
theorem k_496 : (.code ⟨"ReturnRows","told","(II)I"⟩ prog_1_method_19_code 4 (Option.some FieldType.int) : Cond) ∈ lw_tbl := List.mem_of_getElem? (i := 496) rfl
set_option maxRecDepth 8000 in
theorem k_497 : (.stringRef "ReturnRows" 190 "a return has no such number" : Cond) ∈ lw_tbl := List.mem_of_getElem? (i := 497) rfl
set_option maxRecDepth 8000 in
theorem k_498 : (.classLink "ReturnRowsLaw" 81 "ReturnRowsModel" : Cond) ∈ lw_tbl := List.mem_of_getElem? (i := 498) rfl
set_option maxRecDepth 8000 in
theorem k_499 : (.instantiable "ReturnRowsModel" 23 : Cond) ∈ lw_tbl := List.mem_of_getElem? (i := 499) rfl
set_option maxRecDepth 8000 in
theorem k_500 : (.methodLink "ReturnRowsLaw" 83 ⟨"ReturnRowsModel","<init>","()V"⟩ : Cond) ∈ lw_tbl := List.mem_of_getElem? (i := 500) rfl
set_option maxRecDepth 8000 in
theorem k_501 : (.instanceMethod ⟨"ReturnRowsModel","<init>","()V"⟩ : Cond) ∈ lw_tbl := List.mem_of_getElem? (i := 501) rfl
set_option maxRecDepth 8000 in
theorem k_502 : (.code ⟨"ReturnRowsModel","<init>","()V"⟩ prog_5_method_1_code 1 (Option.none : Option FieldType) : Cond) ∈ lw_tbl := List.mem_of_getElem? (i := 502) rfl
set_option maxRecDepth 8000 in
theorem k_503 : (.methodLink "ReturnRowsModel" 1 ⟨"java/lang/Object","<init>","()V"⟩ : Cond) ∈ lw_tbl := List.mem_of_getElem? (i := 503) rfl
set_option maxRecDepth 8000 in
theorem k_504 : (.fieldLink "ReturnRowsModel" 68 "ReturnRowsModel" "code" "I" : Cond) ∈ lw_tbl := List.mem_of_getElem? (i := 504) rfl
set_option maxRecDepth 8000 in
theorem k_505 : (.fieldLink "ReturnRowsModel" 82 "ReturnRowsModel" "today" "I" : Cond) ∈ lw_tbl := List.mem_of_getElem? (i := 505) rfl
set_option maxRecDepth 8000 in
theorem k_506 : (.fieldLink "ReturnRowsModel" 72 "ReturnRowsModel" "sales" "I" : Cond) ∈ lw_tbl := List.mem_of_getElem? (i := 506) rfl
set_option maxRecDepth 8000 in
theorem k_507 : (.fieldLink "ReturnRowsModel" 7 "ReturnRowsModel" "customer" "[I" : Cond) ∈ lw_tbl := List.mem_of_getElem? (i := 507) rfl
set_option maxRecDepth 8000 in
theorem k_508 : (.fieldLink "ReturnRowsModel" 13 "ReturnRowsModel" "price" "[I" : Cond) ∈ lw_tbl := List.mem_of_getElem? (i := 508) rfl
set_option maxRecDepth 8000 in
theorem k_509 : (.fieldLink "ReturnRowsModel" 16 "ReturnRowsModel" "last" "[I" : Cond) ∈ lw_tbl := List.mem_of_getElem? (i := 509) rfl
set_option maxRecDepth 8000 in
theorem k_510 : (.fieldLink "ReturnRowsModel" 19 "ReturnRowsModel" "sold" "[I" : Cond) ∈ lw_tbl := List.mem_of_getElem? (i := 510) rfl
set_option maxRecDepth 8000 in
theorem k_511 : (.fieldLink "ReturnRowsModel" 79 "ReturnRowsModel" "returns" "I" : Cond) ∈ lw_tbl := List.mem_of_getElem? (i := 511) rfl
set_option maxRecDepth 8000 in
theorem k_512 : (.fieldLink "ReturnRowsModel" 22 "ReturnRowsModel" "sale" "[I" : Cond) ∈ lw_tbl := List.mem_of_getElem? (i := 512) rfl
set_option maxRecDepth 8000 in
theorem k_513 : (.fieldLink "ReturnRowsModel" 25 "ReturnRowsModel" "reason" "[I" : Cond) ∈ lw_tbl := List.mem_of_getElem? (i := 513) rfl
set_option maxRecDepth 8000 in
theorem k_514 : (.fieldLink "ReturnRowsModel" 28 "ReturnRowsModel" "state" "[I" : Cond) ∈ lw_tbl := List.mem_of_getElem? (i := 514) rfl
set_option maxRecDepth 8000 in
theorem k_515 : (.fieldLink "ReturnRowsModel" 31 "ReturnRowsModel" "came" "[I" : Cond) ∈ lw_tbl := List.mem_of_getElem? (i := 515) rfl
set_option maxRecDepth 8000 in
theorem k_516 : (.fieldLink "ReturnRowsModel" 34 "ReturnRowsModel" "person" "[I" : Cond) ∈ lw_tbl := List.mem_of_getElem? (i := 516) rfl
set_option maxRecDepth 8000 in
theorem k_517 : (.fieldLink "ReturnRowsModel" 37 "ReturnRowsModel" "quarantined" "[Z" : Cond) ∈ lw_tbl := List.mem_of_getElem? (i := 517) rfl
set_option maxRecDepth 8000 in
theorem k_518 : (.fieldLink "ReturnRowsModel" 41 "ReturnRowsModel" "wrong" "[Z" : Cond) ∈ lw_tbl := List.mem_of_getElem? (i := 518) rfl
set_option maxRecDepth 8000 in
theorem k_519 : (.fieldLink "ReturnRowsModel" 44 "ReturnRowsModel" "grade" "[I" : Cond) ∈ lw_tbl := List.mem_of_getElem? (i := 519) rfl
set_option maxRecDepth 8000 in
theorem k_520 : (.fieldLink "ReturnRowsModel" 47 "ReturnRowsModel" "before" "[I" : Cond) ∈ lw_tbl := List.mem_of_getElem? (i := 520) rfl
set_option maxRecDepth 8000 in
theorem k_521 : (.fieldLink "ReturnRowsModel" 50 "ReturnRowsModel" "best" "[I" : Cond) ∈ lw_tbl := List.mem_of_getElem? (i := 521) rfl
set_option maxRecDepth 8000 in
theorem k_522 : (.fieldLink "ReturnRowsModel" 53 "ReturnRowsModel" "bad" "[I" : Cond) ∈ lw_tbl := List.mem_of_getElem? (i := 522) rfl
set_option maxRecDepth 8000 in
theorem k_523 : (.fieldLink "ReturnRowsModel" 56 "ReturnRowsModel" "steps" "[I" : Cond) ∈ lw_tbl := List.mem_of_getElem? (i := 523) rfl
set_option maxRecDepth 8000 in
theorem k_524 : (.fieldLink "ReturnRowsModel" 59 "ReturnRowsModel" "lacks" "[I" : Cond) ∈ lw_tbl := List.mem_of_getElem? (i := 524) rfl
set_option maxRecDepth 8000 in
theorem k_525 : (.fieldLink "ReturnRowsModel" 62 "ReturnRowsModel" "paid" "[I" : Cond) ∈ lw_tbl := List.mem_of_getElem? (i := 525) rfl
set_option maxRecDepth 8000 in
theorem k_526 : (.fieldLink "ReturnRowsModel" 65 "ReturnRowsModel" "certificate" "[I" : Cond) ∈ lw_tbl := List.mem_of_getElem? (i := 526) rfl
set_option maxRecDepth 8000 in
theorem k_527 : (.lays "ReturnRowsModel" "ReturnRowsModel" "code" "I" : Cond) ∈ lw_tbl := List.mem_of_getElem? (i := 527) rfl
set_option maxRecDepth 8000 in
theorem k_528 : (.soleField "ReturnRowsModel" "code" : Cond) ∈ lw_tbl := List.mem_of_getElem? (i := 528) rfl
set_option maxRecDepth 8000 in
theorem k_529 : (.lays "ReturnRowsModel" "ReturnRowsModel" "today" "I" : Cond) ∈ lw_tbl := List.mem_of_getElem? (i := 529) rfl
set_option maxRecDepth 8000 in
theorem k_530 : (.soleField "ReturnRowsModel" "today" : Cond) ∈ lw_tbl := List.mem_of_getElem? (i := 530) rfl
set_option maxRecDepth 8000 in
theorem k_531 : (.lays "ReturnRowsModel" "ReturnRowsModel" "sales" "I" : Cond) ∈ lw_tbl := List.mem_of_getElem? (i := 531) rfl
set_option maxRecDepth 8000 in
theorem k_532 : (.soleField "ReturnRowsModel" "sales" : Cond) ∈ lw_tbl := List.mem_of_getElem? (i := 532) rfl
set_option maxRecDepth 8000 in
theorem k_533 : (.laysFinal "ReturnRowsModel" "ReturnRowsModel" "customer" "[I" : Cond) ∈ lw_tbl := List.mem_of_getElem? (i := 533) rfl
set_option maxRecDepth 8000 in
theorem k_534 : (.soleField "ReturnRowsModel" "customer" : Cond) ∈ lw_tbl := List.mem_of_getElem? (i := 534) rfl
set_option maxRecDepth 8000 in
theorem k_535 : (.laysFinal "ReturnRowsModel" "ReturnRowsModel" "price" "[I" : Cond) ∈ lw_tbl := List.mem_of_getElem? (i := 535) rfl
set_option maxRecDepth 8000 in
theorem k_536 : (.soleField "ReturnRowsModel" "price" : Cond) ∈ lw_tbl := List.mem_of_getElem? (i := 536) rfl
set_option maxRecDepth 8000 in
theorem k_537 : (.laysFinal "ReturnRowsModel" "ReturnRowsModel" "last" "[I" : Cond) ∈ lw_tbl := List.mem_of_getElem? (i := 537) rfl
set_option maxRecDepth 8000 in
theorem k_538 : (.soleField "ReturnRowsModel" "last" : Cond) ∈ lw_tbl := List.mem_of_getElem? (i := 538) rfl
set_option maxRecDepth 8000 in
theorem k_539 : (.laysFinal "ReturnRowsModel" "ReturnRowsModel" "sold" "[I" : Cond) ∈ lw_tbl := List.mem_of_getElem? (i := 539) rfl
set_option maxRecDepth 8000 in
theorem k_540 : (.soleField "ReturnRowsModel" "sold" : Cond) ∈ lw_tbl := List.mem_of_getElem? (i := 540) rfl
set_option maxRecDepth 8000 in
theorem k_541 : (.lays "ReturnRowsModel" "ReturnRowsModel" "returns" "I" : Cond) ∈ lw_tbl := List.mem_of_getElem? (i := 541) rfl
set_option maxRecDepth 8000 in
theorem k_542 : (.soleField "ReturnRowsModel" "returns" : Cond) ∈ lw_tbl := List.mem_of_getElem? (i := 542) rfl
set_option maxRecDepth 8000 in
theorem k_543 : (.laysFinal "ReturnRowsModel" "ReturnRowsModel" "sale" "[I" : Cond) ∈ lw_tbl := List.mem_of_getElem? (i := 543) rfl
set_option maxRecDepth 8000 in
theorem k_544 : (.soleField "ReturnRowsModel" "sale" : Cond) ∈ lw_tbl := List.mem_of_getElem? (i := 544) rfl
set_option maxRecDepth 8000 in
theorem k_545 : (.laysFinal "ReturnRowsModel" "ReturnRowsModel" "reason" "[I" : Cond) ∈ lw_tbl := List.mem_of_getElem? (i := 545) rfl
set_option maxRecDepth 8000 in
theorem k_546 : (.soleField "ReturnRowsModel" "reason" : Cond) ∈ lw_tbl := List.mem_of_getElem? (i := 546) rfl
set_option maxRecDepth 8000 in
theorem k_547 : (.laysFinal "ReturnRowsModel" "ReturnRowsModel" "state" "[I" : Cond) ∈ lw_tbl := List.mem_of_getElem? (i := 547) rfl
set_option maxRecDepth 8000 in
theorem k_548 : (.soleField "ReturnRowsModel" "state" : Cond) ∈ lw_tbl := List.mem_of_getElem? (i := 548) rfl
set_option maxRecDepth 8000 in
theorem k_549 : (.laysFinal "ReturnRowsModel" "ReturnRowsModel" "came" "[I" : Cond) ∈ lw_tbl := List.mem_of_getElem? (i := 549) rfl
set_option maxRecDepth 8000 in
theorem k_550 : (.soleField "ReturnRowsModel" "came" : Cond) ∈ lw_tbl := List.mem_of_getElem? (i := 550) rfl
set_option maxRecDepth 8000 in
theorem k_551 : (.laysFinal "ReturnRowsModel" "ReturnRowsModel" "person" "[I" : Cond) ∈ lw_tbl := List.mem_of_getElem? (i := 551) rfl
set_option maxRecDepth 8000 in
theorem k_552 : (.soleField "ReturnRowsModel" "person" : Cond) ∈ lw_tbl := List.mem_of_getElem? (i := 552) rfl
set_option maxRecDepth 8000 in
theorem k_553 : (.laysFinal "ReturnRowsModel" "ReturnRowsModel" "quarantined" "[Z" : Cond) ∈ lw_tbl := List.mem_of_getElem? (i := 553) rfl
set_option maxRecDepth 8000 in
theorem k_554 : (.soleField "ReturnRowsModel" "quarantined" : Cond) ∈ lw_tbl := List.mem_of_getElem? (i := 554) rfl
set_option maxRecDepth 8000 in
theorem k_555 : (.laysFinal "ReturnRowsModel" "ReturnRowsModel" "wrong" "[Z" : Cond) ∈ lw_tbl := List.mem_of_getElem? (i := 555) rfl
set_option maxRecDepth 8000 in
theorem k_556 : (.soleField "ReturnRowsModel" "wrong" : Cond) ∈ lw_tbl := List.mem_of_getElem? (i := 556) rfl
set_option maxRecDepth 8000 in
theorem k_557 : (.laysFinal "ReturnRowsModel" "ReturnRowsModel" "grade" "[I" : Cond) ∈ lw_tbl := List.mem_of_getElem? (i := 557) rfl
set_option maxRecDepth 8000 in
theorem k_558 : (.soleField "ReturnRowsModel" "grade" : Cond) ∈ lw_tbl := List.mem_of_getElem? (i := 558) rfl
set_option maxRecDepth 8000 in
theorem k_559 : (.laysFinal "ReturnRowsModel" "ReturnRowsModel" "before" "[I" : Cond) ∈ lw_tbl := List.mem_of_getElem? (i := 559) rfl
set_option maxRecDepth 8000 in
theorem k_560 : (.soleField "ReturnRowsModel" "before" : Cond) ∈ lw_tbl := List.mem_of_getElem? (i := 560) rfl
set_option maxRecDepth 8000 in
theorem k_561 : (.laysFinal "ReturnRowsModel" "ReturnRowsModel" "best" "[I" : Cond) ∈ lw_tbl := List.mem_of_getElem? (i := 561) rfl
set_option maxRecDepth 8000 in
theorem k_562 : (.soleField "ReturnRowsModel" "best" : Cond) ∈ lw_tbl := List.mem_of_getElem? (i := 562) rfl
set_option maxRecDepth 8000 in
theorem k_563 : (.laysFinal "ReturnRowsModel" "ReturnRowsModel" "bad" "[I" : Cond) ∈ lw_tbl := List.mem_of_getElem? (i := 563) rfl
set_option maxRecDepth 8000 in
theorem k_564 : (.soleField "ReturnRowsModel" "bad" : Cond) ∈ lw_tbl := List.mem_of_getElem? (i := 564) rfl
set_option maxRecDepth 8000 in
theorem k_565 : (.laysFinal "ReturnRowsModel" "ReturnRowsModel" "steps" "[I" : Cond) ∈ lw_tbl := List.mem_of_getElem? (i := 565) rfl
set_option maxRecDepth 8000 in
theorem k_566 : (.soleField "ReturnRowsModel" "steps" : Cond) ∈ lw_tbl := List.mem_of_getElem? (i := 566) rfl
set_option maxRecDepth 8000 in
theorem k_567 : (.laysFinal "ReturnRowsModel" "ReturnRowsModel" "lacks" "[I" : Cond) ∈ lw_tbl := List.mem_of_getElem? (i := 567) rfl
set_option maxRecDepth 8000 in
theorem k_568 : (.soleField "ReturnRowsModel" "lacks" : Cond) ∈ lw_tbl := List.mem_of_getElem? (i := 568) rfl
set_option maxRecDepth 8000 in
theorem k_569 : (.laysFinal "ReturnRowsModel" "ReturnRowsModel" "paid" "[I" : Cond) ∈ lw_tbl := List.mem_of_getElem? (i := 569) rfl
set_option maxRecDepth 8000 in
theorem k_570 : (.soleField "ReturnRowsModel" "paid" : Cond) ∈ lw_tbl := List.mem_of_getElem? (i := 570) rfl
set_option maxRecDepth 8000 in
theorem k_571 : (.laysFinal "ReturnRowsModel" "ReturnRowsModel" "certificate" "[I" : Cond) ∈ lw_tbl := List.mem_of_getElem? (i := 571) rfl
set_option maxRecDepth 8000 in
theorem k_572 : (.soleField "ReturnRowsModel" "certificate" : Cond) ∈ lw_tbl := List.mem_of_getElem? (i := 572) rfl
set_option maxRecDepth 8000 in
theorem k_573 : (.superclass "ReturnRowsModel" "java/lang/Object" : Cond) ∈ lw_tbl := List.mem_of_getElem? (i := 573) rfl
set_option maxRecDepth 8000 in
theorem k_574 : (.arrayClass FieldType.int : Cond) ∈ lw_tbl := List.mem_of_getElem? (i := 574) rfl
set_option maxRecDepth 8000 in
theorem k_575 : (.arrayClass FieldType.boolean : Cond) ∈ lw_tbl := List.mem_of_getElem? (i := 575) rfl
set_option maxRecDepth 8000 in
theorem k_576 : (.methodLink "ReturnRowsLaw" 90 ⟨"ReturnRowsModel","thrown","()I"⟩ : Cond) ∈ lw_tbl := List.mem_of_getElem? (i := 576) rfl
set_option maxRecDepth 8000 in
theorem k_577 : (.instanceMethod ⟨"ReturnRowsModel","thrown","()I"⟩ : Cond) ∈ lw_tbl := List.mem_of_getElem? (i := 577) rfl
set_option maxRecDepth 8000 in
theorem k_578 : (.selects "ReturnRowsModel" ⟨"ReturnRowsModel","thrown","()I"⟩ ⟨"ReturnRowsModel","thrown","()I"⟩ : Cond) ∈ lw_tbl := List.mem_of_getElem? (i := 578) rfl
set_option maxRecDepth 8000 in
theorem k_579 : (.code ⟨"ReturnRowsModel","thrown","()I"⟩ prog_5_method_2_code 1 (Option.some FieldType.int) : Cond) ∈ lw_tbl := List.mem_of_getElem? (i := 579) rfl
set_option maxRecDepth 8000 in
theorem k_580 : (.methodLink "ReturnRowsLaw" 89 ⟨"ReturnRowsModel","day","(I)V"⟩ : Cond) ∈ lw_tbl := List.mem_of_getElem? (i := 580) rfl
set_option maxRecDepth 8000 in
theorem k_581 : (.instanceMethod ⟨"ReturnRowsModel","day","(I)V"⟩ : Cond) ∈ lw_tbl := List.mem_of_getElem? (i := 581) rfl
set_option maxRecDepth 8000 in
theorem k_582 : (.selects "ReturnRowsModel" ⟨"ReturnRowsModel","day","(I)V"⟩ ⟨"ReturnRowsModel","day","(I)V"⟩ : Cond) ∈ lw_tbl := List.mem_of_getElem? (i := 582) rfl
set_option maxRecDepth 8000 in
theorem k_583 : (.code ⟨"ReturnRowsModel","day","(I)V"⟩ prog_5_method_6_code 2 (Option.none : Option FieldType) : Cond) ∈ lw_tbl := List.mem_of_getElem? (i := 583) rfl
set_option maxRecDepth 8000 in
theorem k_584 : (.methodLink "ReturnRowsModel" 75 ⟨"ReturnRowsModel","in","(III)Z"⟩ : Cond) ∈ lw_tbl := List.mem_of_getElem? (i := 584) rfl
set_option maxRecDepth 8000 in
theorem k_585 : (.static ⟨"ReturnRowsModel","in","(III)Z"⟩ : Cond) ∈ lw_tbl := List.mem_of_getElem? (i := 585) rfl
set_option maxRecDepth 8000 in
theorem k_586 : (.code ⟨"ReturnRowsModel","in","(III)Z"⟩ prog_5_method_3_code 3 (Option.some FieldType.boolean) : Cond) ∈ lw_tbl := List.mem_of_getElem? (i := 586) rfl
set_option maxRecDepth 8000 in
theorem k_587 : (.methodLink "ReturnRowsLaw" 97 ⟨"ReturnRowsModel","sale","(III)I"⟩ : Cond) ∈ lw_tbl := List.mem_of_getElem? (i := 587) rfl
set_option maxRecDepth 8000 in
theorem k_588 : (.instanceMethod ⟨"ReturnRowsModel","sale","(III)I"⟩ : Cond) ∈ lw_tbl := List.mem_of_getElem? (i := 588) rfl
set_option maxRecDepth 8000 in
theorem k_589 : (.selects "ReturnRowsModel" ⟨"ReturnRowsModel","sale","(III)I"⟩ ⟨"ReturnRowsModel","sale","(III)I"⟩ : Cond) ∈ lw_tbl := List.mem_of_getElem? (i := 589) rfl
set_option maxRecDepth 8000 in
theorem k_590 : (.code ⟨"ReturnRowsModel","sale","(III)I"⟩ prog_5_method_7_code 4 (Option.some FieldType.int) : Cond) ∈ lw_tbl := List.mem_of_getElem? (i := 590) rfl
set_option maxRecDepth 8000 in
theorem k_591 : (.constant "ReturnRowsModel" 85 100000 : Cond) ∈ lw_tbl := List.mem_of_getElem? (i := 591) rfl
set_option maxRecDepth 8000 in
theorem k_592 : (.methodLink "ReturnRowsLaw" 101 ⟨"ReturnRowsModel","comes","(IIZ)I"⟩ : Cond) ∈ lw_tbl := List.mem_of_getElem? (i := 592) rfl
set_option maxRecDepth 8000 in
theorem k_593 : (.instanceMethod ⟨"ReturnRowsModel","comes","(IIZ)I"⟩ : Cond) ∈ lw_tbl := List.mem_of_getElem? (i := 593) rfl
set_option maxRecDepth 8000 in
theorem k_594 : (.selects "ReturnRowsModel" ⟨"ReturnRowsModel","comes","(IIZ)I"⟩ ⟨"ReturnRowsModel","comes","(IIZ)I"⟩ : Cond) ∈ lw_tbl := List.mem_of_getElem? (i := 594) rfl
set_option maxRecDepth 8000 in
theorem k_595 : (.code ⟨"ReturnRowsModel","comes","(IIZ)I"⟩ prog_5_method_9_code 4 (Option.some FieldType.int) : Cond) ∈ lw_tbl := List.mem_of_getElem? (i := 595) rfl
set_option maxRecDepth 8000 in
theorem k_596 : (.methodLink "ReturnRowsModel" 86 ⟨"ReturnRowsModel","isSale","(I)Z"⟩ : Cond) ∈ lw_tbl := List.mem_of_getElem? (i := 596) rfl
set_option maxRecDepth 8000 in
theorem k_597 : (.privateMethod ⟨"ReturnRowsModel","isSale","(I)Z"⟩ : Cond) ∈ lw_tbl := List.mem_of_getElem? (i := 597) rfl
set_option maxRecDepth 8000 in
theorem k_598 : (.instanceMethod ⟨"ReturnRowsModel","isSale","(I)Z"⟩ : Cond) ∈ lw_tbl := List.mem_of_getElem? (i := 598) rfl
set_option maxRecDepth 8000 in
theorem k_599 : (.code ⟨"ReturnRowsModel","isSale","(I)Z"⟩ prog_5_method_4_code 2 (Option.some FieldType.boolean) : Cond) ∈ lw_tbl := List.mem_of_getElem? (i := 599) rfl
set_option maxRecDepth 8000 in
theorem k_600 : (.methodLink "ReturnRowsModel" 90 ⟨"ReturnRowsModel","hasReturn","(I)Z"⟩ : Cond) ∈ lw_tbl := List.mem_of_getElem? (i := 600) rfl
set_option maxRecDepth 8000 in
theorem k_601 : (.privateMethod ⟨"ReturnRowsModel","hasReturn","(I)Z"⟩ : Cond) ∈ lw_tbl := List.mem_of_getElem? (i := 601) rfl
set_option maxRecDepth 8000 in
theorem k_602 : (.instanceMethod ⟨"ReturnRowsModel","hasReturn","(I)Z"⟩ : Cond) ∈ lw_tbl := List.mem_of_getElem? (i := 602) rfl
set_option maxRecDepth 8000 in
theorem k_603 : (.code ⟨"ReturnRowsModel","hasReturn","(I)Z"⟩ prog_5_method_8_code 3 (Option.some FieldType.boolean) : Cond) ∈ lw_tbl := List.mem_of_getElem? (i := 603) rfl
set_option maxRecDepth 8000 in
theorem k_604 : (.methodLink "ReturnRowsLaw" 105 ⟨"ReturnRowsModel","arrive","(II)V"⟩ : Cond) ∈ lw_tbl := List.mem_of_getElem? (i := 604) rfl
set_option maxRecDepth 8000 in
theorem k_605 : (.instanceMethod ⟨"ReturnRowsModel","arrive","(II)V"⟩ : Cond) ∈ lw_tbl := List.mem_of_getElem? (i := 605) rfl
set_option maxRecDepth 8000 in
theorem k_606 : (.selects "ReturnRowsModel" ⟨"ReturnRowsModel","arrive","(II)V"⟩ ⟨"ReturnRowsModel","arrive","(II)V"⟩ : Cond) ∈ lw_tbl := List.mem_of_getElem? (i := 606) rfl
set_option maxRecDepth 8000 in
theorem k_607 : (.code ⟨"ReturnRowsModel","arrive","(II)V"⟩ prog_5_method_10_code 3 (Option.none : Option FieldType) : Cond) ∈ lw_tbl := List.mem_of_getElem? (i := 607) rfl
set_option maxRecDepth 8000 in
theorem k_608 : (.methodLink "ReturnRowsModel" 93 ⟨"ReturnRowsModel","isReturn","(I)Z"⟩ : Cond) ∈ lw_tbl := List.mem_of_getElem? (i := 608) rfl
set_option maxRecDepth 8000 in
theorem k_609 : (.privateMethod ⟨"ReturnRowsModel","isReturn","(I)Z"⟩ : Cond) ∈ lw_tbl := List.mem_of_getElem? (i := 609) rfl
set_option maxRecDepth 8000 in
theorem k_610 : (.instanceMethod ⟨"ReturnRowsModel","isReturn","(I)Z"⟩ : Cond) ∈ lw_tbl := List.mem_of_getElem? (i := 610) rfl
set_option maxRecDepth 8000 in
theorem k_611 : (.code ⟨"ReturnRowsModel","isReturn","(I)Z"⟩ prog_5_method_5_code 2 (Option.some FieldType.boolean) : Cond) ∈ lw_tbl := List.mem_of_getElem? (i := 611) rfl
set_option maxRecDepth 8000 in
theorem k_612 : (.methodLink "ReturnRowsLaw" 109 ⟨"ReturnRowsModel","serial","(II)I"⟩ : Cond) ∈ lw_tbl := List.mem_of_getElem? (i := 612) rfl
set_option maxRecDepth 8000 in
theorem k_613 : (.instanceMethod ⟨"ReturnRowsModel","serial","(II)I"⟩ : Cond) ∈ lw_tbl := List.mem_of_getElem? (i := 613) rfl
set_option maxRecDepth 8000 in
theorem k_614 : (.selects "ReturnRowsModel" ⟨"ReturnRowsModel","serial","(II)I"⟩ ⟨"ReturnRowsModel","serial","(II)I"⟩ : Cond) ∈ lw_tbl := List.mem_of_getElem? (i := 614) rfl
set_option maxRecDepth 8000 in
theorem k_615 : (.code ⟨"ReturnRowsModel","serial","(II)I"⟩ prog_5_method_11_code 3 (Option.some FieldType.int) : Cond) ∈ lw_tbl := List.mem_of_getElem? (i := 615) rfl
set_option maxRecDepth 8000 in
theorem k_616 : (.methodLink "ReturnRowsLaw" 113 ⟨"ReturnRowsModel","quarantine","(IZ)V"⟩ : Cond) ∈ lw_tbl := List.mem_of_getElem? (i := 616) rfl
set_option maxRecDepth 8000 in
theorem k_617 : (.instanceMethod ⟨"ReturnRowsModel","quarantine","(IZ)V"⟩ : Cond) ∈ lw_tbl := List.mem_of_getElem? (i := 617) rfl
set_option maxRecDepth 8000 in
theorem k_618 : (.selects "ReturnRowsModel" ⟨"ReturnRowsModel","quarantine","(IZ)V"⟩ ⟨"ReturnRowsModel","quarantine","(IZ)V"⟩ : Cond) ∈ lw_tbl := List.mem_of_getElem? (i := 618) rfl
set_option maxRecDepth 8000 in
theorem k_619 : (.code ⟨"ReturnRowsModel","quarantine","(IZ)V"⟩ prog_5_method_13_code 3 (Option.none : Option FieldType) : Cond) ∈ lw_tbl := List.mem_of_getElem? (i := 619) rfl
set_option maxRecDepth 8000 in
theorem k_620 : (.methodLink "ReturnRowsModel" 96 ⟨"ReturnRowsModel","isSeen","(I)Z"⟩ : Cond) ∈ lw_tbl := List.mem_of_getElem? (i := 620) rfl
set_option maxRecDepth 8000 in
theorem k_621 : (.privateMethod ⟨"ReturnRowsModel","isSeen","(I)Z"⟩ : Cond) ∈ lw_tbl := List.mem_of_getElem? (i := 621) rfl
set_option maxRecDepth 8000 in
theorem k_622 : (.instanceMethod ⟨"ReturnRowsModel","isSeen","(I)Z"⟩ : Cond) ∈ lw_tbl := List.mem_of_getElem? (i := 622) rfl
set_option maxRecDepth 8000 in
theorem k_623 : (.code ⟨"ReturnRowsModel","isSeen","(I)Z"⟩ prog_5_method_12_code 2 (Option.some FieldType.boolean) : Cond) ∈ lw_tbl := List.mem_of_getElem? (i := 623) rfl
set_option maxRecDepth 8000 in
theorem k_624 : (.methodLink "ReturnRowsLaw" 116 ⟨"ReturnRowsModel","check","(IIZ)I"⟩ : Cond) ∈ lw_tbl := List.mem_of_getElem? (i := 624) rfl
set_option maxRecDepth 8000 in
theorem k_625 : (.instanceMethod ⟨"ReturnRowsModel","check","(IIZ)I"⟩ : Cond) ∈ lw_tbl := List.mem_of_getElem? (i := 625) rfl
set_option maxRecDepth 8000 in
theorem k_626 : (.selects "ReturnRowsModel" ⟨"ReturnRowsModel","check","(IIZ)I"⟩ ⟨"ReturnRowsModel","check","(IIZ)I"⟩ : Cond) ∈ lw_tbl := List.mem_of_getElem? (i := 626) rfl
set_option maxRecDepth 8000 in
theorem k_627 : (.code ⟨"ReturnRowsModel","check","(IIZ)I"⟩ prog_5_method_14_code 6 (Option.some FieldType.int) : Cond) ∈ lw_tbl := List.mem_of_getElem? (i := 627) rfl
set_option maxRecDepth 8000 in
theorem k_628 : (.methodLink "ReturnRowsLaw" 119 ⟨"ReturnRowsModel","grade","(II)I"⟩ : Cond) ∈ lw_tbl := List.mem_of_getElem? (i := 628) rfl
set_option maxRecDepth 8000 in
theorem k_629 : (.instanceMethod ⟨"ReturnRowsModel","grade","(II)I"⟩ : Cond) ∈ lw_tbl := List.mem_of_getElem? (i := 629) rfl
set_option maxRecDepth 8000 in
theorem k_630 : (.selects "ReturnRowsModel" ⟨"ReturnRowsModel","grade","(II)I"⟩ ⟨"ReturnRowsModel","grade","(II)I"⟩ : Cond) ∈ lw_tbl := List.mem_of_getElem? (i := 630) rfl
set_option maxRecDepth 8000 in
theorem k_631 : (.code ⟨"ReturnRowsModel","grade","(II)I"⟩ prog_5_method_16_code 3 (Option.some FieldType.int) : Cond) ∈ lw_tbl := List.mem_of_getElem? (i := 631) rfl
set_option maxRecDepth 8000 in
theorem k_632 : (.methodLink "ReturnRowsModel" 99 ⟨"ReturnRowsModel","regrade","(II)V"⟩ : Cond) ∈ lw_tbl := List.mem_of_getElem? (i := 632) rfl
set_option maxRecDepth 8000 in
theorem k_633 : (.privateMethod ⟨"ReturnRowsModel","regrade","(II)V"⟩ : Cond) ∈ lw_tbl := List.mem_of_getElem? (i := 633) rfl
set_option maxRecDepth 8000 in
theorem k_634 : (.instanceMethod ⟨"ReturnRowsModel","regrade","(II)V"⟩ : Cond) ∈ lw_tbl := List.mem_of_getElem? (i := 634) rfl
set_option maxRecDepth 8000 in
theorem k_635 : (.code ⟨"ReturnRowsModel","regrade","(II)V"⟩ prog_5_method_15_code 3 (Option.none : Option FieldType) : Cond) ∈ lw_tbl := List.mem_of_getElem? (i := 635) rfl
set_option maxRecDepth 8000 in
theorem k_636 : (.methodLink "ReturnRowsLaw" 122 ⟨"ReturnRowsModel","repair","(II)V"⟩ : Cond) ∈ lw_tbl := List.mem_of_getElem? (i := 636) rfl
set_option maxRecDepth 8000 in
theorem k_637 : (.instanceMethod ⟨"ReturnRowsModel","repair","(II)V"⟩ : Cond) ∈ lw_tbl := List.mem_of_getElem? (i := 637) rfl
set_option maxRecDepth 8000 in
theorem k_638 : (.selects "ReturnRowsModel" ⟨"ReturnRowsModel","repair","(II)V"⟩ ⟨"ReturnRowsModel","repair","(II)V"⟩ : Cond) ∈ lw_tbl := List.mem_of_getElem? (i := 638) rfl
set_option maxRecDepth 8000 in
theorem k_639 : (.code ⟨"ReturnRowsModel","repair","(II)V"⟩ prog_5_method_17_code 3 (Option.none : Option FieldType) : Cond) ∈ lw_tbl := List.mem_of_getElem? (i := 639) rfl
set_option maxRecDepth 8000 in
theorem k_640 : (.methodLink "ReturnRowsLaw" 126 ⟨"ReturnRowsModel","step","(IZ)I"⟩ : Cond) ∈ lw_tbl := List.mem_of_getElem? (i := 640) rfl
set_option maxRecDepth 8000 in
theorem k_641 : (.instanceMethod ⟨"ReturnRowsModel","step","(IZ)I"⟩ : Cond) ∈ lw_tbl := List.mem_of_getElem? (i := 641) rfl
set_option maxRecDepth 8000 in
theorem k_642 : (.selects "ReturnRowsModel" ⟨"ReturnRowsModel","step","(IZ)I"⟩ ⟨"ReturnRowsModel","step","(IZ)I"⟩ : Cond) ∈ lw_tbl := List.mem_of_getElem? (i := 642) rfl
set_option maxRecDepth 8000 in
theorem k_643 : (.code ⟨"ReturnRowsModel","step","(IZ)I"⟩ prog_5_method_18_code 3 (Option.some FieldType.int) : Cond) ∈ lw_tbl := List.mem_of_getElem? (i := 643) rfl
set_option maxRecDepth 8000 in
theorem k_644 : (.methodLink "ReturnRowsLaw" 129 ⟨"ReturnRowsModel","scrap","(II)Z"⟩ : Cond) ∈ lw_tbl := List.mem_of_getElem? (i := 644) rfl
set_option maxRecDepth 8000 in
theorem k_645 : (.instanceMethod ⟨"ReturnRowsModel","scrap","(II)Z"⟩ : Cond) ∈ lw_tbl := List.mem_of_getElem? (i := 645) rfl
set_option maxRecDepth 8000 in
theorem k_646 : (.selects "ReturnRowsModel" ⟨"ReturnRowsModel","scrap","(II)Z"⟩ ⟨"ReturnRowsModel","scrap","(II)Z"⟩ : Cond) ∈ lw_tbl := List.mem_of_getElem? (i := 646) rfl
set_option maxRecDepth 8000 in
theorem k_647 : (.code ⟨"ReturnRowsModel","scrap","(II)Z"⟩ prog_5_method_19_code 3 (Option.some FieldType.boolean) : Cond) ∈ lw_tbl := List.mem_of_getElem? (i := 647) rfl
set_option maxRecDepth 8000 in
theorem k_648 : (.methodLink "ReturnRowsLaw" 133 ⟨"ReturnRowsModel","back","(I)I"⟩ : Cond) ∈ lw_tbl := List.mem_of_getElem? (i := 648) rfl
set_option maxRecDepth 8000 in
theorem k_649 : (.instanceMethod ⟨"ReturnRowsModel","back","(I)I"⟩ : Cond) ∈ lw_tbl := List.mem_of_getElem? (i := 649) rfl
set_option maxRecDepth 8000 in
theorem k_650 : (.selects "ReturnRowsModel" ⟨"ReturnRowsModel","back","(I)I"⟩ ⟨"ReturnRowsModel","back","(I)I"⟩ : Cond) ∈ lw_tbl := List.mem_of_getElem? (i := 650) rfl
set_option maxRecDepth 8000 in
theorem k_651 : (.code ⟨"ReturnRowsModel","back","(I)I"⟩ prog_5_method_21_code 2 (Option.some FieldType.int) : Cond) ∈ lw_tbl := List.mem_of_getElem? (i := 651) rfl
set_option maxRecDepth 8000 in
theorem k_652 : (.methodLink "ReturnRowsModel" 103 ⟨"ReturnRowsModel","backs","(I)I"⟩ : Cond) ∈ lw_tbl := List.mem_of_getElem? (i := 652) rfl
set_option maxRecDepth 8000 in
theorem k_653 : (.privateMethod ⟨"ReturnRowsModel","backs","(I)I"⟩ : Cond) ∈ lw_tbl := List.mem_of_getElem? (i := 653) rfl
set_option maxRecDepth 8000 in
theorem k_654 : (.instanceMethod ⟨"ReturnRowsModel","backs","(I)I"⟩ : Cond) ∈ lw_tbl := List.mem_of_getElem? (i := 654) rfl
set_option maxRecDepth 8000 in
theorem k_655 : (.code ⟨"ReturnRowsModel","backs","(I)I"⟩ prog_5_method_20_code 4 (Option.some FieldType.int) : Cond) ∈ lw_tbl := List.mem_of_getElem? (i := 655) rfl
set_option maxRecDepth 8000 in
theorem k_656 : (.methodLink "ReturnRowsLaw" 136 ⟨"ReturnRowsModel","missing","(II)V"⟩ : Cond) ∈ lw_tbl := List.mem_of_getElem? (i := 656) rfl
set_option maxRecDepth 8000 in
theorem k_657 : (.instanceMethod ⟨"ReturnRowsModel","missing","(II)V"⟩ : Cond) ∈ lw_tbl := List.mem_of_getElem? (i := 657) rfl
set_option maxRecDepth 8000 in
theorem k_658 : (.selects "ReturnRowsModel" ⟨"ReturnRowsModel","missing","(II)V"⟩ ⟨"ReturnRowsModel","missing","(II)V"⟩ : Cond) ∈ lw_tbl := List.mem_of_getElem? (i := 658) rfl
set_option maxRecDepth 8000 in
theorem k_659 : (.code ⟨"ReturnRowsModel","missing","(II)V"⟩ prog_5_method_22_code 3 (Option.none : Option FieldType) : Cond) ∈ lw_tbl := List.mem_of_getElem? (i := 659) rfl
set_option maxRecDepth 8000 in
theorem k_660 : (.methodLink "ReturnRowsLaw" 142 ⟨"ReturnRowsModel","due","(I)I"⟩ : Cond) ∈ lw_tbl := List.mem_of_getElem? (i := 660) rfl
set_option maxRecDepth 8000 in
theorem k_661 : (.instanceMethod ⟨"ReturnRowsModel","due","(I)I"⟩ : Cond) ∈ lw_tbl := List.mem_of_getElem? (i := 661) rfl
set_option maxRecDepth 8000 in
theorem k_662 : (.selects "ReturnRowsModel" ⟨"ReturnRowsModel","due","(I)I"⟩ ⟨"ReturnRowsModel","due","(I)I"⟩ : Cond) ∈ lw_tbl := List.mem_of_getElem? (i := 662) rfl
set_option maxRecDepth 8000 in
theorem k_663 : (.code ⟨"ReturnRowsModel","due","(I)I"⟩ prog_5_method_25_code 2 (Option.some FieldType.int) : Cond) ∈ lw_tbl := List.mem_of_getElem? (i := 663) rfl
set_option maxRecDepth 8000 in
theorem k_664 : (.methodLink "ReturnRowsModel" 110 ⟨"ReturnRowsModel","dueOf","(I)I"⟩ : Cond) ∈ lw_tbl := List.mem_of_getElem? (i := 664) rfl
set_option maxRecDepth 8000 in
theorem k_665 : (.privateMethod ⟨"ReturnRowsModel","dueOf","(I)I"⟩ : Cond) ∈ lw_tbl := List.mem_of_getElem? (i := 665) rfl
set_option maxRecDepth 8000 in
theorem k_666 : (.instanceMethod ⟨"ReturnRowsModel","dueOf","(I)I"⟩ : Cond) ∈ lw_tbl := List.mem_of_getElem? (i := 666) rfl
set_option maxRecDepth 8000 in
theorem k_667 : (.code ⟨"ReturnRowsModel","dueOf","(I)I"⟩ prog_5_method_24_code 4 (Option.some FieldType.int) : Cond) ∈ lw_tbl := List.mem_of_getElem? (i := 667) rfl
set_option maxRecDepth 8000 in
theorem k_668 : (.methodLink "ReturnRowsModel" 107 ⟨"ReturnRowsModel","percent","(I)I"⟩ : Cond) ∈ lw_tbl := List.mem_of_getElem? (i := 668) rfl
set_option maxRecDepth 8000 in
theorem k_669 : (.static ⟨"ReturnRowsModel","percent","(I)I"⟩ : Cond) ∈ lw_tbl := List.mem_of_getElem? (i := 669) rfl
set_option maxRecDepth 8000 in
theorem k_670 : (.code ⟨"ReturnRowsModel","percent","(I)I"⟩ prog_5_method_23_code 1 (Option.some FieldType.int) : Cond) ∈ lw_tbl := List.mem_of_getElem? (i := 670) rfl
set_option maxRecDepth 8000 in
theorem k_671 : (.methodLink "ReturnRowsLaw" 139 ⟨"ReturnRowsModel","refund","(II)I"⟩ : Cond) ∈ lw_tbl := List.mem_of_getElem? (i := 671) rfl
set_option maxRecDepth 8000 in
theorem k_672 : (.instanceMethod ⟨"ReturnRowsModel","refund","(II)I"⟩ : Cond) ∈ lw_tbl := List.mem_of_getElem? (i := 672) rfl
set_option maxRecDepth 8000 in
theorem k_673 : (.selects "ReturnRowsModel" ⟨"ReturnRowsModel","refund","(II)I"⟩ ⟨"ReturnRowsModel","refund","(II)I"⟩ : Cond) ∈ lw_tbl := List.mem_of_getElem? (i := 673) rfl
set_option maxRecDepth 8000 in
theorem k_674 : (.code ⟨"ReturnRowsModel","refund","(II)I"⟩ prog_5_method_26_code 3 (Option.some FieldType.int) : Cond) ∈ lw_tbl := List.mem_of_getElem? (i := 674) rfl
set_option maxRecDepth 8000 in
theorem k_675 : (.methodLink "ReturnRowsLaw" 145 ⟨"ReturnRowsModel","reason","(II)I"⟩ : Cond) ∈ lw_tbl := List.mem_of_getElem? (i := 675) rfl
set_option maxRecDepth 8000 in
theorem k_676 : (.instanceMethod ⟨"ReturnRowsModel","reason","(II)I"⟩ : Cond) ∈ lw_tbl := List.mem_of_getElem? (i := 676) rfl
set_option maxRecDepth 8000 in
theorem k_677 : (.selects "ReturnRowsModel" ⟨"ReturnRowsModel","reason","(II)I"⟩ ⟨"ReturnRowsModel","reason","(II)I"⟩ : Cond) ∈ lw_tbl := List.mem_of_getElem? (i := 677) rfl
set_option maxRecDepth 8000 in
theorem k_678 : (.code ⟨"ReturnRowsModel","reason","(II)I"⟩ prog_5_method_27_code 5 (Option.some FieldType.int) : Cond) ∈ lw_tbl := List.mem_of_getElem? (i := 678) rfl
set_option maxRecDepth 8000 in
theorem k_679 : (.methodLink "ReturnRowsLaw" 148 ⟨"ReturnRowsModel","customer","(II)I"⟩ : Cond) ∈ lw_tbl := List.mem_of_getElem? (i := 679) rfl
set_option maxRecDepth 8000 in
theorem k_680 : (.instanceMethod ⟨"ReturnRowsModel","customer","(II)I"⟩ : Cond) ∈ lw_tbl := List.mem_of_getElem? (i := 680) rfl
set_option maxRecDepth 8000 in
theorem k_681 : (.selects "ReturnRowsModel" ⟨"ReturnRowsModel","customer","(II)I"⟩ ⟨"ReturnRowsModel","customer","(II)I"⟩ : Cond) ∈ lw_tbl := List.mem_of_getElem? (i := 681) rfl
set_option maxRecDepth 8000 in
theorem k_682 : (.code ⟨"ReturnRowsModel","customer","(II)I"⟩ prog_5_method_29_code 5 (Option.some FieldType.int) : Cond) ∈ lw_tbl := List.mem_of_getElem? (i := 682) rfl
set_option maxRecDepth 8000 in
theorem k_683 : (.methodLink "ReturnRowsModel" 113 ⟨"ReturnRowsModel","returnsOf","(IZ)I"⟩ : Cond) ∈ lw_tbl := List.mem_of_getElem? (i := 683) rfl
set_option maxRecDepth 8000 in
theorem k_684 : (.privateMethod ⟨"ReturnRowsModel","returnsOf","(IZ)I"⟩ : Cond) ∈ lw_tbl := List.mem_of_getElem? (i := 684) rfl
set_option maxRecDepth 8000 in
theorem k_685 : (.instanceMethod ⟨"ReturnRowsModel","returnsOf","(IZ)I"⟩ : Cond) ∈ lw_tbl := List.mem_of_getElem? (i := 685) rfl
set_option maxRecDepth 8000 in
theorem k_686 : (.code ⟨"ReturnRowsModel","returnsOf","(IZ)I"⟩ prog_5_method_28_code 5 (Option.some FieldType.int) : Cond) ∈ lw_tbl := List.mem_of_getElem? (i := 686) rfl
set_option maxRecDepth 8000 in
theorem k_687 : (.methodLink "ReturnRowsLaw" 151 ⟨"ReturnRowsModel","told","(II)I"⟩ : Cond) ∈ lw_tbl := List.mem_of_getElem? (i := 687) rfl
set_option maxRecDepth 8000 in
theorem k_688 : (.instanceMethod ⟨"ReturnRowsModel","told","(II)I"⟩ : Cond) ∈ lw_tbl := List.mem_of_getElem? (i := 688) rfl
set_option maxRecDepth 8000 in
theorem k_689 : (.selects "ReturnRowsModel" ⟨"ReturnRowsModel","told","(II)I"⟩ ⟨"ReturnRowsModel","told","(II)I"⟩ : Cond) ∈ lw_tbl := List.mem_of_getElem? (i := 689) rfl
set_option maxRecDepth 8000 in
theorem k_690 : (.code ⟨"ReturnRowsModel","told","(II)I"⟩ prog_5_method_30_code 3 (Option.some FieldType.int) : Cond) ∈ lw_tbl := List.mem_of_getElem? (i := 690) rfl
set_option maxRecDepth 8000 in
theorem k_691 : (.methodLink "ReturnRowsLaw" 155 ⟨"ReturnRowsModel","count","(I)I"⟩ : Cond) ∈ lw_tbl := List.mem_of_getElem? (i := 691) rfl
set_option maxRecDepth 8000 in
theorem k_692 : (.instanceMethod ⟨"ReturnRowsModel","count","(I)I"⟩ : Cond) ∈ lw_tbl := List.mem_of_getElem? (i := 692) rfl
set_option maxRecDepth 8000 in
theorem k_693 : (.selects "ReturnRowsModel" ⟨"ReturnRowsModel","count","(I)I"⟩ ⟨"ReturnRowsModel","count","(I)I"⟩ : Cond) ∈ lw_tbl := List.mem_of_getElem? (i := 693) rfl
set_option maxRecDepth 8000 in
theorem k_694 : (.code ⟨"ReturnRowsModel","count","(I)I"⟩ prog_5_method_31_code 4 (Option.some FieldType.int) : Cond) ∈ lw_tbl := List.mem_of_getElem? (i := 694) rfl
set_option maxRecDepth 8000 in
theorem k_695 : (.arrayClass FieldType.long : Cond) ∈ lw_tbl := List.mem_of_getElem? (i := 695) rfl
set_option maxRecDepth 8000 in
theorem k_696 : (.sameMethod "java/lang/Throwable" "java/lang/Throwable" "fillInStackTrace" "(I)Ljava/lang/Throwable;" : Cond) ∈ lw_tbl := List.mem_of_getElem? (i := 696) rfl
end
section
/-! ===== each instruction, decoded ===== -/
theorem d_RR_arrive_0 : decode b_RR_arrive 0 = .ok (.aload_n 0, 1) := by decide +kernel
theorem d_RR_arrive_1 : decode b_RR_arrive 1 = .ok (.iload_n 1, 1) := by decide +kernel
theorem d_RR_arrive_2 : decode b_RR_arrive 2 = .ok (.invokevirtual 64, 3) := by decide +kernel
theorem d_RR_arrive_5 : decode b_RR_arrive 5 = .ok (.astore_n 3, 1) := by decide +kernel
theorem d_RR_arrive_6 : decode b_RR_arrive 6 = .ok (.iload_n 2, 1) := by decide +kernel
theorem d_RR_arrive_7 : decode b_RR_arrive 7 = .ok (.iconst (-1), 1) := by decide +kernel
theorem d_RR_arrive_8 : decode b_RR_arrive 8 = .ok (.bipush 9, 2) := by decide +kernel
theorem d_RR_arrive_10 : decode b_RR_arrive 10 = .ok (.invokestatic 25, 3) := by decide +kernel
theorem d_RR_arrive_13 : decode b_RR_arrive 13 = .ok (.aload_n 3, 1) := by decide +kernel
theorem d_RR_arrive_14 : decode b_RR_arrive 14 = .ok (.getfield 68, 3) := by decide +kernel
theorem d_RR_arrive_17 : decode b_RR_arrive 17 = .ok (.ifCond .eq 21, 3) := by decide +kernel
theorem d_RR_arrive_20 : decode b_RR_arrive 20 = .ok (.aload_n 3, 1) := by decide +kernel
theorem d_RR_arrive_21 : decode b_RR_arrive 21 = .ok (.getfield 68, 3) := by decide +kernel
theorem d_RR_arrive_24 : decode b_RR_arrive 24 = .ok (.iconst 1, 1) := by decide +kernel
theorem d_RR_arrive_25 : decode b_RR_arrive 25 = .ok (.if_icmp .eq 13, 3) := by decide +kernel
theorem d_RR_arrive_28 : decode b_RR_arrive 28 = .ok (.new 51, 3) := by decide +kernel
theorem d_RR_arrive_31 : decode b_RR_arrive 31 = .ok (.dup, 1) := by decide +kernel
theorem d_RR_arrive_32 : decode b_RR_arrive 32 = .ok (.ldc 71, 2) := by decide +kernel
theorem d_RR_arrive_34 : decode b_RR_arrive 34 = .ok (.invokespecial 55, 3) := by decide +kernel
theorem d_RR_arrive_37 : decode b_RR_arrive 37 = .ok (.athrow, 1) := by decide +kernel
theorem d_RR_arrive_38 : decode b_RR_arrive 38 = .ok (.aload_n 3, 1) := by decide +kernel
theorem d_RR_arrive_39 : decode b_RR_arrive 39 = .ok (.getfield 68, 3) := by decide +kernel
theorem d_RR_arrive_42 : decode b_RR_arrive 42 = .ok (.iconst 1, 1) := by decide +kernel
theorem d_RR_arrive_43 : decode b_RR_arrive 43 = .ok (.if_icmp .ne 7, 3) := by decide +kernel
theorem d_RR_arrive_46 : decode b_RR_arrive 46 = .ok (.iconst 1, 1) := by decide +kernel
theorem d_RR_arrive_47 : decode b_RR_arrive 47 = .ok (.goto 4, 3) := by decide +kernel
theorem d_RR_arrive_50 : decode b_RR_arrive 50 = .ok (.iconst 0, 1) := by decide +kernel
theorem d_RR_arrive_51 : decode b_RR_arrive 51 = .ok (.istore 4, 2) := by decide +kernel
theorem d_RR_arrive_53 : decode b_RR_arrive 53 = .ok (.iload 4, 2) := by decide +kernel
theorem d_RR_arrive_55 : decode b_RR_arrive 55 = .ok (.iload_n 2, 1) := by decide +kernel
theorem d_RR_arrive_56 : decode b_RR_arrive 56 = .ok (.iconst (-1), 1) := by decide +kernel
theorem d_RR_arrive_57 : decode b_RR_arrive 57 = .ok (.if_icmp .eq 7, 3) := by decide +kernel
theorem d_RR_arrive_60 : decode b_RR_arrive 60 = .ok (.iconst 1, 1) := by decide +kernel
theorem d_RR_arrive_61 : decode b_RR_arrive 61 = .ok (.goto 4, 3) := by decide +kernel
theorem d_RR_arrive_64 : decode b_RR_arrive 64 = .ok (.iconst 0, 1) := by decide +kernel
theorem d_RR_arrive_65 : decode b_RR_arrive 65 = .ok (.if_icmp .eq 13, 3) := by decide +kernel
theorem d_RR_arrive_68 : decode b_RR_arrive 68 = .ok (.new 51, 3) := by decide +kernel
theorem d_RR_arrive_71 : decode b_RR_arrive 71 = .ok (.dup, 1) := by decide +kernel
theorem d_RR_arrive_72 : decode b_RR_arrive 72 = .ok (.ldc 73, 2) := by decide +kernel
theorem d_RR_arrive_74 : decode b_RR_arrive 74 = .ok (.invokespecial 55, 3) := by decide +kernel
theorem d_RR_arrive_77 : decode b_RR_arrive 77 = .ok (.athrow, 1) := by decide +kernel
theorem d_RR_arrive_78 : decode b_RR_arrive 78 = .ok (.aload_n 3, 1) := by decide +kernel
theorem d_RR_arrive_79 : decode b_RR_arrive 79 = .ok (.iload_n 2, 1) := by decide +kernel
theorem d_RR_arrive_80 : decode b_RR_arrive 80 = .ok (.putfield 75, 3) := by decide +kernel
theorem d_RR_arrive_83 : decode b_RR_arrive 83 = .ok (.aload_n 3, 1) := by decide +kernel
theorem d_RR_arrive_84 : decode b_RR_arrive 84 = .ok (.iconst 2, 1) := by decide +kernel
theorem d_RR_arrive_85 : decode b_RR_arrive 85 = .ok (.putfield 68, 3) := by decide +kernel
theorem d_RR_arrive_88 : decode b_RR_arrive 88 = .ok (.return_, 1) := by decide +kernel
theorem d_RR_back_0 : decode b_RR_back 0 = .ok (.aload_n 0, 1) := by decide +kernel
theorem d_RR_back_1 : decode b_RR_back 1 = .ok (.iload_n 1, 1) := by decide +kernel
theorem d_RR_back_2 : decode b_RR_back 2 = .ok (.invokevirtual 64, 3) := by decide +kernel
theorem d_RR_back_5 : decode b_RR_back 5 = .ok (.astore_n 2, 1) := by decide +kernel
theorem d_RR_back_6 : decode b_RR_back 6 = .ok (.aload_n 2, 1) := by decide +kernel
theorem d_RR_back_7 : decode b_RR_back 7 = .ok (.invokestatic 121, 3) := by decide +kernel
theorem d_RR_back_10 : decode b_RR_back 10 = .ok (.aload_n 2, 1) := by decide +kernel
theorem d_RR_back_11 : decode b_RR_back 11 = .ok (.invokestatic 109, 3) := by decide +kernel
theorem d_RR_back_14 : decode b_RR_back 14 = .ok (.aload_n 2, 1) := by decide +kernel
theorem d_RR_back_15 : decode b_RR_back 15 = .ok (.getfield 89, 3) := by decide +kernel
theorem d_RR_back_18 : decode b_RR_back 18 = .ok (.ifCond .eq 13, 3) := by decide +kernel
theorem d_RR_back_21 : decode b_RR_back 21 = .ok (.new 51, 3) := by decide +kernel
theorem d_RR_back_24 : decode b_RR_back 24 = .ok (.dup, 1) := by decide +kernel
theorem d_RR_back_25 : decode b_RR_back 25 = .ok (.ldc 143, 2) := by decide +kernel
theorem d_RR_back_27 : decode b_RR_back 27 = .ok (.invokespecial 55, 3) := by decide +kernel
theorem d_RR_back_30 : decode b_RR_back 30 = .ok (.athrow, 1) := by decide +kernel
theorem d_RR_back_31 : decode b_RR_back 31 = .ok (.aload_n 2, 1) := by decide +kernel
theorem d_RR_back_32 : decode b_RR_back 32 = .ok (.getfield 124, 3) := by decide +kernel
theorem d_RR_back_35 : decode b_RR_back 35 = .ok (.iconst 2, 1) := by decide +kernel
theorem d_RR_back_36 : decode b_RR_back 36 = .ok (.if_icmp .le 13, 3) := by decide +kernel
theorem d_RR_back_39 : decode b_RR_back 39 = .ok (.new 51, 3) := by decide +kernel
theorem d_RR_back_42 : decode b_RR_back 42 = .ok (.dup, 1) := by decide +kernel
theorem d_RR_back_43 : decode b_RR_back 43 = .ok (.ldc 145, 2) := by decide +kernel
theorem d_RR_back_45 : decode b_RR_back 45 = .ok (.invokespecial 55, 3) := by decide +kernel
theorem d_RR_back_48 : decode b_RR_back 48 = .ok (.athrow, 1) := by decide +kernel
theorem d_RR_back_49 : decode b_RR_back 49 = .ok (.aload_n 0, 1) := by decide +kernel
theorem d_RR_back_50 : decode b_RR_back 50 = .ok (.getfield 21, 3) := by decide +kernel
theorem d_RR_back_53 : decode b_RR_back 53 = .ok (.aload_n 2, 1) := by decide +kernel
theorem d_RR_back_54 : decode b_RR_back 54 = .ok (.getfield 85, 3) := by decide +kernel
theorem d_RR_back_57 : decode b_RR_back 57 = .ok (.getfield 147, 3) := by decide +kernel
theorem d_RR_back_60 : decode b_RR_back 60 = .ok (.if_icmp .le 13, 3) := by decide +kernel
theorem d_RR_back_63 : decode b_RR_back 63 = .ok (.new 51, 3) := by decide +kernel
theorem d_RR_back_66 : decode b_RR_back 66 = .ok (.dup, 1) := by decide +kernel
theorem d_RR_back_67 : decode b_RR_back 67 = .ok (.ldc 150, 2) := by decide +kernel
theorem d_RR_back_69 : decode b_RR_back 69 = .ok (.invokespecial 55, 3) := by decide +kernel
theorem d_RR_back_72 : decode b_RR_back 72 = .ok (.athrow, 1) := by decide +kernel
theorem d_RR_back_73 : decode b_RR_back 73 = .ok (.aload_n 2, 1) := by decide +kernel
theorem d_RR_back_74 : decode b_RR_back 74 = .ok (.bipush 6, 2) := by decide +kernel
theorem d_RR_back_76 : decode b_RR_back 76 = .ok (.putfield 68, 3) := by decide +kernel
theorem d_RR_back_79 : decode b_RR_back 79 = .ok (.aload_n 0, 1) := by decide +kernel
theorem d_RR_back_80 : decode b_RR_back 80 = .ok (.aload_n 2, 1) := by decide +kernel
theorem d_RR_back_81 : decode b_RR_back 81 = .ok (.getfield 124, 3) := by decide +kernel
theorem d_RR_back_84 : decode b_RR_back 84 = .ok (.invokevirtual 152, 3) := by decide +kernel
theorem d_RR_back_87 : decode b_RR_back 87 = .ok (.ireturn, 1) := by decide +kernel
theorem d_RR_backOfClass_0 : decode b_RR_backOfClass 0 = .ok (.iconst 0, 1) := by decide +kernel
theorem d_RR_backOfClass_1 : decode b_RR_backOfClass 1 = .ok (.istore_n 2, 1) := by decide +kernel
theorem d_RR_backOfClass_2 : decode b_RR_backOfClass 2 = .ok (.aload_n 0, 1) := by decide +kernel
theorem d_RR_backOfClass_3 : decode b_RR_backOfClass 3 = .ok (.getfield 17, 3) := by decide +kernel
theorem d_RR_backOfClass_6 : decode b_RR_backOfClass 6 = .ok (.astore_n 3, 1) := by decide +kernel
theorem d_RR_backOfClass_7 : decode b_RR_backOfClass 7 = .ok (.aload_n 3, 1) := by decide +kernel
theorem d_RR_backOfClass_8 : decode b_RR_backOfClass 8 = .ok (.arraylength, 1) := by decide +kernel
theorem d_RR_backOfClass_9 : decode b_RR_backOfClass 9 = .ok (.istore 4, 2) := by decide +kernel
theorem d_RR_backOfClass_11 : decode b_RR_backOfClass 11 = .ok (.iconst 0, 1) := by decide +kernel
theorem d_RR_backOfClass_12 : decode b_RR_backOfClass 12 = .ok (.istore 5, 2) := by decide +kernel
theorem d_RR_backOfClass_14 : decode b_RR_backOfClass 14 = .ok (.iload 5, 2) := by decide +kernel
theorem d_RR_backOfClass_16 : decode b_RR_backOfClass 16 = .ok (.iload 4, 2) := by decide +kernel
theorem d_RR_backOfClass_18 : decode b_RR_backOfClass 18 = .ok (.if_icmp .ge 42, 3) := by decide +kernel
theorem d_RR_backOfClass_21 : decode b_RR_backOfClass 21 = .ok (.aload_n 3, 1) := by decide +kernel
theorem d_RR_backOfClass_22 : decode b_RR_backOfClass 22 = .ok (.iload 5, 2) := by decide +kernel
theorem d_RR_backOfClass_24 : decode b_RR_backOfClass 24 = .ok (.aaload, 1) := by decide +kernel
theorem d_RR_backOfClass_25 : decode b_RR_backOfClass 25 = .ok (.astore 6, 2) := by decide +kernel
theorem d_RR_backOfClass_27 : decode b_RR_backOfClass 27 = .ok (.aload 6, 2) := by decide +kernel
theorem d_RR_backOfClass_29 : decode b_RR_backOfClass 29 = .ok (.ifnull 25, 3) := by decide +kernel
theorem d_RR_backOfClass_32 : decode b_RR_backOfClass 32 = .ok (.aload 6, 2) := by decide +kernel
theorem d_RR_backOfClass_34 : decode b_RR_backOfClass 34 = .ok (.getfield 68, 3) := by decide +kernel
theorem d_RR_backOfClass_37 : decode b_RR_backOfClass 37 = .ok (.bipush 6, 2) := by decide +kernel
theorem d_RR_backOfClass_39 : decode b_RR_backOfClass 39 = .ok (.if_icmp .ne 15, 3) := by decide +kernel
theorem d_RR_backOfClass_42 : decode b_RR_backOfClass 42 = .ok (.aload 6, 2) := by decide +kernel
theorem d_RR_backOfClass_44 : decode b_RR_backOfClass 44 = .ok (.getfield 124, 3) := by decide +kernel
theorem d_RR_backOfClass_47 : decode b_RR_backOfClass 47 = .ok (.iload_n 1, 1) := by decide +kernel
theorem d_RR_backOfClass_48 : decode b_RR_backOfClass 48 = .ok (.if_icmp .ne 6, 3) := by decide +kernel
theorem d_RR_backOfClass_51 : decode b_RR_backOfClass 51 = .ok (.iinc 2 1, 3) := by decide +kernel
theorem d_RR_backOfClass_54 : decode b_RR_backOfClass 54 = .ok (.iinc 5 1, 3) := by decide +kernel
theorem d_RR_backOfClass_57 : decode b_RR_backOfClass 57 = .ok (.goto (-43), 3) := by decide +kernel
theorem d_RR_backOfClass_60 : decode b_RR_backOfClass 60 = .ok (.iload_n 2, 1) := by decide +kernel
theorem d_RR_backOfClass_61 : decode b_RR_backOfClass 61 = .ok (.ireturn, 1) := by decide +kernel
theorem d_RR_check_0 : decode b_RR_check 0 = .ok (.aload_n 0, 1) := by decide +kernel
theorem d_RR_check_1 : decode b_RR_check 1 = .ok (.iload_n 1, 1) := by decide +kernel
theorem d_RR_check_2 : decode b_RR_check 2 = .ok (.invokevirtual 64, 3) := by decide +kernel
theorem d_RR_check_5 : decode b_RR_check 5 = .ok (.astore 4, 2) := by decide +kernel
theorem d_RR_check_7 : decode b_RR_check 7 = .ok (.iload_n 2, 1) := by decide +kernel
theorem d_RR_check_8 : decode b_RR_check 8 = .ok (.iconst 0, 1) := by decide +kernel
theorem d_RR_check_9 : decode b_RR_check 9 = .ok (.iconst 4, 1) := by decide +kernel
theorem d_RR_check_10 : decode b_RR_check 10 = .ok (.invokestatic 25, 3) := by decide +kernel
theorem d_RR_check_13 : decode b_RR_check 13 = .ok (.aload 4, 2) := by decide +kernel
theorem d_RR_check_15 : decode b_RR_check 15 = .ok (.invokestatic 78, 3) := by decide +kernel
theorem d_RR_check_18 : decode b_RR_check 18 = .ok (.iconst 1, 1) := by decide +kernel
theorem d_RR_check_19 : decode b_RR_check 19 = .ok (.iload_n 2, 1) := by decide +kernel
theorem d_RR_check_20 : decode b_RR_check 20 = .ok (.ishl, 1) := by decide +kernel
theorem d_RR_check_21 : decode b_RR_check 21 = .ok (.istore 5, 2) := by decide +kernel
theorem d_RR_check_23 : decode b_RR_check 23 = .ok (.aload 4, 2) := by decide +kernel
theorem d_RR_check_25 : decode b_RR_check 25 = .ok (.iload_n 3, 1) := by decide +kernel
theorem d_RR_check_26 : decode b_RR_check 26 = .ok (.ifCond .eq 16, 3) := by decide +kernel
theorem d_RR_check_29 : decode b_RR_check 29 = .ok (.aload 4, 2) := by decide +kernel
theorem d_RR_check_31 : decode b_RR_check 31 = .ok (.getfield 100, 3) := by decide +kernel
theorem d_RR_check_34 : decode b_RR_check 34 = .ok (.iload 5, 2) := by decide +kernel
theorem d_RR_check_36 : decode b_RR_check 36 = .ok (.iconst (-1), 1) := by decide +kernel
theorem d_RR_check_37 : decode b_RR_check 37 = .ok (.ixor, 1) := by decide +kernel
theorem d_RR_check_38 : decode b_RR_check 38 = .ok (.iand, 1) := by decide +kernel
theorem d_RR_check_39 : decode b_RR_check 39 = .ok (.goto 11, 3) := by decide +kernel
theorem d_RR_check_42 : decode b_RR_check 42 = .ok (.aload 4, 2) := by decide +kernel
theorem d_RR_check_44 : decode b_RR_check 44 = .ok (.getfield 100, 3) := by decide +kernel
theorem d_RR_check_47 : decode b_RR_check 47 = .ok (.iload 5, 2) := by decide +kernel
theorem d_RR_check_49 : decode b_RR_check 49 = .ok (.ior, 1) := by decide +kernel
theorem d_RR_check_50 : decode b_RR_check 50 = .ok (.putfield 100, 3) := by decide +kernel
theorem d_RR_check_53 : decode b_RR_check 53 = .ok (.aload 4, 2) := by decide +kernel
theorem d_RR_check_55 : decode b_RR_check 55 = .ok (.getfield 100, 3) := by decide +kernel
theorem d_RR_check_58 : decode b_RR_check 58 = .ok (.invokestatic 103, 3) := by decide +kernel
theorem d_RR_check_61 : decode b_RR_check 61 = .ok (.ireturn, 1) := by decide +kernel
theorem d_RR_comes_0 : decode b_RR_comes 0 = .ok (.aload_n 0, 1) := by decide +kernel
theorem d_RR_comes_1 : decode b_RR_comes 1 = .ok (.iload_n 1, 1) := by decide +kernel
theorem d_RR_comes_2 : decode b_RR_comes 2 = .ok (.invokevirtual 43, 3) := by decide +kernel
theorem d_RR_comes_5 : decode b_RR_comes 5 = .ok (.astore 4, 2) := by decide +kernel
theorem d_RR_comes_7 : decode b_RR_comes 7 = .ok (.iload_n 2, 1) := by decide +kernel
theorem d_RR_comes_8 : decode b_RR_comes 8 = .ok (.iconst 0, 1) := by decide +kernel
theorem d_RR_comes_9 : decode b_RR_comes 9 = .ok (.bipush 7, 2) := by decide +kernel
theorem d_RR_comes_11 : decode b_RR_comes 11 = .ok (.invokestatic 25, 3) := by decide +kernel
theorem d_RR_comes_14 : decode b_RR_comes 14 = .ok (.aload 4, 2) := by decide +kernel
theorem d_RR_comes_16 : decode b_RR_comes 16 = .ok (.getfield 47, 3) := by decide +kernel
theorem d_RR_comes_19 : decode b_RR_comes 19 = .ok (.ifCond .eq 13, 3) := by decide +kernel
theorem d_RR_comes_22 : decode b_RR_comes 22 = .ok (.new 51, 3) := by decide +kernel
theorem d_RR_comes_25 : decode b_RR_comes 25 = .ok (.dup, 1) := by decide +kernel
theorem d_RR_comes_26 : decode b_RR_comes 26 = .ok (.ldc 53, 2) := by decide +kernel
theorem d_RR_comes_28 : decode b_RR_comes 28 = .ok (.invokespecial 55, 3) := by decide +kernel
theorem d_RR_comes_31 : decode b_RR_comes 31 = .ok (.athrow, 1) := by decide +kernel
theorem d_RR_comes_32 : decode b_RR_comes 32 = .ok (.aload_n 0, 1) := by decide +kernel
theorem d_RR_comes_33 : decode b_RR_comes 33 = .ok (.getfield 56, 3) := by decide +kernel
theorem d_RR_comes_36 : decode b_RR_comes 36 = .ok (.aload_n 0, 1) := by decide +kernel
theorem d_RR_comes_37 : decode b_RR_comes 37 = .ok (.getfield 17, 3) := by decide +kernel
theorem d_RR_comes_40 : decode b_RR_comes 40 = .ok (.arraylength, 1) := by decide +kernel
theorem d_RR_comes_41 : decode b_RR_comes 41 = .ok (.if_icmp .lt 13, 3) := by decide +kernel
theorem d_RR_comes_44 : decode b_RR_comes 44 = .ok (.new 33, 3) := by decide +kernel
theorem d_RR_comes_47 : decode b_RR_comes 47 = .ok (.dup, 1) := by decide +kernel
theorem d_RR_comes_48 : decode b_RR_comes 48 = .ok (.ldc 59, 2) := by decide +kernel
theorem d_RR_comes_50 : decode b_RR_comes 50 = .ok (.invokespecial 37, 3) := by decide +kernel
theorem d_RR_comes_53 : decode b_RR_comes 53 = .ok (.athrow, 1) := by decide +kernel
theorem d_RR_comes_54 : decode b_RR_comes 54 = .ok (.aload 4, 2) := by decide +kernel
theorem d_RR_comes_56 : decode b_RR_comes 56 = .ok (.iconst 1, 1) := by decide +kernel
theorem d_RR_comes_57 : decode b_RR_comes 57 = .ok (.putfield 47, 3) := by decide +kernel
theorem d_RR_comes_60 : decode b_RR_comes 60 = .ok (.aload_n 0, 1) := by decide +kernel
theorem d_RR_comes_61 : decode b_RR_comes 61 = .ok (.getfield 17, 3) := by decide +kernel
theorem d_RR_comes_64 : decode b_RR_comes 64 = .ok (.aload_n 0, 1) := by decide +kernel
theorem d_RR_comes_65 : decode b_RR_comes 65 = .ok (.getfield 56, 3) := by decide +kernel
theorem d_RR_comes_68 : decode b_RR_comes 68 = .ok (.new 15, 3) := by decide +kernel
theorem d_RR_comes_71 : decode b_RR_comes 71 = .ok (.dup, 1) := by decide +kernel
theorem d_RR_comes_72 : decode b_RR_comes 72 = .ok (.aload 4, 2) := by decide +kernel
theorem d_RR_comes_74 : decode b_RR_comes 74 = .ok (.iload_n 2, 1) := by decide +kernel
theorem d_RR_comes_75 : decode b_RR_comes 75 = .ok (.iload_n 3, 1) := by decide +kernel
theorem d_RR_comes_76 : decode b_RR_comes 76 = .ok (.ifCond .eq 7, 3) := by decide +kernel
theorem d_RR_comes_79 : decode b_RR_comes 79 = .ok (.iconst 0, 1) := by decide +kernel
theorem d_RR_comes_80 : decode b_RR_comes 80 = .ok (.goto 4, 3) := by decide +kernel
theorem d_RR_comes_83 : decode b_RR_comes 83 = .ok (.iconst 1, 1) := by decide +kernel
theorem d_RR_comes_84 : decode b_RR_comes 84 = .ok (.aload_n 0, 1) := by decide +kernel
theorem d_RR_comes_85 : decode b_RR_comes 85 = .ok (.getfield 21, 3) := by decide +kernel
theorem d_RR_comes_88 : decode b_RR_comes 88 = .ok (.invokespecial 61, 3) := by decide +kernel
theorem d_RR_comes_91 : decode b_RR_comes 91 = .ok (.aastore, 1) := by decide +kernel
theorem d_RR_comes_92 : decode b_RR_comes 92 = .ok (.aload_n 0, 1) := by decide +kernel
theorem d_RR_comes_93 : decode b_RR_comes 93 = .ok (.dup, 1) := by decide +kernel
theorem d_RR_comes_94 : decode b_RR_comes 94 = .ok (.getfield 56, 3) := by decide +kernel
theorem d_RR_comes_97 : decode b_RR_comes 97 = .ok (.iconst 1, 1) := by decide +kernel
theorem d_RR_comes_98 : decode b_RR_comes 98 = .ok (.iadd, 1) := by decide +kernel
theorem d_RR_comes_99 : decode b_RR_comes 99 = .ok (.putfield 56, 3) := by decide +kernel
theorem d_RR_comes_102 : decode b_RR_comes 102 = .ok (.aload_n 0, 1) := by decide +kernel
theorem d_RR_comes_103 : decode b_RR_comes 103 = .ok (.getfield 56, 3) := by decide +kernel
theorem d_RR_comes_106 : decode b_RR_comes 106 = .ok (.ireturn, 1) := by decide +kernel
theorem d_RR_count_0 : decode b_RR_count 0 = .ok (.iload_n 1, 1) := by decide +kernel
theorem d_RR_count_1 : decode b_RR_count 1 = .ok (.tableswitch 96 0 7 #[47, 52, 57, 62, 70, 76, 82, 88], 47) := by decide +kernel
theorem d_RR_count_48 : decode b_RR_count 48 = .ok (.aload_n 0, 1) := by decide +kernel
theorem d_RR_count_49 : decode b_RR_count 49 = .ok (.getfield 30, 3) := by decide +kernel
theorem d_RR_count_52 : decode b_RR_count 52 = .ok (.ireturn, 1) := by decide +kernel
theorem d_RR_count_53 : decode b_RR_count 53 = .ok (.aload_n 0, 1) := by decide +kernel
theorem d_RR_count_54 : decode b_RR_count 54 = .ok (.getfield 56, 3) := by decide +kernel
theorem d_RR_count_57 : decode b_RR_count 57 = .ok (.ireturn, 1) := by decide +kernel
theorem d_RR_count_58 : decode b_RR_count 58 = .ok (.aload_n 0, 1) := by decide +kernel
theorem d_RR_count_59 : decode b_RR_count 59 = .ok (.getfield 21, 3) := by decide +kernel
theorem d_RR_count_62 : decode b_RR_count 62 = .ok (.ireturn, 1) := by decide +kernel
theorem d_RR_count_63 : decode b_RR_count 63 = .ok (.aload_n 0, 1) := by decide +kernel
theorem d_RR_count_64 : decode b_RR_count 64 = .ok (.iconst 4, 1) := by decide +kernel
theorem d_RR_count_65 : decode b_RR_count 65 = .ok (.iconst (-1), 1) := by decide +kernel
theorem d_RR_count_66 : decode b_RR_count 66 = .ok (.iconst (-1), 1) := by decide +kernel
theorem d_RR_count_67 : decode b_RR_count 67 = .ok (.invokevirtual 167, 3) := by decide +kernel
theorem d_RR_count_70 : decode b_RR_count 70 = .ok (.ireturn, 1) := by decide +kernel
theorem d_RR_count_71 : decode b_RR_count 71 = .ok (.aload_n 0, 1) := by decide +kernel
theorem d_RR_count_72 : decode b_RR_count 72 = .ok (.iconst 0, 1) := by decide +kernel
theorem d_RR_count_73 : decode b_RR_count 73 = .ok (.invokevirtual 152, 3) := by decide +kernel
theorem d_RR_count_76 : decode b_RR_count 76 = .ok (.ireturn, 1) := by decide +kernel
theorem d_RR_count_77 : decode b_RR_count 77 = .ok (.aload_n 0, 1) := by decide +kernel
theorem d_RR_count_78 : decode b_RR_count 78 = .ok (.iconst 1, 1) := by decide +kernel
theorem d_RR_count_79 : decode b_RR_count 79 = .ok (.invokevirtual 152, 3) := by decide +kernel
theorem d_RR_count_82 : decode b_RR_count 82 = .ok (.ireturn, 1) := by decide +kernel
theorem d_RR_count_83 : decode b_RR_count 83 = .ok (.aload_n 0, 1) := by decide +kernel
theorem d_RR_count_84 : decode b_RR_count 84 = .ok (.iconst 2, 1) := by decide +kernel
theorem d_RR_count_85 : decode b_RR_count 85 = .ok (.invokevirtual 152, 3) := by decide +kernel
theorem d_RR_count_88 : decode b_RR_count 88 = .ok (.ireturn, 1) := by decide +kernel
theorem d_RR_count_89 : decode b_RR_count 89 = .ok (.aload_n 0, 1) := by decide +kernel
theorem d_RR_count_90 : decode b_RR_count 90 = .ok (.iconst 1, 1) := by decide +kernel
theorem d_RR_count_91 : decode b_RR_count 91 = .ok (.iconst (-1), 1) := by decide +kernel
theorem d_RR_count_92 : decode b_RR_count 92 = .ok (.iconst (-1), 1) := by decide +kernel
theorem d_RR_count_93 : decode b_RR_count 93 = .ok (.invokevirtual 167, 3) := by decide +kernel
theorem d_RR_count_96 : decode b_RR_count 96 = .ok (.ireturn, 1) := by decide +kernel
theorem d_RR_count_97 : decode b_RR_count 97 = .ok (.iconst (-1), 1) := by decide +kernel
theorem d_RR_count_98 : decode b_RR_count 98 = .ok (.ireturn, 1) := by decide +kernel
theorem d_RR_customer_0 : decode b_RR_customer 0 = .ok (.iload_n 1, 1) := by decide +kernel
theorem d_RR_customer_1 : decode b_RR_customer 1 = .ok (.iconst 0, 1) := by decide +kernel
theorem d_RR_customer_2 : decode b_RR_customer 2 = .ok (.iconst 5, 1) := by decide +kernel
theorem d_RR_customer_3 : decode b_RR_customer 3 = .ok (.invokestatic 25, 3) := by decide +kernel
theorem d_RR_customer_6 : decode b_RR_customer 6 = .ok (.iload_n 2, 1) := by decide +kernel
theorem d_RR_customer_7 : decode b_RR_customer 7 = .ok (.tableswitch 65 0 3 #[29, 35, 43, 51], 29) := by decide +kernel
theorem d_RR_customer_36 : decode b_RR_customer 36 = .ok (.aload_n 0, 1) := by decide +kernel
theorem d_RR_customer_37 : decode b_RR_customer 37 = .ok (.iload_n 1, 1) := by decide +kernel
theorem d_RR_customer_38 : decode b_RR_customer 38 = .ok (.invokevirtual 176, 3) := by decide +kernel
theorem d_RR_customer_41 : decode b_RR_customer 41 = .ok (.ireturn, 1) := by decide +kernel
theorem d_RR_customer_42 : decode b_RR_customer 42 = .ok (.aload_n 0, 1) := by decide +kernel
theorem d_RR_customer_43 : decode b_RR_customer 43 = .ok (.iconst 0, 1) := by decide +kernel
theorem d_RR_customer_44 : decode b_RR_customer 44 = .ok (.iconst (-1), 1) := by decide +kernel
theorem d_RR_customer_45 : decode b_RR_customer 45 = .ok (.iload_n 1, 1) := by decide +kernel
theorem d_RR_customer_46 : decode b_RR_customer 46 = .ok (.invokevirtual 167, 3) := by decide +kernel
theorem d_RR_customer_49 : decode b_RR_customer 49 = .ok (.ireturn, 1) := by decide +kernel
theorem d_RR_customer_50 : decode b_RR_customer 50 = .ok (.aload_n 0, 1) := by decide +kernel
theorem d_RR_customer_51 : decode b_RR_customer 51 = .ok (.iconst 3, 1) := by decide +kernel
theorem d_RR_customer_52 : decode b_RR_customer 52 = .ok (.iconst (-1), 1) := by decide +kernel
theorem d_RR_customer_53 : decode b_RR_customer 53 = .ok (.iload_n 1, 1) := by decide +kernel
theorem d_RR_customer_54 : decode b_RR_customer 54 = .ok (.invokevirtual 167, 3) := by decide +kernel
theorem d_RR_customer_57 : decode b_RR_customer 57 = .ok (.ireturn, 1) := by decide +kernel
theorem d_RR_customer_58 : decode b_RR_customer 58 = .ok (.aload_n 0, 1) := by decide +kernel
theorem d_RR_customer_59 : decode b_RR_customer 59 = .ok (.iload_n 1, 1) := by decide +kernel
theorem d_RR_customer_60 : decode b_RR_customer 60 = .ok (.invokevirtual 179, 3) := by decide +kernel
theorem d_RR_customer_63 : decode b_RR_customer 63 = .ok (.ifCond .eq 7, 3) := by decide +kernel
theorem d_RR_customer_66 : decode b_RR_customer 66 = .ok (.iconst 1, 1) := by decide +kernel
theorem d_RR_customer_67 : decode b_RR_customer 67 = .ok (.goto 4, 3) := by decide +kernel
theorem d_RR_customer_70 : decode b_RR_customer 70 = .ok (.iconst 0, 1) := by decide +kernel
theorem d_RR_customer_71 : decode b_RR_customer 71 = .ok (.ireturn, 1) := by decide +kernel
theorem d_RR_customer_72 : decode b_RR_customer 72 = .ok (.new 171, 3) := by decide +kernel
theorem d_RR_customer_75 : decode b_RR_customer 75 = .ok (.dup, 1) := by decide +kernel
theorem d_RR_customer_76 : decode b_RR_customer 76 = .ok (.ldc 182, 2) := by decide +kernel
theorem d_RR_customer_78 : decode b_RR_customer 78 = .ok (.invokespecial 175, 3) := by decide +kernel
theorem d_RR_customer_81 : decode b_RR_customer 81 = .ok (.athrow, 1) := by decide +kernel
theorem d_RR_day_0 : decode b_RR_day 0 = .ok (.iload_n 1, 1) := by decide +kernel
theorem d_RR_day_1 : decode b_RR_day 1 = .ok (.aload_n 0, 1) := by decide +kernel
theorem d_RR_day_2 : decode b_RR_day 2 = .ok (.getfield 21, 3) := by decide +kernel
theorem d_RR_day_5 : decode b_RR_day 5 = .ok (.sipush 1000, 3) := by decide +kernel
theorem d_RR_day_8 : decode b_RR_day 8 = .ok (.invokestatic 25, 3) := by decide +kernel
theorem d_RR_day_11 : decode b_RR_day 11 = .ok (.aload_n 0, 1) := by decide +kernel
theorem d_RR_day_12 : decode b_RR_day 12 = .ok (.iload_n 1, 1) := by decide +kernel
theorem d_RR_day_13 : decode b_RR_day 13 = .ok (.putfield 21, 3) := by decide +kernel
theorem d_RR_day_16 : decode b_RR_day 16 = .ok (.return_, 1) := by decide +kernel
theorem d_RR_due_0 : decode b_RR_due 0 = .ok (.aload_n 0, 1) := by decide +kernel
theorem d_RR_due_1 : decode b_RR_due 1 = .ok (.iload_n 1, 1) := by decide +kernel
theorem d_RR_due_2 : decode b_RR_due 2 = .ok (.invokevirtual 64, 3) := by decide +kernel
theorem d_RR_due_5 : decode b_RR_due 5 = .ok (.invokevirtual 158, 3) := by decide +kernel
theorem d_RR_due_8 : decode b_RR_due 8 = .ok (.ireturn, 1) := by decide +kernel
theorem d_RR_grade_0 : decode b_RR_grade 0 = .ok (.aload_n 0, 1) := by decide +kernel
theorem d_RR_grade_1 : decode b_RR_grade 1 = .ok (.iload_n 1, 1) := by decide +kernel
theorem d_RR_grade_2 : decode b_RR_grade 2 = .ok (.invokevirtual 64, 3) := by decide +kernel
theorem d_RR_grade_5 : decode b_RR_grade 5 = .ok (.astore_n 3, 1) := by decide +kernel
theorem d_RR_grade_6 : decode b_RR_grade 6 = .ok (.iload_n 2, 1) := by decide +kernel
theorem d_RR_grade_7 : decode b_RR_grade 7 = .ok (.iconst 0, 1) := by decide +kernel
theorem d_RR_grade_8 : decode b_RR_grade 8 = .ok (.iconst 4, 1) := by decide +kernel
theorem d_RR_grade_9 : decode b_RR_grade 9 = .ok (.invokestatic 25, 3) := by decide +kernel
theorem d_RR_grade_12 : decode b_RR_grade 12 = .ok (.aload_n 3, 1) := by decide +kernel
theorem d_RR_grade_13 : decode b_RR_grade 13 = .ok (.invokestatic 97, 3) := by decide +kernel
theorem d_RR_grade_16 : decode b_RR_grade 16 = .ok (.aload_n 3, 1) := by decide +kernel
theorem d_RR_grade_17 : decode b_RR_grade 17 = .ok (.invokestatic 109, 3) := by decide +kernel
theorem d_RR_grade_20 : decode b_RR_grade 20 = .ok (.aload_n 3, 1) := by decide +kernel
theorem d_RR_grade_21 : decode b_RR_grade 21 = .ok (.getfield 100, 3) := by decide +kernel
theorem d_RR_grade_24 : decode b_RR_grade 24 = .ok (.ifCond .eq 18, 3) := by decide +kernel
theorem d_RR_grade_27 : decode b_RR_grade 27 = .ok (.iload_n 2, 1) := by decide +kernel
theorem d_RR_grade_28 : decode b_RR_grade 28 = .ok (.iconst 3, 1) := by decide +kernel
theorem d_RR_grade_29 : decode b_RR_grade 29 = .ok (.if_icmp .ge 13, 3) := by decide +kernel
theorem d_RR_grade_32 : decode b_RR_grade 32 = .ok (.new 51, 3) := by decide +kernel
theorem d_RR_grade_35 : decode b_RR_grade 35 = .ok (.dup, 1) := by decide +kernel
theorem d_RR_grade_36 : decode b_RR_grade 36 = .ok (.ldc 112, 2) := by decide +kernel
theorem d_RR_grade_38 : decode b_RR_grade 38 = .ok (.invokespecial 55, 3) := by decide +kernel
theorem d_RR_grade_41 : decode b_RR_grade 41 = .ok (.athrow, 1) := by decide +kernel
theorem d_RR_grade_42 : decode b_RR_grade 42 = .ok (.aload_n 3, 1) := by decide +kernel
theorem d_RR_grade_43 : decode b_RR_grade 43 = .ok (.iload_n 2, 1) := by decide +kernel
theorem d_RR_grade_44 : decode b_RR_grade 44 = .ok (.invokevirtual 114, 3) := by decide +kernel
theorem d_RR_grade_47 : decode b_RR_grade 47 = .ok (.aload_n 3, 1) := by decide +kernel
theorem d_RR_grade_48 : decode b_RR_grade 48 = .ok (.iconst 3, 1) := by decide +kernel
theorem d_RR_grade_49 : decode b_RR_grade 49 = .ok (.putfield 68, 3) := by decide +kernel
theorem d_RR_grade_52 : decode b_RR_grade 52 = .ok (.aload_n 3, 1) := by decide +kernel
theorem d_RR_grade_53 : decode b_RR_grade 53 = .ok (.getfield 118, 3) := by decide +kernel
theorem d_RR_grade_56 : decode b_RR_grade 56 = .ok (.ireturn, 1) := by decide +kernel
theorem d_RR_init_0 : decode b_RR_init 0 = .ok (.aload_n 0, 1) := by decide +kernel
theorem d_RR_init_1 : decode b_RR_init 1 = .ok (.invokespecial 1, 3) := by decide +kernel
theorem d_RR_init_4 : decode b_RR_init 4 = .ok (.aload_n 0, 1) := by decide +kernel
theorem d_RR_init_5 : decode b_RR_init 5 = .ok (.bipush 20, 2) := by decide +kernel
theorem d_RR_init_7 : decode b_RR_init 7 = .ok (.anewarray 9, 3) := by decide +kernel
theorem d_RR_init_10 : decode b_RR_init 10 = .ok (.putfield 11, 3) := by decide +kernel
theorem d_RR_init_13 : decode b_RR_init 13 = .ok (.aload_n 0, 1) := by decide +kernel
theorem d_RR_init_14 : decode b_RR_init 14 = .ok (.bipush 20, 2) := by decide +kernel
theorem d_RR_init_16 : decode b_RR_init 16 = .ok (.anewarray 15, 3) := by decide +kernel
theorem d_RR_init_19 : decode b_RR_init 19 = .ok (.putfield 17, 3) := by decide +kernel
theorem d_RR_init_22 : decode b_RR_init 22 = .ok (.return_, 1) := by decide +kernel
theorem d_RR_isCertificateUsed_0 : decode b_RR_isCertificateUsed 0 = .ok (.aload_n 0, 1) := by decide +kernel
theorem d_RR_isCertificateUsed_1 : decode b_RR_isCertificateUsed 1 = .ok (.getfield 17, 3) := by decide +kernel
theorem d_RR_isCertificateUsed_4 : decode b_RR_isCertificateUsed 4 = .ok (.astore_n 2, 1) := by decide +kernel
theorem d_RR_isCertificateUsed_5 : decode b_RR_isCertificateUsed 5 = .ok (.aload_n 2, 1) := by decide +kernel
theorem d_RR_isCertificateUsed_6 : decode b_RR_isCertificateUsed 6 = .ok (.arraylength, 1) := by decide +kernel
theorem d_RR_isCertificateUsed_7 : decode b_RR_isCertificateUsed 7 = .ok (.istore_n 3, 1) := by decide +kernel
theorem d_RR_isCertificateUsed_8 : decode b_RR_isCertificateUsed 8 = .ok (.iconst 0, 1) := by decide +kernel
theorem d_RR_isCertificateUsed_9 : decode b_RR_isCertificateUsed 9 = .ok (.istore 4, 2) := by decide +kernel
theorem d_RR_isCertificateUsed_11 : decode b_RR_isCertificateUsed 11 = .ok (.iload 4, 2) := by decide +kernel
theorem d_RR_isCertificateUsed_13 : decode b_RR_isCertificateUsed 13 = .ok (.iload_n 3, 1) := by decide +kernel
theorem d_RR_isCertificateUsed_14 : decode b_RR_isCertificateUsed 14 = .ok (.if_icmp .ge 31, 3) := by decide +kernel
theorem d_RR_isCertificateUsed_17 : decode b_RR_isCertificateUsed 17 = .ok (.aload_n 2, 1) := by decide +kernel
theorem d_RR_isCertificateUsed_18 : decode b_RR_isCertificateUsed 18 = .ok (.iload 4, 2) := by decide +kernel
theorem d_RR_isCertificateUsed_20 : decode b_RR_isCertificateUsed 20 = .ok (.aaload, 1) := by decide +kernel
theorem d_RR_isCertificateUsed_21 : decode b_RR_isCertificateUsed 21 = .ok (.astore 5, 2) := by decide +kernel
theorem d_RR_isCertificateUsed_23 : decode b_RR_isCertificateUsed 23 = .ok (.aload 5, 2) := by decide +kernel
theorem d_RR_isCertificateUsed_25 : decode b_RR_isCertificateUsed 25 = .ok (.ifnull 14, 3) := by decide +kernel
theorem d_RR_isCertificateUsed_28 : decode b_RR_isCertificateUsed 28 = .ok (.aload 5, 2) := by decide +kernel
theorem d_RR_isCertificateUsed_30 : decode b_RR_isCertificateUsed 30 = .ok (.getfield 140, 3) := by decide +kernel
theorem d_RR_isCertificateUsed_33 : decode b_RR_isCertificateUsed 33 = .ok (.iload_n 1, 1) := by decide +kernel
theorem d_RR_isCertificateUsed_34 : decode b_RR_isCertificateUsed 34 = .ok (.if_icmp .ne 5, 3) := by decide +kernel
theorem d_RR_isCertificateUsed_37 : decode b_RR_isCertificateUsed 37 = .ok (.iconst 1, 1) := by decide +kernel
theorem d_RR_isCertificateUsed_38 : decode b_RR_isCertificateUsed 38 = .ok (.ireturn, 1) := by decide +kernel
theorem d_RR_isCertificateUsed_39 : decode b_RR_isCertificateUsed 39 = .ok (.iinc 4 1, 3) := by decide +kernel
theorem d_RR_isCertificateUsed_42 : decode b_RR_isCertificateUsed 42 = .ok (.goto (-31), 3) := by decide +kernel
theorem d_RR_isCertificateUsed_45 : decode b_RR_isCertificateUsed 45 = .ok (.iconst 0, 1) := by decide +kernel
theorem d_RR_isCertificateUsed_46 : decode b_RR_isCertificateUsed 46 = .ok (.ireturn, 1) := by decide +kernel
theorem d_RR_isMarked_0 : decode b_RR_isMarked 0 = .ok (.aload_n 0, 1) := by decide +kernel
theorem d_RR_isMarked_1 : decode b_RR_isMarked 1 = .ok (.iconst 3, 1) := by decide +kernel
theorem d_RR_isMarked_2 : decode b_RR_isMarked 2 = .ok (.iconst (-1), 1) := by decide +kernel
theorem d_RR_isMarked_3 : decode b_RR_isMarked 3 = .ok (.iload_n 1, 1) := by decide +kernel
theorem d_RR_isMarked_4 : decode b_RR_isMarked 4 = .ok (.invokevirtual 167, 3) := by decide +kernel
theorem d_RR_isMarked_7 : decode b_RR_isMarked 7 = .ok (.iconst 2, 1) := by decide +kernel
theorem d_RR_isMarked_8 : decode b_RR_isMarked 8 = .ok (.if_icmp .ge 12, 3) := by decide +kernel
theorem d_RR_isMarked_11 : decode b_RR_isMarked 11 = .ok (.aload_n 0, 1) := by decide +kernel
theorem d_RR_isMarked_12 : decode b_RR_isMarked 12 = .ok (.iload_n 1, 1) := by decide +kernel
theorem d_RR_isMarked_13 : decode b_RR_isMarked 13 = .ok (.invokevirtual 215, 3) := by decide +kernel
theorem d_RR_isMarked_16 : decode b_RR_isMarked 16 = .ok (.iconst 3, 1) := by decide +kernel
theorem d_RR_isMarked_17 : decode b_RR_isMarked 17 = .ok (.if_icmp .le 7, 3) := by decide +kernel
theorem d_RR_isMarked_20 : decode b_RR_isMarked 20 = .ok (.iconst 1, 1) := by decide +kernel
theorem d_RR_isMarked_21 : decode b_RR_isMarked 21 = .ok (.goto 4, 3) := by decide +kernel
theorem d_RR_isMarked_24 : decode b_RR_isMarked 24 = .ok (.iconst 0, 1) := by decide +kernel
theorem d_RR_isMarked_25 : decode b_RR_isMarked 25 = .ok (.ireturn, 1) := by decide +kernel
theorem d_RR_missing_0 : decode b_RR_missing 0 = .ok (.aload_n 0, 1) := by decide +kernel
theorem d_RR_missing_1 : decode b_RR_missing 1 = .ok (.iload_n 1, 1) := by decide +kernel
theorem d_RR_missing_2 : decode b_RR_missing 2 = .ok (.invokevirtual 64, 3) := by decide +kernel
theorem d_RR_missing_5 : decode b_RR_missing 5 = .ok (.astore_n 3, 1) := by decide +kernel
theorem d_RR_missing_6 : decode b_RR_missing 6 = .ok (.iload_n 2, 1) := by decide +kernel
theorem d_RR_missing_7 : decode b_RR_missing 7 = .ok (.iconst 0, 1) := by decide +kernel
theorem d_RR_missing_8 : decode b_RR_missing 8 = .ok (.bipush 10, 2) := by decide +kernel
theorem d_RR_missing_10 : decode b_RR_missing 10 = .ok (.invokestatic 25, 3) := by decide +kernel
theorem d_RR_missing_13 : decode b_RR_missing 13 = .ok (.aload_n 3, 1) := by decide +kernel
theorem d_RR_missing_14 : decode b_RR_missing 14 = .ok (.invokestatic 97, 3) := by decide +kernel
theorem d_RR_missing_17 : decode b_RR_missing 17 = .ok (.aload_n 3, 1) := by decide +kernel
theorem d_RR_missing_18 : decode b_RR_missing 18 = .ok (.iload_n 2, 1) := by decide +kernel
theorem d_RR_missing_19 : decode b_RR_missing 19 = .ok (.putfield 155, 3) := by decide +kernel
theorem d_RR_missing_22 : decode b_RR_missing 22 = .ok (.return_, 1) := by decide +kernel
theorem d_RR_quarantine_0 : decode b_RR_quarantine 0 = .ok (.aload_n 0, 1) := by decide +kernel
theorem d_RR_quarantine_1 : decode b_RR_quarantine 1 = .ok (.iload_n 1, 1) := by decide +kernel
theorem d_RR_quarantine_2 : decode b_RR_quarantine 2 = .ok (.invokevirtual 64, 3) := by decide +kernel
theorem d_RR_quarantine_5 : decode b_RR_quarantine 5 = .ok (.astore_n 3, 1) := by decide +kernel
theorem d_RR_quarantine_6 : decode b_RR_quarantine 6 = .ok (.aload_n 3, 1) := by decide +kernel
theorem d_RR_quarantine_7 : decode b_RR_quarantine 7 = .ok (.getfield 92, 3) := by decide +kernel
theorem d_RR_quarantine_10 : decode b_RR_quarantine 10 = .ok (.iload_n 2, 1) := by decide +kernel
theorem d_RR_quarantine_11 : decode b_RR_quarantine 11 = .ok (.if_icmp .ne 13, 3) := by decide +kernel
theorem d_RR_quarantine_14 : decode b_RR_quarantine 14 = .ok (.new 51, 3) := by decide +kernel
theorem d_RR_quarantine_17 : decode b_RR_quarantine 17 = .ok (.dup, 1) := by decide +kernel
theorem d_RR_quarantine_18 : decode b_RR_quarantine 18 = .ok (.ldc 95, 2) := by decide +kernel
theorem d_RR_quarantine_20 : decode b_RR_quarantine 20 = .ok (.invokespecial 55, 3) := by decide +kernel
theorem d_RR_quarantine_23 : decode b_RR_quarantine 23 = .ok (.athrow, 1) := by decide +kernel
theorem d_RR_quarantine_24 : decode b_RR_quarantine 24 = .ok (.iload_n 2, 1) := by decide +kernel
theorem d_RR_quarantine_25 : decode b_RR_quarantine 25 = .ok (.ifCond .eq 7, 3) := by decide +kernel
theorem d_RR_quarantine_28 : decode b_RR_quarantine 28 = .ok (.aload_n 3, 1) := by decide +kernel
theorem d_RR_quarantine_29 : decode b_RR_quarantine 29 = .ok (.invokestatic 97, 3) := by decide +kernel
theorem d_RR_quarantine_32 : decode b_RR_quarantine 32 = .ok (.aload_n 3, 1) := by decide +kernel
theorem d_RR_quarantine_33 : decode b_RR_quarantine 33 = .ok (.iload_n 2, 1) := by decide +kernel
theorem d_RR_quarantine_34 : decode b_RR_quarantine 34 = .ok (.putfield 92, 3) := by decide +kernel
theorem d_RR_quarantine_37 : decode b_RR_quarantine 37 = .ok (.return_, 1) := by decide +kernel
theorem d_RR_reason_0 : decode b_RR_reason 0 = .ok (.iload_n 1, 1) := by decide +kernel
theorem d_RR_reason_1 : decode b_RR_reason 1 = .ok (.iconst 0, 1) := by decide +kernel
theorem d_RR_reason_2 : decode b_RR_reason 2 = .ok (.bipush 7, 2) := by decide +kernel
theorem d_RR_reason_4 : decode b_RR_reason 4 = .ok (.invokestatic 25, 3) := by decide +kernel
theorem d_RR_reason_7 : decode b_RR_reason 7 = .ok (.iload_n 2, 1) := by decide +kernel
theorem d_RR_reason_8 : decode b_RR_reason 8 = .ok (.tableswitch 52 0 2 #[28, 36, 44], 28) := by decide +kernel
theorem d_RR_reason_36 : decode b_RR_reason 36 = .ok (.aload_n 0, 1) := by decide +kernel
theorem d_RR_reason_37 : decode b_RR_reason 37 = .ok (.iconst 0, 1) := by decide +kernel
theorem d_RR_reason_38 : decode b_RR_reason 38 = .ok (.iload_n 1, 1) := by decide +kernel
theorem d_RR_reason_39 : decode b_RR_reason 39 = .ok (.iconst (-1), 1) := by decide +kernel
theorem d_RR_reason_40 : decode b_RR_reason 40 = .ok (.invokevirtual 167, 3) := by decide +kernel
theorem d_RR_reason_43 : decode b_RR_reason 43 = .ok (.ireturn, 1) := by decide +kernel
theorem d_RR_reason_44 : decode b_RR_reason 44 = .ok (.aload_n 0, 1) := by decide +kernel
theorem d_RR_reason_45 : decode b_RR_reason 45 = .ok (.iconst 1, 1) := by decide +kernel
theorem d_RR_reason_46 : decode b_RR_reason 46 = .ok (.iload_n 1, 1) := by decide +kernel
theorem d_RR_reason_47 : decode b_RR_reason 47 = .ok (.iconst (-1), 1) := by decide +kernel
theorem d_RR_reason_48 : decode b_RR_reason 48 = .ok (.invokevirtual 167, 3) := by decide +kernel
theorem d_RR_reason_51 : decode b_RR_reason 51 = .ok (.ireturn, 1) := by decide +kernel
theorem d_RR_reason_52 : decode b_RR_reason 52 = .ok (.aload_n 0, 1) := by decide +kernel
theorem d_RR_reason_53 : decode b_RR_reason 53 = .ok (.iconst 2, 1) := by decide +kernel
theorem d_RR_reason_54 : decode b_RR_reason 54 = .ok (.iload_n 1, 1) := by decide +kernel
theorem d_RR_reason_55 : decode b_RR_reason 55 = .ok (.iconst (-1), 1) := by decide +kernel
theorem d_RR_reason_56 : decode b_RR_reason 56 = .ok (.invokevirtual 167, 3) := by decide +kernel
theorem d_RR_reason_59 : decode b_RR_reason 59 = .ok (.ireturn, 1) := by decide +kernel
theorem d_RR_reason_60 : decode b_RR_reason 60 = .ok (.new 171, 3) := by decide +kernel
theorem d_RR_reason_63 : decode b_RR_reason 63 = .ok (.dup, 1) := by decide +kernel
theorem d_RR_reason_64 : decode b_RR_reason 64 = .ok (.ldc 173, 2) := by decide +kernel
theorem d_RR_reason_66 : decode b_RR_reason 66 = .ok (.invokespecial 175, 3) := by decide +kernel
theorem d_RR_reason_69 : decode b_RR_reason 69 = .ok (.athrow, 1) := by decide +kernel
theorem d_RR_recentReturnsOf_0 : decode b_RR_recentReturnsOf 0 = .ok (.iconst 0, 1) := by decide +kernel
theorem d_RR_recentReturnsOf_1 : decode b_RR_recentReturnsOf 1 = .ok (.istore_n 2, 1) := by decide +kernel
theorem d_RR_recentReturnsOf_2 : decode b_RR_recentReturnsOf 2 = .ok (.aload_n 0, 1) := by decide +kernel
theorem d_RR_recentReturnsOf_3 : decode b_RR_recentReturnsOf 3 = .ok (.getfield 17, 3) := by decide +kernel
theorem d_RR_recentReturnsOf_6 : decode b_RR_recentReturnsOf 6 = .ok (.astore_n 3, 1) := by decide +kernel
theorem d_RR_recentReturnsOf_7 : decode b_RR_recentReturnsOf 7 = .ok (.aload_n 3, 1) := by decide +kernel
theorem d_RR_recentReturnsOf_8 : decode b_RR_recentReturnsOf 8 = .ok (.arraylength, 1) := by decide +kernel
theorem d_RR_recentReturnsOf_9 : decode b_RR_recentReturnsOf 9 = .ok (.istore 4, 2) := by decide +kernel
theorem d_RR_recentReturnsOf_11 : decode b_RR_recentReturnsOf 11 = .ok (.iconst 0, 1) := by decide +kernel
theorem d_RR_recentReturnsOf_12 : decode b_RR_recentReturnsOf 12 = .ok (.istore 5, 2) := by decide +kernel
theorem d_RR_recentReturnsOf_14 : decode b_RR_recentReturnsOf 14 = .ok (.iload 5, 2) := by decide +kernel
theorem d_RR_recentReturnsOf_16 : decode b_RR_recentReturnsOf 16 = .ok (.iload 4, 2) := by decide +kernel
theorem d_RR_recentReturnsOf_18 : decode b_RR_recentReturnsOf 18 = .ok (.if_icmp .ge 50, 3) := by decide +kernel
theorem d_RR_recentReturnsOf_21 : decode b_RR_recentReturnsOf 21 = .ok (.aload_n 3, 1) := by decide +kernel
theorem d_RR_recentReturnsOf_22 : decode b_RR_recentReturnsOf 22 = .ok (.iload 5, 2) := by decide +kernel
theorem d_RR_recentReturnsOf_24 : decode b_RR_recentReturnsOf 24 = .ok (.aaload, 1) := by decide +kernel
theorem d_RR_recentReturnsOf_25 : decode b_RR_recentReturnsOf 25 = .ok (.astore 6, 2) := by decide +kernel
theorem d_RR_recentReturnsOf_27 : decode b_RR_recentReturnsOf 27 = .ok (.aload 6, 2) := by decide +kernel
theorem d_RR_recentReturnsOf_29 : decode b_RR_recentReturnsOf 29 = .ok (.ifnull 33, 3) := by decide +kernel
theorem d_RR_recentReturnsOf_32 : decode b_RR_recentReturnsOf 32 = .ok (.aload 6, 2) := by decide +kernel
theorem d_RR_recentReturnsOf_34 : decode b_RR_recentReturnsOf 34 = .ok (.getfield 85, 3) := by decide +kernel
theorem d_RR_recentReturnsOf_37 : decode b_RR_recentReturnsOf 37 = .ok (.getfield 209, 3) := by decide +kernel
theorem d_RR_recentReturnsOf_40 : decode b_RR_recentReturnsOf 40 = .ok (.iload_n 1, 1) := by decide +kernel
theorem d_RR_recentReturnsOf_41 : decode b_RR_recentReturnsOf 41 = .ok (.if_icmp .ne 21, 3) := by decide +kernel
theorem d_RR_recentReturnsOf_44 : decode b_RR_recentReturnsOf 44 = .ok (.aload_n 0, 1) := by decide +kernel
theorem d_RR_recentReturnsOf_45 : decode b_RR_recentReturnsOf 45 = .ok (.getfield 21, 3) := by decide +kernel
theorem d_RR_recentReturnsOf_48 : decode b_RR_recentReturnsOf 48 = .ok (.aload 6, 2) := by decide +kernel
theorem d_RR_recentReturnsOf_50 : decode b_RR_recentReturnsOf 50 = .ok (.getfield 212, 3) := by decide +kernel
theorem d_RR_recentReturnsOf_53 : decode b_RR_recentReturnsOf 53 = .ok (.isub, 1) := by decide +kernel
theorem d_RR_recentReturnsOf_54 : decode b_RR_recentReturnsOf 54 = .ok (.bipush 30, 2) := by decide +kernel
theorem d_RR_recentReturnsOf_56 : decode b_RR_recentReturnsOf 56 = .ok (.if_icmp .gt 6, 3) := by decide +kernel
theorem d_RR_recentReturnsOf_59 : decode b_RR_recentReturnsOf 59 = .ok (.iinc 2 1, 3) := by decide +kernel
theorem d_RR_recentReturnsOf_62 : decode b_RR_recentReturnsOf 62 = .ok (.iinc 5 1, 3) := by decide +kernel
theorem d_RR_recentReturnsOf_65 : decode b_RR_recentReturnsOf 65 = .ok (.goto (-51), 3) := by decide +kernel
theorem d_RR_recentReturnsOf_68 : decode b_RR_recentReturnsOf 68 = .ok (.iload_n 2, 1) := by decide +kernel
theorem d_RR_recentReturnsOf_69 : decode b_RR_recentReturnsOf 69 = .ok (.ireturn, 1) := by decide +kernel
theorem d_RR_refund_0 : decode b_RR_refund 0 = .ok (.aload_n 0, 1) := by decide +kernel
theorem d_RR_refund_1 : decode b_RR_refund 1 = .ok (.iload_n 1, 1) := by decide +kernel
theorem d_RR_refund_2 : decode b_RR_refund 2 = .ok (.invokevirtual 64, 3) := by decide +kernel
theorem d_RR_refund_5 : decode b_RR_refund 5 = .ok (.astore_n 3, 1) := by decide +kernel
theorem d_RR_refund_6 : decode b_RR_refund 6 = .ok (.iload_n 2, 1) := by decide +kernel
theorem d_RR_refund_7 : decode b_RR_refund 7 = .ok (.iconst 1, 1) := by decide +kernel
theorem d_RR_refund_8 : decode b_RR_refund 8 = .ok (.ldc 29, 2) := by decide +kernel
theorem d_RR_refund_10 : decode b_RR_refund 10 = .ok (.invokestatic 25, 3) := by decide +kernel
theorem d_RR_refund_13 : decode b_RR_refund 13 = .ok (.aload_n 3, 1) := by decide +kernel
theorem d_RR_refund_14 : decode b_RR_refund 14 = .ok (.invokevirtual 158, 3) := by decide +kernel
theorem d_RR_refund_17 : decode b_RR_refund 17 = .ok (.aload_n 3, 1) := by decide +kernel
theorem d_RR_refund_18 : decode b_RR_refund 18 = .ok (.getfield 162, 3) := by decide +kernel
theorem d_RR_refund_21 : decode b_RR_refund 21 = .ok (.isub, 1) := by decide +kernel
theorem d_RR_refund_22 : decode b_RR_refund 22 = .ok (.istore 4, 2) := by decide +kernel
theorem d_RR_refund_24 : decode b_RR_refund 24 = .ok (.iload_n 2, 1) := by decide +kernel
theorem d_RR_refund_25 : decode b_RR_refund 25 = .ok (.iload 4, 2) := by decide +kernel
theorem d_RR_refund_27 : decode b_RR_refund 27 = .ok (.if_icmp .le 13, 3) := by decide +kernel
theorem d_RR_refund_30 : decode b_RR_refund 30 = .ok (.new 51, 3) := by decide +kernel
theorem d_RR_refund_33 : decode b_RR_refund 33 = .ok (.dup, 1) := by decide +kernel
theorem d_RR_refund_34 : decode b_RR_refund 34 = .ok (.ldc 165, 2) := by decide +kernel
theorem d_RR_refund_36 : decode b_RR_refund 36 = .ok (.invokespecial 55, 3) := by decide +kernel
theorem d_RR_refund_39 : decode b_RR_refund 39 = .ok (.athrow, 1) := by decide +kernel
theorem d_RR_refund_40 : decode b_RR_refund 40 = .ok (.aload_n 3, 1) := by decide +kernel
theorem d_RR_refund_41 : decode b_RR_refund 41 = .ok (.dup, 1) := by decide +kernel
theorem d_RR_refund_42 : decode b_RR_refund 42 = .ok (.getfield 162, 3) := by decide +kernel
theorem d_RR_refund_45 : decode b_RR_refund 45 = .ok (.iload_n 2, 1) := by decide +kernel
theorem d_RR_refund_46 : decode b_RR_refund 46 = .ok (.iadd, 1) := by decide +kernel
theorem d_RR_refund_47 : decode b_RR_refund 47 = .ok (.putfield 162, 3) := by decide +kernel
theorem d_RR_refund_50 : decode b_RR_refund 50 = .ok (.iload 4, 2) := by decide +kernel
theorem d_RR_refund_52 : decode b_RR_refund 52 = .ok (.iload_n 2, 1) := by decide +kernel
theorem d_RR_refund_53 : decode b_RR_refund 53 = .ok (.isub, 1) := by decide +kernel
theorem d_RR_refund_54 : decode b_RR_refund 54 = .ok (.ireturn, 1) := by decide +kernel
theorem d_RR_repair_0 : decode b_RR_repair 0 = .ok (.aload_n 0, 1) := by decide +kernel
theorem d_RR_repair_1 : decode b_RR_repair 1 = .ok (.iload_n 1, 1) := by decide +kernel
theorem d_RR_repair_2 : decode b_RR_repair 2 = .ok (.invokevirtual 64, 3) := by decide +kernel
theorem d_RR_repair_5 : decode b_RR_repair 5 = .ok (.astore_n 3, 1) := by decide +kernel
theorem d_RR_repair_6 : decode b_RR_repair 6 = .ok (.iload_n 2, 1) := by decide +kernel
theorem d_RR_repair_7 : decode b_RR_repair 7 = .ok (.iconst 1, 1) := by decide +kernel
theorem d_RR_repair_8 : decode b_RR_repair 8 = .ok (.iconst 5, 1) := by decide +kernel
theorem d_RR_repair_9 : decode b_RR_repair 9 = .ok (.invokestatic 25, 3) := by decide +kernel
theorem d_RR_repair_12 : decode b_RR_repair 12 = .ok (.aload_n 3, 1) := by decide +kernel
theorem d_RR_repair_13 : decode b_RR_repair 13 = .ok (.invokestatic 121, 3) := by decide +kernel
theorem d_RR_repair_16 : decode b_RR_repair 16 = .ok (.aload_n 3, 1) := by decide +kernel
theorem d_RR_repair_17 : decode b_RR_repair 17 = .ok (.invokestatic 109, 3) := by decide +kernel
theorem d_RR_repair_20 : decode b_RR_repair 20 = .ok (.aload_n 3, 1) := by decide +kernel
theorem d_RR_repair_21 : decode b_RR_repair 21 = .ok (.getfield 124, 3) := by decide +kernel
theorem d_RR_repair_24 : decode b_RR_repair 24 = .ok (.ifCond .ne 13, 3) := by decide +kernel
theorem d_RR_repair_27 : decode b_RR_repair 27 = .ok (.new 51, 3) := by decide +kernel
theorem d_RR_repair_30 : decode b_RR_repair 30 = .ok (.dup, 1) := by decide +kernel
theorem d_RR_repair_31 : decode b_RR_repair 31 = .ok (.ldc 127, 2) := by decide +kernel
theorem d_RR_repair_33 : decode b_RR_repair 33 = .ok (.invokespecial 55, 3) := by decide +kernel
theorem d_RR_repair_36 : decode b_RR_repair 36 = .ok (.athrow, 1) := by decide +kernel
theorem d_RR_repair_37 : decode b_RR_repair 37 = .ok (.aload_n 3, 1) := by decide +kernel
theorem d_RR_repair_38 : decode b_RR_repair 38 = .ok (.iload_n 2, 1) := by decide +kernel
theorem d_RR_repair_39 : decode b_RR_repair 39 = .ok (.putfield 129, 3) := by decide +kernel
theorem d_RR_repair_42 : decode b_RR_repair 42 = .ok (.aload_n 3, 1) := by decide +kernel
theorem d_RR_repair_43 : decode b_RR_repair 43 = .ok (.iconst 4, 1) := by decide +kernel
theorem d_RR_repair_44 : decode b_RR_repair 44 = .ok (.putfield 68, 3) := by decide +kernel
theorem d_RR_repair_47 : decode b_RR_repair 47 = .ok (.return_, 1) := by decide +kernel
theorem d_RR_requireGraded_0 : decode b_RR_requireGraded 0 = .ok (.aload_n 0, 1) := by decide +kernel
theorem d_RR_requireGraded_1 : decode b_RR_requireGraded 1 = .ok (.getfield 68, 3) := by decide +kernel
theorem d_RR_requireGraded_4 : decode b_RR_requireGraded 4 = .ok (.iconst 3, 1) := by decide +kernel
theorem d_RR_requireGraded_5 : decode b_RR_requireGraded 5 = .ok (.if_icmp .eq 13, 3) := by decide +kernel
theorem d_RR_requireGraded_8 : decode b_RR_requireGraded 8 = .ok (.new 51, 3) := by decide +kernel
theorem d_RR_requireGraded_11 : decode b_RR_requireGraded 11 = .ok (.dup, 1) := by decide +kernel
theorem d_RR_requireGraded_12 : decode b_RR_requireGraded 12 = .ok (.ldc 203, 2) := by decide +kernel
theorem d_RR_requireGraded_14 : decode b_RR_requireGraded 14 = .ok (.invokespecial 55, 3) := by decide +kernel
theorem d_RR_requireGraded_17 : decode b_RR_requireGraded 17 = .ok (.athrow, 1) := by decide +kernel
theorem d_RR_requireGraded_18 : decode b_RR_requireGraded 18 = .ok (.return_, 1) := by decide +kernel
theorem d_RR_requireHere_0 : decode b_RR_requireHere 0 = .ok (.aload_n 0, 1) := by decide +kernel
theorem d_RR_requireHere_1 : decode b_RR_requireHere 1 = .ok (.getfield 68, 3) := by decide +kernel
theorem d_RR_requireHere_4 : decode b_RR_requireHere 4 = .ok (.iconst 2, 1) := by decide +kernel
theorem d_RR_requireHere_5 : decode b_RR_requireHere 5 = .ok (.if_icmp .eq 13, 3) := by decide +kernel
theorem d_RR_requireHere_8 : decode b_RR_requireHere 8 = .ok (.new 51, 3) := by decide +kernel
theorem d_RR_requireHere_11 : decode b_RR_requireHere 11 = .ok (.dup, 1) := by decide +kernel
theorem d_RR_requireHere_12 : decode b_RR_requireHere 12 = .ok (.ldc 201, 2) := by decide +kernel
theorem d_RR_requireHere_14 : decode b_RR_requireHere 14 = .ok (.invokespecial 55, 3) := by decide +kernel
theorem d_RR_requireHere_17 : decode b_RR_requireHere 17 = .ok (.athrow, 1) := by decide +kernel
theorem d_RR_requireHere_18 : decode b_RR_requireHere 18 = .ok (.return_, 1) := by decide +kernel
theorem d_RR_requireHereOrGraded_0 : decode b_RR_requireHereOrGraded 0 = .ok (.aload_n 0, 1) := by decide +kernel
theorem d_RR_requireHereOrGraded_1 : decode b_RR_requireHereOrGraded 1 = .ok (.getfield 68, 3) := by decide +kernel
theorem d_RR_requireHereOrGraded_4 : decode b_RR_requireHereOrGraded 4 = .ok (.iconst 2, 1) := by decide +kernel
theorem d_RR_requireHereOrGraded_5 : decode b_RR_requireHereOrGraded 5 = .ok (.if_icmp .eq 21, 3) := by decide +kernel
theorem d_RR_requireHereOrGraded_8 : decode b_RR_requireHereOrGraded 8 = .ok (.aload_n 0, 1) := by decide +kernel
theorem d_RR_requireHereOrGraded_9 : decode b_RR_requireHereOrGraded 9 = .ok (.getfield 68, 3) := by decide +kernel
theorem d_RR_requireHereOrGraded_12 : decode b_RR_requireHereOrGraded 12 = .ok (.iconst 3, 1) := by decide +kernel
theorem d_RR_requireHereOrGraded_13 : decode b_RR_requireHereOrGraded 13 = .ok (.if_icmp .eq 13, 3) := by decide +kernel
theorem d_RR_requireHereOrGraded_16 : decode b_RR_requireHereOrGraded 16 = .ok (.new 51, 3) := by decide +kernel
theorem d_RR_requireHereOrGraded_19 : decode b_RR_requireHereOrGraded 19 = .ok (.dup, 1) := by decide +kernel
theorem d_RR_requireHereOrGraded_20 : decode b_RR_requireHereOrGraded 20 = .ok (.ldc 205, 2) := by decide +kernel
theorem d_RR_requireHereOrGraded_22 : decode b_RR_requireHereOrGraded 22 = .ok (.invokespecial 55, 3) := by decide +kernel
theorem d_RR_requireHereOrGraded_25 : decode b_RR_requireHereOrGraded 25 = .ok (.athrow, 1) := by decide +kernel
theorem d_RR_requireHereOrGraded_26 : decode b_RR_requireHereOrGraded 26 = .ok (.return_, 1) := by decide +kernel
theorem d_RR_requireNoQuarantine_0 : decode b_RR_requireNoQuarantine 0 = .ok (.aload_n 0, 1) := by decide +kernel
theorem d_RR_requireNoQuarantine_1 : decode b_RR_requireNoQuarantine 1 = .ok (.getfield 92, 3) := by decide +kernel
theorem d_RR_requireNoQuarantine_4 : decode b_RR_requireNoQuarantine 4 = .ok (.ifCond .eq 13, 3) := by decide +kernel
theorem d_RR_requireNoQuarantine_7 : decode b_RR_requireNoQuarantine 7 = .ok (.new 51, 3) := by decide +kernel
theorem d_RR_requireNoQuarantine_10 : decode b_RR_requireNoQuarantine 10 = .ok (.dup, 1) := by decide +kernel
theorem d_RR_requireNoQuarantine_11 : decode b_RR_requireNoQuarantine 11 = .ok (.ldc 207, 2) := by decide +kernel
theorem d_RR_requireNoQuarantine_13 : decode b_RR_requireNoQuarantine 13 = .ok (.invokespecial 55, 3) := by decide +kernel
theorem d_RR_requireNoQuarantine_16 : decode b_RR_requireNoQuarantine 16 = .ok (.athrow, 1) := by decide +kernel
theorem d_RR_requireNoQuarantine_17 : decode b_RR_requireNoQuarantine 17 = .ok (.return_, 1) := by decide +kernel
theorem d_RR_requireWithin_0 : decode b_RR_requireWithin 0 = .ok (.iload_n 0, 1) := by decide +kernel
theorem d_RR_requireWithin_1 : decode b_RR_requireWithin 1 = .ok (.iload_n 1, 1) := by decide +kernel
theorem d_RR_requireWithin_2 : decode b_RR_requireWithin 2 = .ok (.if_icmp .lt 8, 3) := by decide +kernel
theorem d_RR_requireWithin_5 : decode b_RR_requireWithin 5 = .ok (.iload_n 0, 1) := by decide +kernel
theorem d_RR_requireWithin_6 : decode b_RR_requireWithin 6 = .ok (.iload_n 2, 1) := by decide +kernel
theorem d_RR_requireWithin_7 : decode b_RR_requireWithin 7 = .ok (.if_icmp .le 13, 3) := by decide +kernel
theorem d_RR_requireWithin_10 : decode b_RR_requireWithin 10 = .ok (.new 171, 3) := by decide +kernel
theorem d_RR_requireWithin_13 : decode b_RR_requireWithin 13 = .ok (.dup, 1) := by decide +kernel
theorem d_RR_requireWithin_14 : decode b_RR_requireWithin 14 = .ok (.ldc 199, 2) := by decide +kernel
theorem d_RR_requireWithin_16 : decode b_RR_requireWithin 16 = .ok (.invokespecial 175, 3) := by decide +kernel
theorem d_RR_requireWithin_19 : decode b_RR_requireWithin 19 = .ok (.athrow, 1) := by decide +kernel
theorem d_RR_requireWithin_20 : decode b_RR_requireWithin 20 = .ok (.return_, 1) := by decide +kernel
theorem d_RR_returnAt_0 : decode b_RR_returnAt 0 = .ok (.iload_n 1, 1) := by decide +kernel
theorem d_RR_returnAt_1 : decode b_RR_returnAt 1 = .ok (.iconst 1, 1) := by decide +kernel
theorem d_RR_returnAt_2 : decode b_RR_returnAt 2 = .ok (.if_icmp .lt 12, 3) := by decide +kernel
theorem d_RR_returnAt_5 : decode b_RR_returnAt 5 = .ok (.iload_n 1, 1) := by decide +kernel
theorem d_RR_returnAt_6 : decode b_RR_returnAt 6 = .ok (.aload_n 0, 1) := by decide +kernel
theorem d_RR_returnAt_7 : decode b_RR_returnAt 7 = .ok (.getfield 17, 3) := by decide +kernel
theorem d_RR_returnAt_10 : decode b_RR_returnAt 10 = .ok (.arraylength, 1) := by decide +kernel
theorem d_RR_returnAt_11 : decode b_RR_returnAt 11 = .ok (.if_icmp .le 13, 3) := by decide +kernel
theorem d_RR_returnAt_14 : decode b_RR_returnAt 14 = .ok (.new 192, 3) := by decide +kernel
theorem d_RR_returnAt_17 : decode b_RR_returnAt 17 = .ok (.dup, 1) := by decide +kernel
theorem d_RR_returnAt_18 : decode b_RR_returnAt 18 = .ok (.ldc 197, 2) := by decide +kernel
theorem d_RR_returnAt_20 : decode b_RR_returnAt 20 = .ok (.invokespecial 196, 3) := by decide +kernel
theorem d_RR_returnAt_23 : decode b_RR_returnAt 23 = .ok (.athrow, 1) := by decide +kernel
theorem d_RR_returnAt_24 : decode b_RR_returnAt 24 = .ok (.aload_n 0, 1) := by decide +kernel
theorem d_RR_returnAt_25 : decode b_RR_returnAt 25 = .ok (.getfield 17, 3) := by decide +kernel
theorem d_RR_returnAt_28 : decode b_RR_returnAt 28 = .ok (.iload_n 1, 1) := by decide +kernel
theorem d_RR_returnAt_29 : decode b_RR_returnAt 29 = .ok (.iconst 1, 1) := by decide +kernel
theorem d_RR_returnAt_30 : decode b_RR_returnAt 30 = .ok (.isub, 1) := by decide +kernel
theorem d_RR_returnAt_31 : decode b_RR_returnAt 31 = .ok (.aaload, 1) := by decide +kernel
theorem d_RR_returnAt_32 : decode b_RR_returnAt 32 = .ok (.astore_n 2, 1) := by decide +kernel
theorem d_RR_returnAt_33 : decode b_RR_returnAt 33 = .ok (.aload_n 2, 1) := by decide +kernel
theorem d_RR_returnAt_34 : decode b_RR_returnAt 34 = .ok (.ifnonnull 13, 3) := by decide +kernel
theorem d_RR_returnAt_37 : decode b_RR_returnAt 37 = .ok (.new 192, 3) := by decide +kernel
theorem d_RR_returnAt_40 : decode b_RR_returnAt 40 = .ok (.dup, 1) := by decide +kernel
theorem d_RR_returnAt_41 : decode b_RR_returnAt 41 = .ok (.ldc 197, 2) := by decide +kernel
theorem d_RR_returnAt_43 : decode b_RR_returnAt 43 = .ok (.invokespecial 196, 3) := by decide +kernel
theorem d_RR_returnAt_46 : decode b_RR_returnAt 46 = .ok (.athrow, 1) := by decide +kernel
theorem d_RR_returnAt_47 : decode b_RR_returnAt 47 = .ok (.aload_n 2, 1) := by decide +kernel
theorem d_RR_returnAt_48 : decode b_RR_returnAt 48 = .ok (.areturn, 1) := by decide +kernel
theorem d_RR_sale_0 : decode b_RR_sale 0 = .ok (.iload_n 1, 1) := by decide +kernel
theorem d_RR_sale_1 : decode b_RR_sale 1 = .ok (.iconst 0, 1) := by decide +kernel
theorem d_RR_sale_2 : decode b_RR_sale 2 = .ok (.iconst 5, 1) := by decide +kernel
theorem d_RR_sale_3 : decode b_RR_sale 3 = .ok (.invokestatic 25, 3) := by decide +kernel
theorem d_RR_sale_6 : decode b_RR_sale 6 = .ok (.iload_n 2, 1) := by decide +kernel
theorem d_RR_sale_7 : decode b_RR_sale 7 = .ok (.iconst 1, 1) := by decide +kernel
theorem d_RR_sale_8 : decode b_RR_sale 8 = .ok (.ldc 29, 2) := by decide +kernel
theorem d_RR_sale_10 : decode b_RR_sale 10 = .ok (.invokestatic 25, 3) := by decide +kernel
theorem d_RR_sale_13 : decode b_RR_sale 13 = .ok (.iload_n 3, 1) := by decide +kernel
theorem d_RR_sale_14 : decode b_RR_sale 14 = .ok (.iconst 0, 1) := by decide +kernel
theorem d_RR_sale_15 : decode b_RR_sale 15 = .ok (.sipush 1000, 3) := by decide +kernel
theorem d_RR_sale_18 : decode b_RR_sale 18 = .ok (.invokestatic 25, 3) := by decide +kernel
theorem d_RR_sale_21 : decode b_RR_sale 21 = .ok (.aload_n 0, 1) := by decide +kernel
theorem d_RR_sale_22 : decode b_RR_sale 22 = .ok (.getfield 30, 3) := by decide +kernel
theorem d_RR_sale_25 : decode b_RR_sale 25 = .ok (.istore 4, 2) := by decide +kernel
theorem d_RR_sale_27 : decode b_RR_sale 27 = .ok (.iload 4, 2) := by decide +kernel
theorem d_RR_sale_29 : decode b_RR_sale 29 = .ok (.aload_n 0, 1) := by decide +kernel
theorem d_RR_sale_30 : decode b_RR_sale 30 = .ok (.getfield 11, 3) := by decide +kernel
theorem d_RR_sale_33 : decode b_RR_sale 33 = .ok (.arraylength, 1) := by decide +kernel
theorem d_RR_sale_34 : decode b_RR_sale 34 = .ok (.if_icmp .lt 13, 3) := by decide +kernel
theorem d_RR_sale_37 : decode b_RR_sale 37 = .ok (.new 33, 3) := by decide +kernel
theorem d_RR_sale_40 : decode b_RR_sale 40 = .ok (.dup, 1) := by decide +kernel
theorem d_RR_sale_41 : decode b_RR_sale 41 = .ok (.ldc 35, 2) := by decide +kernel
theorem d_RR_sale_43 : decode b_RR_sale 43 = .ok (.invokespecial 37, 3) := by decide +kernel
theorem d_RR_sale_46 : decode b_RR_sale 46 = .ok (.athrow, 1) := by decide +kernel
theorem d_RR_sale_47 : decode b_RR_sale 47 = .ok (.aload_n 0, 1) := by decide +kernel
theorem d_RR_sale_48 : decode b_RR_sale 48 = .ok (.getfield 11, 3) := by decide +kernel
theorem d_RR_sale_51 : decode b_RR_sale 51 = .ok (.iload 4, 2) := by decide +kernel
theorem d_RR_sale_53 : decode b_RR_sale 53 = .ok (.new 9, 3) := by decide +kernel
theorem d_RR_sale_56 : decode b_RR_sale 56 = .ok (.dup, 1) := by decide +kernel
theorem d_RR_sale_57 : decode b_RR_sale 57 = .ok (.iload 4, 2) := by decide +kernel
theorem d_RR_sale_59 : decode b_RR_sale 59 = .ok (.iload_n 1, 1) := by decide +kernel
theorem d_RR_sale_60 : decode b_RR_sale 60 = .ok (.iload_n 2, 1) := by decide +kernel
theorem d_RR_sale_61 : decode b_RR_sale 61 = .ok (.iload_n 3, 1) := by decide +kernel
theorem d_RR_sale_62 : decode b_RR_sale 62 = .ok (.aload_n 0, 1) := by decide +kernel
theorem d_RR_sale_63 : decode b_RR_sale 63 = .ok (.getfield 21, 3) := by decide +kernel
theorem d_RR_sale_66 : decode b_RR_sale 66 = .ok (.invokespecial 40, 3) := by decide +kernel
theorem d_RR_sale_69 : decode b_RR_sale 69 = .ok (.aastore, 1) := by decide +kernel
theorem d_RR_sale_70 : decode b_RR_sale 70 = .ok (.aload_n 0, 1) := by decide +kernel
theorem d_RR_sale_71 : decode b_RR_sale 71 = .ok (.dup, 1) := by decide +kernel
theorem d_RR_sale_72 : decode b_RR_sale 72 = .ok (.getfield 30, 3) := by decide +kernel
theorem d_RR_sale_75 : decode b_RR_sale 75 = .ok (.iconst 1, 1) := by decide +kernel
theorem d_RR_sale_76 : decode b_RR_sale 76 = .ok (.iadd, 1) := by decide +kernel
theorem d_RR_sale_77 : decode b_RR_sale 77 = .ok (.putfield 30, 3) := by decide +kernel
theorem d_RR_sale_80 : decode b_RR_sale 80 = .ok (.iload 4, 2) := by decide +kernel
theorem d_RR_sale_82 : decode b_RR_sale 82 = .ok (.ireturn, 1) := by decide +kernel
theorem d_RR_saleAt_0 : decode b_RR_saleAt 0 = .ok (.iload_n 1, 1) := by decide +kernel
theorem d_RR_saleAt_1 : decode b_RR_saleAt 1 = .ok (.ifCond .lt 12, 3) := by decide +kernel
theorem d_RR_saleAt_4 : decode b_RR_saleAt 4 = .ok (.iload_n 1, 1) := by decide +kernel
theorem d_RR_saleAt_5 : decode b_RR_saleAt 5 = .ok (.aload_n 0, 1) := by decide +kernel
theorem d_RR_saleAt_6 : decode b_RR_saleAt 6 = .ok (.getfield 11, 3) := by decide +kernel
theorem d_RR_saleAt_9 : decode b_RR_saleAt 9 = .ok (.arraylength, 1) := by decide +kernel
theorem d_RR_saleAt_10 : decode b_RR_saleAt 10 = .ok (.if_icmp .lt 13, 3) := by decide +kernel
theorem d_RR_saleAt_13 : decode b_RR_saleAt 13 = .ok (.new 192, 3) := by decide +kernel
theorem d_RR_saleAt_16 : decode b_RR_saleAt 16 = .ok (.dup, 1) := by decide +kernel
theorem d_RR_saleAt_17 : decode b_RR_saleAt 17 = .ok (.ldc 194, 2) := by decide +kernel
theorem d_RR_saleAt_19 : decode b_RR_saleAt 19 = .ok (.invokespecial 196, 3) := by decide +kernel
theorem d_RR_saleAt_22 : decode b_RR_saleAt 22 = .ok (.athrow, 1) := by decide +kernel
theorem d_RR_saleAt_23 : decode b_RR_saleAt 23 = .ok (.aload_n 0, 1) := by decide +kernel
theorem d_RR_saleAt_24 : decode b_RR_saleAt 24 = .ok (.getfield 11, 3) := by decide +kernel
theorem d_RR_saleAt_27 : decode b_RR_saleAt 27 = .ok (.iload_n 1, 1) := by decide +kernel
theorem d_RR_saleAt_28 : decode b_RR_saleAt 28 = .ok (.aaload, 1) := by decide +kernel
theorem d_RR_saleAt_29 : decode b_RR_saleAt 29 = .ok (.astore_n 2, 1) := by decide +kernel
theorem d_RR_saleAt_30 : decode b_RR_saleAt 30 = .ok (.aload_n 2, 1) := by decide +kernel
theorem d_RR_saleAt_31 : decode b_RR_saleAt 31 = .ok (.ifnonnull 13, 3) := by decide +kernel
theorem d_RR_saleAt_34 : decode b_RR_saleAt 34 = .ok (.new 192, 3) := by decide +kernel
theorem d_RR_saleAt_37 : decode b_RR_saleAt 37 = .ok (.dup, 1) := by decide +kernel
theorem d_RR_saleAt_38 : decode b_RR_saleAt 38 = .ok (.ldc 194, 2) := by decide +kernel
theorem d_RR_saleAt_40 : decode b_RR_saleAt 40 = .ok (.invokespecial 196, 3) := by decide +kernel
theorem d_RR_saleAt_43 : decode b_RR_saleAt 43 = .ok (.athrow, 1) := by decide +kernel
theorem d_RR_saleAt_44 : decode b_RR_saleAt 44 = .ok (.aload_n 2, 1) := by decide +kernel
theorem d_RR_saleAt_45 : decode b_RR_saleAt 45 = .ok (.areturn, 1) := by decide +kernel
theorem d_RR_salesTo_0 : decode b_RR_salesTo 0 = .ok (.iconst 0, 1) := by decide +kernel
theorem d_RR_salesTo_1 : decode b_RR_salesTo 1 = .ok (.istore_n 2, 1) := by decide +kernel
theorem d_RR_salesTo_2 : decode b_RR_salesTo 2 = .ok (.aload_n 0, 1) := by decide +kernel
theorem d_RR_salesTo_3 : decode b_RR_salesTo 3 = .ok (.getfield 11, 3) := by decide +kernel
theorem d_RR_salesTo_6 : decode b_RR_salesTo 6 = .ok (.astore_n 3, 1) := by decide +kernel
theorem d_RR_salesTo_7 : decode b_RR_salesTo 7 = .ok (.aload_n 3, 1) := by decide +kernel
theorem d_RR_salesTo_8 : decode b_RR_salesTo 8 = .ok (.arraylength, 1) := by decide +kernel
theorem d_RR_salesTo_9 : decode b_RR_salesTo 9 = .ok (.istore 4, 2) := by decide +kernel
theorem d_RR_salesTo_11 : decode b_RR_salesTo 11 = .ok (.iconst 0, 1) := by decide +kernel
theorem d_RR_salesTo_12 : decode b_RR_salesTo 12 = .ok (.istore 5, 2) := by decide +kernel
theorem d_RR_salesTo_14 : decode b_RR_salesTo 14 = .ok (.iload 5, 2) := by decide +kernel
theorem d_RR_salesTo_16 : decode b_RR_salesTo 16 = .ok (.iload 4, 2) := by decide +kernel
theorem d_RR_salesTo_18 : decode b_RR_salesTo 18 = .ok (.if_icmp .ge 32, 3) := by decide +kernel
theorem d_RR_salesTo_21 : decode b_RR_salesTo 21 = .ok (.aload_n 3, 1) := by decide +kernel
theorem d_RR_salesTo_22 : decode b_RR_salesTo 22 = .ok (.iload 5, 2) := by decide +kernel
theorem d_RR_salesTo_24 : decode b_RR_salesTo 24 = .ok (.aaload, 1) := by decide +kernel
theorem d_RR_salesTo_25 : decode b_RR_salesTo 25 = .ok (.astore 6, 2) := by decide +kernel
theorem d_RR_salesTo_27 : decode b_RR_salesTo 27 = .ok (.aload 6, 2) := by decide +kernel
theorem d_RR_salesTo_29 : decode b_RR_salesTo 29 = .ok (.ifnull 15, 3) := by decide +kernel
theorem d_RR_salesTo_32 : decode b_RR_salesTo 32 = .ok (.aload 6, 2) := by decide +kernel
theorem d_RR_salesTo_34 : decode b_RR_salesTo 34 = .ok (.getfield 209, 3) := by decide +kernel
theorem d_RR_salesTo_37 : decode b_RR_salesTo 37 = .ok (.iload_n 1, 1) := by decide +kernel
theorem d_RR_salesTo_38 : decode b_RR_salesTo 38 = .ok (.if_icmp .ne 6, 3) := by decide +kernel
theorem d_RR_salesTo_41 : decode b_RR_salesTo 41 = .ok (.iinc 2 1, 3) := by decide +kernel
theorem d_RR_salesTo_44 : decode b_RR_salesTo 44 = .ok (.iinc 5 1, 3) := by decide +kernel
theorem d_RR_salesTo_47 : decode b_RR_salesTo 47 = .ok (.goto (-33), 3) := by decide +kernel
theorem d_RR_salesTo_50 : decode b_RR_salesTo 50 = .ok (.iload_n 2, 1) := by decide +kernel
theorem d_RR_salesTo_51 : decode b_RR_salesTo 51 = .ok (.ireturn, 1) := by decide +kernel
theorem d_RR_scrap_0 : decode b_RR_scrap 0 = .ok (.aload_n 0, 1) := by decide +kernel
theorem d_RR_scrap_1 : decode b_RR_scrap 1 = .ok (.iload_n 1, 1) := by decide +kernel
theorem d_RR_scrap_2 : decode b_RR_scrap 2 = .ok (.invokevirtual 64, 3) := by decide +kernel
theorem d_RR_scrap_5 : decode b_RR_scrap 5 = .ok (.astore_n 3, 1) := by decide +kernel
theorem d_RR_scrap_6 : decode b_RR_scrap 6 = .ok (.iload_n 2, 1) := by decide +kernel
theorem d_RR_scrap_7 : decode b_RR_scrap 7 = .ok (.iconst 1, 1) := by decide +kernel
theorem d_RR_scrap_8 : decode b_RR_scrap 8 = .ok (.sipush 1000, 3) := by decide +kernel
theorem d_RR_scrap_11 : decode b_RR_scrap 11 = .ok (.invokestatic 25, 3) := by decide +kernel
theorem d_RR_scrap_14 : decode b_RR_scrap 14 = .ok (.aload_n 3, 1) := by decide +kernel
theorem d_RR_scrap_15 : decode b_RR_scrap 15 = .ok (.invokestatic 121, 3) := by decide +kernel
theorem d_RR_scrap_18 : decode b_RR_scrap 18 = .ok (.aload_n 3, 1) := by decide +kernel
theorem d_RR_scrap_19 : decode b_RR_scrap 19 = .ok (.getfield 124, 3) := by decide +kernel
theorem d_RR_scrap_22 : decode b_RR_scrap 22 = .ok (.iconst 3, 1) := by decide +kernel
theorem d_RR_scrap_23 : decode b_RR_scrap 23 = .ok (.if_icmp .ge 13, 3) := by decide +kernel
theorem d_RR_scrap_26 : decode b_RR_scrap 26 = .ok (.new 51, 3) := by decide +kernel
theorem d_RR_scrap_29 : decode b_RR_scrap 29 = .ok (.dup, 1) := by decide +kernel
theorem d_RR_scrap_30 : decode b_RR_scrap 30 = .ok (.ldc 134, 2) := by decide +kernel
theorem d_RR_scrap_32 : decode b_RR_scrap 32 = .ok (.invokespecial 55, 3) := by decide +kernel
theorem d_RR_scrap_35 : decode b_RR_scrap 35 = .ok (.athrow, 1) := by decide +kernel
theorem d_RR_scrap_36 : decode b_RR_scrap 36 = .ok (.aload_n 0, 1) := by decide +kernel
theorem d_RR_scrap_37 : decode b_RR_scrap 37 = .ok (.iload_n 2, 1) := by decide +kernel
theorem d_RR_scrap_38 : decode b_RR_scrap 38 = .ok (.invokevirtual 136, 3) := by decide +kernel
theorem d_RR_scrap_41 : decode b_RR_scrap 41 = .ok (.ifCond .eq 5, 3) := by decide +kernel
theorem d_RR_scrap_44 : decode b_RR_scrap 44 = .ok (.iconst 0, 1) := by decide +kernel
theorem d_RR_scrap_45 : decode b_RR_scrap 45 = .ok (.ireturn, 1) := by decide +kernel
theorem d_RR_scrap_46 : decode b_RR_scrap 46 = .ok (.aload_n 3, 1) := by decide +kernel
theorem d_RR_scrap_47 : decode b_RR_scrap 47 = .ok (.iload_n 2, 1) := by decide +kernel
theorem d_RR_scrap_48 : decode b_RR_scrap 48 = .ok (.putfield 140, 3) := by decide +kernel
theorem d_RR_scrap_51 : decode b_RR_scrap 51 = .ok (.aload_n 3, 1) := by decide +kernel
theorem d_RR_scrap_52 : decode b_RR_scrap 52 = .ok (.iconst 5, 1) := by decide +kernel
theorem d_RR_scrap_53 : decode b_RR_scrap 53 = .ok (.putfield 68, 3) := by decide +kernel
theorem d_RR_scrap_56 : decode b_RR_scrap 56 = .ok (.iconst 1, 1) := by decide +kernel
theorem d_RR_scrap_57 : decode b_RR_scrap 57 = .ok (.ireturn, 1) := by decide +kernel
theorem d_RR_serial_0 : decode b_RR_serial 0 = .ok (.aload_n 0, 1) := by decide +kernel
theorem d_RR_serial_1 : decode b_RR_serial 1 = .ok (.iload_n 1, 1) := by decide +kernel
theorem d_RR_serial_2 : decode b_RR_serial 2 = .ok (.invokevirtual 64, 3) := by decide +kernel
theorem d_RR_serial_5 : decode b_RR_serial 5 = .ok (.astore_n 3, 1) := by decide +kernel
theorem d_RR_serial_6 : decode b_RR_serial 6 = .ok (.aload_n 0, 1) := by decide +kernel
theorem d_RR_serial_7 : decode b_RR_serial 7 = .ok (.iload_n 2, 1) := by decide +kernel
theorem d_RR_serial_8 : decode b_RR_serial 8 = .ok (.invokevirtual 43, 3) := by decide +kernel
theorem d_RR_serial_11 : decode b_RR_serial 11 = .ok (.astore 4, 2) := by decide +kernel
theorem d_RR_serial_13 : decode b_RR_serial 13 = .ok (.aload_n 3, 1) := by decide +kernel
theorem d_RR_serial_14 : decode b_RR_serial 14 = .ok (.invokestatic 78, 3) := by decide +kernel
theorem d_RR_serial_17 : decode b_RR_serial 17 = .ok (.aload_n 3, 1) := by decide +kernel
theorem d_RR_serial_18 : decode b_RR_serial 18 = .ok (.aload 4, 2) := by decide +kernel
theorem d_RR_serial_20 : decode b_RR_serial 20 = .ok (.getfield 82, 3) := by decide +kernel
theorem d_RR_serial_23 : decode b_RR_serial 23 = .ok (.aload_n 3, 1) := by decide +kernel
theorem d_RR_serial_24 : decode b_RR_serial 24 = .ok (.getfield 85, 3) := by decide +kernel
theorem d_RR_serial_27 : decode b_RR_serial 27 = .ok (.getfield 82, 3) := by decide +kernel
theorem d_RR_serial_30 : decode b_RR_serial 30 = .ok (.if_icmp .eq 7, 3) := by decide +kernel
theorem d_RR_serial_33 : decode b_RR_serial 33 = .ok (.iconst 1, 1) := by decide +kernel
theorem d_RR_serial_34 : decode b_RR_serial 34 = .ok (.goto 4, 3) := by decide +kernel
theorem d_RR_serial_37 : decode b_RR_serial 37 = .ok (.iconst 0, 1) := by decide +kernel
theorem d_RR_serial_38 : decode b_RR_serial 38 = .ok (.putfield 89, 3) := by decide +kernel
theorem d_RR_serial_41 : decode b_RR_serial 41 = .ok (.aload_n 3, 1) := by decide +kernel
theorem d_RR_serial_42 : decode b_RR_serial 42 = .ok (.getfield 89, 3) := by decide +kernel
theorem d_RR_serial_45 : decode b_RR_serial 45 = .ok (.ifCond .eq 13, 3) := by decide +kernel
theorem d_RR_serial_48 : decode b_RR_serial 48 = .ok (.iconst (-1), 1) := by decide +kernel
theorem d_RR_serial_49 : decode b_RR_serial 49 = .ok (.aload 4, 2) := by decide +kernel
theorem d_RR_serial_51 : decode b_RR_serial 51 = .ok (.getfield 82, 3) := by decide +kernel
theorem d_RR_serial_54 : decode b_RR_serial 54 = .ok (.isub, 1) := by decide +kernel
theorem d_RR_serial_55 : decode b_RR_serial 55 = .ok (.goto 4, 3) := by decide +kernel
theorem d_RR_serial_58 : decode b_RR_serial 58 = .ok (.iconst 1, 1) := by decide +kernel
theorem d_RR_serial_59 : decode b_RR_serial 59 = .ok (.ireturn, 1) := by decide +kernel
theorem d_RR_step_0 : decode b_RR_step 0 = .ok (.aload_n 0, 1) := by decide +kernel
theorem d_RR_step_1 : decode b_RR_step 1 = .ok (.iload_n 1, 1) := by decide +kernel
theorem d_RR_step_2 : decode b_RR_step 2 = .ok (.invokevirtual 64, 3) := by decide +kernel
theorem d_RR_step_5 : decode b_RR_step 5 = .ok (.astore_n 3, 1) := by decide +kernel
theorem d_RR_step_6 : decode b_RR_step 6 = .ok (.aload_n 3, 1) := by decide +kernel
theorem d_RR_step_7 : decode b_RR_step 7 = .ok (.getfield 68, 3) := by decide +kernel
theorem d_RR_step_10 : decode b_RR_step 10 = .ok (.iconst 4, 1) := by decide +kernel
theorem d_RR_step_11 : decode b_RR_step 11 = .ok (.if_icmp .eq 13, 3) := by decide +kernel
theorem d_RR_step_14 : decode b_RR_step 14 = .ok (.new 51, 3) := by decide +kernel
theorem d_RR_step_17 : decode b_RR_step 17 = .ok (.dup, 1) := by decide +kernel
theorem d_RR_step_18 : decode b_RR_step 18 = .ok (.ldc 132, 2) := by decide +kernel
theorem d_RR_step_20 : decode b_RR_step 20 = .ok (.invokespecial 55, 3) := by decide +kernel
theorem d_RR_step_23 : decode b_RR_step 23 = .ok (.athrow, 1) := by decide +kernel
theorem d_RR_step_24 : decode b_RR_step 24 = .ok (.aload_n 3, 1) := by decide +kernel
theorem d_RR_step_25 : decode b_RR_step 25 = .ok (.iload_n 2, 1) := by decide +kernel
theorem d_RR_step_26 : decode b_RR_step 26 = .ok (.ifCond .eq 12, 3) := by decide +kernel
theorem d_RR_step_29 : decode b_RR_step 29 = .ok (.aload_n 3, 1) := by decide +kernel
theorem d_RR_step_30 : decode b_RR_step 30 = .ok (.getfield 129, 3) := by decide +kernel
theorem d_RR_step_33 : decode b_RR_step 33 = .ok (.iconst 1, 1) := by decide +kernel
theorem d_RR_step_34 : decode b_RR_step 34 = .ok (.isub, 1) := by decide +kernel
theorem d_RR_step_35 : decode b_RR_step 35 = .ok (.goto 4, 3) := by decide +kernel
theorem d_RR_step_38 : decode b_RR_step 38 = .ok (.iconst 0, 1) := by decide +kernel
theorem d_RR_step_39 : decode b_RR_step 39 = .ok (.putfield 129, 3) := by decide +kernel
theorem d_RR_step_42 : decode b_RR_step 42 = .ok (.aload_n 3, 1) := by decide +kernel
theorem d_RR_step_43 : decode b_RR_step 43 = .ok (.getfield 129, 3) := by decide +kernel
theorem d_RR_step_46 : decode b_RR_step 46 = .ok (.ifCond .ne 22, 3) := by decide +kernel
theorem d_RR_step_49 : decode b_RR_step 49 = .ok (.aload_n 3, 1) := by decide +kernel
theorem d_RR_step_50 : decode b_RR_step 50 = .ok (.iconst 3, 1) := by decide +kernel
theorem d_RR_step_51 : decode b_RR_step 51 = .ok (.putfield 68, 3) := by decide +kernel
theorem d_RR_step_54 : decode b_RR_step 54 = .ok (.iload_n 2, 1) := by decide +kernel
theorem d_RR_step_55 : decode b_RR_step 55 = .ok (.ifCond .eq 13, 3) := by decide +kernel
theorem d_RR_step_58 : decode b_RR_step 58 = .ok (.aload_n 3, 1) := by decide +kernel
theorem d_RR_step_59 : decode b_RR_step 59 = .ok (.aload_n 3, 1) := by decide +kernel
theorem d_RR_step_60 : decode b_RR_step 60 = .ok (.getfield 124, 3) := by decide +kernel
theorem d_RR_step_63 : decode b_RR_step 63 = .ok (.iconst 1, 1) := by decide +kernel
theorem d_RR_step_64 : decode b_RR_step 64 = .ok (.isub, 1) := by decide +kernel
theorem d_RR_step_65 : decode b_RR_step 65 = .ok (.invokevirtual 114, 3) := by decide +kernel
theorem d_RR_step_68 : decode b_RR_step 68 = .ok (.aload_n 3, 1) := by decide +kernel
theorem d_RR_step_69 : decode b_RR_step 69 = .ok (.getfield 129, 3) := by decide +kernel
theorem d_RR_step_72 : decode b_RR_step 72 = .ok (.ireturn, 1) := by decide +kernel
theorem d_RR_sum_0 : decode b_RR_sum 0 = .ok (.iconst 0, 1) := by decide +kernel
theorem d_RR_sum_1 : decode b_RR_sum 1 = .ok (.istore 4, 2) := by decide +kernel
theorem d_RR_sum_3 : decode b_RR_sum 3 = .ok (.aload_n 0, 1) := by decide +kernel
theorem d_RR_sum_4 : decode b_RR_sum 4 = .ok (.getfield 17, 3) := by decide +kernel
theorem d_RR_sum_7 : decode b_RR_sum 7 = .ok (.astore 5, 2) := by decide +kernel
theorem d_RR_sum_9 : decode b_RR_sum 9 = .ok (.aload 5, 2) := by decide +kernel
theorem d_RR_sum_11 : decode b_RR_sum 11 = .ok (.arraylength, 1) := by decide +kernel
theorem d_RR_sum_12 : decode b_RR_sum 12 = .ok (.istore 6, 2) := by decide +kernel
theorem d_RR_sum_14 : decode b_RR_sum 14 = .ok (.iconst 0, 1) := by decide +kernel
theorem d_RR_sum_15 : decode b_RR_sum 15 = .ok (.istore 7, 2) := by decide +kernel
theorem d_RR_sum_17 : decode b_RR_sum 17 = .ok (.iload 7, 2) := by decide +kernel
theorem d_RR_sum_19 : decode b_RR_sum 19 = .ok (.iload 6, 2) := by decide +kernel
theorem d_RR_sum_21 : decode b_RR_sum 21 = .ok (.if_icmp .ge 42, 3) := by decide +kernel
theorem d_RR_sum_24 : decode b_RR_sum 24 = .ok (.aload 5, 2) := by decide +kernel
theorem d_RR_sum_26 : decode b_RR_sum 26 = .ok (.iload 7, 2) := by decide +kernel
theorem d_RR_sum_28 : decode b_RR_sum 28 = .ok (.aaload, 1) := by decide +kernel
theorem d_RR_sum_29 : decode b_RR_sum 29 = .ok (.astore 8, 2) := by decide +kernel
theorem d_RR_sum_31 : decode b_RR_sum 31 = .ok (.aload 8, 2) := by decide +kernel
theorem d_RR_sum_33 : decode b_RR_sum 33 = .ok (.ifnull 24, 3) := by decide +kernel
theorem d_RR_sum_36 : decode b_RR_sum 36 = .ok (.aload 8, 2) := by decide +kernel
theorem d_RR_sum_38 : decode b_RR_sum 38 = .ok (.iload_n 2, 1) := by decide +kernel
theorem d_RR_sum_39 : decode b_RR_sum 39 = .ok (.iload_n 3, 1) := by decide +kernel
theorem d_RR_sum_40 : decode b_RR_sum 40 = .ok (.invokevirtual 218, 3) := by decide +kernel
theorem d_RR_sum_43 : decode b_RR_sum 43 = .ok (.ifCond .eq 14, 3) := by decide +kernel
theorem d_RR_sum_46 : decode b_RR_sum 46 = .ok (.iload 4, 2) := by decide +kernel
theorem d_RR_sum_48 : decode b_RR_sum 48 = .ok (.aload 8, 2) := by decide +kernel
theorem d_RR_sum_50 : decode b_RR_sum 50 = .ok (.iload_n 1, 1) := by decide +kernel
theorem d_RR_sum_51 : decode b_RR_sum 51 = .ok (.invokevirtual 222, 3) := by decide +kernel
theorem d_RR_sum_54 : decode b_RR_sum 54 = .ok (.iadd, 1) := by decide +kernel
theorem d_RR_sum_55 : decode b_RR_sum 55 = .ok (.istore 4, 2) := by decide +kernel
theorem d_RR_sum_57 : decode b_RR_sum 57 = .ok (.iinc 7 1, 3) := by decide +kernel
theorem d_RR_sum_60 : decode b_RR_sum 60 = .ok (.goto (-43), 3) := by decide +kernel
theorem d_RR_sum_63 : decode b_RR_sum 63 = .ok (.iload 4, 2) := by decide +kernel
theorem d_RR_sum_65 : decode b_RR_sum 65 = .ok (.ireturn, 1) := by decide +kernel
theorem d_RR_told_0 : decode b_RR_told 0 = .ok (.aload_n 0, 1) := by decide +kernel
theorem d_RR_told_1 : decode b_RR_told 1 = .ok (.iload_n 1, 1) := by decide +kernel
theorem d_RR_told_2 : decode b_RR_told 2 = .ok (.invokevirtual 64, 3) := by decide +kernel
theorem d_RR_told_5 : decode b_RR_told 5 = .ok (.astore_n 3, 1) := by decide +kernel
theorem d_RR_told_6 : decode b_RR_told 6 = .ok (.iload_n 2, 1) := by decide +kernel
theorem d_RR_told_7 : decode b_RR_told 7 = .ok (.tableswitch 140 0 11 #[61, 66, 74, 79, 84, 89, 94, 99, 112, 125, 130, 135], 61) := by decide +kernel
theorem d_RR_told_68 : decode b_RR_told 68 = .ok (.aload_n 3, 1) := by decide +kernel
theorem d_RR_told_69 : decode b_RR_told 69 = .ok (.getfield 68, 3) := by decide +kernel
theorem d_RR_told_72 : decode b_RR_told 72 = .ok (.ireturn, 1) := by decide +kernel
theorem d_RR_told_73 : decode b_RR_told 73 = .ok (.aload_n 3, 1) := by decide +kernel
theorem d_RR_told_74 : decode b_RR_told 74 = .ok (.getfield 85, 3) := by decide +kernel
theorem d_RR_told_77 : decode b_RR_told 77 = .ok (.getfield 82, 3) := by decide +kernel
theorem d_RR_told_80 : decode b_RR_told 80 = .ok (.ireturn, 1) := by decide +kernel
theorem d_RR_told_81 : decode b_RR_told 81 = .ok (.aload_n 3, 1) := by decide +kernel
theorem d_RR_told_82 : decode b_RR_told 82 = .ok (.getfield 184, 3) := by decide +kernel
theorem d_RR_told_85 : decode b_RR_told 85 = .ok (.ireturn, 1) := by decide +kernel
theorem d_RR_told_86 : decode b_RR_told 86 = .ok (.aload_n 3, 1) := by decide +kernel
theorem d_RR_told_87 : decode b_RR_told 87 = .ok (.getfield 124, 3) := by decide +kernel
theorem d_RR_told_90 : decode b_RR_told 90 = .ok (.ireturn, 1) := by decide +kernel
theorem d_RR_told_91 : decode b_RR_told 91 = .ok (.aload_n 3, 1) := by decide +kernel
theorem d_RR_told_92 : decode b_RR_told 92 = .ok (.getfield 118, 3) := by decide +kernel
theorem d_RR_told_95 : decode b_RR_told 95 = .ok (.ireturn, 1) := by decide +kernel
theorem d_RR_told_96 : decode b_RR_told 96 = .ok (.aload_n 3, 1) := by decide +kernel
theorem d_RR_told_97 : decode b_RR_told 97 = .ok (.getfield 187, 3) := by decide +kernel
theorem d_RR_told_100 : decode b_RR_told 100 = .ok (.ireturn, 1) := by decide +kernel
theorem d_RR_told_101 : decode b_RR_told 101 = .ok (.aload_n 3, 1) := by decide +kernel
theorem d_RR_told_102 : decode b_RR_told 102 = .ok (.getfield 100, 3) := by decide +kernel
theorem d_RR_told_105 : decode b_RR_told 105 = .ok (.ireturn, 1) := by decide +kernel
theorem d_RR_told_106 : decode b_RR_told 106 = .ok (.aload_n 3, 1) := by decide +kernel
theorem d_RR_told_107 : decode b_RR_told 107 = .ok (.getfield 92, 3) := by decide +kernel
theorem d_RR_told_110 : decode b_RR_told 110 = .ok (.ifCond .eq 7, 3) := by decide +kernel
theorem d_RR_told_113 : decode b_RR_told 113 = .ok (.iconst 1, 1) := by decide +kernel
theorem d_RR_told_114 : decode b_RR_told 114 = .ok (.goto 4, 3) := by decide +kernel
theorem d_RR_told_117 : decode b_RR_told 117 = .ok (.iconst 0, 1) := by decide +kernel
theorem d_RR_told_118 : decode b_RR_told 118 = .ok (.ireturn, 1) := by decide +kernel
theorem d_RR_told_119 : decode b_RR_told 119 = .ok (.aload_n 3, 1) := by decide +kernel
theorem d_RR_told_120 : decode b_RR_told 120 = .ok (.getfield 89, 3) := by decide +kernel
theorem d_RR_told_123 : decode b_RR_told 123 = .ok (.ifCond .eq 7, 3) := by decide +kernel
theorem d_RR_told_126 : decode b_RR_told 126 = .ok (.iconst 1, 1) := by decide +kernel
theorem d_RR_told_127 : decode b_RR_told 127 = .ok (.goto 4, 3) := by decide +kernel
theorem d_RR_told_130 : decode b_RR_told 130 = .ok (.iconst 0, 1) := by decide +kernel
theorem d_RR_told_131 : decode b_RR_told 131 = .ok (.ireturn, 1) := by decide +kernel
theorem d_RR_told_132 : decode b_RR_told 132 = .ok (.aload_n 3, 1) := by decide +kernel
theorem d_RR_told_133 : decode b_RR_told 133 = .ok (.getfield 129, 3) := by decide +kernel
theorem d_RR_told_136 : decode b_RR_told 136 = .ok (.ireturn, 1) := by decide +kernel
theorem d_RR_told_137 : decode b_RR_told 137 = .ok (.aload_n 3, 1) := by decide +kernel
theorem d_RR_told_138 : decode b_RR_told 138 = .ok (.getfield 162, 3) := by decide +kernel
theorem d_RR_told_141 : decode b_RR_told 141 = .ok (.ireturn, 1) := by decide +kernel
theorem d_RR_told_142 : decode b_RR_told 142 = .ok (.aload_n 3, 1) := by decide +kernel
theorem d_RR_told_143 : decode b_RR_told 143 = .ok (.getfield 75, 3) := by decide +kernel
theorem d_RR_told_146 : decode b_RR_told 146 = .ok (.ireturn, 1) := by decide +kernel
theorem d_RR_told_147 : decode b_RR_told 147 = .ok (.new 171, 3) := by decide +kernel
theorem d_RR_told_150 : decode b_RR_told 150 = .ok (.dup, 1) := by decide +kernel
theorem d_RR_told_151 : decode b_RR_told 151 = .ok (.ldc 190, 2) := by decide +kernel
theorem d_RR_told_153 : decode b_RR_told 153 = .ok (.invokespecial 175, 3) := by decide +kernel
theorem d_RR_told_156 : decode b_RR_told 156 = .ok (.athrow, 1) := by decide +kernel
end
section
/-! ===== each instruction, decoded ===== -/
theorem d_MO_arrive_0 : decode b_MO_arrive 0 = .ok (.aload_n 0, 1) := by decide +kernel
theorem d_MO_arrive_1 : decode b_MO_arrive 1 = .ok (.aload_n 0, 1) := by decide +kernel
theorem d_MO_arrive_2 : decode b_MO_arrive 2 = .ok (.iload_n 1, 1) := by decide +kernel
theorem d_MO_arrive_3 : decode b_MO_arrive 3 = .ok (.invokevirtual 93, 3) := by decide +kernel
theorem d_MO_arrive_6 : decode b_MO_arrive 6 = .ok (.ifCond .ne 7, 3) := by decide +kernel
theorem d_MO_arrive_9 : decode b_MO_arrive 9 = .ok (.iconst 1, 1) := by decide +kernel
theorem d_MO_arrive_10 : decode b_MO_arrive 10 = .ok (.goto 18, 3) := by decide +kernel
theorem d_MO_arrive_13 : decode b_MO_arrive 13 = .ok (.iload_n 2, 1) := by decide +kernel
theorem d_MO_arrive_14 : decode b_MO_arrive 14 = .ok (.iconst (-1), 1) := by decide +kernel
theorem d_MO_arrive_15 : decode b_MO_arrive 15 = .ok (.bipush 9, 2) := by decide +kernel
theorem d_MO_arrive_17 : decode b_MO_arrive 17 = .ok (.invokestatic 75, 3) := by decide +kernel
theorem d_MO_arrive_20 : decode b_MO_arrive 20 = .ok (.ifCond .ne 7, 3) := by decide +kernel
theorem d_MO_arrive_23 : decode b_MO_arrive 23 = .ok (.iconst 2, 1) := by decide +kernel
theorem d_MO_arrive_24 : decode b_MO_arrive 24 = .ok (.goto 4, 3) := by decide +kernel
theorem d_MO_arrive_27 : decode b_MO_arrive 27 = .ok (.iconst 0, 1) := by decide +kernel
theorem d_MO_arrive_28 : decode b_MO_arrive 28 = .ok (.putfield 68, 3) := by decide +kernel
theorem d_MO_arrive_31 : decode b_MO_arrive 31 = .ok (.aload_n 0, 1) := by decide +kernel
theorem d_MO_arrive_32 : decode b_MO_arrive 32 = .ok (.getfield 68, 3) := by decide +kernel
theorem d_MO_arrive_35 : decode b_MO_arrive 35 = .ok (.ifCond .ne 41, 3) := by decide +kernel
theorem d_MO_arrive_38 : decode b_MO_arrive 38 = .ok (.aload_n 0, 1) := by decide +kernel
theorem d_MO_arrive_39 : decode b_MO_arrive 39 = .ok (.aload_n 0, 1) := by decide +kernel
theorem d_MO_arrive_40 : decode b_MO_arrive 40 = .ok (.getfield 28, 3) := by decide +kernel
theorem d_MO_arrive_43 : decode b_MO_arrive 43 = .ok (.iload_n 1, 1) := by decide +kernel
theorem d_MO_arrive_44 : decode b_MO_arrive 44 = .ok (.iaload, 1) := by decide +kernel
theorem d_MO_arrive_45 : decode b_MO_arrive 45 = .ok (.ifCond .ne 8, 3) := by decide +kernel
theorem d_MO_arrive_48 : decode b_MO_arrive 48 = .ok (.iload_n 2, 1) := by decide +kernel
theorem d_MO_arrive_49 : decode b_MO_arrive 49 = .ok (.iconst (-1), 1) := by decide +kernel
theorem d_MO_arrive_50 : decode b_MO_arrive 50 = .ok (.if_icmp .eq 22, 3) := by decide +kernel
theorem d_MO_arrive_53 : decode b_MO_arrive 53 = .ok (.aload_n 0, 1) := by decide +kernel
theorem d_MO_arrive_54 : decode b_MO_arrive 54 = .ok (.getfield 28, 3) := by decide +kernel
theorem d_MO_arrive_57 : decode b_MO_arrive 57 = .ok (.iload_n 1, 1) := by decide +kernel
theorem d_MO_arrive_58 : decode b_MO_arrive 58 = .ok (.iaload, 1) := by decide +kernel
theorem d_MO_arrive_59 : decode b_MO_arrive 59 = .ok (.iconst 1, 1) := by decide +kernel
theorem d_MO_arrive_60 : decode b_MO_arrive 60 = .ok (.if_icmp .ne 8, 3) := by decide +kernel
theorem d_MO_arrive_63 : decode b_MO_arrive 63 = .ok (.iload_n 2, 1) := by decide +kernel
theorem d_MO_arrive_64 : decode b_MO_arrive 64 = .ok (.iconst (-1), 1) := by decide +kernel
theorem d_MO_arrive_65 : decode b_MO_arrive 65 = .ok (.if_icmp .ne 7, 3) := by decide +kernel
theorem d_MO_arrive_68 : decode b_MO_arrive 68 = .ok (.iconst 3, 1) := by decide +kernel
theorem d_MO_arrive_69 : decode b_MO_arrive 69 = .ok (.goto 4, 3) := by decide +kernel
theorem d_MO_arrive_72 : decode b_MO_arrive 72 = .ok (.iconst 0, 1) := by decide +kernel
theorem d_MO_arrive_73 : decode b_MO_arrive 73 = .ok (.putfield 68, 3) := by decide +kernel
theorem d_MO_arrive_76 : decode b_MO_arrive 76 = .ok (.aload_n 0, 1) := by decide +kernel
theorem d_MO_arrive_77 : decode b_MO_arrive 77 = .ok (.getfield 68, 3) := by decide +kernel
theorem d_MO_arrive_80 : decode b_MO_arrive 80 = .ok (.ifCond .le 4, 3) := by decide +kernel
theorem d_MO_arrive_83 : decode b_MO_arrive 83 = .ok (.return_, 1) := by decide +kernel
theorem d_MO_arrive_84 : decode b_MO_arrive 84 = .ok (.aload_n 0, 1) := by decide +kernel
theorem d_MO_arrive_85 : decode b_MO_arrive 85 = .ok (.getfield 28, 3) := by decide +kernel
theorem d_MO_arrive_88 : decode b_MO_arrive 88 = .ok (.iload_n 1, 1) := by decide +kernel
theorem d_MO_arrive_89 : decode b_MO_arrive 89 = .ok (.iconst 2, 1) := by decide +kernel
theorem d_MO_arrive_90 : decode b_MO_arrive 90 = .ok (.iastore, 1) := by decide +kernel
theorem d_MO_arrive_91 : decode b_MO_arrive 91 = .ok (.aload_n 0, 1) := by decide +kernel
theorem d_MO_arrive_92 : decode b_MO_arrive 92 = .ok (.getfield 34, 3) := by decide +kernel
theorem d_MO_arrive_95 : decode b_MO_arrive 95 = .ok (.iload_n 1, 1) := by decide +kernel
theorem d_MO_arrive_96 : decode b_MO_arrive 96 = .ok (.iload_n 2, 1) := by decide +kernel
theorem d_MO_arrive_97 : decode b_MO_arrive 97 = .ok (.iastore, 1) := by decide +kernel
theorem d_MO_arrive_98 : decode b_MO_arrive 98 = .ok (.return_, 1) := by decide +kernel
theorem d_MO_back_0 : decode b_MO_back 0 = .ok (.aload_n 0, 1) := by decide +kernel
theorem d_MO_back_1 : decode b_MO_back 1 = .ok (.aload_n 0, 1) := by decide +kernel
theorem d_MO_back_2 : decode b_MO_back 2 = .ok (.iload_n 1, 1) := by decide +kernel
theorem d_MO_back_3 : decode b_MO_back 3 = .ok (.invokevirtual 93, 3) := by decide +kernel
theorem d_MO_back_6 : decode b_MO_back 6 = .ok (.ifCond .ne 7, 3) := by decide +kernel
theorem d_MO_back_9 : decode b_MO_back 9 = .ok (.iconst 1, 1) := by decide +kernel
theorem d_MO_back_10 : decode b_MO_back 10 = .ok (.goto 4, 3) := by decide +kernel
theorem d_MO_back_13 : decode b_MO_back 13 = .ok (.iconst 0, 1) := by decide +kernel
theorem d_MO_back_14 : decode b_MO_back 14 = .ok (.putfield 68, 3) := by decide +kernel
theorem d_MO_back_17 : decode b_MO_back 17 = .ok (.aload_n 0, 1) := by decide +kernel
theorem d_MO_back_18 : decode b_MO_back 18 = .ok (.getfield 68, 3) := by decide +kernel
theorem d_MO_back_21 : decode b_MO_back 21 = .ok (.ifCond .ne 68, 3) := by decide +kernel
theorem d_MO_back_24 : decode b_MO_back 24 = .ok (.aload_n 0, 1) := by decide +kernel
theorem d_MO_back_25 : decode b_MO_back 25 = .ok (.aload_n 0, 1) := by decide +kernel
theorem d_MO_back_26 : decode b_MO_back 26 = .ok (.getfield 28, 3) := by decide +kernel
theorem d_MO_back_29 : decode b_MO_back 29 = .ok (.iload_n 1, 1) := by decide +kernel
theorem d_MO_back_30 : decode b_MO_back 30 = .ok (.iaload, 1) := by decide +kernel
theorem d_MO_back_31 : decode b_MO_back 31 = .ok (.iconst 3, 1) := by decide +kernel
theorem d_MO_back_32 : decode b_MO_back 32 = .ok (.if_icmp .ne 49, 3) := by decide +kernel
theorem d_MO_back_35 : decode b_MO_back 35 = .ok (.aload_n 0, 1) := by decide +kernel
theorem d_MO_back_36 : decode b_MO_back 36 = .ok (.getfield 37, 3) := by decide +kernel
theorem d_MO_back_39 : decode b_MO_back 39 = .ok (.iload_n 1, 1) := by decide +kernel
theorem d_MO_back_40 : decode b_MO_back 40 = .ok (.baload, 1) := by decide +kernel
theorem d_MO_back_41 : decode b_MO_back 41 = .ok (.ifCond .ne 40, 3) := by decide +kernel
theorem d_MO_back_44 : decode b_MO_back 44 = .ok (.aload_n 0, 1) := by decide +kernel
theorem d_MO_back_45 : decode b_MO_back 45 = .ok (.getfield 41, 3) := by decide +kernel
theorem d_MO_back_48 : decode b_MO_back 48 = .ok (.iload_n 1, 1) := by decide +kernel
theorem d_MO_back_49 : decode b_MO_back 49 = .ok (.baload, 1) := by decide +kernel
theorem d_MO_back_50 : decode b_MO_back 50 = .ok (.ifCond .ne 31, 3) := by decide +kernel
theorem d_MO_back_53 : decode b_MO_back 53 = .ok (.aload_n 0, 1) := by decide +kernel
theorem d_MO_back_54 : decode b_MO_back 54 = .ok (.getfield 44, 3) := by decide +kernel
theorem d_MO_back_57 : decode b_MO_back 57 = .ok (.iload_n 1, 1) := by decide +kernel
theorem d_MO_back_58 : decode b_MO_back 58 = .ok (.iaload, 1) := by decide +kernel
theorem d_MO_back_59 : decode b_MO_back 59 = .ok (.iconst 2, 1) := by decide +kernel
theorem d_MO_back_60 : decode b_MO_back 60 = .ok (.if_icmp .gt 21, 3) := by decide +kernel
theorem d_MO_back_63 : decode b_MO_back 63 = .ok (.aload_n 0, 1) := by decide +kernel
theorem d_MO_back_64 : decode b_MO_back 64 = .ok (.getfield 82, 3) := by decide +kernel
theorem d_MO_back_67 : decode b_MO_back 67 = .ok (.aload_n 0, 1) := by decide +kernel
theorem d_MO_back_68 : decode b_MO_back 68 = .ok (.getfield 16, 3) := by decide +kernel
theorem d_MO_back_71 : decode b_MO_back 71 = .ok (.aload_n 0, 1) := by decide +kernel
theorem d_MO_back_72 : decode b_MO_back 72 = .ok (.getfield 22, 3) := by decide +kernel
theorem d_MO_back_75 : decode b_MO_back 75 = .ok (.iload_n 1, 1) := by decide +kernel
theorem d_MO_back_76 : decode b_MO_back 76 = .ok (.iaload, 1) := by decide +kernel
theorem d_MO_back_77 : decode b_MO_back 77 = .ok (.iaload, 1) := by decide +kernel
theorem d_MO_back_78 : decode b_MO_back 78 = .ok (.if_icmp .le 7, 3) := by decide +kernel
theorem d_MO_back_81 : decode b_MO_back 81 = .ok (.iconst 2, 1) := by decide +kernel
theorem d_MO_back_82 : decode b_MO_back 82 = .ok (.goto 4, 3) := by decide +kernel
theorem d_MO_back_85 : decode b_MO_back 85 = .ok (.iconst 0, 1) := by decide +kernel
theorem d_MO_back_86 : decode b_MO_back 86 = .ok (.putfield 68, 3) := by decide +kernel
theorem d_MO_back_89 : decode b_MO_back 89 = .ok (.aload_n 0, 1) := by decide +kernel
theorem d_MO_back_90 : decode b_MO_back 90 = .ok (.getfield 68, 3) := by decide +kernel
theorem d_MO_back_93 : decode b_MO_back 93 = .ok (.ifCond .le 5, 3) := by decide +kernel
theorem d_MO_back_96 : decode b_MO_back 96 = .ok (.iconst 0, 1) := by decide +kernel
theorem d_MO_back_97 : decode b_MO_back 97 = .ok (.ireturn, 1) := by decide +kernel
theorem d_MO_back_98 : decode b_MO_back 98 = .ok (.aload_n 0, 1) := by decide +kernel
theorem d_MO_back_99 : decode b_MO_back 99 = .ok (.getfield 28, 3) := by decide +kernel
theorem d_MO_back_102 : decode b_MO_back 102 = .ok (.iload_n 1, 1) := by decide +kernel
theorem d_MO_back_103 : decode b_MO_back 103 = .ok (.bipush 6, 2) := by decide +kernel
theorem d_MO_back_105 : decode b_MO_back 105 = .ok (.iastore, 1) := by decide +kernel
theorem d_MO_back_106 : decode b_MO_back 106 = .ok (.aload_n 0, 1) := by decide +kernel
theorem d_MO_back_107 : decode b_MO_back 107 = .ok (.aload_n 0, 1) := by decide +kernel
theorem d_MO_back_108 : decode b_MO_back 108 = .ok (.getfield 44, 3) := by decide +kernel
theorem d_MO_back_111 : decode b_MO_back 111 = .ok (.iload_n 1, 1) := by decide +kernel
theorem d_MO_back_112 : decode b_MO_back 112 = .ok (.iaload, 1) := by decide +kernel
theorem d_MO_back_113 : decode b_MO_back 113 = .ok (.invokevirtual 103, 3) := by decide +kernel
theorem d_MO_back_116 : decode b_MO_back 116 = .ok (.ireturn, 1) := by decide +kernel
theorem d_MO_backs_0 : decode b_MO_backs 0 = .ok (.iconst 0, 1) := by decide +kernel
theorem d_MO_backs_1 : decode b_MO_backs 1 = .ok (.istore_n 2, 1) := by decide +kernel
theorem d_MO_backs_2 : decode b_MO_backs 2 = .ok (.iconst 1, 1) := by decide +kernel
theorem d_MO_backs_3 : decode b_MO_backs 3 = .ok (.istore_n 3, 1) := by decide +kernel
theorem d_MO_backs_4 : decode b_MO_backs 4 = .ok (.iload_n 3, 1) := by decide +kernel
theorem d_MO_backs_5 : decode b_MO_backs 5 = .ok (.aload_n 0, 1) := by decide +kernel
theorem d_MO_backs_6 : decode b_MO_backs 6 = .ok (.getfield 79, 3) := by decide +kernel
theorem d_MO_backs_9 : decode b_MO_backs 9 = .ok (.if_icmp .gt 38, 3) := by decide +kernel
theorem d_MO_backs_12 : decode b_MO_backs 12 = .ok (.iload_n 2, 1) := by decide +kernel
theorem d_MO_backs_13 : decode b_MO_backs 13 = .ok (.aload_n 0, 1) := by decide +kernel
theorem d_MO_backs_14 : decode b_MO_backs 14 = .ok (.getfield 28, 3) := by decide +kernel
theorem d_MO_backs_17 : decode b_MO_backs 17 = .ok (.iload_n 3, 1) := by decide +kernel
theorem d_MO_backs_18 : decode b_MO_backs 18 = .ok (.iaload, 1) := by decide +kernel
theorem d_MO_backs_19 : decode b_MO_backs 19 = .ok (.bipush 6, 2) := by decide +kernel
theorem d_MO_backs_21 : decode b_MO_backs 21 = .ok (.if_icmp .ne 17, 3) := by decide +kernel
theorem d_MO_backs_24 : decode b_MO_backs 24 = .ok (.aload_n 0, 1) := by decide +kernel
theorem d_MO_backs_25 : decode b_MO_backs 25 = .ok (.getfield 44, 3) := by decide +kernel
theorem d_MO_backs_28 : decode b_MO_backs 28 = .ok (.iload_n 3, 1) := by decide +kernel
theorem d_MO_backs_29 : decode b_MO_backs 29 = .ok (.iaload, 1) := by decide +kernel
theorem d_MO_backs_30 : decode b_MO_backs 30 = .ok (.iload_n 1, 1) := by decide +kernel
theorem d_MO_backs_31 : decode b_MO_backs 31 = .ok (.if_icmp .ne 7, 3) := by decide +kernel
theorem d_MO_backs_34 : decode b_MO_backs 34 = .ok (.iconst 1, 1) := by decide +kernel
theorem d_MO_backs_35 : decode b_MO_backs 35 = .ok (.goto 4, 3) := by decide +kernel
theorem d_MO_backs_38 : decode b_MO_backs 38 = .ok (.iconst 0, 1) := by decide +kernel
theorem d_MO_backs_39 : decode b_MO_backs 39 = .ok (.iadd, 1) := by decide +kernel
theorem d_MO_backs_40 : decode b_MO_backs 40 = .ok (.istore_n 2, 1) := by decide +kernel
theorem d_MO_backs_41 : decode b_MO_backs 41 = .ok (.iinc 3 1, 3) := by decide +kernel
theorem d_MO_backs_44 : decode b_MO_backs 44 = .ok (.goto (-40), 3) := by decide +kernel
theorem d_MO_backs_47 : decode b_MO_backs 47 = .ok (.iload_n 2, 1) := by decide +kernel
theorem d_MO_backs_48 : decode b_MO_backs 48 = .ok (.ireturn, 1) := by decide +kernel
theorem d_MO_check_0 : decode b_MO_check 0 = .ok (.aload_n 0, 1) := by decide +kernel
theorem d_MO_check_1 : decode b_MO_check 1 = .ok (.aload_n 0, 1) := by decide +kernel
theorem d_MO_check_2 : decode b_MO_check 2 = .ok (.iload_n 1, 1) := by decide +kernel
theorem d_MO_check_3 : decode b_MO_check 3 = .ok (.invokevirtual 93, 3) := by decide +kernel
theorem d_MO_check_6 : decode b_MO_check 6 = .ok (.ifCond .ne 7, 3) := by decide +kernel
theorem d_MO_check_9 : decode b_MO_check 9 = .ok (.iconst 1, 1) := by decide +kernel
theorem d_MO_check_10 : decode b_MO_check 10 = .ok (.goto 17, 3) := by decide +kernel
theorem d_MO_check_13 : decode b_MO_check 13 = .ok (.iload_n 2, 1) := by decide +kernel
theorem d_MO_check_14 : decode b_MO_check 14 = .ok (.iconst 0, 1) := by decide +kernel
theorem d_MO_check_15 : decode b_MO_check 15 = .ok (.iconst 4, 1) := by decide +kernel
theorem d_MO_check_16 : decode b_MO_check 16 = .ok (.invokestatic 75, 3) := by decide +kernel
theorem d_MO_check_19 : decode b_MO_check 19 = .ok (.ifCond .ne 7, 3) := by decide +kernel
theorem d_MO_check_22 : decode b_MO_check 22 = .ok (.iconst 2, 1) := by decide +kernel
theorem d_MO_check_23 : decode b_MO_check 23 = .ok (.goto 4, 3) := by decide +kernel
theorem d_MO_check_26 : decode b_MO_check 26 = .ok (.iconst 0, 1) := by decide +kernel
theorem d_MO_check_27 : decode b_MO_check 27 = .ok (.putfield 68, 3) := by decide +kernel
theorem d_MO_check_30 : decode b_MO_check 30 = .ok (.aload_n 0, 1) := by decide +kernel
theorem d_MO_check_31 : decode b_MO_check 31 = .ok (.getfield 68, 3) := by decide +kernel
theorem d_MO_check_34 : decode b_MO_check 34 = .ok (.ifCond .ne 22, 3) := by decide +kernel
theorem d_MO_check_37 : decode b_MO_check 37 = .ok (.aload_n 0, 1) := by decide +kernel
theorem d_MO_check_38 : decode b_MO_check 38 = .ok (.aload_n 0, 1) := by decide +kernel
theorem d_MO_check_39 : decode b_MO_check 39 = .ok (.getfield 28, 3) := by decide +kernel
theorem d_MO_check_42 : decode b_MO_check 42 = .ok (.iload_n 1, 1) := by decide +kernel
theorem d_MO_check_43 : decode b_MO_check 43 = .ok (.iaload, 1) := by decide +kernel
theorem d_MO_check_44 : decode b_MO_check 44 = .ok (.iconst 2, 1) := by decide +kernel
theorem d_MO_check_45 : decode b_MO_check 45 = .ok (.if_icmp .eq 7, 3) := by decide +kernel
theorem d_MO_check_48 : decode b_MO_check 48 = .ok (.iconst 3, 1) := by decide +kernel
theorem d_MO_check_49 : decode b_MO_check 49 = .ok (.goto 4, 3) := by decide +kernel
theorem d_MO_check_52 : decode b_MO_check 52 = .ok (.iconst 0, 1) := by decide +kernel
theorem d_MO_check_53 : decode b_MO_check 53 = .ok (.putfield 68, 3) := by decide +kernel
theorem d_MO_check_56 : decode b_MO_check 56 = .ok (.aload_n 0, 1) := by decide +kernel
theorem d_MO_check_57 : decode b_MO_check 57 = .ok (.getfield 68, 3) := by decide +kernel
theorem d_MO_check_60 : decode b_MO_check 60 = .ok (.ifCond .le 5, 3) := by decide +kernel
theorem d_MO_check_63 : decode b_MO_check 63 = .ok (.iconst 0, 1) := by decide +kernel
theorem d_MO_check_64 : decode b_MO_check 64 = .ok (.ireturn, 1) := by decide +kernel
theorem d_MO_check_65 : decode b_MO_check 65 = .ok (.aload_n 0, 1) := by decide +kernel
theorem d_MO_check_66 : decode b_MO_check 66 = .ok (.getfield 53, 3) := by decide +kernel
theorem d_MO_check_69 : decode b_MO_check 69 = .ok (.iload_n 1, 1) := by decide +kernel
theorem d_MO_check_70 : decode b_MO_check 70 = .ok (.iload_n 3, 1) := by decide +kernel
theorem d_MO_check_71 : decode b_MO_check 71 = .ok (.ifCond .eq 18, 3) := by decide +kernel
theorem d_MO_check_74 : decode b_MO_check 74 = .ok (.aload_n 0, 1) := by decide +kernel
theorem d_MO_check_75 : decode b_MO_check 75 = .ok (.getfield 53, 3) := by decide +kernel
theorem d_MO_check_78 : decode b_MO_check 78 = .ok (.iload_n 1, 1) := by decide +kernel
theorem d_MO_check_79 : decode b_MO_check 79 = .ok (.iaload, 1) := by decide +kernel
theorem d_MO_check_80 : decode b_MO_check 80 = .ok (.iconst 1, 1) := by decide +kernel
theorem d_MO_check_81 : decode b_MO_check 81 = .ok (.iload_n 2, 1) := by decide +kernel
theorem d_MO_check_82 : decode b_MO_check 82 = .ok (.ishl, 1) := by decide +kernel
theorem d_MO_check_83 : decode b_MO_check 83 = .ok (.iconst (-1), 1) := by decide +kernel
theorem d_MO_check_84 : decode b_MO_check 84 = .ok (.ixor, 1) := by decide +kernel
theorem d_MO_check_85 : decode b_MO_check 85 = .ok (.iand, 1) := by decide +kernel
theorem d_MO_check_86 : decode b_MO_check 86 = .ok (.goto 13, 3) := by decide +kernel
theorem d_MO_check_89 : decode b_MO_check 89 = .ok (.aload_n 0, 1) := by decide +kernel
theorem d_MO_check_90 : decode b_MO_check 90 = .ok (.getfield 53, 3) := by decide +kernel
theorem d_MO_check_93 : decode b_MO_check 93 = .ok (.iload_n 1, 1) := by decide +kernel
theorem d_MO_check_94 : decode b_MO_check 94 = .ok (.iaload, 1) := by decide +kernel
theorem d_MO_check_95 : decode b_MO_check 95 = .ok (.iconst 1, 1) := by decide +kernel
theorem d_MO_check_96 : decode b_MO_check 96 = .ok (.iload_n 2, 1) := by decide +kernel
theorem d_MO_check_97 : decode b_MO_check 97 = .ok (.ishl, 1) := by decide +kernel
theorem d_MO_check_98 : decode b_MO_check 98 = .ok (.ior, 1) := by decide +kernel
theorem d_MO_check_99 : decode b_MO_check 99 = .ok (.iastore, 1) := by decide +kernel
theorem d_MO_check_100 : decode b_MO_check 100 = .ok (.iconst 0, 1) := by decide +kernel
theorem d_MO_check_101 : decode b_MO_check 101 = .ok (.istore 4, 2) := by decide +kernel
theorem d_MO_check_103 : decode b_MO_check 103 = .ok (.iconst 0, 1) := by decide +kernel
theorem d_MO_check_104 : decode b_MO_check 104 = .ok (.istore 5, 2) := by decide +kernel
theorem d_MO_check_106 : decode b_MO_check 106 = .ok (.iload 5, 2) := by decide +kernel
theorem d_MO_check_108 : decode b_MO_check 108 = .ok (.iconst 5, 1) := by decide +kernel
theorem d_MO_check_109 : decode b_MO_check 109 = .ok (.if_icmp .ge 25, 3) := by decide +kernel
theorem d_MO_check_112 : decode b_MO_check 112 = .ok (.iload 4, 2) := by decide +kernel
theorem d_MO_check_114 : decode b_MO_check 114 = .ok (.aload_n 0, 1) := by decide +kernel
theorem d_MO_check_115 : decode b_MO_check 115 = .ok (.getfield 53, 3) := by decide +kernel
theorem d_MO_check_118 : decode b_MO_check 118 = .ok (.iload_n 1, 1) := by decide +kernel
theorem d_MO_check_119 : decode b_MO_check 119 = .ok (.iaload, 1) := by decide +kernel
theorem d_MO_check_120 : decode b_MO_check 120 = .ok (.iload 5, 2) := by decide +kernel
theorem d_MO_check_122 : decode b_MO_check 122 = .ok (.ishr, 1) := by decide +kernel
theorem d_MO_check_123 : decode b_MO_check 123 = .ok (.iconst 1, 1) := by decide +kernel
theorem d_MO_check_124 : decode b_MO_check 124 = .ok (.iand, 1) := by decide +kernel
theorem d_MO_check_125 : decode b_MO_check 125 = .ok (.iadd, 1) := by decide +kernel
theorem d_MO_check_126 : decode b_MO_check 126 = .ok (.istore 4, 2) := by decide +kernel
theorem d_MO_check_128 : decode b_MO_check 128 = .ok (.iinc 5 1, 3) := by decide +kernel
theorem d_MO_check_131 : decode b_MO_check 131 = .ok (.goto (-25), 3) := by decide +kernel
theorem d_MO_check_134 : decode b_MO_check 134 = .ok (.iload 4, 2) := by decide +kernel
theorem d_MO_check_136 : decode b_MO_check 136 = .ok (.ireturn, 1) := by decide +kernel
theorem d_MO_comes_0 : decode b_MO_comes 0 = .ok (.aload_n 0, 1) := by decide +kernel
theorem d_MO_comes_1 : decode b_MO_comes 1 = .ok (.aload_n 0, 1) := by decide +kernel
theorem d_MO_comes_2 : decode b_MO_comes 2 = .ok (.iload_n 1, 1) := by decide +kernel
theorem d_MO_comes_3 : decode b_MO_comes 3 = .ok (.invokevirtual 86, 3) := by decide +kernel
theorem d_MO_comes_6 : decode b_MO_comes 6 = .ok (.ifCond .ne 7, 3) := by decide +kernel
theorem d_MO_comes_9 : decode b_MO_comes 9 = .ok (.iconst 1, 1) := by decide +kernel
theorem d_MO_comes_10 : decode b_MO_comes 10 = .ok (.goto 18, 3) := by decide +kernel
theorem d_MO_comes_13 : decode b_MO_comes 13 = .ok (.iload_n 2, 1) := by decide +kernel
theorem d_MO_comes_14 : decode b_MO_comes 14 = .ok (.iconst 0, 1) := by decide +kernel
theorem d_MO_comes_15 : decode b_MO_comes 15 = .ok (.bipush 7, 2) := by decide +kernel
theorem d_MO_comes_17 : decode b_MO_comes 17 = .ok (.invokestatic 75, 3) := by decide +kernel
theorem d_MO_comes_20 : decode b_MO_comes 20 = .ok (.ifCond .ne 7, 3) := by decide +kernel
theorem d_MO_comes_23 : decode b_MO_comes 23 = .ok (.iconst 2, 1) := by decide +kernel
theorem d_MO_comes_24 : decode b_MO_comes 24 = .ok (.goto 4, 3) := by decide +kernel
theorem d_MO_comes_27 : decode b_MO_comes 27 = .ok (.iconst 0, 1) := by decide +kernel
theorem d_MO_comes_28 : decode b_MO_comes 28 = .ok (.putfield 68, 3) := by decide +kernel
theorem d_MO_comes_31 : decode b_MO_comes 31 = .ok (.aload_n 0, 1) := by decide +kernel
theorem d_MO_comes_32 : decode b_MO_comes 32 = .ok (.getfield 68, 3) := by decide +kernel
theorem d_MO_comes_35 : decode b_MO_comes 35 = .ok (.ifCond .ne 33, 3) := by decide +kernel
theorem d_MO_comes_38 : decode b_MO_comes 38 = .ok (.aload_n 0, 1) := by decide +kernel
theorem d_MO_comes_39 : decode b_MO_comes 39 = .ok (.aload_n 0, 1) := by decide +kernel
theorem d_MO_comes_40 : decode b_MO_comes 40 = .ok (.iload_n 1, 1) := by decide +kernel
theorem d_MO_comes_41 : decode b_MO_comes 41 = .ok (.invokevirtual 90, 3) := by decide +kernel
theorem d_MO_comes_44 : decode b_MO_comes 44 = .ok (.ifCond .eq 7, 3) := by decide +kernel
theorem d_MO_comes_47 : decode b_MO_comes 47 = .ok (.iconst 3, 1) := by decide +kernel
theorem d_MO_comes_48 : decode b_MO_comes 48 = .ok (.goto 17, 3) := by decide +kernel
theorem d_MO_comes_51 : decode b_MO_comes 51 = .ok (.aload_n 0, 1) := by decide +kernel
theorem d_MO_comes_52 : decode b_MO_comes 52 = .ok (.getfield 79, 3) := by decide +kernel
theorem d_MO_comes_55 : decode b_MO_comes 55 = .ok (.bipush 20, 2) := by decide +kernel
theorem d_MO_comes_57 : decode b_MO_comes 57 = .ok (.if_icmp .ne 7, 3) := by decide +kernel
theorem d_MO_comes_60 : decode b_MO_comes 60 = .ok (.iconst 4, 1) := by decide +kernel
theorem d_MO_comes_61 : decode b_MO_comes 61 = .ok (.goto 4, 3) := by decide +kernel
theorem d_MO_comes_64 : decode b_MO_comes 64 = .ok (.iconst 0, 1) := by decide +kernel
theorem d_MO_comes_65 : decode b_MO_comes 65 = .ok (.putfield 68, 3) := by decide +kernel
theorem d_MO_comes_68 : decode b_MO_comes 68 = .ok (.aload_n 0, 1) := by decide +kernel
theorem d_MO_comes_69 : decode b_MO_comes 69 = .ok (.getfield 68, 3) := by decide +kernel
theorem d_MO_comes_72 : decode b_MO_comes 72 = .ok (.ifCond .le 5, 3) := by decide +kernel
theorem d_MO_comes_75 : decode b_MO_comes 75 = .ok (.iconst 0, 1) := by decide +kernel
theorem d_MO_comes_76 : decode b_MO_comes 76 = .ok (.ireturn, 1) := by decide +kernel
theorem d_MO_comes_77 : decode b_MO_comes 77 = .ok (.aload_n 0, 1) := by decide +kernel
theorem d_MO_comes_78 : decode b_MO_comes 78 = .ok (.dup, 1) := by decide +kernel
theorem d_MO_comes_79 : decode b_MO_comes 79 = .ok (.getfield 79, 3) := by decide +kernel
theorem d_MO_comes_82 : decode b_MO_comes 82 = .ok (.iconst 1, 1) := by decide +kernel
theorem d_MO_comes_83 : decode b_MO_comes 83 = .ok (.iadd, 1) := by decide +kernel
theorem d_MO_comes_84 : decode b_MO_comes 84 = .ok (.putfield 79, 3) := by decide +kernel
theorem d_MO_comes_87 : decode b_MO_comes 87 = .ok (.aload_n 0, 1) := by decide +kernel
theorem d_MO_comes_88 : decode b_MO_comes 88 = .ok (.getfield 22, 3) := by decide +kernel
theorem d_MO_comes_91 : decode b_MO_comes 91 = .ok (.aload_n 0, 1) := by decide +kernel
theorem d_MO_comes_92 : decode b_MO_comes 92 = .ok (.getfield 79, 3) := by decide +kernel
theorem d_MO_comes_95 : decode b_MO_comes 95 = .ok (.iload_n 1, 1) := by decide +kernel
theorem d_MO_comes_96 : decode b_MO_comes 96 = .ok (.iastore, 1) := by decide +kernel
theorem d_MO_comes_97 : decode b_MO_comes 97 = .ok (.aload_n 0, 1) := by decide +kernel
theorem d_MO_comes_98 : decode b_MO_comes 98 = .ok (.getfield 25, 3) := by decide +kernel
theorem d_MO_comes_101 : decode b_MO_comes 101 = .ok (.aload_n 0, 1) := by decide +kernel
theorem d_MO_comes_102 : decode b_MO_comes 102 = .ok (.getfield 79, 3) := by decide +kernel
theorem d_MO_comes_105 : decode b_MO_comes 105 = .ok (.iload_n 2, 1) := by decide +kernel
theorem d_MO_comes_106 : decode b_MO_comes 106 = .ok (.iastore, 1) := by decide +kernel
theorem d_MO_comes_107 : decode b_MO_comes 107 = .ok (.aload_n 0, 1) := by decide +kernel
theorem d_MO_comes_108 : decode b_MO_comes 108 = .ok (.getfield 28, 3) := by decide +kernel
theorem d_MO_comes_111 : decode b_MO_comes 111 = .ok (.aload_n 0, 1) := by decide +kernel
theorem d_MO_comes_112 : decode b_MO_comes 112 = .ok (.getfield 79, 3) := by decide +kernel
theorem d_MO_comes_115 : decode b_MO_comes 115 = .ok (.iload_n 3, 1) := by decide +kernel
theorem d_MO_comes_116 : decode b_MO_comes 116 = .ok (.ifCond .eq 7, 3) := by decide +kernel
theorem d_MO_comes_119 : decode b_MO_comes 119 = .ok (.iconst 0, 1) := by decide +kernel
theorem d_MO_comes_120 : decode b_MO_comes 120 = .ok (.goto 4, 3) := by decide +kernel
theorem d_MO_comes_123 : decode b_MO_comes 123 = .ok (.iconst 1, 1) := by decide +kernel
theorem d_MO_comes_124 : decode b_MO_comes 124 = .ok (.iastore, 1) := by decide +kernel
theorem d_MO_comes_125 : decode b_MO_comes 125 = .ok (.aload_n 0, 1) := by decide +kernel
theorem d_MO_comes_126 : decode b_MO_comes 126 = .ok (.getfield 31, 3) := by decide +kernel
theorem d_MO_comes_129 : decode b_MO_comes 129 = .ok (.aload_n 0, 1) := by decide +kernel
theorem d_MO_comes_130 : decode b_MO_comes 130 = .ok (.getfield 79, 3) := by decide +kernel
theorem d_MO_comes_133 : decode b_MO_comes 133 = .ok (.aload_n 0, 1) := by decide +kernel
theorem d_MO_comes_134 : decode b_MO_comes 134 = .ok (.getfield 82, 3) := by decide +kernel
theorem d_MO_comes_137 : decode b_MO_comes 137 = .ok (.iastore, 1) := by decide +kernel
theorem d_MO_comes_138 : decode b_MO_comes 138 = .ok (.aload_n 0, 1) := by decide +kernel
theorem d_MO_comes_139 : decode b_MO_comes 139 = .ok (.getfield 34, 3) := by decide +kernel
theorem d_MO_comes_142 : decode b_MO_comes 142 = .ok (.aload_n 0, 1) := by decide +kernel
theorem d_MO_comes_143 : decode b_MO_comes 143 = .ok (.getfield 79, 3) := by decide +kernel
theorem d_MO_comes_146 : decode b_MO_comes 146 = .ok (.iconst (-1), 1) := by decide +kernel
theorem d_MO_comes_147 : decode b_MO_comes 147 = .ok (.iastore, 1) := by decide +kernel
theorem d_MO_comes_148 : decode b_MO_comes 148 = .ok (.aload_n 0, 1) := by decide +kernel
theorem d_MO_comes_149 : decode b_MO_comes 149 = .ok (.getfield 44, 3) := by decide +kernel
theorem d_MO_comes_152 : decode b_MO_comes 152 = .ok (.aload_n 0, 1) := by decide +kernel
theorem d_MO_comes_153 : decode b_MO_comes 153 = .ok (.getfield 79, 3) := by decide +kernel
theorem d_MO_comes_156 : decode b_MO_comes 156 = .ok (.iconst (-1), 1) := by decide +kernel
theorem d_MO_comes_157 : decode b_MO_comes 157 = .ok (.iastore, 1) := by decide +kernel
theorem d_MO_comes_158 : decode b_MO_comes 158 = .ok (.aload_n 0, 1) := by decide +kernel
theorem d_MO_comes_159 : decode b_MO_comes 159 = .ok (.getfield 47, 3) := by decide +kernel
theorem d_MO_comes_162 : decode b_MO_comes 162 = .ok (.aload_n 0, 1) := by decide +kernel
theorem d_MO_comes_163 : decode b_MO_comes 163 = .ok (.getfield 79, 3) := by decide +kernel
theorem d_MO_comes_166 : decode b_MO_comes 166 = .ok (.iconst (-1), 1) := by decide +kernel
theorem d_MO_comes_167 : decode b_MO_comes 167 = .ok (.iastore, 1) := by decide +kernel
theorem d_MO_comes_168 : decode b_MO_comes 168 = .ok (.aload_n 0, 1) := by decide +kernel
theorem d_MO_comes_169 : decode b_MO_comes 169 = .ok (.getfield 50, 3) := by decide +kernel
theorem d_MO_comes_172 : decode b_MO_comes 172 = .ok (.aload_n 0, 1) := by decide +kernel
theorem d_MO_comes_173 : decode b_MO_comes 173 = .ok (.getfield 79, 3) := by decide +kernel
theorem d_MO_comes_176 : decode b_MO_comes 176 = .ok (.iconst (-1), 1) := by decide +kernel
theorem d_MO_comes_177 : decode b_MO_comes 177 = .ok (.iastore, 1) := by decide +kernel
theorem d_MO_comes_178 : decode b_MO_comes 178 = .ok (.aload_n 0, 1) := by decide +kernel
theorem d_MO_comes_179 : decode b_MO_comes 179 = .ok (.getfield 79, 3) := by decide +kernel
theorem d_MO_comes_182 : decode b_MO_comes 182 = .ok (.ireturn, 1) := by decide +kernel
theorem d_MO_count_0 : decode b_MO_count 0 = .ok (.aload_n 0, 1) := by decide +kernel
theorem d_MO_count_1 : decode b_MO_count 1 = .ok (.iconst 0, 1) := by decide +kernel
theorem d_MO_count_2 : decode b_MO_count 2 = .ok (.putfield 68, 3) := by decide +kernel
theorem d_MO_count_5 : decode b_MO_count 5 = .ok (.iload_n 1, 1) := by decide +kernel
theorem d_MO_count_6 : decode b_MO_count 6 = .ok (.ifCond .ne 8, 3) := by decide +kernel
theorem d_MO_count_9 : decode b_MO_count 9 = .ok (.aload_n 0, 1) := by decide +kernel
theorem d_MO_count_10 : decode b_MO_count 10 = .ok (.getfield 72, 3) := by decide +kernel
theorem d_MO_count_13 : decode b_MO_count 13 = .ok (.ireturn, 1) := by decide +kernel
theorem d_MO_count_14 : decode b_MO_count 14 = .ok (.iload_n 1, 1) := by decide +kernel
theorem d_MO_count_15 : decode b_MO_count 15 = .ok (.iconst 1, 1) := by decide +kernel
theorem d_MO_count_16 : decode b_MO_count 16 = .ok (.if_icmp .ne 8, 3) := by decide +kernel
theorem d_MO_count_19 : decode b_MO_count 19 = .ok (.aload_n 0, 1) := by decide +kernel
theorem d_MO_count_20 : decode b_MO_count 20 = .ok (.getfield 79, 3) := by decide +kernel
theorem d_MO_count_23 : decode b_MO_count 23 = .ok (.ireturn, 1) := by decide +kernel
theorem d_MO_count_24 : decode b_MO_count 24 = .ok (.iload_n 1, 1) := by decide +kernel
theorem d_MO_count_25 : decode b_MO_count 25 = .ok (.iconst 2, 1) := by decide +kernel
theorem d_MO_count_26 : decode b_MO_count 26 = .ok (.if_icmp .ne 8, 3) := by decide +kernel
theorem d_MO_count_29 : decode b_MO_count 29 = .ok (.aload_n 0, 1) := by decide +kernel
theorem d_MO_count_30 : decode b_MO_count 30 = .ok (.getfield 82, 3) := by decide +kernel
theorem d_MO_count_33 : decode b_MO_count 33 = .ok (.ireturn, 1) := by decide +kernel
theorem d_MO_count_34 : decode b_MO_count 34 = .ok (.iload_n 1, 1) := by decide +kernel
theorem d_MO_count_35 : decode b_MO_count 35 = .ok (.iconst 4, 1) := by decide +kernel
theorem d_MO_count_36 : decode b_MO_count 36 = .ok (.bipush 6, 2) := by decide +kernel
theorem d_MO_count_38 : decode b_MO_count 38 = .ok (.invokestatic 75, 3) := by decide +kernel
theorem d_MO_count_41 : decode b_MO_count 41 = .ok (.ifCond .eq 11, 3) := by decide +kernel
theorem d_MO_count_44 : decode b_MO_count 44 = .ok (.aload_n 0, 1) := by decide +kernel
theorem d_MO_count_45 : decode b_MO_count 45 = .ok (.iload_n 1, 1) := by decide +kernel
theorem d_MO_count_46 : decode b_MO_count 46 = .ok (.iconst 4, 1) := by decide +kernel
theorem d_MO_count_47 : decode b_MO_count 47 = .ok (.isub, 1) := by decide +kernel
theorem d_MO_count_48 : decode b_MO_count 48 = .ok (.invokevirtual 103, 3) := by decide +kernel
theorem d_MO_count_51 : decode b_MO_count 51 = .ok (.ireturn, 1) := by decide +kernel
theorem d_MO_count_52 : decode b_MO_count 52 = .ok (.iconst 0, 1) := by decide +kernel
theorem d_MO_count_53 : decode b_MO_count 53 = .ok (.istore_n 2, 1) := by decide +kernel
theorem d_MO_count_54 : decode b_MO_count 54 = .ok (.iconst 1, 1) := by decide +kernel
theorem d_MO_count_55 : decode b_MO_count 55 = .ok (.istore_n 3, 1) := by decide +kernel
theorem d_MO_count_56 : decode b_MO_count 56 = .ok (.iload_n 3, 1) := by decide +kernel
theorem d_MO_count_57 : decode b_MO_count 57 = .ok (.aload_n 0, 1) := by decide +kernel
theorem d_MO_count_58 : decode b_MO_count 58 = .ok (.getfield 79, 3) := by decide +kernel
theorem d_MO_count_61 : decode b_MO_count 61 = .ok (.if_icmp .gt 50, 3) := by decide +kernel
theorem d_MO_count_64 : decode b_MO_count 64 = .ok (.iload_n 2, 1) := by decide +kernel
theorem d_MO_count_65 : decode b_MO_count 65 = .ok (.iload_n 1, 1) := by decide +kernel
theorem d_MO_count_66 : decode b_MO_count 66 = .ok (.iconst 3, 1) := by decide +kernel
theorem d_MO_count_67 : decode b_MO_count 67 = .ok (.if_icmp .ne 20, 3) := by decide +kernel
theorem d_MO_count_70 : decode b_MO_count 70 = .ok (.aload_n 0, 1) := by decide +kernel
theorem d_MO_count_71 : decode b_MO_count 71 = .ok (.getfield 37, 3) := by decide +kernel
theorem d_MO_count_74 : decode b_MO_count 74 = .ok (.iload_n 3, 1) := by decide +kernel
theorem d_MO_count_75 : decode b_MO_count 75 = .ok (.baload, 1) := by decide +kernel
theorem d_MO_count_76 : decode b_MO_count 76 = .ok (.ifCond .eq 7, 3) := by decide +kernel
theorem d_MO_count_79 : decode b_MO_count 79 = .ok (.iconst 1, 1) := by decide +kernel
theorem d_MO_count_80 : decode b_MO_count 80 = .ok (.goto 23, 3) := by decide +kernel
theorem d_MO_count_83 : decode b_MO_count 83 = .ok (.iconst 0, 1) := by decide +kernel
theorem d_MO_count_84 : decode b_MO_count 84 = .ok (.goto 19, 3) := by decide +kernel
theorem d_MO_count_87 : decode b_MO_count 87 = .ok (.iload_n 1, 1) := by decide +kernel
theorem d_MO_count_88 : decode b_MO_count 88 = .ok (.bipush 7, 2) := by decide +kernel
theorem d_MO_count_90 : decode b_MO_count 90 = .ok (.if_icmp .ne 12, 3) := by decide +kernel
theorem d_MO_count_93 : decode b_MO_count 93 = .ok (.aload_n 0, 1) := by decide +kernel
theorem d_MO_count_94 : decode b_MO_count 94 = .ok (.getfield 62, 3) := by decide +kernel
theorem d_MO_count_97 : decode b_MO_count 97 = .ok (.iload_n 3, 1) := by decide +kernel
theorem d_MO_count_98 : decode b_MO_count 98 = .ok (.iaload, 1) := by decide +kernel
theorem d_MO_count_99 : decode b_MO_count 99 = .ok (.goto 4, 3) := by decide +kernel
theorem d_MO_count_102 : decode b_MO_count 102 = .ok (.iconst 0, 1) := by decide +kernel
theorem d_MO_count_103 : decode b_MO_count 103 = .ok (.iadd, 1) := by decide +kernel
theorem d_MO_count_104 : decode b_MO_count 104 = .ok (.istore_n 2, 1) := by decide +kernel
theorem d_MO_count_105 : decode b_MO_count 105 = .ok (.iinc 3 1, 3) := by decide +kernel
theorem d_MO_count_108 : decode b_MO_count 108 = .ok (.goto (-52), 3) := by decide +kernel
theorem d_MO_count_111 : decode b_MO_count 111 = .ok (.iload_n 1, 1) := by decide +kernel
theorem d_MO_count_112 : decode b_MO_count 112 = .ok (.iconst 3, 1) := by decide +kernel
theorem d_MO_count_113 : decode b_MO_count 113 = .ok (.if_icmp .eq 9, 3) := by decide +kernel
theorem d_MO_count_116 : decode b_MO_count 116 = .ok (.iload_n 1, 1) := by decide +kernel
theorem d_MO_count_117 : decode b_MO_count 117 = .ok (.bipush 7, 2) := by decide +kernel
theorem d_MO_count_119 : decode b_MO_count 119 = .ok (.if_icmp .ne 7, 3) := by decide +kernel
theorem d_MO_count_122 : decode b_MO_count 122 = .ok (.iload_n 2, 1) := by decide +kernel
theorem d_MO_count_123 : decode b_MO_count 123 = .ok (.goto 4, 3) := by decide +kernel
theorem d_MO_count_126 : decode b_MO_count 126 = .ok (.iconst (-1), 1) := by decide +kernel
theorem d_MO_count_127 : decode b_MO_count 127 = .ok (.ireturn, 1) := by decide +kernel
theorem d_MO_customer_0 : decode b_MO_customer 0 = .ok (.aload_n 0, 1) := by decide +kernel
theorem d_MO_customer_1 : decode b_MO_customer 1 = .ok (.iload_n 1, 1) := by decide +kernel
theorem d_MO_customer_2 : decode b_MO_customer 2 = .ok (.iconst 0, 1) := by decide +kernel
theorem d_MO_customer_3 : decode b_MO_customer 3 = .ok (.iconst 5, 1) := by decide +kernel
theorem d_MO_customer_4 : decode b_MO_customer 4 = .ok (.invokestatic 75, 3) := by decide +kernel
theorem d_MO_customer_7 : decode b_MO_customer 7 = .ok (.ifCond .eq 12, 3) := by decide +kernel
theorem d_MO_customer_10 : decode b_MO_customer 10 = .ok (.iload_n 2, 1) := by decide +kernel
theorem d_MO_customer_11 : decode b_MO_customer 11 = .ok (.iconst 0, 1) := by decide +kernel
theorem d_MO_customer_12 : decode b_MO_customer 12 = .ok (.iconst 3, 1) := by decide +kernel
theorem d_MO_customer_13 : decode b_MO_customer 13 = .ok (.invokestatic 75, 3) := by decide +kernel
theorem d_MO_customer_16 : decode b_MO_customer 16 = .ok (.ifCond .ne 7, 3) := by decide +kernel
theorem d_MO_customer_19 : decode b_MO_customer 19 = .ok (.iconst 1, 1) := by decide +kernel
theorem d_MO_customer_20 : decode b_MO_customer 20 = .ok (.goto 4, 3) := by decide +kernel
theorem d_MO_customer_23 : decode b_MO_customer 23 = .ok (.iconst 0, 1) := by decide +kernel
theorem d_MO_customer_24 : decode b_MO_customer 24 = .ok (.putfield 68, 3) := by decide +kernel
theorem d_MO_customer_27 : decode b_MO_customer 27 = .ok (.aload_n 0, 1) := by decide +kernel
theorem d_MO_customer_28 : decode b_MO_customer 28 = .ok (.getfield 68, 3) := by decide +kernel
theorem d_MO_customer_31 : decode b_MO_customer 31 = .ok (.ifCond .le 5, 3) := by decide +kernel
theorem d_MO_customer_34 : decode b_MO_customer 34 = .ok (.iconst 0, 1) := by decide +kernel
theorem d_MO_customer_35 : decode b_MO_customer 35 = .ok (.ireturn, 1) := by decide +kernel
theorem d_MO_customer_36 : decode b_MO_customer 36 = .ok (.iconst 0, 1) := by decide +kernel
theorem d_MO_customer_37 : decode b_MO_customer 37 = .ok (.istore_n 3, 1) := by decide +kernel
theorem d_MO_customer_38 : decode b_MO_customer 38 = .ok (.iload_n 2, 1) := by decide +kernel
theorem d_MO_customer_39 : decode b_MO_customer 39 = .ok (.ifCond .ne 40, 3) := by decide +kernel
theorem d_MO_customer_42 : decode b_MO_customer 42 = .ok (.iconst 0, 1) := by decide +kernel
theorem d_MO_customer_43 : decode b_MO_customer 43 = .ok (.istore 4, 2) := by decide +kernel
theorem d_MO_customer_45 : decode b_MO_customer 45 = .ok (.iload 4, 2) := by decide +kernel
theorem d_MO_customer_47 : decode b_MO_customer 47 = .ok (.aload_n 0, 1) := by decide +kernel
theorem d_MO_customer_48 : decode b_MO_customer 48 = .ok (.getfield 72, 3) := by decide +kernel
theorem d_MO_customer_51 : decode b_MO_customer 51 = .ok (.if_icmp .ge 28, 3) := by decide +kernel
theorem d_MO_customer_54 : decode b_MO_customer 54 = .ok (.iload_n 3, 1) := by decide +kernel
theorem d_MO_customer_55 : decode b_MO_customer 55 = .ok (.aload_n 0, 1) := by decide +kernel
theorem d_MO_customer_56 : decode b_MO_customer 56 = .ok (.getfield 7, 3) := by decide +kernel
theorem d_MO_customer_59 : decode b_MO_customer 59 = .ok (.iload 4, 2) := by decide +kernel
theorem d_MO_customer_61 : decode b_MO_customer 61 = .ok (.iaload, 1) := by decide +kernel
theorem d_MO_customer_62 : decode b_MO_customer 62 = .ok (.iload_n 1, 1) := by decide +kernel
theorem d_MO_customer_63 : decode b_MO_customer 63 = .ok (.if_icmp .ne 7, 3) := by decide +kernel
theorem d_MO_customer_66 : decode b_MO_customer 66 = .ok (.iconst 1, 1) := by decide +kernel
theorem d_MO_customer_67 : decode b_MO_customer 67 = .ok (.goto 4, 3) := by decide +kernel
theorem d_MO_customer_70 : decode b_MO_customer 70 = .ok (.iconst 0, 1) := by decide +kernel
theorem d_MO_customer_71 : decode b_MO_customer 71 = .ok (.iadd, 1) := by decide +kernel
theorem d_MO_customer_72 : decode b_MO_customer 72 = .ok (.istore_n 3, 1) := by decide +kernel
theorem d_MO_customer_73 : decode b_MO_customer 73 = .ok (.iinc 4 1, 3) := by decide +kernel
theorem d_MO_customer_76 : decode b_MO_customer 76 = .ok (.goto (-31), 3) := by decide +kernel
theorem d_MO_customer_79 : decode b_MO_customer 79 = .ok (.iload_n 2, 1) := by decide +kernel
theorem d_MO_customer_80 : decode b_MO_customer 80 = .ok (.ifCond .ne 5, 3) := by decide +kernel
theorem d_MO_customer_83 : decode b_MO_customer 83 = .ok (.iload_n 3, 1) := by decide +kernel
theorem d_MO_customer_84 : decode b_MO_customer 84 = .ok (.ireturn, 1) := by decide +kernel
theorem d_MO_customer_85 : decode b_MO_customer 85 = .ok (.iload_n 2, 1) := by decide +kernel
theorem d_MO_customer_86 : decode b_MO_customer 86 = .ok (.iconst 3, 1) := by decide +kernel
theorem d_MO_customer_87 : decode b_MO_customer 87 = .ok (.if_icmp .ge 19, 3) := by decide +kernel
theorem d_MO_customer_90 : decode b_MO_customer 90 = .ok (.aload_n 0, 1) := by decide +kernel
theorem d_MO_customer_91 : decode b_MO_customer 91 = .ok (.iload_n 1, 1) := by decide +kernel
theorem d_MO_customer_92 : decode b_MO_customer 92 = .ok (.iload_n 2, 1) := by decide +kernel
theorem d_MO_customer_93 : decode b_MO_customer 93 = .ok (.iconst 2, 1) := by decide +kernel
theorem d_MO_customer_94 : decode b_MO_customer 94 = .ok (.if_icmp .ne 7, 3) := by decide +kernel
theorem d_MO_customer_97 : decode b_MO_customer 97 = .ok (.iconst 1, 1) := by decide +kernel
theorem d_MO_customer_98 : decode b_MO_customer 98 = .ok (.goto 4, 3) := by decide +kernel
theorem d_MO_customer_101 : decode b_MO_customer 101 = .ok (.iconst 0, 1) := by decide +kernel
theorem d_MO_customer_102 : decode b_MO_customer 102 = .ok (.invokevirtual 113, 3) := by decide +kernel
theorem d_MO_customer_105 : decode b_MO_customer 105 = .ok (.ireturn, 1) := by decide +kernel
theorem d_MO_customer_106 : decode b_MO_customer 106 = .ok (.iconst 1, 1) := by decide +kernel
theorem d_MO_customer_107 : decode b_MO_customer 107 = .ok (.istore 4, 2) := by decide +kernel
theorem d_MO_customer_109 : decode b_MO_customer 109 = .ok (.iload 4, 2) := by decide +kernel
theorem d_MO_customer_111 : decode b_MO_customer 111 = .ok (.aload_n 0, 1) := by decide +kernel
theorem d_MO_customer_112 : decode b_MO_customer 112 = .ok (.getfield 79, 3) := by decide +kernel
theorem d_MO_customer_115 : decode b_MO_customer 115 = .ok (.if_icmp .gt 50, 3) := by decide +kernel
theorem d_MO_customer_118 : decode b_MO_customer 118 = .ok (.iload_n 3, 1) := by decide +kernel
theorem d_MO_customer_119 : decode b_MO_customer 119 = .ok (.aload_n 0, 1) := by decide +kernel
theorem d_MO_customer_120 : decode b_MO_customer 120 = .ok (.getfield 7, 3) := by decide +kernel
theorem d_MO_customer_123 : decode b_MO_customer 123 = .ok (.aload_n 0, 1) := by decide +kernel
theorem d_MO_customer_124 : decode b_MO_customer 124 = .ok (.getfield 22, 3) := by decide +kernel
theorem d_MO_customer_127 : decode b_MO_customer 127 = .ok (.iload 4, 2) := by decide +kernel
theorem d_MO_customer_129 : decode b_MO_customer 129 = .ok (.iaload, 1) := by decide +kernel
theorem d_MO_customer_130 : decode b_MO_customer 130 = .ok (.iaload, 1) := by decide +kernel
theorem d_MO_customer_131 : decode b_MO_customer 131 = .ok (.iload_n 1, 1) := by decide +kernel
theorem d_MO_customer_132 : decode b_MO_customer 132 = .ok (.if_icmp .ne 24, 3) := by decide +kernel
theorem d_MO_customer_135 : decode b_MO_customer 135 = .ok (.aload_n 0, 1) := by decide +kernel
theorem d_MO_customer_136 : decode b_MO_customer 136 = .ok (.getfield 82, 3) := by decide +kernel
theorem d_MO_customer_139 : decode b_MO_customer 139 = .ok (.aload_n 0, 1) := by decide +kernel
theorem d_MO_customer_140 : decode b_MO_customer 140 = .ok (.getfield 31, 3) := by decide +kernel
theorem d_MO_customer_143 : decode b_MO_customer 143 = .ok (.iload 4, 2) := by decide +kernel
theorem d_MO_customer_145 : decode b_MO_customer 145 = .ok (.iaload, 1) := by decide +kernel
theorem d_MO_customer_146 : decode b_MO_customer 146 = .ok (.isub, 1) := by decide +kernel
theorem d_MO_customer_147 : decode b_MO_customer 147 = .ok (.bipush 30, 2) := by decide +kernel
theorem d_MO_customer_149 : decode b_MO_customer 149 = .ok (.if_icmp .gt 7, 3) := by decide +kernel
theorem d_MO_customer_152 : decode b_MO_customer 152 = .ok (.iconst 1, 1) := by decide +kernel
theorem d_MO_customer_153 : decode b_MO_customer 153 = .ok (.goto 4, 3) := by decide +kernel
theorem d_MO_customer_156 : decode b_MO_customer 156 = .ok (.iconst 0, 1) := by decide +kernel
theorem d_MO_customer_157 : decode b_MO_customer 157 = .ok (.iadd, 1) := by decide +kernel
theorem d_MO_customer_158 : decode b_MO_customer 158 = .ok (.istore_n 3, 1) := by decide +kernel
theorem d_MO_customer_159 : decode b_MO_customer 159 = .ok (.iinc 4 1, 3) := by decide +kernel
theorem d_MO_customer_162 : decode b_MO_customer 162 = .ok (.goto (-53), 3) := by decide +kernel
theorem d_MO_customer_165 : decode b_MO_customer 165 = .ok (.aload_n 0, 1) := by decide +kernel
theorem d_MO_customer_166 : decode b_MO_customer 166 = .ok (.iload_n 1, 1) := by decide +kernel
theorem d_MO_customer_167 : decode b_MO_customer 167 = .ok (.iconst 1, 1) := by decide +kernel
theorem d_MO_customer_168 : decode b_MO_customer 168 = .ok (.invokevirtual 113, 3) := by decide +kernel
theorem d_MO_customer_171 : decode b_MO_customer 171 = .ok (.iconst 1, 1) := by decide +kernel
theorem d_MO_customer_172 : decode b_MO_customer 172 = .ok (.if_icmp .gt 8, 3) := by decide +kernel
theorem d_MO_customer_175 : decode b_MO_customer 175 = .ok (.iload_n 3, 1) := by decide +kernel
theorem d_MO_customer_176 : decode b_MO_customer 176 = .ok (.iconst 3, 1) := by decide +kernel
theorem d_MO_customer_177 : decode b_MO_customer 177 = .ok (.if_icmp .le 7, 3) := by decide +kernel
theorem d_MO_customer_180 : decode b_MO_customer 180 = .ok (.iconst 1, 1) := by decide +kernel
theorem d_MO_customer_181 : decode b_MO_customer 181 = .ok (.goto 4, 3) := by decide +kernel
theorem d_MO_customer_184 : decode b_MO_customer 184 = .ok (.iconst 0, 1) := by decide +kernel
theorem d_MO_customer_185 : decode b_MO_customer 185 = .ok (.ireturn, 1) := by decide +kernel
theorem d_MO_day_0 : decode b_MO_day 0 = .ok (.aload_n 0, 1) := by decide +kernel
theorem d_MO_day_1 : decode b_MO_day 1 = .ok (.iload_n 1, 1) := by decide +kernel
theorem d_MO_day_2 : decode b_MO_day 2 = .ok (.aload_n 0, 1) := by decide +kernel
theorem d_MO_day_3 : decode b_MO_day 3 = .ok (.getfield 82, 3) := by decide +kernel
theorem d_MO_day_6 : decode b_MO_day 6 = .ok (.sipush 1000, 3) := by decide +kernel
theorem d_MO_day_9 : decode b_MO_day 9 = .ok (.invokestatic 75, 3) := by decide +kernel
theorem d_MO_day_12 : decode b_MO_day 12 = .ok (.ifCond .eq 7, 3) := by decide +kernel
theorem d_MO_day_15 : decode b_MO_day 15 = .ok (.iconst 0, 1) := by decide +kernel
theorem d_MO_day_16 : decode b_MO_day 16 = .ok (.goto 4, 3) := by decide +kernel
theorem d_MO_day_19 : decode b_MO_day 19 = .ok (.iconst 1, 1) := by decide +kernel
theorem d_MO_day_20 : decode b_MO_day 20 = .ok (.putfield 68, 3) := by decide +kernel
theorem d_MO_day_23 : decode b_MO_day 23 = .ok (.aload_n 0, 1) := by decide +kernel
theorem d_MO_day_24 : decode b_MO_day 24 = .ok (.getfield 68, 3) := by decide +kernel
theorem d_MO_day_27 : decode b_MO_day 27 = .ok (.ifCond .ne 8, 3) := by decide +kernel
theorem d_MO_day_30 : decode b_MO_day 30 = .ok (.aload_n 0, 1) := by decide +kernel
theorem d_MO_day_31 : decode b_MO_day 31 = .ok (.iload_n 1, 1) := by decide +kernel
theorem d_MO_day_32 : decode b_MO_day 32 = .ok (.putfield 82, 3) := by decide +kernel
theorem d_MO_day_35 : decode b_MO_day 35 = .ok (.return_, 1) := by decide +kernel
theorem d_MO_due_0 : decode b_MO_due 0 = .ok (.aload_n 0, 1) := by decide +kernel
theorem d_MO_due_1 : decode b_MO_due 1 = .ok (.aload_n 0, 1) := by decide +kernel
theorem d_MO_due_2 : decode b_MO_due 2 = .ok (.iload_n 1, 1) := by decide +kernel
theorem d_MO_due_3 : decode b_MO_due 3 = .ok (.invokevirtual 93, 3) := by decide +kernel
theorem d_MO_due_6 : decode b_MO_due 6 = .ok (.ifCond .eq 7, 3) := by decide +kernel
theorem d_MO_due_9 : decode b_MO_due 9 = .ok (.iconst 0, 1) := by decide +kernel
theorem d_MO_due_10 : decode b_MO_due 10 = .ok (.goto 4, 3) := by decide +kernel
theorem d_MO_due_13 : decode b_MO_due 13 = .ok (.iconst 1, 1) := by decide +kernel
theorem d_MO_due_14 : decode b_MO_due 14 = .ok (.putfield 68, 3) := by decide +kernel
theorem d_MO_due_17 : decode b_MO_due 17 = .ok (.aload_n 0, 1) := by decide +kernel
theorem d_MO_due_18 : decode b_MO_due 18 = .ok (.getfield 68, 3) := by decide +kernel
theorem d_MO_due_21 : decode b_MO_due 21 = .ok (.ifCond .le 7, 3) := by decide +kernel
theorem d_MO_due_24 : decode b_MO_due 24 = .ok (.iconst 0, 1) := by decide +kernel
theorem d_MO_due_25 : decode b_MO_due 25 = .ok (.goto 8, 3) := by decide +kernel
theorem d_MO_due_28 : decode b_MO_due 28 = .ok (.aload_n 0, 1) := by decide +kernel
theorem d_MO_due_29 : decode b_MO_due 29 = .ok (.iload_n 1, 1) := by decide +kernel
theorem d_MO_due_30 : decode b_MO_due 30 = .ok (.invokevirtual 110, 3) := by decide +kernel
theorem d_MO_due_33 : decode b_MO_due 33 = .ok (.ireturn, 1) := by decide +kernel
theorem d_MO_dueOf_0 : decode b_MO_dueOf 0 = .ok (.aload_n 0, 1) := by decide +kernel
theorem d_MO_dueOf_1 : decode b_MO_dueOf 1 = .ok (.getfield 22, 3) := by decide +kernel
theorem d_MO_dueOf_4 : decode b_MO_dueOf 4 = .ok (.iload_n 1, 1) := by decide +kernel
theorem d_MO_dueOf_5 : decode b_MO_dueOf 5 = .ok (.iaload, 1) := by decide +kernel
theorem d_MO_dueOf_6 : decode b_MO_dueOf 6 = .ok (.istore_n 2, 1) := by decide +kernel
theorem d_MO_dueOf_7 : decode b_MO_dueOf 7 = .ok (.aload_n 0, 1) := by decide +kernel
theorem d_MO_dueOf_8 : decode b_MO_dueOf 8 = .ok (.getfield 44, 3) := by decide +kernel
theorem d_MO_dueOf_11 : decode b_MO_dueOf 11 = .ok (.iload_n 1, 1) := by decide +kernel
theorem d_MO_dueOf_12 : decode b_MO_dueOf 12 = .ok (.iaload, 1) := by decide +kernel
theorem d_MO_dueOf_13 : decode b_MO_dueOf 13 = .ok (.iconst (-1), 1) := by decide +kernel
theorem d_MO_dueOf_14 : decode b_MO_dueOf 14 = .ok (.if_icmp .eq 30, 3) := by decide +kernel
theorem d_MO_dueOf_17 : decode b_MO_dueOf 17 = .ok (.aload_n 0, 1) := by decide +kernel
theorem d_MO_dueOf_18 : decode b_MO_dueOf 18 = .ok (.getfield 41, 3) := by decide +kernel
theorem d_MO_dueOf_21 : decode b_MO_dueOf 21 = .ok (.iload_n 1, 1) := by decide +kernel
theorem d_MO_dueOf_22 : decode b_MO_dueOf 22 = .ok (.baload, 1) := by decide +kernel
theorem d_MO_dueOf_23 : decode b_MO_dueOf 23 = .ok (.ifCond .ne 21, 3) := by decide +kernel
theorem d_MO_dueOf_26 : decode b_MO_dueOf 26 = .ok (.aload_n 0, 1) := by decide +kernel
theorem d_MO_dueOf_27 : decode b_MO_dueOf 27 = .ok (.getfield 31, 3) := by decide +kernel
theorem d_MO_dueOf_30 : decode b_MO_dueOf 30 = .ok (.iload_n 1, 1) := by decide +kernel
theorem d_MO_dueOf_31 : decode b_MO_dueOf 31 = .ok (.iaload, 1) := by decide +kernel
theorem d_MO_dueOf_32 : decode b_MO_dueOf 32 = .ok (.aload_n 0, 1) := by decide +kernel
theorem d_MO_dueOf_33 : decode b_MO_dueOf 33 = .ok (.getfield 19, 3) := by decide +kernel
theorem d_MO_dueOf_36 : decode b_MO_dueOf 36 = .ok (.iload_n 2, 1) := by decide +kernel
theorem d_MO_dueOf_37 : decode b_MO_dueOf 37 = .ok (.iaload, 1) := by decide +kernel
theorem d_MO_dueOf_38 : decode b_MO_dueOf 38 = .ok (.isub, 1) := by decide +kernel
theorem d_MO_dueOf_39 : decode b_MO_dueOf 39 = .ok (.bipush 30, 2) := by decide +kernel
theorem d_MO_dueOf_41 : decode b_MO_dueOf 41 = .ok (.if_icmp .le 5, 3) := by decide +kernel
theorem d_MO_dueOf_44 : decode b_MO_dueOf 44 = .ok (.iconst 0, 1) := by decide +kernel
theorem d_MO_dueOf_45 : decode b_MO_dueOf 45 = .ok (.ireturn, 1) := by decide +kernel
theorem d_MO_dueOf_46 : decode b_MO_dueOf 46 = .ok (.aload_n 0, 1) := by decide +kernel
theorem d_MO_dueOf_47 : decode b_MO_dueOf 47 = .ok (.getfield 13, 3) := by decide +kernel
theorem d_MO_dueOf_50 : decode b_MO_dueOf 50 = .ok (.iload_n 2, 1) := by decide +kernel
theorem d_MO_dueOf_51 : decode b_MO_dueOf 51 = .ok (.iaload, 1) := by decide +kernel
theorem d_MO_dueOf_52 : decode b_MO_dueOf 52 = .ok (.aload_n 0, 1) := by decide +kernel
theorem d_MO_dueOf_53 : decode b_MO_dueOf 53 = .ok (.getfield 44, 3) := by decide +kernel
theorem d_MO_dueOf_56 : decode b_MO_dueOf 56 = .ok (.iload_n 1, 1) := by decide +kernel
theorem d_MO_dueOf_57 : decode b_MO_dueOf 57 = .ok (.iaload, 1) := by decide +kernel
theorem d_MO_dueOf_58 : decode b_MO_dueOf 58 = .ok (.invokestatic 107, 3) := by decide +kernel
theorem d_MO_dueOf_61 : decode b_MO_dueOf 61 = .ok (.imul, 1) := by decide +kernel
theorem d_MO_dueOf_62 : decode b_MO_dueOf 62 = .ok (.bipush 100, 2) := by decide +kernel
theorem d_MO_dueOf_64 : decode b_MO_dueOf 64 = .ok (.idiv, 1) := by decide +kernel
theorem d_MO_dueOf_65 : decode b_MO_dueOf 65 = .ok (.aload_n 0, 1) := by decide +kernel
theorem d_MO_dueOf_66 : decode b_MO_dueOf 66 = .ok (.getfield 13, 3) := by decide +kernel
theorem d_MO_dueOf_69 : decode b_MO_dueOf 69 = .ok (.iload_n 2, 1) := by decide +kernel
theorem d_MO_dueOf_70 : decode b_MO_dueOf 70 = .ok (.iaload, 1) := by decide +kernel
theorem d_MO_dueOf_71 : decode b_MO_dueOf 71 = .ok (.bipush 10, 2) := by decide +kernel
theorem d_MO_dueOf_73 : decode b_MO_dueOf 73 = .ok (.idiv, 1) := by decide +kernel
theorem d_MO_dueOf_74 : decode b_MO_dueOf 74 = .ok (.aload_n 0, 1) := by decide +kernel
theorem d_MO_dueOf_75 : decode b_MO_dueOf 75 = .ok (.getfield 59, 3) := by decide +kernel
theorem d_MO_dueOf_78 : decode b_MO_dueOf 78 = .ok (.iload_n 1, 1) := by decide +kernel
theorem d_MO_dueOf_79 : decode b_MO_dueOf 79 = .ok (.iaload, 1) := by decide +kernel
theorem d_MO_dueOf_80 : decode b_MO_dueOf 80 = .ok (.imul, 1) := by decide +kernel
theorem d_MO_dueOf_81 : decode b_MO_dueOf 81 = .ok (.isub, 1) := by decide +kernel
theorem d_MO_dueOf_82 : decode b_MO_dueOf 82 = .ok (.istore_n 3, 1) := by decide +kernel
theorem d_MO_dueOf_83 : decode b_MO_dueOf 83 = .ok (.iload_n 3, 1) := by decide +kernel
theorem d_MO_dueOf_84 : decode b_MO_dueOf 84 = .ok (.ifCond .le 7, 3) := by decide +kernel
theorem d_MO_dueOf_87 : decode b_MO_dueOf 87 = .ok (.iload_n 3, 1) := by decide +kernel
theorem d_MO_dueOf_88 : decode b_MO_dueOf 88 = .ok (.goto 4, 3) := by decide +kernel
theorem d_MO_dueOf_91 : decode b_MO_dueOf 91 = .ok (.iconst 0, 1) := by decide +kernel
theorem d_MO_dueOf_92 : decode b_MO_dueOf 92 = .ok (.ireturn, 1) := by decide +kernel
theorem d_MO_grade_0 : decode b_MO_grade 0 = .ok (.aload_n 0, 1) := by decide +kernel
theorem d_MO_grade_1 : decode b_MO_grade 1 = .ok (.aload_n 0, 1) := by decide +kernel
theorem d_MO_grade_2 : decode b_MO_grade 2 = .ok (.iload_n 1, 1) := by decide +kernel
theorem d_MO_grade_3 : decode b_MO_grade 3 = .ok (.invokevirtual 93, 3) := by decide +kernel
theorem d_MO_grade_6 : decode b_MO_grade 6 = .ok (.ifCond .ne 7, 3) := by decide +kernel
theorem d_MO_grade_9 : decode b_MO_grade 9 = .ok (.iconst 1, 1) := by decide +kernel
theorem d_MO_grade_10 : decode b_MO_grade 10 = .ok (.goto 17, 3) := by decide +kernel
theorem d_MO_grade_13 : decode b_MO_grade 13 = .ok (.iload_n 2, 1) := by decide +kernel
theorem d_MO_grade_14 : decode b_MO_grade 14 = .ok (.iconst 0, 1) := by decide +kernel
theorem d_MO_grade_15 : decode b_MO_grade 15 = .ok (.iconst 4, 1) := by decide +kernel
theorem d_MO_grade_16 : decode b_MO_grade 16 = .ok (.invokestatic 75, 3) := by decide +kernel
theorem d_MO_grade_19 : decode b_MO_grade 19 = .ok (.ifCond .ne 7, 3) := by decide +kernel
theorem d_MO_grade_22 : decode b_MO_grade 22 = .ok (.iconst 2, 1) := by decide +kernel
theorem d_MO_grade_23 : decode b_MO_grade 23 = .ok (.goto 4, 3) := by decide +kernel
theorem d_MO_grade_26 : decode b_MO_grade 26 = .ok (.iconst 0, 1) := by decide +kernel
theorem d_MO_grade_27 : decode b_MO_grade 27 = .ok (.putfield 68, 3) := by decide +kernel
theorem d_MO_grade_30 : decode b_MO_grade 30 = .ok (.aload_n 0, 1) := by decide +kernel
theorem d_MO_grade_31 : decode b_MO_grade 31 = .ok (.getfield 68, 3) := by decide +kernel
theorem d_MO_grade_34 : decode b_MO_grade 34 = .ok (.ifCond .ne 43, 3) := by decide +kernel
theorem d_MO_grade_37 : decode b_MO_grade 37 = .ok (.aload_n 0, 1) := by decide +kernel
theorem d_MO_grade_38 : decode b_MO_grade 38 = .ok (.aload_n 0, 1) := by decide +kernel
theorem d_MO_grade_39 : decode b_MO_grade 39 = .ok (.iload_n 1, 1) := by decide +kernel
theorem d_MO_grade_40 : decode b_MO_grade 40 = .ok (.invokevirtual 96, 3) := by decide +kernel
theorem d_MO_grade_43 : decode b_MO_grade 43 = .ok (.ifCond .eq 26, 3) := by decide +kernel
theorem d_MO_grade_46 : decode b_MO_grade 46 = .ok (.aload_n 0, 1) := by decide +kernel
theorem d_MO_grade_47 : decode b_MO_grade 47 = .ok (.getfield 37, 3) := by decide +kernel
theorem d_MO_grade_50 : decode b_MO_grade 50 = .ok (.iload_n 1, 1) := by decide +kernel
theorem d_MO_grade_51 : decode b_MO_grade 51 = .ok (.baload, 1) := by decide +kernel
theorem d_MO_grade_52 : decode b_MO_grade 52 = .ok (.ifCond .ne 17, 3) := by decide +kernel
theorem d_MO_grade_55 : decode b_MO_grade 55 = .ok (.aload_n 0, 1) := by decide +kernel
theorem d_MO_grade_56 : decode b_MO_grade 56 = .ok (.getfield 53, 3) := by decide +kernel
theorem d_MO_grade_59 : decode b_MO_grade 59 = .ok (.iload_n 1, 1) := by decide +kernel
theorem d_MO_grade_60 : decode b_MO_grade 60 = .ok (.iaload, 1) := by decide +kernel
theorem d_MO_grade_61 : decode b_MO_grade 61 = .ok (.ifCond .eq 12, 3) := by decide +kernel
theorem d_MO_grade_64 : decode b_MO_grade 64 = .ok (.iload_n 2, 1) := by decide +kernel
theorem d_MO_grade_65 : decode b_MO_grade 65 = .ok (.iconst 3, 1) := by decide +kernel
theorem d_MO_grade_66 : decode b_MO_grade 66 = .ok (.if_icmp .ge 7, 3) := by decide +kernel
theorem d_MO_grade_69 : decode b_MO_grade 69 = .ok (.iconst 3, 1) := by decide +kernel
theorem d_MO_grade_70 : decode b_MO_grade 70 = .ok (.goto 4, 3) := by decide +kernel
theorem d_MO_grade_73 : decode b_MO_grade 73 = .ok (.iconst 0, 1) := by decide +kernel
theorem d_MO_grade_74 : decode b_MO_grade 74 = .ok (.putfield 68, 3) := by decide +kernel
theorem d_MO_grade_77 : decode b_MO_grade 77 = .ok (.aload_n 0, 1) := by decide +kernel
theorem d_MO_grade_78 : decode b_MO_grade 78 = .ok (.getfield 68, 3) := by decide +kernel
theorem d_MO_grade_81 : decode b_MO_grade 81 = .ok (.ifCond .le 5, 3) := by decide +kernel
theorem d_MO_grade_84 : decode b_MO_grade 84 = .ok (.iconst 0, 1) := by decide +kernel
theorem d_MO_grade_85 : decode b_MO_grade 85 = .ok (.ireturn, 1) := by decide +kernel
theorem d_MO_grade_86 : decode b_MO_grade 86 = .ok (.aload_n 0, 1) := by decide +kernel
theorem d_MO_grade_87 : decode b_MO_grade 87 = .ok (.iload_n 1, 1) := by decide +kernel
theorem d_MO_grade_88 : decode b_MO_grade 88 = .ok (.iload_n 2, 1) := by decide +kernel
theorem d_MO_grade_89 : decode b_MO_grade 89 = .ok (.invokevirtual 99, 3) := by decide +kernel
theorem d_MO_grade_92 : decode b_MO_grade 92 = .ok (.aload_n 0, 1) := by decide +kernel
theorem d_MO_grade_93 : decode b_MO_grade 93 = .ok (.getfield 28, 3) := by decide +kernel
theorem d_MO_grade_96 : decode b_MO_grade 96 = .ok (.iload_n 1, 1) := by decide +kernel
theorem d_MO_grade_97 : decode b_MO_grade 97 = .ok (.iconst 3, 1) := by decide +kernel
theorem d_MO_grade_98 : decode b_MO_grade 98 = .ok (.iastore, 1) := by decide +kernel
theorem d_MO_grade_99 : decode b_MO_grade 99 = .ok (.aload_n 0, 1) := by decide +kernel
theorem d_MO_grade_100 : decode b_MO_grade 100 = .ok (.getfield 47, 3) := by decide +kernel
theorem d_MO_grade_103 : decode b_MO_grade 103 = .ok (.iload_n 1, 1) := by decide +kernel
theorem d_MO_grade_104 : decode b_MO_grade 104 = .ok (.iaload, 1) := by decide +kernel
theorem d_MO_grade_105 : decode b_MO_grade 105 = .ok (.ireturn, 1) := by decide +kernel
theorem d_MO_hasReturn_0 : decode b_MO_hasReturn 0 = .ok (.iconst 1, 1) := by decide +kernel
theorem d_MO_hasReturn_1 : decode b_MO_hasReturn 1 = .ok (.istore_n 2, 1) := by decide +kernel
theorem d_MO_hasReturn_2 : decode b_MO_hasReturn 2 = .ok (.iload_n 2, 1) := by decide +kernel
theorem d_MO_hasReturn_3 : decode b_MO_hasReturn 3 = .ok (.aload_n 0, 1) := by decide +kernel
theorem d_MO_hasReturn_4 : decode b_MO_hasReturn 4 = .ok (.getfield 79, 3) := by decide +kernel
theorem d_MO_hasReturn_7 : decode b_MO_hasReturn 7 = .ok (.if_icmp .gt 21, 3) := by decide +kernel
theorem d_MO_hasReturn_10 : decode b_MO_hasReturn 10 = .ok (.aload_n 0, 1) := by decide +kernel
theorem d_MO_hasReturn_11 : decode b_MO_hasReturn 11 = .ok (.getfield 22, 3) := by decide +kernel
theorem d_MO_hasReturn_14 : decode b_MO_hasReturn 14 = .ok (.iload_n 2, 1) := by decide +kernel
theorem d_MO_hasReturn_15 : decode b_MO_hasReturn 15 = .ok (.iaload, 1) := by decide +kernel
theorem d_MO_hasReturn_16 : decode b_MO_hasReturn 16 = .ok (.iload_n 1, 1) := by decide +kernel
theorem d_MO_hasReturn_17 : decode b_MO_hasReturn 17 = .ok (.if_icmp .ne 5, 3) := by decide +kernel
theorem d_MO_hasReturn_20 : decode b_MO_hasReturn 20 = .ok (.iconst 1, 1) := by decide +kernel
theorem d_MO_hasReturn_21 : decode b_MO_hasReturn 21 = .ok (.ireturn, 1) := by decide +kernel
theorem d_MO_hasReturn_22 : decode b_MO_hasReturn 22 = .ok (.iinc 2 1, 3) := by decide +kernel
theorem d_MO_hasReturn_25 : decode b_MO_hasReturn 25 = .ok (.goto (-23), 3) := by decide +kernel
theorem d_MO_hasReturn_28 : decode b_MO_hasReturn 28 = .ok (.iconst 0, 1) := by decide +kernel
theorem d_MO_hasReturn_29 : decode b_MO_hasReturn 29 = .ok (.ireturn, 1) := by decide +kernel
theorem d_MO_in_0 : decode b_MO_in 0 = .ok (.iload_n 0, 1) := by decide +kernel
theorem d_MO_in_1 : decode b_MO_in 1 = .ok (.iload_n 1, 1) := by decide +kernel
theorem d_MO_in_2 : decode b_MO_in 2 = .ok (.if_icmp .lt 12, 3) := by decide +kernel
theorem d_MO_in_5 : decode b_MO_in 5 = .ok (.iload_n 0, 1) := by decide +kernel
theorem d_MO_in_6 : decode b_MO_in 6 = .ok (.iload_n 2, 1) := by decide +kernel
theorem d_MO_in_7 : decode b_MO_in 7 = .ok (.if_icmp .gt 7, 3) := by decide +kernel
theorem d_MO_in_10 : decode b_MO_in 10 = .ok (.iconst 1, 1) := by decide +kernel
theorem d_MO_in_11 : decode b_MO_in 11 = .ok (.goto 4, 3) := by decide +kernel
theorem d_MO_in_14 : decode b_MO_in 14 = .ok (.iconst 0, 1) := by decide +kernel
theorem d_MO_in_15 : decode b_MO_in 15 = .ok (.ireturn, 1) := by decide +kernel
theorem d_MO_init_0 : decode b_MO_init 0 = .ok (.aload_n 0, 1) := by decide +kernel
theorem d_MO_init_1 : decode b_MO_init 1 = .ok (.invokespecial 1, 3) := by decide +kernel
theorem d_MO_init_4 : decode b_MO_init 4 = .ok (.aload_n 0, 1) := by decide +kernel
theorem d_MO_init_5 : decode b_MO_init 5 = .ok (.bipush 20, 2) := by decide +kernel
theorem d_MO_init_7 : decode b_MO_init 7 = .ok (.newarray .int, 2) := by decide +kernel
theorem d_MO_init_9 : decode b_MO_init 9 = .ok (.putfield 7, 3) := by decide +kernel
theorem d_MO_init_12 : decode b_MO_init 12 = .ok (.aload_n 0, 1) := by decide +kernel
theorem d_MO_init_13 : decode b_MO_init 13 = .ok (.bipush 20, 2) := by decide +kernel
theorem d_MO_init_15 : decode b_MO_init 15 = .ok (.newarray .int, 2) := by decide +kernel
theorem d_MO_init_17 : decode b_MO_init 17 = .ok (.putfield 13, 3) := by decide +kernel
theorem d_MO_init_20 : decode b_MO_init 20 = .ok (.aload_n 0, 1) := by decide +kernel
theorem d_MO_init_21 : decode b_MO_init 21 = .ok (.bipush 20, 2) := by decide +kernel
theorem d_MO_init_23 : decode b_MO_init 23 = .ok (.newarray .int, 2) := by decide +kernel
theorem d_MO_init_25 : decode b_MO_init 25 = .ok (.putfield 16, 3) := by decide +kernel
theorem d_MO_init_28 : decode b_MO_init 28 = .ok (.aload_n 0, 1) := by decide +kernel
theorem d_MO_init_29 : decode b_MO_init 29 = .ok (.bipush 20, 2) := by decide +kernel
theorem d_MO_init_31 : decode b_MO_init 31 = .ok (.newarray .int, 2) := by decide +kernel
theorem d_MO_init_33 : decode b_MO_init 33 = .ok (.putfield 19, 3) := by decide +kernel
theorem d_MO_init_36 : decode b_MO_init 36 = .ok (.aload_n 0, 1) := by decide +kernel
theorem d_MO_init_37 : decode b_MO_init 37 = .ok (.bipush 21, 2) := by decide +kernel
theorem d_MO_init_39 : decode b_MO_init 39 = .ok (.newarray .int, 2) := by decide +kernel
theorem d_MO_init_41 : decode b_MO_init 41 = .ok (.putfield 22, 3) := by decide +kernel
theorem d_MO_init_44 : decode b_MO_init 44 = .ok (.aload_n 0, 1) := by decide +kernel
theorem d_MO_init_45 : decode b_MO_init 45 = .ok (.bipush 21, 2) := by decide +kernel
theorem d_MO_init_47 : decode b_MO_init 47 = .ok (.newarray .int, 2) := by decide +kernel
theorem d_MO_init_49 : decode b_MO_init 49 = .ok (.putfield 25, 3) := by decide +kernel
theorem d_MO_init_52 : decode b_MO_init 52 = .ok (.aload_n 0, 1) := by decide +kernel
theorem d_MO_init_53 : decode b_MO_init 53 = .ok (.bipush 21, 2) := by decide +kernel
theorem d_MO_init_55 : decode b_MO_init 55 = .ok (.newarray .int, 2) := by decide +kernel
theorem d_MO_init_57 : decode b_MO_init 57 = .ok (.putfield 28, 3) := by decide +kernel
theorem d_MO_init_60 : decode b_MO_init 60 = .ok (.aload_n 0, 1) := by decide +kernel
theorem d_MO_init_61 : decode b_MO_init 61 = .ok (.bipush 21, 2) := by decide +kernel
theorem d_MO_init_63 : decode b_MO_init 63 = .ok (.newarray .int, 2) := by decide +kernel
theorem d_MO_init_65 : decode b_MO_init 65 = .ok (.putfield 31, 3) := by decide +kernel
theorem d_MO_init_68 : decode b_MO_init 68 = .ok (.aload_n 0, 1) := by decide +kernel
theorem d_MO_init_69 : decode b_MO_init 69 = .ok (.bipush 21, 2) := by decide +kernel
theorem d_MO_init_71 : decode b_MO_init 71 = .ok (.newarray .int, 2) := by decide +kernel
theorem d_MO_init_73 : decode b_MO_init 73 = .ok (.putfield 34, 3) := by decide +kernel
theorem d_MO_init_76 : decode b_MO_init 76 = .ok (.aload_n 0, 1) := by decide +kernel
theorem d_MO_init_77 : decode b_MO_init 77 = .ok (.bipush 21, 2) := by decide +kernel
theorem d_MO_init_79 : decode b_MO_init 79 = .ok (.newarray .boolean, 2) := by decide +kernel
theorem d_MO_init_81 : decode b_MO_init 81 = .ok (.putfield 37, 3) := by decide +kernel
theorem d_MO_init_84 : decode b_MO_init 84 = .ok (.aload_n 0, 1) := by decide +kernel
theorem d_MO_init_85 : decode b_MO_init 85 = .ok (.bipush 21, 2) := by decide +kernel
theorem d_MO_init_87 : decode b_MO_init 87 = .ok (.newarray .boolean, 2) := by decide +kernel
theorem d_MO_init_89 : decode b_MO_init 89 = .ok (.putfield 41, 3) := by decide +kernel
theorem d_MO_init_92 : decode b_MO_init 92 = .ok (.aload_n 0, 1) := by decide +kernel
theorem d_MO_init_93 : decode b_MO_init 93 = .ok (.bipush 21, 2) := by decide +kernel
theorem d_MO_init_95 : decode b_MO_init 95 = .ok (.newarray .int, 2) := by decide +kernel
theorem d_MO_init_97 : decode b_MO_init 97 = .ok (.putfield 44, 3) := by decide +kernel
theorem d_MO_init_100 : decode b_MO_init 100 = .ok (.aload_n 0, 1) := by decide +kernel
theorem d_MO_init_101 : decode b_MO_init 101 = .ok (.bipush 21, 2) := by decide +kernel
theorem d_MO_init_103 : decode b_MO_init 103 = .ok (.newarray .int, 2) := by decide +kernel
theorem d_MO_init_105 : decode b_MO_init 105 = .ok (.putfield 47, 3) := by decide +kernel
theorem d_MO_init_108 : decode b_MO_init 108 = .ok (.aload_n 0, 1) := by decide +kernel
theorem d_MO_init_109 : decode b_MO_init 109 = .ok (.bipush 21, 2) := by decide +kernel
theorem d_MO_init_111 : decode b_MO_init 111 = .ok (.newarray .int, 2) := by decide +kernel
theorem d_MO_init_113 : decode b_MO_init 113 = .ok (.putfield 50, 3) := by decide +kernel
theorem d_MO_init_116 : decode b_MO_init 116 = .ok (.aload_n 0, 1) := by decide +kernel
theorem d_MO_init_117 : decode b_MO_init 117 = .ok (.bipush 21, 2) := by decide +kernel
theorem d_MO_init_119 : decode b_MO_init 119 = .ok (.newarray .int, 2) := by decide +kernel
theorem d_MO_init_121 : decode b_MO_init 121 = .ok (.putfield 53, 3) := by decide +kernel
theorem d_MO_init_124 : decode b_MO_init 124 = .ok (.aload_n 0, 1) := by decide +kernel
theorem d_MO_init_125 : decode b_MO_init 125 = .ok (.bipush 21, 2) := by decide +kernel
theorem d_MO_init_127 : decode b_MO_init 127 = .ok (.newarray .int, 2) := by decide +kernel
theorem d_MO_init_129 : decode b_MO_init 129 = .ok (.putfield 56, 3) := by decide +kernel
theorem d_MO_init_132 : decode b_MO_init 132 = .ok (.aload_n 0, 1) := by decide +kernel
theorem d_MO_init_133 : decode b_MO_init 133 = .ok (.bipush 21, 2) := by decide +kernel
theorem d_MO_init_135 : decode b_MO_init 135 = .ok (.newarray .int, 2) := by decide +kernel
theorem d_MO_init_137 : decode b_MO_init 137 = .ok (.putfield 59, 3) := by decide +kernel
theorem d_MO_init_140 : decode b_MO_init 140 = .ok (.aload_n 0, 1) := by decide +kernel
theorem d_MO_init_141 : decode b_MO_init 141 = .ok (.bipush 21, 2) := by decide +kernel
theorem d_MO_init_143 : decode b_MO_init 143 = .ok (.newarray .int, 2) := by decide +kernel
theorem d_MO_init_145 : decode b_MO_init 145 = .ok (.putfield 62, 3) := by decide +kernel
theorem d_MO_init_148 : decode b_MO_init 148 = .ok (.aload_n 0, 1) := by decide +kernel
theorem d_MO_init_149 : decode b_MO_init 149 = .ok (.sipush 1001, 3) := by decide +kernel
theorem d_MO_init_152 : decode b_MO_init 152 = .ok (.newarray .int, 2) := by decide +kernel
theorem d_MO_init_154 : decode b_MO_init 154 = .ok (.putfield 65, 3) := by decide +kernel
theorem d_MO_init_157 : decode b_MO_init 157 = .ok (.return_, 1) := by decide +kernel
theorem d_MO_isReturn_0 : decode b_MO_isReturn 0 = .ok (.iload_n 1, 1) := by decide +kernel
theorem d_MO_isReturn_1 : decode b_MO_isReturn 1 = .ok (.iconst 1, 1) := by decide +kernel
theorem d_MO_isReturn_2 : decode b_MO_isReturn 2 = .ok (.aload_n 0, 1) := by decide +kernel
theorem d_MO_isReturn_3 : decode b_MO_isReturn 3 = .ok (.getfield 79, 3) := by decide +kernel
theorem d_MO_isReturn_6 : decode b_MO_isReturn 6 = .ok (.invokestatic 75, 3) := by decide +kernel
theorem d_MO_isReturn_9 : decode b_MO_isReturn 9 = .ok (.ireturn, 1) := by decide +kernel
theorem d_MO_isSale_0 : decode b_MO_isSale 0 = .ok (.iload_n 1, 1) := by decide +kernel
theorem d_MO_isSale_1 : decode b_MO_isSale 1 = .ok (.iconst 0, 1) := by decide +kernel
theorem d_MO_isSale_2 : decode b_MO_isSale 2 = .ok (.aload_n 0, 1) := by decide +kernel
theorem d_MO_isSale_3 : decode b_MO_isSale 3 = .ok (.getfield 72, 3) := by decide +kernel
theorem d_MO_isSale_6 : decode b_MO_isSale 6 = .ok (.iconst 1, 1) := by decide +kernel
theorem d_MO_isSale_7 : decode b_MO_isSale 7 = .ok (.isub, 1) := by decide +kernel
theorem d_MO_isSale_8 : decode b_MO_isSale 8 = .ok (.invokestatic 75, 3) := by decide +kernel
theorem d_MO_isSale_11 : decode b_MO_isSale 11 = .ok (.ireturn, 1) := by decide +kernel
theorem d_MO_isSeen_0 : decode b_MO_isSeen 0 = .ok (.aload_n 0, 1) := by decide +kernel
theorem d_MO_isSeen_1 : decode b_MO_isSeen 1 = .ok (.getfield 28, 3) := by decide +kernel
theorem d_MO_isSeen_4 : decode b_MO_isSeen 4 = .ok (.iload_n 1, 1) := by decide +kernel
theorem d_MO_isSeen_5 : decode b_MO_isSeen 5 = .ok (.iaload, 1) := by decide +kernel
theorem d_MO_isSeen_6 : decode b_MO_isSeen 6 = .ok (.iconst 2, 1) := by decide +kernel
theorem d_MO_isSeen_7 : decode b_MO_isSeen 7 = .ok (.if_icmp .eq 13, 3) := by decide +kernel
theorem d_MO_isSeen_10 : decode b_MO_isSeen 10 = .ok (.aload_n 0, 1) := by decide +kernel
theorem d_MO_isSeen_11 : decode b_MO_isSeen 11 = .ok (.getfield 28, 3) := by decide +kernel
theorem d_MO_isSeen_14 : decode b_MO_isSeen 14 = .ok (.iload_n 1, 1) := by decide +kernel
theorem d_MO_isSeen_15 : decode b_MO_isSeen 15 = .ok (.iaload, 1) := by decide +kernel
theorem d_MO_isSeen_16 : decode b_MO_isSeen 16 = .ok (.iconst 3, 1) := by decide +kernel
theorem d_MO_isSeen_17 : decode b_MO_isSeen 17 = .ok (.if_icmp .ne 7, 3) := by decide +kernel
theorem d_MO_isSeen_20 : decode b_MO_isSeen 20 = .ok (.iconst 1, 1) := by decide +kernel
theorem d_MO_isSeen_21 : decode b_MO_isSeen 21 = .ok (.goto 4, 3) := by decide +kernel
theorem d_MO_isSeen_24 : decode b_MO_isSeen 24 = .ok (.iconst 0, 1) := by decide +kernel
theorem d_MO_isSeen_25 : decode b_MO_isSeen 25 = .ok (.ireturn, 1) := by decide +kernel
theorem d_MO_missing_0 : decode b_MO_missing 0 = .ok (.aload_n 0, 1) := by decide +kernel
theorem d_MO_missing_1 : decode b_MO_missing 1 = .ok (.aload_n 0, 1) := by decide +kernel
theorem d_MO_missing_2 : decode b_MO_missing 2 = .ok (.iload_n 1, 1) := by decide +kernel
theorem d_MO_missing_3 : decode b_MO_missing 3 = .ok (.invokevirtual 93, 3) := by decide +kernel
theorem d_MO_missing_6 : decode b_MO_missing 6 = .ok (.ifCond .ne 7, 3) := by decide +kernel
theorem d_MO_missing_9 : decode b_MO_missing 9 = .ok (.iconst 1, 1) := by decide +kernel
theorem d_MO_missing_10 : decode b_MO_missing 10 = .ok (.goto 18, 3) := by decide +kernel
theorem d_MO_missing_13 : decode b_MO_missing 13 = .ok (.iload_n 2, 1) := by decide +kernel
theorem d_MO_missing_14 : decode b_MO_missing 14 = .ok (.iconst 0, 1) := by decide +kernel
theorem d_MO_missing_15 : decode b_MO_missing 15 = .ok (.bipush 10, 2) := by decide +kernel
theorem d_MO_missing_17 : decode b_MO_missing 17 = .ok (.invokestatic 75, 3) := by decide +kernel
theorem d_MO_missing_20 : decode b_MO_missing 20 = .ok (.ifCond .ne 7, 3) := by decide +kernel
theorem d_MO_missing_23 : decode b_MO_missing 23 = .ok (.iconst 2, 1) := by decide +kernel
theorem d_MO_missing_24 : decode b_MO_missing 24 = .ok (.goto 4, 3) := by decide +kernel
theorem d_MO_missing_27 : decode b_MO_missing 27 = .ok (.iconst 0, 1) := by decide +kernel
theorem d_MO_missing_28 : decode b_MO_missing 28 = .ok (.putfield 68, 3) := by decide +kernel
theorem d_MO_missing_31 : decode b_MO_missing 31 = .ok (.aload_n 0, 1) := by decide +kernel
theorem d_MO_missing_32 : decode b_MO_missing 32 = .ok (.getfield 68, 3) := by decide +kernel
theorem d_MO_missing_35 : decode b_MO_missing 35 = .ok (.ifCond .ne 20, 3) := by decide +kernel
theorem d_MO_missing_38 : decode b_MO_missing 38 = .ok (.aload_n 0, 1) := by decide +kernel
theorem d_MO_missing_39 : decode b_MO_missing 39 = .ok (.aload_n 0, 1) := by decide +kernel
theorem d_MO_missing_40 : decode b_MO_missing 40 = .ok (.iload_n 1, 1) := by decide +kernel
theorem d_MO_missing_41 : decode b_MO_missing 41 = .ok (.invokevirtual 96, 3) := by decide +kernel
theorem d_MO_missing_44 : decode b_MO_missing 44 = .ok (.ifCond .eq 7, 3) := by decide +kernel
theorem d_MO_missing_47 : decode b_MO_missing 47 = .ok (.iconst 0, 1) := by decide +kernel
theorem d_MO_missing_48 : decode b_MO_missing 48 = .ok (.goto 4, 3) := by decide +kernel
theorem d_MO_missing_51 : decode b_MO_missing 51 = .ok (.iconst 3, 1) := by decide +kernel
theorem d_MO_missing_52 : decode b_MO_missing 52 = .ok (.putfield 68, 3) := by decide +kernel
theorem d_MO_missing_55 : decode b_MO_missing 55 = .ok (.aload_n 0, 1) := by decide +kernel
theorem d_MO_missing_56 : decode b_MO_missing 56 = .ok (.getfield 68, 3) := by decide +kernel
theorem d_MO_missing_59 : decode b_MO_missing 59 = .ok (.ifCond .ne 10, 3) := by decide +kernel
theorem d_MO_missing_62 : decode b_MO_missing 62 = .ok (.aload_n 0, 1) := by decide +kernel
theorem d_MO_missing_63 : decode b_MO_missing 63 = .ok (.getfield 59, 3) := by decide +kernel
theorem d_MO_missing_66 : decode b_MO_missing 66 = .ok (.iload_n 1, 1) := by decide +kernel
theorem d_MO_missing_67 : decode b_MO_missing 67 = .ok (.iload_n 2, 1) := by decide +kernel
theorem d_MO_missing_68 : decode b_MO_missing 68 = .ok (.iastore, 1) := by decide +kernel
theorem d_MO_missing_69 : decode b_MO_missing 69 = .ok (.return_, 1) := by decide +kernel
theorem d_MO_percent_0 : decode b_MO_percent 0 = .ok (.iload_n 0, 1) := by decide +kernel
theorem d_MO_percent_1 : decode b_MO_percent 1 = .ok (.ifCond .ne 8, 3) := by decide +kernel
theorem d_MO_percent_4 : decode b_MO_percent 4 = .ok (.bipush 100, 2) := by decide +kernel
theorem d_MO_percent_6 : decode b_MO_percent 6 = .ok (.goto 34, 3) := by decide +kernel
theorem d_MO_percent_9 : decode b_MO_percent 9 = .ok (.iload_n 0, 1) := by decide +kernel
theorem d_MO_percent_10 : decode b_MO_percent 10 = .ok (.iconst 1, 1) := by decide +kernel
theorem d_MO_percent_11 : decode b_MO_percent 11 = .ok (.if_icmp .ne 8, 3) := by decide +kernel
theorem d_MO_percent_14 : decode b_MO_percent 14 = .ok (.bipush 90, 2) := by decide +kernel
theorem d_MO_percent_16 : decode b_MO_percent 16 = .ok (.goto 24, 3) := by decide +kernel
theorem d_MO_percent_19 : decode b_MO_percent 19 = .ok (.iload_n 0, 1) := by decide +kernel
theorem d_MO_percent_20 : decode b_MO_percent 20 = .ok (.iconst 2, 1) := by decide +kernel
theorem d_MO_percent_21 : decode b_MO_percent 21 = .ok (.if_icmp .ne 8, 3) := by decide +kernel
theorem d_MO_percent_24 : decode b_MO_percent 24 = .ok (.bipush 70, 2) := by decide +kernel
theorem d_MO_percent_26 : decode b_MO_percent 26 = .ok (.goto 14, 3) := by decide +kernel
theorem d_MO_percent_29 : decode b_MO_percent 29 = .ok (.iload_n 0, 1) := by decide +kernel
theorem d_MO_percent_30 : decode b_MO_percent 30 = .ok (.iconst 3, 1) := by decide +kernel
theorem d_MO_percent_31 : decode b_MO_percent 31 = .ok (.if_icmp .ne 8, 3) := by decide +kernel
theorem d_MO_percent_34 : decode b_MO_percent 34 = .ok (.bipush 40, 2) := by decide +kernel
theorem d_MO_percent_36 : decode b_MO_percent 36 = .ok (.goto 4, 3) := by decide +kernel
theorem d_MO_percent_39 : decode b_MO_percent 39 = .ok (.iconst 0, 1) := by decide +kernel
theorem d_MO_percent_40 : decode b_MO_percent 40 = .ok (.ireturn, 1) := by decide +kernel
theorem d_MO_quarantine_0 : decode b_MO_quarantine 0 = .ok (.aload_n 0, 1) := by decide +kernel
theorem d_MO_quarantine_1 : decode b_MO_quarantine 1 = .ok (.aload_n 0, 1) := by decide +kernel
theorem d_MO_quarantine_2 : decode b_MO_quarantine 2 = .ok (.iload_n 1, 1) := by decide +kernel
theorem d_MO_quarantine_3 : decode b_MO_quarantine 3 = .ok (.invokevirtual 93, 3) := by decide +kernel
theorem d_MO_quarantine_6 : decode b_MO_quarantine 6 = .ok (.ifCond .ne 7, 3) := by decide +kernel
theorem d_MO_quarantine_9 : decode b_MO_quarantine 9 = .ok (.iconst 1, 1) := by decide +kernel
theorem d_MO_quarantine_10 : decode b_MO_quarantine 10 = .ok (.goto 4, 3) := by decide +kernel
theorem d_MO_quarantine_13 : decode b_MO_quarantine 13 = .ok (.iconst 0, 1) := by decide +kernel
theorem d_MO_quarantine_14 : decode b_MO_quarantine 14 = .ok (.putfield 68, 3) := by decide +kernel
theorem d_MO_quarantine_17 : decode b_MO_quarantine 17 = .ok (.aload_n 0, 1) := by decide +kernel
theorem d_MO_quarantine_18 : decode b_MO_quarantine 18 = .ok (.getfield 68, 3) := by decide +kernel
theorem d_MO_quarantine_21 : decode b_MO_quarantine 21 = .ok (.ifCond .ne 34, 3) := by decide +kernel
theorem d_MO_quarantine_24 : decode b_MO_quarantine 24 = .ok (.aload_n 0, 1) := by decide +kernel
theorem d_MO_quarantine_25 : decode b_MO_quarantine 25 = .ok (.aload_n 0, 1) := by decide +kernel
theorem d_MO_quarantine_26 : decode b_MO_quarantine 26 = .ok (.getfield 37, 3) := by decide +kernel
theorem d_MO_quarantine_29 : decode b_MO_quarantine 29 = .ok (.iload_n 1, 1) := by decide +kernel
theorem d_MO_quarantine_30 : decode b_MO_quarantine 30 = .ok (.baload, 1) := by decide +kernel
theorem d_MO_quarantine_31 : decode b_MO_quarantine 31 = .ok (.iload_n 2, 1) := by decide +kernel
theorem d_MO_quarantine_32 : decode b_MO_quarantine 32 = .ok (.if_icmp .eq 15, 3) := by decide +kernel
theorem d_MO_quarantine_35 : decode b_MO_quarantine 35 = .ok (.iload_n 2, 1) := by decide +kernel
theorem d_MO_quarantine_36 : decode b_MO_quarantine 36 = .ok (.ifCond .eq 15, 3) := by decide +kernel
theorem d_MO_quarantine_39 : decode b_MO_quarantine 39 = .ok (.aload_n 0, 1) := by decide +kernel
theorem d_MO_quarantine_40 : decode b_MO_quarantine 40 = .ok (.iload_n 1, 1) := by decide +kernel
theorem d_MO_quarantine_41 : decode b_MO_quarantine 41 = .ok (.invokevirtual 96, 3) := by decide +kernel
theorem d_MO_quarantine_44 : decode b_MO_quarantine 44 = .ok (.ifCond .ne 7, 3) := by decide +kernel
theorem d_MO_quarantine_47 : decode b_MO_quarantine 47 = .ok (.iconst 2, 1) := by decide +kernel
theorem d_MO_quarantine_48 : decode b_MO_quarantine 48 = .ok (.goto 4, 3) := by decide +kernel
theorem d_MO_quarantine_51 : decode b_MO_quarantine 51 = .ok (.iconst 0, 1) := by decide +kernel
theorem d_MO_quarantine_52 : decode b_MO_quarantine 52 = .ok (.putfield 68, 3) := by decide +kernel
theorem d_MO_quarantine_55 : decode b_MO_quarantine 55 = .ok (.aload_n 0, 1) := by decide +kernel
theorem d_MO_quarantine_56 : decode b_MO_quarantine 56 = .ok (.getfield 68, 3) := by decide +kernel
theorem d_MO_quarantine_59 : decode b_MO_quarantine 59 = .ok (.ifCond .ne 10, 3) := by decide +kernel
theorem d_MO_quarantine_62 : decode b_MO_quarantine 62 = .ok (.aload_n 0, 1) := by decide +kernel
theorem d_MO_quarantine_63 : decode b_MO_quarantine 63 = .ok (.getfield 37, 3) := by decide +kernel
theorem d_MO_quarantine_66 : decode b_MO_quarantine 66 = .ok (.iload_n 1, 1) := by decide +kernel
theorem d_MO_quarantine_67 : decode b_MO_quarantine 67 = .ok (.iload_n 2, 1) := by decide +kernel
theorem d_MO_quarantine_68 : decode b_MO_quarantine 68 = .ok (.bastore, 1) := by decide +kernel
theorem d_MO_quarantine_69 : decode b_MO_quarantine 69 = .ok (.return_, 1) := by decide +kernel
theorem d_MO_reason_0 : decode b_MO_reason 0 = .ok (.aload_n 0, 1) := by decide +kernel
theorem d_MO_reason_1 : decode b_MO_reason 1 = .ok (.iload_n 1, 1) := by decide +kernel
theorem d_MO_reason_2 : decode b_MO_reason 2 = .ok (.iconst 0, 1) := by decide +kernel
theorem d_MO_reason_3 : decode b_MO_reason 3 = .ok (.bipush 7, 2) := by decide +kernel
theorem d_MO_reason_5 : decode b_MO_reason 5 = .ok (.invokestatic 75, 3) := by decide +kernel
theorem d_MO_reason_8 : decode b_MO_reason 8 = .ok (.ifCond .eq 12, 3) := by decide +kernel
theorem d_MO_reason_11 : decode b_MO_reason 11 = .ok (.iload_n 2, 1) := by decide +kernel
theorem d_MO_reason_12 : decode b_MO_reason 12 = .ok (.iconst 0, 1) := by decide +kernel
theorem d_MO_reason_13 : decode b_MO_reason 13 = .ok (.iconst 2, 1) := by decide +kernel
theorem d_MO_reason_14 : decode b_MO_reason 14 = .ok (.invokestatic 75, 3) := by decide +kernel
theorem d_MO_reason_17 : decode b_MO_reason 17 = .ok (.ifCond .ne 7, 3) := by decide +kernel
theorem d_MO_reason_20 : decode b_MO_reason 20 = .ok (.iconst 1, 1) := by decide +kernel
theorem d_MO_reason_21 : decode b_MO_reason 21 = .ok (.goto 4, 3) := by decide +kernel
theorem d_MO_reason_24 : decode b_MO_reason 24 = .ok (.iconst 0, 1) := by decide +kernel
theorem d_MO_reason_25 : decode b_MO_reason 25 = .ok (.putfield 68, 3) := by decide +kernel
theorem d_MO_reason_28 : decode b_MO_reason 28 = .ok (.aload_n 0, 1) := by decide +kernel
theorem d_MO_reason_29 : decode b_MO_reason 29 = .ok (.getfield 68, 3) := by decide +kernel
theorem d_MO_reason_32 : decode b_MO_reason 32 = .ok (.ifCond .le 5, 3) := by decide +kernel
theorem d_MO_reason_35 : decode b_MO_reason 35 = .ok (.iconst 0, 1) := by decide +kernel
theorem d_MO_reason_36 : decode b_MO_reason 36 = .ok (.ireturn, 1) := by decide +kernel
theorem d_MO_reason_37 : decode b_MO_reason 37 = .ok (.iconst 0, 1) := by decide +kernel
theorem d_MO_reason_38 : decode b_MO_reason 38 = .ok (.istore_n 3, 1) := by decide +kernel
theorem d_MO_reason_39 : decode b_MO_reason 39 = .ok (.iconst 1, 1) := by decide +kernel
theorem d_MO_reason_40 : decode b_MO_reason 40 = .ok (.istore 4, 2) := by decide +kernel
theorem d_MO_reason_42 : decode b_MO_reason 42 = .ok (.iload 4, 2) := by decide +kernel
theorem d_MO_reason_44 : decode b_MO_reason 44 = .ok (.aload_n 0, 1) := by decide +kernel
theorem d_MO_reason_45 : decode b_MO_reason 45 = .ok (.getfield 79, 3) := by decide +kernel
theorem d_MO_reason_48 : decode b_MO_reason 48 = .ok (.if_icmp .gt 65, 3) := by decide +kernel
theorem d_MO_reason_51 : decode b_MO_reason 51 = .ok (.aload_n 0, 1) := by decide +kernel
theorem d_MO_reason_52 : decode b_MO_reason 52 = .ok (.getfield 25, 3) := by decide +kernel
theorem d_MO_reason_55 : decode b_MO_reason 55 = .ok (.iload 4, 2) := by decide +kernel
theorem d_MO_reason_57 : decode b_MO_reason 57 = .ok (.iaload, 1) := by decide +kernel
theorem d_MO_reason_58 : decode b_MO_reason 58 = .ok (.iload_n 1, 1) := by decide +kernel
theorem d_MO_reason_59 : decode b_MO_reason 59 = .ok (.if_icmp .eq 6, 3) := by decide +kernel
theorem d_MO_reason_62 : decode b_MO_reason 62 = .ok (.goto 45, 3) := by decide +kernel
theorem d_MO_reason_65 : decode b_MO_reason 65 = .ok (.iload_n 3, 1) := by decide +kernel
theorem d_MO_reason_66 : decode b_MO_reason 66 = .ok (.iload_n 2, 1) := by decide +kernel
theorem d_MO_reason_67 : decode b_MO_reason 67 = .ok (.ifCond .ne 7, 3) := by decide +kernel
theorem d_MO_reason_70 : decode b_MO_reason 70 = .ok (.iconst 1, 1) := by decide +kernel
theorem d_MO_reason_71 : decode b_MO_reason 71 = .ok (.goto 34, 3) := by decide +kernel
theorem d_MO_reason_74 : decode b_MO_reason 74 = .ok (.iload_n 2, 1) := by decide +kernel
theorem d_MO_reason_75 : decode b_MO_reason 75 = .ok (.iconst 1, 1) := by decide +kernel
theorem d_MO_reason_76 : decode b_MO_reason 76 = .ok (.if_icmp .ne 13, 3) := by decide +kernel
theorem d_MO_reason_79 : decode b_MO_reason 79 = .ok (.aload_n 0, 1) := by decide +kernel
theorem d_MO_reason_80 : decode b_MO_reason 80 = .ok (.getfield 62, 3) := by decide +kernel
theorem d_MO_reason_83 : decode b_MO_reason 83 = .ok (.iload 4, 2) := by decide +kernel
theorem d_MO_reason_85 : decode b_MO_reason 85 = .ok (.iaload, 1) := by decide +kernel
theorem d_MO_reason_86 : decode b_MO_reason 86 = .ok (.goto 19, 3) := by decide +kernel
theorem d_MO_reason_89 : decode b_MO_reason 89 = .ok (.aload_n 0, 1) := by decide +kernel
theorem d_MO_reason_90 : decode b_MO_reason 90 = .ok (.getfield 28, 3) := by decide +kernel
theorem d_MO_reason_93 : decode b_MO_reason 93 = .ok (.iload 4, 2) := by decide +kernel
theorem d_MO_reason_95 : decode b_MO_reason 95 = .ok (.iaload, 1) := by decide +kernel
theorem d_MO_reason_96 : decode b_MO_reason 96 = .ok (.iconst 5, 1) := by decide +kernel
theorem d_MO_reason_97 : decode b_MO_reason 97 = .ok (.if_icmp .ne 7, 3) := by decide +kernel
theorem d_MO_reason_100 : decode b_MO_reason 100 = .ok (.iconst 1, 1) := by decide +kernel
theorem d_MO_reason_101 : decode b_MO_reason 101 = .ok (.goto 4, 3) := by decide +kernel
theorem d_MO_reason_104 : decode b_MO_reason 104 = .ok (.iconst 0, 1) := by decide +kernel
theorem d_MO_reason_105 : decode b_MO_reason 105 = .ok (.iadd, 1) := by decide +kernel
theorem d_MO_reason_106 : decode b_MO_reason 106 = .ok (.istore_n 3, 1) := by decide +kernel
theorem d_MO_reason_107 : decode b_MO_reason 107 = .ok (.iinc 4 1, 3) := by decide +kernel
theorem d_MO_reason_110 : decode b_MO_reason 110 = .ok (.goto (-68), 3) := by decide +kernel
theorem d_MO_reason_113 : decode b_MO_reason 113 = .ok (.iload_n 3, 1) := by decide +kernel
theorem d_MO_reason_114 : decode b_MO_reason 114 = .ok (.ireturn, 1) := by decide +kernel
theorem d_MO_refund_0 : decode b_MO_refund 0 = .ok (.aload_n 0, 1) := by decide +kernel
theorem d_MO_refund_1 : decode b_MO_refund 1 = .ok (.aload_n 0, 1) := by decide +kernel
theorem d_MO_refund_2 : decode b_MO_refund 2 = .ok (.iload_n 1, 1) := by decide +kernel
theorem d_MO_refund_3 : decode b_MO_refund 3 = .ok (.invokevirtual 93, 3) := by decide +kernel
theorem d_MO_refund_6 : decode b_MO_refund 6 = .ok (.ifCond .ne 7, 3) := by decide +kernel
theorem d_MO_refund_9 : decode b_MO_refund 9 = .ok (.iconst 1, 1) := by decide +kernel
theorem d_MO_refund_10 : decode b_MO_refund 10 = .ok (.goto 18, 3) := by decide +kernel
theorem d_MO_refund_13 : decode b_MO_refund 13 = .ok (.iload_n 2, 1) := by decide +kernel
theorem d_MO_refund_14 : decode b_MO_refund 14 = .ok (.iconst 1, 1) := by decide +kernel
theorem d_MO_refund_15 : decode b_MO_refund 15 = .ok (.ldc 85, 2) := by decide +kernel
theorem d_MO_refund_17 : decode b_MO_refund 17 = .ok (.invokestatic 75, 3) := by decide +kernel
theorem d_MO_refund_20 : decode b_MO_refund 20 = .ok (.ifCond .ne 7, 3) := by decide +kernel
theorem d_MO_refund_23 : decode b_MO_refund 23 = .ok (.iconst 2, 1) := by decide +kernel
theorem d_MO_refund_24 : decode b_MO_refund 24 = .ok (.goto 4, 3) := by decide +kernel
theorem d_MO_refund_27 : decode b_MO_refund 27 = .ok (.iconst 0, 1) := by decide +kernel
theorem d_MO_refund_28 : decode b_MO_refund 28 = .ok (.putfield 68, 3) := by decide +kernel
theorem d_MO_refund_31 : decode b_MO_refund 31 = .ok (.aload_n 0, 1) := by decide +kernel
theorem d_MO_refund_32 : decode b_MO_refund 32 = .ok (.getfield 68, 3) := by decide +kernel
theorem d_MO_refund_35 : decode b_MO_refund 35 = .ok (.ifCond .ne 28, 3) := by decide +kernel
theorem d_MO_refund_38 : decode b_MO_refund 38 = .ok (.aload_n 0, 1) := by decide +kernel
theorem d_MO_refund_39 : decode b_MO_refund 39 = .ok (.iload_n 2, 1) := by decide +kernel
theorem d_MO_refund_40 : decode b_MO_refund 40 = .ok (.aload_n 0, 1) := by decide +kernel
theorem d_MO_refund_41 : decode b_MO_refund 41 = .ok (.iload_n 1, 1) := by decide +kernel
theorem d_MO_refund_42 : decode b_MO_refund 42 = .ok (.invokevirtual 110, 3) := by decide +kernel
theorem d_MO_refund_45 : decode b_MO_refund 45 = .ok (.aload_n 0, 1) := by decide +kernel
theorem d_MO_refund_46 : decode b_MO_refund 46 = .ok (.getfield 62, 3) := by decide +kernel
theorem d_MO_refund_49 : decode b_MO_refund 49 = .ok (.iload_n 1, 1) := by decide +kernel
theorem d_MO_refund_50 : decode b_MO_refund 50 = .ok (.iaload, 1) := by decide +kernel
theorem d_MO_refund_51 : decode b_MO_refund 51 = .ok (.isub, 1) := by decide +kernel
theorem d_MO_refund_52 : decode b_MO_refund 52 = .ok (.if_icmp .le 7, 3) := by decide +kernel
theorem d_MO_refund_55 : decode b_MO_refund 55 = .ok (.iconst 3, 1) := by decide +kernel
theorem d_MO_refund_56 : decode b_MO_refund 56 = .ok (.goto 4, 3) := by decide +kernel
theorem d_MO_refund_59 : decode b_MO_refund 59 = .ok (.iconst 0, 1) := by decide +kernel
theorem d_MO_refund_60 : decode b_MO_refund 60 = .ok (.putfield 68, 3) := by decide +kernel
theorem d_MO_refund_63 : decode b_MO_refund 63 = .ok (.aload_n 0, 1) := by decide +kernel
theorem d_MO_refund_64 : decode b_MO_refund 64 = .ok (.getfield 68, 3) := by decide +kernel
theorem d_MO_refund_67 : decode b_MO_refund 67 = .ok (.ifCond .le 5, 3) := by decide +kernel
theorem d_MO_refund_70 : decode b_MO_refund 70 = .ok (.iconst 0, 1) := by decide +kernel
theorem d_MO_refund_71 : decode b_MO_refund 71 = .ok (.ireturn, 1) := by decide +kernel
theorem d_MO_refund_72 : decode b_MO_refund 72 = .ok (.aload_n 0, 1) := by decide +kernel
theorem d_MO_refund_73 : decode b_MO_refund 73 = .ok (.getfield 62, 3) := by decide +kernel
theorem d_MO_refund_76 : decode b_MO_refund 76 = .ok (.iload_n 1, 1) := by decide +kernel
theorem d_MO_refund_77 : decode b_MO_refund 77 = .ok (.dup2, 1) := by decide +kernel
theorem d_MO_refund_78 : decode b_MO_refund 78 = .ok (.iaload, 1) := by decide +kernel
theorem d_MO_refund_79 : decode b_MO_refund 79 = .ok (.iload_n 2, 1) := by decide +kernel
theorem d_MO_refund_80 : decode b_MO_refund 80 = .ok (.iadd, 1) := by decide +kernel
theorem d_MO_refund_81 : decode b_MO_refund 81 = .ok (.iastore, 1) := by decide +kernel
theorem d_MO_refund_82 : decode b_MO_refund 82 = .ok (.aload_n 0, 1) := by decide +kernel
theorem d_MO_refund_83 : decode b_MO_refund 83 = .ok (.iload_n 1, 1) := by decide +kernel
theorem d_MO_refund_84 : decode b_MO_refund 84 = .ok (.invokevirtual 110, 3) := by decide +kernel
theorem d_MO_refund_87 : decode b_MO_refund 87 = .ok (.aload_n 0, 1) := by decide +kernel
theorem d_MO_refund_88 : decode b_MO_refund 88 = .ok (.getfield 62, 3) := by decide +kernel
theorem d_MO_refund_91 : decode b_MO_refund 91 = .ok (.iload_n 1, 1) := by decide +kernel
theorem d_MO_refund_92 : decode b_MO_refund 92 = .ok (.iaload, 1) := by decide +kernel
theorem d_MO_refund_93 : decode b_MO_refund 93 = .ok (.isub, 1) := by decide +kernel
theorem d_MO_refund_94 : decode b_MO_refund 94 = .ok (.ireturn, 1) := by decide +kernel
theorem d_MO_regrade_0 : decode b_MO_regrade 0 = .ok (.aload_n 0, 1) := by decide +kernel
theorem d_MO_regrade_1 : decode b_MO_regrade 1 = .ok (.getfield 47, 3) := by decide +kernel
theorem d_MO_regrade_4 : decode b_MO_regrade 4 = .ok (.iload_n 1, 1) := by decide +kernel
theorem d_MO_regrade_5 : decode b_MO_regrade 5 = .ok (.aload_n 0, 1) := by decide +kernel
theorem d_MO_regrade_6 : decode b_MO_regrade 6 = .ok (.getfield 44, 3) := by decide +kernel
theorem d_MO_regrade_9 : decode b_MO_regrade 9 = .ok (.iload_n 1, 1) := by decide +kernel
theorem d_MO_regrade_10 : decode b_MO_regrade 10 = .ok (.iaload, 1) := by decide +kernel
theorem d_MO_regrade_11 : decode b_MO_regrade 11 = .ok (.iastore, 1) := by decide +kernel
theorem d_MO_regrade_12 : decode b_MO_regrade 12 = .ok (.aload_n 0, 1) := by decide +kernel
theorem d_MO_regrade_13 : decode b_MO_regrade 13 = .ok (.getfield 44, 3) := by decide +kernel
theorem d_MO_regrade_16 : decode b_MO_regrade 16 = .ok (.iload_n 1, 1) := by decide +kernel
theorem d_MO_regrade_17 : decode b_MO_regrade 17 = .ok (.iload_n 2, 1) := by decide +kernel
theorem d_MO_regrade_18 : decode b_MO_regrade 18 = .ok (.iastore, 1) := by decide +kernel
theorem d_MO_regrade_19 : decode b_MO_regrade 19 = .ok (.aload_n 0, 1) := by decide +kernel
theorem d_MO_regrade_20 : decode b_MO_regrade 20 = .ok (.getfield 50, 3) := by decide +kernel
theorem d_MO_regrade_23 : decode b_MO_regrade 23 = .ok (.iload_n 1, 1) := by decide +kernel
theorem d_MO_regrade_24 : decode b_MO_regrade 24 = .ok (.aload_n 0, 1) := by decide +kernel
theorem d_MO_regrade_25 : decode b_MO_regrade 25 = .ok (.getfield 50, 3) := by decide +kernel
theorem d_MO_regrade_28 : decode b_MO_regrade 28 = .ok (.iload_n 1, 1) := by decide +kernel
theorem d_MO_regrade_29 : decode b_MO_regrade 29 = .ok (.iaload, 1) := by decide +kernel
theorem d_MO_regrade_30 : decode b_MO_regrade 30 = .ok (.iconst (-1), 1) := by decide +kernel
theorem d_MO_regrade_31 : decode b_MO_regrade 31 = .ok (.if_icmp .eq 13, 3) := by decide +kernel
theorem d_MO_regrade_34 : decode b_MO_regrade 34 = .ok (.iload_n 2, 1) := by decide +kernel
theorem d_MO_regrade_35 : decode b_MO_regrade 35 = .ok (.aload_n 0, 1) := by decide +kernel
theorem d_MO_regrade_36 : decode b_MO_regrade 36 = .ok (.getfield 50, 3) := by decide +kernel
theorem d_MO_regrade_39 : decode b_MO_regrade 39 = .ok (.iload_n 1, 1) := by decide +kernel
theorem d_MO_regrade_40 : decode b_MO_regrade 40 = .ok (.iaload, 1) := by decide +kernel
theorem d_MO_regrade_41 : decode b_MO_regrade 41 = .ok (.if_icmp .ge 7, 3) := by decide +kernel
theorem d_MO_regrade_44 : decode b_MO_regrade 44 = .ok (.iload_n 2, 1) := by decide +kernel
theorem d_MO_regrade_45 : decode b_MO_regrade 45 = .ok (.goto 9, 3) := by decide +kernel
theorem d_MO_regrade_48 : decode b_MO_regrade 48 = .ok (.aload_n 0, 1) := by decide +kernel
theorem d_MO_regrade_49 : decode b_MO_regrade 49 = .ok (.getfield 50, 3) := by decide +kernel
theorem d_MO_regrade_52 : decode b_MO_regrade 52 = .ok (.iload_n 1, 1) := by decide +kernel
theorem d_MO_regrade_53 : decode b_MO_regrade 53 = .ok (.iaload, 1) := by decide +kernel
theorem d_MO_regrade_54 : decode b_MO_regrade 54 = .ok (.iastore, 1) := by decide +kernel
theorem d_MO_regrade_55 : decode b_MO_regrade 55 = .ok (.return_, 1) := by decide +kernel
theorem d_MO_repair_0 : decode b_MO_repair 0 = .ok (.aload_n 0, 1) := by decide +kernel
theorem d_MO_repair_1 : decode b_MO_repair 1 = .ok (.aload_n 0, 1) := by decide +kernel
theorem d_MO_repair_2 : decode b_MO_repair 2 = .ok (.iload_n 1, 1) := by decide +kernel
theorem d_MO_repair_3 : decode b_MO_repair 3 = .ok (.invokevirtual 93, 3) := by decide +kernel
theorem d_MO_repair_6 : decode b_MO_repair 6 = .ok (.ifCond .ne 7, 3) := by decide +kernel
theorem d_MO_repair_9 : decode b_MO_repair 9 = .ok (.iconst 1, 1) := by decide +kernel
theorem d_MO_repair_10 : decode b_MO_repair 10 = .ok (.goto 17, 3) := by decide +kernel
theorem d_MO_repair_13 : decode b_MO_repair 13 = .ok (.iload_n 2, 1) := by decide +kernel
theorem d_MO_repair_14 : decode b_MO_repair 14 = .ok (.iconst 1, 1) := by decide +kernel
theorem d_MO_repair_15 : decode b_MO_repair 15 = .ok (.iconst 5, 1) := by decide +kernel
theorem d_MO_repair_16 : decode b_MO_repair 16 = .ok (.invokestatic 75, 3) := by decide +kernel
theorem d_MO_repair_19 : decode b_MO_repair 19 = .ok (.ifCond .ne 7, 3) := by decide +kernel
theorem d_MO_repair_22 : decode b_MO_repair 22 = .ok (.iconst 2, 1) := by decide +kernel
theorem d_MO_repair_23 : decode b_MO_repair 23 = .ok (.goto 4, 3) := by decide +kernel
theorem d_MO_repair_26 : decode b_MO_repair 26 = .ok (.iconst 0, 1) := by decide +kernel
theorem d_MO_repair_27 : decode b_MO_repair 27 = .ok (.putfield 68, 3) := by decide +kernel
theorem d_MO_repair_30 : decode b_MO_repair 30 = .ok (.aload_n 0, 1) := by decide +kernel
theorem d_MO_repair_31 : decode b_MO_repair 31 = .ok (.getfield 68, 3) := by decide +kernel
theorem d_MO_repair_34 : decode b_MO_repair 34 = .ok (.ifCond .ne 40, 3) := by decide +kernel
theorem d_MO_repair_37 : decode b_MO_repair 37 = .ok (.aload_n 0, 1) := by decide +kernel
theorem d_MO_repair_38 : decode b_MO_repair 38 = .ok (.aload_n 0, 1) := by decide +kernel
theorem d_MO_repair_39 : decode b_MO_repair 39 = .ok (.getfield 28, 3) := by decide +kernel
theorem d_MO_repair_42 : decode b_MO_repair 42 = .ok (.iload_n 1, 1) := by decide +kernel
theorem d_MO_repair_43 : decode b_MO_repair 43 = .ok (.iaload, 1) := by decide +kernel
theorem d_MO_repair_44 : decode b_MO_repair 44 = .ok (.iconst 3, 1) := by decide +kernel
theorem d_MO_repair_45 : decode b_MO_repair 45 = .ok (.if_icmp .ne 21, 3) := by decide +kernel
theorem d_MO_repair_48 : decode b_MO_repair 48 = .ok (.aload_n 0, 1) := by decide +kernel
theorem d_MO_repair_49 : decode b_MO_repair 49 = .ok (.getfield 37, 3) := by decide +kernel
theorem d_MO_repair_52 : decode b_MO_repair 52 = .ok (.iload_n 1, 1) := by decide +kernel
theorem d_MO_repair_53 : decode b_MO_repair 53 = .ok (.baload, 1) := by decide +kernel
theorem d_MO_repair_54 : decode b_MO_repair 54 = .ok (.ifCond .ne 12, 3) := by decide +kernel
theorem d_MO_repair_57 : decode b_MO_repair 57 = .ok (.aload_n 0, 1) := by decide +kernel
theorem d_MO_repair_58 : decode b_MO_repair 58 = .ok (.getfield 44, 3) := by decide +kernel
theorem d_MO_repair_61 : decode b_MO_repair 61 = .ok (.iload_n 1, 1) := by decide +kernel
theorem d_MO_repair_62 : decode b_MO_repair 62 = .ok (.iaload, 1) := by decide +kernel
theorem d_MO_repair_63 : decode b_MO_repair 63 = .ok (.ifCond .ne 7, 3) := by decide +kernel
theorem d_MO_repair_66 : decode b_MO_repair 66 = .ok (.iconst 3, 1) := by decide +kernel
theorem d_MO_repair_67 : decode b_MO_repair 67 = .ok (.goto 4, 3) := by decide +kernel
theorem d_MO_repair_70 : decode b_MO_repair 70 = .ok (.iconst 0, 1) := by decide +kernel
theorem d_MO_repair_71 : decode b_MO_repair 71 = .ok (.putfield 68, 3) := by decide +kernel
theorem d_MO_repair_74 : decode b_MO_repair 74 = .ok (.aload_n 0, 1) := by decide +kernel
theorem d_MO_repair_75 : decode b_MO_repair 75 = .ok (.getfield 68, 3) := by decide +kernel
theorem d_MO_repair_78 : decode b_MO_repair 78 = .ok (.ifCond .le 4, 3) := by decide +kernel
theorem d_MO_repair_81 : decode b_MO_repair 81 = .ok (.return_, 1) := by decide +kernel
theorem d_MO_repair_82 : decode b_MO_repair 82 = .ok (.aload_n 0, 1) := by decide +kernel
theorem d_MO_repair_83 : decode b_MO_repair 83 = .ok (.getfield 28, 3) := by decide +kernel
theorem d_MO_repair_86 : decode b_MO_repair 86 = .ok (.iload_n 1, 1) := by decide +kernel
theorem d_MO_repair_87 : decode b_MO_repair 87 = .ok (.iconst 4, 1) := by decide +kernel
theorem d_MO_repair_88 : decode b_MO_repair 88 = .ok (.iastore, 1) := by decide +kernel
theorem d_MO_repair_89 : decode b_MO_repair 89 = .ok (.aload_n 0, 1) := by decide +kernel
theorem d_MO_repair_90 : decode b_MO_repair 90 = .ok (.getfield 56, 3) := by decide +kernel
theorem d_MO_repair_93 : decode b_MO_repair 93 = .ok (.iload_n 1, 1) := by decide +kernel
theorem d_MO_repair_94 : decode b_MO_repair 94 = .ok (.iload_n 2, 1) := by decide +kernel
theorem d_MO_repair_95 : decode b_MO_repair 95 = .ok (.iastore, 1) := by decide +kernel
theorem d_MO_repair_96 : decode b_MO_repair 96 = .ok (.return_, 1) := by decide +kernel
theorem d_MO_returnsOf_0 : decode b_MO_returnsOf 0 = .ok (.iconst 0, 1) := by decide +kernel
theorem d_MO_returnsOf_1 : decode b_MO_returnsOf 1 = .ok (.istore_n 3, 1) := by decide +kernel
theorem d_MO_returnsOf_2 : decode b_MO_returnsOf 2 = .ok (.iconst 1, 1) := by decide +kernel
theorem d_MO_returnsOf_3 : decode b_MO_returnsOf 3 = .ok (.istore 4, 2) := by decide +kernel
theorem d_MO_returnsOf_5 : decode b_MO_returnsOf 5 = .ok (.iload 4, 2) := by decide +kernel
theorem d_MO_returnsOf_7 : decode b_MO_returnsOf 7 = .ok (.aload_n 0, 1) := by decide +kernel
theorem d_MO_returnsOf_8 : decode b_MO_returnsOf 8 = .ok (.getfield 79, 3) := by decide +kernel
theorem d_MO_returnsOf_11 : decode b_MO_returnsOf 11 = .ok (.if_icmp .gt 47, 3) := by decide +kernel
theorem d_MO_returnsOf_14 : decode b_MO_returnsOf 14 = .ok (.iload_n 3, 1) := by decide +kernel
theorem d_MO_returnsOf_15 : decode b_MO_returnsOf 15 = .ok (.aload_n 0, 1) := by decide +kernel
theorem d_MO_returnsOf_16 : decode b_MO_returnsOf 16 = .ok (.getfield 7, 3) := by decide +kernel
theorem d_MO_returnsOf_19 : decode b_MO_returnsOf 19 = .ok (.aload_n 0, 1) := by decide +kernel
theorem d_MO_returnsOf_20 : decode b_MO_returnsOf 20 = .ok (.getfield 22, 3) := by decide +kernel
theorem d_MO_returnsOf_23 : decode b_MO_returnsOf 23 = .ok (.iload 4, 2) := by decide +kernel
theorem d_MO_returnsOf_25 : decode b_MO_returnsOf 25 = .ok (.iaload, 1) := by decide +kernel
theorem d_MO_returnsOf_26 : decode b_MO_returnsOf 26 = .ok (.iaload, 1) := by decide +kernel
theorem d_MO_returnsOf_27 : decode b_MO_returnsOf 27 = .ok (.iload_n 1, 1) := by decide +kernel
theorem d_MO_returnsOf_28 : decode b_MO_returnsOf 28 = .ok (.if_icmp .ne 21, 3) := by decide +kernel
theorem d_MO_returnsOf_31 : decode b_MO_returnsOf 31 = .ok (.aload_n 0, 1) := by decide +kernel
theorem d_MO_returnsOf_32 : decode b_MO_returnsOf 32 = .ok (.getfield 41, 3) := by decide +kernel
theorem d_MO_returnsOf_35 : decode b_MO_returnsOf 35 = .ok (.iload 4, 2) := by decide +kernel
theorem d_MO_returnsOf_37 : decode b_MO_returnsOf 37 = .ok (.baload, 1) := by decide +kernel
theorem d_MO_returnsOf_38 : decode b_MO_returnsOf 38 = .ok (.ifCond .ne 7, 3) := by decide +kernel
theorem d_MO_returnsOf_41 : decode b_MO_returnsOf 41 = .ok (.iload_n 2, 1) := by decide +kernel
theorem d_MO_returnsOf_42 : decode b_MO_returnsOf 42 = .ok (.ifCond .ne 7, 3) := by decide +kernel
theorem d_MO_returnsOf_45 : decode b_MO_returnsOf 45 = .ok (.iconst 1, 1) := by decide +kernel
theorem d_MO_returnsOf_46 : decode b_MO_returnsOf 46 = .ok (.goto 4, 3) := by decide +kernel
theorem d_MO_returnsOf_49 : decode b_MO_returnsOf 49 = .ok (.iconst 0, 1) := by decide +kernel
theorem d_MO_returnsOf_50 : decode b_MO_returnsOf 50 = .ok (.iadd, 1) := by decide +kernel
theorem d_MO_returnsOf_51 : decode b_MO_returnsOf 51 = .ok (.istore_n 3, 1) := by decide +kernel
theorem d_MO_returnsOf_52 : decode b_MO_returnsOf 52 = .ok (.iinc 4 1, 3) := by decide +kernel
theorem d_MO_returnsOf_55 : decode b_MO_returnsOf 55 = .ok (.goto (-50), 3) := by decide +kernel
theorem d_MO_returnsOf_58 : decode b_MO_returnsOf 58 = .ok (.iload_n 3, 1) := by decide +kernel
theorem d_MO_returnsOf_59 : decode b_MO_returnsOf 59 = .ok (.ireturn, 1) := by decide +kernel
theorem d_MO_sale_0 : decode b_MO_sale 0 = .ok (.aload_n 0, 1) := by decide +kernel
theorem d_MO_sale_1 : decode b_MO_sale 1 = .ok (.iload_n 1, 1) := by decide +kernel
theorem d_MO_sale_2 : decode b_MO_sale 2 = .ok (.iconst 0, 1) := by decide +kernel
theorem d_MO_sale_3 : decode b_MO_sale 3 = .ok (.iconst 5, 1) := by decide +kernel
theorem d_MO_sale_4 : decode b_MO_sale 4 = .ok (.invokestatic 75, 3) := by decide +kernel
theorem d_MO_sale_7 : decode b_MO_sale 7 = .ok (.ifCond .eq 24, 3) := by decide +kernel
theorem d_MO_sale_10 : decode b_MO_sale 10 = .ok (.iload_n 2, 1) := by decide +kernel
theorem d_MO_sale_11 : decode b_MO_sale 11 = .ok (.iconst 1, 1) := by decide +kernel
theorem d_MO_sale_12 : decode b_MO_sale 12 = .ok (.ldc 85, 2) := by decide +kernel
theorem d_MO_sale_14 : decode b_MO_sale 14 = .ok (.invokestatic 75, 3) := by decide +kernel
theorem d_MO_sale_17 : decode b_MO_sale 17 = .ok (.ifCond .eq 14, 3) := by decide +kernel
theorem d_MO_sale_20 : decode b_MO_sale 20 = .ok (.iload_n 3, 1) := by decide +kernel
theorem d_MO_sale_21 : decode b_MO_sale 21 = .ok (.iconst 0, 1) := by decide +kernel
theorem d_MO_sale_22 : decode b_MO_sale 22 = .ok (.sipush 1000, 3) := by decide +kernel
theorem d_MO_sale_25 : decode b_MO_sale 25 = .ok (.invokestatic 75, 3) := by decide +kernel
theorem d_MO_sale_28 : decode b_MO_sale 28 = .ok (.ifCond .ne 7, 3) := by decide +kernel
theorem d_MO_sale_31 : decode b_MO_sale 31 = .ok (.iconst 1, 1) := by decide +kernel
theorem d_MO_sale_32 : decode b_MO_sale 32 = .ok (.goto 17, 3) := by decide +kernel
theorem d_MO_sale_35 : decode b_MO_sale 35 = .ok (.aload_n 0, 1) := by decide +kernel
theorem d_MO_sale_36 : decode b_MO_sale 36 = .ok (.getfield 72, 3) := by decide +kernel
theorem d_MO_sale_39 : decode b_MO_sale 39 = .ok (.bipush 20, 2) := by decide +kernel
theorem d_MO_sale_41 : decode b_MO_sale 41 = .ok (.if_icmp .ne 7, 3) := by decide +kernel
theorem d_MO_sale_44 : decode b_MO_sale 44 = .ok (.iconst 2, 1) := by decide +kernel
theorem d_MO_sale_45 : decode b_MO_sale 45 = .ok (.goto 4, 3) := by decide +kernel
theorem d_MO_sale_48 : decode b_MO_sale 48 = .ok (.iconst 0, 1) := by decide +kernel
theorem d_MO_sale_49 : decode b_MO_sale 49 = .ok (.putfield 68, 3) := by decide +kernel
theorem d_MO_sale_52 : decode b_MO_sale 52 = .ok (.aload_n 0, 1) := by decide +kernel
theorem d_MO_sale_53 : decode b_MO_sale 53 = .ok (.getfield 68, 3) := by decide +kernel
theorem d_MO_sale_56 : decode b_MO_sale 56 = .ok (.ifCond .le 5, 3) := by decide +kernel
theorem d_MO_sale_59 : decode b_MO_sale 59 = .ok (.iconst 0, 1) := by decide +kernel
theorem d_MO_sale_60 : decode b_MO_sale 60 = .ok (.ireturn, 1) := by decide +kernel
theorem d_MO_sale_61 : decode b_MO_sale 61 = .ok (.aload_n 0, 1) := by decide +kernel
theorem d_MO_sale_62 : decode b_MO_sale 62 = .ok (.getfield 7, 3) := by decide +kernel
theorem d_MO_sale_65 : decode b_MO_sale 65 = .ok (.aload_n 0, 1) := by decide +kernel
theorem d_MO_sale_66 : decode b_MO_sale 66 = .ok (.getfield 72, 3) := by decide +kernel
theorem d_MO_sale_69 : decode b_MO_sale 69 = .ok (.iload_n 1, 1) := by decide +kernel
theorem d_MO_sale_70 : decode b_MO_sale 70 = .ok (.iastore, 1) := by decide +kernel
theorem d_MO_sale_71 : decode b_MO_sale 71 = .ok (.aload_n 0, 1) := by decide +kernel
theorem d_MO_sale_72 : decode b_MO_sale 72 = .ok (.getfield 13, 3) := by decide +kernel
theorem d_MO_sale_75 : decode b_MO_sale 75 = .ok (.aload_n 0, 1) := by decide +kernel
theorem d_MO_sale_76 : decode b_MO_sale 76 = .ok (.getfield 72, 3) := by decide +kernel
theorem d_MO_sale_79 : decode b_MO_sale 79 = .ok (.iload_n 2, 1) := by decide +kernel
theorem d_MO_sale_80 : decode b_MO_sale 80 = .ok (.iastore, 1) := by decide +kernel
theorem d_MO_sale_81 : decode b_MO_sale 81 = .ok (.aload_n 0, 1) := by decide +kernel
theorem d_MO_sale_82 : decode b_MO_sale 82 = .ok (.getfield 16, 3) := by decide +kernel
theorem d_MO_sale_85 : decode b_MO_sale 85 = .ok (.aload_n 0, 1) := by decide +kernel
theorem d_MO_sale_86 : decode b_MO_sale 86 = .ok (.getfield 72, 3) := by decide +kernel
theorem d_MO_sale_89 : decode b_MO_sale 89 = .ok (.iload_n 3, 1) := by decide +kernel
theorem d_MO_sale_90 : decode b_MO_sale 90 = .ok (.iastore, 1) := by decide +kernel
theorem d_MO_sale_91 : decode b_MO_sale 91 = .ok (.aload_n 0, 1) := by decide +kernel
theorem d_MO_sale_92 : decode b_MO_sale 92 = .ok (.getfield 19, 3) := by decide +kernel
theorem d_MO_sale_95 : decode b_MO_sale 95 = .ok (.aload_n 0, 1) := by decide +kernel
theorem d_MO_sale_96 : decode b_MO_sale 96 = .ok (.getfield 72, 3) := by decide +kernel
theorem d_MO_sale_99 : decode b_MO_sale 99 = .ok (.aload_n 0, 1) := by decide +kernel
theorem d_MO_sale_100 : decode b_MO_sale 100 = .ok (.getfield 82, 3) := by decide +kernel
theorem d_MO_sale_103 : decode b_MO_sale 103 = .ok (.iastore, 1) := by decide +kernel
theorem d_MO_sale_104 : decode b_MO_sale 104 = .ok (.aload_n 0, 1) := by decide +kernel
theorem d_MO_sale_105 : decode b_MO_sale 105 = .ok (.dup, 1) := by decide +kernel
theorem d_MO_sale_106 : decode b_MO_sale 106 = .ok (.getfield 72, 3) := by decide +kernel
theorem d_MO_sale_109 : decode b_MO_sale 109 = .ok (.iconst 1, 1) := by decide +kernel
theorem d_MO_sale_110 : decode b_MO_sale 110 = .ok (.iadd, 1) := by decide +kernel
theorem d_MO_sale_111 : decode b_MO_sale 111 = .ok (.putfield 72, 3) := by decide +kernel
theorem d_MO_sale_114 : decode b_MO_sale 114 = .ok (.aload_n 0, 1) := by decide +kernel
theorem d_MO_sale_115 : decode b_MO_sale 115 = .ok (.getfield 72, 3) := by decide +kernel
theorem d_MO_sale_118 : decode b_MO_sale 118 = .ok (.iconst 1, 1) := by decide +kernel
theorem d_MO_sale_119 : decode b_MO_sale 119 = .ok (.isub, 1) := by decide +kernel
theorem d_MO_sale_120 : decode b_MO_sale 120 = .ok (.ireturn, 1) := by decide +kernel
theorem d_MO_scrap_0 : decode b_MO_scrap 0 = .ok (.aload_n 0, 1) := by decide +kernel
theorem d_MO_scrap_1 : decode b_MO_scrap 1 = .ok (.aload_n 0, 1) := by decide +kernel
theorem d_MO_scrap_2 : decode b_MO_scrap 2 = .ok (.iload_n 1, 1) := by decide +kernel
theorem d_MO_scrap_3 : decode b_MO_scrap 3 = .ok (.invokevirtual 93, 3) := by decide +kernel
theorem d_MO_scrap_6 : decode b_MO_scrap 6 = .ok (.ifCond .ne 7, 3) := by decide +kernel
theorem d_MO_scrap_9 : decode b_MO_scrap 9 = .ok (.iconst 1, 1) := by decide +kernel
theorem d_MO_scrap_10 : decode b_MO_scrap 10 = .ok (.goto 19, 3) := by decide +kernel
theorem d_MO_scrap_13 : decode b_MO_scrap 13 = .ok (.iload_n 2, 1) := by decide +kernel
theorem d_MO_scrap_14 : decode b_MO_scrap 14 = .ok (.iconst 1, 1) := by decide +kernel
theorem d_MO_scrap_15 : decode b_MO_scrap 15 = .ok (.sipush 1000, 3) := by decide +kernel
theorem d_MO_scrap_18 : decode b_MO_scrap 18 = .ok (.invokestatic 75, 3) := by decide +kernel
theorem d_MO_scrap_21 : decode b_MO_scrap 21 = .ok (.ifCond .ne 7, 3) := by decide +kernel
theorem d_MO_scrap_24 : decode b_MO_scrap 24 = .ok (.iconst 2, 1) := by decide +kernel
theorem d_MO_scrap_25 : decode b_MO_scrap 25 = .ok (.goto 4, 3) := by decide +kernel
theorem d_MO_scrap_28 : decode b_MO_scrap 28 = .ok (.iconst 0, 1) := by decide +kernel
theorem d_MO_scrap_29 : decode b_MO_scrap 29 = .ok (.putfield 68, 3) := by decide +kernel
theorem d_MO_scrap_32 : decode b_MO_scrap 32 = .ok (.aload_n 0, 1) := by decide +kernel
theorem d_MO_scrap_33 : decode b_MO_scrap 33 = .ok (.getfield 68, 3) := by decide +kernel
theorem d_MO_scrap_36 : decode b_MO_scrap 36 = .ok (.ifCond .ne 32, 3) := by decide +kernel
theorem d_MO_scrap_39 : decode b_MO_scrap 39 = .ok (.aload_n 0, 1) := by decide +kernel
theorem d_MO_scrap_40 : decode b_MO_scrap 40 = .ok (.aload_n 0, 1) := by decide +kernel
theorem d_MO_scrap_41 : decode b_MO_scrap 41 = .ok (.getfield 28, 3) := by decide +kernel
theorem d_MO_scrap_44 : decode b_MO_scrap 44 = .ok (.iload_n 1, 1) := by decide +kernel
theorem d_MO_scrap_45 : decode b_MO_scrap 45 = .ok (.iaload, 1) := by decide +kernel
theorem d_MO_scrap_46 : decode b_MO_scrap 46 = .ok (.iconst 3, 1) := by decide +kernel
theorem d_MO_scrap_47 : decode b_MO_scrap 47 = .ok (.if_icmp .ne 13, 3) := by decide +kernel
theorem d_MO_scrap_50 : decode b_MO_scrap 50 = .ok (.aload_n 0, 1) := by decide +kernel
theorem d_MO_scrap_51 : decode b_MO_scrap 51 = .ok (.getfield 44, 3) := by decide +kernel
theorem d_MO_scrap_54 : decode b_MO_scrap 54 = .ok (.iload_n 1, 1) := by decide +kernel
theorem d_MO_scrap_55 : decode b_MO_scrap 55 = .ok (.iaload, 1) := by decide +kernel
theorem d_MO_scrap_56 : decode b_MO_scrap 56 = .ok (.iconst 3, 1) := by decide +kernel
theorem d_MO_scrap_57 : decode b_MO_scrap 57 = .ok (.if_icmp .ge 7, 3) := by decide +kernel
theorem d_MO_scrap_60 : decode b_MO_scrap 60 = .ok (.iconst 3, 1) := by decide +kernel
theorem d_MO_scrap_61 : decode b_MO_scrap 61 = .ok (.goto 4, 3) := by decide +kernel
theorem d_MO_scrap_64 : decode b_MO_scrap 64 = .ok (.iconst 0, 1) := by decide +kernel
theorem d_MO_scrap_65 : decode b_MO_scrap 65 = .ok (.putfield 68, 3) := by decide +kernel
theorem d_MO_scrap_68 : decode b_MO_scrap 68 = .ok (.aload_n 0, 1) := by decide +kernel
theorem d_MO_scrap_69 : decode b_MO_scrap 69 = .ok (.getfield 68, 3) := by decide +kernel
theorem d_MO_scrap_72 : decode b_MO_scrap 72 = .ok (.ifCond .gt 12, 3) := by decide +kernel
theorem d_MO_scrap_75 : decode b_MO_scrap 75 = .ok (.aload_n 0, 1) := by decide +kernel
theorem d_MO_scrap_76 : decode b_MO_scrap 76 = .ok (.getfield 65, 3) := by decide +kernel
theorem d_MO_scrap_79 : decode b_MO_scrap 79 = .ok (.iload_n 2, 1) := by decide +kernel
theorem d_MO_scrap_80 : decode b_MO_scrap 80 = .ok (.iaload, 1) := by decide +kernel
theorem d_MO_scrap_81 : decode b_MO_scrap 81 = .ok (.ifCond .eq 5, 3) := by decide +kernel
theorem d_MO_scrap_84 : decode b_MO_scrap 84 = .ok (.iconst 0, 1) := by decide +kernel
theorem d_MO_scrap_85 : decode b_MO_scrap 85 = .ok (.ireturn, 1) := by decide +kernel
theorem d_MO_scrap_86 : decode b_MO_scrap 86 = .ok (.aload_n 0, 1) := by decide +kernel
theorem d_MO_scrap_87 : decode b_MO_scrap 87 = .ok (.getfield 65, 3) := by decide +kernel
theorem d_MO_scrap_90 : decode b_MO_scrap 90 = .ok (.iload_n 2, 1) := by decide +kernel
theorem d_MO_scrap_91 : decode b_MO_scrap 91 = .ok (.iload_n 1, 1) := by decide +kernel
theorem d_MO_scrap_92 : decode b_MO_scrap 92 = .ok (.iastore, 1) := by decide +kernel
theorem d_MO_scrap_93 : decode b_MO_scrap 93 = .ok (.aload_n 0, 1) := by decide +kernel
theorem d_MO_scrap_94 : decode b_MO_scrap 94 = .ok (.getfield 28, 3) := by decide +kernel
theorem d_MO_scrap_97 : decode b_MO_scrap 97 = .ok (.iload_n 1, 1) := by decide +kernel
theorem d_MO_scrap_98 : decode b_MO_scrap 98 = .ok (.iconst 5, 1) := by decide +kernel
theorem d_MO_scrap_99 : decode b_MO_scrap 99 = .ok (.iastore, 1) := by decide +kernel
theorem d_MO_scrap_100 : decode b_MO_scrap 100 = .ok (.iconst 1, 1) := by decide +kernel
theorem d_MO_scrap_101 : decode b_MO_scrap 101 = .ok (.ireturn, 1) := by decide +kernel
theorem d_MO_serial_0 : decode b_MO_serial 0 = .ok (.aload_n 0, 1) := by decide +kernel
theorem d_MO_serial_1 : decode b_MO_serial 1 = .ok (.aload_n 0, 1) := by decide +kernel
theorem d_MO_serial_2 : decode b_MO_serial 2 = .ok (.iload_n 1, 1) := by decide +kernel
theorem d_MO_serial_3 : decode b_MO_serial 3 = .ok (.invokevirtual 93, 3) := by decide +kernel
theorem d_MO_serial_6 : decode b_MO_serial 6 = .ok (.ifCond .eq 11, 3) := by decide +kernel
theorem d_MO_serial_9 : decode b_MO_serial 9 = .ok (.aload_n 0, 1) := by decide +kernel
theorem d_MO_serial_10 : decode b_MO_serial 10 = .ok (.iload_n 2, 1) := by decide +kernel
theorem d_MO_serial_11 : decode b_MO_serial 11 = .ok (.invokevirtual 86, 3) := by decide +kernel
theorem d_MO_serial_14 : decode b_MO_serial 14 = .ok (.ifCond .ne 7, 3) := by decide +kernel
theorem d_MO_serial_17 : decode b_MO_serial 17 = .ok (.iconst 1, 1) := by decide +kernel
theorem d_MO_serial_18 : decode b_MO_serial 18 = .ok (.goto 4, 3) := by decide +kernel
theorem d_MO_serial_21 : decode b_MO_serial 21 = .ok (.iconst 0, 1) := by decide +kernel
theorem d_MO_serial_22 : decode b_MO_serial 22 = .ok (.putfield 68, 3) := by decide +kernel
theorem d_MO_serial_25 : decode b_MO_serial 25 = .ok (.aload_n 0, 1) := by decide +kernel
theorem d_MO_serial_26 : decode b_MO_serial 26 = .ok (.getfield 68, 3) := by decide +kernel
theorem d_MO_serial_29 : decode b_MO_serial 29 = .ok (.ifCond .ne 22, 3) := by decide +kernel
theorem d_MO_serial_32 : decode b_MO_serial 32 = .ok (.aload_n 0, 1) := by decide +kernel
theorem d_MO_serial_33 : decode b_MO_serial 33 = .ok (.aload_n 0, 1) := by decide +kernel
theorem d_MO_serial_34 : decode b_MO_serial 34 = .ok (.getfield 28, 3) := by decide +kernel
theorem d_MO_serial_37 : decode b_MO_serial 37 = .ok (.iload_n 1, 1) := by decide +kernel
theorem d_MO_serial_38 : decode b_MO_serial 38 = .ok (.iaload, 1) := by decide +kernel
theorem d_MO_serial_39 : decode b_MO_serial 39 = .ok (.iconst 2, 1) := by decide +kernel
theorem d_MO_serial_40 : decode b_MO_serial 40 = .ok (.if_icmp .eq 7, 3) := by decide +kernel
theorem d_MO_serial_43 : decode b_MO_serial 43 = .ok (.iconst 2, 1) := by decide +kernel
theorem d_MO_serial_44 : decode b_MO_serial 44 = .ok (.goto 4, 3) := by decide +kernel
theorem d_MO_serial_47 : decode b_MO_serial 47 = .ok (.iconst 0, 1) := by decide +kernel
theorem d_MO_serial_48 : decode b_MO_serial 48 = .ok (.putfield 68, 3) := by decide +kernel
theorem d_MO_serial_51 : decode b_MO_serial 51 = .ok (.aload_n 0, 1) := by decide +kernel
theorem d_MO_serial_52 : decode b_MO_serial 52 = .ok (.getfield 68, 3) := by decide +kernel
theorem d_MO_serial_55 : decode b_MO_serial 55 = .ok (.ifCond .le 5, 3) := by decide +kernel
theorem d_MO_serial_58 : decode b_MO_serial 58 = .ok (.iconst 0, 1) := by decide +kernel
theorem d_MO_serial_59 : decode b_MO_serial 59 = .ok (.ireturn, 1) := by decide +kernel
theorem d_MO_serial_60 : decode b_MO_serial 60 = .ok (.aload_n 0, 1) := by decide +kernel
theorem d_MO_serial_61 : decode b_MO_serial 61 = .ok (.getfield 41, 3) := by decide +kernel
theorem d_MO_serial_64 : decode b_MO_serial 64 = .ok (.iload_n 1, 1) := by decide +kernel
theorem d_MO_serial_65 : decode b_MO_serial 65 = .ok (.aload_n 0, 1) := by decide +kernel
theorem d_MO_serial_66 : decode b_MO_serial 66 = .ok (.getfield 22, 3) := by decide +kernel
theorem d_MO_serial_69 : decode b_MO_serial 69 = .ok (.iload_n 1, 1) := by decide +kernel
theorem d_MO_serial_70 : decode b_MO_serial 70 = .ok (.iaload, 1) := by decide +kernel
theorem d_MO_serial_71 : decode b_MO_serial 71 = .ok (.iload_n 2, 1) := by decide +kernel
theorem d_MO_serial_72 : decode b_MO_serial 72 = .ok (.if_icmp .eq 7, 3) := by decide +kernel
theorem d_MO_serial_75 : decode b_MO_serial 75 = .ok (.iconst 1, 1) := by decide +kernel
theorem d_MO_serial_76 : decode b_MO_serial 76 = .ok (.goto 4, 3) := by decide +kernel
theorem d_MO_serial_79 : decode b_MO_serial 79 = .ok (.iconst 0, 1) := by decide +kernel
theorem d_MO_serial_80 : decode b_MO_serial 80 = .ok (.bastore, 1) := by decide +kernel
theorem d_MO_serial_81 : decode b_MO_serial 81 = .ok (.aload_n 0, 1) := by decide +kernel
theorem d_MO_serial_82 : decode b_MO_serial 82 = .ok (.getfield 41, 3) := by decide +kernel
theorem d_MO_serial_85 : decode b_MO_serial 85 = .ok (.iload_n 1, 1) := by decide +kernel
theorem d_MO_serial_86 : decode b_MO_serial 86 = .ok (.baload, 1) := by decide +kernel
theorem d_MO_serial_87 : decode b_MO_serial 87 = .ok (.ifCond .eq 9, 3) := by decide +kernel
theorem d_MO_serial_90 : decode b_MO_serial 90 = .ok (.iconst (-1), 1) := by decide +kernel
theorem d_MO_serial_91 : decode b_MO_serial 91 = .ok (.iload_n 2, 1) := by decide +kernel
theorem d_MO_serial_92 : decode b_MO_serial 92 = .ok (.isub, 1) := by decide +kernel
theorem d_MO_serial_93 : decode b_MO_serial 93 = .ok (.goto 4, 3) := by decide +kernel
theorem d_MO_serial_96 : decode b_MO_serial 96 = .ok (.iconst 1, 1) := by decide +kernel
theorem d_MO_serial_97 : decode b_MO_serial 97 = .ok (.ireturn, 1) := by decide +kernel
theorem d_MO_step_0 : decode b_MO_step 0 = .ok (.aload_n 0, 1) := by decide +kernel
theorem d_MO_step_1 : decode b_MO_step 1 = .ok (.aload_n 0, 1) := by decide +kernel
theorem d_MO_step_2 : decode b_MO_step 2 = .ok (.iload_n 1, 1) := by decide +kernel
theorem d_MO_step_3 : decode b_MO_step 3 = .ok (.invokevirtual 93, 3) := by decide +kernel
theorem d_MO_step_6 : decode b_MO_step 6 = .ok (.ifCond .ne 7, 3) := by decide +kernel
theorem d_MO_step_9 : decode b_MO_step 9 = .ok (.iconst 1, 1) := by decide +kernel
theorem d_MO_step_10 : decode b_MO_step 10 = .ok (.goto 4, 3) := by decide +kernel
theorem d_MO_step_13 : decode b_MO_step 13 = .ok (.iconst 0, 1) := by decide +kernel
theorem d_MO_step_14 : decode b_MO_step 14 = .ok (.putfield 68, 3) := by decide +kernel
theorem d_MO_step_17 : decode b_MO_step 17 = .ok (.aload_n 0, 1) := by decide +kernel
theorem d_MO_step_18 : decode b_MO_step 18 = .ok (.getfield 68, 3) := by decide +kernel
theorem d_MO_step_21 : decode b_MO_step 21 = .ok (.ifCond .ne 22, 3) := by decide +kernel
theorem d_MO_step_24 : decode b_MO_step 24 = .ok (.aload_n 0, 1) := by decide +kernel
theorem d_MO_step_25 : decode b_MO_step 25 = .ok (.aload_n 0, 1) := by decide +kernel
theorem d_MO_step_26 : decode b_MO_step 26 = .ok (.getfield 28, 3) := by decide +kernel
theorem d_MO_step_29 : decode b_MO_step 29 = .ok (.iload_n 1, 1) := by decide +kernel
theorem d_MO_step_30 : decode b_MO_step 30 = .ok (.iaload, 1) := by decide +kernel
theorem d_MO_step_31 : decode b_MO_step 31 = .ok (.iconst 4, 1) := by decide +kernel
theorem d_MO_step_32 : decode b_MO_step 32 = .ok (.if_icmp .eq 7, 3) := by decide +kernel
theorem d_MO_step_35 : decode b_MO_step 35 = .ok (.iconst 2, 1) := by decide +kernel
theorem d_MO_step_36 : decode b_MO_step 36 = .ok (.goto 4, 3) := by decide +kernel
theorem d_MO_step_39 : decode b_MO_step 39 = .ok (.iconst 0, 1) := by decide +kernel
theorem d_MO_step_40 : decode b_MO_step 40 = .ok (.putfield 68, 3) := by decide +kernel
theorem d_MO_step_43 : decode b_MO_step 43 = .ok (.aload_n 0, 1) := by decide +kernel
theorem d_MO_step_44 : decode b_MO_step 44 = .ok (.getfield 68, 3) := by decide +kernel
theorem d_MO_step_47 : decode b_MO_step 47 = .ok (.ifCond .le 5, 3) := by decide +kernel
theorem d_MO_step_50 : decode b_MO_step 50 = .ok (.iconst 0, 1) := by decide +kernel
theorem d_MO_step_51 : decode b_MO_step 51 = .ok (.ireturn, 1) := by decide +kernel
theorem d_MO_step_52 : decode b_MO_step 52 = .ok (.aload_n 0, 1) := by decide +kernel
theorem d_MO_step_53 : decode b_MO_step 53 = .ok (.getfield 56, 3) := by decide +kernel
theorem d_MO_step_56 : decode b_MO_step 56 = .ok (.iload_n 1, 1) := by decide +kernel
theorem d_MO_step_57 : decode b_MO_step 57 = .ok (.iload_n 2, 1) := by decide +kernel
theorem d_MO_step_58 : decode b_MO_step 58 = .ok (.ifCond .eq 14, 3) := by decide +kernel
theorem d_MO_step_61 : decode b_MO_step 61 = .ok (.aload_n 0, 1) := by decide +kernel
theorem d_MO_step_62 : decode b_MO_step 62 = .ok (.getfield 56, 3) := by decide +kernel
theorem d_MO_step_65 : decode b_MO_step 65 = .ok (.iload_n 1, 1) := by decide +kernel
theorem d_MO_step_66 : decode b_MO_step 66 = .ok (.iaload, 1) := by decide +kernel
theorem d_MO_step_67 : decode b_MO_step 67 = .ok (.iconst 1, 1) := by decide +kernel
theorem d_MO_step_68 : decode b_MO_step 68 = .ok (.isub, 1) := by decide +kernel
theorem d_MO_step_69 : decode b_MO_step 69 = .ok (.goto 4, 3) := by decide +kernel
theorem d_MO_step_72 : decode b_MO_step 72 = .ok (.iconst 0, 1) := by decide +kernel
theorem d_MO_step_73 : decode b_MO_step 73 = .ok (.iastore, 1) := by decide +kernel
theorem d_MO_step_74 : decode b_MO_step 74 = .ok (.aload_n 0, 1) := by decide +kernel
theorem d_MO_step_75 : decode b_MO_step 75 = .ok (.getfield 56, 3) := by decide +kernel
theorem d_MO_step_78 : decode b_MO_step 78 = .ok (.iload_n 1, 1) := by decide +kernel
theorem d_MO_step_79 : decode b_MO_step 79 = .ok (.iaload, 1) := by decide +kernel
theorem d_MO_step_80 : decode b_MO_step 80 = .ok (.ifCond .le 10, 3) := by decide +kernel
theorem d_MO_step_83 : decode b_MO_step 83 = .ok (.aload_n 0, 1) := by decide +kernel
theorem d_MO_step_84 : decode b_MO_step 84 = .ok (.getfield 56, 3) := by decide +kernel
theorem d_MO_step_87 : decode b_MO_step 87 = .ok (.iload_n 1, 1) := by decide +kernel
theorem d_MO_step_88 : decode b_MO_step 88 = .ok (.iaload, 1) := by decide +kernel
theorem d_MO_step_89 : decode b_MO_step 89 = .ok (.ireturn, 1) := by decide +kernel
theorem d_MO_step_90 : decode b_MO_step 90 = .ok (.aload_n 0, 1) := by decide +kernel
theorem d_MO_step_91 : decode b_MO_step 91 = .ok (.getfield 28, 3) := by decide +kernel
theorem d_MO_step_94 : decode b_MO_step 94 = .ok (.iload_n 1, 1) := by decide +kernel
theorem d_MO_step_95 : decode b_MO_step 95 = .ok (.iconst 3, 1) := by decide +kernel
theorem d_MO_step_96 : decode b_MO_step 96 = .ok (.iastore, 1) := by decide +kernel
theorem d_MO_step_97 : decode b_MO_step 97 = .ok (.iload_n 2, 1) := by decide +kernel
theorem d_MO_step_98 : decode b_MO_step 98 = .ok (.ifCond .eq 16, 3) := by decide +kernel
theorem d_MO_step_101 : decode b_MO_step 101 = .ok (.aload_n 0, 1) := by decide +kernel
theorem d_MO_step_102 : decode b_MO_step 102 = .ok (.iload_n 1, 1) := by decide +kernel
theorem d_MO_step_103 : decode b_MO_step 103 = .ok (.aload_n 0, 1) := by decide +kernel
theorem d_MO_step_104 : decode b_MO_step 104 = .ok (.getfield 44, 3) := by decide +kernel
theorem d_MO_step_107 : decode b_MO_step 107 = .ok (.iload_n 1, 1) := by decide +kernel
theorem d_MO_step_108 : decode b_MO_step 108 = .ok (.iaload, 1) := by decide +kernel
theorem d_MO_step_109 : decode b_MO_step 109 = .ok (.iconst 1, 1) := by decide +kernel
theorem d_MO_step_110 : decode b_MO_step 110 = .ok (.isub, 1) := by decide +kernel
theorem d_MO_step_111 : decode b_MO_step 111 = .ok (.invokevirtual 99, 3) := by decide +kernel
theorem d_MO_step_114 : decode b_MO_step 114 = .ok (.iconst 0, 1) := by decide +kernel
theorem d_MO_step_115 : decode b_MO_step 115 = .ok (.ireturn, 1) := by decide +kernel
theorem d_MO_thrown_0 : decode b_MO_thrown 0 = .ok (.aload_n 0, 1) := by decide +kernel
theorem d_MO_thrown_1 : decode b_MO_thrown 1 = .ok (.getfield 68, 3) := by decide +kernel
theorem d_MO_thrown_4 : decode b_MO_thrown 4 = .ok (.ireturn, 1) := by decide +kernel
theorem d_MO_told_0 : decode b_MO_told 0 = .ok (.aload_n 0, 1) := by decide +kernel
theorem d_MO_told_1 : decode b_MO_told 1 = .ok (.aload_n 0, 1) := by decide +kernel
theorem d_MO_told_2 : decode b_MO_told 2 = .ok (.iload_n 1, 1) := by decide +kernel
theorem d_MO_told_3 : decode b_MO_told 3 = .ok (.invokevirtual 93, 3) := by decide +kernel
theorem d_MO_told_6 : decode b_MO_told 6 = .ok (.ifCond .ne 7, 3) := by decide +kernel
theorem d_MO_told_9 : decode b_MO_told 9 = .ok (.iconst 1, 1) := by decide +kernel
theorem d_MO_told_10 : decode b_MO_told 10 = .ok (.goto 18, 3) := by decide +kernel
theorem d_MO_told_13 : decode b_MO_told 13 = .ok (.iload_n 2, 1) := by decide +kernel
theorem d_MO_told_14 : decode b_MO_told 14 = .ok (.iconst 0, 1) := by decide +kernel
theorem d_MO_told_15 : decode b_MO_told 15 = .ok (.bipush 11, 2) := by decide +kernel
theorem d_MO_told_17 : decode b_MO_told 17 = .ok (.invokestatic 75, 3) := by decide +kernel
theorem d_MO_told_20 : decode b_MO_told 20 = .ok (.ifCond .ne 7, 3) := by decide +kernel
theorem d_MO_told_23 : decode b_MO_told 23 = .ok (.iconst 2, 1) := by decide +kernel
theorem d_MO_told_24 : decode b_MO_told 24 = .ok (.goto 4, 3) := by decide +kernel
theorem d_MO_told_27 : decode b_MO_told 27 = .ok (.iconst 0, 1) := by decide +kernel
theorem d_MO_told_28 : decode b_MO_told 28 = .ok (.putfield 68, 3) := by decide +kernel
theorem d_MO_told_31 : decode b_MO_told 31 = .ok (.aload_n 0, 1) := by decide +kernel
theorem d_MO_told_32 : decode b_MO_told 32 = .ok (.getfield 68, 3) := by decide +kernel
theorem d_MO_told_35 : decode b_MO_told 35 = .ok (.ifCond .le 5, 3) := by decide +kernel
theorem d_MO_told_38 : decode b_MO_told 38 = .ok (.iconst 0, 1) := by decide +kernel
theorem d_MO_told_39 : decode b_MO_told 39 = .ok (.ireturn, 1) := by decide +kernel
theorem d_MO_told_40 : decode b_MO_told 40 = .ok (.iload_n 2, 1) := by decide +kernel
theorem d_MO_told_41 : decode b_MO_told 41 = .ok (.ifCond .ne 10, 3) := by decide +kernel
theorem d_MO_told_44 : decode b_MO_told 44 = .ok (.aload_n 0, 1) := by decide +kernel
theorem d_MO_told_45 : decode b_MO_told 45 = .ok (.getfield 28, 3) := by decide +kernel
theorem d_MO_told_48 : decode b_MO_told 48 = .ok (.iload_n 1, 1) := by decide +kernel
theorem d_MO_told_49 : decode b_MO_told 49 = .ok (.iaload, 1) := by decide +kernel
theorem d_MO_told_50 : decode b_MO_told 50 = .ok (.ireturn, 1) := by decide +kernel
theorem d_MO_told_51 : decode b_MO_told 51 = .ok (.iload_n 2, 1) := by decide +kernel
theorem d_MO_told_52 : decode b_MO_told 52 = .ok (.iconst 1, 1) := by decide +kernel
theorem d_MO_told_53 : decode b_MO_told 53 = .ok (.if_icmp .ne 10, 3) := by decide +kernel
theorem d_MO_told_56 : decode b_MO_told 56 = .ok (.aload_n 0, 1) := by decide +kernel
theorem d_MO_told_57 : decode b_MO_told 57 = .ok (.getfield 22, 3) := by decide +kernel
theorem d_MO_told_60 : decode b_MO_told 60 = .ok (.iload_n 1, 1) := by decide +kernel
theorem d_MO_told_61 : decode b_MO_told 61 = .ok (.iaload, 1) := by decide +kernel
theorem d_MO_told_62 : decode b_MO_told 62 = .ok (.ireturn, 1) := by decide +kernel
theorem d_MO_told_63 : decode b_MO_told 63 = .ok (.iload_n 2, 1) := by decide +kernel
theorem d_MO_told_64 : decode b_MO_told 64 = .ok (.iconst 2, 1) := by decide +kernel
theorem d_MO_told_65 : decode b_MO_told 65 = .ok (.if_icmp .ne 10, 3) := by decide +kernel
theorem d_MO_told_68 : decode b_MO_told 68 = .ok (.aload_n 0, 1) := by decide +kernel
theorem d_MO_told_69 : decode b_MO_told 69 = .ok (.getfield 25, 3) := by decide +kernel
theorem d_MO_told_72 : decode b_MO_told 72 = .ok (.iload_n 1, 1) := by decide +kernel
theorem d_MO_told_73 : decode b_MO_told 73 = .ok (.iaload, 1) := by decide +kernel
theorem d_MO_told_74 : decode b_MO_told 74 = .ok (.ireturn, 1) := by decide +kernel
theorem d_MO_told_75 : decode b_MO_told 75 = .ok (.iload_n 2, 1) := by decide +kernel
theorem d_MO_told_76 : decode b_MO_told 76 = .ok (.iconst 3, 1) := by decide +kernel
theorem d_MO_told_77 : decode b_MO_told 77 = .ok (.if_icmp .ne 10, 3) := by decide +kernel
theorem d_MO_told_80 : decode b_MO_told 80 = .ok (.aload_n 0, 1) := by decide +kernel
theorem d_MO_told_81 : decode b_MO_told 81 = .ok (.getfield 44, 3) := by decide +kernel
theorem d_MO_told_84 : decode b_MO_told 84 = .ok (.iload_n 1, 1) := by decide +kernel
theorem d_MO_told_85 : decode b_MO_told 85 = .ok (.iaload, 1) := by decide +kernel
theorem d_MO_told_86 : decode b_MO_told 86 = .ok (.ireturn, 1) := by decide +kernel
theorem d_MO_told_87 : decode b_MO_told 87 = .ok (.iload_n 2, 1) := by decide +kernel
theorem d_MO_told_88 : decode b_MO_told 88 = .ok (.iconst 4, 1) := by decide +kernel
theorem d_MO_told_89 : decode b_MO_told 89 = .ok (.if_icmp .ne 10, 3) := by decide +kernel
theorem d_MO_told_92 : decode b_MO_told 92 = .ok (.aload_n 0, 1) := by decide +kernel
theorem d_MO_told_93 : decode b_MO_told 93 = .ok (.getfield 47, 3) := by decide +kernel
theorem d_MO_told_96 : decode b_MO_told 96 = .ok (.iload_n 1, 1) := by decide +kernel
theorem d_MO_told_97 : decode b_MO_told 97 = .ok (.iaload, 1) := by decide +kernel
theorem d_MO_told_98 : decode b_MO_told 98 = .ok (.ireturn, 1) := by decide +kernel
theorem d_MO_told_99 : decode b_MO_told 99 = .ok (.iload_n 2, 1) := by decide +kernel
theorem d_MO_told_100 : decode b_MO_told 100 = .ok (.iconst 5, 1) := by decide +kernel
theorem d_MO_told_101 : decode b_MO_told 101 = .ok (.if_icmp .ne 10, 3) := by decide +kernel
theorem d_MO_told_104 : decode b_MO_told 104 = .ok (.aload_n 0, 1) := by decide +kernel
theorem d_MO_told_105 : decode b_MO_told 105 = .ok (.getfield 50, 3) := by decide +kernel
theorem d_MO_told_108 : decode b_MO_told 108 = .ok (.iload_n 1, 1) := by decide +kernel
theorem d_MO_told_109 : decode b_MO_told 109 = .ok (.iaload, 1) := by decide +kernel
theorem d_MO_told_110 : decode b_MO_told 110 = .ok (.ireturn, 1) := by decide +kernel
theorem d_MO_told_111 : decode b_MO_told 111 = .ok (.iload_n 2, 1) := by decide +kernel
theorem d_MO_told_112 : decode b_MO_told 112 = .ok (.bipush 6, 2) := by decide +kernel
theorem d_MO_told_114 : decode b_MO_told 114 = .ok (.if_icmp .ne 10, 3) := by decide +kernel
theorem d_MO_told_117 : decode b_MO_told 117 = .ok (.aload_n 0, 1) := by decide +kernel
theorem d_MO_told_118 : decode b_MO_told 118 = .ok (.getfield 53, 3) := by decide +kernel
theorem d_MO_told_121 : decode b_MO_told 121 = .ok (.iload_n 1, 1) := by decide +kernel
theorem d_MO_told_122 : decode b_MO_told 122 = .ok (.iaload, 1) := by decide +kernel
theorem d_MO_told_123 : decode b_MO_told 123 = .ok (.ireturn, 1) := by decide +kernel
theorem d_MO_told_124 : decode b_MO_told 124 = .ok (.iload_n 2, 1) := by decide +kernel
theorem d_MO_told_125 : decode b_MO_told 125 = .ok (.bipush 7, 2) := by decide +kernel
theorem d_MO_told_127 : decode b_MO_told 127 = .ok (.if_icmp .ne 18, 3) := by decide +kernel
theorem d_MO_told_130 : decode b_MO_told 130 = .ok (.aload_n 0, 1) := by decide +kernel
theorem d_MO_told_131 : decode b_MO_told 131 = .ok (.getfield 37, 3) := by decide +kernel
theorem d_MO_told_134 : decode b_MO_told 134 = .ok (.iload_n 1, 1) := by decide +kernel
theorem d_MO_told_135 : decode b_MO_told 135 = .ok (.baload, 1) := by decide +kernel
theorem d_MO_told_136 : decode b_MO_told 136 = .ok (.ifCond .eq 7, 3) := by decide +kernel
theorem d_MO_told_139 : decode b_MO_told 139 = .ok (.iconst 1, 1) := by decide +kernel
theorem d_MO_told_140 : decode b_MO_told 140 = .ok (.goto 4, 3) := by decide +kernel
theorem d_MO_told_143 : decode b_MO_told 143 = .ok (.iconst 0, 1) := by decide +kernel
theorem d_MO_told_144 : decode b_MO_told 144 = .ok (.ireturn, 1) := by decide +kernel
theorem d_MO_told_145 : decode b_MO_told 145 = .ok (.iload_n 2, 1) := by decide +kernel
theorem d_MO_told_146 : decode b_MO_told 146 = .ok (.bipush 8, 2) := by decide +kernel
theorem d_MO_told_148 : decode b_MO_told 148 = .ok (.if_icmp .ne 18, 3) := by decide +kernel
theorem d_MO_told_151 : decode b_MO_told 151 = .ok (.aload_n 0, 1) := by decide +kernel
theorem d_MO_told_152 : decode b_MO_told 152 = .ok (.getfield 41, 3) := by decide +kernel
theorem d_MO_told_155 : decode b_MO_told 155 = .ok (.iload_n 1, 1) := by decide +kernel
theorem d_MO_told_156 : decode b_MO_told 156 = .ok (.baload, 1) := by decide +kernel
theorem d_MO_told_157 : decode b_MO_told 157 = .ok (.ifCond .eq 7, 3) := by decide +kernel
theorem d_MO_told_160 : decode b_MO_told 160 = .ok (.iconst 1, 1) := by decide +kernel
theorem d_MO_told_161 : decode b_MO_told 161 = .ok (.goto 4, 3) := by decide +kernel
theorem d_MO_told_164 : decode b_MO_told 164 = .ok (.iconst 0, 1) := by decide +kernel
theorem d_MO_told_165 : decode b_MO_told 165 = .ok (.ireturn, 1) := by decide +kernel
theorem d_MO_told_166 : decode b_MO_told 166 = .ok (.iload_n 2, 1) := by decide +kernel
theorem d_MO_told_167 : decode b_MO_told 167 = .ok (.bipush 9, 2) := by decide +kernel
theorem d_MO_told_169 : decode b_MO_told 169 = .ok (.if_icmp .ne 12, 3) := by decide +kernel
theorem d_MO_told_172 : decode b_MO_told 172 = .ok (.aload_n 0, 1) := by decide +kernel
theorem d_MO_told_173 : decode b_MO_told 173 = .ok (.getfield 56, 3) := by decide +kernel
theorem d_MO_told_176 : decode b_MO_told 176 = .ok (.iload_n 1, 1) := by decide +kernel
theorem d_MO_told_177 : decode b_MO_told 177 = .ok (.iaload, 1) := by decide +kernel
theorem d_MO_told_178 : decode b_MO_told 178 = .ok (.goto 24, 3) := by decide +kernel
theorem d_MO_told_181 : decode b_MO_told 181 = .ok (.iload_n 2, 1) := by decide +kernel
theorem d_MO_told_182 : decode b_MO_told 182 = .ok (.bipush 10, 2) := by decide +kernel
theorem d_MO_told_184 : decode b_MO_told 184 = .ok (.if_icmp .ne 12, 3) := by decide +kernel
theorem d_MO_told_187 : decode b_MO_told 187 = .ok (.aload_n 0, 1) := by decide +kernel
theorem d_MO_told_188 : decode b_MO_told 188 = .ok (.getfield 62, 3) := by decide +kernel
theorem d_MO_told_191 : decode b_MO_told 191 = .ok (.iload_n 1, 1) := by decide +kernel
theorem d_MO_told_192 : decode b_MO_told 192 = .ok (.iaload, 1) := by decide +kernel
theorem d_MO_told_193 : decode b_MO_told 193 = .ok (.goto 9, 3) := by decide +kernel
theorem d_MO_told_196 : decode b_MO_told 196 = .ok (.aload_n 0, 1) := by decide +kernel
theorem d_MO_told_197 : decode b_MO_told 197 = .ok (.getfield 34, 3) := by decide +kernel
theorem d_MO_told_200 : decode b_MO_told 200 = .ok (.iload_n 1, 1) := by decide +kernel
theorem d_MO_told_201 : decode b_MO_told 201 = .ok (.iaload, 1) := by decide +kernel
theorem d_MO_told_202 : decode b_MO_told 202 = .ok (.ireturn, 1) := by decide +kernel
end
section
/-! ===== each instruction, decoded ===== -/
theorem d_LA_arrive_0 : decode b_LA_arrive 0 = .ok (.aload_n 0, 1) := by decide +kernel
theorem d_LA_arrive_1 : decode b_LA_arrive 1 = .ok (.iload_n 1, 1) := by decide +kernel
theorem d_LA_arrive_2 : decode b_LA_arrive 2 = .ok (.iload_n 2, 1) := by decide +kernel
theorem d_LA_arrive_3 : decode b_LA_arrive 3 = .ok (.invokevirtual 29, 3) := by decide +kernel
theorem d_LA_arrive_6 : decode b_LA_arrive 6 = .ok (.goto 12, 3) := by decide +kernel
theorem d_LA_arrive_9 : decode b_LA_arrive 9 = .ok (.astore_n 3, 1) := by decide +kernel
theorem d_LA_arrive_10 : decode b_LA_arrive 10 = .ok (.iconst 1, 1) := by decide +kernel
theorem d_LA_arrive_11 : decode b_LA_arrive 11 = .ok (.ireturn, 1) := by decide +kernel
theorem d_LA_arrive_12 : decode b_LA_arrive 12 = .ok (.astore_n 3, 1) := by decide +kernel
theorem d_LA_arrive_13 : decode b_LA_arrive 13 = .ok (.iconst 2, 1) := by decide +kernel
theorem d_LA_arrive_14 : decode b_LA_arrive 14 = .ok (.ireturn, 1) := by decide +kernel
theorem d_LA_arrive_15 : decode b_LA_arrive 15 = .ok (.astore_n 3, 1) := by decide +kernel
theorem d_LA_arrive_16 : decode b_LA_arrive 16 = .ok (.iconst 3, 1) := by decide +kernel
theorem d_LA_arrive_17 : decode b_LA_arrive 17 = .ok (.ireturn, 1) := by decide +kernel
theorem d_LA_arrive_18 : decode b_LA_arrive 18 = .ok (.iconst 0, 1) := by decide +kernel
theorem d_LA_arrive_19 : decode b_LA_arrive 19 = .ok (.ireturn, 1) := by decide +kernel
theorem d_LA_back_0 : decode b_LA_back 0 = .ok (.aload_n 2, 1) := by decide +kernel
theorem d_LA_back_1 : decode b_LA_back 1 = .ok (.iconst 0, 1) := by decide +kernel
theorem d_LA_back_2 : decode b_LA_back 2 = .ok (.aload_n 0, 1) := by decide +kernel
theorem d_LA_back_3 : decode b_LA_back 3 = .ok (.iload_n 1, 1) := by decide +kernel
theorem d_LA_back_4 : decode b_LA_back 4 = .ok (.invokevirtual 58, 3) := by decide +kernel
theorem d_LA_back_7 : decode b_LA_back 7 = .ok (.i2l, 1) := by decide +kernel
theorem d_LA_back_8 : decode b_LA_back 8 = .ok (.lastore, 1) := by decide +kernel
theorem d_LA_back_9 : decode b_LA_back 9 = .ok (.goto 9, 3) := by decide +kernel
theorem d_LA_back_12 : decode b_LA_back 12 = .ok (.astore_n 3, 1) := by decide +kernel
theorem d_LA_back_13 : decode b_LA_back 13 = .ok (.iconst 1, 1) := by decide +kernel
theorem d_LA_back_14 : decode b_LA_back 14 = .ok (.ireturn, 1) := by decide +kernel
theorem d_LA_back_15 : decode b_LA_back 15 = .ok (.astore_n 3, 1) := by decide +kernel
theorem d_LA_back_16 : decode b_LA_back 16 = .ok (.iconst 2, 1) := by decide +kernel
theorem d_LA_back_17 : decode b_LA_back 17 = .ok (.ireturn, 1) := by decide +kernel
theorem d_LA_back_18 : decode b_LA_back 18 = .ok (.iconst 0, 1) := by decide +kernel
theorem d_LA_back_19 : decode b_LA_back 19 = .ok (.ireturn, 1) := by decide +kernel
theorem d_LA_check_0 : decode b_LA_check 0 = .ok (.aload 4, 2) := by decide +kernel
theorem d_LA_check_2 : decode b_LA_check 2 = .ok (.iconst 0, 1) := by decide +kernel
theorem d_LA_check_3 : decode b_LA_check 3 = .ok (.aload_n 0, 1) := by decide +kernel
theorem d_LA_check_4 : decode b_LA_check 4 = .ok (.iload_n 1, 1) := by decide +kernel
theorem d_LA_check_5 : decode b_LA_check 5 = .ok (.iload_n 2, 1) := by decide +kernel
theorem d_LA_check_6 : decode b_LA_check 6 = .ok (.iload_n 3, 1) := by decide +kernel
theorem d_LA_check_7 : decode b_LA_check 7 = .ok (.invokevirtual 41, 3) := by decide +kernel
theorem d_LA_check_10 : decode b_LA_check 10 = .ok (.i2l, 1) := by decide +kernel
theorem d_LA_check_11 : decode b_LA_check 11 = .ok (.lastore, 1) := by decide +kernel
theorem d_LA_check_12 : decode b_LA_check 12 = .ok (.goto 15, 3) := by decide +kernel
theorem d_LA_check_15 : decode b_LA_check 15 = .ok (.astore 5, 2) := by decide +kernel
theorem d_LA_check_17 : decode b_LA_check 17 = .ok (.iconst 1, 1) := by decide +kernel
theorem d_LA_check_18 : decode b_LA_check 18 = .ok (.ireturn, 1) := by decide +kernel
theorem d_LA_check_19 : decode b_LA_check 19 = .ok (.astore 5, 2) := by decide +kernel
theorem d_LA_check_21 : decode b_LA_check 21 = .ok (.iconst 2, 1) := by decide +kernel
theorem d_LA_check_22 : decode b_LA_check 22 = .ok (.ireturn, 1) := by decide +kernel
theorem d_LA_check_23 : decode b_LA_check 23 = .ok (.astore 5, 2) := by decide +kernel
theorem d_LA_check_25 : decode b_LA_check 25 = .ok (.iconst 3, 1) := by decide +kernel
theorem d_LA_check_26 : decode b_LA_check 26 = .ok (.ireturn, 1) := by decide +kernel
theorem d_LA_check_27 : decode b_LA_check 27 = .ok (.iconst 0, 1) := by decide +kernel
theorem d_LA_check_28 : decode b_LA_check 28 = .ok (.ireturn, 1) := by decide +kernel
theorem d_LA_comes_0 : decode b_LA_comes 0 = .ok (.aload 4, 2) := by decide +kernel
theorem d_LA_comes_2 : decode b_LA_comes 2 = .ok (.iconst 0, 1) := by decide +kernel
theorem d_LA_comes_3 : decode b_LA_comes 3 = .ok (.aload_n 0, 1) := by decide +kernel
theorem d_LA_comes_4 : decode b_LA_comes 4 = .ok (.iload_n 1, 1) := by decide +kernel
theorem d_LA_comes_5 : decode b_LA_comes 5 = .ok (.iload_n 2, 1) := by decide +kernel
theorem d_LA_comes_6 : decode b_LA_comes 6 = .ok (.iload_n 3, 1) := by decide +kernel
theorem d_LA_comes_7 : decode b_LA_comes 7 = .ok (.invokevirtual 21, 3) := by decide +kernel
theorem d_LA_comes_10 : decode b_LA_comes 10 = .ok (.i2l, 1) := by decide +kernel
theorem d_LA_comes_11 : decode b_LA_comes 11 = .ok (.lastore, 1) := by decide +kernel
theorem d_LA_comes_12 : decode b_LA_comes 12 = .ok (.goto 19, 3) := by decide +kernel
theorem d_LA_comes_15 : decode b_LA_comes 15 = .ok (.astore 5, 2) := by decide +kernel
theorem d_LA_comes_17 : decode b_LA_comes 17 = .ok (.iconst 1, 1) := by decide +kernel
theorem d_LA_comes_18 : decode b_LA_comes 18 = .ok (.ireturn, 1) := by decide +kernel
theorem d_LA_comes_19 : decode b_LA_comes 19 = .ok (.astore 5, 2) := by decide +kernel
theorem d_LA_comes_21 : decode b_LA_comes 21 = .ok (.iconst 2, 1) := by decide +kernel
theorem d_LA_comes_22 : decode b_LA_comes 22 = .ok (.ireturn, 1) := by decide +kernel
theorem d_LA_comes_23 : decode b_LA_comes 23 = .ok (.astore 5, 2) := by decide +kernel
theorem d_LA_comes_25 : decode b_LA_comes 25 = .ok (.iconst 3, 1) := by decide +kernel
theorem d_LA_comes_26 : decode b_LA_comes 26 = .ok (.ireturn, 1) := by decide +kernel
theorem d_LA_comes_27 : decode b_LA_comes 27 = .ok (.astore 5, 2) := by decide +kernel
theorem d_LA_comes_29 : decode b_LA_comes 29 = .ok (.iconst 4, 1) := by decide +kernel
theorem d_LA_comes_30 : decode b_LA_comes 30 = .ok (.ireturn, 1) := by decide +kernel
theorem d_LA_comes_31 : decode b_LA_comes 31 = .ok (.iconst 0, 1) := by decide +kernel
theorem d_LA_comes_32 : decode b_LA_comes 32 = .ok (.ireturn, 1) := by decide +kernel
theorem d_LA_customer_0 : decode b_LA_customer 0 = .ok (.aload_n 3, 1) := by decide +kernel
theorem d_LA_customer_1 : decode b_LA_customer 1 = .ok (.iconst 0, 1) := by decide +kernel
theorem d_LA_customer_2 : decode b_LA_customer 2 = .ok (.aload_n 0, 1) := by decide +kernel
theorem d_LA_customer_3 : decode b_LA_customer 3 = .ok (.iload_n 1, 1) := by decide +kernel
theorem d_LA_customer_4 : decode b_LA_customer 4 = .ok (.iload_n 2, 1) := by decide +kernel
theorem d_LA_customer_5 : decode b_LA_customer 5 = .ok (.invokevirtual 74, 3) := by decide +kernel
theorem d_LA_customer_8 : decode b_LA_customer 8 = .ok (.i2l, 1) := by decide +kernel
theorem d_LA_customer_9 : decode b_LA_customer 9 = .ok (.lastore, 1) := by decide +kernel
theorem d_LA_customer_10 : decode b_LA_customer 10 = .ok (.goto 7, 3) := by decide +kernel
theorem d_LA_customer_13 : decode b_LA_customer 13 = .ok (.astore 4, 2) := by decide +kernel
theorem d_LA_customer_15 : decode b_LA_customer 15 = .ok (.iconst 1, 1) := by decide +kernel
theorem d_LA_customer_16 : decode b_LA_customer 16 = .ok (.ireturn, 1) := by decide +kernel
theorem d_LA_customer_17 : decode b_LA_customer 17 = .ok (.iconst 0, 1) := by decide +kernel
theorem d_LA_customer_18 : decode b_LA_customer 18 = .ok (.ireturn, 1) := by decide +kernel
theorem d_LA_day_0 : decode b_LA_day 0 = .ok (.aload_n 0, 1) := by decide +kernel
theorem d_LA_day_1 : decode b_LA_day 1 = .ok (.iload_n 1, 1) := by decide +kernel
theorem d_LA_day_2 : decode b_LA_day 2 = .ok (.invokevirtual 7, 3) := by decide +kernel
theorem d_LA_day_5 : decode b_LA_day 5 = .ok (.goto 6, 3) := by decide +kernel
theorem d_LA_day_8 : decode b_LA_day 8 = .ok (.astore_n 2, 1) := by decide +kernel
theorem d_LA_day_9 : decode b_LA_day 9 = .ok (.iconst 1, 1) := by decide +kernel
theorem d_LA_day_10 : decode b_LA_day 10 = .ok (.ireturn, 1) := by decide +kernel
theorem d_LA_day_11 : decode b_LA_day 11 = .ok (.iconst 0, 1) := by decide +kernel
theorem d_LA_day_12 : decode b_LA_day 12 = .ok (.ireturn, 1) := by decide +kernel
theorem d_LA_due_0 : decode b_LA_due 0 = .ok (.aload_n 2, 1) := by decide +kernel
theorem d_LA_due_1 : decode b_LA_due 1 = .ok (.iconst 0, 1) := by decide +kernel
theorem d_LA_due_2 : decode b_LA_due 2 = .ok (.aload_n 0, 1) := by decide +kernel
theorem d_LA_due_3 : decode b_LA_due 3 = .ok (.iload_n 1, 1) := by decide +kernel
theorem d_LA_due_4 : decode b_LA_due 4 = .ok (.invokevirtual 68, 3) := by decide +kernel
theorem d_LA_due_7 : decode b_LA_due 7 = .ok (.i2l, 1) := by decide +kernel
theorem d_LA_due_8 : decode b_LA_due 8 = .ok (.lastore, 1) := by decide +kernel
theorem d_LA_due_9 : decode b_LA_due 9 = .ok (.goto 6, 3) := by decide +kernel
theorem d_LA_due_12 : decode b_LA_due 12 = .ok (.astore_n 3, 1) := by decide +kernel
theorem d_LA_due_13 : decode b_LA_due 13 = .ok (.iconst 1, 1) := by decide +kernel
theorem d_LA_due_14 : decode b_LA_due 14 = .ok (.ireturn, 1) := by decide +kernel
theorem d_LA_due_15 : decode b_LA_due 15 = .ok (.iconst 0, 1) := by decide +kernel
theorem d_LA_due_16 : decode b_LA_due 16 = .ok (.ireturn, 1) := by decide +kernel
theorem d_LA_grade_0 : decode b_LA_grade 0 = .ok (.aload_n 3, 1) := by decide +kernel
theorem d_LA_grade_1 : decode b_LA_grade 1 = .ok (.iconst 0, 1) := by decide +kernel
theorem d_LA_grade_2 : decode b_LA_grade 2 = .ok (.aload_n 0, 1) := by decide +kernel
theorem d_LA_grade_3 : decode b_LA_grade 3 = .ok (.iload_n 1, 1) := by decide +kernel
theorem d_LA_grade_4 : decode b_LA_grade 4 = .ok (.iload_n 2, 1) := by decide +kernel
theorem d_LA_grade_5 : decode b_LA_grade 5 = .ok (.invokevirtual 44, 3) := by decide +kernel
theorem d_LA_grade_8 : decode b_LA_grade 8 = .ok (.i2l, 1) := by decide +kernel
theorem d_LA_grade_9 : decode b_LA_grade 9 = .ok (.lastore, 1) := by decide +kernel
theorem d_LA_grade_10 : decode b_LA_grade 10 = .ok (.goto 15, 3) := by decide +kernel
theorem d_LA_grade_13 : decode b_LA_grade 13 = .ok (.astore 4, 2) := by decide +kernel
theorem d_LA_grade_15 : decode b_LA_grade 15 = .ok (.iconst 1, 1) := by decide +kernel
theorem d_LA_grade_16 : decode b_LA_grade 16 = .ok (.ireturn, 1) := by decide +kernel
theorem d_LA_grade_17 : decode b_LA_grade 17 = .ok (.astore 4, 2) := by decide +kernel
theorem d_LA_grade_19 : decode b_LA_grade 19 = .ok (.iconst 2, 1) := by decide +kernel
theorem d_LA_grade_20 : decode b_LA_grade 20 = .ok (.ireturn, 1) := by decide +kernel
theorem d_LA_grade_21 : decode b_LA_grade 21 = .ok (.astore 4, 2) := by decide +kernel
theorem d_LA_grade_23 : decode b_LA_grade 23 = .ok (.iconst 3, 1) := by decide +kernel
theorem d_LA_grade_24 : decode b_LA_grade 24 = .ok (.ireturn, 1) := by decide +kernel
theorem d_LA_grade_25 : decode b_LA_grade 25 = .ok (.iconst 0, 1) := by decide +kernel
theorem d_LA_grade_26 : decode b_LA_grade 26 = .ok (.ireturn, 1) := by decide +kernel
theorem d_LA_law_0 : decode code 0 = .ok (.new 8, 3) := by decide +kernel
theorem d_LA_law_3 : decode code 3 = .ok (.dup, 1) := by decide +kernel
theorem d_LA_law_4 : decode code 4 = .ok (.invokespecial 80, 3) := by decide +kernel
theorem d_LA_law_7 : decode code 7 = .ok (.astore_n 1, 1) := by decide +kernel
theorem d_LA_law_8 : decode code 8 = .ok (.new 81, 3) := by decide +kernel
theorem d_LA_law_11 : decode code 11 = .ok (.dup, 1) := by decide +kernel
theorem d_LA_law_12 : decode code 12 = .ok (.invokespecial 83, 3) := by decide +kernel
theorem d_LA_law_15 : decode code 15 = .ok (.astore_n 2, 1) := by decide +kernel
theorem d_LA_law_16 : decode code 16 = .ok (.iconst 1, 1) := by decide +kernel
theorem d_LA_law_17 : decode code 17 = .ok (.newarray .long, 2) := by decide +kernel
theorem d_LA_law_19 : decode code 19 = .ok (.astore_n 3, 1) := by decide +kernel
theorem d_LA_law_20 : decode code 20 = .ok (.iconst 0, 1) := by decide +kernel
theorem d_LA_law_21 : decode code 21 = .ok (.istore 4, 2) := by decide +kernel
theorem d_LA_law_23 : decode code 23 = .ok (.iload 4, 2) := by decide +kernel
theorem d_LA_law_25 : decode code 25 = .ok (.aload_n 0, 1) := by decide +kernel
theorem d_LA_law_26 : decode code 26 = .ok (.arraylength, 1) := by decide +kernel
theorem d_LA_law_27 : decode code 27 = .ok (.iconst 4, 1) := by decide +kernel
theorem d_LA_law_28 : decode code 28 = .ok (.isub, 1) := by decide +kernel
theorem d_LA_law_29 : decode code 29 = .ok (.if_icmp .gt 1325, 3) := by decide +kernel
theorem d_LA_law_32 : decode code 32 = .ok (.aload_n 0, 1) := by decide +kernel
theorem d_LA_law_33 : decode code 33 = .ok (.iload 4, 2) := by decide +kernel
theorem d_LA_law_35 : decode code 35 = .ok (.iaload, 1) := by decide +kernel
theorem d_LA_law_36 : decode code 36 = .ok (.bipush 31, 2) := by decide +kernel
theorem d_LA_law_38 : decode code 38 = .ok (.iand, 1) := by decide +kernel
theorem d_LA_law_39 : decode code 39 = .ok (.tableswitch 1309 0 18 #[89, 125, 205, 301, 349, 417, 481, 577, 645, 693, 777, 852, 908, 956, 1024, 1080, 1148, 1216, 1284], 89) := by decide +kernel
theorem d_LA_law_128 : decode code 128 = .ok (.aload_n 1, 1) := by decide +kernel
theorem d_LA_law_129 : decode code 129 = .ok (.aload_n 0, 1) := by decide +kernel
theorem d_LA_law_130 : decode code 130 = .ok (.iload 4, 2) := by decide +kernel
theorem d_LA_law_132 : decode code 132 = .ok (.iconst 1, 1) := by decide +kernel
theorem d_LA_law_133 : decode code 133 = .ok (.iadd, 1) := by decide +kernel
theorem d_LA_law_134 : decode code 134 = .ok (.iaload, 1) := by decide +kernel
theorem d_LA_law_135 : decode code 135 = .ok (.invokestatic 84, 3) := by decide +kernel
theorem d_LA_law_138 : decode code 138 = .ok (.istore 5, 2) := by decide +kernel
theorem d_LA_law_140 : decode code 140 = .ok (.aload_n 2, 1) := by decide +kernel
theorem d_LA_law_141 : decode code 141 = .ok (.aload_n 0, 1) := by decide +kernel
theorem d_LA_law_142 : decode code 142 = .ok (.iload 4, 2) := by decide +kernel
theorem d_LA_law_144 : decode code 144 = .ok (.iconst 1, 1) := by decide +kernel
theorem d_LA_law_145 : decode code 145 = .ok (.iadd, 1) := by decide +kernel
theorem d_LA_law_146 : decode code 146 = .ok (.iaload, 1) := by decide +kernel
theorem d_LA_law_147 : decode code 147 = .ok (.invokevirtual 89, 3) := by decide +kernel
theorem d_LA_law_150 : decode code 150 = .ok (.aload_n 2, 1) := by decide +kernel
theorem d_LA_law_151 : decode code 151 = .ok (.invokevirtual 90, 3) := by decide +kernel
theorem d_LA_law_154 : decode code 154 = .ok (.iload 5, 2) := by decide +kernel
theorem d_LA_law_156 : decode code 156 = .ok (.if_icmp .eq 5, 3) := by decide +kernel
theorem d_LA_law_159 : decode code 159 = .ok (.iconst 0, 1) := by decide +kernel
theorem d_LA_law_160 : decode code 160 = .ok (.ireturn, 1) := by decide +kernel
theorem d_LA_law_161 : decode code 161 = .ok (.goto 1187, 3) := by decide +kernel
theorem d_LA_law_164 : decode code 164 = .ok (.aload_n 1, 1) := by decide +kernel
theorem d_LA_law_165 : decode code 165 = .ok (.aload_n 0, 1) := by decide +kernel
theorem d_LA_law_166 : decode code 166 = .ok (.iload 4, 2) := by decide +kernel
theorem d_LA_law_168 : decode code 168 = .ok (.iconst 1, 1) := by decide +kernel
theorem d_LA_law_169 : decode code 169 = .ok (.iadd, 1) := by decide +kernel
theorem d_LA_law_170 : decode code 170 = .ok (.iaload, 1) := by decide +kernel
theorem d_LA_law_171 : decode code 171 = .ok (.aload_n 0, 1) := by decide +kernel
theorem d_LA_law_172 : decode code 172 = .ok (.iload 4, 2) := by decide +kernel
theorem d_LA_law_174 : decode code 174 = .ok (.iconst 2, 1) := by decide +kernel
theorem d_LA_law_175 : decode code 175 = .ok (.iadd, 1) := by decide +kernel
theorem d_LA_law_176 : decode code 176 = .ok (.iaload, 1) := by decide +kernel
theorem d_LA_law_177 : decode code 177 = .ok (.aload_n 0, 1) := by decide +kernel
theorem d_LA_law_178 : decode code 178 = .ok (.iload 4, 2) := by decide +kernel
theorem d_LA_law_180 : decode code 180 = .ok (.iconst 3, 1) := by decide +kernel
theorem d_LA_law_181 : decode code 181 = .ok (.iadd, 1) := by decide +kernel
theorem d_LA_law_182 : decode code 182 = .ok (.iaload, 1) := by decide +kernel
theorem d_LA_law_183 : decode code 183 = .ok (.aload_n 3, 1) := by decide +kernel
theorem d_LA_law_184 : decode code 184 = .ok (.invokestatic 94, 3) := by decide +kernel
theorem d_LA_law_187 : decode code 187 = .ok (.istore 5, 2) := by decide +kernel
theorem d_LA_law_189 : decode code 189 = .ok (.aload_n 2, 1) := by decide +kernel
theorem d_LA_law_190 : decode code 190 = .ok (.aload_n 0, 1) := by decide +kernel
theorem d_LA_law_191 : decode code 191 = .ok (.iload 4, 2) := by decide +kernel
theorem d_LA_law_193 : decode code 193 = .ok (.iconst 1, 1) := by decide +kernel
theorem d_LA_law_194 : decode code 194 = .ok (.iadd, 1) := by decide +kernel
theorem d_LA_law_195 : decode code 195 = .ok (.iaload, 1) := by decide +kernel
theorem d_LA_law_196 : decode code 196 = .ok (.aload_n 0, 1) := by decide +kernel
theorem d_LA_law_197 : decode code 197 = .ok (.iload 4, 2) := by decide +kernel
theorem d_LA_law_199 : decode code 199 = .ok (.iconst 2, 1) := by decide +kernel
theorem d_LA_law_200 : decode code 200 = .ok (.iadd, 1) := by decide +kernel
theorem d_LA_law_201 : decode code 201 = .ok (.iaload, 1) := by decide +kernel
theorem d_LA_law_202 : decode code 202 = .ok (.aload_n 0, 1) := by decide +kernel
theorem d_LA_law_203 : decode code 203 = .ok (.iload 4, 2) := by decide +kernel
theorem d_LA_law_205 : decode code 205 = .ok (.iconst 3, 1) := by decide +kernel
theorem d_LA_law_206 : decode code 206 = .ok (.iadd, 1) := by decide +kernel
theorem d_LA_law_207 : decode code 207 = .ok (.iaload, 1) := by decide +kernel
theorem d_LA_law_208 : decode code 208 = .ok (.invokevirtual 97, 3) := by decide +kernel
theorem d_LA_law_211 : decode code 211 = .ok (.istore 6, 2) := by decide +kernel
theorem d_LA_law_213 : decode code 213 = .ok (.aload_n 2, 1) := by decide +kernel
theorem d_LA_law_214 : decode code 214 = .ok (.invokevirtual 90, 3) := by decide +kernel
theorem d_LA_law_217 : decode code 217 = .ok (.iload 5, 2) := by decide +kernel
theorem d_LA_law_219 : decode code 219 = .ok (.if_icmp .eq 5, 3) := by decide +kernel
theorem d_LA_law_222 : decode code 222 = .ok (.iconst 0, 1) := by decide +kernel
theorem d_LA_law_223 : decode code 223 = .ok (.ireturn, 1) := by decide +kernel
theorem d_LA_law_224 : decode code 224 = .ok (.iload 5, 2) := by decide +kernel
theorem d_LA_law_226 : decode code 226 = .ok (.ifCond .ne 15, 3) := by decide +kernel
theorem d_LA_law_229 : decode code 229 = .ok (.aload_n 3, 1) := by decide +kernel
theorem d_LA_law_230 : decode code 230 = .ok (.iconst 0, 1) := by decide +kernel
theorem d_LA_law_231 : decode code 231 = .ok (.laload, 1) := by decide +kernel
theorem d_LA_law_232 : decode code 232 = .ok (.iload 6, 2) := by decide +kernel
theorem d_LA_law_234 : decode code 234 = .ok (.i2l, 1) := by decide +kernel
theorem d_LA_law_235 : decode code 235 = .ok (.lcmp, 1) := by decide +kernel
theorem d_LA_law_236 : decode code 236 = .ok (.ifCond .eq 5, 3) := by decide +kernel
theorem d_LA_law_239 : decode code 239 = .ok (.iconst 0, 1) := by decide +kernel
theorem d_LA_law_240 : decode code 240 = .ok (.ireturn, 1) := by decide +kernel
theorem d_LA_law_241 : decode code 241 = .ok (.goto 1107, 3) := by decide +kernel
theorem d_LA_law_244 : decode code 244 = .ok (.aload_n 1, 1) := by decide +kernel
theorem d_LA_law_245 : decode code 245 = .ok (.aload_n 0, 1) := by decide +kernel
theorem d_LA_law_246 : decode code 246 = .ok (.iload 4, 2) := by decide +kernel
theorem d_LA_law_248 : decode code 248 = .ok (.iconst 1, 1) := by decide +kernel
theorem d_LA_law_249 : decode code 249 = .ok (.iadd, 1) := by decide +kernel
theorem d_LA_law_250 : decode code 250 = .ok (.iaload, 1) := by decide +kernel
theorem d_LA_law_251 : decode code 251 = .ok (.aload_n 0, 1) := by decide +kernel
theorem d_LA_law_252 : decode code 252 = .ok (.iload 4, 2) := by decide +kernel
theorem d_LA_law_254 : decode code 254 = .ok (.iconst 2, 1) := by decide +kernel
theorem d_LA_law_255 : decode code 255 = .ok (.iadd, 1) := by decide +kernel
theorem d_LA_law_256 : decode code 256 = .ok (.iaload, 1) := by decide +kernel
theorem d_LA_law_257 : decode code 257 = .ok (.aload_n 0, 1) := by decide +kernel
theorem d_LA_law_258 : decode code 258 = .ok (.iload 4, 2) := by decide +kernel
theorem d_LA_law_260 : decode code 260 = .ok (.iconst 3, 1) := by decide +kernel
theorem d_LA_law_261 : decode code 261 = .ok (.iadd, 1) := by decide +kernel
theorem d_LA_law_262 : decode code 262 = .ok (.iaload, 1) := by decide +kernel
theorem d_LA_law_263 : decode code 263 = .ok (.ifCond .eq 7, 3) := by decide +kernel
theorem d_LA_law_266 : decode code 266 = .ok (.iconst 1, 1) := by decide +kernel
theorem d_LA_law_267 : decode code 267 = .ok (.goto 4, 3) := by decide +kernel
theorem d_LA_law_270 : decode code 270 = .ok (.iconst 0, 1) := by decide +kernel
theorem d_LA_law_271 : decode code 271 = .ok (.aload_n 3, 1) := by decide +kernel
theorem d_LA_law_272 : decode code 272 = .ok (.invokestatic 98, 3) := by decide +kernel
theorem d_LA_law_275 : decode code 275 = .ok (.istore 5, 2) := by decide +kernel
theorem d_LA_law_277 : decode code 277 = .ok (.aload_n 2, 1) := by decide +kernel
theorem d_LA_law_278 : decode code 278 = .ok (.aload_n 0, 1) := by decide +kernel
theorem d_LA_law_279 : decode code 279 = .ok (.iload 4, 2) := by decide +kernel
theorem d_LA_law_281 : decode code 281 = .ok (.iconst 1, 1) := by decide +kernel
theorem d_LA_law_282 : decode code 282 = .ok (.iadd, 1) := by decide +kernel
theorem d_LA_law_283 : decode code 283 = .ok (.iaload, 1) := by decide +kernel
theorem d_LA_law_284 : decode code 284 = .ok (.aload_n 0, 1) := by decide +kernel
theorem d_LA_law_285 : decode code 285 = .ok (.iload 4, 2) := by decide +kernel
theorem d_LA_law_287 : decode code 287 = .ok (.iconst 2, 1) := by decide +kernel
theorem d_LA_law_288 : decode code 288 = .ok (.iadd, 1) := by decide +kernel
theorem d_LA_law_289 : decode code 289 = .ok (.iaload, 1) := by decide +kernel
theorem d_LA_law_290 : decode code 290 = .ok (.aload_n 0, 1) := by decide +kernel
theorem d_LA_law_291 : decode code 291 = .ok (.iload 4, 2) := by decide +kernel
theorem d_LA_law_293 : decode code 293 = .ok (.iconst 3, 1) := by decide +kernel
theorem d_LA_law_294 : decode code 294 = .ok (.iadd, 1) := by decide +kernel
theorem d_LA_law_295 : decode code 295 = .ok (.iaload, 1) := by decide +kernel
theorem d_LA_law_296 : decode code 296 = .ok (.ifCond .eq 7, 3) := by decide +kernel
theorem d_LA_law_299 : decode code 299 = .ok (.iconst 1, 1) := by decide +kernel
theorem d_LA_law_300 : decode code 300 = .ok (.goto 4, 3) := by decide +kernel
theorem d_LA_law_303 : decode code 303 = .ok (.iconst 0, 1) := by decide +kernel
theorem d_LA_law_304 : decode code 304 = .ok (.invokevirtual 101, 3) := by decide +kernel
theorem d_LA_law_307 : decode code 307 = .ok (.istore 6, 2) := by decide +kernel
theorem d_LA_law_309 : decode code 309 = .ok (.aload_n 2, 1) := by decide +kernel
theorem d_LA_law_310 : decode code 310 = .ok (.invokevirtual 90, 3) := by decide +kernel
theorem d_LA_law_313 : decode code 313 = .ok (.iload 5, 2) := by decide +kernel
theorem d_LA_law_315 : decode code 315 = .ok (.if_icmp .eq 5, 3) := by decide +kernel
theorem d_LA_law_318 : decode code 318 = .ok (.iconst 0, 1) := by decide +kernel
theorem d_LA_law_319 : decode code 319 = .ok (.ireturn, 1) := by decide +kernel
theorem d_LA_law_320 : decode code 320 = .ok (.iload 5, 2) := by decide +kernel
theorem d_LA_law_322 : decode code 322 = .ok (.ifCond .ne 15, 3) := by decide +kernel
theorem d_LA_law_325 : decode code 325 = .ok (.aload_n 3, 1) := by decide +kernel
theorem d_LA_law_326 : decode code 326 = .ok (.iconst 0, 1) := by decide +kernel
theorem d_LA_law_327 : decode code 327 = .ok (.laload, 1) := by decide +kernel
theorem d_LA_law_328 : decode code 328 = .ok (.iload 6, 2) := by decide +kernel
theorem d_LA_law_330 : decode code 330 = .ok (.i2l, 1) := by decide +kernel
theorem d_LA_law_331 : decode code 331 = .ok (.lcmp, 1) := by decide +kernel
theorem d_LA_law_332 : decode code 332 = .ok (.ifCond .eq 5, 3) := by decide +kernel
theorem d_LA_law_335 : decode code 335 = .ok (.iconst 0, 1) := by decide +kernel
theorem d_LA_law_336 : decode code 336 = .ok (.ireturn, 1) := by decide +kernel
theorem d_LA_law_337 : decode code 337 = .ok (.goto 1011, 3) := by decide +kernel
theorem d_LA_law_340 : decode code 340 = .ok (.aload_n 1, 1) := by decide +kernel
theorem d_LA_law_341 : decode code 341 = .ok (.aload_n 0, 1) := by decide +kernel
theorem d_LA_law_342 : decode code 342 = .ok (.iload 4, 2) := by decide +kernel
theorem d_LA_law_344 : decode code 344 = .ok (.iconst 1, 1) := by decide +kernel
theorem d_LA_law_345 : decode code 345 = .ok (.iadd, 1) := by decide +kernel
theorem d_LA_law_346 : decode code 346 = .ok (.iaload, 1) := by decide +kernel
theorem d_LA_law_347 : decode code 347 = .ok (.aload_n 0, 1) := by decide +kernel
theorem d_LA_law_348 : decode code 348 = .ok (.iload 4, 2) := by decide +kernel
theorem d_LA_law_350 : decode code 350 = .ok (.iconst 2, 1) := by decide +kernel
theorem d_LA_law_351 : decode code 351 = .ok (.iadd, 1) := by decide +kernel
theorem d_LA_law_352 : decode code 352 = .ok (.iaload, 1) := by decide +kernel
theorem d_LA_law_353 : decode code 353 = .ok (.invokestatic 102, 3) := by decide +kernel
theorem d_LA_law_356 : decode code 356 = .ok (.istore 5, 2) := by decide +kernel
theorem d_LA_law_358 : decode code 358 = .ok (.aload_n 2, 1) := by decide +kernel
theorem d_LA_law_359 : decode code 359 = .ok (.aload_n 0, 1) := by decide +kernel
theorem d_LA_law_360 : decode code 360 = .ok (.iload 4, 2) := by decide +kernel
theorem d_LA_law_362 : decode code 362 = .ok (.iconst 1, 1) := by decide +kernel
theorem d_LA_law_363 : decode code 363 = .ok (.iadd, 1) := by decide +kernel
theorem d_LA_law_364 : decode code 364 = .ok (.iaload, 1) := by decide +kernel
theorem d_LA_law_365 : decode code 365 = .ok (.aload_n 0, 1) := by decide +kernel
theorem d_LA_law_366 : decode code 366 = .ok (.iload 4, 2) := by decide +kernel
theorem d_LA_law_368 : decode code 368 = .ok (.iconst 2, 1) := by decide +kernel
theorem d_LA_law_369 : decode code 369 = .ok (.iadd, 1) := by decide +kernel
theorem d_LA_law_370 : decode code 370 = .ok (.iaload, 1) := by decide +kernel
theorem d_LA_law_371 : decode code 371 = .ok (.invokevirtual 105, 3) := by decide +kernel
theorem d_LA_law_374 : decode code 374 = .ok (.aload_n 2, 1) := by decide +kernel
theorem d_LA_law_375 : decode code 375 = .ok (.invokevirtual 90, 3) := by decide +kernel
theorem d_LA_law_378 : decode code 378 = .ok (.iload 5, 2) := by decide +kernel
theorem d_LA_law_380 : decode code 380 = .ok (.if_icmp .eq 5, 3) := by decide +kernel
theorem d_LA_law_383 : decode code 383 = .ok (.iconst 0, 1) := by decide +kernel
theorem d_LA_law_384 : decode code 384 = .ok (.ireturn, 1) := by decide +kernel
theorem d_LA_law_385 : decode code 385 = .ok (.goto 963, 3) := by decide +kernel
theorem d_LA_law_388 : decode code 388 = .ok (.aload_n 1, 1) := by decide +kernel
theorem d_LA_law_389 : decode code 389 = .ok (.aload_n 0, 1) := by decide +kernel
theorem d_LA_law_390 : decode code 390 = .ok (.iload 4, 2) := by decide +kernel
theorem d_LA_law_392 : decode code 392 = .ok (.iconst 1, 1) := by decide +kernel
theorem d_LA_law_393 : decode code 393 = .ok (.iadd, 1) := by decide +kernel
theorem d_LA_law_394 : decode code 394 = .ok (.iaload, 1) := by decide +kernel
theorem d_LA_law_395 : decode code 395 = .ok (.aload_n 0, 1) := by decide +kernel
theorem d_LA_law_396 : decode code 396 = .ok (.iload 4, 2) := by decide +kernel
theorem d_LA_law_398 : decode code 398 = .ok (.iconst 2, 1) := by decide +kernel
theorem d_LA_law_399 : decode code 399 = .ok (.iadd, 1) := by decide +kernel
theorem d_LA_law_400 : decode code 400 = .ok (.iaload, 1) := by decide +kernel
theorem d_LA_law_401 : decode code 401 = .ok (.aload_n 3, 1) := by decide +kernel
theorem d_LA_law_402 : decode code 402 = .ok (.invokestatic 106, 3) := by decide +kernel
theorem d_LA_law_405 : decode code 405 = .ok (.istore 5, 2) := by decide +kernel
theorem d_LA_law_407 : decode code 407 = .ok (.aload_n 2, 1) := by decide +kernel
theorem d_LA_law_408 : decode code 408 = .ok (.aload_n 0, 1) := by decide +kernel
theorem d_LA_law_409 : decode code 409 = .ok (.iload 4, 2) := by decide +kernel
theorem d_LA_law_411 : decode code 411 = .ok (.iconst 1, 1) := by decide +kernel
theorem d_LA_law_412 : decode code 412 = .ok (.iadd, 1) := by decide +kernel
theorem d_LA_law_413 : decode code 413 = .ok (.iaload, 1) := by decide +kernel
theorem d_LA_law_414 : decode code 414 = .ok (.aload_n 0, 1) := by decide +kernel
theorem d_LA_law_415 : decode code 415 = .ok (.iload 4, 2) := by decide +kernel
theorem d_LA_law_417 : decode code 417 = .ok (.iconst 2, 1) := by decide +kernel
theorem d_LA_law_418 : decode code 418 = .ok (.iadd, 1) := by decide +kernel
theorem d_LA_law_419 : decode code 419 = .ok (.iaload, 1) := by decide +kernel
theorem d_LA_law_420 : decode code 420 = .ok (.invokevirtual 109, 3) := by decide +kernel
theorem d_LA_law_423 : decode code 423 = .ok (.istore 6, 2) := by decide +kernel
theorem d_LA_law_425 : decode code 425 = .ok (.aload_n 2, 1) := by decide +kernel
theorem d_LA_law_426 : decode code 426 = .ok (.invokevirtual 90, 3) := by decide +kernel
theorem d_LA_law_429 : decode code 429 = .ok (.iload 5, 2) := by decide +kernel
theorem d_LA_law_431 : decode code 431 = .ok (.if_icmp .eq 5, 3) := by decide +kernel
theorem d_LA_law_434 : decode code 434 = .ok (.iconst 0, 1) := by decide +kernel
theorem d_LA_law_435 : decode code 435 = .ok (.ireturn, 1) := by decide +kernel
theorem d_LA_law_436 : decode code 436 = .ok (.iload 5, 2) := by decide +kernel
theorem d_LA_law_438 : decode code 438 = .ok (.ifCond .ne 15, 3) := by decide +kernel
theorem d_LA_law_441 : decode code 441 = .ok (.aload_n 3, 1) := by decide +kernel
theorem d_LA_law_442 : decode code 442 = .ok (.iconst 0, 1) := by decide +kernel
theorem d_LA_law_443 : decode code 443 = .ok (.laload, 1) := by decide +kernel
theorem d_LA_law_444 : decode code 444 = .ok (.iload 6, 2) := by decide +kernel
theorem d_LA_law_446 : decode code 446 = .ok (.i2l, 1) := by decide +kernel
theorem d_LA_law_447 : decode code 447 = .ok (.lcmp, 1) := by decide +kernel
theorem d_LA_law_448 : decode code 448 = .ok (.ifCond .eq 5, 3) := by decide +kernel
theorem d_LA_law_451 : decode code 451 = .ok (.iconst 0, 1) := by decide +kernel
theorem d_LA_law_452 : decode code 452 = .ok (.ireturn, 1) := by decide +kernel
theorem d_LA_law_453 : decode code 453 = .ok (.goto 895, 3) := by decide +kernel
theorem d_LA_law_456 : decode code 456 = .ok (.aload_n 1, 1) := by decide +kernel
theorem d_LA_law_457 : decode code 457 = .ok (.aload_n 0, 1) := by decide +kernel
theorem d_LA_law_458 : decode code 458 = .ok (.iload 4, 2) := by decide +kernel
theorem d_LA_law_460 : decode code 460 = .ok (.iconst 1, 1) := by decide +kernel
theorem d_LA_law_461 : decode code 461 = .ok (.iadd, 1) := by decide +kernel
theorem d_LA_law_462 : decode code 462 = .ok (.iaload, 1) := by decide +kernel
theorem d_LA_law_463 : decode code 463 = .ok (.aload_n 0, 1) := by decide +kernel
theorem d_LA_law_464 : decode code 464 = .ok (.iload 4, 2) := by decide +kernel
theorem d_LA_law_466 : decode code 466 = .ok (.iconst 2, 1) := by decide +kernel
theorem d_LA_law_467 : decode code 467 = .ok (.iadd, 1) := by decide +kernel
theorem d_LA_law_468 : decode code 468 = .ok (.iaload, 1) := by decide +kernel
theorem d_LA_law_469 : decode code 469 = .ok (.ifCond .eq 7, 3) := by decide +kernel
theorem d_LA_law_472 : decode code 472 = .ok (.iconst 1, 1) := by decide +kernel
theorem d_LA_law_473 : decode code 473 = .ok (.goto 4, 3) := by decide +kernel
theorem d_LA_law_476 : decode code 476 = .ok (.iconst 0, 1) := by decide +kernel
theorem d_LA_law_477 : decode code 477 = .ok (.invokestatic 110, 3) := by decide +kernel
theorem d_LA_law_480 : decode code 480 = .ok (.istore 5, 2) := by decide +kernel
theorem d_LA_law_482 : decode code 482 = .ok (.aload_n 2, 1) := by decide +kernel
theorem d_LA_law_483 : decode code 483 = .ok (.aload_n 0, 1) := by decide +kernel
theorem d_LA_law_484 : decode code 484 = .ok (.iload 4, 2) := by decide +kernel
theorem d_LA_law_486 : decode code 486 = .ok (.iconst 1, 1) := by decide +kernel
theorem d_LA_law_487 : decode code 487 = .ok (.iadd, 1) := by decide +kernel
theorem d_LA_law_488 : decode code 488 = .ok (.iaload, 1) := by decide +kernel
theorem d_LA_law_489 : decode code 489 = .ok (.aload_n 0, 1) := by decide +kernel
theorem d_LA_law_490 : decode code 490 = .ok (.iload 4, 2) := by decide +kernel
theorem d_LA_law_492 : decode code 492 = .ok (.iconst 2, 1) := by decide +kernel
theorem d_LA_law_493 : decode code 493 = .ok (.iadd, 1) := by decide +kernel
theorem d_LA_law_494 : decode code 494 = .ok (.iaload, 1) := by decide +kernel
theorem d_LA_law_495 : decode code 495 = .ok (.ifCond .eq 7, 3) := by decide +kernel
theorem d_LA_law_498 : decode code 498 = .ok (.iconst 1, 1) := by decide +kernel
theorem d_LA_law_499 : decode code 499 = .ok (.goto 4, 3) := by decide +kernel
theorem d_LA_law_502 : decode code 502 = .ok (.iconst 0, 1) := by decide +kernel
theorem d_LA_law_503 : decode code 503 = .ok (.invokevirtual 113, 3) := by decide +kernel
theorem d_LA_law_506 : decode code 506 = .ok (.aload_n 2, 1) := by decide +kernel
theorem d_LA_law_507 : decode code 507 = .ok (.invokevirtual 90, 3) := by decide +kernel
theorem d_LA_law_510 : decode code 510 = .ok (.iload 5, 2) := by decide +kernel
theorem d_LA_law_512 : decode code 512 = .ok (.if_icmp .eq 5, 3) := by decide +kernel
theorem d_LA_law_515 : decode code 515 = .ok (.iconst 0, 1) := by decide +kernel
theorem d_LA_law_516 : decode code 516 = .ok (.ireturn, 1) := by decide +kernel
theorem d_LA_law_517 : decode code 517 = .ok (.goto 831, 3) := by decide +kernel
theorem d_LA_law_520 : decode code 520 = .ok (.aload_n 1, 1) := by decide +kernel
theorem d_LA_law_521 : decode code 521 = .ok (.aload_n 0, 1) := by decide +kernel
theorem d_LA_law_522 : decode code 522 = .ok (.iload 4, 2) := by decide +kernel
theorem d_LA_law_524 : decode code 524 = .ok (.iconst 1, 1) := by decide +kernel
theorem d_LA_law_525 : decode code 525 = .ok (.iadd, 1) := by decide +kernel
theorem d_LA_law_526 : decode code 526 = .ok (.iaload, 1) := by decide +kernel
theorem d_LA_law_527 : decode code 527 = .ok (.aload_n 0, 1) := by decide +kernel
theorem d_LA_law_528 : decode code 528 = .ok (.iload 4, 2) := by decide +kernel
theorem d_LA_law_530 : decode code 530 = .ok (.iconst 2, 1) := by decide +kernel
theorem d_LA_law_531 : decode code 531 = .ok (.iadd, 1) := by decide +kernel
theorem d_LA_law_532 : decode code 532 = .ok (.iaload, 1) := by decide +kernel
theorem d_LA_law_533 : decode code 533 = .ok (.aload_n 0, 1) := by decide +kernel
theorem d_LA_law_534 : decode code 534 = .ok (.iload 4, 2) := by decide +kernel
theorem d_LA_law_536 : decode code 536 = .ok (.iconst 3, 1) := by decide +kernel
theorem d_LA_law_537 : decode code 537 = .ok (.iadd, 1) := by decide +kernel
theorem d_LA_law_538 : decode code 538 = .ok (.iaload, 1) := by decide +kernel
theorem d_LA_law_539 : decode code 539 = .ok (.ifCond .eq 7, 3) := by decide +kernel
theorem d_LA_law_542 : decode code 542 = .ok (.iconst 1, 1) := by decide +kernel
theorem d_LA_law_543 : decode code 543 = .ok (.goto 4, 3) := by decide +kernel
theorem d_LA_law_546 : decode code 546 = .ok (.iconst 0, 1) := by decide +kernel
theorem d_LA_law_547 : decode code 547 = .ok (.aload_n 3, 1) := by decide +kernel
theorem d_LA_law_548 : decode code 548 = .ok (.invokestatic 114, 3) := by decide +kernel
theorem d_LA_law_551 : decode code 551 = .ok (.istore 5, 2) := by decide +kernel
theorem d_LA_law_553 : decode code 553 = .ok (.aload_n 2, 1) := by decide +kernel
theorem d_LA_law_554 : decode code 554 = .ok (.aload_n 0, 1) := by decide +kernel
theorem d_LA_law_555 : decode code 555 = .ok (.iload 4, 2) := by decide +kernel
theorem d_LA_law_557 : decode code 557 = .ok (.iconst 1, 1) := by decide +kernel
theorem d_LA_law_558 : decode code 558 = .ok (.iadd, 1) := by decide +kernel
theorem d_LA_law_559 : decode code 559 = .ok (.iaload, 1) := by decide +kernel
theorem d_LA_law_560 : decode code 560 = .ok (.aload_n 0, 1) := by decide +kernel
theorem d_LA_law_561 : decode code 561 = .ok (.iload 4, 2) := by decide +kernel
theorem d_LA_law_563 : decode code 563 = .ok (.iconst 2, 1) := by decide +kernel
theorem d_LA_law_564 : decode code 564 = .ok (.iadd, 1) := by decide +kernel
theorem d_LA_law_565 : decode code 565 = .ok (.iaload, 1) := by decide +kernel
theorem d_LA_law_566 : decode code 566 = .ok (.aload_n 0, 1) := by decide +kernel
theorem d_LA_law_567 : decode code 567 = .ok (.iload 4, 2) := by decide +kernel
theorem d_LA_law_569 : decode code 569 = .ok (.iconst 3, 1) := by decide +kernel
theorem d_LA_law_570 : decode code 570 = .ok (.iadd, 1) := by decide +kernel
theorem d_LA_law_571 : decode code 571 = .ok (.iaload, 1) := by decide +kernel
theorem d_LA_law_572 : decode code 572 = .ok (.ifCond .eq 7, 3) := by decide +kernel
theorem d_LA_law_575 : decode code 575 = .ok (.iconst 1, 1) := by decide +kernel
theorem d_LA_law_576 : decode code 576 = .ok (.goto 4, 3) := by decide +kernel
theorem d_LA_law_579 : decode code 579 = .ok (.iconst 0, 1) := by decide +kernel
theorem d_LA_law_580 : decode code 580 = .ok (.invokevirtual 116, 3) := by decide +kernel
theorem d_LA_law_583 : decode code 583 = .ok (.istore 6, 2) := by decide +kernel
theorem d_LA_law_585 : decode code 585 = .ok (.aload_n 2, 1) := by decide +kernel
theorem d_LA_law_586 : decode code 586 = .ok (.invokevirtual 90, 3) := by decide +kernel
theorem d_LA_law_589 : decode code 589 = .ok (.iload 5, 2) := by decide +kernel
theorem d_LA_law_591 : decode code 591 = .ok (.if_icmp .eq 5, 3) := by decide +kernel
theorem d_LA_law_594 : decode code 594 = .ok (.iconst 0, 1) := by decide +kernel
theorem d_LA_law_595 : decode code 595 = .ok (.ireturn, 1) := by decide +kernel
theorem d_LA_law_596 : decode code 596 = .ok (.iload 5, 2) := by decide +kernel
theorem d_LA_law_598 : decode code 598 = .ok (.ifCond .ne 15, 3) := by decide +kernel
theorem d_LA_law_601 : decode code 601 = .ok (.aload_n 3, 1) := by decide +kernel
theorem d_LA_law_602 : decode code 602 = .ok (.iconst 0, 1) := by decide +kernel
theorem d_LA_law_603 : decode code 603 = .ok (.laload, 1) := by decide +kernel
theorem d_LA_law_604 : decode code 604 = .ok (.iload 6, 2) := by decide +kernel
theorem d_LA_law_606 : decode code 606 = .ok (.i2l, 1) := by decide +kernel
theorem d_LA_law_607 : decode code 607 = .ok (.lcmp, 1) := by decide +kernel
theorem d_LA_law_608 : decode code 608 = .ok (.ifCond .eq 5, 3) := by decide +kernel
theorem d_LA_law_611 : decode code 611 = .ok (.iconst 0, 1) := by decide +kernel
theorem d_LA_law_612 : decode code 612 = .ok (.ireturn, 1) := by decide +kernel
theorem d_LA_law_613 : decode code 613 = .ok (.goto 735, 3) := by decide +kernel
theorem d_LA_law_616 : decode code 616 = .ok (.aload_n 1, 1) := by decide +kernel
theorem d_LA_law_617 : decode code 617 = .ok (.aload_n 0, 1) := by decide +kernel
theorem d_LA_law_618 : decode code 618 = .ok (.iload 4, 2) := by decide +kernel
theorem d_LA_law_620 : decode code 620 = .ok (.iconst 1, 1) := by decide +kernel
theorem d_LA_law_621 : decode code 621 = .ok (.iadd, 1) := by decide +kernel
theorem d_LA_law_622 : decode code 622 = .ok (.iaload, 1) := by decide +kernel
theorem d_LA_law_623 : decode code 623 = .ok (.aload_n 0, 1) := by decide +kernel
theorem d_LA_law_624 : decode code 624 = .ok (.iload 4, 2) := by decide +kernel
theorem d_LA_law_626 : decode code 626 = .ok (.iconst 2, 1) := by decide +kernel
theorem d_LA_law_627 : decode code 627 = .ok (.iadd, 1) := by decide +kernel
theorem d_LA_law_628 : decode code 628 = .ok (.iaload, 1) := by decide +kernel
theorem d_LA_law_629 : decode code 629 = .ok (.aload_n 3, 1) := by decide +kernel
theorem d_LA_law_630 : decode code 630 = .ok (.invokestatic 117, 3) := by decide +kernel
theorem d_LA_law_633 : decode code 633 = .ok (.istore 5, 2) := by decide +kernel
theorem d_LA_law_635 : decode code 635 = .ok (.aload_n 2, 1) := by decide +kernel
theorem d_LA_law_636 : decode code 636 = .ok (.aload_n 0, 1) := by decide +kernel
theorem d_LA_law_637 : decode code 637 = .ok (.iload 4, 2) := by decide +kernel
theorem d_LA_law_639 : decode code 639 = .ok (.iconst 1, 1) := by decide +kernel
theorem d_LA_law_640 : decode code 640 = .ok (.iadd, 1) := by decide +kernel
theorem d_LA_law_641 : decode code 641 = .ok (.iaload, 1) := by decide +kernel
theorem d_LA_law_642 : decode code 642 = .ok (.aload_n 0, 1) := by decide +kernel
theorem d_LA_law_643 : decode code 643 = .ok (.iload 4, 2) := by decide +kernel
theorem d_LA_law_645 : decode code 645 = .ok (.iconst 2, 1) := by decide +kernel
theorem d_LA_law_646 : decode code 646 = .ok (.iadd, 1) := by decide +kernel
theorem d_LA_law_647 : decode code 647 = .ok (.iaload, 1) := by decide +kernel
theorem d_LA_law_648 : decode code 648 = .ok (.invokevirtual 119, 3) := by decide +kernel
theorem d_LA_law_651 : decode code 651 = .ok (.istore 6, 2) := by decide +kernel
theorem d_LA_law_653 : decode code 653 = .ok (.aload_n 2, 1) := by decide +kernel
theorem d_LA_law_654 : decode code 654 = .ok (.invokevirtual 90, 3) := by decide +kernel
theorem d_LA_law_657 : decode code 657 = .ok (.iload 5, 2) := by decide +kernel
theorem d_LA_law_659 : decode code 659 = .ok (.if_icmp .eq 5, 3) := by decide +kernel
theorem d_LA_law_662 : decode code 662 = .ok (.iconst 0, 1) := by decide +kernel
theorem d_LA_law_663 : decode code 663 = .ok (.ireturn, 1) := by decide +kernel
theorem d_LA_law_664 : decode code 664 = .ok (.iload 5, 2) := by decide +kernel
theorem d_LA_law_666 : decode code 666 = .ok (.ifCond .ne 15, 3) := by decide +kernel
theorem d_LA_law_669 : decode code 669 = .ok (.aload_n 3, 1) := by decide +kernel
theorem d_LA_law_670 : decode code 670 = .ok (.iconst 0, 1) := by decide +kernel
theorem d_LA_law_671 : decode code 671 = .ok (.laload, 1) := by decide +kernel
theorem d_LA_law_672 : decode code 672 = .ok (.iload 6, 2) := by decide +kernel
theorem d_LA_law_674 : decode code 674 = .ok (.i2l, 1) := by decide +kernel
theorem d_LA_law_675 : decode code 675 = .ok (.lcmp, 1) := by decide +kernel
theorem d_LA_law_676 : decode code 676 = .ok (.ifCond .eq 5, 3) := by decide +kernel
theorem d_LA_law_679 : decode code 679 = .ok (.iconst 0, 1) := by decide +kernel
theorem d_LA_law_680 : decode code 680 = .ok (.ireturn, 1) := by decide +kernel
theorem d_LA_law_681 : decode code 681 = .ok (.goto 667, 3) := by decide +kernel
theorem d_LA_law_684 : decode code 684 = .ok (.aload_n 1, 1) := by decide +kernel
theorem d_LA_law_685 : decode code 685 = .ok (.aload_n 0, 1) := by decide +kernel
theorem d_LA_law_686 : decode code 686 = .ok (.iload 4, 2) := by decide +kernel
theorem d_LA_law_688 : decode code 688 = .ok (.iconst 1, 1) := by decide +kernel
theorem d_LA_law_689 : decode code 689 = .ok (.iadd, 1) := by decide +kernel
theorem d_LA_law_690 : decode code 690 = .ok (.iaload, 1) := by decide +kernel
theorem d_LA_law_691 : decode code 691 = .ok (.aload_n 0, 1) := by decide +kernel
theorem d_LA_law_692 : decode code 692 = .ok (.iload 4, 2) := by decide +kernel
theorem d_LA_law_694 : decode code 694 = .ok (.iconst 2, 1) := by decide +kernel
theorem d_LA_law_695 : decode code 695 = .ok (.iadd, 1) := by decide +kernel
theorem d_LA_law_696 : decode code 696 = .ok (.iaload, 1) := by decide +kernel
theorem d_LA_law_697 : decode code 697 = .ok (.invokestatic 120, 3) := by decide +kernel
theorem d_LA_law_700 : decode code 700 = .ok (.istore 5, 2) := by decide +kernel
theorem d_LA_law_702 : decode code 702 = .ok (.aload_n 2, 1) := by decide +kernel
theorem d_LA_law_703 : decode code 703 = .ok (.aload_n 0, 1) := by decide +kernel
theorem d_LA_law_704 : decode code 704 = .ok (.iload 4, 2) := by decide +kernel
theorem d_LA_law_706 : decode code 706 = .ok (.iconst 1, 1) := by decide +kernel
theorem d_LA_law_707 : decode code 707 = .ok (.iadd, 1) := by decide +kernel
theorem d_LA_law_708 : decode code 708 = .ok (.iaload, 1) := by decide +kernel
theorem d_LA_law_709 : decode code 709 = .ok (.aload_n 0, 1) := by decide +kernel
theorem d_LA_law_710 : decode code 710 = .ok (.iload 4, 2) := by decide +kernel
theorem d_LA_law_712 : decode code 712 = .ok (.iconst 2, 1) := by decide +kernel
theorem d_LA_law_713 : decode code 713 = .ok (.iadd, 1) := by decide +kernel
theorem d_LA_law_714 : decode code 714 = .ok (.iaload, 1) := by decide +kernel
theorem d_LA_law_715 : decode code 715 = .ok (.invokevirtual 122, 3) := by decide +kernel
theorem d_LA_law_718 : decode code 718 = .ok (.aload_n 2, 1) := by decide +kernel
theorem d_LA_law_719 : decode code 719 = .ok (.invokevirtual 90, 3) := by decide +kernel
theorem d_LA_law_722 : decode code 722 = .ok (.iload 5, 2) := by decide +kernel
theorem d_LA_law_724 : decode code 724 = .ok (.if_icmp .eq 5, 3) := by decide +kernel
theorem d_LA_law_727 : decode code 727 = .ok (.iconst 0, 1) := by decide +kernel
theorem d_LA_law_728 : decode code 728 = .ok (.ireturn, 1) := by decide +kernel
theorem d_LA_law_729 : decode code 729 = .ok (.goto 619, 3) := by decide +kernel
theorem d_LA_law_732 : decode code 732 = .ok (.aload_n 1, 1) := by decide +kernel
theorem d_LA_law_733 : decode code 733 = .ok (.aload_n 0, 1) := by decide +kernel
theorem d_LA_law_734 : decode code 734 = .ok (.iload 4, 2) := by decide +kernel
theorem d_LA_law_736 : decode code 736 = .ok (.iconst 1, 1) := by decide +kernel
theorem d_LA_law_737 : decode code 737 = .ok (.iadd, 1) := by decide +kernel
theorem d_LA_law_738 : decode code 738 = .ok (.iaload, 1) := by decide +kernel
theorem d_LA_law_739 : decode code 739 = .ok (.aload_n 0, 1) := by decide +kernel
theorem d_LA_law_740 : decode code 740 = .ok (.iload 4, 2) := by decide +kernel
theorem d_LA_law_742 : decode code 742 = .ok (.iconst 2, 1) := by decide +kernel
theorem d_LA_law_743 : decode code 743 = .ok (.iadd, 1) := by decide +kernel
theorem d_LA_law_744 : decode code 744 = .ok (.iaload, 1) := by decide +kernel
theorem d_LA_law_745 : decode code 745 = .ok (.ifCond .eq 7, 3) := by decide +kernel
theorem d_LA_law_748 : decode code 748 = .ok (.iconst 1, 1) := by decide +kernel
theorem d_LA_law_749 : decode code 749 = .ok (.goto 4, 3) := by decide +kernel
theorem d_LA_law_752 : decode code 752 = .ok (.iconst 0, 1) := by decide +kernel
theorem d_LA_law_753 : decode code 753 = .ok (.aload_n 3, 1) := by decide +kernel
theorem d_LA_law_754 : decode code 754 = .ok (.invokestatic 123, 3) := by decide +kernel
theorem d_LA_law_757 : decode code 757 = .ok (.istore 5, 2) := by decide +kernel
theorem d_LA_law_759 : decode code 759 = .ok (.aload_n 2, 1) := by decide +kernel
theorem d_LA_law_760 : decode code 760 = .ok (.aload_n 0, 1) := by decide +kernel
theorem d_LA_law_761 : decode code 761 = .ok (.iload 4, 2) := by decide +kernel
theorem d_LA_law_763 : decode code 763 = .ok (.iconst 1, 1) := by decide +kernel
theorem d_LA_law_764 : decode code 764 = .ok (.iadd, 1) := by decide +kernel
theorem d_LA_law_765 : decode code 765 = .ok (.iaload, 1) := by decide +kernel
theorem d_LA_law_766 : decode code 766 = .ok (.aload_n 0, 1) := by decide +kernel
theorem d_LA_law_767 : decode code 767 = .ok (.iload 4, 2) := by decide +kernel
theorem d_LA_law_769 : decode code 769 = .ok (.iconst 2, 1) := by decide +kernel
theorem d_LA_law_770 : decode code 770 = .ok (.iadd, 1) := by decide +kernel
theorem d_LA_law_771 : decode code 771 = .ok (.iaload, 1) := by decide +kernel
theorem d_LA_law_772 : decode code 772 = .ok (.ifCond .eq 7, 3) := by decide +kernel
theorem d_LA_law_775 : decode code 775 = .ok (.iconst 1, 1) := by decide +kernel
theorem d_LA_law_776 : decode code 776 = .ok (.goto 4, 3) := by decide +kernel
theorem d_LA_law_779 : decode code 779 = .ok (.iconst 0, 1) := by decide +kernel
theorem d_LA_law_780 : decode code 780 = .ok (.invokevirtual 126, 3) := by decide +kernel
theorem d_LA_law_783 : decode code 783 = .ok (.istore 6, 2) := by decide +kernel
theorem d_LA_law_785 : decode code 785 = .ok (.aload_n 2, 1) := by decide +kernel
theorem d_LA_law_786 : decode code 786 = .ok (.invokevirtual 90, 3) := by decide +kernel
theorem d_LA_law_789 : decode code 789 = .ok (.iload 5, 2) := by decide +kernel
theorem d_LA_law_791 : decode code 791 = .ok (.if_icmp .eq 5, 3) := by decide +kernel
theorem d_LA_law_794 : decode code 794 = .ok (.iconst 0, 1) := by decide +kernel
theorem d_LA_law_795 : decode code 795 = .ok (.ireturn, 1) := by decide +kernel
theorem d_LA_law_796 : decode code 796 = .ok (.iload 5, 2) := by decide +kernel
theorem d_LA_law_798 : decode code 798 = .ok (.ifCond .ne 15, 3) := by decide +kernel
theorem d_LA_law_801 : decode code 801 = .ok (.aload_n 3, 1) := by decide +kernel
theorem d_LA_law_802 : decode code 802 = .ok (.iconst 0, 1) := by decide +kernel
theorem d_LA_law_803 : decode code 803 = .ok (.laload, 1) := by decide +kernel
theorem d_LA_law_804 : decode code 804 = .ok (.iload 6, 2) := by decide +kernel
theorem d_LA_law_806 : decode code 806 = .ok (.i2l, 1) := by decide +kernel
theorem d_LA_law_807 : decode code 807 = .ok (.lcmp, 1) := by decide +kernel
theorem d_LA_law_808 : decode code 808 = .ok (.ifCond .eq 5, 3) := by decide +kernel
theorem d_LA_law_811 : decode code 811 = .ok (.iconst 0, 1) := by decide +kernel
theorem d_LA_law_812 : decode code 812 = .ok (.ireturn, 1) := by decide +kernel
theorem d_LA_law_813 : decode code 813 = .ok (.goto 535, 3) := by decide +kernel
theorem d_LA_law_816 : decode code 816 = .ok (.aload_n 1, 1) := by decide +kernel
theorem d_LA_law_817 : decode code 817 = .ok (.aload_n 0, 1) := by decide +kernel
theorem d_LA_law_818 : decode code 818 = .ok (.iload 4, 2) := by decide +kernel
theorem d_LA_law_820 : decode code 820 = .ok (.iconst 1, 1) := by decide +kernel
theorem d_LA_law_821 : decode code 821 = .ok (.iadd, 1) := by decide +kernel
theorem d_LA_law_822 : decode code 822 = .ok (.iaload, 1) := by decide +kernel
theorem d_LA_law_823 : decode code 823 = .ok (.aload_n 0, 1) := by decide +kernel
theorem d_LA_law_824 : decode code 824 = .ok (.iload 4, 2) := by decide +kernel
theorem d_LA_law_826 : decode code 826 = .ok (.iconst 2, 1) := by decide +kernel
theorem d_LA_law_827 : decode code 827 = .ok (.iadd, 1) := by decide +kernel
theorem d_LA_law_828 : decode code 828 = .ok (.iaload, 1) := by decide +kernel
theorem d_LA_law_829 : decode code 829 = .ok (.aload_n 3, 1) := by decide +kernel
theorem d_LA_law_830 : decode code 830 = .ok (.invokestatic 127, 3) := by decide +kernel
theorem d_LA_law_833 : decode code 833 = .ok (.istore 5, 2) := by decide +kernel
theorem d_LA_law_835 : decode code 835 = .ok (.aload_n 2, 1) := by decide +kernel
theorem d_LA_law_836 : decode code 836 = .ok (.aload_n 0, 1) := by decide +kernel
theorem d_LA_law_837 : decode code 837 = .ok (.iload 4, 2) := by decide +kernel
theorem d_LA_law_839 : decode code 839 = .ok (.iconst 1, 1) := by decide +kernel
theorem d_LA_law_840 : decode code 840 = .ok (.iadd, 1) := by decide +kernel
theorem d_LA_law_841 : decode code 841 = .ok (.iaload, 1) := by decide +kernel
theorem d_LA_law_842 : decode code 842 = .ok (.aload_n 0, 1) := by decide +kernel
theorem d_LA_law_843 : decode code 843 = .ok (.iload 4, 2) := by decide +kernel
theorem d_LA_law_845 : decode code 845 = .ok (.iconst 2, 1) := by decide +kernel
theorem d_LA_law_846 : decode code 846 = .ok (.iadd, 1) := by decide +kernel
theorem d_LA_law_847 : decode code 847 = .ok (.iaload, 1) := by decide +kernel
theorem d_LA_law_848 : decode code 848 = .ok (.invokevirtual 129, 3) := by decide +kernel
theorem d_LA_law_851 : decode code 851 = .ok (.istore 6, 2) := by decide +kernel
theorem d_LA_law_853 : decode code 853 = .ok (.aload_n 2, 1) := by decide +kernel
theorem d_LA_law_854 : decode code 854 = .ok (.invokevirtual 90, 3) := by decide +kernel
theorem d_LA_law_857 : decode code 857 = .ok (.iload 5, 2) := by decide +kernel
theorem d_LA_law_859 : decode code 859 = .ok (.if_icmp .eq 5, 3) := by decide +kernel
theorem d_LA_law_862 : decode code 862 = .ok (.iconst 0, 1) := by decide +kernel
theorem d_LA_law_863 : decode code 863 = .ok (.ireturn, 1) := by decide +kernel
theorem d_LA_law_864 : decode code 864 = .ok (.iload 5, 2) := by decide +kernel
theorem d_LA_law_866 : decode code 866 = .ok (.ifCond .ne 22, 3) := by decide +kernel
theorem d_LA_law_869 : decode code 869 = .ok (.aload_n 3, 1) := by decide +kernel
theorem d_LA_law_870 : decode code 870 = .ok (.iconst 0, 1) := by decide +kernel
theorem d_LA_law_871 : decode code 871 = .ok (.laload, 1) := by decide +kernel
theorem d_LA_law_872 : decode code 872 = .ok (.iload 6, 2) := by decide +kernel
theorem d_LA_law_874 : decode code 874 = .ok (.ifCond .eq 7, 3) := by decide +kernel
theorem d_LA_law_877 : decode code 877 = .ok (.lconst 1, 1) := by decide +kernel
theorem d_LA_law_878 : decode code 878 = .ok (.goto 4, 3) := by decide +kernel
theorem d_LA_law_881 : decode code 881 = .ok (.lconst 0, 1) := by decide +kernel
theorem d_LA_law_882 : decode code 882 = .ok (.lcmp, 1) := by decide +kernel
theorem d_LA_law_883 : decode code 883 = .ok (.ifCond .eq 5, 3) := by decide +kernel
theorem d_LA_law_886 : decode code 886 = .ok (.iconst 0, 1) := by decide +kernel
theorem d_LA_law_887 : decode code 887 = .ok (.ireturn, 1) := by decide +kernel
theorem d_LA_law_888 : decode code 888 = .ok (.goto 460, 3) := by decide +kernel
theorem d_LA_law_891 : decode code 891 = .ok (.aload_n 1, 1) := by decide +kernel
theorem d_LA_law_892 : decode code 892 = .ok (.aload_n 0, 1) := by decide +kernel
theorem d_LA_law_893 : decode code 893 = .ok (.iload 4, 2) := by decide +kernel
theorem d_LA_law_895 : decode code 895 = .ok (.iconst 1, 1) := by decide +kernel
theorem d_LA_law_896 : decode code 896 = .ok (.iadd, 1) := by decide +kernel
theorem d_LA_law_897 : decode code 897 = .ok (.iaload, 1) := by decide +kernel
theorem d_LA_law_898 : decode code 898 = .ok (.aload_n 3, 1) := by decide +kernel
theorem d_LA_law_899 : decode code 899 = .ok (.invokestatic 130, 3) := by decide +kernel
theorem d_LA_law_902 : decode code 902 = .ok (.istore 5, 2) := by decide +kernel
theorem d_LA_law_904 : decode code 904 = .ok (.aload_n 2, 1) := by decide +kernel
theorem d_LA_law_905 : decode code 905 = .ok (.aload_n 0, 1) := by decide +kernel
theorem d_LA_law_906 : decode code 906 = .ok (.iload 4, 2) := by decide +kernel
theorem d_LA_law_908 : decode code 908 = .ok (.iconst 1, 1) := by decide +kernel
theorem d_LA_law_909 : decode code 909 = .ok (.iadd, 1) := by decide +kernel
theorem d_LA_law_910 : decode code 910 = .ok (.iaload, 1) := by decide +kernel
theorem d_LA_law_911 : decode code 911 = .ok (.invokevirtual 133, 3) := by decide +kernel
theorem d_LA_law_914 : decode code 914 = .ok (.istore 6, 2) := by decide +kernel
theorem d_LA_law_916 : decode code 916 = .ok (.aload_n 2, 1) := by decide +kernel
theorem d_LA_law_917 : decode code 917 = .ok (.invokevirtual 90, 3) := by decide +kernel
theorem d_LA_law_920 : decode code 920 = .ok (.iload 5, 2) := by decide +kernel
theorem d_LA_law_922 : decode code 922 = .ok (.if_icmp .eq 5, 3) := by decide +kernel
theorem d_LA_law_925 : decode code 925 = .ok (.iconst 0, 1) := by decide +kernel
theorem d_LA_law_926 : decode code 926 = .ok (.ireturn, 1) := by decide +kernel
theorem d_LA_law_927 : decode code 927 = .ok (.iload 5, 2) := by decide +kernel
theorem d_LA_law_929 : decode code 929 = .ok (.ifCond .ne 15, 3) := by decide +kernel
theorem d_LA_law_932 : decode code 932 = .ok (.aload_n 3, 1) := by decide +kernel
theorem d_LA_law_933 : decode code 933 = .ok (.iconst 0, 1) := by decide +kernel
theorem d_LA_law_934 : decode code 934 = .ok (.laload, 1) := by decide +kernel
theorem d_LA_law_935 : decode code 935 = .ok (.iload 6, 2) := by decide +kernel
theorem d_LA_law_937 : decode code 937 = .ok (.i2l, 1) := by decide +kernel
theorem d_LA_law_938 : decode code 938 = .ok (.lcmp, 1) := by decide +kernel
theorem d_LA_law_939 : decode code 939 = .ok (.ifCond .eq 5, 3) := by decide +kernel
theorem d_LA_law_942 : decode code 942 = .ok (.iconst 0, 1) := by decide +kernel
theorem d_LA_law_943 : decode code 943 = .ok (.ireturn, 1) := by decide +kernel
theorem d_LA_law_944 : decode code 944 = .ok (.goto 404, 3) := by decide +kernel
theorem d_LA_law_947 : decode code 947 = .ok (.aload_n 1, 1) := by decide +kernel
theorem d_LA_law_948 : decode code 948 = .ok (.aload_n 0, 1) := by decide +kernel
theorem d_LA_law_949 : decode code 949 = .ok (.iload 4, 2) := by decide +kernel
theorem d_LA_law_951 : decode code 951 = .ok (.iconst 1, 1) := by decide +kernel
theorem d_LA_law_952 : decode code 952 = .ok (.iadd, 1) := by decide +kernel
theorem d_LA_law_953 : decode code 953 = .ok (.iaload, 1) := by decide +kernel
theorem d_LA_law_954 : decode code 954 = .ok (.aload_n 0, 1) := by decide +kernel
theorem d_LA_law_955 : decode code 955 = .ok (.iload 4, 2) := by decide +kernel
theorem d_LA_law_957 : decode code 957 = .ok (.iconst 2, 1) := by decide +kernel
theorem d_LA_law_958 : decode code 958 = .ok (.iadd, 1) := by decide +kernel
theorem d_LA_law_959 : decode code 959 = .ok (.iaload, 1) := by decide +kernel
theorem d_LA_law_960 : decode code 960 = .ok (.invokestatic 134, 3) := by decide +kernel
theorem d_LA_law_963 : decode code 963 = .ok (.istore 5, 2) := by decide +kernel
theorem d_LA_law_965 : decode code 965 = .ok (.aload_n 2, 1) := by decide +kernel
theorem d_LA_law_966 : decode code 966 = .ok (.aload_n 0, 1) := by decide +kernel
theorem d_LA_law_967 : decode code 967 = .ok (.iload 4, 2) := by decide +kernel
theorem d_LA_law_969 : decode code 969 = .ok (.iconst 1, 1) := by decide +kernel
theorem d_LA_law_970 : decode code 970 = .ok (.iadd, 1) := by decide +kernel
theorem d_LA_law_971 : decode code 971 = .ok (.iaload, 1) := by decide +kernel
theorem d_LA_law_972 : decode code 972 = .ok (.aload_n 0, 1) := by decide +kernel
theorem d_LA_law_973 : decode code 973 = .ok (.iload 4, 2) := by decide +kernel
theorem d_LA_law_975 : decode code 975 = .ok (.iconst 2, 1) := by decide +kernel
theorem d_LA_law_976 : decode code 976 = .ok (.iadd, 1) := by decide +kernel
theorem d_LA_law_977 : decode code 977 = .ok (.iaload, 1) := by decide +kernel
theorem d_LA_law_978 : decode code 978 = .ok (.invokevirtual 136, 3) := by decide +kernel
theorem d_LA_law_981 : decode code 981 = .ok (.aload_n 2, 1) := by decide +kernel
theorem d_LA_law_982 : decode code 982 = .ok (.invokevirtual 90, 3) := by decide +kernel
theorem d_LA_law_985 : decode code 985 = .ok (.iload 5, 2) := by decide +kernel
theorem d_LA_law_987 : decode code 987 = .ok (.if_icmp .eq 5, 3) := by decide +kernel
theorem d_LA_law_990 : decode code 990 = .ok (.iconst 0, 1) := by decide +kernel
theorem d_LA_law_991 : decode code 991 = .ok (.ireturn, 1) := by decide +kernel
theorem d_LA_law_992 : decode code 992 = .ok (.goto 356, 3) := by decide +kernel
theorem d_LA_law_995 : decode code 995 = .ok (.aload_n 1, 1) := by decide +kernel
theorem d_LA_law_996 : decode code 996 = .ok (.aload_n 0, 1) := by decide +kernel
theorem d_LA_law_997 : decode code 997 = .ok (.iload 4, 2) := by decide +kernel
theorem d_LA_law_999 : decode code 999 = .ok (.iconst 1, 1) := by decide +kernel
theorem d_LA_law_1000 : decode code 1000 = .ok (.iadd, 1) := by decide +kernel
theorem d_LA_law_1001 : decode code 1001 = .ok (.iaload, 1) := by decide +kernel
theorem d_LA_law_1002 : decode code 1002 = .ok (.aload_n 0, 1) := by decide +kernel
theorem d_LA_law_1003 : decode code 1003 = .ok (.iload 4, 2) := by decide +kernel
theorem d_LA_law_1005 : decode code 1005 = .ok (.iconst 2, 1) := by decide +kernel
theorem d_LA_law_1006 : decode code 1006 = .ok (.iadd, 1) := by decide +kernel
theorem d_LA_law_1007 : decode code 1007 = .ok (.iaload, 1) := by decide +kernel
theorem d_LA_law_1008 : decode code 1008 = .ok (.aload_n 3, 1) := by decide +kernel
theorem d_LA_law_1009 : decode code 1009 = .ok (.invokestatic 137, 3) := by decide +kernel
theorem d_LA_law_1012 : decode code 1012 = .ok (.istore 5, 2) := by decide +kernel
theorem d_LA_law_1014 : decode code 1014 = .ok (.aload_n 2, 1) := by decide +kernel
theorem d_LA_law_1015 : decode code 1015 = .ok (.aload_n 0, 1) := by decide +kernel
theorem d_LA_law_1016 : decode code 1016 = .ok (.iload 4, 2) := by decide +kernel
theorem d_LA_law_1018 : decode code 1018 = .ok (.iconst 1, 1) := by decide +kernel
theorem d_LA_law_1019 : decode code 1019 = .ok (.iadd, 1) := by decide +kernel
theorem d_LA_law_1020 : decode code 1020 = .ok (.iaload, 1) := by decide +kernel
theorem d_LA_law_1021 : decode code 1021 = .ok (.aload_n 0, 1) := by decide +kernel
theorem d_LA_law_1022 : decode code 1022 = .ok (.iload 4, 2) := by decide +kernel
theorem d_LA_law_1024 : decode code 1024 = .ok (.iconst 2, 1) := by decide +kernel
theorem d_LA_law_1025 : decode code 1025 = .ok (.iadd, 1) := by decide +kernel
theorem d_LA_law_1026 : decode code 1026 = .ok (.iaload, 1) := by decide +kernel
theorem d_LA_law_1027 : decode code 1027 = .ok (.invokevirtual 139, 3) := by decide +kernel
theorem d_LA_law_1030 : decode code 1030 = .ok (.istore 6, 2) := by decide +kernel
theorem d_LA_law_1032 : decode code 1032 = .ok (.aload_n 2, 1) := by decide +kernel
theorem d_LA_law_1033 : decode code 1033 = .ok (.invokevirtual 90, 3) := by decide +kernel
theorem d_LA_law_1036 : decode code 1036 = .ok (.iload 5, 2) := by decide +kernel
theorem d_LA_law_1038 : decode code 1038 = .ok (.if_icmp .eq 5, 3) := by decide +kernel
theorem d_LA_law_1041 : decode code 1041 = .ok (.iconst 0, 1) := by decide +kernel
theorem d_LA_law_1042 : decode code 1042 = .ok (.ireturn, 1) := by decide +kernel
theorem d_LA_law_1043 : decode code 1043 = .ok (.iload 5, 2) := by decide +kernel
theorem d_LA_law_1045 : decode code 1045 = .ok (.ifCond .ne 15, 3) := by decide +kernel
theorem d_LA_law_1048 : decode code 1048 = .ok (.aload_n 3, 1) := by decide +kernel
theorem d_LA_law_1049 : decode code 1049 = .ok (.iconst 0, 1) := by decide +kernel
theorem d_LA_law_1050 : decode code 1050 = .ok (.laload, 1) := by decide +kernel
theorem d_LA_law_1051 : decode code 1051 = .ok (.iload 6, 2) := by decide +kernel
theorem d_LA_law_1053 : decode code 1053 = .ok (.i2l, 1) := by decide +kernel
theorem d_LA_law_1054 : decode code 1054 = .ok (.lcmp, 1) := by decide +kernel
theorem d_LA_law_1055 : decode code 1055 = .ok (.ifCond .eq 5, 3) := by decide +kernel
theorem d_LA_law_1058 : decode code 1058 = .ok (.iconst 0, 1) := by decide +kernel
theorem d_LA_law_1059 : decode code 1059 = .ok (.ireturn, 1) := by decide +kernel
theorem d_LA_law_1060 : decode code 1060 = .ok (.goto 288, 3) := by decide +kernel
theorem d_LA_law_1063 : decode code 1063 = .ok (.aload_n 1, 1) := by decide +kernel
theorem d_LA_law_1064 : decode code 1064 = .ok (.aload_n 0, 1) := by decide +kernel
theorem d_LA_law_1065 : decode code 1065 = .ok (.iload 4, 2) := by decide +kernel
theorem d_LA_law_1067 : decode code 1067 = .ok (.iconst 1, 1) := by decide +kernel
theorem d_LA_law_1068 : decode code 1068 = .ok (.iadd, 1) := by decide +kernel
theorem d_LA_law_1069 : decode code 1069 = .ok (.iaload, 1) := by decide +kernel
theorem d_LA_law_1070 : decode code 1070 = .ok (.aload_n 3, 1) := by decide +kernel
theorem d_LA_law_1071 : decode code 1071 = .ok (.invokestatic 140, 3) := by decide +kernel
theorem d_LA_law_1074 : decode code 1074 = .ok (.istore 5, 2) := by decide +kernel
theorem d_LA_law_1076 : decode code 1076 = .ok (.aload_n 2, 1) := by decide +kernel
theorem d_LA_law_1077 : decode code 1077 = .ok (.aload_n 0, 1) := by decide +kernel
theorem d_LA_law_1078 : decode code 1078 = .ok (.iload 4, 2) := by decide +kernel
theorem d_LA_law_1080 : decode code 1080 = .ok (.iconst 1, 1) := by decide +kernel
theorem d_LA_law_1081 : decode code 1081 = .ok (.iadd, 1) := by decide +kernel
theorem d_LA_law_1082 : decode code 1082 = .ok (.iaload, 1) := by decide +kernel
theorem d_LA_law_1083 : decode code 1083 = .ok (.invokevirtual 142, 3) := by decide +kernel
theorem d_LA_law_1086 : decode code 1086 = .ok (.istore 6, 2) := by decide +kernel
theorem d_LA_law_1088 : decode code 1088 = .ok (.aload_n 2, 1) := by decide +kernel
theorem d_LA_law_1089 : decode code 1089 = .ok (.invokevirtual 90, 3) := by decide +kernel
theorem d_LA_law_1092 : decode code 1092 = .ok (.iload 5, 2) := by decide +kernel
theorem d_LA_law_1094 : decode code 1094 = .ok (.if_icmp .eq 5, 3) := by decide +kernel
theorem d_LA_law_1097 : decode code 1097 = .ok (.iconst 0, 1) := by decide +kernel
theorem d_LA_law_1098 : decode code 1098 = .ok (.ireturn, 1) := by decide +kernel
theorem d_LA_law_1099 : decode code 1099 = .ok (.iload 5, 2) := by decide +kernel
theorem d_LA_law_1101 : decode code 1101 = .ok (.ifCond .ne 15, 3) := by decide +kernel
theorem d_LA_law_1104 : decode code 1104 = .ok (.aload_n 3, 1) := by decide +kernel
theorem d_LA_law_1105 : decode code 1105 = .ok (.iconst 0, 1) := by decide +kernel
theorem d_LA_law_1106 : decode code 1106 = .ok (.laload, 1) := by decide +kernel
theorem d_LA_law_1107 : decode code 1107 = .ok (.iload 6, 2) := by decide +kernel
theorem d_LA_law_1109 : decode code 1109 = .ok (.i2l, 1) := by decide +kernel
theorem d_LA_law_1110 : decode code 1110 = .ok (.lcmp, 1) := by decide +kernel
theorem d_LA_law_1111 : decode code 1111 = .ok (.ifCond .eq 5, 3) := by decide +kernel
theorem d_LA_law_1114 : decode code 1114 = .ok (.iconst 0, 1) := by decide +kernel
theorem d_LA_law_1115 : decode code 1115 = .ok (.ireturn, 1) := by decide +kernel
theorem d_LA_law_1116 : decode code 1116 = .ok (.goto 232, 3) := by decide +kernel
theorem d_LA_law_1119 : decode code 1119 = .ok (.aload_n 1, 1) := by decide +kernel
theorem d_LA_law_1120 : decode code 1120 = .ok (.aload_n 0, 1) := by decide +kernel
theorem d_LA_law_1121 : decode code 1121 = .ok (.iload 4, 2) := by decide +kernel
theorem d_LA_law_1123 : decode code 1123 = .ok (.iconst 1, 1) := by decide +kernel
theorem d_LA_law_1124 : decode code 1124 = .ok (.iadd, 1) := by decide +kernel
theorem d_LA_law_1125 : decode code 1125 = .ok (.iaload, 1) := by decide +kernel
theorem d_LA_law_1126 : decode code 1126 = .ok (.aload_n 0, 1) := by decide +kernel
theorem d_LA_law_1127 : decode code 1127 = .ok (.iload 4, 2) := by decide +kernel
theorem d_LA_law_1129 : decode code 1129 = .ok (.iconst 2, 1) := by decide +kernel
theorem d_LA_law_1130 : decode code 1130 = .ok (.iadd, 1) := by decide +kernel
theorem d_LA_law_1131 : decode code 1131 = .ok (.iaload, 1) := by decide +kernel
theorem d_LA_law_1132 : decode code 1132 = .ok (.aload_n 3, 1) := by decide +kernel
theorem d_LA_law_1133 : decode code 1133 = .ok (.invokestatic 143, 3) := by decide +kernel
theorem d_LA_law_1136 : decode code 1136 = .ok (.istore 5, 2) := by decide +kernel
theorem d_LA_law_1138 : decode code 1138 = .ok (.aload_n 2, 1) := by decide +kernel
theorem d_LA_law_1139 : decode code 1139 = .ok (.aload_n 0, 1) := by decide +kernel
theorem d_LA_law_1140 : decode code 1140 = .ok (.iload 4, 2) := by decide +kernel
theorem d_LA_law_1142 : decode code 1142 = .ok (.iconst 1, 1) := by decide +kernel
theorem d_LA_law_1143 : decode code 1143 = .ok (.iadd, 1) := by decide +kernel
theorem d_LA_law_1144 : decode code 1144 = .ok (.iaload, 1) := by decide +kernel
theorem d_LA_law_1145 : decode code 1145 = .ok (.aload_n 0, 1) := by decide +kernel
theorem d_LA_law_1146 : decode code 1146 = .ok (.iload 4, 2) := by decide +kernel
theorem d_LA_law_1148 : decode code 1148 = .ok (.iconst 2, 1) := by decide +kernel
theorem d_LA_law_1149 : decode code 1149 = .ok (.iadd, 1) := by decide +kernel
theorem d_LA_law_1150 : decode code 1150 = .ok (.iaload, 1) := by decide +kernel
theorem d_LA_law_1151 : decode code 1151 = .ok (.invokevirtual 145, 3) := by decide +kernel
theorem d_LA_law_1154 : decode code 1154 = .ok (.istore 6, 2) := by decide +kernel
theorem d_LA_law_1156 : decode code 1156 = .ok (.aload_n 2, 1) := by decide +kernel
theorem d_LA_law_1157 : decode code 1157 = .ok (.invokevirtual 90, 3) := by decide +kernel
theorem d_LA_law_1160 : decode code 1160 = .ok (.iload 5, 2) := by decide +kernel
theorem d_LA_law_1162 : decode code 1162 = .ok (.if_icmp .eq 5, 3) := by decide +kernel
theorem d_LA_law_1165 : decode code 1165 = .ok (.iconst 0, 1) := by decide +kernel
theorem d_LA_law_1166 : decode code 1166 = .ok (.ireturn, 1) := by decide +kernel
theorem d_LA_law_1167 : decode code 1167 = .ok (.iload 5, 2) := by decide +kernel
theorem d_LA_law_1169 : decode code 1169 = .ok (.ifCond .ne 15, 3) := by decide +kernel
theorem d_LA_law_1172 : decode code 1172 = .ok (.aload_n 3, 1) := by decide +kernel
theorem d_LA_law_1173 : decode code 1173 = .ok (.iconst 0, 1) := by decide +kernel
theorem d_LA_law_1174 : decode code 1174 = .ok (.laload, 1) := by decide +kernel
theorem d_LA_law_1175 : decode code 1175 = .ok (.iload 6, 2) := by decide +kernel
theorem d_LA_law_1177 : decode code 1177 = .ok (.i2l, 1) := by decide +kernel
theorem d_LA_law_1178 : decode code 1178 = .ok (.lcmp, 1) := by decide +kernel
theorem d_LA_law_1179 : decode code 1179 = .ok (.ifCond .eq 5, 3) := by decide +kernel
theorem d_LA_law_1182 : decode code 1182 = .ok (.iconst 0, 1) := by decide +kernel
theorem d_LA_law_1183 : decode code 1183 = .ok (.ireturn, 1) := by decide +kernel
theorem d_LA_law_1184 : decode code 1184 = .ok (.goto 164, 3) := by decide +kernel
theorem d_LA_law_1187 : decode code 1187 = .ok (.aload_n 1, 1) := by decide +kernel
theorem d_LA_law_1188 : decode code 1188 = .ok (.aload_n 0, 1) := by decide +kernel
theorem d_LA_law_1189 : decode code 1189 = .ok (.iload 4, 2) := by decide +kernel
theorem d_LA_law_1191 : decode code 1191 = .ok (.iconst 1, 1) := by decide +kernel
theorem d_LA_law_1192 : decode code 1192 = .ok (.iadd, 1) := by decide +kernel
theorem d_LA_law_1193 : decode code 1193 = .ok (.iaload, 1) := by decide +kernel
theorem d_LA_law_1194 : decode code 1194 = .ok (.aload_n 0, 1) := by decide +kernel
theorem d_LA_law_1195 : decode code 1195 = .ok (.iload 4, 2) := by decide +kernel
theorem d_LA_law_1197 : decode code 1197 = .ok (.iconst 2, 1) := by decide +kernel
theorem d_LA_law_1198 : decode code 1198 = .ok (.iadd, 1) := by decide +kernel
theorem d_LA_law_1199 : decode code 1199 = .ok (.iaload, 1) := by decide +kernel
theorem d_LA_law_1200 : decode code 1200 = .ok (.aload_n 3, 1) := by decide +kernel
theorem d_LA_law_1201 : decode code 1201 = .ok (.invokestatic 146, 3) := by decide +kernel
theorem d_LA_law_1204 : decode code 1204 = .ok (.istore 5, 2) := by decide +kernel
theorem d_LA_law_1206 : decode code 1206 = .ok (.aload_n 2, 1) := by decide +kernel
theorem d_LA_law_1207 : decode code 1207 = .ok (.aload_n 0, 1) := by decide +kernel
theorem d_LA_law_1208 : decode code 1208 = .ok (.iload 4, 2) := by decide +kernel
theorem d_LA_law_1210 : decode code 1210 = .ok (.iconst 1, 1) := by decide +kernel
theorem d_LA_law_1211 : decode code 1211 = .ok (.iadd, 1) := by decide +kernel
theorem d_LA_law_1212 : decode code 1212 = .ok (.iaload, 1) := by decide +kernel
theorem d_LA_law_1213 : decode code 1213 = .ok (.aload_n 0, 1) := by decide +kernel
theorem d_LA_law_1214 : decode code 1214 = .ok (.iload 4, 2) := by decide +kernel
theorem d_LA_law_1216 : decode code 1216 = .ok (.iconst 2, 1) := by decide +kernel
theorem d_LA_law_1217 : decode code 1217 = .ok (.iadd, 1) := by decide +kernel
theorem d_LA_law_1218 : decode code 1218 = .ok (.iaload, 1) := by decide +kernel
theorem d_LA_law_1219 : decode code 1219 = .ok (.invokevirtual 148, 3) := by decide +kernel
theorem d_LA_law_1222 : decode code 1222 = .ok (.istore 6, 2) := by decide +kernel
theorem d_LA_law_1224 : decode code 1224 = .ok (.aload_n 2, 1) := by decide +kernel
theorem d_LA_law_1225 : decode code 1225 = .ok (.invokevirtual 90, 3) := by decide +kernel
theorem d_LA_law_1228 : decode code 1228 = .ok (.iload 5, 2) := by decide +kernel
theorem d_LA_law_1230 : decode code 1230 = .ok (.if_icmp .eq 5, 3) := by decide +kernel
theorem d_LA_law_1233 : decode code 1233 = .ok (.iconst 0, 1) := by decide +kernel
theorem d_LA_law_1234 : decode code 1234 = .ok (.ireturn, 1) := by decide +kernel
theorem d_LA_law_1235 : decode code 1235 = .ok (.iload 5, 2) := by decide +kernel
theorem d_LA_law_1237 : decode code 1237 = .ok (.ifCond .ne 15, 3) := by decide +kernel
theorem d_LA_law_1240 : decode code 1240 = .ok (.aload_n 3, 1) := by decide +kernel
theorem d_LA_law_1241 : decode code 1241 = .ok (.iconst 0, 1) := by decide +kernel
theorem d_LA_law_1242 : decode code 1242 = .ok (.laload, 1) := by decide +kernel
theorem d_LA_law_1243 : decode code 1243 = .ok (.iload 6, 2) := by decide +kernel
theorem d_LA_law_1245 : decode code 1245 = .ok (.i2l, 1) := by decide +kernel
theorem d_LA_law_1246 : decode code 1246 = .ok (.lcmp, 1) := by decide +kernel
theorem d_LA_law_1247 : decode code 1247 = .ok (.ifCond .eq 5, 3) := by decide +kernel
theorem d_LA_law_1250 : decode code 1250 = .ok (.iconst 0, 1) := by decide +kernel
theorem d_LA_law_1251 : decode code 1251 = .ok (.ireturn, 1) := by decide +kernel
theorem d_LA_law_1252 : decode code 1252 = .ok (.goto 96, 3) := by decide +kernel
theorem d_LA_law_1255 : decode code 1255 = .ok (.aload_n 1, 1) := by decide +kernel
theorem d_LA_law_1256 : decode code 1256 = .ok (.aload_n 0, 1) := by decide +kernel
theorem d_LA_law_1257 : decode code 1257 = .ok (.iload 4, 2) := by decide +kernel
theorem d_LA_law_1259 : decode code 1259 = .ok (.iconst 1, 1) := by decide +kernel
theorem d_LA_law_1260 : decode code 1260 = .ok (.iadd, 1) := by decide +kernel
theorem d_LA_law_1261 : decode code 1261 = .ok (.iaload, 1) := by decide +kernel
theorem d_LA_law_1262 : decode code 1262 = .ok (.aload_n 0, 1) := by decide +kernel
theorem d_LA_law_1263 : decode code 1263 = .ok (.iload 4, 2) := by decide +kernel
theorem d_LA_law_1265 : decode code 1265 = .ok (.iconst 2, 1) := by decide +kernel
theorem d_LA_law_1266 : decode code 1266 = .ok (.iadd, 1) := by decide +kernel
theorem d_LA_law_1267 : decode code 1267 = .ok (.iaload, 1) := by decide +kernel
theorem d_LA_law_1268 : decode code 1268 = .ok (.aload_n 3, 1) := by decide +kernel
theorem d_LA_law_1269 : decode code 1269 = .ok (.invokestatic 149, 3) := by decide +kernel
theorem d_LA_law_1272 : decode code 1272 = .ok (.istore 5, 2) := by decide +kernel
theorem d_LA_law_1274 : decode code 1274 = .ok (.aload_n 2, 1) := by decide +kernel
theorem d_LA_law_1275 : decode code 1275 = .ok (.aload_n 0, 1) := by decide +kernel
theorem d_LA_law_1276 : decode code 1276 = .ok (.iload 4, 2) := by decide +kernel
theorem d_LA_law_1278 : decode code 1278 = .ok (.iconst 1, 1) := by decide +kernel
theorem d_LA_law_1279 : decode code 1279 = .ok (.iadd, 1) := by decide +kernel
theorem d_LA_law_1280 : decode code 1280 = .ok (.iaload, 1) := by decide +kernel
theorem d_LA_law_1281 : decode code 1281 = .ok (.aload_n 0, 1) := by decide +kernel
theorem d_LA_law_1282 : decode code 1282 = .ok (.iload 4, 2) := by decide +kernel
theorem d_LA_law_1284 : decode code 1284 = .ok (.iconst 2, 1) := by decide +kernel
theorem d_LA_law_1285 : decode code 1285 = .ok (.iadd, 1) := by decide +kernel
theorem d_LA_law_1286 : decode code 1286 = .ok (.iaload, 1) := by decide +kernel
theorem d_LA_law_1287 : decode code 1287 = .ok (.invokevirtual 151, 3) := by decide +kernel
theorem d_LA_law_1290 : decode code 1290 = .ok (.istore 6, 2) := by decide +kernel
theorem d_LA_law_1292 : decode code 1292 = .ok (.aload_n 2, 1) := by decide +kernel
theorem d_LA_law_1293 : decode code 1293 = .ok (.invokevirtual 90, 3) := by decide +kernel
theorem d_LA_law_1296 : decode code 1296 = .ok (.iload 5, 2) := by decide +kernel
theorem d_LA_law_1298 : decode code 1298 = .ok (.if_icmp .eq 5, 3) := by decide +kernel
theorem d_LA_law_1301 : decode code 1301 = .ok (.iconst 0, 1) := by decide +kernel
theorem d_LA_law_1302 : decode code 1302 = .ok (.ireturn, 1) := by decide +kernel
theorem d_LA_law_1303 : decode code 1303 = .ok (.iload 5, 2) := by decide +kernel
theorem d_LA_law_1305 : decode code 1305 = .ok (.ifCond .ne 15, 3) := by decide +kernel
theorem d_LA_law_1308 : decode code 1308 = .ok (.aload_n 3, 1) := by decide +kernel
theorem d_LA_law_1309 : decode code 1309 = .ok (.iconst 0, 1) := by decide +kernel
theorem d_LA_law_1310 : decode code 1310 = .ok (.laload, 1) := by decide +kernel
theorem d_LA_law_1311 : decode code 1311 = .ok (.iload 6, 2) := by decide +kernel
theorem d_LA_law_1313 : decode code 1313 = .ok (.i2l, 1) := by decide +kernel
theorem d_LA_law_1314 : decode code 1314 = .ok (.lcmp, 1) := by decide +kernel
theorem d_LA_law_1315 : decode code 1315 = .ok (.ifCond .eq 5, 3) := by decide +kernel
theorem d_LA_law_1318 : decode code 1318 = .ok (.iconst 0, 1) := by decide +kernel
theorem d_LA_law_1319 : decode code 1319 = .ok (.ireturn, 1) := by decide +kernel
theorem d_LA_law_1320 : decode code 1320 = .ok (.goto 28, 3) := by decide +kernel
theorem d_LA_law_1323 : decode code 1323 = .ok (.aload_n 1, 1) := by decide +kernel
theorem d_LA_law_1324 : decode code 1324 = .ok (.aload_n 0, 1) := by decide +kernel
theorem d_LA_law_1325 : decode code 1325 = .ok (.iload 4, 2) := by decide +kernel
theorem d_LA_law_1327 : decode code 1327 = .ok (.iconst 1, 1) := by decide +kernel
theorem d_LA_law_1328 : decode code 1328 = .ok (.iadd, 1) := by decide +kernel
theorem d_LA_law_1329 : decode code 1329 = .ok (.iaload, 1) := by decide +kernel
theorem d_LA_law_1330 : decode code 1330 = .ok (.invokevirtual 152, 3) := by decide +kernel
theorem d_LA_law_1333 : decode code 1333 = .ok (.aload_n 2, 1) := by decide +kernel
theorem d_LA_law_1334 : decode code 1334 = .ok (.aload_n 0, 1) := by decide +kernel
theorem d_LA_law_1335 : decode code 1335 = .ok (.iload 4, 2) := by decide +kernel
theorem d_LA_law_1337 : decode code 1337 = .ok (.iconst 1, 1) := by decide +kernel
theorem d_LA_law_1338 : decode code 1338 = .ok (.iadd, 1) := by decide +kernel
theorem d_LA_law_1339 : decode code 1339 = .ok (.iaload, 1) := by decide +kernel
theorem d_LA_law_1340 : decode code 1340 = .ok (.invokevirtual 155, 3) := by decide +kernel
theorem d_LA_law_1343 : decode code 1343 = .ok (.if_icmp .eq 5, 3) := by decide +kernel
theorem d_LA_law_1346 : decode code 1346 = .ok (.iconst 0, 1) := by decide +kernel
theorem d_LA_law_1347 : decode code 1347 = .ok (.ireturn, 1) := by decide +kernel
theorem d_LA_law_1348 : decode code 1348 = .ok (.iinc 4 4, 3) := by decide +kernel
theorem d_LA_law_1351 : decode code 1351 = .ok (.goto (-1328), 3) := by decide +kernel
theorem d_LA_law_1354 : decode code 1354 = .ok (.iconst 1, 1) := by decide +kernel
theorem d_LA_law_1355 : decode code 1355 = .ok (.ireturn, 1) := by decide +kernel
theorem d_LA_missing_0 : decode b_LA_missing 0 = .ok (.aload_n 0, 1) := by decide +kernel
theorem d_LA_missing_1 : decode b_LA_missing 1 = .ok (.iload_n 1, 1) := by decide +kernel
theorem d_LA_missing_2 : decode b_LA_missing 2 = .ok (.iload_n 2, 1) := by decide +kernel
theorem d_LA_missing_3 : decode b_LA_missing 3 = .ok (.invokevirtual 62, 3) := by decide +kernel
theorem d_LA_missing_6 : decode b_LA_missing 6 = .ok (.goto 12, 3) := by decide +kernel
theorem d_LA_missing_9 : decode b_LA_missing 9 = .ok (.astore_n 3, 1) := by decide +kernel
theorem d_LA_missing_10 : decode b_LA_missing 10 = .ok (.iconst 1, 1) := by decide +kernel
theorem d_LA_missing_11 : decode b_LA_missing 11 = .ok (.ireturn, 1) := by decide +kernel
theorem d_LA_missing_12 : decode b_LA_missing 12 = .ok (.astore_n 3, 1) := by decide +kernel
theorem d_LA_missing_13 : decode b_LA_missing 13 = .ok (.iconst 2, 1) := by decide +kernel
theorem d_LA_missing_14 : decode b_LA_missing 14 = .ok (.ireturn, 1) := by decide +kernel
theorem d_LA_missing_15 : decode b_LA_missing 15 = .ok (.astore_n 3, 1) := by decide +kernel
theorem d_LA_missing_16 : decode b_LA_missing 16 = .ok (.iconst 3, 1) := by decide +kernel
theorem d_LA_missing_17 : decode b_LA_missing 17 = .ok (.ireturn, 1) := by decide +kernel
theorem d_LA_missing_18 : decode b_LA_missing 18 = .ok (.iconst 0, 1) := by decide +kernel
theorem d_LA_missing_19 : decode b_LA_missing 19 = .ok (.ireturn, 1) := by decide +kernel
theorem d_LA_quarantine_0 : decode b_LA_quarantine 0 = .ok (.aload_n 0, 1) := by decide +kernel
theorem d_LA_quarantine_1 : decode b_LA_quarantine 1 = .ok (.iload_n 1, 1) := by decide +kernel
theorem d_LA_quarantine_2 : decode b_LA_quarantine 2 = .ok (.iload_n 2, 1) := by decide +kernel
theorem d_LA_quarantine_3 : decode b_LA_quarantine 3 = .ok (.invokevirtual 37, 3) := by decide +kernel
theorem d_LA_quarantine_6 : decode b_LA_quarantine 6 = .ok (.goto 9, 3) := by decide +kernel
theorem d_LA_quarantine_9 : decode b_LA_quarantine 9 = .ok (.astore_n 3, 1) := by decide +kernel
theorem d_LA_quarantine_10 : decode b_LA_quarantine 10 = .ok (.iconst 1, 1) := by decide +kernel
theorem d_LA_quarantine_11 : decode b_LA_quarantine 11 = .ok (.ireturn, 1) := by decide +kernel
theorem d_LA_quarantine_12 : decode b_LA_quarantine 12 = .ok (.astore_n 3, 1) := by decide +kernel
theorem d_LA_quarantine_13 : decode b_LA_quarantine 13 = .ok (.iconst 2, 1) := by decide +kernel
theorem d_LA_quarantine_14 : decode b_LA_quarantine 14 = .ok (.ireturn, 1) := by decide +kernel
theorem d_LA_quarantine_15 : decode b_LA_quarantine 15 = .ok (.iconst 0, 1) := by decide +kernel
theorem d_LA_quarantine_16 : decode b_LA_quarantine 16 = .ok (.ireturn, 1) := by decide +kernel
theorem d_LA_reason_0 : decode b_LA_reason 0 = .ok (.aload_n 3, 1) := by decide +kernel
theorem d_LA_reason_1 : decode b_LA_reason 1 = .ok (.iconst 0, 1) := by decide +kernel
theorem d_LA_reason_2 : decode b_LA_reason 2 = .ok (.aload_n 0, 1) := by decide +kernel
theorem d_LA_reason_3 : decode b_LA_reason 3 = .ok (.iload_n 1, 1) := by decide +kernel
theorem d_LA_reason_4 : decode b_LA_reason 4 = .ok (.iload_n 2, 1) := by decide +kernel
theorem d_LA_reason_5 : decode b_LA_reason 5 = .ok (.invokevirtual 71, 3) := by decide +kernel
theorem d_LA_reason_8 : decode b_LA_reason 8 = .ok (.i2l, 1) := by decide +kernel
theorem d_LA_reason_9 : decode b_LA_reason 9 = .ok (.lastore, 1) := by decide +kernel
theorem d_LA_reason_10 : decode b_LA_reason 10 = .ok (.goto 7, 3) := by decide +kernel
theorem d_LA_reason_13 : decode b_LA_reason 13 = .ok (.astore 4, 2) := by decide +kernel
theorem d_LA_reason_15 : decode b_LA_reason 15 = .ok (.iconst 1, 1) := by decide +kernel
theorem d_LA_reason_16 : decode b_LA_reason 16 = .ok (.ireturn, 1) := by decide +kernel
theorem d_LA_reason_17 : decode b_LA_reason 17 = .ok (.iconst 0, 1) := by decide +kernel
theorem d_LA_reason_18 : decode b_LA_reason 18 = .ok (.ireturn, 1) := by decide +kernel
theorem d_LA_refund_0 : decode b_LA_refund 0 = .ok (.aload_n 3, 1) := by decide +kernel
theorem d_LA_refund_1 : decode b_LA_refund 1 = .ok (.iconst 0, 1) := by decide +kernel
theorem d_LA_refund_2 : decode b_LA_refund 2 = .ok (.aload_n 0, 1) := by decide +kernel
theorem d_LA_refund_3 : decode b_LA_refund 3 = .ok (.iload_n 1, 1) := by decide +kernel
theorem d_LA_refund_4 : decode b_LA_refund 4 = .ok (.iload_n 2, 1) := by decide +kernel
theorem d_LA_refund_5 : decode b_LA_refund 5 = .ok (.invokevirtual 65, 3) := by decide +kernel
theorem d_LA_refund_8 : decode b_LA_refund 8 = .ok (.i2l, 1) := by decide +kernel
theorem d_LA_refund_9 : decode b_LA_refund 9 = .ok (.lastore, 1) := by decide +kernel
theorem d_LA_refund_10 : decode b_LA_refund 10 = .ok (.goto 15, 3) := by decide +kernel
theorem d_LA_refund_13 : decode b_LA_refund 13 = .ok (.astore 4, 2) := by decide +kernel
theorem d_LA_refund_15 : decode b_LA_refund 15 = .ok (.iconst 1, 1) := by decide +kernel
theorem d_LA_refund_16 : decode b_LA_refund 16 = .ok (.ireturn, 1) := by decide +kernel
theorem d_LA_refund_17 : decode b_LA_refund 17 = .ok (.astore 4, 2) := by decide +kernel
theorem d_LA_refund_19 : decode b_LA_refund 19 = .ok (.iconst 2, 1) := by decide +kernel
theorem d_LA_refund_20 : decode b_LA_refund 20 = .ok (.ireturn, 1) := by decide +kernel
theorem d_LA_refund_21 : decode b_LA_refund 21 = .ok (.astore 4, 2) := by decide +kernel
theorem d_LA_refund_23 : decode b_LA_refund 23 = .ok (.iconst 3, 1) := by decide +kernel
theorem d_LA_refund_24 : decode b_LA_refund 24 = .ok (.ireturn, 1) := by decide +kernel
theorem d_LA_refund_25 : decode b_LA_refund 25 = .ok (.iconst 0, 1) := by decide +kernel
theorem d_LA_refund_26 : decode b_LA_refund 26 = .ok (.ireturn, 1) := by decide +kernel
theorem d_LA_repair_0 : decode b_LA_repair 0 = .ok (.aload_n 0, 1) := by decide +kernel
theorem d_LA_repair_1 : decode b_LA_repair 1 = .ok (.iload_n 1, 1) := by decide +kernel
theorem d_LA_repair_2 : decode b_LA_repair 2 = .ok (.iload_n 2, 1) := by decide +kernel
theorem d_LA_repair_3 : decode b_LA_repair 3 = .ok (.invokevirtual 47, 3) := by decide +kernel
theorem d_LA_repair_6 : decode b_LA_repair 6 = .ok (.goto 12, 3) := by decide +kernel
theorem d_LA_repair_9 : decode b_LA_repair 9 = .ok (.astore_n 3, 1) := by decide +kernel
theorem d_LA_repair_10 : decode b_LA_repair 10 = .ok (.iconst 1, 1) := by decide +kernel
theorem d_LA_repair_11 : decode b_LA_repair 11 = .ok (.ireturn, 1) := by decide +kernel
theorem d_LA_repair_12 : decode b_LA_repair 12 = .ok (.astore_n 3, 1) := by decide +kernel
theorem d_LA_repair_13 : decode b_LA_repair 13 = .ok (.iconst 2, 1) := by decide +kernel
theorem d_LA_repair_14 : decode b_LA_repair 14 = .ok (.ireturn, 1) := by decide +kernel
theorem d_LA_repair_15 : decode b_LA_repair 15 = .ok (.astore_n 3, 1) := by decide +kernel
theorem d_LA_repair_16 : decode b_LA_repair 16 = .ok (.iconst 3, 1) := by decide +kernel
theorem d_LA_repair_17 : decode b_LA_repair 17 = .ok (.ireturn, 1) := by decide +kernel
theorem d_LA_repair_18 : decode b_LA_repair 18 = .ok (.iconst 0, 1) := by decide +kernel
theorem d_LA_repair_19 : decode b_LA_repair 19 = .ok (.ireturn, 1) := by decide +kernel
theorem d_LA_sale_0 : decode b_LA_sale 0 = .ok (.aload 4, 2) := by decide +kernel
theorem d_LA_sale_2 : decode b_LA_sale 2 = .ok (.iconst 0, 1) := by decide +kernel
theorem d_LA_sale_3 : decode b_LA_sale 3 = .ok (.aload_n 0, 1) := by decide +kernel
theorem d_LA_sale_4 : decode b_LA_sale 4 = .ok (.iload_n 1, 1) := by decide +kernel
theorem d_LA_sale_5 : decode b_LA_sale 5 = .ok (.iload_n 2, 1) := by decide +kernel
theorem d_LA_sale_6 : decode b_LA_sale 6 = .ok (.iload_n 3, 1) := by decide +kernel
theorem d_LA_sale_7 : decode b_LA_sale 7 = .ok (.invokevirtual 15, 3) := by decide +kernel
theorem d_LA_sale_10 : decode b_LA_sale 10 = .ok (.i2l, 1) := by decide +kernel
theorem d_LA_sale_11 : decode b_LA_sale 11 = .ok (.lastore, 1) := by decide +kernel
theorem d_LA_sale_12 : decode b_LA_sale 12 = .ok (.goto 11, 3) := by decide +kernel
theorem d_LA_sale_15 : decode b_LA_sale 15 = .ok (.astore 5, 2) := by decide +kernel
theorem d_LA_sale_17 : decode b_LA_sale 17 = .ok (.iconst 1, 1) := by decide +kernel
theorem d_LA_sale_18 : decode b_LA_sale 18 = .ok (.ireturn, 1) := by decide +kernel
theorem d_LA_sale_19 : decode b_LA_sale 19 = .ok (.astore 5, 2) := by decide +kernel
theorem d_LA_sale_21 : decode b_LA_sale 21 = .ok (.iconst 2, 1) := by decide +kernel
theorem d_LA_sale_22 : decode b_LA_sale 22 = .ok (.ireturn, 1) := by decide +kernel
theorem d_LA_sale_23 : decode b_LA_sale 23 = .ok (.iconst 0, 1) := by decide +kernel
theorem d_LA_sale_24 : decode b_LA_sale 24 = .ok (.ireturn, 1) := by decide +kernel
theorem d_LA_scrap_0 : decode b_LA_scrap 0 = .ok (.aload_n 3, 1) := by decide +kernel
theorem d_LA_scrap_1 : decode b_LA_scrap 1 = .ok (.iconst 0, 1) := by decide +kernel
theorem d_LA_scrap_2 : decode b_LA_scrap 2 = .ok (.aload_n 0, 1) := by decide +kernel
theorem d_LA_scrap_3 : decode b_LA_scrap 3 = .ok (.iload_n 1, 1) := by decide +kernel
theorem d_LA_scrap_4 : decode b_LA_scrap 4 = .ok (.iload_n 2, 1) := by decide +kernel
theorem d_LA_scrap_5 : decode b_LA_scrap 5 = .ok (.invokevirtual 54, 3) := by decide +kernel
theorem d_LA_scrap_8 : decode b_LA_scrap 8 = .ok (.ifCond .eq 7, 3) := by decide +kernel
theorem d_LA_scrap_11 : decode b_LA_scrap 11 = .ok (.lconst 1, 1) := by decide +kernel
theorem d_LA_scrap_12 : decode b_LA_scrap 12 = .ok (.goto 4, 3) := by decide +kernel
theorem d_LA_scrap_15 : decode b_LA_scrap 15 = .ok (.lconst 0, 1) := by decide +kernel
theorem d_LA_scrap_16 : decode b_LA_scrap 16 = .ok (.lastore, 1) := by decide +kernel
theorem d_LA_scrap_17 : decode b_LA_scrap 17 = .ok (.goto 15, 3) := by decide +kernel
theorem d_LA_scrap_20 : decode b_LA_scrap 20 = .ok (.astore 4, 2) := by decide +kernel
theorem d_LA_scrap_22 : decode b_LA_scrap 22 = .ok (.iconst 1, 1) := by decide +kernel
theorem d_LA_scrap_23 : decode b_LA_scrap 23 = .ok (.ireturn, 1) := by decide +kernel
theorem d_LA_scrap_24 : decode b_LA_scrap 24 = .ok (.astore 4, 2) := by decide +kernel
theorem d_LA_scrap_26 : decode b_LA_scrap 26 = .ok (.iconst 2, 1) := by decide +kernel
theorem d_LA_scrap_27 : decode b_LA_scrap 27 = .ok (.ireturn, 1) := by decide +kernel
theorem d_LA_scrap_28 : decode b_LA_scrap 28 = .ok (.astore 4, 2) := by decide +kernel
theorem d_LA_scrap_30 : decode b_LA_scrap 30 = .ok (.iconst 3, 1) := by decide +kernel
theorem d_LA_scrap_31 : decode b_LA_scrap 31 = .ok (.ireturn, 1) := by decide +kernel
theorem d_LA_scrap_32 : decode b_LA_scrap 32 = .ok (.iconst 0, 1) := by decide +kernel
theorem d_LA_scrap_33 : decode b_LA_scrap 33 = .ok (.ireturn, 1) := by decide +kernel
theorem d_LA_serial_0 : decode b_LA_serial 0 = .ok (.aload_n 3, 1) := by decide +kernel
theorem d_LA_serial_1 : decode b_LA_serial 1 = .ok (.iconst 0, 1) := by decide +kernel
theorem d_LA_serial_2 : decode b_LA_serial 2 = .ok (.aload_n 0, 1) := by decide +kernel
theorem d_LA_serial_3 : decode b_LA_serial 3 = .ok (.iload_n 1, 1) := by decide +kernel
theorem d_LA_serial_4 : decode b_LA_serial 4 = .ok (.iload_n 2, 1) := by decide +kernel
theorem d_LA_serial_5 : decode b_LA_serial 5 = .ok (.invokevirtual 33, 3) := by decide +kernel
theorem d_LA_serial_8 : decode b_LA_serial 8 = .ok (.i2l, 1) := by decide +kernel
theorem d_LA_serial_9 : decode b_LA_serial 9 = .ok (.lastore, 1) := by decide +kernel
theorem d_LA_serial_10 : decode b_LA_serial 10 = .ok (.goto 11, 3) := by decide +kernel
theorem d_LA_serial_13 : decode b_LA_serial 13 = .ok (.astore 4, 2) := by decide +kernel
theorem d_LA_serial_15 : decode b_LA_serial 15 = .ok (.iconst 1, 1) := by decide +kernel
theorem d_LA_serial_16 : decode b_LA_serial 16 = .ok (.ireturn, 1) := by decide +kernel
theorem d_LA_serial_17 : decode b_LA_serial 17 = .ok (.astore 4, 2) := by decide +kernel
theorem d_LA_serial_19 : decode b_LA_serial 19 = .ok (.iconst 2, 1) := by decide +kernel
theorem d_LA_serial_20 : decode b_LA_serial 20 = .ok (.ireturn, 1) := by decide +kernel
theorem d_LA_serial_21 : decode b_LA_serial 21 = .ok (.iconst 0, 1) := by decide +kernel
theorem d_LA_serial_22 : decode b_LA_serial 22 = .ok (.ireturn, 1) := by decide +kernel
theorem d_LA_step_0 : decode b_LA_step 0 = .ok (.aload_n 3, 1) := by decide +kernel
theorem d_LA_step_1 : decode b_LA_step 1 = .ok (.iconst 0, 1) := by decide +kernel
theorem d_LA_step_2 : decode b_LA_step 2 = .ok (.aload_n 0, 1) := by decide +kernel
theorem d_LA_step_3 : decode b_LA_step 3 = .ok (.iload_n 1, 1) := by decide +kernel
theorem d_LA_step_4 : decode b_LA_step 4 = .ok (.iload_n 2, 1) := by decide +kernel
theorem d_LA_step_5 : decode b_LA_step 5 = .ok (.invokevirtual 50, 3) := by decide +kernel
theorem d_LA_step_8 : decode b_LA_step 8 = .ok (.i2l, 1) := by decide +kernel
theorem d_LA_step_9 : decode b_LA_step 9 = .ok (.lastore, 1) := by decide +kernel
theorem d_LA_step_10 : decode b_LA_step 10 = .ok (.goto 11, 3) := by decide +kernel
theorem d_LA_step_13 : decode b_LA_step 13 = .ok (.astore 4, 2) := by decide +kernel
theorem d_LA_step_15 : decode b_LA_step 15 = .ok (.iconst 1, 1) := by decide +kernel
theorem d_LA_step_16 : decode b_LA_step 16 = .ok (.ireturn, 1) := by decide +kernel
theorem d_LA_step_17 : decode b_LA_step 17 = .ok (.astore 4, 2) := by decide +kernel
theorem d_LA_step_19 : decode b_LA_step 19 = .ok (.iconst 2, 1) := by decide +kernel
theorem d_LA_step_20 : decode b_LA_step 20 = .ok (.ireturn, 1) := by decide +kernel
theorem d_LA_step_21 : decode b_LA_step 21 = .ok (.iconst 0, 1) := by decide +kernel
theorem d_LA_step_22 : decode b_LA_step 22 = .ok (.ireturn, 1) := by decide +kernel
theorem d_LA_told_0 : decode b_LA_told 0 = .ok (.aload_n 3, 1) := by decide +kernel
theorem d_LA_told_1 : decode b_LA_told 1 = .ok (.iconst 0, 1) := by decide +kernel
theorem d_LA_told_2 : decode b_LA_told 2 = .ok (.aload_n 0, 1) := by decide +kernel
theorem d_LA_told_3 : decode b_LA_told 3 = .ok (.iload_n 1, 1) := by decide +kernel
theorem d_LA_told_4 : decode b_LA_told 4 = .ok (.iload_n 2, 1) := by decide +kernel
theorem d_LA_told_5 : decode b_LA_told 5 = .ok (.invokevirtual 77, 3) := by decide +kernel
theorem d_LA_told_8 : decode b_LA_told 8 = .ok (.i2l, 1) := by decide +kernel
theorem d_LA_told_9 : decode b_LA_told 9 = .ok (.lastore, 1) := by decide +kernel
theorem d_LA_told_10 : decode b_LA_told 10 = .ok (.goto 11, 3) := by decide +kernel
theorem d_LA_told_13 : decode b_LA_told 13 = .ok (.astore 4, 2) := by decide +kernel
theorem d_LA_told_15 : decode b_LA_told 15 = .ok (.iconst 1, 1) := by decide +kernel
theorem d_LA_told_16 : decode b_LA_told 16 = .ok (.ireturn, 1) := by decide +kernel
theorem d_LA_told_17 : decode b_LA_told 17 = .ok (.astore 4, 2) := by decide +kernel
theorem d_LA_told_19 : decode b_LA_told 19 = .ok (.iconst 2, 1) := by decide +kernel
theorem d_LA_told_20 : decode b_LA_told 20 = .ok (.ireturn, 1) := by decide +kernel
theorem d_LA_told_21 : decode b_LA_told 21 = .ok (.iconst 0, 1) := by decide +kernel
theorem d_LA_told_22 : decode b_LA_told 22 = .ok (.ireturn, 1) := by decide +kernel
end
section
/-! ===== each instruction, decoded ===== -/
theorem d_RE_amountDue_0 : decode b_RE_amountDue 0 = .ok (.aload_n 0, 1) := by decide +kernel
theorem d_RE_amountDue_1 : decode b_RE_amountDue 1 = .ok (.getfield 28, 3) := by decide +kernel
theorem d_RE_amountDue_4 : decode b_RE_amountDue 4 = .ok (.ifCond .lt 14, 3) := by decide +kernel
theorem d_RE_amountDue_7 : decode b_RE_amountDue 7 = .ok (.aload_n 0, 1) := by decide +kernel
theorem d_RE_amountDue_8 : decode b_RE_amountDue 8 = .ok (.getfield 28, 3) := by decide +kernel
theorem d_RE_amountDue_11 : decode b_RE_amountDue 11 = .ok (.getstatic 52, 3) := by decide +kernel
theorem d_RE_amountDue_14 : decode b_RE_amountDue 14 = .ok (.arraylength, 1) := by decide +kernel
theorem d_RE_amountDue_15 : decode b_RE_amountDue 15 = .ok (.if_icmp .lt 5, 3) := by decide +kernel
theorem d_RE_amountDue_18 : decode b_RE_amountDue 18 = .ok (.iconst 0, 1) := by decide +kernel
theorem d_RE_amountDue_19 : decode b_RE_amountDue 19 = .ok (.ireturn, 1) := by decide +kernel
theorem d_RE_amountDue_20 : decode b_RE_amountDue 20 = .ok (.aload_n 0, 1) := by decide +kernel
theorem d_RE_amountDue_21 : decode b_RE_amountDue 21 = .ok (.getfield 45, 3) := by decide +kernel
theorem d_RE_amountDue_24 : decode b_RE_amountDue 24 = .ok (.ifCond .ne 20, 3) := by decide +kernel
theorem d_RE_amountDue_27 : decode b_RE_amountDue 27 = .ok (.aload_n 0, 1) := by decide +kernel
theorem d_RE_amountDue_28 : decode b_RE_amountDue 28 = .ok (.getfield 22, 3) := by decide +kernel
theorem d_RE_amountDue_31 : decode b_RE_amountDue 31 = .ok (.aload_n 0, 1) := by decide +kernel
theorem d_RE_amountDue_32 : decode b_RE_amountDue 32 = .ok (.getfield 9, 3) := by decide +kernel
theorem d_RE_amountDue_35 : decode b_RE_amountDue 35 = .ok (.getfield 56, 3) := by decide +kernel
theorem d_RE_amountDue_38 : decode b_RE_amountDue 38 = .ok (.isub, 1) := by decide +kernel
theorem d_RE_amountDue_39 : decode b_RE_amountDue 39 = .ok (.bipush 30, 2) := by decide +kernel
theorem d_RE_amountDue_41 : decode b_RE_amountDue 41 = .ok (.if_icmp .le 5, 3) := by decide +kernel
theorem d_RE_amountDue_44 : decode b_RE_amountDue 44 = .ok (.iconst 0, 1) := by decide +kernel
theorem d_RE_amountDue_45 : decode b_RE_amountDue 45 = .ok (.ireturn, 1) := by decide +kernel
theorem d_RE_amountDue_46 : decode b_RE_amountDue 46 = .ok (.aload_n 0, 1) := by decide +kernel
theorem d_RE_amountDue_47 : decode b_RE_amountDue 47 = .ok (.getfield 9, 3) := by decide +kernel
theorem d_RE_amountDue_50 : decode b_RE_amountDue 50 = .ok (.getfield 59, 3) := by decide +kernel
theorem d_RE_amountDue_53 : decode b_RE_amountDue 53 = .ok (.getstatic 52, 3) := by decide +kernel
theorem d_RE_amountDue_56 : decode b_RE_amountDue 56 = .ok (.aload_n 0, 1) := by decide +kernel
theorem d_RE_amountDue_57 : decode b_RE_amountDue 57 = .ok (.getfield 28, 3) := by decide +kernel
theorem d_RE_amountDue_60 : decode b_RE_amountDue 60 = .ok (.iaload, 1) := by decide +kernel
theorem d_RE_amountDue_61 : decode b_RE_amountDue 61 = .ok (.imul, 1) := by decide +kernel
theorem d_RE_amountDue_62 : decode b_RE_amountDue 62 = .ok (.bipush 100, 2) := by decide +kernel
theorem d_RE_amountDue_64 : decode b_RE_amountDue 64 = .ok (.idiv, 1) := by decide +kernel
theorem d_RE_amountDue_65 : decode b_RE_amountDue 65 = .ok (.istore_n 1, 1) := by decide +kernel
theorem d_RE_amountDue_66 : decode b_RE_amountDue 66 = .ok (.aload_n 0, 1) := by decide +kernel
theorem d_RE_amountDue_67 : decode b_RE_amountDue 67 = .ok (.getfield 9, 3) := by decide +kernel
theorem d_RE_amountDue_70 : decode b_RE_amountDue 70 = .ok (.getfield 59, 3) := by decide +kernel
theorem d_RE_amountDue_73 : decode b_RE_amountDue 73 = .ok (.bipush 10, 2) := by decide +kernel
theorem d_RE_amountDue_75 : decode b_RE_amountDue 75 = .ok (.idiv, 1) := by decide +kernel
theorem d_RE_amountDue_76 : decode b_RE_amountDue 76 = .ok (.aload_n 0, 1) := by decide +kernel
theorem d_RE_amountDue_77 : decode b_RE_amountDue 77 = .ok (.getfield 62, 3) := by decide +kernel
theorem d_RE_amountDue_80 : decode b_RE_amountDue 80 = .ok (.imul, 1) := by decide +kernel
theorem d_RE_amountDue_81 : decode b_RE_amountDue 81 = .ok (.istore_n 2, 1) := by decide +kernel
theorem d_RE_amountDue_82 : decode b_RE_amountDue 82 = .ok (.iconst 0, 1) := by decide +kernel
theorem d_RE_amountDue_83 : decode b_RE_amountDue 83 = .ok (.iload_n 1, 1) := by decide +kernel
theorem d_RE_amountDue_84 : decode b_RE_amountDue 84 = .ok (.iload_n 2, 1) := by decide +kernel
theorem d_RE_amountDue_85 : decode b_RE_amountDue 85 = .ok (.isub, 1) := by decide +kernel
theorem d_RE_amountDue_86 : decode b_RE_amountDue 86 = .ok (.invokestatic 65, 3) := by decide +kernel
theorem d_RE_amountDue_89 : decode b_RE_amountDue 89 = .ok (.ireturn, 1) := by decide +kernel
theorem d_RE_init_0 : decode b_RE_init 0 = .ok (.aload_n 0, 1) := by decide +kernel
theorem d_RE_init_1 : decode b_RE_init 1 = .ok (.invokespecial 3, 3) := by decide +kernel
theorem d_RE_init_4 : decode b_RE_init 4 = .ok (.aload_n 0, 1) := by decide +kernel
theorem d_RE_init_5 : decode b_RE_init 5 = .ok (.aload_n 1, 1) := by decide +kernel
theorem d_RE_init_6 : decode b_RE_init 6 = .ok (.putfield 9, 3) := by decide +kernel
theorem d_RE_init_9 : decode b_RE_init 9 = .ok (.aload_n 0, 1) := by decide +kernel
theorem d_RE_init_10 : decode b_RE_init 10 = .ok (.iload_n 2, 1) := by decide +kernel
theorem d_RE_init_11 : decode b_RE_init 11 = .ok (.putfield 15, 3) := by decide +kernel
theorem d_RE_init_14 : decode b_RE_init 14 = .ok (.aload_n 0, 1) := by decide +kernel
theorem d_RE_init_15 : decode b_RE_init 15 = .ok (.iload_n 3, 1) := by decide +kernel
theorem d_RE_init_16 : decode b_RE_init 16 = .ok (.putfield 19, 3) := by decide +kernel
theorem d_RE_init_19 : decode b_RE_init 19 = .ok (.aload_n 0, 1) := by decide +kernel
theorem d_RE_init_20 : decode b_RE_init 20 = .ok (.iload 4, 2) := by decide +kernel
theorem d_RE_init_22 : decode b_RE_init 22 = .ok (.putfield 22, 3) := by decide +kernel
theorem d_RE_init_25 : decode b_RE_init 25 = .ok (.aload_n 0, 1) := by decide +kernel
theorem d_RE_init_26 : decode b_RE_init 26 = .ok (.iconst (-1), 1) := by decide +kernel
theorem d_RE_init_27 : decode b_RE_init 27 = .ok (.putfield 25, 3) := by decide +kernel
theorem d_RE_init_30 : decode b_RE_init 30 = .ok (.aload_n 0, 1) := by decide +kernel
theorem d_RE_init_31 : decode b_RE_init 31 = .ok (.iconst (-1), 1) := by decide +kernel
theorem d_RE_init_32 : decode b_RE_init 32 = .ok (.putfield 28, 3) := by decide +kernel
theorem d_RE_init_35 : decode b_RE_init 35 = .ok (.aload_n 0, 1) := by decide +kernel
theorem d_RE_init_36 : decode b_RE_init 36 = .ok (.iconst (-1), 1) := by decide +kernel
theorem d_RE_init_37 : decode b_RE_init 37 = .ok (.putfield 31, 3) := by decide +kernel
theorem d_RE_init_40 : decode b_RE_init 40 = .ok (.aload_n 0, 1) := by decide +kernel
theorem d_RE_init_41 : decode b_RE_init 41 = .ok (.iconst (-1), 1) := by decide +kernel
theorem d_RE_init_42 : decode b_RE_init 42 = .ok (.putfield 34, 3) := by decide +kernel
theorem d_RE_init_45 : decode b_RE_init 45 = .ok (.return_, 1) := by decide +kernel
theorem d_RE_isOf_0 : decode b_RE_isOf 0 = .ok (.iload_n 1, 1) := by decide +kernel
theorem d_RE_isOf_1 : decode b_RE_isOf 1 = .ok (.iconst (-1), 1) := by decide +kernel
theorem d_RE_isOf_2 : decode b_RE_isOf 2 = .ok (.if_icmp .eq 11, 3) := by decide +kernel
theorem d_RE_isOf_5 : decode b_RE_isOf 5 = .ok (.iload_n 1, 1) := by decide +kernel
theorem d_RE_isOf_6 : decode b_RE_isOf 6 = .ok (.aload_n 0, 1) := by decide +kernel
theorem d_RE_isOf_7 : decode b_RE_isOf 7 = .ok (.getfield 15, 3) := by decide +kernel
theorem d_RE_isOf_10 : decode b_RE_isOf 10 = .ok (.if_icmp .ne 23, 3) := by decide +kernel
theorem d_RE_isOf_13 : decode b_RE_isOf 13 = .ok (.iload_n 2, 1) := by decide +kernel
theorem d_RE_isOf_14 : decode b_RE_isOf 14 = .ok (.iconst (-1), 1) := by decide +kernel
theorem d_RE_isOf_15 : decode b_RE_isOf 15 = .ok (.if_icmp .eq 14, 3) := by decide +kernel
theorem d_RE_isOf_18 : decode b_RE_isOf 18 = .ok (.iload_n 2, 1) := by decide +kernel
theorem d_RE_isOf_19 : decode b_RE_isOf 19 = .ok (.aload_n 0, 1) := by decide +kernel
theorem d_RE_isOf_20 : decode b_RE_isOf 20 = .ok (.getfield 9, 3) := by decide +kernel
theorem d_RE_isOf_23 : decode b_RE_isOf 23 = .ok (.getfield 37, 3) := by decide +kernel
theorem d_RE_isOf_26 : decode b_RE_isOf 26 = .ok (.if_icmp .ne 7, 3) := by decide +kernel
theorem d_RE_isOf_29 : decode b_RE_isOf 29 = .ok (.iconst 1, 1) := by decide +kernel
theorem d_RE_isOf_30 : decode b_RE_isOf 30 = .ok (.goto 4, 3) := by decide +kernel
theorem d_RE_isOf_33 : decode b_RE_isOf 33 = .ok (.iconst 0, 1) := by decide +kernel
theorem d_RE_isOf_34 : decode b_RE_isOf 34 = .ok (.ireturn, 1) := by decide +kernel
theorem d_RE_measured_0 : decode b_RE_measured 0 = .ok (.iload_n 1, 1) := by decide +kernel
theorem d_RE_measured_1 : decode b_RE_measured 1 = .ok (.tableswitch 82 0 4 #[35, 37, 42, 56, 69], 35) := by decide +kernel
theorem d_RE_measured_36 : decode b_RE_measured 36 = .ok (.iconst 1, 1) := by decide +kernel
theorem d_RE_measured_37 : decode b_RE_measured 37 = .ok (.ireturn, 1) := by decide +kernel
theorem d_RE_measured_38 : decode b_RE_measured 38 = .ok (.aload_n 0, 1) := by decide +kernel
theorem d_RE_measured_39 : decode b_RE_measured 39 = .ok (.getfield 42, 3) := by decide +kernel
theorem d_RE_measured_42 : decode b_RE_measured 42 = .ok (.ireturn, 1) := by decide +kernel
theorem d_RE_measured_43 : decode b_RE_measured 43 = .ok (.aload_n 0, 1) := by decide +kernel
theorem d_RE_measured_44 : decode b_RE_measured 44 = .ok (.getfield 19, 3) := by decide +kernel
theorem d_RE_measured_47 : decode b_RE_measured 47 = .ok (.iconst 5, 1) := by decide +kernel
theorem d_RE_measured_48 : decode b_RE_measured 48 = .ok (.if_icmp .ne 7, 3) := by decide +kernel
theorem d_RE_measured_51 : decode b_RE_measured 51 = .ok (.iconst 1, 1) := by decide +kernel
theorem d_RE_measured_52 : decode b_RE_measured 52 = .ok (.goto 4, 3) := by decide +kernel
theorem d_RE_measured_55 : decode b_RE_measured 55 = .ok (.iconst 0, 1) := by decide +kernel
theorem d_RE_measured_56 : decode b_RE_measured 56 = .ok (.ireturn, 1) := by decide +kernel
theorem d_RE_measured_57 : decode b_RE_measured 57 = .ok (.aload_n 0, 1) := by decide +kernel
theorem d_RE_measured_58 : decode b_RE_measured 58 = .ok (.getfield 45, 3) := by decide +kernel
theorem d_RE_measured_61 : decode b_RE_measured 61 = .ok (.ifCond .eq 7, 3) := by decide +kernel
theorem d_RE_measured_64 : decode b_RE_measured 64 = .ok (.iconst 1, 1) := by decide +kernel
theorem d_RE_measured_65 : decode b_RE_measured 65 = .ok (.goto 4, 3) := by decide +kernel
theorem d_RE_measured_68 : decode b_RE_measured 68 = .ok (.iconst 0, 1) := by decide +kernel
theorem d_RE_measured_69 : decode b_RE_measured 69 = .ok (.ireturn, 1) := by decide +kernel
theorem d_RE_measured_70 : decode b_RE_measured 70 = .ok (.aload_n 0, 1) := by decide +kernel
theorem d_RE_measured_71 : decode b_RE_measured 71 = .ok (.getfield 49, 3) := by decide +kernel
theorem d_RE_measured_74 : decode b_RE_measured 74 = .ok (.ifCond .eq 7, 3) := by decide +kernel
theorem d_RE_measured_77 : decode b_RE_measured 77 = .ok (.iconst 1, 1) := by decide +kernel
theorem d_RE_measured_78 : decode b_RE_measured 78 = .ok (.goto 4, 3) := by decide +kernel
theorem d_RE_measured_81 : decode b_RE_measured 81 = .ok (.iconst 0, 1) := by decide +kernel
theorem d_RE_measured_82 : decode b_RE_measured 82 = .ok (.ireturn, 1) := by decide +kernel
theorem d_RE_measured_83 : decode b_RE_measured 83 = .ok (.iconst 0, 1) := by decide +kernel
theorem d_RE_measured_84 : decode b_RE_measured 84 = .ok (.ireturn, 1) := by decide +kernel
theorem d_RE_takeGrade_0 : decode b_RE_takeGrade 0 = .ok (.aload_n 0, 1) := by decide +kernel
theorem d_RE_takeGrade_1 : decode b_RE_takeGrade 1 = .ok (.aload_n 0, 1) := by decide +kernel
theorem d_RE_takeGrade_2 : decode b_RE_takeGrade 2 = .ok (.getfield 28, 3) := by decide +kernel
theorem d_RE_takeGrade_5 : decode b_RE_takeGrade 5 = .ok (.putfield 31, 3) := by decide +kernel
theorem d_RE_takeGrade_8 : decode b_RE_takeGrade 8 = .ok (.aload_n 0, 1) := by decide +kernel
theorem d_RE_takeGrade_9 : decode b_RE_takeGrade 9 = .ok (.iload_n 1, 1) := by decide +kernel
theorem d_RE_takeGrade_10 : decode b_RE_takeGrade 10 = .ok (.putfield 28, 3) := by decide +kernel
theorem d_RE_takeGrade_13 : decode b_RE_takeGrade 13 = .ok (.aload_n 0, 1) := by decide +kernel
theorem d_RE_takeGrade_14 : decode b_RE_takeGrade 14 = .ok (.getfield 34, 3) := by decide +kernel
theorem d_RE_takeGrade_17 : decode b_RE_takeGrade 17 = .ok (.iconst (-1), 1) := by decide +kernel
theorem d_RE_takeGrade_18 : decode b_RE_takeGrade 18 = .ok (.if_icmp .eq 11, 3) := by decide +kernel
theorem d_RE_takeGrade_21 : decode b_RE_takeGrade 21 = .ok (.iload_n 1, 1) := by decide +kernel
theorem d_RE_takeGrade_22 : decode b_RE_takeGrade 22 = .ok (.aload_n 0, 1) := by decide +kernel
theorem d_RE_takeGrade_23 : decode b_RE_takeGrade 23 = .ok (.getfield 34, 3) := by decide +kernel
theorem d_RE_takeGrade_26 : decode b_RE_takeGrade 26 = .ok (.if_icmp .ge 8, 3) := by decide +kernel
theorem d_RE_takeGrade_29 : decode b_RE_takeGrade 29 = .ok (.aload_n 0, 1) := by decide +kernel
theorem d_RE_takeGrade_30 : decode b_RE_takeGrade 30 = .ok (.iload_n 1, 1) := by decide +kernel
theorem d_RE_takeGrade_31 : decode b_RE_takeGrade 31 = .ok (.putfield 34, 3) := by decide +kernel
theorem d_RE_takeGrade_34 : decode b_RE_takeGrade 34 = .ok (.return_, 1) := by decide +kernel
theorem d_SA_init_0 : decode b_SA_init 0 = .ok (.aload_n 0, 1) := by decide +kernel
theorem d_SA_init_1 : decode b_SA_init 1 = .ok (.invokespecial 1, 3) := by decide +kernel
theorem d_SA_init_4 : decode b_SA_init 4 = .ok (.aload_n 0, 1) := by decide +kernel
theorem d_SA_init_5 : decode b_SA_init 5 = .ok (.iload_n 1, 1) := by decide +kernel
theorem d_SA_init_6 : decode b_SA_init 6 = .ok (.putfield 7, 3) := by decide +kernel
theorem d_SA_init_9 : decode b_SA_init 9 = .ok (.aload_n 0, 1) := by decide +kernel
theorem d_SA_init_10 : decode b_SA_init 10 = .ok (.iload_n 2, 1) := by decide +kernel
theorem d_SA_init_11 : decode b_SA_init 11 = .ok (.putfield 13, 3) := by decide +kernel
theorem d_SA_init_14 : decode b_SA_init 14 = .ok (.aload_n 0, 1) := by decide +kernel
theorem d_SA_init_15 : decode b_SA_init 15 = .ok (.iload_n 3, 1) := by decide +kernel
theorem d_SA_init_16 : decode b_SA_init 16 = .ok (.putfield 16, 3) := by decide +kernel
theorem d_SA_init_19 : decode b_SA_init 19 = .ok (.aload_n 0, 1) := by decide +kernel
theorem d_SA_init_20 : decode b_SA_init 20 = .ok (.iload 4, 2) := by decide +kernel
theorem d_SA_init_22 : decode b_SA_init 22 = .ok (.putfield 19, 3) := by decide +kernel
theorem d_SA_init_25 : decode b_SA_init 25 = .ok (.aload_n 0, 1) := by decide +kernel
theorem d_SA_init_26 : decode b_SA_init 26 = .ok (.iload 5, 2) := by decide +kernel
theorem d_SA_init_28 : decode b_SA_init 28 = .ok (.putfield 22, 3) := by decide +kernel
theorem d_SA_init_31 : decode b_SA_init 31 = .ok (.return_, 1) := by decide +kernel
end
section
/-! ===== ends that may be a throw: contracts, calls, unwinding ===== -/
/-- nothing has moved but the frames, the slots L, and at the most k new cells of n slots -/
def z_FE (first t : State) (L : List Loc) (k n : Nat) : Prop := first.WarmedH t.vm ∧ first.sameButNew ({ t with vm := first.vm } : State) L k n
/-- a method's contract, whichever way it ends -/
def z_Met (l : Launch) (y : MethodName) (w : Cond) (rm : Room) (Pc : Array Value → State → Prop) (Qc : Array Value → State → Outcome → State → Prop) (mc ms : Nat) (free : Addr → Prop) : Prop :=
  MetFree l y (headSpec [w] rm) Pc (fun _ _ _ _ _ => True) (fun a st o t => Qc a st o t ∧ ∃ L, z_FE st t L mc ms ∧ ∀ q ∈ L, free q.base)
def z_MQ (below : List Frame) (Qc : Array Value → State → Outcome → State → Prop) (a : Array Value) (s : State) (mc ms : Nat) (free : Addr → Prop) : State → Prop := fun t =>
  ∃ o, t.status = .running ∧ Ended t below o ∧ Qc a s o t ∧ ∃ L, z_FE s t L mc ms ∧ ∀ q ∈ L, free q.base
theorem z_MQ.of {below : List Frame} {Qc : Array Value → State → Outcome → State → Prop} {a : Array Value} {s : State} {mc ms : Nat} {free : Addr → Prop} {t : State} (h : MQ below Qc a s mc ms free t) : z_MQ below Qc a s mc ms free t := by
  obtain ⟨o, h1, h2, h3, L, h4, h5⟩ := h
  exact ⟨o, h1, h2, h3, L, h4.2, h5⟩
section Z1
variable {p : Program} {l : Launch} {e : Env} {R : Room} {s : State} {m : MethodId} {args : Array Value} {below : List Frame} {meth : Method} {c : Code} {H : Heap} {locs : List Loc} {cells slots : Nat} {Q : State → Prop}
theorem z_mono {Q' : State → Prop} {g : JFrame} (h : ∀ t, Q t → Q' t) (k : W p l e R s m args below meth c H locs cells slots Q g) : W p l e R s m args below meth c H locs cells slots Q' g := fun T hT X => by
  obtain ⟨t, a, b⟩ := k T hT X
  exact ⟨t, a, h t b⟩
/-- the walk, where a is being thrown over the frame g -/
def z_T (p : Program) (l : Launch) (e : Env) (R : Room) (s : State) (m : MethodId) (args : Array Value) (below : List Frame) (meth : Method) (c : Code) (H : Heap) (locs : List Loc) (cells slots : Nat) (Q : State → Prop) (g : JFrame) (a : Addr) : Prop :=
  ∀ T : State, T.heap = H → Stand p l e R s m args below meth c T locs cells slots → ∃ t, Steps p.tables e below ((T.setTop g).pushFrame (.throwing a)) t ∧ Q t
theorem z_Twiden {g : JFrame} {a : Addr} {k n : Nat} (h1 : cells ≤ k) (h2 : slots ≤ n) (kk : z_T p l e R s m args below meth c H locs k n Q g a) : z_T p l e R s m args below meth c H locs cells slots Q g a := fun T hT X => kk T hT (stand_widen X h1 h2)
/-- no handler: the method ends by the throw -/
theorem z_out {Qc : Array Value → State → Outcome → State → Prop} {free : Addr → Prop} {a : Addr} {pc : Nat} {ls : Array Slot} {rest : List Value}
    (hq : ∀ t : State, t.heap = H → s.WarmedH t.vm → Qc args s (.threw a) t) (hf : ∀ q ∈ locs, free q.base) (hout : ∀ x ∈ c.exceptionTable.toList, covers x pc = false) (hlocks : meth.locks = false) :
    z_T p l e R s m args below meth c H locs cells slots (z_MQ below Qc args s cells slots free) (F0 m pc ls rest) a := by
  intro T hT X
  obtain ⟨hwalk, hrun, hended, hW, hsame⟩ := X.leaveThrown a (g := F0 m pc ls rest) rfl rfl rfl hout hlocks
  exact ⟨_, hwalk, .threw a, hrun, hended, hq _ hT hW, locs, ⟨hW, hsame⟩, hf⟩
end Z1
section Z2
variable {l : Launch}
theorem z_ofW {y : MethodName} {rm : Room} {Pc : Array Value → State → Prop} {Qc : Array Value → State → Outcome → State → Prop} {mc ms : Nat} {free : Addr → Prop} {cc : ByteArray} {maxL : Nat} {ret : Option FieldType}
    (hy : plainName y.cls = true)
    (body : ∀ p e s m args below meth c s₁, BodyLoose p l y (headSpec [Cond.code y cc maxL ret] rm) cc maxL ret e s m args below meth c s₁ → c.maxLocals = maxL → (∀ x ∈ c.exceptionTable.toList, ∀ pc, covers x pc = false) → Pc args s →
      W p l e rm s m args below meth c s.heap [] 0 0 (z_MQ below Qc args s mc ms free) (entryFrame m args maxL)) : z_Met l y (Cond.code y cc maxL ret) rm Pc Qc mc ms free := by
  refine MetFree.of_bodyS (code := cc) (maxLocals := maxL) (ret := ret) hy ?_ ?_
  · intro args s m h hn
    obtain ⟨meth, c, h1, h2, h3, h4, h5, h6, -, -⟩ := Cond.code_spec hn (atoms_spec (ws := [Cond.code y cc maxL ret]) h _ List.mem_cons_self)
    exact ⟨meth, c, h1, h2, h3, h4, h5, h6⟩
  · intro p e s m args below meth c s₁ B hml hP _
    have hh0 : s₁.heap = s.heap := by rw [B.state]; rfl
    have hemp := B.noHandlers (atoms_spec (ws := [Cond.code y cc maxL ret]) B.pre _ List.mem_cons_self)
    have hout : ∀ x ∈ c.exceptionTable.toList, ∀ pc, covers x pc = false := by
      have h0 : c.exceptionTable.size = 0 := by simpa [Array.isEmpty] using hemp
      have h1 : c.exceptionTable.toList = [] := List.eq_nil_of_length_eq_zero (by simpa using h0)
      intro x hx
      rw [h1] at hx
      cases hx
    obtain ⟨t, a1, o, b1, b2, b3⟩ := body p e s m args below meth c s₁ B hml hout hP s₁ hh0 (Stand.of_body B)
    exact ⟨t, o, a1, b1, b2, ⟨b3.1, b3.2⟩⟩
theorem z_ofWW {y : MethodName} {rm : Room} {Pc : Array Value → State → Prop} {Qc : Array Value → State → Outcome → State → Prop} {mc ms : Nat} {free : Addr → Prop} {cc : ByteArray} {maxL : Nat} {ret : Option FieldType} {hh : List (Nat × Nat × Nat × Nat)}
    (hy : plainName y.cls = true)
    (body : ∀ p e s m args below meth c s₁, BodyLoose p l y (headSpec [Cond.codeWith y cc maxL ret hh] rm) cc maxL ret e s m args below meth c s₁ → c.maxLocals = maxL → c.exceptionTable.toList.map (fun h => (h.startPc, h.endPc, h.handlerPc, h.catchType)) = hh → Pc args s →
      W p l e rm s m args below meth c s.heap [] 0 0 (z_MQ below Qc args s mc ms free) (entryFrame m args maxL)) : z_Met l y (Cond.codeWith y cc maxL ret hh) rm Pc Qc mc ms free := by
  refine MetFree.of_bodyS (code := cc) (maxLocals := maxL) (ret := ret) hy ?_ ?_
  · intro args s m h hn
    obtain ⟨m9, meth, c, hn9, h1, h2, h3, h4, -, h5, h6, -⟩ := Cond.codeWith_spec (atoms_spec (ws := [Cond.codeWith y cc maxL ret hh]) h _ List.mem_cons_self)
    cases hn.symm.trans hn9
    exact ⟨meth, c, h1, h2, h3, h4, h5, h6⟩
  · intro p e s m args below meth c s₁ B hml hP _
    have hh0 : s₁.heap = s.heap := by rw [B.state]; rfl
    obtain ⟨m9, meth9, c9, hn9, g1, g2, -, -, g5, -⟩ := Cond.codeWith_spec (atoms_spec (ws := [Cond.codeWith y cc maxL ret hh]) B.pre _ List.mem_cons_self)
    cases B.named.symm.trans hn9
    cases B.method.symm.trans g1
    cases (Stand.of_body B).code.symm.trans g2
    obtain ⟨t, a1, o, b1, b2, b3⟩ := body p e s m args below meth c s₁ B hml g5 hP s₁ hh0 (Stand.of_body B)
    exact ⟨t, o, a1, b1, b2, ⟨b3.1, b3.2⟩⟩
end Z2
/-- the word that names a method's code gives its locals -/
def z_wk (w : Cond) (y : MethodName) (maxL : Nat) : Prop := ∀ (a : Array Value) (U : State) (mk : MethodId), w.before a U = true → U.methodNamed? y = some mk → ∃ methY cY, U.vm.method? mk = some methY ∧ methY.code = some cY ∧ cY.maxLocals = maxL
theorem z_wk0 {y : MethodName} {cc : ByteArray} {maxL : Nat} {ret : Option FieldType} : z_wk (Cond.code y cc maxL ret) y maxL := fun a U mk h hn => by
  obtain ⟨methY, cY, hmY, hcY, -, hlY, -, -, -, -⟩ := Cond.code_spec hn h
  exact ⟨methY, cY, hmY, hcY, hlY⟩
theorem z_wkW {y : MethodName} {cc : ByteArray} {maxL : Nat} {ret : Option FieldType} {hh : List (Nat × Nat × Nat × Nat)} : z_wk (Cond.codeWith y cc maxL ret hh) y maxL := fun a U mk h hn => by
  obtain ⟨m9, methY, cY, hn9, hmY, hcY, -, hlY, -⟩ := Cond.codeWith_spec h
  cases hn.symm.trans hn9
  exact ⟨methY, cY, hmY, hcY, hlY⟩
section Z3
variable {p : Program} {l : Launch} {e : Env} {R : Room} {s : State} {m : MethodId} {args : Array Value} {below : List Frame} {meth : Method} {c : Code} {H : Heap} {locs : List Loc} {cells slots : Nat} {Q : State → Prop}
/-- a callee by its contract, at a point where the walk stands -/
theorem z_back {y : MethodName} {w : Cond} {rm : Room} {Pc : Array Value → State → Prop} {Qc : Array Value → State → Outcome → State → Prop} {mc ms maxL len : Nat} {free : Addr → Prop}
    (hM : z_Met l y w rm Pc Qc mc ms free) (hblind : FrameBlind Pc) (hrc : rm.cells = mc) (hrs : rm.slots = ms) (hframes : rm.frames + 1 ≤ R.frames) (hlocals : 8 + (maxL + 11) + rm.locals ≤ R.locals)
    (hw : ∀ (a' : Array Value) (U : State), s.WarmedH U.vm → w.before a' U = true) (hwc : z_wk w y maxL) (hinit : ∀ (a' : Array Value) (U : State), s.WarmedH U.vm → (Cond.initialized y.cls).before a' U = true)
    {U : State} (X : Stand p l e R s m args below meth c U locs cells slots) {g : JFrame} (hg : g.method = m) (hsize : g.locals.size = c.maxLocals) {ig : Instr} (hdg : decode c.code g.pc = .ok (ig, len))
    (hW : 2 * g.monitorRoom + (g.stack.map fun v => v.category).sum ≤ 8) {mk : MethodId} (hn : U.methodNamed? y = some mk) {a : Array Value} (hc1 : cells + mc ≤ R.cells) (hs1 : slots + ms ≤ R.slots) (hp : Pc a U) :
    ∃ (o : Outcome) (t B : State) (L : List Loc), Stand p l e R s m args below meth c B (locs ++ L) (cells + mc) (slots + ms) ∧ B.heap = t.heap ∧ B.vm = t.vm ∧ Qc a (U.calling g mk a) o t ∧ (∀ q ∈ L, free q.base) ∧
      (∀ v, o = .returned v → Steps p.tables e below (doInvoke e (U.setTop g) [] mk a).1 (B.setTop { g with pc := g.pc + len, stack := v.toList ++ g.stack })) ∧
      (∀ x, o = .threw x → Steps p.tables e below (doInvoke e (U.setTop g) [] mk a).1 ((B.setTop g).pushFrame (.throwing x))) := by
  obtain ⟨methY, cY, hmY, hcY, hlY⟩ := hwc a U mk (hw a U X.warmed) hn
  obtain ⟨kY, hkY, -⟩ := className_of_methodNamed hn
  have hinitY : kY.init = .initialized := Cond.initialized_spec (findClass_of_methodNamed hn) hkY (hinit a U X.warmed)
  have h : At U g.method c below := by rw [hg]; exact X.here
  have hpre : (headSpec [w] rm).pre.before a U = true := atoms_intro fun w' hw' => by rw [List.mem_singleton.mp hw']; exact hw a U X.warmed
  have hlocals' : 8 + (cY.maxLocals + 11) + (headSpec [w] rm).room.locals ≤ R.locals := by rw [hlY]; exact hlocals
  have happ : (headSpec [w] rm).appliesLoose y e.platform (U.calling g mk a) = true :=
    Spec.appliesLoose_calling (g := g) h hdg hn hkY hinitY
      (X.room_calling (g := g) (R' := (headSpec [w] rm).room) hsize hmY hcY hframes (by omega) (by rw [show (headSpec [w] rm).room.cells = mc from hrc]; exact hc1) (by rw [show (headSpec [w] rm).room.slots = ms from hrs]; exact hs1)) hpre
  obtain ⟨mid, hmid⟩ := h.above
  have hfr : (U.setTop g).frames = (.java g :: mid) ++ below := by rw [State.frames_setTop' g h.top, hmid]; rfl
  obtain ⟨o, s₂, hsteps, -, hend, hq⟩ := Steps.callFree hM p X.admits X.cas X.clock (acts := []) hfr happ (hblind _ _ _ _ hp) trivial
  have hq' : Qc a (U.calling g mk a) o s₂ ∧ ∃ L, z_FE (U.calling g mk a) s₂ L mc ms ∧ ∀ q ∈ L, free q.base := hq
  rw [State.frames_setTop' g h.top, X.tail] at hend
  obtain ⟨hQ, L, hfe, hL⟩ := hq'
  cases o with
  | returned v =>
    obtain ⟨T', X', -, -, ht⟩ := X.outOf hg hdg hend hfe.1 hfe.2
    refine ⟨.returned v, s₂, T', L, X', ?_, ?_, hQ, hL, fun v' hv => ?_, fun x hx => by cases hx⟩
    · rw [ht]; rfl
    · rw [ht]; rfl
    · cases hv
      rw [← ht]
      exact hsteps
  | threw x =>
    obtain ⟨T', X', -, -, ht⟩ := X.outOfThrown hg hend hfe.1 hfe.2
    refine ⟨.threw x, s₂, T', L, X', ?_, ?_, hQ, hL, fun v hv => (by cases hv), fun x' hx => ?_⟩
    · rw [ht, Stand.throwing_heap]
    · rw [ht, Stand.throwing_vm]
    · cases hx
      rw [← ht]
      exact hsteps
/-- the invoking instruction at g, over 'rest', comes to the method y with the arguments a -/
def z_In (p : Program) (l : Launch) (e : Env) (R : Room) (s : State) (m : MethodId) (args : Array Value) (below : List Frame) (meth : Method) (c : Code) (H : Heap) (g : JFrame) (rest : List Value) (y : MethodName) (a : Array Value) : Prop :=
  ∀ (T : State) (locs : List Loc) (cells slots : Nat), T.heap = H → Stand p l e R s m args below meth c T locs cells slots → ∃ (mk : MethodId) (vm₁ : Vm), s.methodNamed? y = some mk ∧ Stand p l e R s m args below meth c (T.setVm vm₁) locs cells slots ∧
    ∀ target, (∀ acts, Steps p.tables e below (doInvoke e ((T.setVm vm₁).setTop { g with stack := rest }) acts mk a).1 target) → Steps p.tables e below (T.setTop g) target
/-- A CALL: it returns, or it throws -/
theorem z_call {y : MethodName} {w : Cond} {rm : Room} {Pc : Array Value → State → Prop} {Qc : Array Value → State → Outcome → State → Prop} {mc ms maxL : Nat} {free : Addr → Prop} {cc : ByteArray} {pc : Nat} {ls : Array Slot} {st0 rest : List Value} {a : Array Value} {ig : Instr}
    (hI : z_In p l e R s m args below meth c H (F0 m pc ls st0) rest y a) (hb : c.code = cc) (hsize : ls.size = c.maxLocals)
    (hM : z_Met l y w rm Pc Qc mc ms free) (hblind : FrameBlind Pc) (hrc : rm.cells = mc) (hrs : rm.slots = ms) (hframes : rm.frames + 1 ≤ R.frames) (hlocals : 8 + (maxL + 11) + rm.locals ≤ R.locals)
    (hw : ∀ (a' : Array Value) (U : State), s.WarmedH U.vm → w.before a' U = true) (hwc : z_wk w y maxL) (hinit : (Cond.initialized y.cls).before args s = true)
    (hdg : decode cc pc = .ok (ig, 3)) (hW : (rest.map fun v => v.category).sum ≤ 8) (hc1 : cells + mc ≤ R.cells) (hs1 : slots + ms ≤ R.slots)
    (hp : ∀ U : State, U.heap = H → s.WarmedH U.vm → Pc a U)
    (k1 : ∀ (v : Option Value) (st t : State) (L : List Loc), st.heap = H → s.WarmedH t.vm → Qc a st (.returned v) t → (∀ q ∈ L, free q.base) → W p l e R s m args below meth c t.heap (locs ++ L) (cells + mc) (slots + ms) Q (F0 m (pc + 3) ls (v.toList ++ rest)))
    (k2 : ∀ (x : Addr) (st t : State) (L : List Loc), st.heap = H → s.WarmedH t.vm → Qc a st (.threw x) t → (∀ q ∈ L, free q.base) → z_T p l e R s m args below meth c t.heap (locs ++ L) (cells + mc) (slots + ms) Q (F0 m pc ls rest) x) :
    W p l e R s m args below meth c H locs cells slots Q (F0 m pc ls st0) := by
  intro T hT X
  obtain ⟨mk, vm₁, hnm, X₁, hst⟩ := hI T locs cells slots hT X
  obtain ⟨o, t, B, L, XB, e1, e2, hQ, hL, hv, hx⟩ := z_back hM hblind hrc hrs hframes hlocals hw hwc (fun a' U hW => word_at hW (Or.inl (by first | rfl | simp [Cond.onTables, Cond.keeps, Cond.steady])) hinit) X₁ (g := F0 m pc ls rest) rfl hsize (by rw [hb]; exact hdg) (lv_room hW) (X₁.named hnm) hc1 hs1 (hp (T.setVm vm₁) hT X₁.warmed)
  have hWt : s.WarmedH t.vm := by rw [← e2]; exact XB.warmed
  cases o with
  | returned v =>
    obtain ⟨t2, a1, b1⟩ := k1 v _ t L (by exact hT) hWt hQ hL B e1 XB
    exact ⟨t2, hst _ fun acts => by rw [doInvoke_state]; exact (hv v rfl).trans a1, b1⟩
  | threw x =>
    obtain ⟨t2, a1, b1⟩ := k2 x _ t L (by exact hT) hWt hQ hL B e1 XB
    exact ⟨t2, hst _ fun acts => by rw [doInvoke_state]; exact (hx x rfl).trans a1, b1⟩
end Z3
end
section
/-! ===== worlds as maps from addresses to what lies there ===== -/
abbrev zM : Type := Nat → Option va_E
def z_up (X : zM) (a : Nat) (e : va_E) : zM := fun q => if q = a then some e else X q
theorem z_eq (X : zM) (a : Nat) (e : va_E) : z_up X a e a = some e := if_pos rfl
theorem z_ne {X : zM} {a q : Nat} {e : va_E} (h : q ≠ a) : z_up X a e q = X q := if_neg h
theorem z_upup (X : zM) (a : Nat) (e e' : va_E) : z_up (z_up X a e) a e' = z_up X a e' := by
  funext q
  unfold z_up
  by_cases h : q = a <;> simp [h]
/-- two entries of other kinds lie apart -/
theorem z_oo {X : zM} {a b ci cj : Nat} {fs gs : List Value} (ha : X a = some (.inr (ci, fs))) (hb : X b = some (.inr (cj, gs))) (h : ci ≠ cj) : a ≠ b := fun q => by
  subst q
  rw [ha] at hb
  cases hb
  exact h rfl
theorem z_oa {X : zM} {a b ci : Nat} {fs : List Value} {z : ClassId × vp_A} (ha : X a = some (.inr (ci, fs))) (hb : X b = some (.inl z)) : a ≠ b := fun q => by
  subst q
  rw [ha] at hb
  cases hb
theorem z_ao {X : zM} {a b ci : Nat} {fs : List Value} {z : ClassId × vp_A} (ha : X a = some (.inl z)) (hb : X b = some (.inr (ci, fs))) : a ≠ b := fun q => (z_oa hb ha) q.symm
def z_W (D : va_G) (cl : List vw_C) (X : zM) (H : Heap) : Prop := ∀ (a : Nat) (e : va_E), X a = some e → va_at D cl (a, e) H
section Z4
variable {D : va_G} {cl : List vw_C} {X : zM} {H H1 : Heap} {a : Nat} {e : va_E}
theorem z_W.one (h : z_W D cl X H) (ha : X a = some e) : va_P D cl [(a, e)] H := by
  intro k q hk
  match k, hk with
  | 0, hk => cases hk; exact h a e ha
  | k + 1, hk => simp at hk
theorem z_W.lt (h : z_W D cl X H) (ha : X a = some e) : a < H.size := (h a e ha).lt
theorem z_W.set (h : z_W D cl X H) (he : va_at D cl (a, e) H1) (oq : ∀ q : Nat, q ≠ a → H1[q]? = H[q]?) : z_W D cl (z_up X a e) H1 := by
  intro b e' hb
  unfold z_up at hb
  by_cases hq : b = a
  · rw [if_pos hq] at hb
    cases hb
    subst hq
    exact he
  · rw [if_neg hq] at hb
    exact (h b e' hb).kept (oq b hq)
theorem z_W.grow (h : z_W D cl X H) (oq : ∀ q : Nat, q < H.size → H1[q]? = H[q]?) : z_W D cl X H1 := fun b e' hb => (h b e' hb).kept (oq b (h.lt hb))
theorem z_W.push (h : z_W D cl X H) (he : va_at D cl (H.size, e) H1) (oq : ∀ q : Nat, q < H.size → H1[q]? = H[q]?) : z_W D cl (z_up X H.size e) H1 := by
  intro b e' hb
  unfold z_up at hb
  by_cases hq : b = H.size
  · rw [if_pos hq] at hb
    cases hb
    subst hq
    exact he
  · rw [if_neg hq] at hb
    exact (h b e' hb).kept (oq b (h.lt hb))
end Z4
/-- a walk so far, in a method that began with the world X0 over the heap H0: the world is X now; what is not in X0 has not changed; nothing below lo is written -/
def z_S (D : va_G) (cl : List vw_C) (lo : Nat) (X0 : zM) (H0 : Heap) (X : zM) (H : Heap) (locs : List Loc) : Prop :=
  z_W D cl X H ∧ H0.size ≤ H.size ∧ (∀ q : Nat, q < H0.size → X0 q = none → H[q]? = H0[q]?) ∧ (∀ z ∈ locs, lo ≤ z.base) ∧ (∀ q, X q ≠ none → X0 q ≠ none ∨ H0.size ≤ q) ∧ (∀ q, X0 q ≠ none → lo ≤ q) ∧ lo ≤ H0.size
theorem z_S.start {D : va_G} {cl : List vw_C} {lo : Nat} {X : zM} {H : Heap} (h : z_W D cl X H) (h1 : ∀ q, X q ≠ none → lo ≤ q) (h2 : lo ≤ H.size) : z_S D cl lo X H X H [] :=
  ⟨h, Nat.le_refl _, fun _ _ _ => rfl, (fun _ h => nomatch h), fun _ h => Or.inl h, h1, h2⟩
section ZS
variable {D : va_G} {cl : List vw_C} {lo : Nat} {X0 X : zM} {H0 H H1 : Heap} {locs : List Loc} {a : Nat}
theorem z_S.low (h : z_S D cl lo X0 H0 X H locs) {q : Nat} (hq : X q ≠ none) : lo ≤ q := (h.2.2.2.2.1 q hq).elim (h.2.2.2.2.2.1 q) (fun z => Nat.le_trans h.2.2.2.2.2.2 z)
theorem z_S.under (h : z_S D cl lo X0 H0 X H locs) {q : Nat} (hq : q < lo) : H[q]? = H0[q]? := h.2.2.1 q (Nat.lt_of_lt_of_le hq h.2.2.2.2.2.2) (by
  cases hx : X0 q with
  | none => rfl
  | some e => exact absurd (h.2.2.2.2.2.1 q (by rw [hx]; exact fun z => by cases z)) (Nat.not_le.mpr hq))
theorem z_S.va (h : z_S D cl lo X0 H0 X H locs) : va_S (fun q => lo ≤ q) H0 H locs := ⟨h.2.1, fun q _ h2 => h.under (Nat.not_le.mp h2), h.2.2.2.1⟩
/-- a store at a -/
theorem z_S.set {e0 e1 : va_E} {i : Nat} (hS : z_S D cl lo X0 H0 X H locs) (ha : X a = some e0) (he : va_at D cl (a, e1) H1) (z : H1.size = H.size) (oq : ∀ q : Nat, q ≠ a → H1[q]? = H[q]?) : z_S D cl lo X0 H0 (z_up X a e1) H1 (locs ++ [⟨a, i⟩]) := by
  have hne : X a ≠ none := by rw [ha]; exact fun h => by cases h
  refine ⟨hS.1.set he oq, by rw [z]; exact hS.2.1, fun q h1 h2 => ?_, fun q hq => ?_, fun q hq => ?_, hS.2.2.2.2.2⟩
  · have hqa : q ≠ a := fun h => by
      subst h
      rcases hS.2.2.2.2.1 q hne with h3 | h3
      · exact h3 h2
      · omega
    rw [oq q hqa]
    exact hS.2.2.1 q h1 h2
  · rcases List.mem_append.mp hq with h | h
    · exact hS.2.2.2.1 q h
    · rw [List.mem_singleton.mp h]
      exact hS.low hne
  · unfold z_up at hq
    by_cases hqa : q = a
    · subst hqa; exact hS.2.2.2.2.1 q hne
    · rw [if_neg hqa] at hq; exact hS.2.2.2.2.1 q hq
/-- a new cell -/
theorem z_S.push {e0 : va_E} (hS : z_S D cl lo X0 H0 X H locs) (he : va_at D cl (H.size, e0) H1) (z1 : H1.size = H.size + 1) (o1 : ∀ q : Nat, q < H.size → H1[q]? = H[q]?) : z_S D cl lo X0 H0 (z_up X H.size e0) H1 locs := by
  refine ⟨hS.1.push he o1, by rw [z1]; exact Nat.le_succ_of_le hS.2.1, fun q h1 h2 => (o1 q (Nat.lt_of_lt_of_le h1 hS.2.1)).trans (hS.2.2.1 q h1 h2), hS.2.2.2.1, fun q hq => ?_, hS.2.2.2.2.2⟩
  unfold z_up at hq
  by_cases hqa : q = H.size
  · subst hqa; exact Or.inr hS.2.1
  · rw [if_neg hqa] at hq; exact hS.2.2.2.2.1 q hq
/-- .. that is nobody's -/
theorem z_S.grow (hS : z_S D cl lo X0 H0 X H locs) (z1 : H.size ≤ H1.size) (o1 : ∀ q : Nat, q < H.size → H1[q]? = H[q]?) : z_S D cl lo X0 H0 X H1 locs :=
  ⟨hS.1.grow o1, Nat.le_trans hS.2.1 z1, fun q h1 h2 => (o1 q (Nat.lt_of_lt_of_le h1 hS.2.1)).trans (hS.2.2.1 q h1 h2), hS.2.2.2⟩
end ZS
section Z5
variable {p : Program} {l : Launch} {e : Env} {R : Room} {s : State} {m : MethodId} {args : Array Value} {below : List Frame} {meth : Method} {c : Code} {H : Heap} {locs : List Loc} {cells slots : Nat} {Q : State → Prop}
variable {cc : ByteArray} {pc : Nat} {ls : Array Slot} {rest : List Value} {D : va_G} {cl : List vw_C} {lo a : Nat} {tys : List (ClassId × FieldType)} {X0 X : zM} {H0 : Heap}
theorem z_get (hexec : p.tables.exec = Jvm.exec) (hb : c.code = cc) {own ref C : String} {T : u_T} {N ci index : Nat} {Ts : List Cond} (hts : ∀ w ∈ Ts, w.before args s = true) (hin : ∀ w ∈ u_ws C T N, w ∈ Ts) (hown : s.vm.findClass own = some m.cls) (hK : va_K D cl tys s) (hS : z_S D cl lo X0 H0 X H locs) {fs : List Value} (he : X a = some (.inr (ci, fs))) (hc : cl[ci]? = some (C, T, N)) (k : Nat) (hk : k < N) (hlink : (Cond.fieldLink own index ref (T k).2.1 (T k).2.2.1).before args s = true) (hsame : ∀ x, s.fieldFound? (T k).1 (T k).2.1 (T k).2.2.1 = some x → s.fieldFound? ref (T k).2.1 (T k).2.2.1 = some x) {v : Value} (hv : fs[k]? = some v) (hdg : decode cc pc = .ok (.getfield index, 3))
    (kk : W p l e R s m args below meth c H locs cells slots Q (F0 m (pc + 3) ls (v :: rest))) : W p l e R s m args below meth c H locs cells slots Q (F0 m pc ls (.ref a :: rest)) :=
  va_get hexec hb hts hin hown hK (hS.1.one he) 0 rfl hc k hk hlink hsame hv hdg kk
theorem z_put (hexec : p.tables.exec = Jvm.exec) (hb : c.code = cc) {own ref C : String} {T : u_T} {N ci index : Nat} {Ts : List Cond} (hts : ∀ w ∈ Ts, w.before args s = true) (hin : ∀ w ∈ u_ws C T N, w ∈ Ts) (ty0 : Nat → FieldType) (hty : ∀ k, k < N → parseFieldDescriptor (T k).2.2.1 = some (ty0 k)) (hnm : ∀ a, a < N → ∀ b, b < N → a ≠ b → (T a).2.1 ≠ (T b).2.1) (hown : s.vm.findClass own = some m.cls) (hK : va_K D cl tys s) (hS : z_S D cl lo X0 H0 X H locs) {fs : List Value} (he : X a = some (.inr (ci, fs))) (hc : cl[ci]? = some (C, T, N)) (k : Nat) (hk : k < N) (hlink : (Cond.fieldLink own index ref (T k).2.1 (T k).2.2.1).before args s = true) (hsame : ∀ x, s.fieldFound? (T k).1 (T k).2.1 (T k).2.2.1 = some x → s.fieldFound? ref (T k).2.1 (T k).2.2.1 = some x) (hfin : (T k).2.2.2 = false) {ty : FieldType} {v : Value} (hd : parseFieldDescriptor (T k).2.2.1 = some ty) (hn : narrow ty v = v) (hfit : fits ty v = true) (hl : k < fs.length)
    (hdg : decode cc pc = .ok (.putfield index, 3)) {fs' : List Value} (hfs : fs.set k v = fs') (kk : ∀ (H1 : Heap) (locs1 : List Loc), z_S D cl lo X0 H0 (z_up X a (.inr (ci, fs'))) H1 locs1 → W p l e R s m args below meth c H1 locs1 cells slots Q (F0 m (pc + 3) ls rest)) : W p l e R s m args below meth c H locs cells slots Q (F0 m pc ls (v :: .ref a :: rest)) := by
  subst hfs
  have hap := va_apart (own := own) hts hin ty0 hty hnm hK hc
  obtain ⟨r, h1, cell, q1, q2, q3, q4⟩ := hS.1 a _ he
  have hr : r = (C, T, N) := Option.some.inj (h1.symm.trans hc)
  subst hr
  obtain ⟨hSl, hfc, kC, hkC, hkind⟩ := hK.1 ci _ hc
  obtain ⟨cf, kf, fi, f, hi, hsl⟩ := hSl k hk
  have hlay := hts _ (hin _ (u_in_lay hk))
  unfold u_lay at hlay
  rw [if_neg (by rw [hfin]; decide)] at hlay
  have hst := (u_facts hfc hkC (u_lays hts hin hk) hi).1
  have h6 := u_store hfc hkC hkind hlay hi hd hn hfit
  refine W.putK hexec hb (f := f) ⟨hown, hlink, ⟨_, _, _, hsame _ hi⟩, hst⟩ (by rw [q2]; exact h6) q1 q3 (by rw [hsl]; exact k2_hasslot (q4 k hk)) rfl rfl hdg fun H' e1 e2 e3 => ?_
  rw [hsl] at e1 ⊢
  exact kk H' _ (hS.set he ⟨_, hc, t_OB.to (V := updV (vp_V fs) k v) ⟨_, e1, q2, q3, t_set q4 hap hk v⟩ (fun j _ => vp_updV_set hl v j)⟩ e2 e3)
theorem z_putF (hexec : p.tables.exec = Jvm.exec) (hb : c.code = cc) {own ref C : String} {T : u_T} {N ci index : Nat} {Ts : List Cond} (hts : ∀ w ∈ Ts, w.before args s = true) (hin : ∀ w ∈ u_ws C T N, w ∈ Ts) (ty0 : Nat → FieldType) (hty : ∀ k, k < N → parseFieldDescriptor (T k).2.2.1 = some (ty0 k)) (hnm : ∀ a, a < N → ∀ b, b < N → a ≠ b → (T a).2.1 ≠ (T b).2.1) (hown : s.vm.findClass own = some m.cls) (hK : va_K D cl tys s) (hS : z_S D cl lo X0 H0 X H locs) {fs : List Value} (he : X a = some (.inr (ci, fs))) (hc : cl[ci]? = some (C, T, N)) (k : Nat) (hk : k < N) (hlink : (Cond.fieldLink own index ref (T k).2.1 (T k).2.2.1).before args s = true) (hsame : ∀ x, s.fieldFound? (T k).1 (T k).2.1 (T k).2.2.1 = some x → s.fieldFound? ref (T k).2.1 (T k).2.2.1 = some x) (hfin : (T k).2.2.2 = true) (hin2 : meth.name = "<init>") (hdecl : (T k).1 = own) {ty : FieldType} {v : Value} (hd : parseFieldDescriptor (T k).2.2.1 = some ty) (hn : narrow ty v = v) (hfit : fits ty v = true) (hl : k < fs.length)
    (hdg : decode cc pc = .ok (.putfield index, 3)) {fs' : List Value} (hfs : fs.set k v = fs') (kk : ∀ (H1 : Heap) (locs1 : List Loc), z_S D cl lo X0 H0 (z_up X a (.inr (ci, fs'))) H1 locs1 → W p l e R s m args below meth c H1 locs1 cells slots Q (F0 m (pc + 3) ls rest)) : W p l e R s m args below meth c H locs cells slots Q (F0 m pc ls (v :: .ref a :: rest)) := by
  subst hfs
  have hap := va_apart (own := own) hts hin ty0 hty hnm hK hc
  obtain ⟨r, h1, cell, q1, q2, q3, q4⟩ := hS.1 a _ he
  have hr : r = (C, T, N) := Option.some.inj (h1.symm.trans hc)
  subst hr
  obtain ⟨hSl, hfc, kC, hkC, hkind⟩ := hK.1 ci _ hc
  obtain ⟨cf, kf, fi, f, hi, hsl⟩ := hSl k hk
  have hlay := hts _ (hin _ (u_in_lay hk))
  unfold u_lay at hlay
  rw [if_pos hfin] at hlay
  have hst := (u_facts hfc hkC (u_lays hts hin hk) hi).1
  have hcf : m.cls = cf := by
    obtain ⟨_, _, c', _, _, _, -, -, hf', -, -, -, hown2, -⟩ := Cond.laysFinal_spec hlay
    have e1 : c' = cf := by have := hi.symm.trans hf'; simp at this; exact this.1.symm
    rw [hdecl] at hown2
    rw [← e1]; exact Option.some.inj (hown.symm.trans hown2)
  have h6 := u_fits hfc hkC hkind (Or.inr hlay) hi hd hn hfit
  refine W.putFinK hexec hb hown hlink (hsame _ hi) hst hcf hin2 (by rw [q2]; exact h6) q1 q3 (by rw [hsl]; exact k2_hasslot (q4 k hk)) rfl rfl hdg fun H' e1 e2 e3 => ?_
  rw [hsl] at e1 ⊢
  exact kk H' _ (hS.set he ⟨_, hc, t_OB.to (V := updV (vp_V fs) k v) ⟨_, e1, q2, q3, t_set q4 hap hk v⟩ (fun j _ => vp_updV_set hl v j)⟩ e2 e3)
theorem z_new (hexec : p.tables.exec = Jvm.exec) (hb : c.code = cc) {own C : String} {T : u_T} {N ci index : Nat} {Ts : List Cond} (hts : ∀ w ∈ Ts, w.before args s = true) (hin : ∀ w ∈ u_ws C T N, w ∈ Ts) (ty : Nat → FieldType) (hty : ∀ k, k < N → parseFieldDescriptor (T k).2.2.1 = some (ty k)) (hown : s.vm.findClass own = some m.cls) (hcl : (Cond.classLink own index C).before args s = true) (hinst : (Cond.instantiable C N).before args s = true) (hini : (Cond.initialized C).before args s = true)
    (hK : va_K D cl tys s) (hS : z_S D cl lo X0 H0 X H locs) (hc : cl[ci]? = some (C, T, N)) {fs : List Value} (hfs : ∀ j, j < N → defaultValue (ty j) = vp_V fs j) (hcells : cells + 1 ≤ R.cells) (hslots : slots + N ≤ R.slots) (hdg : decode cc pc = .ok (.new index, 3))
    (kk : ∀ (q : Nat) (H1 : Heap), (∀ e1, X q = some e1 → False) → z_S D cl lo X0 H0 (z_up X q (.inr (ci, fs))) H1 locs → W p l e R s m args below meth c H1 locs (cells + 1) (slots + N) Q (F0 m (pc + 3) ls (.ref q :: rest))) : W p l e R s m args below meth c H locs cells slots Q (F0 m pc ls rest) := by
  have hKn := hK.1 ci _ hc
  refine W.newcK hexec hb hown hcl hinst hini rfl hdg hcells hslots hKn.2.1 rfl fun H1 kC hkC e1 z1 o1 => ?_
  exact kk H.size H1 (fun e1 h => Nat.lt_irrefl _ (hS.1.lt h)) (hS.push ⟨_, hc, (u_born ty hts hin hKn hkC e1 hty).to hfs⟩ z1 o1)
theorem z_newq (hexec : p.tables.exec = Jvm.exec) (hb : c.code = cc) {own C : String} {index t0 : Nat} {cA : ClassId} (hown : s.vm.findClass own = some m.cls) (hclink : (Cond.classLink own index C).before args s = true) (hover : (Cond.arrayOver (.object C)).before args s = true) (hK : va_K D cl tys s) (ht : tys[t0]? = some (cA, .object C)) (hS : z_S D cl lo X0 H0 X H locs)
    {n : Int32} {N' : Nat} (hn : ¬ n < 0) (hN : n.toNatClampNeg = N') (hbytes : N' * 4 ≤ 536870912) (hcells : cells + 1 ≤ R.cells) (hslots : slots + N' ≤ R.slots) (hdg : decode cc pc = .ok (.anewarray index, 3))
    (kk : ∀ (q : Nat) (H1 : Heap), (∀ e1, X q = some e1 → False) → z_S D cl lo X0 H0 (z_up X q (.inl (cA, N', .inr (.inr (.inr (.inr (fun _ => none))))))) H1 locs → W p l e R s m args below meth c H1 locs (cells + 1) (slots + N') Q (F0 m (pc + 3) ls (.ref q :: rest))) : W p l e R s m args below meth c H locs cells slots Q (F0 m pc ls (.int n :: rest)) := by
  subst hN
  refine W.anew hexec hb hown hclink hover rfl hdg rfl hn hbytes hcells hslots fun cA' kA comp f1 f2 f3 f4 => ?_
  obtain ⟨kA2, comp2, k1, k2, k3, k4⟩ := (hK.2 t0 _ ht).2
  have hcA : cA' = cA := Option.some.inj (f1.symm.trans k4)
  subst hcA
  generalize hH1 : H.push ({ cls := cA', slots := Array.replicate n.toNatClampNeg .null, vm := .none } : Cell) = H1
  have z1 : H1.size = H.size + 1 := by rw [← hH1, Array.size_push]
  have e1 : H1[H.size]? = some (arrV cA' n.toNatClampNeg (fun _ => .null)) := by rw [← hH1, Array.getElem?_push_size, ← arrV_new]
  have o1 : ∀ q : Nat, q < H.size → H1[q]? = H[q]? := fun q hq => by rw [← hH1, Array.getElem?_push, if_neg (Nat.ne_of_lt hq)]
  refine kk H.size H1 (fun e1 h => Nat.lt_irrefl _ (hS.1.lt h)) (hS.push ?_ z1 o1)
  show H1[H.size]? = some (vp_cell _ _)
  rw [vp_cell_q]
  exact e1
theorem z_aald (hexec : p.tables.exec = Jvm.exec) (hb : c.code = cc) (hK : va_K D cl tys s) (hS : z_S D cl lo X0 H0 X H locs) (t0 : Nat) {cA : ClassId} {C : String} {n : Nat} {f : Nat → Option Nat} (ha : X a = some (.inl (cA, n, .inr (.inr (.inr (.inr f)))))) (ht : tys[t0]? = some (cA, .object C)) {i : Int32} (hin : vp_in i n) (hdg : decode cc pc = .ok (.aaload, 1)) {r : Option Nat} (hr : f i.toNatClampNeg = r)
    (kk : W p l e R s m args below meth c H locs cells slots Q (F0 m (pc + 1) ls (va_rf r :: rest))) : W p l e R s m args below meth c H locs cells slots Q (F0 m pc ls (.int i :: .ref a :: rest)) := by
  subst hr
  exact va_aldq hexec hb hK (hS.1.one ha) 0 t0 rfl ht hin hdg kk
theorem z_alen (hexec : p.tables.exec = Jvm.exec) (hb : c.code = cc) (hK : va_K D cl tys s) (hS : z_S D cl lo X0 H0 X H locs) (t0 : Nat) {cA : ClassId} {x : vp_A} (ha : X a = some (.inl (cA, x))) {ty : FieldType} (ht : tys[t0]? = some (cA, ty)) {v : Int32} (hv : Int32.ofNat x.1 = v) (hdg : decode cc pc = .ok (.arraylength, 1))
    (kk : W p l e R s m args below meth c H locs cells slots Q (F0 m (pc + 1) ls (.int v :: rest))) : W p l e R s m args below meth c H locs cells slots Q (F0 m pc ls (.ref a :: rest)) :=
  va_alen hexec hb hK (hS.1.one ha) 0 t0 rfl ht hv hdg kk
theorem z_aast (hexec : p.tables.exec = Jvm.exec) (hb : c.code = cc) (hK : va_K D cl tys s) (hS : z_S D cl lo X0 H0 X H locs) (t0 ci : Nat) {cA : ClassId} {r : vw_C} {n v : Nat} {vs : List Value} {f : Nat → Option Nat} (ha : X a = some (.inl (cA, n, .inr (.inr (.inr (.inr f)))))) (ht : tys[t0]? = some (cA, .object r.1)) (hv : X v = some (.inr (ci, vs))) (hc : cl[ci]? = some r) {i : Int32} (hin : vp_in i n) (hdg : decode cc pc = .ok (.aastore, 1))
    (kk : ∀ (H1 : Heap) (locs1 : List Loc), z_S D cl lo X0 H0 (z_up X a (.inl (cA, n, .inr (.inr (.inr (.inr (va_up f i.toNatClampNeg (some v)))))))) H1 locs1 → W p l e R s m args below meth c H1 locs1 cells slots Q (F0 m (pc + 1) ls rest)) : W p l e R s m args below meth c H locs cells slots Q (F0 m pc ls (.ref v :: .int i :: .ref a :: rest)) := by
  have hlt : i.toNatClampNeg < n := Nat.not_le.mp fun q => hin (Or.inr q)
  have h0 : ¬ i < 0 := fun q => hin (Or.inl q)
  obtain ⟨r', hr', cellV, g1, g2, g3, -⟩ := hS.1 v _ hv
  have hcls := (hK.1 ci r hc).2
  obtain ⟨kA, comp, k1, k2, k3, -⟩ := (hK.2 t0 _ ht).2
  have hcomp : comp = D.1 ci := Option.some.inj (k3.symm.trans hcls.1)
  subst hcomp
  obtain ⟨kC, hkC, -⟩ := hcls.2
  refine W.aast hexec hb (hS.1 a _ ha) (fun q h => by cases h) (fun h => by cases h) k1 k2 rfl hkC ⟨h0, by show _ < (arrV _ _ _).slots.size; rw [arrV_size]; exact hlt⟩ g1 (fun q h => by rw [g3] at h; cases h) (by rw [g2]; exact hkC) (by rw [g2]; exact va_assign hcls) rfl rfl hdg fun H1 e z oq => ?_
  refine kk H1 _ (hS.set ha ?_ z oq)
  show H1[a]? = some (vp_cell _ _)
  rw [e]
  rw [vp_cell_q, vp_cell_q, arrV_store]
  congr 2
  funext q
  by_cases hq : q = i.toNatClampNeg
  · subst hq
    simp [updV, va_up, va_rf]
  · simp [updV, va_up, hq]
theorem z_last (hexec : p.tables.exec = Jvm.exec) (hb : c.code = cc) (hK : va_K D cl tys s) (hS : z_S D cl lo X0 H0 X H locs) (t0 : Nat) {cA : ClassId} {n : Nat} {f : Nat → Int64} (ha : X a = some (.inl (cA, n, .inr (.inl f)))) (ht : tys[t0]? = some (cA, .long)) {i : Int32} {x : Int64} (hin : vp_in i n) (hdg : decode cc pc = .ok (.lastore, 1))
    (kk : ∀ (H1 : Heap) (locs1 : List Loc), z_S D cl lo X0 H0 (z_up X a (.inl (cA, n, .inr (.inl (vp_updL f i.toNatClampNeg x))))) H1 locs1 → W p l e R s m args below meth c H1 locs1 cells slots Q (F0 m (pc + 1) ls rest)) : W p l e R s m args below meth c H locs cells slots Q (F0 m pc ls (.long x :: .int i :: .ref a :: rest)) := by
  refine W.last hexec hb (hS.1 a _ ha) ((hK.2 t0 _ ht).1 n (fun j => .long (f j))) (fun q => by cases q) (by show ¬ (i < 0 ∨ (arrV _ _ _).slots.size ≤ _); rw [arrV_size]; exact hin) rfl rfl hdg fun H1 e z oq => ?_
  refine kk H1 _ (hS.set ha ?_ z oq)
  show H1[a]? = some (vp_cell _ _)
  rw [e]
  rw [vp_cell_l, vp_cell_l, arrV_store]
  congr 2
  funext q
  by_cases hq : q = i.toNatClampNeg
  · subst hq
    simp [updV, vp_updL]
  · simp [updV, vp_updL, hq]
theorem z_lald (hexec : p.tables.exec = Jvm.exec) (hb : c.code = cc) (hK : va_K D cl tys s) (hS : z_S D cl lo X0 H0 X H locs) (t0 : Nat) {cA : ClassId} {n : Nat} {f : Nat → Int64} (ha : X a = some (.inl (cA, n, .inr (.inl f)))) (ht : tys[t0]? = some (cA, .long)) {i : Int32} (hin : vp_in i n) (hdg : decode cc pc = .ok (.laload, 1))
    (kk : W p l e R s m args below meth c H locs cells slots Q (F0 m (pc + 1) ls (.long (f i.toNatClampNeg) :: rest))) : W p l e R s m args below meth c H locs cells slots Q (F0 m pc ls (.int i :: .ref a :: rest)) :=
  va_lald hexec hb hK (hS.1.one ha) 0 t0 rfl ht hin hdg kk
theorem z_iald (hexec : p.tables.exec = Jvm.exec) (hb : c.code = cc) (hK : va_K D cl tys s) (hS : z_S D cl lo X0 H0 X H locs) (t0 : Nat) {cA : ClassId} {n : Nat} {f : Nat → Int32} (ha : X a = some (.inl (cA, n, .inl f))) (ht : tys[t0]? = some (cA, .int)) {i : Int32} (hin : vp_in i n) (hdg : decode cc pc = .ok (.iaload, 1))
    (kk : W p l e R s m args below meth c H locs cells slots Q (F0 m (pc + 1) ls (.int (f i.toNatClampNeg) :: rest))) : W p l e R s m args below meth c H locs cells slots Q (F0 m pc ls (.int i :: .ref a :: rest)) :=
  va_iald hexec hb hK (hS.1.one ha) 0 t0 rfl ht hin hdg kk
theorem z_iast (hexec : p.tables.exec = Jvm.exec) (hb : c.code = cc) (hK : va_K D cl tys s) (hS : z_S D cl lo X0 H0 X H locs) (t0 : Nat) {cA : ClassId} {n : Nat} {f : Nat → Int32} (ha : X a = some (.inl (cA, n, .inl f))) (ht : tys[t0]? = some (cA, .int)) {i x : Int32} (hin : vp_in i n) (hdg : decode cc pc = .ok (.iastore, 1))
    (kk : ∀ (H1 : Heap) (locs1 : List Loc), z_S D cl lo X0 H0 (z_up X a (.inl (cA, n, .inl (upd f i.toNatClampNeg x)))) H1 locs1 → W p l e R s m args below meth c H1 locs1 cells slots Q (F0 m (pc + 1) ls rest)) : W p l e R s m args below meth c H locs cells slots Q (F0 m pc ls (.int x :: .int i :: .ref a :: rest)) := by
  refine W.iast hexec hb (hS.1 a _ ha) ((hK.2 t0 _ ht).1 n (fun j => .int (f j))) (fun q => by cases q) (by show ¬ (i < 0 ∨ (arrV _ _ _).slots.size ≤ _); rw [arrV_size]; exact hin) rfl rfl hdg fun H1 e z oq => ?_
  refine kk H1 _ (hS.set ha ?_ z oq)
  show H1[a]? = some (vp_cell _ _)
  rw [e]
  rw [vp_cell_i, vp_cell_i, arrV_store]
  congr 2
  funext q
  by_cases hq : q = i.toNatClampNeg
  · subst hq
    simp [updV, upd]
  · simp [updV, upd, hq]
end Z5
end
section
/-! ===== entering a callee ===== -/
section Z6
variable {p : Program} {l : Launch} {e : Env} {R : Room} {s : State} {m : MethodId} {args : Array Value} {below : List Frame} {meth : Method} {c : Code} {H : Heap}
/-- the descriptor of y, in the tables -/
def z_sg (s : State) (y : MethodName) : Prop := ∀ (mk : MethodId) (methM : Method), s.methodNamed? y = some mk → s.vm.method? mk = some methM → parseMethodDescriptor y.desc = some methM.sig
theorem z_sg0 {y : MethodName} {cc : ByteArray} {maxL : Nat} {ret : Option FieldType} (h : (Cond.code y cc maxL ret).before args s = true) : z_sg s y := fun mk methM hn hm => by
  obtain ⟨m2, c2, h1, -, -, -, -, -, -, h2⟩ := Cond.code_spec hn h
  cases hm.symm.trans h1
  exact h2
theorem z_sgW {y : MethodName} {cc : ByteArray} {maxL : Nat} {ret : Option FieldType} {hh : List (Nat × Nat × Nat × Nat)} (h : (Cond.codeWith y cc maxL ret hh).before args s = true) : z_sg s y := fun mk methM hn hm => by
  obtain ⟨m9, m2, c2, hn9, h1, -, -, -, -, -, -, h2⟩ := Cond.codeWith_spec h
  cases hn.symm.trans hn9
  cases hm.symm.trans h1
  exact h2
theorem z_len {y : MethodName} {n : Nat} (hd : (parseMethodDescriptor y.desc).map (fun d => d.parameters.length) = some n) {sig : MethodDescriptor} (h : parseMethodDescriptor y.desc = some sig) : n = sig.parameters.length := by
  rw [h] at hd
  exact (Option.some.inj hd).symm
theorem z_inV (hexec : p.tables.exec = Jvm.exec) {own C : String} {index n : Nat} {y : MethodName} (hown : s.vm.findClass own = some m.cls) (hlink : (Cond.methodLink own index y).before args s = true) (hinst : (Cond.instanceMethod y).before args s = true) (hsel : (Cond.selects C y y).before args s = true)
    (hsg : z_sg s y) (hd : y.cls ≠ "java/lang/invoke/MethodHandle" ∧ y.cls ≠ "java/lang/invoke/VarHandle" ∧ (parseMethodDescriptor y.desc).map (fun d => d.parameters.length) = some n)
    {b : Addr} (hr : ∃ cell : Cell, H[b]? = some cell ∧ cell.vm.isStatics = false ∧ s.vm.findClass C = some cell.cls)
    {pc : Nat} {ls : Array Slot} {As rest : List Value} (hlen : As.length = n) (hdg : decode c.code pc = .ok (.invokevirtual index, 3)) :
    z_In p l e R s m args below meth c H (F0 m pc ls (As.reverse ++ .ref b :: rest)) rest y (Value.ref b :: As).toArray := by
  intro T locs cells slots hT X
  obtain ⟨cellB, hcell, hobj, hcls⟩ := hr
  obtain ⟨mk, methM, hnamed, hmethM, hstM, habM⟩ := Cond.instanceMethod_spec hinst
  obtain ⟨c2, r2, m2, q1, q2, q3, q4, kP, hkP, hkPi⟩ := Cond.selects_spec hsel
  cases hcls.symm.trans q1
  cases (State.methodFound?_of_named hnamed ⟨hd.1, hd.2.1⟩).symm.trans q2
  cases hnamed.symm.trans q3
  have hselP : selectMethod e.platform s.vm cellB.cls mk = .method mk := by rw [Launch.admits_selectMethod X.admits]; exact q4
  obtain ⟨vm₁, X₁, hstep₁⟩ := X.invokevirtual hexec hown hlink hnamed hmethM hstM hkP hkPi ⟨hd.1, hd.2.1⟩ (a := b) (cell := cellB) (by rw [hT]; exact hcell)
    (fun z h => by rw [h] at hobj; cases hobj) hselP hmethM habM hkP hkPi (g := F0 m pc ls (As.reverse ++ .ref b :: rest)) rfl (argsL := As) (rest := rest) (hlen.trans (z_len hd.2.2 (hsg _ _ hnamed hmethM))) rfl hdg
  exact ⟨mk, vm₁, hnamed, X₁, hstep₁⟩
theorem z_inS (hexec : p.tables.exec = Jvm.exec) {own : String} {index n : Nat} {y : MethodName} (hown : s.vm.findClass own = some m.cls) (hlink : (Cond.methodLink own index y).before args s = true) (hstat : (Cond.static y).before args s = true) (hini : (Cond.initialized y.cls).before args s = true)
    {mk : MethodId} (hnamed : s.methodNamed? y = some mk) {methM : Method} (hmethM : s.vm.method? mk = some methM)
    (hsg : z_sg s y) (hd : y.cls ≠ "java/lang/invoke/MethodHandle" ∧ y.cls ≠ "java/lang/invoke/VarHandle" ∧ (parseMethodDescriptor y.desc).map (fun d => d.parameters.length) = some n)
    {pc : Nat} {ls : Array Slot} {As rest : List Value} (hlen : As.length = n) (hdg : decode c.code pc = .ok (.invokestatic index, 3)) :
    z_In p l e R s m args below meth c H (F0 m pc ls (As.reverse ++ rest)) rest y As.toArray := by
  intro T locs cells slots hT X
  have hstatic : methM.isStatic = true := Cond.static_spec hnamed hmethM hstat
  obtain ⟨kP, hkP, -⟩ := className_of_methodNamed hnamed
  have hinitP : kP.init = .initialized := Cond.initialized_spec (findClass_of_methodNamed hnamed) hkP hini
  obtain ⟨vm₁, X₁, hstep₁⟩ := X.invokestatic hexec hown hlink hnamed hmethM hstatic hkP hinitP ⟨hd.1, hd.2.1⟩ (g := F0 m pc ls (As.reverse ++ rest)) rfl (argsL := As) (rest := rest) (hlen.trans (z_len hd.2.2 (hsg _ _ hnamed hmethM))) rfl hdg
  exact ⟨mk, vm₁, hnamed, X₁, hstep₁⟩
theorem z_inS0 (hexec : p.tables.exec = Jvm.exec) {own : String} {index n : Nat} {y : MethodName} {cc : ByteArray} {maxL : Nat} {ret : Option FieldType} (hown : s.vm.findClass own = some m.cls) (hlink : (Cond.methodLink own index y).before args s = true) (hstat : (Cond.static y).before args s = true) (hini : (Cond.initialized y.cls).before args s = true) (hcode : (Cond.code y cc maxL ret).before args s = true)
    (hd : y.cls ≠ "java/lang/invoke/MethodHandle" ∧ y.cls ≠ "java/lang/invoke/VarHandle" ∧ (parseMethodDescriptor y.desc).map (fun d => d.parameters.length) = some n)
    {pc : Nat} {ls : Array Slot} {As rest : List Value} (hlen : As.length = n) (hdg : decode c.code pc = .ok (.invokestatic index, 3)) :
    z_In p l e R s m args below meth c H (F0 m pc ls (As.reverse ++ rest)) rest y As.toArray := by
  obtain ⟨mk, hnamed⟩ := Cond.code_named hcode
  obtain ⟨methM, cM, hmethM, -, -, -, -, -, -, -⟩ := Cond.code_spec hnamed hcode
  exact z_inS hexec hown hlink hstat hini hnamed hmethM (z_sg0 hcode) hd hlen hdg
theorem z_inSW (hexec : p.tables.exec = Jvm.exec) {own : String} {index n : Nat} {y : MethodName} {cc : ByteArray} {maxL : Nat} {ret : Option FieldType} {hh : List (Nat × Nat × Nat × Nat)} (hown : s.vm.findClass own = some m.cls) (hlink : (Cond.methodLink own index y).before args s = true) (hstat : (Cond.static y).before args s = true) (hini : (Cond.initialized y.cls).before args s = true) (hcode : (Cond.codeWith y cc maxL ret hh).before args s = true)
    (hd : y.cls ≠ "java/lang/invoke/MethodHandle" ∧ y.cls ≠ "java/lang/invoke/VarHandle" ∧ (parseMethodDescriptor y.desc).map (fun d => d.parameters.length) = some n)
    {pc : Nat} {ls : Array Slot} {As rest : List Value} (hlen : As.length = n) (hdg : decode c.code pc = .ok (.invokestatic index, 3)) :
    z_In p l e R s m args below meth c H (F0 m pc ls (As.reverse ++ rest)) rest y As.toArray := by
  obtain ⟨mk, methM, cM, hnamed, hmethM, -⟩ := Cond.codeWith_spec hcode
  exact z_inS hexec hown hlink hstat hini hnamed hmethM (z_sgW hcode) hd hlen hdg
theorem z_inI (hexec : p.tables.exec = Jvm.exec) {own : String} {index n : Nat} {y : MethodName} {bytes : ByteArray} {maxL : Nat} (hown : s.vm.findClass own = some m.cls) (hy1 : y.name = "<init>") (hlink : (Cond.methodLink own index y).before args s = true) (hinst : (Cond.instanceMethod y).before args s = true)
    (hcode : (Cond.code y bytes maxL none).before args s = true) (hd : y.cls ≠ "java/lang/invoke/MethodHandle" ∧ y.cls ≠ "java/lang/invoke/VarHandle" ∧ (parseMethodDescriptor y.desc).map (fun d => d.parameters.length) = some n)
    {b : Addr} {pc : Nat} {ls : Array Slot} {As rest : List Value} (hlen : As.length = n) (hdg : decode c.code pc = .ok (.invokespecial index, 3)) :
    z_In p l e R s m args below meth c H (F0 m pc ls (As.reverse ++ .ref b :: rest)) rest y (Value.ref b :: As).toArray := by
  intro T locs cells slots hT X
  have hpl : e.platform.magicAccessors = ({} : Platform).magicAccessors := by rw [X.admits.platform]
  obtain ⟨mk, methM, cM, kP, vm₁, hnamed, hmethM, hcodeM, -, hlocalsM, -, hkP, -, hW₁, hstep₁⟩ := Steps.initColdArgs (e := e) X.here hexec X.warmed hpl hown hy1 ⟨hd.1, hd.2.1⟩ hlink hinst hcode (f := F0 m pc ls (As.reverse ++ .ref b :: rest)) rfl (argsL := As) (rest := rest) (a := b) (fun sig h => hlen.trans (z_len hd.2.2 h)) rfl hdg
  exact ⟨mk, vm₁, hnamed, X.noted hW₁, hstep₁⟩
end Z6
/-! ===== what a throw leaves ===== -/
/-- an exception of the class called E lies at a -/
def z_Th (E : String) (a : Nat) (U : State) (H : Heap) : Prop := ∃ ce : Cell, H[a]? = some ce ∧ ce.vm = .none ∧ U.vm.findClass E = some ce.cls
theorem z_Th.moved {E : String} {a : Nat} {u U : State} {H : Heap} (hvm : u.vm.Alike U.vm) (h : z_Th E a u H) : z_Th E a U H := by
  obtain ⟨ce, h1, h2, h3⟩ := h
  exact ⟨ce, h1, h2, by rw [hvm.findClass]; exact h3⟩
theorem z_frame {s U : State} {k n : Nat} (h : s.sameButNew ({ U with vm := s.vm } : State) [] k n) : s.heap.size ≤ U.heap.size ∧ ∀ q : Nat, q < s.heap.size → U.heap[q]? = s.heap[q]? := by
  obtain ⟨-, h2, -, -, -, h6⟩ := h
  refine ⟨h2, fun q hq => ?_⟩
  have hc := Array.getElem?_eq_getElem hq
  obtain ⟨c9, e1, e2, e3, e4⟩ := h6 q _ hc
  have hs : c9.slots = (s.heap[q]).slots := Array.ext_getElem? fun i => e4 i fun hm => by cases hm
  rw [hs] at e2
  have e5 : U.heap[q]? = some c9 := e1
  rw [e5, hc]
  exact congrArg some e2
section Z7
variable {p : Program} {l : Launch} {e : Env} {R : Room} {s : State} {m : MethodId} {args : Array Value} {below : List Frame} {meth : Method} {c : Code} {H : Heap} {cells slots : Nat}
/-- throw new E("text"), where the method has written nothing yet -/
theorem z_throw {Qc : Array Value → State → Outcome → State → Prop} {free : Addr → Prop} {cc : ByteArray} {pc : Nat} {ls : Array Slot} {rest : List Value} (hexec : p.tables.exec = Jvm.exec) (hb : c.code = cc) (hl : l.stackTraces = false) {own cls text : String} {names : List String} {ik is ic mc ms sa : Nat}
    (hown : s.vm.findClass own = some m.cls) (hcls : Bundle.fit cls = true) (hnames : ∀ n ∈ names, Bundle.fit n = true)
    (hk : (Cond.classLink own ik cls).before args s = true) (hini : (Cond.initialized cls).before args s = true) (hstr : vk_R own is text sa s) (hat : ∀ w ∈ Bundle.ownAtoms own ic cls names, w.before args s = true) (hsize : ls.size = c.maxLocals)
    (d0 : decode cc pc = .ok (.new ik, 3)) (d3 : decode cc (pc + 3) = .ok (.dup, 1)) (d4 : decode cc (pc + 4) = .ok (.ldc is, 2)) (d6 : decode cc (pc + 6) = .ok (.invokespecial ic, 3)) (d9 : decode cc (pc + 9) = .ok (.athrow, 1))
    (hout : ∀ x ∈ c.exceptionTable.toList, covers x (pc + 9) = false)
    (hRframes : names.length + 3 < R.frames) (hRlocals : (rest.map fun v => v.category).sum + (13 * (names.length + 1) + 43) ≤ R.locals) (hRcells : cells + 1 ≤ R.cells) (hRslots : slots + 6 ≤ R.slots) (hlocks : meth.locks = false)
    (hx : ∀ (a : Addr) (t : State), s.WarmedH t.vm → s.heap.size ≤ t.heap.size → (∀ q : Nat, q < s.heap.size → t.heap[q]? = s.heap[q]?) → z_Th cls a t t.heap → Qc args s (.threw a) t) (hc : cells + 1 ≤ mc) (hs : slots + 6 ≤ ms) :
    W p l e R s m args below meth c H [] cells slots (z_MQ below Qc args s mc ms free) (F0 m pc ls rest) := by
  intro T hT X
  have htr : e.platform.stackTraces = false := (show e.platform.stackTraces = l.stackTraces by rw [X.admits.platform]).trans hl
  have hins : (Cond.instantiable cls 6).before args s = true := hat _ (by simp [Bundle.ownAtoms])
  obtain ⟨vm₁, cX, kX, hfX, hkX, -, -, X₁, st1⟩ := X.newCold hexec (own := own) (C := cls) (index := ik) (n := 6) hown hk hins hini (g := F0 m pc ls rest) rfl (by rw [hb]; exact d0) hRcells hRslots
  generalize hT1 : (T.setVm vm₁).pushCell { cls := cX, slots := kX.instanceTypes.map defaultValue, vm := .none } = T1 at X₁ st1
  have hcat : (Value.ref T.heap.size).category = 1 := rfl
  have hcellA : T1.heap[T.heap.size]? = some (freshCell cX kX) := by rw [← hT1]; exact State.heap_pushCell_size _ _
  have hnew : s.heap.size ≤ T.heap.size := X.same.2.1
  have d3' : decode c.code (pc + 3) = .ok (.dup, 1) := by rw [hb]; exact d3
  have d4' : decode c.code (pc + 4) = .ok (.ldc is, 2) := by rw [hb]; exact d4
  obtain ⟨U, hsteps, hrun, hend, hW, hsame, ce, hce, hO⟩ := X₁.ctorThrowS hexec htr (own := own) (cls := cls) (names := names) (ic := ic) hown hcls hnames hat (fun x hx => nomatch hx) hfX hkX hcellA hnew (msg := .ref sa) rfl
    (g := { method := m, pc := pc + 6, locals := ls, stack := .ref sa :: .ref T.heap.size :: .ref T.heap.size :: rest, locked := none }) rfl hsize rfl rfl (rest := rest) rfl
    (by rw [hb]; exact d6) (by rw [hb]; exact d9) hout hRframes (by simp only [List.map_cons, List.sum_cons, hcat]; omega) hlocks
  obtain ⟨f1, f2⟩ := z_frame hsame
  refine ⟨U, ?_, .threw T.heap.size, hrun, hend, hx _ U hW f1 f2 ⟨ce, hce, hO.vm, by rw [hW.alike.findClass]; exact hO.cls⟩, [], ⟨hW, hsame.mono hc hs⟩, fun q hq => nomatch hq⟩
  refine st1 _ ?_
  show Steps p.tables e below (T1.setTop { method := m, pc := pc + 3, locals := ls, stack := .ref T.heap.size :: rest, locked := none }) _
  jvm_step X₁.here [X₁.here.top, hexec, d3', Value.category]
  exact X₁.ldcString hexec (own := own) (text := text) (index := is) (a := sa) hown hstr.1 hstr.2
    (g := { method := m, pc := pc + 4, locals := ls, stack := .ref T.heap.size :: .ref T.heap.size :: rest, locked := none }) rfl d4' _ hsteps
end Z7
/-! ===== catching ===== -/
section Z8
/-- the search goes through the table: the tables grow warmer, and it ends at the row of the handler h -/
def z_Fi (e : Env) (S : State) (f : JFrame) (a : Addr) (rows : List ExceptionTableEntry) (h : Nat) (vm' : Vm) : Prop := ∀ (Q : Handler → Pre) (E : CtlPost) (d : Bool) (acts : List Action), wp (findHandler.go f a rows) Q E e d acts S ↔ Q (.found h) d acts (S.setVm vm')
variable {e : Env} {s₀ : State} {f : JFrame} {a : Addr} {cell : Cell}
theorem z_fi1 {own name E : String} {args : Array Value} (hpl : e.platform.magicAccessors = ({} : Platform).magicAccessors) (hown : s₀.vm.findClass own = some f.method.cls) {x : ExceptionTableEntry} {t : List ExceptionTableEntry} (hx : covers x f.pc = true) (h0 : x.catchType ≠ 0)
    (hlink : (Cond.classLink own x.catchType name).before args s₀ = true) (hcast : (Cond.castable E name).before args s₀ = true) (hE : s₀.vm.findClass E = some cell.cls) (hobj : cell.vm = .none) {S : State} (hW : s₀.WarmedH S.vm) (hcell : S.heap[a]? = some cell) :
    ∃ vm', s₀.WarmedH vm' ∧ z_Fi e S f a (x :: t) x.handlerPc vm' := by
  obtain ⟨c3, c4, hc3, hc4, hasg⟩ := Cond.castable_spec hcast
  cases Option.some.inj (hc3.symm.trans hE)
  obtain ⟨c5, hc5, hl⟩ := Cond.classLink_spec hown hlink e.platform hpl
  cases Option.some.inj (hc4.symm.trans hc5)
  obtain ⟨k0, hk0, -⟩ := Vm.findClass_spec hE
  obtain ⟨k0', hk0', -⟩ := hW.alike.2.2 _ _ hk0
  obtain ⟨dk, _, _, kt, hd, _, _, _, _, hkt, _, hopen⟩ := hl.here
  have hl' := hW.classLinks hl
  have hW' := hW.noted hd hopen (State.rightAt_cls hl)
  refine ⟨_, hW', fun Q E d acts => ?_⟩
  simp only [covers] at hx
  obtain ⟨ha, ht⟩ := (resolveClass_links e.toSetting hl').op (op := VmOp.resolveClass f.method.cls x.catchType) rfl
  obtain ⟨k1', hk1', -⟩ := hW'.alike.2.2 _ _ hk0
  obtain ⟨k2', hk2', -⟩ := hW'.alike.2.2 _ _ hkt
  have hfit' : (S.vm.noted f.method.cls x.catchType (.cls c4)).assignable cell.cls c4 = true := by rw [hW'.alike.assignable]; exact hasg
  have hst : ∀ k, cell.vm ≠ .statics k := fun k h => by rw [hobj] at h; cases h
  simp [findHandler.go, hx, h0, ha, ht, hcell, hst, hk1', hk2', hfit', VmOp.dirties, VmOp.acts]
theorem z_fiP {own name E : String} {args : Array Value} (hpl : e.platform.magicAccessors = ({} : Platform).magicAccessors) (hown : s₀.vm.findClass own = some f.method.cls) {x : ExceptionTableEntry} {t : List ExceptionTableEntry} (hx : covers x f.pc = true) (h0 : x.catchType ≠ 0)
    (hlink : (Cond.classLink own x.catchType name).before args s₀ = true) (hno : va_Nc E name s₀) (hE : s₀.vm.findClass E = some cell.cls) (hobj : cell.vm = .none) {S : State} (hW : s₀.WarmedH S.vm) (hcell : S.heap[a]? = some cell) {h : Nat}
    (ih : ∀ S' : State, s₀.WarmedH S'.vm → S'.heap[a]? = some cell → ∃ vm', s₀.WarmedH vm' ∧ z_Fi e S' f a t h vm') :
    ∃ vm', s₀.WarmedH vm' ∧ z_Fi e S f a (x :: t) h vm' := by
  obtain ⟨a8, b8, g1, g2, g3⟩ := hno
  cases Option.some.inj (g1.symm.trans hE)
  obtain ⟨c5, hc5, hl⟩ := Cond.classLink_spec hown hlink e.platform hpl
  cases Option.some.inj (g2.symm.trans hc5)
  obtain ⟨k0, hk0, -⟩ := Vm.findClass_spec hE
  obtain ⟨dk, _, _, kt, hd, _, _, _, _, hkt, _, hopen⟩ := hl.here
  have hl' := hW.classLinks hl
  have hW' := hW.noted hd hopen (State.rightAt_cls hl)
  obtain ⟨vm', hV, hF⟩ := ih (S.setVm (S.vm.noted f.method.cls x.catchType (.cls b8))) hW' hcell
  refine ⟨vm', hV, fun Q E d acts => ?_⟩
  simp only [covers] at hx
  obtain ⟨ha, ht⟩ := (resolveClass_links e.toSetting hl').op (op := VmOp.resolveClass f.method.cls x.catchType) rfl
  obtain ⟨k1', hk1', -⟩ := hW'.alike.2.2 _ _ hk0
  obtain ⟨k2', hk2', -⟩ := hW'.alike.2.2 _ _ hkt
  have hfit' : (S.vm.noted f.method.cls x.catchType (.cls b8)).assignable cell.cls b8 = false := by rw [hW'.alike.assignable]; exact g3
  have hst : ∀ k, cell.vm ≠ .statics k := fun k h => by rw [hobj] at h; cases h
  have h1 : wp (findHandler.go f a (x :: t)) Q E e d acts S ↔ wp (findHandler.go f a t) Q E e d acts (S.setVm (S.vm.noted f.method.cls x.catchType (.cls b8))) := by
    simp [findHandler.go, hx, h0, ha, ht, hcell, hst, hk1', hk2', hfit', VmOp.dirties, VmOp.acts]
  exact h1.trans (hF Q E d acts)
end Z8
section Z9
variable {p : Program} {l : Launch} {e : Env} {R : Room} {s : State} {m : MethodId} {args : Array Value} {below : List Frame} {meth : Method} {c : Code} {H : Heap} {locs : List Loc} {cells slots : Nat} {Q : State → Prop}
theorem z_stepTo {e : Env} {s : State} {a : Addr} {f : JFrame} {r : List Frame} {pc : Nat} {vm' : Vm} (hfind : ∀ (Q : Handler → Pre) (E : CtlPost) (d : Bool) (acts : List Action), wp (findHandler f a) Q E e d acts s ↔ Q (.found pc) d acts (s.setVm vm')) :
    (stepThrowing e s a (.java f :: r)).Is ((s.setVm vm').setFrames (.java { f with pc := pc, stack := [.ref a] } :: r)) [] := by
  simp only [stepThrowing, searchFrame, vmDo]
  generalize hr : Sem.go _ e false [] s = res
  obtain ⟨as, rfl, ha⟩ := Sem.eq_ok_of hr (a := Handler.found pc) (s' := s.setVm vm') (acts' := []) (by simp [hfind _ _ _ _])
  exact ⟨rfl, ha⟩
/-- caught in this method, at the handler tgt -/
theorem z_catch {pc tgt : Nat} {ls : Array Slot} {rest : List Value} {a : Addr}
    (hfi : ∀ T : State, T.heap = H → s.WarmedH T.vm → e.platform.magicAccessors = ({} : Platform).magicAccessors → ∃ vm', s.WarmedH vm' ∧ z_Fi e ((T.setTop (F0 m pc ls rest)).pushFrame (.throwing a)) (F0 m pc ls rest) a c.exceptionTable.toList tgt vm')
    (k : W p l e R s m args below meth c H locs cells slots Q (F0 m tgt ls [.ref a])) : z_T p l e R s m args below meth c H locs cells slots Q (F0 m pc ls rest) a := by
  intro T hT X
  have hpl : e.platform.magicAccessors = ({} : Platform).magicAccessors := by rw [X.admits.platform]
  obtain ⟨vm', hW', hF⟩ := hfi T hT X.warmed hpl
  have X' := X.noted hW'
  obtain ⟨t, a1, b1⟩ := k (T.setVm vm') hT X'
  refine ⟨t, ?_, b1⟩
  have h : At T (F0 m pc ls rest).method c below := X.here
  obtain ⟨hgo, hw⟩ := h.throwing a
  refine Steps.head hgo hw ?_
  have hm : ((T.setTop (F0 m pc ls rest)).pushFrame (.throwing a)).vm.method? (F0 m pc ls rest).method = some meth := by
    rw [Stand.throwing_vm]; exact X.method'
  rw [stepThread_throwing (frames_entered h.top _), (z_stepTo (s := (T.setTop (F0 m pc ls rest)).pushFrame (.throwing a)) (vm' := vm') (pc := tgt) (fun Q E d acts => by rw [W.findHandler_eq hm X.code]; exact hF Q E d acts)).1]
  obtain ⟨g₀, hg⟩ := Option.isSome_iff_exists.mp h.top
  obtain ⟨r, hr⟩ := State.topJava?_eq_some.mp hg
  have hr' : (T.setVm vm').frames = .java g₀ :: r := hr
  rw [State.setTop_of_frames _ hr'] at a1
  rw [State.pushFrame, State.setTop_of_frames _ hr, State.setFrames_setFrames]
  have e1 : (T.setFrames (.throwing a :: (T.setFrames (.java (F0 m pc ls rest) :: r)).frames)).setVm vm' = (T.setVm vm').setFrames (.throwing a :: (T.setFrames (.java (F0 m pc ls rest) :: r)).frames) := rfl
  rw [e1, State.setFrames_setFrames, hr]
  exact a1
end Z9
end
section
/-! ===== contracts over worlds as maps ===== -/
/-- what a method answers: nothing or a value; or the name of the class that it throws -/
abbrev zR : Type := Option Value ⊕ String
def z_Oc (r : zR) (o : Outcome) (t : State) : Prop := match r with
  | .inl v => o = .returned v
  | .inr E => ∃ a, o = .threw a ∧ z_Th E a t t.heap
/-- the heap has only grown -/
def z_Gr (H H1 : Heap) : Prop := H.size ≤ H1.size ∧ ∀ q : Nat, q < H.size → H1[q]? = H[q]?
theorem z_Gr.rf {H : Heap} : z_Gr H H := ⟨Nat.le_refl _, fun _ _ => rfl⟩
theorem z_Gr.tr {H H1 H2 : Heap} (h : z_Gr H H1) (k : z_Gr H1 H2) : z_Gr H H2 := ⟨Nat.le_trans h.1 k.1, fun q hq => (k.2 q (Nat.lt_of_lt_of_le hq h.1)).trans (h.2 q hq)⟩
/-- what stays true of a state while the tables grow warmer and nothing below lo changes -/
def z_Gk (G : State → Prop) (lo : Nat) : Prop := ∀ u U : State, G u → u.WarmedH U.vm → (∀ q : Nat, q < lo → U.heap[q]? = u.heap[q]?) → G U
/-- a method's start -/
def z_St (G : State → Prop) (D : va_G) (cl : List vw_C) (tys : List (ClassId × FieldType)) (lo : Nat) (X : zM) (U : State) : Prop := G U ∧ va_K D cl tys U ∧ z_W D cl X U.heap ∧ (∀ q, X q ≠ none → lo ≤ q) ∧ lo ≤ U.heap.size
/-- the end of a method that only reads -/
def z_pu (r : zR) : Array Value → State → Outcome → State → Prop := fun _ st o t => z_Oc r o t ∧ z_Gr st.heap t.heap
/-- a method that only reads: its answer is r -/
def z_P (G : State → Prop) (D : va_G) (cl : List vw_C) (tys : List (ClassId × FieldType)) (lo : Nat) (l : Launch) (y : MethodName) (w : Cond) (rm : Room) (av : List Value) (X : zM) (r : zR) : Prop :=
  z_Met l y w rm (va_Pc av (z_St G D cl tys lo X)) (z_pu r) rm.cells rm.slots (fun _ => False)
/-- the end of a method that writes -/
def z_Q (D : va_G) (cl : List vw_C) (X : zM) (Po : zR → zM → Prop) : Array Value → State → Outcome → State → Prop := fun _ st o t =>
  ∃ (r : zR) (X' : zM), Po r X' ∧ z_Oc r o t ∧ z_W D cl X' t.heap ∧ st.heap.size ≤ t.heap.size ∧ (∀ q : Nat, q < st.heap.size → X q = none → t.heap[q]? = st.heap[q]?) ∧ ∀ q, X' q ≠ none → X q ≠ none ∨ st.heap.size ≤ q
/-- a method that may write: its answer and the world behind it satisfy Po -/
def z_C (G : State → Prop) (D : va_G) (cl : List vw_C) (tys : List (ClassId × FieldType)) (lo : Nat) (l : Launch) (y : MethodName) (w : Cond) (rm : Room) (av : List Value) (X : zM) (Po : zR → zM → Prop) : Prop :=
  z_Met l y w rm (va_Pc av (z_St G D cl tys lo X)) (z_Q D cl X Po) rm.cells rm.slots (fun q => lo ≤ q)
theorem z_blind {G : State → Prop} {D : va_G} {cl : List vw_C} {tys : List (ClassId × FieldType)} {lo : Nat} {X : zM} {av : List Value} (hGk : z_Gk G lo) : FrameBlind (va_Pc av (z_St G D cl tys lo X)) := fun a U g mk ⟨h1, hG, hK, hW, hX, hl⟩ =>
  ⟨h1, hGk U _ hG (State.WarmedH.refl U) (fun _ _ => rfl), va_K.moved (u := U) (U := U.calling g mk a) (Vm.Alike.refl U.vm) hK, hW, hX, hl⟩
section Z10
variable {p : Program} {l : Launch} {e : Env} {R : Room} {s : State} {m : MethodId} {args : Array Value} {below : List Frame} {meth : Method} {c : Code} {H : Heap} {locs : List Loc} {cells slots : Nat} {Q : State → Prop}
variable {cc : ByteArray} {pc : Nat} {ls : Array Slot} {rest st0 : List Value} {D : va_G} {cl : List vw_C} {lo a : Nat} {tys : List (ClassId × FieldType)} {X0 X : zM} {G : State → Prop}
variable {y : MethodName} {w : Cond} {rm : Room} {maxL : Nat} {av : List Value} {ig : Instr}
/-- what every call needs: the word of the callee's code, its class, its room -/
abbrev z_Cw (R : Room) (s : State) (args : Array Value) (y : MethodName) (w : Cond) (rm : Room) (maxL : Nat) : Prop :=
  (∀ (a' : Array Value) (U : State), s.WarmedH U.vm → w.before a' U = true) ∧ z_wk w y maxL ∧ (Cond.initialized y.cls).before args s = true ∧ rm.frames + 1 ≤ R.frames ∧ 8 + (maxL + 11) + rm.locals ≤ R.locals
theorem z_start (hGk : z_Gk G lo) (hG : G s) (hK : va_K D cl tys s) (hS : z_S D cl lo X0 s.heap X H locs) {U : State} (hU : U.heap = H) (hW : s.WarmedH U.vm) : z_St G D cl tys lo X U :=
  ⟨hGk s U hG hW (fun q hq => by rw [hU]; exact hS.under hq), va_K.moved hW.alike hK, by rw [hU]; exact hS.1, fun q hq => hS.low hq, by rw [hU]; exact Nat.le_trans hS.2.2.2.2.2.2 hS.2.1⟩
theorem z_nil {L : List Loc} (h : ∀ q ∈ L, False) : L = [] := List.eq_nil_iff_forall_not_mem.mpr h
/-- a call of a method that only reads, and returns -/
theorem z_pR {r : zR} {v : Option Value} (hI : z_In p l e R s m args below meth c H (F0 m pc ls st0) rest y av.toArray) (hb : c.code = cc) (hsize : ls.size = c.maxLocals) (hM : z_P G D cl tys lo l y w rm av X r) (hr : r = .inl v) (hGk : z_Gk G lo) (hG : G s) (hK : va_K D cl tys s) (hS : z_S D cl lo X0 s.heap X H locs) (cw : z_Cw R s args y w rm maxL)
    (hdg : decode cc pc = .ok (ig, 3)) (hW : (rest.map fun v => v.category).sum ≤ 8) (hc1 : cells + rm.cells ≤ R.cells) (hs1 : slots + rm.slots ≤ R.slots)
    (k : ∀ H1 : Heap, z_Gr H H1 → z_S D cl lo X0 s.heap X H1 locs → W p l e R s m args below meth c H1 locs (cells + rm.cells) (slots + rm.slots) Q (F0 m (pc + 3) ls (v.toList ++ rest))) :
    W p l e R s m args below meth c H locs cells slots Q (F0 m pc ls st0) := by
  refine z_call hI hb hsize hM (z_blind hGk) rfl rfl cw.2.2.2.1 cw.2.2.2.2 cw.1 cw.2.1 cw.2.2.1 hdg hW hc1 hs1 (fun U hU hWU => ⟨rfl, z_start hGk hG hK hS hU hWU⟩) (fun v' st t L h0 hWt hQ hL => ?_) (fun x st t L h0 hWt hQ hL => ?_)
  · obtain ⟨hO, hGr⟩ := hQ
    rw [hr] at hO
    have hv : v' = v := by cases (show Outcome.returned v' = .returned v from hO); rfl
    subst hv
    rw [h0] at hGr
    rw [z_nil hL, List.append_nil]
    exact k t.heap hGr (hS.grow hGr.1 hGr.2)
  · obtain ⟨hO, -⟩ := hQ
    rw [hr] at hO
    exact absurd (show Outcome.threw x = .returned v from hO) (fun h => by cases h)
/-- .. and throws -/
theorem z_pT {r : zR} {E : String} (hI : z_In p l e R s m args below meth c H (F0 m pc ls st0) rest y av.toArray) (hb : c.code = cc) (hsize : ls.size = c.maxLocals) (hM : z_P G D cl tys lo l y w rm av X r) (hr : r = .inr E) (hGk : z_Gk G lo) (hG : G s) (hK : va_K D cl tys s) (hS : z_S D cl lo X0 s.heap X H locs) (cw : z_Cw R s args y w rm maxL)
    (hdg : decode cc pc = .ok (ig, 3)) (hW : (rest.map fun v => v.category).sum ≤ 8) (hc1 : cells + rm.cells ≤ R.cells) (hs1 : slots + rm.slots ≤ R.slots)
    (k : ∀ (x : Addr) (H1 : Heap), z_Gr H H1 → z_S D cl lo X0 s.heap X H1 locs → z_Th E x s H1 → z_T p l e R s m args below meth c H1 locs (cells + rm.cells) (slots + rm.slots) Q (F0 m pc ls rest) x) :
    W p l e R s m args below meth c H locs cells slots Q (F0 m pc ls st0) := by
  refine z_call hI hb hsize hM (z_blind hGk) rfl rfl cw.2.2.2.1 cw.2.2.2.2 cw.1 cw.2.1 cw.2.2.1 hdg hW hc1 hs1 (fun U hU hWU => ⟨rfl, z_start hGk hG hK hS hU hWU⟩) (fun v' st t L h0 hWt hQ hL => ?_) (fun x st t L h0 hWt hQ hL => ?_)
  · obtain ⟨hO, -⟩ := hQ
    rw [hr] at hO
    obtain ⟨a9, h9, -⟩ := (show ∃ a9, Outcome.returned v' = .threw a9 ∧ z_Th E a9 t t.heap from hO)
    cases h9
  · obtain ⟨hO, hGr⟩ := hQ
    rw [hr] at hO
    obtain ⟨a9, h9, hT⟩ := (show ∃ a9, Outcome.threw x = .threw a9 ∧ z_Th E a9 t t.heap from hO)
    cases h9
    rw [h0] at hGr
    rw [z_nil hL, List.append_nil]
    exact k x t.heap hGr (hS.grow hGr.1 hGr.2) (hT.moved hWt.alike.symm)
/-- what a call that may write leaves -/
theorem z_after {st t : State} {L : List Loc} {X' : zM} (hS : z_S D cl lo X0 s.heap X H locs) (h0 : st.heap = H) (hL : ∀ q ∈ L, lo ≤ q.base) (g1 : z_W D cl X' t.heap) (g2 : st.heap.size ≤ t.heap.size) (g3 : ∀ q : Nat, q < st.heap.size → X q = none → t.heap[q]? = st.heap[q]?) (g4 : ∀ q, X' q ≠ none → X q ≠ none ∨ st.heap.size ≤ q) :
    z_S D cl lo X0 s.heap X' t.heap (locs ++ L) := by
  rw [h0] at g2 g3 g4
  refine ⟨g1, Nat.le_trans hS.2.1 g2, fun q h1 h2 => ?_, fun q hq => ?_, fun q hq => ?_, hS.2.2.2.2.2⟩
  · have hX : X q = none := by
      cases hx : X q with
      | none => rfl
      | some e => exact ((hS.2.2.2.2.1 q (by rw [hx]; exact fun z => by cases z)).elim (fun z => absurd h2 z) (fun z => absurd h1 (Nat.not_lt.mpr z)))
    rw [g3 q (Nat.lt_of_lt_of_le h1 hS.2.1) hX]
    exact hS.2.2.1 q h1 h2
  · rcases List.mem_append.mp hq with h | h
    · exact hS.2.2.2.1 q h
    · exact hL q h
  · rcases g4 q hq with h | h
    · exact hS.2.2.2.2.1 q h
    · exact Or.inr (Nat.le_trans hS.2.1 h)
/-- a call of a method that may write -/
theorem z_w {Po : zR → zM → Prop} (hI : z_In p l e R s m args below meth c H (F0 m pc ls st0) rest y av.toArray) (hb : c.code = cc) (hsize : ls.size = c.maxLocals) (hM : z_C G D cl tys lo l y w rm av X Po) (hGk : z_Gk G lo) (hG : G s) (hK : va_K D cl tys s) (hS : z_S D cl lo X0 s.heap X H locs) (cw : z_Cw R s args y w rm maxL)
    (hdg : decode cc pc = .ok (ig, 3)) (hW : (rest.map fun v => v.category).sum ≤ 8) (hc1 : cells + rm.cells ≤ R.cells) (hs1 : slots + rm.slots ≤ R.slots)
    (k1 : ∀ (v : Option Value) (X' : zM) (H1 : Heap) (locs1 : List Loc), Po (.inl v) X' → (∀ q, X' q ≠ none → X q ≠ none ∨ H.size ≤ q) → z_S D cl lo X0 s.heap X' H1 locs1 → (∀ q : Nat, q < H.size → X q = none → H1[q]? = H[q]?) → H.size ≤ H1.size → W p l e R s m args below meth c H1 locs1 (cells + rm.cells) (slots + rm.slots) Q (F0 m (pc + 3) ls (v.toList ++ rest)))
    (k2 : ∀ (E : String) (x : Addr) (X' : zM) (H1 : Heap) (locs1 : List Loc), Po (.inr E) X' → (∀ q, X' q ≠ none → X q ≠ none ∨ H.size ≤ q) → z_S D cl lo X0 s.heap X' H1 locs1 → (∀ q : Nat, q < H.size → X q = none → H1[q]? = H[q]?) → H.size ≤ H1.size → z_Th E x s H1 → z_T p l e R s m args below meth c H1 locs1 (cells + rm.cells) (slots + rm.slots) Q (F0 m pc ls rest) x) :
    W p l e R s m args below meth c H locs cells slots Q (F0 m pc ls st0) := by
  refine z_call hI hb hsize hM (z_blind hGk) rfl rfl cw.2.2.2.1 cw.2.2.2.2 cw.1 cw.2.1 cw.2.2.1 hdg hW hc1 hs1 (fun U hU hWU => ⟨rfl, z_start hGk hG hK hS hU hWU⟩) (fun v' st t L h0 hWt hQ hL => ?_) (fun x st t L h0 hWt hQ hL => ?_)
  · obtain ⟨r, X', hP, hO, g1, g2, g3, g4⟩ := hQ
    have hz := z_after hS h0 hL g1 g2 g3 g4
    rw [h0] at g2 g3 g4
    cases r with
    | inl v =>
      have hv : v' = v := by cases (show Outcome.returned v' = .returned v from hO); rfl
      subst hv
      exact k1 v' X' t.heap _ hP g4 hz g3 g2
    | inr E =>
      obtain ⟨a9, h9, -⟩ := (show ∃ a9, Outcome.returned v' = .threw a9 ∧ z_Th E a9 t t.heap from hO)
      cases h9
  · obtain ⟨r, X', hP, hO, g1, g2, g3, g4⟩ := hQ
    have hz := z_after hS h0 hL g1 g2 g3 g4
    rw [h0] at g2 g3 g4
    cases r with
    | inl v => exact absurd (show Outcome.threw x = .returned v from hO) (fun h => by cases h)
    | inr E =>
      obtain ⟨a9, h9, hT⟩ := (show ∃ a9, Outcome.threw x = .threw a9 ∧ z_Th E a9 t t.heap from hO)
      cases h9
      exact k2 E x X' t.heap _ hP g4 hz g3 g2 (hT.moved hWt.alike.symm)
end Z10
/-! ===== the ends ===== -/
section Z11
variable {p : Program} {l : Launch} {e : Env} {R : Room} {s : State} {m : MethodId} {args : Array Value} {below : List Frame} {meth : Method} {c : Code} {H : Heap} {locs : List Loc} {cells slots mc ms : Nat}
variable {cc : ByteArray} {pc : Nat} {ls : Array Slot} {rest : List Value} {D : va_G} {cl : List vw_C} {lo : Nat} {X0 X : zM}
theorem z_Piret {r : zR} {v : Int32} (hexec : p.tables.exec = Jvm.exec) (hb : c.code = cc) {ty : FieldType} (hr : meth.sig.returnType = some ty) (hn : narrow ty (.int v) = .int v) (hlocks : meth.locks = false) (hg : z_Gr s.heap H) (he : r = .inl (some (.int v))) (h1 : cells ≤ mc) (h2 : slots ≤ ms) (hdg : decode cc pc = .ok (.ireturn, 1)) :
    W p l e R s m args below meth c H [] cells slots (z_MQ below (z_pu r) args s mc ms (fun _ => False)) (F0 m pc ls [.int v]) :=
  W.widen h1 h2 (z_mono (fun _ => z_MQ.of) (W.zret hexec hb hr hn (fun t ht _ => ⟨by rw [he]; rfl, by rw [ht]; exact hg⟩) (fun q hq => nomatch hq) hdg hlocks))
theorem z_Pvret {r : zR} (hexec : p.tables.exec = Jvm.exec) (hb : c.code = cc) (hr : meth.sig.returnType = none) (hlocks : meth.locks = false) (hg : z_Gr s.heap H) (he : r = .inl none) (h1 : cells ≤ mc) (h2 : slots ≤ ms) (hdg : decode cc pc = .ok (.return_, 1)) :
    W p l e R s m args below meth c H [] cells slots (z_MQ below (z_pu r) args s mc ms (fun _ => False)) (F0 m pc ls []) :=
  W.widen h1 h2 (z_mono (fun _ => z_MQ.of) (W.vret hexec hb hr (fun t ht _ => ⟨by rw [he]; rfl, by rw [ht]; exact hg⟩) (fun q hq => nomatch hq) hdg hlocks))
theorem z_Paret {r : zR} {v : Nat} {C : String} (hexec : p.tables.exec = Jvm.exec) (hb : c.code = cc) (hr : meth.sig.returnType = some (.object C)) (hlocks : meth.locks = false) (hg : z_Gr s.heap H) (he : r = .inl (some (.ref v))) (h1 : cells ≤ mc) (h2 : slots ≤ ms) (hdg : decode cc pc = .ok (.areturn, 1)) :
    W p l e R s m args below meth c H [] cells slots (z_MQ below (z_pu r) args s mc ms (fun _ => False)) (F0 m pc ls [.ref v]) :=
  W.widen h1 h2 (z_mono (fun _ => z_MQ.of) (W.aret hexec hb hr (Or.inl ⟨C, rfl⟩) (Or.inr ⟨v, rfl⟩) (fun t ht _ => ⟨by rw [he]; rfl, by rw [ht]; exact hg⟩) (fun q hq => nomatch hq) hdg hlocks))
/-- a callee has thrown, and nobody catches it here -/
theorem z_Pout {r : zR} {E : String} {x : Addr} (hout : ∀ z ∈ c.exceptionTable.toList, ∀ pc, covers z pc = false) (hlocks : meth.locks = false) (hg : z_Gr s.heap H) (hT : z_Th E x s H) (he : r = .inr E) (h1 : cells ≤ mc) (h2 : slots ≤ ms) :
    z_T p l e R s m args below meth c H [] cells slots (z_MQ below (z_pu r) args s mc ms (fun _ => False)) (F0 m pc ls rest) x :=
  z_Twiden h1 h2 (z_out (fun t ht hW => ⟨by rw [he]; exact ⟨x, rfl, by rw [ht]; exact hT.moved hW.alike⟩, by rw [ht]; exact hg⟩) (fun q hq => nomatch hq) (fun z hz => hout z hz pc) hlocks)
theorem z_Qend {Po : zR → zM → Prop} {r : zR} {o : Outcome} {t : State} {a9 : Array Value} (hS : z_S D cl lo X0 s.heap X H locs) (hP : Po r X) (ht : t.heap = H) (hO : z_Oc r o t) : z_Q D cl X0 Po a9 s o t :=
  ⟨r, X, hP, hO, by rw [ht]; exact hS.1, by rw [ht]; exact hS.2.1, fun q h1 h2 => by rw [ht]; exact hS.2.2.1 q h1 h2, hS.2.2.2.2.1⟩
theorem z_Ciret {Po : zR → zM → Prop} {v : Int32} (hexec : p.tables.exec = Jvm.exec) (hb : c.code = cc) {ty : FieldType} (hr : meth.sig.returnType = some ty) (hn : narrow ty (.int v) = .int v) (hlocks : meth.locks = false) (hS : z_S D cl lo X0 s.heap X H locs) (hP : Po (.inl (some (.int v))) X) (h1 : cells ≤ mc) (h2 : slots ≤ ms) (hdg : decode cc pc = .ok (.ireturn, 1)) :
    W p l e R s m args below meth c H locs cells slots (z_MQ below (z_Q D cl X0 Po) args s mc ms (fun q => lo ≤ q)) (F0 m pc ls [.int v]) :=
  W.widen h1 h2 (z_mono (fun _ => z_MQ.of) (W.zret hexec hb hr hn (fun t ht _ => z_Qend hS hP ht rfl) hS.2.2.2.1 hdg hlocks))
theorem z_Cvret {Po : zR → zM → Prop} (hexec : p.tables.exec = Jvm.exec) (hb : c.code = cc) (hr : meth.sig.returnType = none) (hlocks : meth.locks = false) (hS : z_S D cl lo X0 s.heap X H locs) (hP : Po (.inl none) X) (h1 : cells ≤ mc) (h2 : slots ≤ ms) (hdg : decode cc pc = .ok (.return_, 1)) :
    W p l e R s m args below meth c H locs cells slots (z_MQ below (z_Q D cl X0 Po) args s mc ms (fun q => lo ≤ q)) (F0 m pc ls []) :=
  W.widen h1 h2 (z_mono (fun _ => z_MQ.of) (W.vret hexec hb hr (fun t ht _ => z_Qend hS hP ht rfl) hS.2.2.2.1 hdg hlocks))
theorem z_Cout {Po : zR → zM → Prop} {E : String} {x : Addr} (hout : ∀ z ∈ c.exceptionTable.toList, ∀ pc, covers z pc = false) (hlocks : meth.locks = false) (hS : z_S D cl lo X0 s.heap X H locs) (hT : z_Th E x s H) (hP : Po (.inr E) X) (h1 : cells ≤ mc) (h2 : slots ≤ ms) :
    z_T p l e R s m args below meth c H locs cells slots (z_MQ below (z_Q D cl X0 Po) args s mc ms (fun q => lo ≤ q)) (F0 m pc ls rest) x :=
  z_Twiden h1 h2 (z_out (fun t ht hW => z_Qend hS hP ht ⟨x, rfl, by rw [ht]; exact hT.moved hW.alike⟩) hS.2.2.2.1 (fun z hz => hout z hz pc) hlocks)
end Z11
end
section
/-! ===== what holds of the state all through: words, strings, statics ===== -/
/-- a word that stays true while the tables grow warmer -/
def z_ok (w : Cond) : Bool := goodWord w || (w.onTables && w.keepsCast)
theorem z_ok_at {args a' : Array Value} {s U : State} {w : Cond} (hW : s.WarmedH U.vm) (h : z_ok w = true) (hb : w.before args s = true) : w.before a' U = true := by
  unfold z_ok at h
  rcases Bool.or_eq_true_iff.mp h with h | h
  · exact word_at hW (good_of_word h) hb
  · simp only [Bool.and_eq_true] at h
    exact va_tabs (u := s.setVm U.vm) h.1 rfl (Cond.before_shiftedCast (State.Shifted.of_warmed hW) w h.2 hb)
def z_tb : List Cond := lw_tbl.filter z_ok
theorem z_in {w : Cond} (h : w ∈ lw_tbl) (hz : z_ok w = true) : w ∈ z_tb := List.mem_filter.mpr ⟨h, hz⟩
/-- a static's place and what it holds: null or a reference -/
def z_L (C n d : String) (A : Nat → Prop) (U : State) (H : Heap) : Prop := ∃ (c : ClassId) (k : Class) (i : Nat) (f : Field) (a : Nat) (cell : Cell), U.vm.findClass C = some c ∧ U.fieldFound? C n d = some (c, k, i, f) ∧ f.isStatic = true ∧ k.statics = some a ∧ H[a]? = some cell ∧ cell.vm.isStatics = true ∧ cell.cls = c ∧ f.slot < cell.slots.size ∧ k.staticTypes[f.slot]? = some f.type ∧ ¬ A a
theorem z_L.moved {C n d : String} {A : Nat → Prop} {u U : State} {H : Heap} (hvm : u.vm.Alike U.vm) (h : z_L C n d A u H) : z_L C n d A U H := by
  obtain ⟨c, k, i, f, a, cell, h1, h2, h3, h4, h5, h6, h7, h8, h9, h10⟩ := h
  obtain ⟨k', hi', he⟩ := State.fieldFound?_setVm hvm h2
  exact ⟨c, k', i, f, a, cell, by rw [hvm.findClass]; exact h1, hi', h3, by rw [he]; exact h4, h5, h6, h7, h8, by rw [he]; exact h9, h10⟩
theorem z_L.kept {C n d : String} {A : Nat → Prop} {U : State} {H H1 : Heap} (h : z_L C n d A U H) (hq : ∀ a : Nat, a < H.size → ¬ A a → H1[a]? = H[a]?) : z_L C n d A U H1 := by
  obtain ⟨c, k, i, f, a, cell, h1, h2, h3, h4, h5, h6, h7, h8, h9, h10⟩ := h
  exact ⟨c, k, i, f, a, cell, h1, h2, h3, h4, by rw [hq a (Array.getElem?_eq_some_iff.mp h5).1 h10]; exact h5, h6, h7, h8, h9, h10⟩
theorem z_L.word {C n d : String} {A : Nat → Prop} {s : State} {args : Array Value} (h : z_L C n d A s s.heap) : (Cond.laysStatic C n d).before args s = true := by
  obtain ⟨c, k, i, f, a, cell, h1, h2, h3, h4, h5, h6, h7, h8, h9, -⟩ := h
  show (Cond.laysStatic C n d).holds args s none s [] = true
  exact Cond.laysStatic_of h1 h2 h3 h4 h5 h6 h7 h8 h9
theorem z_L.of {args : Array Value} {s : State} {C n d : String} {A : Nat → Prop} (hl : (Cond.laysStatic C n d).before args s = true) (hA : ∀ a : Nat, a < s.heap.size → ¬ A a) : z_L C n d A s s.heap := by
  obtain ⟨c, k, i, f, a, cell, h1, h2, h3, h4, h5, h6, h7, h8, h9⟩ := Cond.laysStatic_spec hl
  exact ⟨c, k, i, f, a, cell, h1, h2, h3, h4, h5, h6, h7, h8, h9, hA a (Array.getElem?_eq_some_iff.mp h5).1⟩
theorem z_isRef {C n d : String} {v : Value} {A : Nat → Prop} {s : State} {args : Array Value} (h : va_Z C n d v A s s.heap) (hv : v.isRef = true) : (Cond.isRef (.static C n d)).before args s = true := by
  obtain ⟨cf, kf, fi, f, a, cell, h1, h2, h3, h4, h5, h6, h7, -⟩ := h
  have he : (Term.static C n d).eval args s none [] s = some v := by
    simp [Term.eval, State.fieldNamed?, h1, h2, h4, h5, h6, h7]
  simp only [Cond.before, Cond.holds, Cond.value, he]
  cases v <;> simp_all [Value.isRef]
theorem z_isRefq {C n d : String} {A : Nat → Prop} {s : State} {args : Array Value} (h : va_Zq C n d A s s.heap) : (Cond.isRef (.static C n d)).before args s = true := by
  rcases h with h | ⟨t, h⟩
  · exact z_isRef h rfl
  · exact z_isRef h rfl
/-- the texts of the exceptions, by their places in the pool -/
def z_strs : List (Nat × String) := [(199, "a number is outside its range"), (35, "no room for another sale"), (194, "there is no such sale"), (53, "there is a return of this sale"), (59, "no room for another return"), (197, "there is no such return"), (71, "the return is neither announced nor waiting"), (73, "a person lets in a waiting return, none an announced one"), (201, "the return is not here"), (95, "the quarantine is so already"), (205, "the return is neither here nor graded"), (207, "the return is quarantined"), (112, "a bad check forbids so good a grade"), (203, "the return is not graded"), (127, "the best grade needs no repair"), (132, "the return is not in repair"), (134, "the grade is too good for scrap"), (143, "the serial is that of another sale"), (145, "the grade is too bad for resale"), (150, "the last day of the lot is over"), (165, "this is more than is left"), (173, "a reason has no such number"), (182, "a customer has no such number"), (190, "a return has no such number")]
/-- the table of percents -/
def z_pc : Nat → Int32 := fun j => if j = 0 then 100 else if j = 1 then 90 else if j = 2 then 70 else if j = 3 then 40 else 0
def z_G (lo tP : Nat) (U : State) : Prop :=
  (∀ w ∈ z_tb, w.before #[] U = true) ∧ va_AO R_SA U ∧ va_AO R_RE U ∧ va_Nw (.fieldLinkNest "ReturnRows$Return" 52 "ReturnRows" "PERCENTS" "[I" "ReturnRows") U ∧ (∀ q ∈ z_strs, ∃ a, vk_R R_RR q.1 q.2 a U) ∧
  (va_Zq Bundle.tN "UNASSIGNED_STACK" Bundle.steD (fun q => lo ≤ q) U U.heap ∧ z_L Bundle.tN "UNASSIGNED_STACK" Bundle.steD (fun q => lo ≤ q) U U.heap) ∧
  (va_Zq Bundle.tN "SUPPRESSED_SENTINEL" Bundle.listD (fun q => lo ≤ q) U U.heap ∧ z_L Bundle.tN "SUPPRESSED_SENTINEL" Bundle.listD (fun q => lo ≤ q) U U.heap) ∧
  va_Z R_RR "PERCENTS" "[I" (.ref tP) (fun q => lo ≤ q) U U.heap ∧ va_T .int tP 5 (fun j => .int (z_pc j)) (fun q => lo ≤ q) U U.heap
theorem z_Gkeeps (lo tP : Nat) : z_Gk (z_G lo tP) lo := by
  intro u U h hW hq
  have hq' : ∀ a : Nat, a < u.heap.size → ¬ (fun q => lo ≤ q) a → U.heap[a]? = u.heap[a]? := fun a _ h2 => hq a (Nat.not_le.mp h2)
  obtain ⟨h1, h2, h3, h4, h5, ⟨h6, h6'⟩, ⟨h7, h7'⟩, h8, h9⟩ := h
  refine ⟨fun w hw => z_ok_at hW (List.mem_filter.mp hw).2 (h1 w hw), va_AO.moved hW.alike h2, va_AO.moved hW.alike h3, va_Nw.warmF hW h4, fun q hq => ?_, ⟨(va_Zq.moved hW.alike h6).kept hq', (z_L.moved hW.alike h6').kept hq'⟩, ⟨(va_Zq.moved hW.alike h7).kept hq', (z_L.moved hW.alike h7').kept hq'⟩, (va_Z.moved hW.alike h8).kept hq', (va_T.moved hW.alike h9).kept hq'⟩
  obtain ⟨a, ha⟩ := h5 q hq
  exact ⟨a, vk_R.warm hW ha⟩
/-- any word of the tables, inside a method -/
theorem z_G.w {lo tP : Nat} {U : State} (h : z_G lo tP U) {w : Cond} (hw : w ∈ lw_tbl) (hz : z_ok w = true) (args : Array Value) : w.before args U = true := z_ok_at (State.WarmedH.refl U) hz (h.1 w (z_in hw hz))
theorem z_G.ts {lo tP : Nat} {U : State} (h : z_G lo tP U) (args : Array Value) : ∀ w ∈ z_tb, w.before args U = true := fun w hw => z_ok_at (State.WarmedH.refl U) (List.mem_filter.mp hw).2 (h.1 w hw)
theorem z_G.at {lo tP : Nat} {s : State} (h : z_G lo tP s) {w : Cond} (hw : w ∈ lw_tbl) (hz : z_ok w = true) : ∀ (a' : Array Value) (U : State), s.WarmedH U.vm → w.before a' U = true := fun a' U hW => z_ok_at hW hz (h.1 w (z_in hw hz))
theorem j_RR : ∀ w ∈ u_ws R_RR F_RR 5, w ∈ z_tb := fun w h => z_in (i_RR w h) (by revert w h; decide +kernel)
theorem j_SA : ∀ w ∈ u_ws R_SA F_SA 6, w ∈ z_tb := fun w h => z_in (i_SA w h) (by revert w h; decide +kernel)
theorem j_RE : ∀ w ∈ u_ws R_RE F_RE 15, w ∈ z_tb := fun w h => z_in (i_RE w h) (by revert w h; decide +kernel)
theorem j_MO : ∀ w ∈ u_ws R_MO F_MO 23, w ∈ z_tb := fun w h => z_in (i_MO w h) (by revert w h; decide +kernel)
/-! the words of a throw -/
def z_no (w : Cond) : Bool := decide (w ≠ .isRef (.static Bundle.tN "UNASSIGNED_STACK" Bundle.steD)) && decide (w ≠ .isRef (.static Bundle.tN "SUPPRESSED_SENTINEL" Bundle.listD)) && decide (w ≠ .laysStatic Bundle.tN "UNASSIGNED_STACK" Bundle.steD) && decide (w ≠ .laysStatic Bundle.tN "SUPPRESSED_SENTINEL" Bundle.listD)
abbrev z_nm : List String := ["java/lang/RuntimeException", "java/lang/Exception"]
theorem z_ownOf {lo tP : Nat} {s : State} {args : Array Value} {ic : Nat} {E : String} (h : z_G lo tP s) (hm : ((Bundle.ownAtoms R_RR ic E z_nm).filter z_no).all (fun w => decide (w ∈ lw_tbl) && z_ok w) = true) : ∀ w ∈ Bundle.ownAtoms R_RR ic E z_nm, w.before args s = true := by
  intro w hw
  by_cases hn : z_no w = true
  · have h1 := List.all_eq_true.mp hm w (List.mem_filter.mpr ⟨hw, hn⟩)
    simp only [Bool.and_eq_true, decide_eq_true_eq] at h1
    exact h.w h1.1 h1.2 args
  · obtain ⟨-, -, -, -, -, ⟨h6, h6'⟩, ⟨h7, h7'⟩, -, -⟩ := h
    simp only [z_no, Bool.and_eq_true, decide_eq_true_eq] at hn
    by_cases e1 : w = .isRef (.static Bundle.tN "UNASSIGNED_STACK" Bundle.steD)
    · rw [e1]; exact z_isRefq h6
    · by_cases e2 : w = .isRef (.static Bundle.tN "SUPPRESSED_SENTINEL" Bundle.listD)
      · rw [e2]; exact z_isRefq h7
      · by_cases e3 : w = .laysStatic Bundle.tN "UNASSIGNED_STACK" Bundle.steD
        · rw [e3]; exact h6'.word
        · by_cases e4 : w = .laysStatic Bundle.tN "SUPPRESSED_SENTINEL" Bundle.listD
          · rw [e4]; exact h7'.word
          · exact absurd ⟨⟨⟨e1, e2⟩, e3⟩, e4⟩ hn
set_option maxRecDepth 100000 in
theorem o_IAE : ((Bundle.ownAtoms R_RR 175 E_IAE z_nm).filter z_no).all (fun w => decide (w ∈ lw_tbl) && z_ok w) = true := by decide +kernel
set_option maxRecDepth 100000 in
theorem o_ISE : ((Bundle.ownAtoms R_RR 55 E_ISE z_nm).filter z_no).all (fun w => decide (w ∈ lw_tbl) && z_ok w) = true := by decide +kernel
set_option maxRecDepth 100000 in
theorem o_UOE : ((Bundle.ownAtoms R_RR 37 E_UOE z_nm).filter z_no).all (fun w => decide (w ∈ lw_tbl) && z_ok w) = true := by decide +kernel
end
section
/-! ===== NoSuchElementException: its constructor's super call lies at another place of its pool than the library's law has it ===== -/
/-- the words of that throw -/
def z_own13 (own : String) (ic : Nat) (X : String) (ix : Nat) (bx : ByteArray) : List Cond :=
  Bundle.throwableAtoms ++ Bundle.throwableSAtoms ++ Bundle.passSAtoms X "java/lang/RuntimeException" ix bx ++ Bundle.chainSAtoms "java/lang/RuntimeException" ["java/lang/Exception"] ++
  [.methodLink own ic (Bundle.initS X), .instantiable X 6, .selects X Bundle.tFill0 Bundle.tFill0, .selects X Bundle.tFill Bundle.tFill,
   .lays X Bundle.tN "cause" "Ljava/lang/Throwable;", .lays X Bundle.tN "stackTrace" Bundle.steD, .lays X Bundle.tN "suppressedExceptions" Bundle.listD, .lays X Bundle.tN "detailMessage" "Ljava/lang/String;",
   .isRef (.static Bundle.tN "UNASSIGNED_STACK" Bundle.steD), .isRef (.static Bundle.tN "SUPPRESSED_SENTINEL" Bundle.listD),
   .fieldLink Bundle.tN 198 Bundle.tN "backtrace" "Ljava/lang/Object;", .lays Bundle.tN Bundle.tN "backtrace" "Ljava/lang/Object;", .lays X Bundle.tN "backtrace" "Ljava/lang/Object;"]
section Z13
variable {p : Program} {l : Launch} {e : Env} {R : Room} {s : State} {m₀ : MethodId} {args : Array Value} {below : List Frame} {meth : Method} {c : Code} {W0 : State} {cells slots : Nat}
set_option maxHeartbeats 4000000 in
theorem z_ctor13 (X : Stand p l e R s m₀ args below meth c W0 [] cells slots) (hexec : p.tables.exec = Jvm.exec) (htr : e.platform.stackTraces = false) {own cls : String} {ic ix : Nat} {bx : ByteArray}
    (hown : s.vm.findClass own = some m₀.cls) (hcls : Bundle.fit cls = true) (b0 : decode bx 0 = .ok (.aload_n 0, 1)) (b1 : decode bx 1 = .ok (.aload_n 1, 1)) (b2 : decode bx 2 = .ok (.invokespecial ix, 3)) (b5 : decode bx 5 = .ok (.return_, 1))
    (h : ∀ a ∈ z_own13 own ic cls ix bx, a.before args s = true)
    {a : Addr} {cX : ClassId} {kX : Class} (hfoundX : s.vm.findClass cls = some cX) (hkX : s.vm.classes[cX]? = some kX) (hcell : W0.heap[a]? = some (freshCell cX kX)) (hnew : s.heap.size ≤ a)
    {msg : Value} (hmsg : msg.isRef = true)
    {g : JFrame} (hg : g.method = m₀) (hsize : g.locals.size = c.maxLocals) (hlocked : g.locked = none) (hentered : g.entered = []) {rest : List Value} (hstack : g.stack = msg :: .ref a :: .ref a :: rest)
    (hd6 : decode c.code g.pc = .ok (.invokespecial ic, 3)) (hd9 : decode c.code (g.pc + 3) = .ok (.athrow, 1)) (hout : ∀ x ∈ c.exceptionTable.toList, covers x (g.pc + 3) = false)
    (hRframes : 5 < R.frames) (hRlocals : 2 * g.monitorRoom + ((Value.ref a :: rest).map fun v => v.category).sum + 81 ≤ R.locals) (hlocks : meth.locks = false) :
    ∃ U : State, Steps p.tables e below (W0.setTop g) U ∧ U.status = .running ∧ Ended U below (.threw a) ∧ s.WarmedH U.vm ∧ s.sameButNew ({ U with vm := s.vm } : State) [] cells slots ∧
      ∃ ce, U.heap[a]? = some ce ∧ ce.vm = .none ∧ s.vm.findClass cls = some ce.cls := by
  have howns : e.platform.frameOwnsMonitors = true := by rw [X.admits.platform]
  have hfin : e.platform.finalization = false := by rw [X.admits.platform]
  have hpl : e.platform.magicAccessors = ({} : Platform).magicAccessors := by rw [X.admits.platform]
  have a' : ∀ x, x ∈ z_own13 own ic cls ix bx → x.holds args s none s [] = true := fun x hx => h x hx
  obtain ⟨T, Z0, L, -, Y⟩ := ThrowableC.of_atoms (args := args) howns hfin hpl (fun x hx => h x (by simp [z_own13, hx]))
  obtain ⟨Z, M, LZ, LM, hnZ⟩ := Init0T.ofS_atoms (args := args) hpl L Y (fun x hx => h x (by simp [z_own13, hx]))
  obtain ⟨P2, Ps, hlen, L2, hL, hP2m, hlink2, hlink⟩ := Bundle.chainS (args := args) hpl hnZ ["java/lang/Exception"] "java/lang/RuntimeException" (by decide +kernel) (fun n hn => by rw [List.mem_singleton.mp hn]; decide +kernel) (fun x hx => h x (by simp [z_own13, hx]))
  obtain ⟨P1, L1, hP1m, hP1s⟩ := PassC.ofS_atoms (args := args) (s := s) hpl (X := cls) (Y := "java/lang/RuntimeException") (index := ix) (bytes := bx) (Bundle.fit_spec hcls).1 (by decide) b0 b1 b2 b5 (fun x hx => h x (by simp [z_own13, hx]))
  have hsup : P1.sup = P2.m := Option.some.inj (hP1s.symm.trans hP2m)
  have hfound : s.vm.findClass cls = some P1.m.cls := findClass_of_methodNamed hP1m
  cases Option.some.inj (hfoundX.symm.trans hfound)
  obtain ⟨c1, kX', hc1, hk, hord, -, -, hn6⟩ := Cond.instantiable_spec (a' (.instantiable cls 6) (by simp [z_own13]))
  cases Option.some.inj (hc1.symm.trans hfound)
  cases Option.some.inj (hkX.symm.trans hk)
  have hsel0 : selectMethod e.platform s.vm P1.m.cls T.fill0 = .method T.fill0 := by
    obtain ⟨c2, r2, m2, q1, q2, q3, q4, -⟩ := Cond.selects_spec (a' (.selects cls Bundle.tFill0 Bundle.tFill0) (by simp [z_own13]))
    cases Option.some.inj (q1.symm.trans hfound)
    cases Option.some.inj (q2.symm.trans (State.methodFound?_of_named Y.fill0 (by decide)))
    cases Option.some.inj (q3.symm.trans Y.fill0)
    rw [Launch.admits_selectMethod X.admits]; exact q4
  have hselF : selectMethod e.platform s.vm P1.m.cls T.fill = .method T.fill := by
    obtain ⟨c2, r2, m2, q1, q2, q3, q4, -⟩ := Cond.selects_spec (a' (.selects cls Bundle.tFill Bundle.tFill) (by simp [z_own13]))
    cases Option.some.inj (q1.symm.trans hfound)
    cases Option.some.inj (q2.symm.trans (State.methodFound?_of_named Y.fill (by decide)))
    cases Option.some.inj (q3.symm.trans Y.fill)
    rw [Launch.admits_selectMethod X.admits]; exact q4
  obtain ⟨cellS0, hcS0, hiss⟩ := Y.statics
  obtain ⟨u0, hu0⟩ := Cond.staticRefV Y.unassigned L.unassignedStatic L.statics hcS0 hiss (a' (.isRef (.static Bundle.tN "UNASSIGNED_STACK" Bundle.steD)) (by simp [z_own13]))
  obtain ⟨sen, hsen⟩ := Cond.staticRefV Y.sentinel L.sentinelStatic L.statics hcS0 hiss (a' (.isRef (.static Bundle.tN "SUPPRESSED_SENTINEL" Bundle.listD)) (by simp [z_own13]))
  obtain ⟨ci198, i198, fB, hk198, hg198, ha198, hsB, -, hnB, htB, hffB⟩ := Cond.ownField (t := .object "java/lang/Object") Y.found L.cls (by decide +kernel) (a' (.fieldLink Bundle.tN 198 Bundle.tN "backtrace" "Ljava/lang/Object;") (by simp [z_own13])) (a' (.lays Bundle.tN Bundle.tN "backtrace" "Ljava/lang/Object;") (by simp [z_own13])) e.platform hpl
  obtain ⟨cellS, hcS', heS, -, hkeep⟩ := X.same.2.2.2.2.2 T.aS cellS0 hcS0
  have hcellS : W0.heap[T.aS]? = some cellS := hcS'
  have hout' : ∀ i, (⟨T.aS, i⟩ : Loc) ∉ ([] : List Loc) := fun i hmem => nomatch hmem
  have hknownS : cellS.vm ≠ .unknown := by
    rw [heS]; intro hu
    rw [show cellS0.vm = .unknown from hu] at hiss
    cases hiss
  have hneS : T.aS ≠ a := Nat.ne_of_lt (Nat.lt_of_lt_of_le (Array.getElem?_eq_some_iff.mp hcS0).1 hnew)
  obtain ⟨iM, hffM⟩ := Y.msg
  obtain ⟨tyC, dC, hdC, hdnC⟩ := Cond.laysAt hfound hk Y.cause (a' (.lays cls Bundle.tN "cause" "Ljava/lang/Throwable;") (by simp [z_own13]))
  obtain ⟨tyS, dS, hdS, hdnS⟩ := Cond.laysAt hfound hk Y.stack (a' (.lays cls Bundle.tN "stackTrace" Bundle.steD) (by simp [z_own13]))
  obtain ⟨tyP, dP, hdP, hdnP⟩ := Cond.laysAt hfound hk Y.supp (a' (.lays cls Bundle.tN "suppressedExceptions" Bundle.listD) (by simp [z_own13]))
  obtain ⟨tyM, dM, hdM, hdnM⟩ := Cond.laysAt hfound hk hffM (a' (.lays cls Bundle.tN "detailMessage" "Ljava/lang/String;") (by simp [z_own13]))
  obtain ⟨tyB, dB, hdB, hdnB⟩ := Cond.laysAt hfound hk hffB (a' (.lays cls Bundle.tN "backtrace" "Ljava/lang/Object;") (by simp [z_own13]))
  have bC := Cond.laysApart hdB hdC hdnB hdnC (by rw [hnB, Y.causeName]; decide)
  have bS := Cond.laysApart hdB hdS hdnB hdnS (by rw [hnB, Y.stackName]; decide)
  have bP := Cond.laysApart hdB hdP hdnB hdnP (by rw [hnB, Y.suppName]; decide)
  have hskip : SkipFacts T e.platform s (fun u => u) u0 ((preparedCellV T.toThrowableT (freshCell P1.m.cls kX) a u0 sen).withEntry W0.cur) :=
    ⟨{ ci198 := ci198, i198 := i198, fBack := fB }, ⟨hk198, hg198, ha198, hsB⟩, by
      have := fresh_default (c := P1.m.cls) tyB
      rw [htB] at this
      simpa [preparedCellV, Cell.setSlot, Cell.withEntry, Array.getElem?_setIfInBounds, bC, bS, bP, bC.symm, bS.symm, bP.symm, defaultValue] using this, fun _ _ => rfl⟩
  obtain ⟨tm, methC, cdC, kC, vm₁, hnC, -, -, -, -, -, -, -, hW₁, st1⟩ := Steps.initColdS (tb := p.tables) (e := e) (below := below) (s := s) (U := W0) X.here hexec X.warmed hpl hown (t := Bundle.initS cls) rfl rfl (Bundle.fit_spec hcls).2
    (a' (.methodLink own ic (Bundle.initS cls)) (by simp [z_own13])) (h (.instanceMethod (Bundle.initS cls)) (by simp [z_own13, Bundle.passSAtoms])) (bytes := bx) (maxL := 2) (h (.code (Bundle.initS cls) bx 2 none) (by simp [z_own13, Bundle.passSAtoms]))
    (f := g) hg (a := a) (msg := msg) (rest := .ref a :: rest) hstack hd6
  cases Option.some.inj (hnC.symm.trans hP1m)
  have X₁ := X.noted hW₁
  have hlen1 : Ps.length = 1 := hlen
  obtain ⟨vm₂, X₂, st2⟩ := X₁.ctorMessageOffV hexec (g := { g with stack := .ref a :: rest }) hg hsize T L Z LZ M LM (P1 :: P2 :: Ps)
    (fun P hP => by
      rcases List.mem_cons.mp hP with rfl | hP
      · exact L1
      · rcases List.mem_cons.mp hP with rfl | hP
        · exact L2
        · exact hL P hP) ⟨hsup, hlink2, hlink⟩ (u0 := u0) (sen := sen) (self := a) hmsg (cell := freshCell P1.m.cls kX) (cellS := cellS)
    hcell (fun _ => by simp) (by simp) rfl rfl hsel0 hselF hcellS hneS hknownS (by rw [hkeep _ (hout' _)]; exact hu0) (by rw [hkeep _ (hout' _)]; exact hsen)
    (Takes.of_laid hk hord tyC (by rw [Y.causeType]; rfl)) (Takes.of_laid hk hord tyS (by rw [Y.stackType]; exact fits_refV_array _ u0)) (Takes.of_laid hk hord tyP (by rw [Y.suppType]; exact fits_refV_object _ sen))
    (Takes.of_laid hk hord tyM (by rw [Y.msgType]; exact fits_refV_object _ ⟨msg, hmsg⟩)) Y.objLocals hskip htr [] hd6
    (by simp only [List.length_cons, hlen1]; omega) (by simp only [List.length_cons, hlen1]; exact hRlocals)
  obtain ⟨hwalk, hrun, hended, hWU, hsame⟩ := X₂.athrowLeaves hexec (g := { g with stack := .ref a :: rest, pc := g.pc + 3 }) hg hlocked hentered hout (a := a) (rest := rest) rfl hd9 hlocks
  have hlt : a < ((W0.setVm vm₁).setVm vm₂).heap.size := (Array.getElem?_eq_some_iff.mp hcell).1
  have hU := heapAt_setCell_self (s := (W0.setVm vm₁).setVm vm₂) (plainBareV T.toThrowableT (freshCell P1.m.cls kX) a u0 sen msg) hlt
  refine ⟨_, st1 _ (fun acts => ?_), hrun, hended, hWU, hsame.weaken (fun y hy hlt' => ?_) (Nat.le_refl _) (Nat.le_refl _), _, hU, rfl, hfound⟩
  · rw [doInvoke_state]
    exact st2 _ hwalk
  · rcases List.mem_append.mp hy with h1 | h1
    · exact h1
    · exfalso
      have hb : y.base = a := by
        simp only [List.mem_cons, List.not_mem_nil, or_false] at h1
        rcases h1 with rfl | rfl | rfl | rfl | rfl <;> rfl
      rw [hb] at hlt'
      exact Nat.not_lt.mpr hnew hlt'
/-- throw new NoSuchElementException("text"), where the method has written nothing yet -/
theorem z_throw13 {m : MethodId} {H : Heap} {Qc : Array Value → State → Outcome → State → Prop} {free : Addr → Prop} {cc : ByteArray} {pc : Nat} {ls : Array Slot} {rest : List Value} (hexec : p.tables.exec = Jvm.exec) (hb : c.code = cc) (hl : l.stackTraces = false) {own cls text : String} {ik is ic ix mc ms sa : Nat} {bx : ByteArray}
    (hown : s.vm.findClass own = some m.cls) (hcls : Bundle.fit cls = true) (b0 : decode bx 0 = .ok (.aload_n 0, 1)) (b1 : decode bx 1 = .ok (.aload_n 1, 1)) (b2 : decode bx 2 = .ok (.invokespecial ix, 3)) (b5 : decode bx 5 = .ok (.return_, 1))
    (hk : (Cond.classLink own ik cls).before args s = true) (hini : (Cond.initialized cls).before args s = true) (hstr : vk_R own is text sa s) (hat : ∀ w ∈ z_own13 own ic cls ix bx, w.before args s = true) (hsize : ls.size = c.maxLocals)
    (d0 : decode cc pc = .ok (.new ik, 3)) (d3 : decode cc (pc + 3) = .ok (.dup, 1)) (d4 : decode cc (pc + 4) = .ok (.ldc is, 2)) (d6 : decode cc (pc + 6) = .ok (.invokespecial ic, 3)) (d9 : decode cc (pc + 9) = .ok (.athrow, 1))
    (hout : ∀ x ∈ c.exceptionTable.toList, covers x (pc + 9) = false)
    (hRframes : 5 < R.frames) (hRlocals : (rest.map fun v => v.category).sum + 82 ≤ R.locals) (hRcells : cells + 1 ≤ R.cells) (hRslots : slots + 6 ≤ R.slots) (hlocks : meth.locks = false)
    (hx : ∀ (a : Addr) (t : State), s.WarmedH t.vm → s.heap.size ≤ t.heap.size → (∀ q : Nat, q < s.heap.size → t.heap[q]? = s.heap[q]?) → z_Th cls a t t.heap → Qc args s (.threw a) t) (hc : cells + 1 ≤ mc) (hs : slots + 6 ≤ ms) :
    W p l e R s m args below meth c H [] cells slots (z_MQ below Qc args s mc ms free) (F0 m pc ls rest) := by
  intro T hT X
  have htr : e.platform.stackTraces = false := (show e.platform.stackTraces = l.stackTraces by rw [X.admits.platform]).trans hl
  have hins : (Cond.instantiable cls 6).before args s = true := hat _ (by simp [z_own13])
  obtain ⟨vm₁, cX, kX, hfX, hkX, -, -, X₁, st1⟩ := X.newCold hexec (own := own) (C := cls) (index := ik) (n := 6) hown hk hins hini (g := F0 m pc ls rest) rfl (by rw [hb]; exact d0) hRcells hRslots
  generalize hT1 : (T.setVm vm₁).pushCell { cls := cX, slots := kX.instanceTypes.map defaultValue, vm := .none } = T1 at X₁ st1
  have hcat : (Value.ref T.heap.size).category = 1 := rfl
  have hcellA : T1.heap[T.heap.size]? = some (freshCell cX kX) := by rw [← hT1]; exact State.heap_pushCell_size _ _
  have hnew : s.heap.size ≤ T.heap.size := X.same.2.1
  have d3' : decode c.code (pc + 3) = .ok (.dup, 1) := by rw [hb]; exact d3
  have d4' : decode c.code (pc + 4) = .ok (.ldc is, 2) := by rw [hb]; exact d4
  obtain ⟨U, hsteps, hrun, hend, hW, hsame, ce, hce, hcv, hcc⟩ := z_ctor13 X₁ hexec htr (own := own) (cls := cls) (ic := ic) hown hcls b0 b1 b2 b5 hat hfX hkX hcellA hnew (msg := .ref sa) rfl
    (g := { method := m, pc := pc + 6, locals := ls, stack := .ref sa :: .ref T.heap.size :: .ref T.heap.size :: rest, locked := none }) rfl hsize rfl rfl (rest := rest) rfl
    (by rw [hb]; exact d6) (by rw [hb]; exact d9) hout hRframes (by simp only [List.map_cons, List.sum_cons, hcat]; omega) hlocks
  obtain ⟨f1, f2⟩ := z_frame hsame
  refine ⟨U, ?_, .threw T.heap.size, hrun, hend, hx _ U hW f1 f2 ⟨ce, hce, hcv, by rw [hW.alike.findClass]; exact hcc⟩, [], ⟨hW, hsame.mono hc hs⟩, fun q hq => nomatch hq⟩
  refine st1 _ ?_
  show Steps p.tables e below (T1.setTop { method := m, pc := pc + 3, locals := ls, stack := .ref T.heap.size :: rest, locked := none }) _
  jvm_step X₁.here [X₁.here.top, hexec, d3', Value.category]
  exact X₁.ldcString hexec (own := own) (text := text) (index := is) (a := sa) hown hstr.1 hstr.2
    (g := { method := m, pc := pc + 4, locals := ls, stack := .ref T.heap.size :: .ref T.heap.size :: rest, locked := none }) rfl d4' _ hsteps
end Z13
set_option maxRecDepth 100000 in
theorem o_NSE : ((z_own13 R_RR 196 E_NSE 13 prog_15_method_4_code).filter z_no).all (fun w => decide (w ∈ lw_tbl) && z_ok w) = true := by decide +kernel
theorem z_ownOf13 {lo tP : Nat} {s : State} {args : Array Value} (h : z_G lo tP s) : ∀ w ∈ z_own13 R_RR 196 E_NSE 13 prog_15_method_4_code, w.before args s = true := by
  intro w hw
  by_cases hn : z_no w = true
  · have h1 := List.all_eq_true.mp o_NSE w (List.mem_filter.mpr ⟨hw, hn⟩)
    simp only [Bool.and_eq_true, decide_eq_true_eq] at h1
    exact h.w h1.1 h1.2 args
  · obtain ⟨-, -, -, -, -, ⟨h6, h6'⟩, ⟨h7, h7'⟩, -, -⟩ := h
    simp only [z_no, Bool.and_eq_true, decide_eq_true_eq] at hn
    by_cases e1 : w = .isRef (.static Bundle.tN "UNASSIGNED_STACK" Bundle.steD)
    · rw [e1]; exact z_isRefq h6
    · by_cases e2 : w = .isRef (.static Bundle.tN "SUPPRESSED_SENTINEL" Bundle.listD)
      · rw [e2]; exact z_isRefq h7
      · by_cases e3 : w = .laysStatic Bundle.tN "UNASSIGNED_STACK" Bundle.steD
        · rw [e3]; exact h6'.word
        · by_cases e4 : w = .laysStatic Bundle.tN "SUPPRESSED_SENTINEL" Bundle.listD
          · rw [e4]; exact h7'.word
          · exact absurd ⟨⟨⟨e1, e2⟩, e3⟩, e4⟩ hn
end
section
/-! ===== rooms; throws of the class ReturnRows ===== -/
abbrev zr0 : Room := { frames := 6, cells := 1, slots := 6, locals := 90 }
abbrev zr1 : Room := { frames := 7, cells := 12, slots := 100, locals := 130 }
abbrev zr2 : Room := { frames := 8, cells := 40, slots := 300, locals := 165 }
abbrev zr3 : Room := { frames := 9, cells := 60, slots := 500, locals := 200 }
abbrev zrA : Room := { frames := 1, cells := 0, slots := 0, locals := 25 }
abbrev zrB : Room := { frames := 2, cells := 0, slots := 0, locals := 60 }
abbrev zrC : Room := { frames := 3, cells := 0, slots := 0, locals := 95 }
abbrev zrD : Room := { frames := 4, cells := 0, slots := 0, locals := 125 }
section Z14
variable {p : Program} {l : Launch} {e : Env} {R : Room} {s : State} {m : MethodId} {args : Array Value} {below : List Frame} {meth : Method} {c : Code} {H : Heap} {cells slots mc ms : Nat}
variable {cc : ByteArray} {pc : Nat} {ls : Array Slot} {rest : List Value} {lo tP : Nat}
/-- a throw's end, whichever the contract -/
def z_te (Qc : Array Value → State → Outcome → State → Prop) (args : Array Value) (s : State) (E : String) : Prop := ∀ (a : Addr) (t : State), s.WarmedH t.vm → s.heap.size ≤ t.heap.size → (∀ q : Nat, q < s.heap.size → t.heap[q]? = s.heap[q]?) → z_Th E a t t.heap → Qc args s (.threw a) t
theorem z_teP {r : zR} {E : String} (he : r = .inr E) : z_te (z_pu r) args s E := fun a t _ h1 h2 hT => ⟨by rw [he]; exact ⟨a, rfl, hT⟩, h1, h2⟩
theorem z_teC {D : va_G} {cl : List vw_C} {X0 : zM} {Po : zR → zM → Prop} {E : String} (hW : z_W D cl X0 s.heap) (hP : Po (.inr E) X0) : z_te (z_Q D cl X0 Po) args s E := fun a t _ h1 h2 hT => ⟨.inr E, X0, hP, ⟨a, rfl, hT⟩, hW.grow h2, h1, fun q hq _ => h2 q hq, fun q hq => Or.inl hq⟩
theorem z_nm_fit : ∀ n ∈ z_nm, Bundle.fit n = true := by decide +kernel
theorem th_IAE {Qc : Array Value → State → Outcome → State → Prop} {free : Addr → Prop} {is : Nat} {text : String} (hexec : p.tables.exec = Jvm.exec) (hb : c.code = cc) (hl : l.stackTraces = false) (hown : s.vm.findClass R_RR = some m.cls) (hG : z_G lo tP s) (hsize : ls.size = c.maxLocals) (hout : ∀ x ∈ c.exceptionTable.toList, ∀ pc, covers x pc = false) (hlocks : meth.locks = false) (hstr : (is, text) ∈ z_strs)
    (d0 : decode cc pc = .ok (.new 171, 3)) (d3 : decode cc (pc + 3) = .ok (.dup, 1)) (d4 : decode cc (pc + 4) = .ok (.ldc is, 2)) (d6 : decode cc (pc + 6) = .ok (.invokespecial 175, 3)) (d9 : decode cc (pc + 9) = .ok (.athrow, 1))
    (hte : z_te Qc args s E_IAE) (hRf : 5 < R.frames) (hRl : (rest.map fun v => v.category).sum + 82 ≤ R.locals) (hRc : cells + 1 ≤ R.cells) (hRs : slots + 6 ≤ R.slots) (hc : cells + 1 ≤ mc) (hs : slots + 6 ≤ ms) :
    W p l e R s m args below meth c H [] cells slots (z_MQ below Qc args s mc ms free) (F0 m pc ls rest) := by
  obtain ⟨sa, hsa⟩ := hG.2.2.2.2.1 _ hstr
  exact z_throw hexec hb hl hown (by decide +kernel) z_nm_fit (hG.w k_90 rfl args) (hG.w k_23 rfl args) hsa (z_ownOf hG o_IAE) hsize d0 d3 d4 d6 d9 (fun x hx => hout x hx _) hRf hRl hRc hRs hlocks hte hc hs
theorem th_ISE {Qc : Array Value → State → Outcome → State → Prop} {free : Addr → Prop} {is : Nat} {text : String} (hexec : p.tables.exec = Jvm.exec) (hb : c.code = cc) (hl : l.stackTraces = false) (hown : s.vm.findClass R_RR = some m.cls) (hG : z_G lo tP s) (hsize : ls.size = c.maxLocals) (hout : ∀ x ∈ c.exceptionTable.toList, ∀ pc, covers x pc = false) (hlocks : meth.locks = false) (hstr : (is, text) ∈ z_strs)
    (d0 : decode cc pc = .ok (.new 51, 3)) (d3 : decode cc (pc + 3) = .ok (.dup, 1)) (d4 : decode cc (pc + 4) = .ok (.ldc is, 2)) (d6 : decode cc (pc + 6) = .ok (.invokespecial 55, 3)) (d9 : decode cc (pc + 9) = .ok (.athrow, 1))
    (hte : z_te Qc args s E_ISE) (hRf : 5 < R.frames) (hRl : (rest.map fun v => v.category).sum + 82 ≤ R.locals) (hRc : cells + 1 ≤ R.cells) (hRs : slots + 6 ≤ R.slots) (hc : cells + 1 ≤ mc) (hs : slots + 6 ≤ ms) :
    W p l e R s m args below meth c H [] cells slots (z_MQ below Qc args s mc ms free) (F0 m pc ls rest) := by
  obtain ⟨sa, hsa⟩ := hG.2.2.2.2.1 _ hstr
  exact z_throw hexec hb hl hown (by decide +kernel) z_nm_fit (hG.w k_243 rfl args) (hG.w k_27 rfl args) hsa (z_ownOf hG o_ISE) hsize d0 d3 d4 d6 d9 (fun x hx => hout x hx _) hRf hRl hRc hRs hlocks hte hc hs
theorem th_UOE {Qc : Array Value → State → Outcome → State → Prop} {free : Addr → Prop} {is : Nat} {text : String} (hexec : p.tables.exec = Jvm.exec) (hb : c.code = cc) (hl : l.stackTraces = false) (hown : s.vm.findClass R_RR = some m.cls) (hG : z_G lo tP s) (hsize : ls.size = c.maxLocals) (hout : ∀ x ∈ c.exceptionTable.toList, ∀ pc, covers x pc = false) (hlocks : meth.locks = false) (hstr : (is, text) ∈ z_strs)
    (d0 : decode cc pc = .ok (.new 33, 3)) (d3 : decode cc (pc + 3) = .ok (.dup, 1)) (d4 : decode cc (pc + 4) = .ok (.ldc is, 2)) (d6 : decode cc (pc + 6) = .ok (.invokespecial 37, 3)) (d9 : decode cc (pc + 9) = .ok (.athrow, 1))
    (hte : z_te Qc args s E_UOE) (hRf : 5 < R.frames) (hRl : (rest.map fun v => v.category).sum + 82 ≤ R.locals) (hRc : cells + 1 ≤ R.cells) (hRs : slots + 6 ≤ R.slots) (hc : cells + 1 ≤ mc) (hs : slots + 6 ≤ ms) :
    W p l e R s m args below meth c H [] cells slots (z_MQ below Qc args s mc ms free) (F0 m pc ls rest) := by
  obtain ⟨sa, hsa⟩ := hG.2.2.2.2.1 _ hstr
  exact z_throw hexec hb hl hown (by decide +kernel) z_nm_fit (hG.w k_168 rfl args) (hG.w k_24 rfl args) hsa (z_ownOf hG o_UOE) hsize d0 d3 d4 d6 d9 (fun x hx => hout x hx _) hRf hRl hRc hRs hlocks hte hc hs
theorem th_NSE {Qc : Array Value → State → Outcome → State → Prop} {free : Addr → Prop} {is : Nat} {text : String} (hexec : p.tables.exec = Jvm.exec) (hb : c.code = cc) (hl : l.stackTraces = false) (hown : s.vm.findClass R_RR = some m.cls) (hG : z_G lo tP s) (hsize : ls.size = c.maxLocals) (hout : ∀ x ∈ c.exceptionTable.toList, ∀ pc, covers x pc = false) (hlocks : meth.locks = false) (hstr : (is, text) ∈ z_strs)
    (d0 : decode cc pc = .ok (.new 192, 3)) (d3 : decode cc (pc + 3) = .ok (.dup, 1)) (d4 : decode cc (pc + 4) = .ok (.ldc is, 2)) (d6 : decode cc (pc + 6) = .ok (.invokespecial 196, 3)) (d9 : decode cc (pc + 9) = .ok (.athrow, 1))
    (hte : z_te Qc args s E_NSE) (hRf : 5 < R.frames) (hRl : (rest.map fun v => v.category).sum + 82 ≤ R.locals) (hRc : cells + 1 ≤ R.cells) (hRs : slots + 6 ≤ R.slots) (hc : cells + 1 ≤ mc) (hs : slots + 6 ≤ ms) :
    W p l e R s m args below meth c H [] cells slots (z_MQ below Qc args s mc ms free) (F0 m pc ls rest) := by
  obtain ⟨sa, hsa⟩ := hG.2.2.2.2.1 _ hstr
  exact z_throw13 hexec hb hl hown (by decide +kernel) (bx := prog_15_method_4_code) (by decide +kernel) (by decide +kernel) (by decide +kernel) (by decide +kernel) (hG.w k_227 rfl args) (hG.w k_26 rfl args) hsa (z_ownOf13 hG) hsize d0 d3 d4 d6 d9 (fun x hx => hout x hx _) hRf hRl hRc hRs hlocks hte hc hs
end Z14
end
section
/-! ===== entering each callee, from each class that calls it ===== -/
section SI
abbrev y_IN_bitCount : MethodName := ⟨"java/lang/Integer","bitCount","(I)I"⟩
abbrev b_IN_bitCount : ByteArray := prog_9_method_49_code
abbrev w_IN_bitCount : Cond := .code y_IN_bitCount b_IN_bitCount 1 (Option.some FieldType.int)
variable {p : Program} {l : Launch} {e : Env} {R : Room} {s : State} {m : MethodId} {args : Array Value} {below : List Frame} {meth : Method} {c : Code} {H : Heap} {pc : Nat} {ls : Array Slot} {rest : List Value} {lo tP : Nat}
theorem n_RR_RR_backOfClass {b0 : Nat} {v0 : Int32} (hx : p.tables.exec = Jvm.exec) (hown : s.vm.findClass R_RR = some m.cls) (hG : z_G lo tP s) (hr : ∃ cell : Cell, H[b0]? = some cell ∧ cell.vm.isStatics = false ∧ s.vm.findClass R_RR = some cell.cls) (hdg : decode c.code pc = .ok (.invokevirtual 152, 3)) : z_In p l e R s m args below meth c H (F0 m pc ls (.int v0 :: .ref b0 :: rest)) rest y_RR_backOfClass (.ref b0 :: [.int v0] : List Value).toArray :=
  z_inV (C := R_RR) (n := 1) (As := [.int v0]) hx hown (hG.w k_75 rfl args) (hG.w k_77 rfl args) (hG.w k_1 rfl args) (z_sg0 (hG.w k_78 rfl args)) (by decide +kernel) hr rfl hdg
theorem cw_RR_backOfClass {rm : Room} (hG : z_G lo tP s) (h1 : rm.frames + 1 ≤ R.frames) (h2 : 8 + (7 + 11) + rm.locals ≤ R.locals) : z_Cw R s args y_RR_backOfClass w_RR_backOfClass rm 7 := ⟨hG.at k_78 rfl, z_wk0, hG.w k_18 rfl args, h1, h2⟩
theorem n_RR_RR_isCertificateUsed {b0 : Nat} {v0 : Int32} (hx : p.tables.exec = Jvm.exec) (hown : s.vm.findClass R_RR = some m.cls) (hG : z_G lo tP s) (hr : ∃ cell : Cell, H[b0]? = some cell ∧ cell.vm.isStatics = false ∧ s.vm.findClass R_RR = some cell.cls) (hdg : decode c.code pc = .ok (.invokevirtual 136, 3)) : z_In p l e R s m args below meth c H (F0 m pc ls (.int v0 :: .ref b0 :: rest)) rest y_RR_isCertificateUsed (.ref b0 :: [.int v0] : List Value).toArray :=
  z_inV (C := R_RR) (n := 1) (As := [.int v0]) hx hown (hG.w k_417 rfl args) (hG.w k_419 rfl args) (hG.w k_5 rfl args) (z_sg0 (hG.w k_420 rfl args)) (by decide +kernel) hr rfl hdg
theorem cw_RR_isCertificateUsed {rm : Room} (hG : z_G lo tP s) (h1 : rm.frames + 1 ≤ R.frames) (h2 : 8 + (6 + 11) + rm.locals ≤ R.locals) : z_Cw R s args y_RR_isCertificateUsed w_RR_isCertificateUsed rm 6 := ⟨hG.at k_420 rfl, z_wk0, hG.w k_18 rfl args, h1, h2⟩
theorem n_RR_RR_isMarked {b0 : Nat} {v0 : Int32} (hx : p.tables.exec = Jvm.exec) (hown : s.vm.findClass R_RR = some m.cls) (hG : z_G lo tP s) (hr : ∃ cell : Cell, H[b0]? = some cell ∧ cell.vm.isStatics = false ∧ s.vm.findClass R_RR = some cell.cls) (hdg : decode c.code pc = .ok (.invokevirtual 179, 3)) : z_In p l e R s m args below meth c H (F0 m pc ls (.int v0 :: .ref b0 :: rest)) rest y_RR_isMarked (.ref b0 :: [.int v0] : List Value).toArray :=
  z_inV (C := R_RR) (n := 1) (As := [.int v0]) hx hown (hG.w k_481 rfl args) (hG.w k_483 rfl args) (hG.w k_7 rfl args) (z_sg0 (hG.w k_484 rfl args)) (by decide +kernel) hr rfl hdg
theorem cw_RR_isMarked {rm : Room} (hG : z_G lo tP s) (h1 : rm.frames + 1 ≤ R.frames) (h2 : 8 + (2 + 11) + rm.locals ≤ R.locals) : z_Cw R s args y_RR_isMarked w_RR_isMarked rm 2 := ⟨hG.at k_484 rfl, z_wk0, hG.w k_18 rfl args, h1, h2⟩
theorem n_RR_RR_recentReturnsOf {b0 : Nat} {v0 : Int32} (hx : p.tables.exec = Jvm.exec) (hown : s.vm.findClass R_RR = some m.cls) (hG : z_G lo tP s) (hr : ∃ cell : Cell, H[b0]? = some cell ∧ cell.vm.isStatics = false ∧ s.vm.findClass R_RR = some cell.cls) (hdg : decode c.code pc = .ok (.invokevirtual 215, 3)) : z_In p l e R s m args below meth c H (F0 m pc ls (.int v0 :: .ref b0 :: rest)) rest y_RR_recentReturnsOf (.ref b0 :: [.int v0] : List Value).toArray :=
  z_inV (C := R_RR) (n := 1) (As := [.int v0]) hx hown (hG.w k_485 rfl args) (hG.w k_487 rfl args) (hG.w k_8 rfl args) (z_sg0 (hG.w k_488 rfl args)) (by decide +kernel) hr rfl hdg
theorem cw_RR_recentReturnsOf {rm : Room} (hG : z_G lo tP s) (h1 : rm.frames + 1 ≤ R.frames) (h2 : 8 + (7 + 11) + rm.locals ≤ R.locals) : z_Cw R s args y_RR_recentReturnsOf w_RR_recentReturnsOf rm 7 := ⟨hG.at k_488 rfl, z_wk0, hG.w k_18 rfl args, h1, h2⟩
theorem n_RR_RR_requireGraded {v0 : Nat} (hx : p.tables.exec = Jvm.exec) (hown : s.vm.findClass R_RR = some m.cls) (hG : z_G lo tP s) (hdg : decode c.code pc = .ok (.invokestatic 121, 3)) : z_In p l e R s m args below meth c H (F0 m pc ls (.ref v0 :: rest)) rest y_RR_requireGraded ([.ref v0] : List Value).toArray :=
  z_inS0 (n := 1) (As := [.ref v0]) hx hown (hG.w k_396 rfl args) (hG.w k_397 rfl args) (hG.w k_18 rfl args) (hG.w k_398 rfl args) (by decide +kernel) rfl hdg
theorem cw_RR_requireGraded {rm : Room} (hG : z_G lo tP s) (h1 : rm.frames + 1 ≤ R.frames) (h2 : 8 + (1 + 11) + rm.locals ≤ R.locals) : z_Cw R s args y_RR_requireGraded w_RR_requireGraded rm 1 := ⟨hG.at k_398 rfl, z_wk0, hG.w k_18 rfl args, h1, h2⟩
theorem n_RR_RR_requireHere {v0 : Nat} (hx : p.tables.exec = Jvm.exec) (hown : s.vm.findClass R_RR = some m.cls) (hG : z_G lo tP s) (hdg : decode c.code pc = .ok (.invokestatic 78, 3)) : z_In p l e R s m args below meth c H (F0 m pc ls (.ref v0 :: rest)) rest y_RR_requireHere ([.ref v0] : List Value).toArray :=
  z_inS0 (n := 1) (As := [.ref v0]) hx hown (hG.w k_344 rfl args) (hG.w k_345 rfl args) (hG.w k_18 rfl args) (hG.w k_346 rfl args) (by decide +kernel) rfl hdg
theorem cw_RR_requireHere {rm : Room} (hG : z_G lo tP s) (h1 : rm.frames + 1 ≤ R.frames) (h2 : 8 + (1 + 11) + rm.locals ≤ R.locals) : z_Cw R s args y_RR_requireHere w_RR_requireHere rm 1 := ⟨hG.at k_346 rfl, z_wk0, hG.w k_18 rfl args, h1, h2⟩
theorem n_RR_RR_requireHereOrGraded {v0 : Nat} (hx : p.tables.exec = Jvm.exec) (hown : s.vm.findClass R_RR = some m.cls) (hG : z_G lo tP s) (hdg : decode c.code pc = .ok (.invokestatic 97, 3)) : z_In p l e R s m args below meth c H (F0 m pc ls (.ref v0 :: rest)) rest y_RR_requireHereOrGraded ([.ref v0] : List Value).toArray :=
  z_inS0 (n := 1) (As := [.ref v0]) hx hown (hG.w k_356 rfl args) (hG.w k_357 rfl args) (hG.w k_18 rfl args) (hG.w k_358 rfl args) (by decide +kernel) rfl hdg
theorem cw_RR_requireHereOrGraded {rm : Room} (hG : z_G lo tP s) (h1 : rm.frames + 1 ≤ R.frames) (h2 : 8 + (1 + 11) + rm.locals ≤ R.locals) : z_Cw R s args y_RR_requireHereOrGraded w_RR_requireHereOrGraded rm 1 := ⟨hG.at k_358 rfl, z_wk0, hG.w k_18 rfl args, h1, h2⟩
theorem n_RR_RR_requireNoQuarantine {v0 : Nat} (hx : p.tables.exec = Jvm.exec) (hown : s.vm.findClass R_RR = some m.cls) (hG : z_G lo tP s) (hdg : decode c.code pc = .ok (.invokestatic 109, 3)) : z_In p l e R s m args below meth c H (F0 m pc ls (.ref v0 :: rest)) rest y_RR_requireNoQuarantine ([.ref v0] : List Value).toArray :=
  z_inS0 (n := 1) (As := [.ref v0]) hx hown (hG.w k_380 rfl args) (hG.w k_381 rfl args) (hG.w k_18 rfl args) (hG.w k_382 rfl args) (by decide +kernel) rfl hdg
theorem cw_RR_requireNoQuarantine {rm : Room} (hG : z_G lo tP s) (h1 : rm.frames + 1 ≤ R.frames) (h2 : 8 + (1 + 11) + rm.locals ≤ R.locals) : z_Cw R s args y_RR_requireNoQuarantine w_RR_requireNoQuarantine rm 1 := ⟨hG.at k_382 rfl, z_wk0, hG.w k_18 rfl args, h1, h2⟩
theorem n_RR_RR_requireWithin {v0 : Int32} {v1 : Int32} {v2 : Int32} (hx : p.tables.exec = Jvm.exec) (hown : s.vm.findClass R_RR = some m.cls) (hG : z_G lo tP s) (hdg : decode c.code pc = .ok (.invokestatic 25, 3)) : z_In p l e R s m args below meth c H (F0 m pc ls (.int v2 :: .int v1 :: .int v0 :: rest)) rest y_RR_requireWithin ([.int v0, .int v1, .int v2] : List Value).toArray :=
  z_inS0 (n := 3) (As := [.int v0, .int v1, .int v2]) hx hown (hG.w k_87 rfl args) (hG.w k_88 rfl args) (hG.w k_18 rfl args) (hG.w k_89 rfl args) (by decide +kernel) rfl hdg
theorem cw_RR_requireWithin {rm : Room} (hG : z_G lo tP s) (h1 : rm.frames + 1 ≤ R.frames) (h2 : 8 + (3 + 11) + rm.locals ≤ R.locals) : z_Cw R s args y_RR_requireWithin w_RR_requireWithin rm 3 := ⟨hG.at k_89 rfl, z_wk0, hG.w k_18 rfl args, h1, h2⟩
theorem n_RR_RR_returnAt {b0 : Nat} {v0 : Int32} (hx : p.tables.exec = Jvm.exec) (hown : s.vm.findClass R_RR = some m.cls) (hG : z_G lo tP s) (hr : ∃ cell : Cell, H[b0]? = some cell ∧ cell.vm.isStatics = false ∧ s.vm.findClass R_RR = some cell.cls) (hdg : decode c.code pc = .ok (.invokevirtual 64, 3)) : z_In p l e R s m args below meth c H (F0 m pc ls (.int v0 :: .ref b0 :: rest)) rest y_RR_returnAt (.ref b0 :: [.int v0] : List Value).toArray :=
  z_inV (C := R_RR) (n := 1) (As := [.int v0]) hx hown (hG.w k_330 rfl args) (hG.w k_332 rfl args) (hG.w k_4 rfl args) (z_sg0 (hG.w k_333 rfl args)) (by decide +kernel) hr rfl hdg
theorem cw_RR_returnAt {rm : Room} (hG : z_G lo tP s) (h1 : rm.frames + 1 ≤ R.frames) (h2 : 8 + (3 + 11) + rm.locals ≤ R.locals) : z_Cw R s args y_RR_returnAt w_RR_returnAt rm 3 := ⟨hG.at k_333 rfl, z_wk0, hG.w k_18 rfl args, h1, h2⟩
theorem n_RR_RR_saleAt {b0 : Nat} {v0 : Int32} (hx : p.tables.exec = Jvm.exec) (hown : s.vm.findClass R_RR = some m.cls) (hG : z_G lo tP s) (hr : ∃ cell : Cell, H[b0]? = some cell ∧ cell.vm.isStatics = false ∧ s.vm.findClass R_RR = some cell.cls) (hdg : decode c.code pc = .ok (.invokevirtual 43, 3)) : z_In p l e R s m args below meth c H (F0 m pc ls (.int v0 :: .ref b0 :: rest)) rest y_RR_saleAt (.ref b0 :: [.int v0] : List Value).toArray :=
  z_inV (C := R_RR) (n := 1) (As := [.int v0]) hx hown (hG.w k_223 rfl args) (hG.w k_225 rfl args) (hG.w k_3 rfl args) (z_sg0 (hG.w k_226 rfl args)) (by decide +kernel) hr rfl hdg
theorem cw_RR_saleAt {rm : Room} (hG : z_G lo tP s) (h1 : rm.frames + 1 ≤ R.frames) (h2 : 8 + (3 + 11) + rm.locals ≤ R.locals) : z_Cw R s args y_RR_saleAt w_RR_saleAt rm 3 := ⟨hG.at k_226 rfl, z_wk0, hG.w k_18 rfl args, h1, h2⟩
theorem n_RR_RR_salesTo {b0 : Nat} {v0 : Int32} (hx : p.tables.exec = Jvm.exec) (hown : s.vm.findClass R_RR = some m.cls) (hG : z_G lo tP s) (hr : ∃ cell : Cell, H[b0]? = some cell ∧ cell.vm.isStatics = false ∧ s.vm.findClass R_RR = some cell.cls) (hdg : decode c.code pc = .ok (.invokevirtual 176, 3)) : z_In p l e R s m args below meth c H (F0 m pc ls (.int v0 :: .ref b0 :: rest)) rest y_RR_salesTo (.ref b0 :: [.int v0] : List Value).toArray :=
  z_inV (C := R_RR) (n := 1) (As := [.int v0]) hx hown (hG.w k_477 rfl args) (hG.w k_479 rfl args) (hG.w k_6 rfl args) (z_sg0 (hG.w k_480 rfl args)) (by decide +kernel) hr rfl hdg
theorem cw_RR_salesTo {rm : Room} (hG : z_G lo tP s) (h1 : rm.frames + 1 ≤ R.frames) (h2 : 8 + (7 + 11) + rm.locals ≤ R.locals) : z_Cw R s args y_RR_salesTo w_RR_salesTo rm 7 := ⟨hG.at k_480 rfl, z_wk0, hG.w k_18 rfl args, h1, h2⟩
theorem n_RR_RR_sum {b0 : Nat} {v0 : Int32} {v1 : Int32} {v2 : Int32} (hx : p.tables.exec = Jvm.exec) (hown : s.vm.findClass R_RR = some m.cls) (hG : z_G lo tP s) (hr : ∃ cell : Cell, H[b0]? = some cell ∧ cell.vm.isStatics = false ∧ s.vm.findClass R_RR = some cell.cls) (hdg : decode c.code pc = .ok (.invokevirtual 167, 3)) : z_In p l e R s m args below meth c H (F0 m pc ls (.int v2 :: .int v1 :: .int v0 :: .ref b0 :: rest)) rest y_RR_sum (.ref b0 :: [.int v0, .int v1, .int v2] : List Value).toArray :=
  z_inV (C := R_RR) (n := 3) (As := [.int v0, .int v1, .int v2]) hx hown (hG.w k_63 rfl args) (hG.w k_65 rfl args) (hG.w k_0 rfl args) (z_sg0 (hG.w k_66 rfl args)) (by decide +kernel) hr rfl hdg
theorem cw_RR_sum {rm : Room} (hG : z_G lo tP s) (h1 : rm.frames + 1 ≤ R.frames) (h2 : 8 + (9 + 11) + rm.locals ≤ R.locals) : z_Cw R s args y_RR_sum w_RR_sum rm 9 := ⟨hG.at k_66 rfl, z_wk0, hG.w k_18 rfl args, h1, h2⟩
theorem n_RR_RE_init {b0 : Nat} {v0 : Nat} {v1 : Int32} {v2 : Int32} {v3 : Int32} (hx : p.tables.exec = Jvm.exec) (hown : s.vm.findClass R_RR = some m.cls) (hG : z_G lo tP s) (hdg : decode c.code pc = .ok (.invokespecial 61, 3)) : z_In p l e R s m args below meth c H (F0 m pc ls (.int v3 :: .int v2 :: .int v1 :: .ref v0 :: .ref b0 :: rest)) rest y_RE_init (.ref b0 :: [.ref v0, .int v1, .int v2, .int v3] : List Value).toArray :=
  z_inI (n := 4) (As := [.ref v0, .int v1, .int v2, .int v3]) hx hown rfl (hG.w k_261 rfl args) (hG.w k_262 rfl args) (hG.w k_263 rfl args) (by decide +kernel) rfl hdg
theorem cw_RE_init {rm : Room} (hG : z_G lo tP s) (h1 : rm.frames + 1 ≤ R.frames) (h2 : 8 + (5 + 11) + rm.locals ≤ R.locals) : z_Cw R s args y_RE_init w_RE_init rm 5 := ⟨hG.at k_263 rfl, z_wk0, hG.w k_28 rfl args, h1, h2⟩
theorem n_RR_RE_amountDue {b0 : Nat}  (hx : p.tables.exec = Jvm.exec) (hown : s.vm.findClass R_RR = some m.cls) (hG : z_G lo tP s) (hr : ∃ cell : Cell, H[b0]? = some cell ∧ cell.vm.isStatics = false ∧ s.vm.findClass R_RE = some cell.cls) (hdg : decode c.code pc = .ok (.invokevirtual 158, 3)) : z_In p l e R s m args below meth c H (F0 m pc ls (.ref b0 :: rest)) rest y_RE_amountDue (.ref b0 :: [] : List Value).toArray :=
  z_inV (C := R_RE) (n := 0) (As := []) hx hown (hG.w k_445 rfl args) (hG.w k_446 rfl args) (hG.w k_447 rfl args) (z_sg0 (hG.w k_448 rfl args)) (by decide +kernel) hr rfl hdg
theorem cw_RE_amountDue {rm : Room} (hG : z_G lo tP s) (h1 : rm.frames + 1 ≤ R.frames) (h2 : 8 + (3 + 11) + rm.locals ≤ R.locals) : z_Cw R s args y_RE_amountDue w_RE_amountDue rm 3 := ⟨hG.at k_448 rfl, z_wk0, hG.w k_28 rfl args, h1, h2⟩
theorem n_RR_RE_isOf {b0 : Nat} {v0 : Int32} {v1 : Int32} (hx : p.tables.exec = Jvm.exec) (hown : s.vm.findClass R_RR = some m.cls) (hG : z_G lo tP s) (hr : ∃ cell : Cell, H[b0]? = some cell ∧ cell.vm.isStatics = false ∧ s.vm.findClass R_RE = some cell.cls) (hdg : decode c.code pc = .ok (.invokevirtual 218, 3)) : z_In p l e R s m args below meth c H (F0 m pc ls (.int v1 :: .int v0 :: .ref b0 :: rest)) rest y_RE_isOf (.ref b0 :: [.int v0, .int v1] : List Value).toArray :=
  z_inV (C := R_RE) (n := 2) (As := [.int v0, .int v1]) hx hown (hG.w k_67 rfl args) (hG.w k_68 rfl args) (hG.w k_69 rfl args) (z_sg0 (hG.w k_70 rfl args)) (by decide +kernel) hr rfl hdg
theorem cw_RE_isOf {rm : Room} (hG : z_G lo tP s) (h1 : rm.frames + 1 ≤ R.frames) (h2 : 8 + (3 + 11) + rm.locals ≤ R.locals) : z_Cw R s args y_RE_isOf w_RE_isOf rm 3 := ⟨hG.at k_70 rfl, z_wk0, hG.w k_28 rfl args, h1, h2⟩
theorem n_RR_RE_measured {b0 : Nat} {v0 : Int32} (hx : p.tables.exec = Jvm.exec) (hown : s.vm.findClass R_RR = some m.cls) (hG : z_G lo tP s) (hr : ∃ cell : Cell, H[b0]? = some cell ∧ cell.vm.isStatics = false ∧ s.vm.findClass R_RE = some cell.cls) (hdg : decode c.code pc = .ok (.invokevirtual 222, 3)) : z_In p l e R s m args below meth c H (F0 m pc ls (.int v0 :: .ref b0 :: rest)) rest y_RE_measured (.ref b0 :: [.int v0] : List Value).toArray :=
  z_inV (C := R_RE) (n := 1) (As := [.int v0]) hx hown (hG.w k_71 rfl args) (hG.w k_72 rfl args) (hG.w k_73 rfl args) (z_sg0 (hG.w k_74 rfl args)) (by decide +kernel) hr rfl hdg
theorem cw_RE_measured {rm : Room} (hG : z_G lo tP s) (h1 : rm.frames + 1 ≤ R.frames) (h2 : 8 + (2 + 11) + rm.locals ≤ R.locals) : z_Cw R s args y_RE_measured w_RE_measured rm 2 := ⟨hG.at k_74 rfl, z_wk0, hG.w k_28 rfl args, h1, h2⟩
theorem n_RR_RE_takeGrade {b0 : Nat} {v0 : Int32} (hx : p.tables.exec = Jvm.exec) (hown : s.vm.findClass R_RR = some m.cls) (hG : z_G lo tP s) (hr : ∃ cell : Cell, H[b0]? = some cell ∧ cell.vm.isStatics = false ∧ s.vm.findClass R_RE = some cell.cls) (hdg : decode c.code pc = .ok (.invokevirtual 114, 3)) : z_In p l e R s m args below meth c H (F0 m pc ls (.int v0 :: .ref b0 :: rest)) rest y_RE_takeGrade (.ref b0 :: [.int v0] : List Value).toArray :=
  z_inV (C := R_RE) (n := 1) (As := [.int v0]) hx hown (hG.w k_385 rfl args) (hG.w k_386 rfl args) (hG.w k_387 rfl args) (z_sg0 (hG.w k_388 rfl args)) (by decide +kernel) hr rfl hdg
theorem cw_RE_takeGrade {rm : Room} (hG : z_G lo tP s) (h1 : rm.frames + 1 ≤ R.frames) (h2 : 8 + (2 + 11) + rm.locals ≤ R.locals) : z_Cw R s args y_RE_takeGrade w_RE_takeGrade rm 2 := ⟨hG.at k_388 rfl, z_wk0, hG.w k_28 rfl args, h1, h2⟩
theorem n_RR_SA_init {b0 : Nat} {v0 : Int32} {v1 : Int32} {v2 : Int32} {v3 : Int32} {v4 : Int32} (hx : p.tables.exec = Jvm.exec) (hown : s.vm.findClass R_RR = some m.cls) (hG : z_G lo tP s) (hdg : decode c.code pc = .ok (.invokespecial 40, 3)) : z_In p l e R s m args below meth c H (F0 m pc ls (.int v4 :: .int v3 :: .int v2 :: .int v1 :: .int v0 :: .ref b0 :: rest)) rest y_SA_init (.ref b0 :: [.int v0, .int v1, .int v2, .int v3, .int v4] : List Value).toArray :=
  z_inI (n := 5) (As := [.int v0, .int v1, .int v2, .int v3, .int v4]) hx hown rfl (hG.w k_185 rfl args) (hG.w k_186 rfl args) (hG.w k_187 rfl args) (by decide +kernel) rfl hdg
theorem cw_SA_init {rm : Room} (hG : z_G lo tP s) (h1 : rm.frames + 1 ≤ R.frames) (h2 : 8 + (6 + 11) + rm.locals ≤ R.locals) : z_Cw R s args y_SA_init w_SA_init rm 6 := ⟨hG.at k_187 rfl, z_wk0, hG.w k_25 rfl args, h1, h2⟩
theorem n_RR_IN_bitCount {v0 : Int32} (hx : p.tables.exec = Jvm.exec) (hown : s.vm.findClass R_RR = some m.cls) (hG : z_G lo tP s) (hdg : decode c.code pc = .ok (.invokestatic 103, 3)) : z_In p l e R s m args below meth c H (F0 m pc ls (.int v0 :: rest)) rest ⟨"java/lang/Integer","bitCount","(I)I"⟩ ([.int v0] : List Value).toArray :=
  z_inS0 (n := 1) (As := [.int v0]) hx hown (hG.w k_367 rfl args) (hG.w k_368 rfl args) (hG.w k_29 rfl args) (hG.w k_369 rfl args) (by decide +kernel) rfl hdg
theorem cw_IN_bitCount {rm : Room} (hG : z_G lo tP s) (h1 : rm.frames + 1 ≤ R.frames) (h2 : 8 + (1 + 11) + rm.locals ≤ R.locals) : z_Cw R s args y_IN_bitCount w_IN_bitCount rm 1 := ⟨hG.at k_369 rfl, z_wk0, hG.w k_29 rfl args, h1, h2⟩
theorem n_LA_RR_init {b0 : Nat}  (hx : p.tables.exec = Jvm.exec) (hown : s.vm.findClass R_LA = some m.cls) (hG : z_G lo tP s) (hdg : decode c.code pc = .ok (.invokespecial 80, 3)) : z_In p l e R s m args below meth c H (F0 m pc ls (.ref b0 :: rest)) rest y_RR_init (.ref b0 :: [] : List Value).toArray :=
  z_inI (n := 0) (As := []) hx hown rfl (hG.w k_33 rfl args) (hG.w k_34 rfl args) (hG.w k_35 rfl args) (by decide +kernel) rfl hdg
theorem cw_RR_init {rm : Room} (hG : z_G lo tP s) (h1 : rm.frames + 1 ≤ R.frames) (h2 : 8 + (1 + 11) + rm.locals ≤ R.locals) : z_Cw R s args y_RR_init w_RR_init rm 1 := ⟨hG.at k_35 rfl, z_wk0, hG.w k_18 rfl args, h1, h2⟩
theorem n_LA_RR_arrive {b0 : Nat} {v0 : Int32} {v1 : Int32} (hx : p.tables.exec = Jvm.exec) (hown : s.vm.findClass R_LA = some m.cls) (hG : z_G lo tP s) (hr : ∃ cell : Cell, H[b0]? = some cell ∧ cell.vm.isStatics = false ∧ s.vm.findClass R_RR = some cell.cls) (hdg : decode c.code pc = .ok (.invokevirtual 29, 3)) : z_In p l e R s m args below meth c H (F0 m pc ls (.int v1 :: .int v0 :: .ref b0 :: rest)) rest y_RR_arrive (.ref b0 :: [.int v0, .int v1] : List Value).toArray :=
  z_inV (C := R_RR) (n := 2) (As := [.int v0, .int v1]) hx hown (hG.w k_326 rfl args) (hG.w k_327 rfl args) (hG.w k_328 rfl args) (z_sg0 (hG.w k_329 rfl args)) (by decide +kernel) hr rfl hdg
theorem cw_RR_arrive {rm : Room} (hG : z_G lo tP s) (h1 : rm.frames + 1 ≤ R.frames) (h2 : 8 + (5 + 11) + rm.locals ≤ R.locals) : z_Cw R s args y_RR_arrive w_RR_arrive rm 5 := ⟨hG.at k_329 rfl, z_wk0, hG.w k_18 rfl args, h1, h2⟩
theorem n_LA_RR_back {b0 : Nat} {v0 : Int32} (hx : p.tables.exec = Jvm.exec) (hown : s.vm.findClass R_LA = some m.cls) (hG : z_G lo tP s) (hr : ∃ cell : Cell, H[b0]? = some cell ∧ cell.vm.isStatics = false ∧ s.vm.findClass R_RR = some cell.cls) (hdg : decode c.code pc = .ok (.invokevirtual 58, 3)) : z_In p l e R s m args below meth c H (F0 m pc ls (.int v0 :: .ref b0 :: rest)) rest y_RR_back (.ref b0 :: [.int v0] : List Value).toArray :=
  z_inV (C := R_RR) (n := 1) (As := [.int v0]) hx hown (hG.w k_424 rfl args) (hG.w k_425 rfl args) (hG.w k_426 rfl args) (z_sg0 (hG.w k_427 rfl args)) (by decide +kernel) hr rfl hdg
theorem cw_RR_back {rm : Room} (hG : z_G lo tP s) (h1 : rm.frames + 1 ≤ R.frames) (h2 : 8 + (3 + 11) + rm.locals ≤ R.locals) : z_Cw R s args y_RR_back w_RR_back rm 3 := ⟨hG.at k_427 rfl, z_wk0, hG.w k_18 rfl args, h1, h2⟩
theorem n_LA_RR_check {b0 : Nat} {v0 : Int32} {v1 : Int32} {v2 : Int32} (hx : p.tables.exec = Jvm.exec) (hown : s.vm.findClass R_LA = some m.cls) (hG : z_G lo tP s) (hr : ∃ cell : Cell, H[b0]? = some cell ∧ cell.vm.isStatics = false ∧ s.vm.findClass R_RR = some cell.cls) (hdg : decode c.code pc = .ok (.invokevirtual 41, 3)) : z_In p l e R s m args below meth c H (F0 m pc ls (.int v2 :: .int v1 :: .int v0 :: .ref b0 :: rest)) rest y_RR_check (.ref b0 :: [.int v0, .int v1, .int v2] : List Value).toArray :=
  z_inV (C := R_RR) (n := 3) (As := [.int v0, .int v1, .int v2]) hx hown (hG.w k_363 rfl args) (hG.w k_364 rfl args) (hG.w k_365 rfl args) (z_sg0 (hG.w k_366 rfl args)) (by decide +kernel) hr rfl hdg
theorem cw_RR_check {rm : Room} (hG : z_G lo tP s) (h1 : rm.frames + 1 ≤ R.frames) (h2 : 8 + (6 + 11) + rm.locals ≤ R.locals) : z_Cw R s args y_RR_check w_RR_check rm 6 := ⟨hG.at k_366 rfl, z_wk0, hG.w k_18 rfl args, h1, h2⟩
theorem n_LA_RR_comes {b0 : Nat} {v0 : Int32} {v1 : Int32} {v2 : Int32} (hx : p.tables.exec = Jvm.exec) (hown : s.vm.findClass R_LA = some m.cls) (hG : z_G lo tP s) (hr : ∃ cell : Cell, H[b0]? = some cell ∧ cell.vm.isStatics = false ∧ s.vm.findClass R_RR = some cell.cls) (hdg : decode c.code pc = .ok (.invokevirtual 21, 3)) : z_In p l e R s m args below meth c H (F0 m pc ls (.int v2 :: .int v1 :: .int v0 :: .ref b0 :: rest)) rest y_RR_comes (.ref b0 :: [.int v0, .int v1, .int v2] : List Value).toArray :=
  z_inV (C := R_RR) (n := 3) (As := [.int v0, .int v1, .int v2]) hx hown (hG.w k_219 rfl args) (hG.w k_220 rfl args) (hG.w k_221 rfl args) (z_sg0 (hG.w k_222 rfl args)) (by decide +kernel) hr rfl hdg
theorem cw_RR_comes {rm : Room} (hG : z_G lo tP s) (h1 : rm.frames + 1 ≤ R.frames) (h2 : 8 + (5 + 11) + rm.locals ≤ R.locals) : z_Cw R s args y_RR_comes w_RR_comes rm 5 := ⟨hG.at k_222 rfl, z_wk0, hG.w k_18 rfl args, h1, h2⟩
theorem n_LA_RR_count {b0 : Nat} {v0 : Int32} (hx : p.tables.exec = Jvm.exec) (hown : s.vm.findClass R_LA = some m.cls) (hG : z_G lo tP s) (hr : ∃ cell : Cell, H[b0]? = some cell ∧ cell.vm.isStatics = false ∧ s.vm.findClass R_RR = some cell.cls) (hdg : decode c.code pc = .ok (.invokevirtual 152, 3)) : z_In p l e R s m args below meth c H (F0 m pc ls (.int v0 :: .ref b0 :: rest)) rest y_RR_count (.ref b0 :: [.int v0] : List Value).toArray :=
  z_inV (C := R_RR) (n := 1) (As := [.int v0]) hx hown (hG.w k_59 rfl args) (hG.w k_60 rfl args) (hG.w k_61 rfl args) (z_sg0 (hG.w k_62 rfl args)) (by decide +kernel) hr rfl hdg
theorem cw_RR_count {rm : Room} (hG : z_G lo tP s) (h1 : rm.frames + 1 ≤ R.frames) (h2 : 8 + (2 + 11) + rm.locals ≤ R.locals) : z_Cw R s args y_RR_count w_RR_count rm 2 := ⟨hG.at k_62 rfl, z_wk0, hG.w k_18 rfl args, h1, h2⟩
theorem n_LA_RR_customer {b0 : Nat} {v0 : Int32} {v1 : Int32} (hx : p.tables.exec = Jvm.exec) (hown : s.vm.findClass R_LA = some m.cls) (hG : z_G lo tP s) (hr : ∃ cell : Cell, H[b0]? = some cell ∧ cell.vm.isStatics = false ∧ s.vm.findClass R_RR = some cell.cls) (hdg : decode c.code pc = .ok (.invokevirtual 74, 3)) : z_In p l e R s m args below meth c H (F0 m pc ls (.int v1 :: .int v0 :: .ref b0 :: rest)) rest y_RR_customer (.ref b0 :: [.int v0, .int v1] : List Value).toArray :=
  z_inV (C := R_RR) (n := 2) (As := [.int v0, .int v1]) hx hown (hG.w k_473 rfl args) (hG.w k_474 rfl args) (hG.w k_475 rfl args) (z_sg0 (hG.w k_476 rfl args)) (by decide +kernel) hr rfl hdg
theorem cw_RR_customer {rm : Room} (hG : z_G lo tP s) (h1 : rm.frames + 1 ≤ R.frames) (h2 : 8 + (3 + 11) + rm.locals ≤ R.locals) : z_Cw R s args y_RR_customer w_RR_customer rm 3 := ⟨hG.at k_476 rfl, z_wk0, hG.w k_18 rfl args, h1, h2⟩
theorem n_LA_RR_day {b0 : Nat} {v0 : Int32} (hx : p.tables.exec = Jvm.exec) (hown : s.vm.findClass R_LA = some m.cls) (hG : z_G lo tP s) (hr : ∃ cell : Cell, H[b0]? = some cell ∧ cell.vm.isStatics = false ∧ s.vm.findClass R_RR = some cell.cls) (hdg : decode c.code pc = .ok (.invokevirtual 7, 3)) : z_In p l e R s m args below meth c H (F0 m pc ls (.int v0 :: .ref b0 :: rest)) rest y_RR_day (.ref b0 :: [.int v0] : List Value).toArray :=
  z_inV (C := R_RR) (n := 1) (As := [.int v0]) hx hown (hG.w k_83 rfl args) (hG.w k_84 rfl args) (hG.w k_85 rfl args) (z_sg0 (hG.w k_86 rfl args)) (by decide +kernel) hr rfl hdg
theorem cw_RR_day {rm : Room} (hG : z_G lo tP s) (h1 : rm.frames + 1 ≤ R.frames) (h2 : 8 + (2 + 11) + rm.locals ≤ R.locals) : z_Cw R s args y_RR_day w_RR_day rm 2 := ⟨hG.at k_86 rfl, z_wk0, hG.w k_18 rfl args, h1, h2⟩
theorem n_LA_RR_due {b0 : Nat} {v0 : Int32} (hx : p.tables.exec = Jvm.exec) (hown : s.vm.findClass R_LA = some m.cls) (hG : z_G lo tP s) (hr : ∃ cell : Cell, H[b0]? = some cell ∧ cell.vm.isStatics = false ∧ s.vm.findClass R_RR = some cell.cls) (hdg : decode c.code pc = .ok (.invokevirtual 68, 3)) : z_In p l e R s m args below meth c H (F0 m pc ls (.int v0 :: .ref b0 :: rest)) rest y_RR_due (.ref b0 :: [.int v0] : List Value).toArray :=
  z_inV (C := R_RR) (n := 1) (As := [.int v0]) hx hown (hG.w k_458 rfl args) (hG.w k_459 rfl args) (hG.w k_460 rfl args) (z_sg0 (hG.w k_461 rfl args)) (by decide +kernel) hr rfl hdg
theorem cw_RR_due {rm : Room} (hG : z_G lo tP s) (h1 : rm.frames + 1 ≤ R.frames) (h2 : 8 + (2 + 11) + rm.locals ≤ R.locals) : z_Cw R s args y_RR_due w_RR_due rm 2 := ⟨hG.at k_461 rfl, z_wk0, hG.w k_18 rfl args, h1, h2⟩
theorem n_LA_RR_grade {b0 : Nat} {v0 : Int32} {v1 : Int32} (hx : p.tables.exec = Jvm.exec) (hown : s.vm.findClass R_LA = some m.cls) (hG : z_G lo tP s) (hr : ∃ cell : Cell, H[b0]? = some cell ∧ cell.vm.isStatics = false ∧ s.vm.findClass R_RR = some cell.cls) (hdg : decode c.code pc = .ok (.invokevirtual 44, 3)) : z_In p l e R s m args below meth c H (F0 m pc ls (.int v1 :: .int v0 :: .ref b0 :: rest)) rest y_RR_grade (.ref b0 :: [.int v0, .int v1] : List Value).toArray :=
  z_inV (C := R_RR) (n := 2) (As := [.int v0, .int v1]) hx hown (hG.w k_376 rfl args) (hG.w k_377 rfl args) (hG.w k_378 rfl args) (z_sg0 (hG.w k_379 rfl args)) (by decide +kernel) hr rfl hdg
theorem cw_RR_grade {rm : Room} (hG : z_G lo tP s) (h1 : rm.frames + 1 ≤ R.frames) (h2 : 8 + (4 + 11) + rm.locals ≤ R.locals) : z_Cw R s args y_RR_grade w_RR_grade rm 4 := ⟨hG.at k_379 rfl, z_wk0, hG.w k_18 rfl args, h1, h2⟩
theorem n_LA_RR_missing {b0 : Nat} {v0 : Int32} {v1 : Int32} (hx : p.tables.exec = Jvm.exec) (hown : s.vm.findClass R_LA = some m.cls) (hG : z_G lo tP s) (hr : ∃ cell : Cell, H[b0]? = some cell ∧ cell.vm.isStatics = false ∧ s.vm.findClass R_RR = some cell.cls) (hdg : decode c.code pc = .ok (.invokevirtual 62, 3)) : z_In p l e R s m args below meth c H (F0 m pc ls (.int v1 :: .int v0 :: .ref b0 :: rest)) rest y_RR_missing (.ref b0 :: [.int v0, .int v1] : List Value).toArray :=
  z_inV (C := R_RR) (n := 2) (As := [.int v0, .int v1]) hx hown (hG.w k_434 rfl args) (hG.w k_435 rfl args) (hG.w k_436 rfl args) (z_sg0 (hG.w k_437 rfl args)) (by decide +kernel) hr rfl hdg
theorem cw_RR_missing {rm : Room} (hG : z_G lo tP s) (h1 : rm.frames + 1 ≤ R.frames) (h2 : 8 + (4 + 11) + rm.locals ≤ R.locals) : z_Cw R s args y_RR_missing w_RR_missing rm 4 := ⟨hG.at k_437 rfl, z_wk0, hG.w k_18 rfl args, h1, h2⟩
theorem n_LA_RR_quarantine {b0 : Nat} {v0 : Int32} {v1 : Int32} (hx : p.tables.exec = Jvm.exec) (hown : s.vm.findClass R_LA = some m.cls) (hG : z_G lo tP s) (hr : ∃ cell : Cell, H[b0]? = some cell ∧ cell.vm.isStatics = false ∧ s.vm.findClass R_RR = some cell.cls) (hdg : decode c.code pc = .ok (.invokevirtual 37, 3)) : z_In p l e R s m args below meth c H (F0 m pc ls (.int v1 :: .int v0 :: .ref b0 :: rest)) rest y_RR_quarantine (.ref b0 :: [.int v0, .int v1] : List Value).toArray :=
  z_inV (C := R_RR) (n := 2) (As := [.int v0, .int v1]) hx hown (hG.w k_351 rfl args) (hG.w k_352 rfl args) (hG.w k_353 rfl args) (z_sg0 (hG.w k_354 rfl args)) (by decide +kernel) hr rfl hdg
theorem cw_RR_quarantine {rm : Room} (hG : z_G lo tP s) (h1 : rm.frames + 1 ≤ R.frames) (h2 : 8 + (4 + 11) + rm.locals ≤ R.locals) : z_Cw R s args y_RR_quarantine w_RR_quarantine rm 4 := ⟨hG.at k_354 rfl, z_wk0, hG.w k_18 rfl args, h1, h2⟩
theorem n_LA_RR_reason {b0 : Nat} {v0 : Int32} {v1 : Int32} (hx : p.tables.exec = Jvm.exec) (hown : s.vm.findClass R_LA = some m.cls) (hG : z_G lo tP s) (hr : ∃ cell : Cell, H[b0]? = some cell ∧ cell.vm.isStatics = false ∧ s.vm.findClass R_RR = some cell.cls) (hdg : decode c.code pc = .ok (.invokevirtual 71, 3)) : z_In p l e R s m args below meth c H (F0 m pc ls (.int v1 :: .int v0 :: .ref b0 :: rest)) rest y_RR_reason (.ref b0 :: [.int v0, .int v1] : List Value).toArray :=
  z_inV (C := R_RR) (n := 2) (As := [.int v0, .int v1]) hx hown (hG.w k_465 rfl args) (hG.w k_466 rfl args) (hG.w k_467 rfl args) (z_sg0 (hG.w k_468 rfl args)) (by decide +kernel) hr rfl hdg
theorem cw_RR_reason {rm : Room} (hG : z_G lo tP s) (h1 : rm.frames + 1 ≤ R.frames) (h2 : 8 + (3 + 11) + rm.locals ≤ R.locals) : z_Cw R s args y_RR_reason w_RR_reason rm 3 := ⟨hG.at k_468 rfl, z_wk0, hG.w k_18 rfl args, h1, h2⟩
theorem n_LA_RR_refund {b0 : Nat} {v0 : Int32} {v1 : Int32} (hx : p.tables.exec = Jvm.exec) (hown : s.vm.findClass R_LA = some m.cls) (hG : z_G lo tP s) (hr : ∃ cell : Cell, H[b0]? = some cell ∧ cell.vm.isStatics = false ∧ s.vm.findClass R_RR = some cell.cls) (hdg : decode c.code pc = .ok (.invokevirtual 65, 3)) : z_In p l e R s m args below meth c H (F0 m pc ls (.int v1 :: .int v0 :: .ref b0 :: rest)) rest y_RR_refund (.ref b0 :: [.int v0, .int v1] : List Value).toArray :=
  z_inV (C := R_RR) (n := 2) (As := [.int v0, .int v1]) hx hown (hG.w k_441 rfl args) (hG.w k_442 rfl args) (hG.w k_443 rfl args) (z_sg0 (hG.w k_444 rfl args)) (by decide +kernel) hr rfl hdg
theorem cw_RR_refund {rm : Room} (hG : z_G lo tP s) (h1 : rm.frames + 1 ≤ R.frames) (h2 : 8 + (5 + 11) + rm.locals ≤ R.locals) : z_Cw R s args y_RR_refund w_RR_refund rm 5 := ⟨hG.at k_444 rfl, z_wk0, hG.w k_18 rfl args, h1, h2⟩
theorem n_LA_RR_repair {b0 : Nat} {v0 : Int32} {v1 : Int32} (hx : p.tables.exec = Jvm.exec) (hown : s.vm.findClass R_LA = some m.cls) (hG : z_G lo tP s) (hr : ∃ cell : Cell, H[b0]? = some cell ∧ cell.vm.isStatics = false ∧ s.vm.findClass R_RR = some cell.cls) (hdg : decode c.code pc = .ok (.invokevirtual 47, 3)) : z_In p l e R s m args below meth c H (F0 m pc ls (.int v1 :: .int v0 :: .ref b0 :: rest)) rest y_RR_repair (.ref b0 :: [.int v0, .int v1] : List Value).toArray :=
  z_inV (C := R_RR) (n := 2) (As := [.int v0, .int v1]) hx hown (hG.w k_392 rfl args) (hG.w k_393 rfl args) (hG.w k_394 rfl args) (z_sg0 (hG.w k_395 rfl args)) (by decide +kernel) hr rfl hdg
theorem cw_RR_repair {rm : Room} (hG : z_G lo tP s) (h1 : rm.frames + 1 ≤ R.frames) (h2 : 8 + (4 + 11) + rm.locals ≤ R.locals) : z_Cw R s args y_RR_repair w_RR_repair rm 4 := ⟨hG.at k_395 rfl, z_wk0, hG.w k_18 rfl args, h1, h2⟩
theorem n_LA_RR_sale {b0 : Nat} {v0 : Int32} {v1 : Int32} {v2 : Int32} (hx : p.tables.exec = Jvm.exec) (hown : s.vm.findClass R_LA = some m.cls) (hG : z_G lo tP s) (hr : ∃ cell : Cell, H[b0]? = some cell ∧ cell.vm.isStatics = false ∧ s.vm.findClass R_RR = some cell.cls) (hdg : decode c.code pc = .ok (.invokevirtual 15, 3)) : z_In p l e R s m args below meth c H (F0 m pc ls (.int v2 :: .int v1 :: .int v0 :: .ref b0 :: rest)) rest y_RR_sale (.ref b0 :: [.int v0, .int v1, .int v2] : List Value).toArray :=
  z_inV (C := R_RR) (n := 3) (As := [.int v0, .int v1, .int v2]) hx hown (hG.w k_163 rfl args) (hG.w k_164 rfl args) (hG.w k_165 rfl args) (z_sg0 (hG.w k_166 rfl args)) (by decide +kernel) hr rfl hdg
theorem cw_RR_sale {rm : Room} (hG : z_G lo tP s) (h1 : rm.frames + 1 ≤ R.frames) (h2 : 8 + (5 + 11) + rm.locals ≤ R.locals) : z_Cw R s args y_RR_sale w_RR_sale rm 5 := ⟨hG.at k_166 rfl, z_wk0, hG.w k_18 rfl args, h1, h2⟩
theorem n_LA_RR_scrap {b0 : Nat} {v0 : Int32} {v1 : Int32} (hx : p.tables.exec = Jvm.exec) (hown : s.vm.findClass R_LA = some m.cls) (hG : z_G lo tP s) (hr : ∃ cell : Cell, H[b0]? = some cell ∧ cell.vm.isStatics = false ∧ s.vm.findClass R_RR = some cell.cls) (hdg : decode c.code pc = .ok (.invokevirtual 54, 3)) : z_In p l e R s m args below meth c H (F0 m pc ls (.int v1 :: .int v0 :: .ref b0 :: rest)) rest y_RR_scrap (.ref b0 :: [.int v0, .int v1] : List Value).toArray :=
  z_inV (C := R_RR) (n := 2) (As := [.int v0, .int v1]) hx hown (hG.w k_412 rfl args) (hG.w k_413 rfl args) (hG.w k_414 rfl args) (z_sg0 (hG.w k_415 rfl args)) (by decide +kernel) hr rfl hdg
theorem cw_RR_scrap {rm : Room} (hG : z_G lo tP s) (h1 : rm.frames + 1 ≤ R.frames) (h2 : 8 + (4 + 11) + rm.locals ≤ R.locals) : z_Cw R s args y_RR_scrap w_RR_scrap rm 4 := ⟨hG.at k_415 rfl, z_wk0, hG.w k_18 rfl args, h1, h2⟩
theorem n_LA_RR_serial {b0 : Nat} {v0 : Int32} {v1 : Int32} (hx : p.tables.exec = Jvm.exec) (hown : s.vm.findClass R_LA = some m.cls) (hG : z_G lo tP s) (hr : ∃ cell : Cell, H[b0]? = some cell ∧ cell.vm.isStatics = false ∧ s.vm.findClass R_RR = some cell.cls) (hdg : decode c.code pc = .ok (.invokevirtual 33, 3)) : z_In p l e R s m args below meth c H (F0 m pc ls (.int v1 :: .int v0 :: .ref b0 :: rest)) rest y_RR_serial (.ref b0 :: [.int v0, .int v1] : List Value).toArray :=
  z_inV (C := R_RR) (n := 2) (As := [.int v0, .int v1]) hx hown (hG.w k_340 rfl args) (hG.w k_341 rfl args) (hG.w k_342 rfl args) (z_sg0 (hG.w k_343 rfl args)) (by decide +kernel) hr rfl hdg
theorem cw_RR_serial {rm : Room} (hG : z_G lo tP s) (h1 : rm.frames + 1 ≤ R.frames) (h2 : 8 + (5 + 11) + rm.locals ≤ R.locals) : z_Cw R s args y_RR_serial w_RR_serial rm 5 := ⟨hG.at k_343 rfl, z_wk0, hG.w k_18 rfl args, h1, h2⟩
theorem n_LA_RR_step {b0 : Nat} {v0 : Int32} {v1 : Int32} (hx : p.tables.exec = Jvm.exec) (hown : s.vm.findClass R_LA = some m.cls) (hG : z_G lo tP s) (hr : ∃ cell : Cell, H[b0]? = some cell ∧ cell.vm.isStatics = false ∧ s.vm.findClass R_RR = some cell.cls) (hdg : decode c.code pc = .ok (.invokevirtual 50, 3)) : z_In p l e R s m args below meth c H (F0 m pc ls (.int v1 :: .int v0 :: .ref b0 :: rest)) rest y_RR_step (.ref b0 :: [.int v0, .int v1] : List Value).toArray :=
  z_inV (C := R_RR) (n := 2) (As := [.int v0, .int v1]) hx hown (hG.w k_404 rfl args) (hG.w k_405 rfl args) (hG.w k_406 rfl args) (z_sg0 (hG.w k_407 rfl args)) (by decide +kernel) hr rfl hdg
theorem cw_RR_step {rm : Room} (hG : z_G lo tP s) (h1 : rm.frames + 1 ≤ R.frames) (h2 : 8 + (4 + 11) + rm.locals ≤ R.locals) : z_Cw R s args y_RR_step w_RR_step rm 4 := ⟨hG.at k_407 rfl, z_wk0, hG.w k_18 rfl args, h1, h2⟩
theorem n_LA_RR_told {b0 : Nat} {v0 : Int32} {v1 : Int32} (hx : p.tables.exec = Jvm.exec) (hown : s.vm.findClass R_LA = some m.cls) (hG : z_G lo tP s) (hr : ∃ cell : Cell, H[b0]? = some cell ∧ cell.vm.isStatics = false ∧ s.vm.findClass R_RR = some cell.cls) (hdg : decode c.code pc = .ok (.invokevirtual 77, 3)) : z_In p l e R s m args below meth c H (F0 m pc ls (.int v1 :: .int v0 :: .ref b0 :: rest)) rest y_RR_told (.ref b0 :: [.int v0, .int v1] : List Value).toArray :=
  z_inV (C := R_RR) (n := 2) (As := [.int v0, .int v1]) hx hown (hG.w k_493 rfl args) (hG.w k_494 rfl args) (hG.w k_495 rfl args) (z_sg0 (hG.w k_496 rfl args)) (by decide +kernel) hr rfl hdg
theorem cw_RR_told {rm : Room} (hG : z_G lo tP s) (h1 : rm.frames + 1 ≤ R.frames) (h2 : 8 + (4 + 11) + rm.locals ≤ R.locals) : z_Cw R s args y_RR_told w_RR_told rm 4 := ⟨hG.at k_496 rfl, z_wk0, hG.w k_18 rfl args, h1, h2⟩
theorem n_LA_LA_arrive {v0 : Nat} {v1 : Int32} {v2 : Int32} (hx : p.tables.exec = Jvm.exec) (hown : s.vm.findClass R_LA = some m.cls) (hG : z_G lo tP s) (hdg : decode c.code pc = .ok (.invokestatic 102, 3)) : z_In p l e R s m args below meth c H (F0 m pc ls (.int v2 :: .int v1 :: .ref v0 :: rest)) rest y_LA_arrive ([.ref v0, .int v1, .int v2] : List Value).toArray :=
  z_inSW (n := 3) (As := [.ref v0, .int v1, .int v2]) hx hown (hG.w k_323 rfl args) (hG.w k_324 rfl args) (hG.w k_17 rfl args) (hG.w k_325 rfl args) (by decide +kernel) rfl hdg
theorem cw_LA_arrive {rm : Room} (hG : z_G lo tP s) (h1 : rm.frames + 1 ≤ R.frames) (h2 : 8 + (4 + 11) + rm.locals ≤ R.locals) : z_Cw R s args y_LA_arrive w_LA_arrive rm 4 := ⟨hG.at k_325 rfl, z_wkW, hG.w k_17 rfl args, h1, h2⟩
theorem n_LA_LA_back {v0 : Nat} {v1 : Int32} {v2 : Nat} (hx : p.tables.exec = Jvm.exec) (hown : s.vm.findClass R_LA = some m.cls) (hG : z_G lo tP s) (hdg : decode c.code pc = .ok (.invokestatic 130, 3)) : z_In p l e R s m args below meth c H (F0 m pc ls (.ref v2 :: .int v1 :: .ref v0 :: rest)) rest y_LA_back ([.ref v0, .int v1, .ref v2] : List Value).toArray :=
  z_inSW (n := 3) (As := [.ref v0, .int v1, .ref v2]) hx hown (hG.w k_421 rfl args) (hG.w k_422 rfl args) (hG.w k_17 rfl args) (hG.w k_423 rfl args) (by decide +kernel) rfl hdg
theorem cw_LA_back {rm : Room} (hG : z_G lo tP s) (h1 : rm.frames + 1 ≤ R.frames) (h2 : 8 + (4 + 11) + rm.locals ≤ R.locals) : z_Cw R s args y_LA_back w_LA_back rm 4 := ⟨hG.at k_423 rfl, z_wkW, hG.w k_17 rfl args, h1, h2⟩
theorem n_LA_LA_check {v0 : Nat} {v1 : Int32} {v2 : Int32} {v3 : Int32} {v4 : Nat} (hx : p.tables.exec = Jvm.exec) (hown : s.vm.findClass R_LA = some m.cls) (hG : z_G lo tP s) (hdg : decode c.code pc = .ok (.invokestatic 114, 3)) : z_In p l e R s m args below meth c H (F0 m pc ls (.ref v4 :: .int v3 :: .int v2 :: .int v1 :: .ref v0 :: rest)) rest y_LA_check ([.ref v0, .int v1, .int v2, .int v3, .ref v4] : List Value).toArray :=
  z_inSW (n := 5) (As := [.ref v0, .int v1, .int v2, .int v3, .ref v4]) hx hown (hG.w k_360 rfl args) (hG.w k_361 rfl args) (hG.w k_17 rfl args) (hG.w k_362 rfl args) (by decide +kernel) rfl hdg
theorem cw_LA_check {rm : Room} (hG : z_G lo tP s) (h1 : rm.frames + 1 ≤ R.frames) (h2 : 8 + (6 + 11) + rm.locals ≤ R.locals) : z_Cw R s args y_LA_check w_LA_check rm 6 := ⟨hG.at k_362 rfl, z_wkW, hG.w k_17 rfl args, h1, h2⟩
theorem n_LA_LA_comes {v0 : Nat} {v1 : Int32} {v2 : Int32} {v3 : Int32} {v4 : Nat} (hx : p.tables.exec = Jvm.exec) (hown : s.vm.findClass R_LA = some m.cls) (hG : z_G lo tP s) (hdg : decode c.code pc = .ok (.invokestatic 98, 3)) : z_In p l e R s m args below meth c H (F0 m pc ls (.ref v4 :: .int v3 :: .int v2 :: .int v1 :: .ref v0 :: rest)) rest y_LA_comes ([.ref v0, .int v1, .int v2, .int v3, .ref v4] : List Value).toArray :=
  z_inSW (n := 5) (As := [.ref v0, .int v1, .int v2, .int v3, .ref v4]) hx hown (hG.w k_214 rfl args) (hG.w k_215 rfl args) (hG.w k_17 rfl args) (hG.w k_216 rfl args) (by decide +kernel) rfl hdg
theorem cw_LA_comes {rm : Room} (hG : z_G lo tP s) (h1 : rm.frames + 1 ≤ R.frames) (h2 : 8 + (6 + 11) + rm.locals ≤ R.locals) : z_Cw R s args y_LA_comes w_LA_comes rm 6 := ⟨hG.at k_216 rfl, z_wkW, hG.w k_17 rfl args, h1, h2⟩
theorem n_LA_LA_customer {v0 : Nat} {v1 : Int32} {v2 : Int32} {v3 : Nat} (hx : p.tables.exec = Jvm.exec) (hown : s.vm.findClass R_LA = some m.cls) (hG : z_G lo tP s) (hdg : decode c.code pc = .ok (.invokestatic 146, 3)) : z_In p l e R s m args below meth c H (F0 m pc ls (.ref v3 :: .int v2 :: .int v1 :: .ref v0 :: rest)) rest y_LA_customer ([.ref v0, .int v1, .int v2, .ref v3] : List Value).toArray :=
  z_inSW (n := 4) (As := [.ref v0, .int v1, .int v2, .ref v3]) hx hown (hG.w k_470 rfl args) (hG.w k_471 rfl args) (hG.w k_17 rfl args) (hG.w k_472 rfl args) (by decide +kernel) rfl hdg
theorem cw_LA_customer {rm : Room} (hG : z_G lo tP s) (h1 : rm.frames + 1 ≤ R.frames) (h2 : 8 + (5 + 11) + rm.locals ≤ R.locals) : z_Cw R s args y_LA_customer w_LA_customer rm 5 := ⟨hG.at k_472 rfl, z_wkW, hG.w k_17 rfl args, h1, h2⟩
theorem n_LA_LA_day {v0 : Nat} {v1 : Int32} (hx : p.tables.exec = Jvm.exec) (hown : s.vm.findClass R_LA = some m.cls) (hG : z_G lo tP s) (hdg : decode c.code pc = .ok (.invokestatic 84, 3)) : z_In p l e R s m args below meth c H (F0 m pc ls (.int v1 :: .ref v0 :: rest)) rest y_LA_day ([.ref v0, .int v1] : List Value).toArray :=
  z_inSW (n := 2) (As := [.ref v0, .int v1]) hx hown (hG.w k_79 rfl args) (hG.w k_80 rfl args) (hG.w k_17 rfl args) (hG.w k_81 rfl args) (by decide +kernel) rfl hdg
theorem cw_LA_day {rm : Room} (hG : z_G lo tP s) (h1 : rm.frames + 1 ≤ R.frames) (h2 : 8 + (3 + 11) + rm.locals ≤ R.locals) : z_Cw R s args y_LA_day w_LA_day rm 3 := ⟨hG.at k_81 rfl, z_wkW, hG.w k_17 rfl args, h1, h2⟩
theorem n_LA_LA_due {v0 : Nat} {v1 : Int32} {v2 : Nat} (hx : p.tables.exec = Jvm.exec) (hown : s.vm.findClass R_LA = some m.cls) (hG : z_G lo tP s) (hdg : decode c.code pc = .ok (.invokestatic 140, 3)) : z_In p l e R s m args below meth c H (F0 m pc ls (.ref v2 :: .int v1 :: .ref v0 :: rest)) rest y_LA_due ([.ref v0, .int v1, .ref v2] : List Value).toArray :=
  z_inSW (n := 3) (As := [.ref v0, .int v1, .ref v2]) hx hown (hG.w k_455 rfl args) (hG.w k_456 rfl args) (hG.w k_17 rfl args) (hG.w k_457 rfl args) (by decide +kernel) rfl hdg
theorem cw_LA_due {rm : Room} (hG : z_G lo tP s) (h1 : rm.frames + 1 ≤ R.frames) (h2 : 8 + (4 + 11) + rm.locals ≤ R.locals) : z_Cw R s args y_LA_due w_LA_due rm 4 := ⟨hG.at k_457 rfl, z_wkW, hG.w k_17 rfl args, h1, h2⟩
theorem n_LA_LA_grade {v0 : Nat} {v1 : Int32} {v2 : Int32} {v3 : Nat} (hx : p.tables.exec = Jvm.exec) (hown : s.vm.findClass R_LA = some m.cls) (hG : z_G lo tP s) (hdg : decode c.code pc = .ok (.invokestatic 117, 3)) : z_In p l e R s m args below meth c H (F0 m pc ls (.ref v3 :: .int v2 :: .int v1 :: .ref v0 :: rest)) rest y_LA_grade ([.ref v0, .int v1, .int v2, .ref v3] : List Value).toArray :=
  z_inSW (n := 4) (As := [.ref v0, .int v1, .int v2, .ref v3]) hx hown (hG.w k_373 rfl args) (hG.w k_374 rfl args) (hG.w k_17 rfl args) (hG.w k_375 rfl args) (by decide +kernel) rfl hdg
theorem cw_LA_grade {rm : Room} (hG : z_G lo tP s) (h1 : rm.frames + 1 ≤ R.frames) (h2 : 8 + (5 + 11) + rm.locals ≤ R.locals) : z_Cw R s args y_LA_grade w_LA_grade rm 5 := ⟨hG.at k_375 rfl, z_wkW, hG.w k_17 rfl args, h1, h2⟩
theorem n_LA_LA_missing {v0 : Nat} {v1 : Int32} {v2 : Int32} (hx : p.tables.exec = Jvm.exec) (hown : s.vm.findClass R_LA = some m.cls) (hG : z_G lo tP s) (hdg : decode c.code pc = .ok (.invokestatic 134, 3)) : z_In p l e R s m args below meth c H (F0 m pc ls (.int v2 :: .int v1 :: .ref v0 :: rest)) rest y_LA_missing ([.ref v0, .int v1, .int v2] : List Value).toArray :=
  z_inSW (n := 3) (As := [.ref v0, .int v1, .int v2]) hx hown (hG.w k_431 rfl args) (hG.w k_432 rfl args) (hG.w k_17 rfl args) (hG.w k_433 rfl args) (by decide +kernel) rfl hdg
theorem cw_LA_missing {rm : Room} (hG : z_G lo tP s) (h1 : rm.frames + 1 ≤ R.frames) (h2 : 8 + (4 + 11) + rm.locals ≤ R.locals) : z_Cw R s args y_LA_missing w_LA_missing rm 4 := ⟨hG.at k_433 rfl, z_wkW, hG.w k_17 rfl args, h1, h2⟩
theorem n_LA_LA_quarantine {v0 : Nat} {v1 : Int32} {v2 : Int32} (hx : p.tables.exec = Jvm.exec) (hown : s.vm.findClass R_LA = some m.cls) (hG : z_G lo tP s) (hdg : decode c.code pc = .ok (.invokestatic 110, 3)) : z_In p l e R s m args below meth c H (F0 m pc ls (.int v2 :: .int v1 :: .ref v0 :: rest)) rest y_LA_quarantine ([.ref v0, .int v1, .int v2] : List Value).toArray :=
  z_inSW (n := 3) (As := [.ref v0, .int v1, .int v2]) hx hown (hG.w k_348 rfl args) (hG.w k_349 rfl args) (hG.w k_17 rfl args) (hG.w k_350 rfl args) (by decide +kernel) rfl hdg
theorem cw_LA_quarantine {rm : Room} (hG : z_G lo tP s) (h1 : rm.frames + 1 ≤ R.frames) (h2 : 8 + (4 + 11) + rm.locals ≤ R.locals) : z_Cw R s args y_LA_quarantine w_LA_quarantine rm 4 := ⟨hG.at k_350 rfl, z_wkW, hG.w k_17 rfl args, h1, h2⟩
theorem n_LA_LA_reason {v0 : Nat} {v1 : Int32} {v2 : Int32} {v3 : Nat} (hx : p.tables.exec = Jvm.exec) (hown : s.vm.findClass R_LA = some m.cls) (hG : z_G lo tP s) (hdg : decode c.code pc = .ok (.invokestatic 143, 3)) : z_In p l e R s m args below meth c H (F0 m pc ls (.ref v3 :: .int v2 :: .int v1 :: .ref v0 :: rest)) rest y_LA_reason ([.ref v0, .int v1, .int v2, .ref v3] : List Value).toArray :=
  z_inSW (n := 4) (As := [.ref v0, .int v1, .int v2, .ref v3]) hx hown (hG.w k_462 rfl args) (hG.w k_463 rfl args) (hG.w k_17 rfl args) (hG.w k_464 rfl args) (by decide +kernel) rfl hdg
theorem cw_LA_reason {rm : Room} (hG : z_G lo tP s) (h1 : rm.frames + 1 ≤ R.frames) (h2 : 8 + (5 + 11) + rm.locals ≤ R.locals) : z_Cw R s args y_LA_reason w_LA_reason rm 5 := ⟨hG.at k_464 rfl, z_wkW, hG.w k_17 rfl args, h1, h2⟩
theorem n_LA_LA_refund {v0 : Nat} {v1 : Int32} {v2 : Int32} {v3 : Nat} (hx : p.tables.exec = Jvm.exec) (hown : s.vm.findClass R_LA = some m.cls) (hG : z_G lo tP s) (hdg : decode c.code pc = .ok (.invokestatic 137, 3)) : z_In p l e R s m args below meth c H (F0 m pc ls (.ref v3 :: .int v2 :: .int v1 :: .ref v0 :: rest)) rest y_LA_refund ([.ref v0, .int v1, .int v2, .ref v3] : List Value).toArray :=
  z_inSW (n := 4) (As := [.ref v0, .int v1, .int v2, .ref v3]) hx hown (hG.w k_438 rfl args) (hG.w k_439 rfl args) (hG.w k_17 rfl args) (hG.w k_440 rfl args) (by decide +kernel) rfl hdg
theorem cw_LA_refund {rm : Room} (hG : z_G lo tP s) (h1 : rm.frames + 1 ≤ R.frames) (h2 : 8 + (5 + 11) + rm.locals ≤ R.locals) : z_Cw R s args y_LA_refund w_LA_refund rm 5 := ⟨hG.at k_440 rfl, z_wkW, hG.w k_17 rfl args, h1, h2⟩
theorem n_LA_LA_repair {v0 : Nat} {v1 : Int32} {v2 : Int32} (hx : p.tables.exec = Jvm.exec) (hown : s.vm.findClass R_LA = some m.cls) (hG : z_G lo tP s) (hdg : decode c.code pc = .ok (.invokestatic 120, 3)) : z_In p l e R s m args below meth c H (F0 m pc ls (.int v2 :: .int v1 :: .ref v0 :: rest)) rest y_LA_repair ([.ref v0, .int v1, .int v2] : List Value).toArray :=
  z_inSW (n := 3) (As := [.ref v0, .int v1, .int v2]) hx hown (hG.w k_389 rfl args) (hG.w k_390 rfl args) (hG.w k_17 rfl args) (hG.w k_391 rfl args) (by decide +kernel) rfl hdg
theorem cw_LA_repair {rm : Room} (hG : z_G lo tP s) (h1 : rm.frames + 1 ≤ R.frames) (h2 : 8 + (4 + 11) + rm.locals ≤ R.locals) : z_Cw R s args y_LA_repair w_LA_repair rm 4 := ⟨hG.at k_391 rfl, z_wkW, hG.w k_17 rfl args, h1, h2⟩
theorem n_LA_LA_sale {v0 : Nat} {v1 : Int32} {v2 : Int32} {v3 : Int32} {v4 : Nat} (hx : p.tables.exec = Jvm.exec) (hown : s.vm.findClass R_LA = some m.cls) (hG : z_G lo tP s) (hdg : decode c.code pc = .ok (.invokestatic 94, 3)) : z_In p l e R s m args below meth c H (F0 m pc ls (.ref v4 :: .int v3 :: .int v2 :: .int v1 :: .ref v0 :: rest)) rest y_LA_sale ([.ref v0, .int v1, .int v2, .int v3, .ref v4] : List Value).toArray :=
  z_inSW (n := 5) (As := [.ref v0, .int v1, .int v2, .int v3, .ref v4]) hx hown (hG.w k_159 rfl args) (hG.w k_160 rfl args) (hG.w k_17 rfl args) (hG.w k_161 rfl args) (by decide +kernel) rfl hdg
theorem cw_LA_sale {rm : Room} (hG : z_G lo tP s) (h1 : rm.frames + 1 ≤ R.frames) (h2 : 8 + (6 + 11) + rm.locals ≤ R.locals) : z_Cw R s args y_LA_sale w_LA_sale rm 6 := ⟨hG.at k_161 rfl, z_wkW, hG.w k_17 rfl args, h1, h2⟩
theorem n_LA_LA_scrap {v0 : Nat} {v1 : Int32} {v2 : Int32} {v3 : Nat} (hx : p.tables.exec = Jvm.exec) (hown : s.vm.findClass R_LA = some m.cls) (hG : z_G lo tP s) (hdg : decode c.code pc = .ok (.invokestatic 127, 3)) : z_In p l e R s m args below meth c H (F0 m pc ls (.ref v3 :: .int v2 :: .int v1 :: .ref v0 :: rest)) rest y_LA_scrap ([.ref v0, .int v1, .int v2, .ref v3] : List Value).toArray :=
  z_inSW (n := 4) (As := [.ref v0, .int v1, .int v2, .ref v3]) hx hown (hG.w k_409 rfl args) (hG.w k_410 rfl args) (hG.w k_17 rfl args) (hG.w k_411 rfl args) (by decide +kernel) rfl hdg
theorem cw_LA_scrap {rm : Room} (hG : z_G lo tP s) (h1 : rm.frames + 1 ≤ R.frames) (h2 : 8 + (5 + 11) + rm.locals ≤ R.locals) : z_Cw R s args y_LA_scrap w_LA_scrap rm 5 := ⟨hG.at k_411 rfl, z_wkW, hG.w k_17 rfl args, h1, h2⟩
theorem n_LA_LA_serial {v0 : Nat} {v1 : Int32} {v2 : Int32} {v3 : Nat} (hx : p.tables.exec = Jvm.exec) (hown : s.vm.findClass R_LA = some m.cls) (hG : z_G lo tP s) (hdg : decode c.code pc = .ok (.invokestatic 106, 3)) : z_In p l e R s m args below meth c H (F0 m pc ls (.ref v3 :: .int v2 :: .int v1 :: .ref v0 :: rest)) rest y_LA_serial ([.ref v0, .int v1, .int v2, .ref v3] : List Value).toArray :=
  z_inSW (n := 4) (As := [.ref v0, .int v1, .int v2, .ref v3]) hx hown (hG.w k_337 rfl args) (hG.w k_338 rfl args) (hG.w k_17 rfl args) (hG.w k_339 rfl args) (by decide +kernel) rfl hdg
theorem cw_LA_serial {rm : Room} (hG : z_G lo tP s) (h1 : rm.frames + 1 ≤ R.frames) (h2 : 8 + (5 + 11) + rm.locals ≤ R.locals) : z_Cw R s args y_LA_serial w_LA_serial rm 5 := ⟨hG.at k_339 rfl, z_wkW, hG.w k_17 rfl args, h1, h2⟩
theorem n_LA_LA_step {v0 : Nat} {v1 : Int32} {v2 : Int32} {v3 : Nat} (hx : p.tables.exec = Jvm.exec) (hown : s.vm.findClass R_LA = some m.cls) (hG : z_G lo tP s) (hdg : decode c.code pc = .ok (.invokestatic 123, 3)) : z_In p l e R s m args below meth c H (F0 m pc ls (.ref v3 :: .int v2 :: .int v1 :: .ref v0 :: rest)) rest y_LA_step ([.ref v0, .int v1, .int v2, .ref v3] : List Value).toArray :=
  z_inSW (n := 4) (As := [.ref v0, .int v1, .int v2, .ref v3]) hx hown (hG.w k_401 rfl args) (hG.w k_402 rfl args) (hG.w k_17 rfl args) (hG.w k_403 rfl args) (by decide +kernel) rfl hdg
theorem cw_LA_step {rm : Room} (hG : z_G lo tP s) (h1 : rm.frames + 1 ≤ R.frames) (h2 : 8 + (5 + 11) + rm.locals ≤ R.locals) : z_Cw R s args y_LA_step w_LA_step rm 5 := ⟨hG.at k_403 rfl, z_wkW, hG.w k_17 rfl args, h1, h2⟩
theorem n_LA_LA_told {v0 : Nat} {v1 : Int32} {v2 : Int32} {v3 : Nat} (hx : p.tables.exec = Jvm.exec) (hown : s.vm.findClass R_LA = some m.cls) (hG : z_G lo tP s) (hdg : decode c.code pc = .ok (.invokestatic 149, 3)) : z_In p l e R s m args below meth c H (F0 m pc ls (.ref v3 :: .int v2 :: .int v1 :: .ref v0 :: rest)) rest y_LA_told ([.ref v0, .int v1, .int v2, .ref v3] : List Value).toArray :=
  z_inSW (n := 4) (As := [.ref v0, .int v1, .int v2, .ref v3]) hx hown (hG.w k_490 rfl args) (hG.w k_491 rfl args) (hG.w k_17 rfl args) (hG.w k_492 rfl args) (by decide +kernel) rfl hdg
theorem cw_LA_told {rm : Room} (hG : z_G lo tP s) (h1 : rm.frames + 1 ≤ R.frames) (h2 : 8 + (5 + 11) + rm.locals ≤ R.locals) : z_Cw R s args y_LA_told w_LA_told rm 5 := ⟨hG.at k_492 rfl, z_wkW, hG.w k_17 rfl args, h1, h2⟩
theorem n_LA_MO_init {b0 : Nat}  (hx : p.tables.exec = Jvm.exec) (hown : s.vm.findClass R_LA = some m.cls) (hG : z_G lo tP s) (hdg : decode c.code pc = .ok (.invokespecial 83, 3)) : z_In p l e R s m args below meth c H (F0 m pc ls (.ref b0 :: rest)) rest y_MO_init (.ref b0 :: [] : List Value).toArray :=
  z_inI (n := 0) (As := []) hx hown rfl (hG.w k_500 rfl args) (hG.w k_501 rfl args) (hG.w k_502 rfl args) (by decide +kernel) rfl hdg
theorem cw_MO_init {rm : Room} (hG : z_G lo tP s) (h1 : rm.frames + 1 ≤ R.frames) (h2 : 8 + (1 + 11) + rm.locals ≤ R.locals) : z_Cw R s args y_MO_init w_MO_init rm 1 := ⟨hG.at k_502 rfl, z_wk0, hG.w k_19 rfl args, h1, h2⟩
theorem n_LA_MO_arrive {b0 : Nat} {v0 : Int32} {v1 : Int32} (hx : p.tables.exec = Jvm.exec) (hown : s.vm.findClass R_LA = some m.cls) (hG : z_G lo tP s) (hr : ∃ cell : Cell, H[b0]? = some cell ∧ cell.vm.isStatics = false ∧ s.vm.findClass R_MO = some cell.cls) (hdg : decode c.code pc = .ok (.invokevirtual 105, 3)) : z_In p l e R s m args below meth c H (F0 m pc ls (.int v1 :: .int v0 :: .ref b0 :: rest)) rest y_MO_arrive (.ref b0 :: [.int v0, .int v1] : List Value).toArray :=
  z_inV (C := R_MO) (n := 2) (As := [.int v0, .int v1]) hx hown (hG.w k_604 rfl args) (hG.w k_605 rfl args) (hG.w k_606 rfl args) (z_sg0 (hG.w k_607 rfl args)) (by decide +kernel) hr rfl hdg
theorem cw_MO_arrive {rm : Room} (hG : z_G lo tP s) (h1 : rm.frames + 1 ≤ R.frames) (h2 : 8 + (3 + 11) + rm.locals ≤ R.locals) : z_Cw R s args y_MO_arrive w_MO_arrive rm 3 := ⟨hG.at k_607 rfl, z_wk0, hG.w k_19 rfl args, h1, h2⟩
theorem n_LA_MO_back {b0 : Nat} {v0 : Int32} (hx : p.tables.exec = Jvm.exec) (hown : s.vm.findClass R_LA = some m.cls) (hG : z_G lo tP s) (hr : ∃ cell : Cell, H[b0]? = some cell ∧ cell.vm.isStatics = false ∧ s.vm.findClass R_MO = some cell.cls) (hdg : decode c.code pc = .ok (.invokevirtual 133, 3)) : z_In p l e R s m args below meth c H (F0 m pc ls (.int v0 :: .ref b0 :: rest)) rest y_MO_back (.ref b0 :: [.int v0] : List Value).toArray :=
  z_inV (C := R_MO) (n := 1) (As := [.int v0]) hx hown (hG.w k_648 rfl args) (hG.w k_649 rfl args) (hG.w k_650 rfl args) (z_sg0 (hG.w k_651 rfl args)) (by decide +kernel) hr rfl hdg
theorem cw_MO_back {rm : Room} (hG : z_G lo tP s) (h1 : rm.frames + 1 ≤ R.frames) (h2 : 8 + (2 + 11) + rm.locals ≤ R.locals) : z_Cw R s args y_MO_back w_MO_back rm 2 := ⟨hG.at k_651 rfl, z_wk0, hG.w k_19 rfl args, h1, h2⟩
theorem n_LA_MO_check {b0 : Nat} {v0 : Int32} {v1 : Int32} {v2 : Int32} (hx : p.tables.exec = Jvm.exec) (hown : s.vm.findClass R_LA = some m.cls) (hG : z_G lo tP s) (hr : ∃ cell : Cell, H[b0]? = some cell ∧ cell.vm.isStatics = false ∧ s.vm.findClass R_MO = some cell.cls) (hdg : decode c.code pc = .ok (.invokevirtual 116, 3)) : z_In p l e R s m args below meth c H (F0 m pc ls (.int v2 :: .int v1 :: .int v0 :: .ref b0 :: rest)) rest y_MO_check (.ref b0 :: [.int v0, .int v1, .int v2] : List Value).toArray :=
  z_inV (C := R_MO) (n := 3) (As := [.int v0, .int v1, .int v2]) hx hown (hG.w k_624 rfl args) (hG.w k_625 rfl args) (hG.w k_626 rfl args) (z_sg0 (hG.w k_627 rfl args)) (by decide +kernel) hr rfl hdg
theorem cw_MO_check {rm : Room} (hG : z_G lo tP s) (h1 : rm.frames + 1 ≤ R.frames) (h2 : 8 + (6 + 11) + rm.locals ≤ R.locals) : z_Cw R s args y_MO_check w_MO_check rm 6 := ⟨hG.at k_627 rfl, z_wk0, hG.w k_19 rfl args, h1, h2⟩
theorem n_LA_MO_comes {b0 : Nat} {v0 : Int32} {v1 : Int32} {v2 : Int32} (hx : p.tables.exec = Jvm.exec) (hown : s.vm.findClass R_LA = some m.cls) (hG : z_G lo tP s) (hr : ∃ cell : Cell, H[b0]? = some cell ∧ cell.vm.isStatics = false ∧ s.vm.findClass R_MO = some cell.cls) (hdg : decode c.code pc = .ok (.invokevirtual 101, 3)) : z_In p l e R s m args below meth c H (F0 m pc ls (.int v2 :: .int v1 :: .int v0 :: .ref b0 :: rest)) rest y_MO_comes (.ref b0 :: [.int v0, .int v1, .int v2] : List Value).toArray :=
  z_inV (C := R_MO) (n := 3) (As := [.int v0, .int v1, .int v2]) hx hown (hG.w k_592 rfl args) (hG.w k_593 rfl args) (hG.w k_594 rfl args) (z_sg0 (hG.w k_595 rfl args)) (by decide +kernel) hr rfl hdg
theorem cw_MO_comes {rm : Room} (hG : z_G lo tP s) (h1 : rm.frames + 1 ≤ R.frames) (h2 : 8 + (4 + 11) + rm.locals ≤ R.locals) : z_Cw R s args y_MO_comes w_MO_comes rm 4 := ⟨hG.at k_595 rfl, z_wk0, hG.w k_19 rfl args, h1, h2⟩
theorem n_LA_MO_count {b0 : Nat} {v0 : Int32} (hx : p.tables.exec = Jvm.exec) (hown : s.vm.findClass R_LA = some m.cls) (hG : z_G lo tP s) (hr : ∃ cell : Cell, H[b0]? = some cell ∧ cell.vm.isStatics = false ∧ s.vm.findClass R_MO = some cell.cls) (hdg : decode c.code pc = .ok (.invokevirtual 155, 3)) : z_In p l e R s m args below meth c H (F0 m pc ls (.int v0 :: .ref b0 :: rest)) rest y_MO_count (.ref b0 :: [.int v0] : List Value).toArray :=
  z_inV (C := R_MO) (n := 1) (As := [.int v0]) hx hown (hG.w k_691 rfl args) (hG.w k_692 rfl args) (hG.w k_693 rfl args) (z_sg0 (hG.w k_694 rfl args)) (by decide +kernel) hr rfl hdg
theorem cw_MO_count {rm : Room} (hG : z_G lo tP s) (h1 : rm.frames + 1 ≤ R.frames) (h2 : 8 + (4 + 11) + rm.locals ≤ R.locals) : z_Cw R s args y_MO_count w_MO_count rm 4 := ⟨hG.at k_694 rfl, z_wk0, hG.w k_19 rfl args, h1, h2⟩
theorem n_LA_MO_customer {b0 : Nat} {v0 : Int32} {v1 : Int32} (hx : p.tables.exec = Jvm.exec) (hown : s.vm.findClass R_LA = some m.cls) (hG : z_G lo tP s) (hr : ∃ cell : Cell, H[b0]? = some cell ∧ cell.vm.isStatics = false ∧ s.vm.findClass R_MO = some cell.cls) (hdg : decode c.code pc = .ok (.invokevirtual 148, 3)) : z_In p l e R s m args below meth c H (F0 m pc ls (.int v1 :: .int v0 :: .ref b0 :: rest)) rest y_MO_customer (.ref b0 :: [.int v0, .int v1] : List Value).toArray :=
  z_inV (C := R_MO) (n := 2) (As := [.int v0, .int v1]) hx hown (hG.w k_679 rfl args) (hG.w k_680 rfl args) (hG.w k_681 rfl args) (z_sg0 (hG.w k_682 rfl args)) (by decide +kernel) hr rfl hdg
theorem cw_MO_customer {rm : Room} (hG : z_G lo tP s) (h1 : rm.frames + 1 ≤ R.frames) (h2 : 8 + (5 + 11) + rm.locals ≤ R.locals) : z_Cw R s args y_MO_customer w_MO_customer rm 5 := ⟨hG.at k_682 rfl, z_wk0, hG.w k_19 rfl args, h1, h2⟩
theorem n_LA_MO_day {b0 : Nat} {v0 : Int32} (hx : p.tables.exec = Jvm.exec) (hown : s.vm.findClass R_LA = some m.cls) (hG : z_G lo tP s) (hr : ∃ cell : Cell, H[b0]? = some cell ∧ cell.vm.isStatics = false ∧ s.vm.findClass R_MO = some cell.cls) (hdg : decode c.code pc = .ok (.invokevirtual 89, 3)) : z_In p l e R s m args below meth c H (F0 m pc ls (.int v0 :: .ref b0 :: rest)) rest y_MO_day (.ref b0 :: [.int v0] : List Value).toArray :=
  z_inV (C := R_MO) (n := 1) (As := [.int v0]) hx hown (hG.w k_580 rfl args) (hG.w k_581 rfl args) (hG.w k_582 rfl args) (z_sg0 (hG.w k_583 rfl args)) (by decide +kernel) hr rfl hdg
theorem cw_MO_day {rm : Room} (hG : z_G lo tP s) (h1 : rm.frames + 1 ≤ R.frames) (h2 : 8 + (2 + 11) + rm.locals ≤ R.locals) : z_Cw R s args y_MO_day w_MO_day rm 2 := ⟨hG.at k_583 rfl, z_wk0, hG.w k_19 rfl args, h1, h2⟩
theorem n_LA_MO_due {b0 : Nat} {v0 : Int32} (hx : p.tables.exec = Jvm.exec) (hown : s.vm.findClass R_LA = some m.cls) (hG : z_G lo tP s) (hr : ∃ cell : Cell, H[b0]? = some cell ∧ cell.vm.isStatics = false ∧ s.vm.findClass R_MO = some cell.cls) (hdg : decode c.code pc = .ok (.invokevirtual 142, 3)) : z_In p l e R s m args below meth c H (F0 m pc ls (.int v0 :: .ref b0 :: rest)) rest y_MO_due (.ref b0 :: [.int v0] : List Value).toArray :=
  z_inV (C := R_MO) (n := 1) (As := [.int v0]) hx hown (hG.w k_660 rfl args) (hG.w k_661 rfl args) (hG.w k_662 rfl args) (z_sg0 (hG.w k_663 rfl args)) (by decide +kernel) hr rfl hdg
theorem cw_MO_due {rm : Room} (hG : z_G lo tP s) (h1 : rm.frames + 1 ≤ R.frames) (h2 : 8 + (2 + 11) + rm.locals ≤ R.locals) : z_Cw R s args y_MO_due w_MO_due rm 2 := ⟨hG.at k_663 rfl, z_wk0, hG.w k_19 rfl args, h1, h2⟩
theorem n_LA_MO_grade {b0 : Nat} {v0 : Int32} {v1 : Int32} (hx : p.tables.exec = Jvm.exec) (hown : s.vm.findClass R_LA = some m.cls) (hG : z_G lo tP s) (hr : ∃ cell : Cell, H[b0]? = some cell ∧ cell.vm.isStatics = false ∧ s.vm.findClass R_MO = some cell.cls) (hdg : decode c.code pc = .ok (.invokevirtual 119, 3)) : z_In p l e R s m args below meth c H (F0 m pc ls (.int v1 :: .int v0 :: .ref b0 :: rest)) rest y_MO_grade (.ref b0 :: [.int v0, .int v1] : List Value).toArray :=
  z_inV (C := R_MO) (n := 2) (As := [.int v0, .int v1]) hx hown (hG.w k_628 rfl args) (hG.w k_629 rfl args) (hG.w k_630 rfl args) (z_sg0 (hG.w k_631 rfl args)) (by decide +kernel) hr rfl hdg
theorem cw_MO_grade {rm : Room} (hG : z_G lo tP s) (h1 : rm.frames + 1 ≤ R.frames) (h2 : 8 + (3 + 11) + rm.locals ≤ R.locals) : z_Cw R s args y_MO_grade w_MO_grade rm 3 := ⟨hG.at k_631 rfl, z_wk0, hG.w k_19 rfl args, h1, h2⟩
theorem n_LA_MO_missing {b0 : Nat} {v0 : Int32} {v1 : Int32} (hx : p.tables.exec = Jvm.exec) (hown : s.vm.findClass R_LA = some m.cls) (hG : z_G lo tP s) (hr : ∃ cell : Cell, H[b0]? = some cell ∧ cell.vm.isStatics = false ∧ s.vm.findClass R_MO = some cell.cls) (hdg : decode c.code pc = .ok (.invokevirtual 136, 3)) : z_In p l e R s m args below meth c H (F0 m pc ls (.int v1 :: .int v0 :: .ref b0 :: rest)) rest y_MO_missing (.ref b0 :: [.int v0, .int v1] : List Value).toArray :=
  z_inV (C := R_MO) (n := 2) (As := [.int v0, .int v1]) hx hown (hG.w k_656 rfl args) (hG.w k_657 rfl args) (hG.w k_658 rfl args) (z_sg0 (hG.w k_659 rfl args)) (by decide +kernel) hr rfl hdg
theorem cw_MO_missing {rm : Room} (hG : z_G lo tP s) (h1 : rm.frames + 1 ≤ R.frames) (h2 : 8 + (3 + 11) + rm.locals ≤ R.locals) : z_Cw R s args y_MO_missing w_MO_missing rm 3 := ⟨hG.at k_659 rfl, z_wk0, hG.w k_19 rfl args, h1, h2⟩
theorem n_LA_MO_quarantine {b0 : Nat} {v0 : Int32} {v1 : Int32} (hx : p.tables.exec = Jvm.exec) (hown : s.vm.findClass R_LA = some m.cls) (hG : z_G lo tP s) (hr : ∃ cell : Cell, H[b0]? = some cell ∧ cell.vm.isStatics = false ∧ s.vm.findClass R_MO = some cell.cls) (hdg : decode c.code pc = .ok (.invokevirtual 113, 3)) : z_In p l e R s m args below meth c H (F0 m pc ls (.int v1 :: .int v0 :: .ref b0 :: rest)) rest y_MO_quarantine (.ref b0 :: [.int v0, .int v1] : List Value).toArray :=
  z_inV (C := R_MO) (n := 2) (As := [.int v0, .int v1]) hx hown (hG.w k_616 rfl args) (hG.w k_617 rfl args) (hG.w k_618 rfl args) (z_sg0 (hG.w k_619 rfl args)) (by decide +kernel) hr rfl hdg
theorem cw_MO_quarantine {rm : Room} (hG : z_G lo tP s) (h1 : rm.frames + 1 ≤ R.frames) (h2 : 8 + (3 + 11) + rm.locals ≤ R.locals) : z_Cw R s args y_MO_quarantine w_MO_quarantine rm 3 := ⟨hG.at k_619 rfl, z_wk0, hG.w k_19 rfl args, h1, h2⟩
theorem n_LA_MO_reason {b0 : Nat} {v0 : Int32} {v1 : Int32} (hx : p.tables.exec = Jvm.exec) (hown : s.vm.findClass R_LA = some m.cls) (hG : z_G lo tP s) (hr : ∃ cell : Cell, H[b0]? = some cell ∧ cell.vm.isStatics = false ∧ s.vm.findClass R_MO = some cell.cls) (hdg : decode c.code pc = .ok (.invokevirtual 145, 3)) : z_In p l e R s m args below meth c H (F0 m pc ls (.int v1 :: .int v0 :: .ref b0 :: rest)) rest y_MO_reason (.ref b0 :: [.int v0, .int v1] : List Value).toArray :=
  z_inV (C := R_MO) (n := 2) (As := [.int v0, .int v1]) hx hown (hG.w k_675 rfl args) (hG.w k_676 rfl args) (hG.w k_677 rfl args) (z_sg0 (hG.w k_678 rfl args)) (by decide +kernel) hr rfl hdg
theorem cw_MO_reason {rm : Room} (hG : z_G lo tP s) (h1 : rm.frames + 1 ≤ R.frames) (h2 : 8 + (5 + 11) + rm.locals ≤ R.locals) : z_Cw R s args y_MO_reason w_MO_reason rm 5 := ⟨hG.at k_678 rfl, z_wk0, hG.w k_19 rfl args, h1, h2⟩
theorem n_LA_MO_refund {b0 : Nat} {v0 : Int32} {v1 : Int32} (hx : p.tables.exec = Jvm.exec) (hown : s.vm.findClass R_LA = some m.cls) (hG : z_G lo tP s) (hr : ∃ cell : Cell, H[b0]? = some cell ∧ cell.vm.isStatics = false ∧ s.vm.findClass R_MO = some cell.cls) (hdg : decode c.code pc = .ok (.invokevirtual 139, 3)) : z_In p l e R s m args below meth c H (F0 m pc ls (.int v1 :: .int v0 :: .ref b0 :: rest)) rest y_MO_refund (.ref b0 :: [.int v0, .int v1] : List Value).toArray :=
  z_inV (C := R_MO) (n := 2) (As := [.int v0, .int v1]) hx hown (hG.w k_671 rfl args) (hG.w k_672 rfl args) (hG.w k_673 rfl args) (z_sg0 (hG.w k_674 rfl args)) (by decide +kernel) hr rfl hdg
theorem cw_MO_refund {rm : Room} (hG : z_G lo tP s) (h1 : rm.frames + 1 ≤ R.frames) (h2 : 8 + (3 + 11) + rm.locals ≤ R.locals) : z_Cw R s args y_MO_refund w_MO_refund rm 3 := ⟨hG.at k_674 rfl, z_wk0, hG.w k_19 rfl args, h1, h2⟩
theorem n_LA_MO_repair {b0 : Nat} {v0 : Int32} {v1 : Int32} (hx : p.tables.exec = Jvm.exec) (hown : s.vm.findClass R_LA = some m.cls) (hG : z_G lo tP s) (hr : ∃ cell : Cell, H[b0]? = some cell ∧ cell.vm.isStatics = false ∧ s.vm.findClass R_MO = some cell.cls) (hdg : decode c.code pc = .ok (.invokevirtual 122, 3)) : z_In p l e R s m args below meth c H (F0 m pc ls (.int v1 :: .int v0 :: .ref b0 :: rest)) rest y_MO_repair (.ref b0 :: [.int v0, .int v1] : List Value).toArray :=
  z_inV (C := R_MO) (n := 2) (As := [.int v0, .int v1]) hx hown (hG.w k_636 rfl args) (hG.w k_637 rfl args) (hG.w k_638 rfl args) (z_sg0 (hG.w k_639 rfl args)) (by decide +kernel) hr rfl hdg
theorem cw_MO_repair {rm : Room} (hG : z_G lo tP s) (h1 : rm.frames + 1 ≤ R.frames) (h2 : 8 + (3 + 11) + rm.locals ≤ R.locals) : z_Cw R s args y_MO_repair w_MO_repair rm 3 := ⟨hG.at k_639 rfl, z_wk0, hG.w k_19 rfl args, h1, h2⟩
theorem n_LA_MO_sale {b0 : Nat} {v0 : Int32} {v1 : Int32} {v2 : Int32} (hx : p.tables.exec = Jvm.exec) (hown : s.vm.findClass R_LA = some m.cls) (hG : z_G lo tP s) (hr : ∃ cell : Cell, H[b0]? = some cell ∧ cell.vm.isStatics = false ∧ s.vm.findClass R_MO = some cell.cls) (hdg : decode c.code pc = .ok (.invokevirtual 97, 3)) : z_In p l e R s m args below meth c H (F0 m pc ls (.int v2 :: .int v1 :: .int v0 :: .ref b0 :: rest)) rest y_MO_sale (.ref b0 :: [.int v0, .int v1, .int v2] : List Value).toArray :=
  z_inV (C := R_MO) (n := 3) (As := [.int v0, .int v1, .int v2]) hx hown (hG.w k_587 rfl args) (hG.w k_588 rfl args) (hG.w k_589 rfl args) (z_sg0 (hG.w k_590 rfl args)) (by decide +kernel) hr rfl hdg
theorem cw_MO_sale {rm : Room} (hG : z_G lo tP s) (h1 : rm.frames + 1 ≤ R.frames) (h2 : 8 + (4 + 11) + rm.locals ≤ R.locals) : z_Cw R s args y_MO_sale w_MO_sale rm 4 := ⟨hG.at k_590 rfl, z_wk0, hG.w k_19 rfl args, h1, h2⟩
theorem n_LA_MO_scrap {b0 : Nat} {v0 : Int32} {v1 : Int32} (hx : p.tables.exec = Jvm.exec) (hown : s.vm.findClass R_LA = some m.cls) (hG : z_G lo tP s) (hr : ∃ cell : Cell, H[b0]? = some cell ∧ cell.vm.isStatics = false ∧ s.vm.findClass R_MO = some cell.cls) (hdg : decode c.code pc = .ok (.invokevirtual 129, 3)) : z_In p l e R s m args below meth c H (F0 m pc ls (.int v1 :: .int v0 :: .ref b0 :: rest)) rest y_MO_scrap (.ref b0 :: [.int v0, .int v1] : List Value).toArray :=
  z_inV (C := R_MO) (n := 2) (As := [.int v0, .int v1]) hx hown (hG.w k_644 rfl args) (hG.w k_645 rfl args) (hG.w k_646 rfl args) (z_sg0 (hG.w k_647 rfl args)) (by decide +kernel) hr rfl hdg
theorem cw_MO_scrap {rm : Room} (hG : z_G lo tP s) (h1 : rm.frames + 1 ≤ R.frames) (h2 : 8 + (3 + 11) + rm.locals ≤ R.locals) : z_Cw R s args y_MO_scrap w_MO_scrap rm 3 := ⟨hG.at k_647 rfl, z_wk0, hG.w k_19 rfl args, h1, h2⟩
theorem n_LA_MO_serial {b0 : Nat} {v0 : Int32} {v1 : Int32} (hx : p.tables.exec = Jvm.exec) (hown : s.vm.findClass R_LA = some m.cls) (hG : z_G lo tP s) (hr : ∃ cell : Cell, H[b0]? = some cell ∧ cell.vm.isStatics = false ∧ s.vm.findClass R_MO = some cell.cls) (hdg : decode c.code pc = .ok (.invokevirtual 109, 3)) : z_In p l e R s m args below meth c H (F0 m pc ls (.int v1 :: .int v0 :: .ref b0 :: rest)) rest y_MO_serial (.ref b0 :: [.int v0, .int v1] : List Value).toArray :=
  z_inV (C := R_MO) (n := 2) (As := [.int v0, .int v1]) hx hown (hG.w k_612 rfl args) (hG.w k_613 rfl args) (hG.w k_614 rfl args) (z_sg0 (hG.w k_615 rfl args)) (by decide +kernel) hr rfl hdg
theorem cw_MO_serial {rm : Room} (hG : z_G lo tP s) (h1 : rm.frames + 1 ≤ R.frames) (h2 : 8 + (3 + 11) + rm.locals ≤ R.locals) : z_Cw R s args y_MO_serial w_MO_serial rm 3 := ⟨hG.at k_615 rfl, z_wk0, hG.w k_19 rfl args, h1, h2⟩
theorem n_LA_MO_step {b0 : Nat} {v0 : Int32} {v1 : Int32} (hx : p.tables.exec = Jvm.exec) (hown : s.vm.findClass R_LA = some m.cls) (hG : z_G lo tP s) (hr : ∃ cell : Cell, H[b0]? = some cell ∧ cell.vm.isStatics = false ∧ s.vm.findClass R_MO = some cell.cls) (hdg : decode c.code pc = .ok (.invokevirtual 126, 3)) : z_In p l e R s m args below meth c H (F0 m pc ls (.int v1 :: .int v0 :: .ref b0 :: rest)) rest y_MO_step (.ref b0 :: [.int v0, .int v1] : List Value).toArray :=
  z_inV (C := R_MO) (n := 2) (As := [.int v0, .int v1]) hx hown (hG.w k_640 rfl args) (hG.w k_641 rfl args) (hG.w k_642 rfl args) (z_sg0 (hG.w k_643 rfl args)) (by decide +kernel) hr rfl hdg
theorem cw_MO_step {rm : Room} (hG : z_G lo tP s) (h1 : rm.frames + 1 ≤ R.frames) (h2 : 8 + (3 + 11) + rm.locals ≤ R.locals) : z_Cw R s args y_MO_step w_MO_step rm 3 := ⟨hG.at k_643 rfl, z_wk0, hG.w k_19 rfl args, h1, h2⟩
theorem n_LA_MO_thrown {b0 : Nat}  (hx : p.tables.exec = Jvm.exec) (hown : s.vm.findClass R_LA = some m.cls) (hG : z_G lo tP s) (hr : ∃ cell : Cell, H[b0]? = some cell ∧ cell.vm.isStatics = false ∧ s.vm.findClass R_MO = some cell.cls) (hdg : decode c.code pc = .ok (.invokevirtual 90, 3)) : z_In p l e R s m args below meth c H (F0 m pc ls (.ref b0 :: rest)) rest y_MO_thrown (.ref b0 :: [] : List Value).toArray :=
  z_inV (C := R_MO) (n := 0) (As := []) hx hown (hG.w k_576 rfl args) (hG.w k_577 rfl args) (hG.w k_578 rfl args) (z_sg0 (hG.w k_579 rfl args)) (by decide +kernel) hr rfl hdg
theorem cw_MO_thrown {rm : Room} (hG : z_G lo tP s) (h1 : rm.frames + 1 ≤ R.frames) (h2 : 8 + (1 + 11) + rm.locals ≤ R.locals) : z_Cw R s args y_MO_thrown w_MO_thrown rm 1 := ⟨hG.at k_579 rfl, z_wk0, hG.w k_19 rfl args, h1, h2⟩
theorem n_LA_MO_told {b0 : Nat} {v0 : Int32} {v1 : Int32} (hx : p.tables.exec = Jvm.exec) (hown : s.vm.findClass R_LA = some m.cls) (hG : z_G lo tP s) (hr : ∃ cell : Cell, H[b0]? = some cell ∧ cell.vm.isStatics = false ∧ s.vm.findClass R_MO = some cell.cls) (hdg : decode c.code pc = .ok (.invokevirtual 151, 3)) : z_In p l e R s m args below meth c H (F0 m pc ls (.int v1 :: .int v0 :: .ref b0 :: rest)) rest y_MO_told (.ref b0 :: [.int v0, .int v1] : List Value).toArray :=
  z_inV (C := R_MO) (n := 2) (As := [.int v0, .int v1]) hx hown (hG.w k_687 rfl args) (hG.w k_688 rfl args) (hG.w k_689 rfl args) (z_sg0 (hG.w k_690 rfl args)) (by decide +kernel) hr rfl hdg
theorem cw_MO_told {rm : Room} (hG : z_G lo tP s) (h1 : rm.frames + 1 ≤ R.frames) (h2 : 8 + (3 + 11) + rm.locals ≤ R.locals) : z_Cw R s args y_MO_told w_MO_told rm 3 := ⟨hG.at k_690 rfl, z_wk0, hG.w k_19 rfl args, h1, h2⟩
theorem n_MO_MO_backs {b0 : Nat} {v0 : Int32} (hx : p.tables.exec = Jvm.exec) (hown : s.vm.findClass R_MO = some m.cls) (hG : z_G lo tP s) (hr : ∃ cell : Cell, H[b0]? = some cell ∧ cell.vm.isStatics = false ∧ s.vm.findClass R_MO = some cell.cls) (hdg : decode c.code pc = .ok (.invokevirtual 103, 3)) : z_In p l e R s m args below meth c H (F0 m pc ls (.int v0 :: .ref b0 :: rest)) rest y_MO_backs (.ref b0 :: [.int v0] : List Value).toArray :=
  z_inV (C := R_MO) (n := 1) (As := [.int v0]) hx hown (hG.w k_652 rfl args) (hG.w k_654 rfl args) (hG.w k_14 rfl args) (z_sg0 (hG.w k_655 rfl args)) (by decide +kernel) hr rfl hdg
theorem cw_MO_backs {rm : Room} (hG : z_G lo tP s) (h1 : rm.frames + 1 ≤ R.frames) (h2 : 8 + (4 + 11) + rm.locals ≤ R.locals) : z_Cw R s args y_MO_backs w_MO_backs rm 4 := ⟨hG.at k_655 rfl, z_wk0, hG.w k_19 rfl args, h1, h2⟩
theorem n_MO_MO_dueOf {b0 : Nat} {v0 : Int32} (hx : p.tables.exec = Jvm.exec) (hown : s.vm.findClass R_MO = some m.cls) (hG : z_G lo tP s) (hr : ∃ cell : Cell, H[b0]? = some cell ∧ cell.vm.isStatics = false ∧ s.vm.findClass R_MO = some cell.cls) (hdg : decode c.code pc = .ok (.invokevirtual 110, 3)) : z_In p l e R s m args below meth c H (F0 m pc ls (.int v0 :: .ref b0 :: rest)) rest y_MO_dueOf (.ref b0 :: [.int v0] : List Value).toArray :=
  z_inV (C := R_MO) (n := 1) (As := [.int v0]) hx hown (hG.w k_664 rfl args) (hG.w k_666 rfl args) (hG.w k_15 rfl args) (z_sg0 (hG.w k_667 rfl args)) (by decide +kernel) hr rfl hdg
theorem cw_MO_dueOf {rm : Room} (hG : z_G lo tP s) (h1 : rm.frames + 1 ≤ R.frames) (h2 : 8 + (4 + 11) + rm.locals ≤ R.locals) : z_Cw R s args y_MO_dueOf w_MO_dueOf rm 4 := ⟨hG.at k_667 rfl, z_wk0, hG.w k_19 rfl args, h1, h2⟩
theorem n_MO_MO_hasReturn {b0 : Nat} {v0 : Int32} (hx : p.tables.exec = Jvm.exec) (hown : s.vm.findClass R_MO = some m.cls) (hG : z_G lo tP s) (hr : ∃ cell : Cell, H[b0]? = some cell ∧ cell.vm.isStatics = false ∧ s.vm.findClass R_MO = some cell.cls) (hdg : decode c.code pc = .ok (.invokevirtual 90, 3)) : z_In p l e R s m args below meth c H (F0 m pc ls (.int v0 :: .ref b0 :: rest)) rest y_MO_hasReturn (.ref b0 :: [.int v0] : List Value).toArray :=
  z_inV (C := R_MO) (n := 1) (As := [.int v0]) hx hown (hG.w k_600 rfl args) (hG.w k_602 rfl args) (hG.w k_10 rfl args) (z_sg0 (hG.w k_603 rfl args)) (by decide +kernel) hr rfl hdg
theorem cw_MO_hasReturn {rm : Room} (hG : z_G lo tP s) (h1 : rm.frames + 1 ≤ R.frames) (h2 : 8 + (3 + 11) + rm.locals ≤ R.locals) : z_Cw R s args y_MO_hasReturn w_MO_hasReturn rm 3 := ⟨hG.at k_603 rfl, z_wk0, hG.w k_19 rfl args, h1, h2⟩
theorem n_MO_MO_in {v0 : Int32} {v1 : Int32} {v2 : Int32} (hx : p.tables.exec = Jvm.exec) (hown : s.vm.findClass R_MO = some m.cls) (hG : z_G lo tP s) (hdg : decode c.code pc = .ok (.invokestatic 75, 3)) : z_In p l e R s m args below meth c H (F0 m pc ls (.int v2 :: .int v1 :: .int v0 :: rest)) rest y_MO_in ([.int v0, .int v1, .int v2] : List Value).toArray :=
  z_inS0 (n := 3) (As := [.int v0, .int v1, .int v2]) hx hown (hG.w k_584 rfl args) (hG.w k_585 rfl args) (hG.w k_19 rfl args) (hG.w k_586 rfl args) (by decide +kernel) rfl hdg
theorem cw_MO_in {rm : Room} (hG : z_G lo tP s) (h1 : rm.frames + 1 ≤ R.frames) (h2 : 8 + (3 + 11) + rm.locals ≤ R.locals) : z_Cw R s args y_MO_in w_MO_in rm 3 := ⟨hG.at k_586 rfl, z_wk0, hG.w k_19 rfl args, h1, h2⟩
theorem n_MO_MO_isReturn {b0 : Nat} {v0 : Int32} (hx : p.tables.exec = Jvm.exec) (hown : s.vm.findClass R_MO = some m.cls) (hG : z_G lo tP s) (hr : ∃ cell : Cell, H[b0]? = some cell ∧ cell.vm.isStatics = false ∧ s.vm.findClass R_MO = some cell.cls) (hdg : decode c.code pc = .ok (.invokevirtual 93, 3)) : z_In p l e R s m args below meth c H (F0 m pc ls (.int v0 :: .ref b0 :: rest)) rest y_MO_isReturn (.ref b0 :: [.int v0] : List Value).toArray :=
  z_inV (C := R_MO) (n := 1) (As := [.int v0]) hx hown (hG.w k_608 rfl args) (hG.w k_610 rfl args) (hG.w k_11 rfl args) (z_sg0 (hG.w k_611 rfl args)) (by decide +kernel) hr rfl hdg
theorem cw_MO_isReturn {rm : Room} (hG : z_G lo tP s) (h1 : rm.frames + 1 ≤ R.frames) (h2 : 8 + (2 + 11) + rm.locals ≤ R.locals) : z_Cw R s args y_MO_isReturn w_MO_isReturn rm 2 := ⟨hG.at k_611 rfl, z_wk0, hG.w k_19 rfl args, h1, h2⟩
theorem n_MO_MO_isSale {b0 : Nat} {v0 : Int32} (hx : p.tables.exec = Jvm.exec) (hown : s.vm.findClass R_MO = some m.cls) (hG : z_G lo tP s) (hr : ∃ cell : Cell, H[b0]? = some cell ∧ cell.vm.isStatics = false ∧ s.vm.findClass R_MO = some cell.cls) (hdg : decode c.code pc = .ok (.invokevirtual 86, 3)) : z_In p l e R s m args below meth c H (F0 m pc ls (.int v0 :: .ref b0 :: rest)) rest y_MO_isSale (.ref b0 :: [.int v0] : List Value).toArray :=
  z_inV (C := R_MO) (n := 1) (As := [.int v0]) hx hown (hG.w k_596 rfl args) (hG.w k_598 rfl args) (hG.w k_9 rfl args) (z_sg0 (hG.w k_599 rfl args)) (by decide +kernel) hr rfl hdg
theorem cw_MO_isSale {rm : Room} (hG : z_G lo tP s) (h1 : rm.frames + 1 ≤ R.frames) (h2 : 8 + (2 + 11) + rm.locals ≤ R.locals) : z_Cw R s args y_MO_isSale w_MO_isSale rm 2 := ⟨hG.at k_599 rfl, z_wk0, hG.w k_19 rfl args, h1, h2⟩
theorem n_MO_MO_isSeen {b0 : Nat} {v0 : Int32} (hx : p.tables.exec = Jvm.exec) (hown : s.vm.findClass R_MO = some m.cls) (hG : z_G lo tP s) (hr : ∃ cell : Cell, H[b0]? = some cell ∧ cell.vm.isStatics = false ∧ s.vm.findClass R_MO = some cell.cls) (hdg : decode c.code pc = .ok (.invokevirtual 96, 3)) : z_In p l e R s m args below meth c H (F0 m pc ls (.int v0 :: .ref b0 :: rest)) rest y_MO_isSeen (.ref b0 :: [.int v0] : List Value).toArray :=
  z_inV (C := R_MO) (n := 1) (As := [.int v0]) hx hown (hG.w k_620 rfl args) (hG.w k_622 rfl args) (hG.w k_12 rfl args) (z_sg0 (hG.w k_623 rfl args)) (by decide +kernel) hr rfl hdg
theorem cw_MO_isSeen {rm : Room} (hG : z_G lo tP s) (h1 : rm.frames + 1 ≤ R.frames) (h2 : 8 + (2 + 11) + rm.locals ≤ R.locals) : z_Cw R s args y_MO_isSeen w_MO_isSeen rm 2 := ⟨hG.at k_623 rfl, z_wk0, hG.w k_19 rfl args, h1, h2⟩
theorem n_MO_MO_percent {v0 : Int32} (hx : p.tables.exec = Jvm.exec) (hown : s.vm.findClass R_MO = some m.cls) (hG : z_G lo tP s) (hdg : decode c.code pc = .ok (.invokestatic 107, 3)) : z_In p l e R s m args below meth c H (F0 m pc ls (.int v0 :: rest)) rest y_MO_percent ([.int v0] : List Value).toArray :=
  z_inS0 (n := 1) (As := [.int v0]) hx hown (hG.w k_668 rfl args) (hG.w k_669 rfl args) (hG.w k_19 rfl args) (hG.w k_670 rfl args) (by decide +kernel) rfl hdg
theorem cw_MO_percent {rm : Room} (hG : z_G lo tP s) (h1 : rm.frames + 1 ≤ R.frames) (h2 : 8 + (1 + 11) + rm.locals ≤ R.locals) : z_Cw R s args y_MO_percent w_MO_percent rm 1 := ⟨hG.at k_670 rfl, z_wk0, hG.w k_19 rfl args, h1, h2⟩
theorem n_MO_MO_regrade {b0 : Nat} {v0 : Int32} {v1 : Int32} (hx : p.tables.exec = Jvm.exec) (hown : s.vm.findClass R_MO = some m.cls) (hG : z_G lo tP s) (hr : ∃ cell : Cell, H[b0]? = some cell ∧ cell.vm.isStatics = false ∧ s.vm.findClass R_MO = some cell.cls) (hdg : decode c.code pc = .ok (.invokevirtual 99, 3)) : z_In p l e R s m args below meth c H (F0 m pc ls (.int v1 :: .int v0 :: .ref b0 :: rest)) rest y_MO_regrade (.ref b0 :: [.int v0, .int v1] : List Value).toArray :=
  z_inV (C := R_MO) (n := 2) (As := [.int v0, .int v1]) hx hown (hG.w k_632 rfl args) (hG.w k_634 rfl args) (hG.w k_13 rfl args) (z_sg0 (hG.w k_635 rfl args)) (by decide +kernel) hr rfl hdg
theorem cw_MO_regrade {rm : Room} (hG : z_G lo tP s) (h1 : rm.frames + 1 ≤ R.frames) (h2 : 8 + (3 + 11) + rm.locals ≤ R.locals) : z_Cw R s args y_MO_regrade w_MO_regrade rm 3 := ⟨hG.at k_635 rfl, z_wk0, hG.w k_19 rfl args, h1, h2⟩
theorem n_MO_MO_returnsOf {b0 : Nat} {v0 : Int32} {v1 : Int32} (hx : p.tables.exec = Jvm.exec) (hown : s.vm.findClass R_MO = some m.cls) (hG : z_G lo tP s) (hr : ∃ cell : Cell, H[b0]? = some cell ∧ cell.vm.isStatics = false ∧ s.vm.findClass R_MO = some cell.cls) (hdg : decode c.code pc = .ok (.invokevirtual 113, 3)) : z_In p l e R s m args below meth c H (F0 m pc ls (.int v1 :: .int v0 :: .ref b0 :: rest)) rest y_MO_returnsOf (.ref b0 :: [.int v0, .int v1] : List Value).toArray :=
  z_inV (C := R_MO) (n := 2) (As := [.int v0, .int v1]) hx hown (hG.w k_683 rfl args) (hG.w k_685 rfl args) (hG.w k_16 rfl args) (z_sg0 (hG.w k_686 rfl args)) (by decide +kernel) hr rfl hdg
theorem cw_MO_returnsOf {rm : Room} (hG : z_G lo tP s) (h1 : rm.frames + 1 ≤ R.frames) (h2 : 8 + (5 + 11) + rm.locals ≤ R.locals) : z_Cw R s args y_MO_returnsOf w_MO_returnsOf rm 5 := ⟨hG.at k_686 rfl, z_wk0, hG.w k_19 rfl args, h1, h2⟩
end SI
end
section
/-! ===== the rows of the class ===== -/
abbrev rowS (i : Nat) (f : Nat → Int32) : List Value := [.int (nI i), .int (f 1), .int (f 2), .int (f 3), .int (f 4), .int (f 5)]
abbrev rowR (a : Nat) (f : Nat → Int32) : List Value := [.ref a, .int (f 1), .int (f 2), .int (f 3), .int (f 4), .int (f 5), .int (f 6), .int (f 7), .int (f 8), .int (f 9), .int (f 10), .int (f 11), .int (f 12), .int (f 13), .int (f 14)]
abbrev z_rg (v a b : Int32) : Prop := ¬ v < a ∧ v ≤ b
theorem z_bn {v : Int32} (h : v = 0 ∨ v = 1) : narrow .boolean (.int v) = .int v := by
  rcases h with rfl | rfl <;> rfl
theorem z_bf {v : Int32} (h : v = 0 ∨ v = 1) : fits .boolean (.int v) = true := by
  rcases h with rfl | rfl <;> rfl
/-! ===== numbers of sales and returns ===== -/
abbrev z_rs (v : Int32) (n : Nat) : Prop := ¬ v < 0 ∧ v < nI n
theorem z_ix0 {v : Int32} (h1 : ¬ v < 0) (h2 : v < 20) : ∃ j : Nat, j < 20 ∧ v = nI j := by
  obtain ⟨j, hj, rfl⟩ := nI_of h1
  refine ⟨j, ?_, rfl⟩
  have h3 : nI j < nI 20 := h2
  exact (nI_ltI hj (by decide)).mp h3
theorem z_ix1 {v : Int32} (h1 : ¬ v < 1) (h2 : v ≤ 20) : ∃ j : Nat, j < 20 ∧ v = nI (j + 1) := by
  have h0 : ¬ v < 0 := fun h => h1 (by
    rw [Int32.lt_iff_toInt_lt] at h ⊢
    have e0 : (0 : Int32).toInt = 0 := by decide
    have e1 : (1 : Int32).toInt = 1 := by decide
    omega)
  obtain ⟨j, hj, rfl⟩ := nI_of h0
  have h3 : nI j ≤ nI 20 := h2
  have h4 := (nI_leI hj (by decide)).mp h3
  have h5 : ¬ nI j < nI 1 := h1
  have h6 : ¬ j < 1 := fun h => h5 ((nI_ltI hj (by decide)).mpr h)
  exact ⟨j - 1, by omega, by rw [show j - 1 + 1 = j by omega]⟩
theorem z_rg1 {j k : Nat} (hj : j < 20) (hk : k ≤ 20) : z_rg (nI (j + 1)) 1 (nI k) ↔ j < k := by
  constructor
  · intro h
    have := (nI_leI (by omega) (by omega)).mp h.2
    omega
  · intro h
    refine ⟨?_, (nI_leI (by omega) (by omega)).mpr (by omega)⟩
    show ¬ nI (j + 1) < nI 1
    rw [nI_ltI (by omega) (by decide)]
    omega
theorem z_rgB {v : Int32} {k : Nat} (hk : k ≤ 20) (h : ¬ v ≤ 20) : ¬ z_rg v 1 (nI k) := fun q => h (Int32.le_trans q.2 (show nI k ≤ nI 20 from nI_le hk (by decide)))
theorem z_rs1 {j n : Nat} (hj : j < 20) (hn : n ≤ 20) : z_rs (nI j) n ↔ j < n := by
  constructor
  · intro h
    exact (nI_ltI (by omega) (by omega)).mp h.2
  · intro h
    exact ⟨nI_pos (by omega), (nI_ltI (by omega) (by omega)).mpr h⟩
theorem z_rsB {v : Int32} {n : Nat} (hn : n ≤ 20) (h : ¬ v < 20) : ¬ z_rs v n := fun q => h (Int32.lt_of_lt_of_le q.2 (show nI n ≤ nI 20 from nI_le hn (by decide)))
/-- the number of a return that there is -/
theorem z_no1 {v : Int32} {k : Nat} (hk : k ≤ 20) (h : z_rg v 1 (nI k)) : ∃ j : Nat, j < k ∧ v = nI (j + 1) := by
  obtain ⟨j, hj, e⟩ := z_ix1 h.1 (Int32.le_trans h.2 (show nI k ≤ nI 20 from nI_le hk (by decide)))
  refine ⟨j, ?_, e⟩
  rw [e] at h
  exact (z_rg1 hj hk).mp h
theorem z_no0 {v : Int32} {n : Nat} (hn : n ≤ 20) (h : z_rs v n) : ∃ j : Nat, j < n ∧ v = nI j := by
  obtain ⟨j, hj, e⟩ := z_ix0 h.1 (Int32.lt_of_lt_of_le h.2 (show nI n ≤ nI 20 from nI_le hn (by decide)))
  refine ⟨j, ?_, e⟩
  rw [e] at h
  exact (z_rs1 hj hn).mp h
abbrev zty (cS cR cJ cI cZ : ClassId) : List (ClassId × FieldType) := [(cS, .object R_SA), (cR, .object R_RE), (cJ, .long), (cI, .int), (cZ, .boolean)]
/-- a row of references: the first n of 20 places -/
abbrev zar (c : ClassId) (n : Nat) (d : Nat → Nat) : va_E := .inl (c, 20, .inr (.inr (.inr (.inr (fun i => if i < n then some (d i) else none)))))
/-! ===== what a row is asked and told ===== -/
/-- a new grade -/
def z_tg (f : Nat → Int32) (g : Int32) : Nat → Int32 := fun i => if i = 8 then g else if i = 9 then f 8 else if i = 10 then (if f 10 = -1 ∨ g < f 10 then g else f 10) else f i
/-- what is due: g the sale's, f the return's -/
def z_due (g f : Nat → Int32) : Int32 := if f 8 < 0 ∨ ¬ f 8 < 5 then 0 else if ¬ f 6 = 0 ∨ ¬ f 2 - g 4 ≤ 30 then 0 else if 0 < g 2 * z_pc (f 8).toNatClampNeg / 100 - g 2 / 10 * f 12 then g 2 * z_pc (f 8).toNatClampNeg / 100 - g 2 / 10 * f 12 else 0
/-- whether a return is of a reason and a buyer -/
abbrev z_of (u w : Int32) (g f : Nat → Int32) : Prop := (u = -1 ∨ u = f 1) ∧ (w = -1 ∨ w = g 1)
def z_me (v : Nat) (f : Nat → Int32) : Int32 := if v = 0 then 1 else if v = 1 then f 13 else if v = 2 then (if f 3 = 5 then 1 else 0) else if v = 3 then (if f 6 = 0 then 0 else 1) else (if f 5 = 0 then 0 else 1)
theorem z_in5 {v : Int32} (h1 : ¬ v < 0) (h2 : v < 5) : vp_in v 5 := by
  obtain ⟨j, hj, rfl⟩ := nI_of h1
  have h3 : nI j < nI 5 := h2
  exact vp_in_nI ((nI_ltI hj (by decide)).mp h3) (by decide)
theorem z_tg1 {a : Nat} {f : Nat → Int32} {g : Int32} (h : f 10 = -1 ∨ g < f 10) : rowR a (z_tg f g) = [.ref a, .int (f 1), .int (f 2), .int (f 3), .int (f 4), .int (f 5), .int (f 6), .int (f 7), .int g, .int (f 8), .int g, .int (f 11), .int (f 12), .int (f 13), .int (f 14)] := by
  have e : z_tg f g 10 = g := by show (if f 10 = -1 ∨ g < f 10 then g else f 10) = g; exact if_pos h
  show [Value.ref a, .int (f 1), .int (f 2), .int (f 3), .int (f 4), .int (f 5), .int (f 6), .int (f 7), .int g, .int (f 8), .int (z_tg f g 10), .int (f 11), .int (f 12), .int (f 13), .int (f 14)] = _
  rw [e]
theorem z_tg2 {a : Nat} {f : Nat → Int32} {g : Int32} (h : ¬ (f 10 = -1 ∨ g < f 10)) : rowR a (z_tg f g) = [.ref a, .int (f 1), .int (f 2), .int (f 3), .int (f 4), .int (f 5), .int (f 6), .int (f 7), .int g, .int (f 8), .int (f 10), .int (f 11), .int (f 12), .int (f 13), .int (f 14)] := by
  have e : z_tg f g 10 = f 10 := by show (if f 10 = -1 ∨ g < f 10 then g else f 10) = f 10; exact if_neg h
  show [Value.ref a, .int (f 1), .int (f 2), .int (f 3), .int (f 4), .int (f 5), .int (f 6), .int (f 7), .int g, .int (f 8), .int (z_tg f g 10), .int (f 11), .int (f 12), .int (f 13), .int (f 14)] = _
  rw [e]
end
section
/-! ===== calls by the kind of their answer ===== -/
section Z19
variable {p : Program} {l : Launch} {e : Env} {R : Room} {s : State} {m : MethodId} {args : Array Value} {below : List Frame} {meth : Method} {c : Code} {H : Heap} {locs : List Loc} {cells slots : Nat} {Q : State → Prop}
variable {cc : ByteArray} {pc : Nat} {ls : Array Slot} {rest st0 : List Value} {D : va_G} {cl : List vw_C} {lo a : Nat} {tys : List (ClassId × FieldType)} {X0 X : zM} {G : State → Prop}
variable {y : MethodName} {w : Cond} {rm : Room} {maxL : Nat} {av : List Value} {ig : Instr}
theorem z_pi {r : zR} {v : Int32} (hI : z_In p l e R s m args below meth c H (F0 m pc ls st0) rest y av.toArray) (hb : c.code = cc) (hsize : ls.size = c.maxLocals) (hM : z_P G D cl tys lo l y w rm av X r) (hr : r = .inl (some (.int v))) (hGk : z_Gk G lo) (hG : G s) (hK : va_K D cl tys s) (hS : z_S D cl lo X0 s.heap X H locs) (cw : z_Cw R s args y w rm maxL)
    (hdg : decode cc pc = .ok (ig, 3)) (hW : (rest.map fun v => v.category).sum ≤ 8) (hc1 : cells + rm.cells ≤ R.cells) (hs1 : slots + rm.slots ≤ R.slots)
    (k : ∀ H1 : Heap, z_Gr H H1 → z_S D cl lo X0 s.heap X H1 locs → W p l e R s m args below meth c H1 locs (cells + rm.cells) (slots + rm.slots) Q (F0 m (pc + 3) ls (.int v :: rest))) :
    W p l e R s m args below meth c H locs cells slots Q (F0 m pc ls st0) := z_pR hI hb hsize hM hr hGk hG hK hS cw hdg hW hc1 hs1 k
theorem z_pa {r : zR} {v : Nat} (hI : z_In p l e R s m args below meth c H (F0 m pc ls st0) rest y av.toArray) (hb : c.code = cc) (hsize : ls.size = c.maxLocals) (hM : z_P G D cl tys lo l y w rm av X r) (hr : r = .inl (some (.ref v))) (hGk : z_Gk G lo) (hG : G s) (hK : va_K D cl tys s) (hS : z_S D cl lo X0 s.heap X H locs) (cw : z_Cw R s args y w rm maxL)
    (hdg : decode cc pc = .ok (ig, 3)) (hW : (rest.map fun v => v.category).sum ≤ 8) (hc1 : cells + rm.cells ≤ R.cells) (hs1 : slots + rm.slots ≤ R.slots)
    (k : ∀ H1 : Heap, z_Gr H H1 → z_S D cl lo X0 s.heap X H1 locs → W p l e R s m args below meth c H1 locs (cells + rm.cells) (slots + rm.slots) Q (F0 m (pc + 3) ls (.ref v :: rest))) :
    W p l e R s m args below meth c H locs cells slots Q (F0 m pc ls st0) := z_pR hI hb hsize hM hr hGk hG hK hS cw hdg hW hc1 hs1 k
theorem z_pv {r : zR}  (hI : z_In p l e R s m args below meth c H (F0 m pc ls st0) rest y av.toArray) (hb : c.code = cc) (hsize : ls.size = c.maxLocals) (hM : z_P G D cl tys lo l y w rm av X r) (hr : r = .inl (none)) (hGk : z_Gk G lo) (hG : G s) (hK : va_K D cl tys s) (hS : z_S D cl lo X0 s.heap X H locs) (cw : z_Cw R s args y w rm maxL)
    (hdg : decode cc pc = .ok (ig, 3)) (hW : (rest.map fun v => v.category).sum ≤ 8) (hc1 : cells + rm.cells ≤ R.cells) (hs1 : slots + rm.slots ≤ R.slots)
    (k : ∀ H1 : Heap, z_Gr H H1 → z_S D cl lo X0 s.heap X H1 locs → W p l e R s m args below meth c H1 locs (cells + rm.cells) (slots + rm.slots) Q (F0 m (pc + 3) ls (rest))) :
    W p l e R s m args below meth c H locs cells slots Q (F0 m pc ls st0) := z_pR hI hb hsize hM hr hGk hG hK hS cw hdg hW hc1 hs1 k
/-- a callee that only reads throws, and so does this method, which only reads -/
theorem z_pPX {r r0 : zR} {E : String} {mc ms : Nat} (hI : z_In p l e R s m args below meth c H (F0 m pc ls st0) rest y av.toArray) (hb : c.code = cc) (hsize : ls.size = c.maxLocals) (hM : z_P G D cl tys lo l y w rm av X r) (hr : r = .inr E) (hGk : z_Gk G lo) (hG : G s) (hK : va_K D cl tys s) (hS : z_S D cl lo X0 s.heap X H []) (cw : z_Cw R s args y w rm maxL)
    (hdg : decode cc pc = .ok (ig, 3)) (hW : (rest.map fun v => v.category).sum ≤ 8) (hc1 : cells + rm.cells ≤ R.cells) (hs1 : slots + rm.slots ≤ R.slots) (hout : ∀ z ∈ c.exceptionTable.toList, ∀ pc, covers z pc = false) (hlocks : meth.locks = false) (hg : z_Gr s.heap H) (he : r0 = .inr E) (h1 : cells + rm.cells ≤ mc) (h2 : slots + rm.slots ≤ ms) :
    W p l e R s m args below meth c H [] cells slots (z_MQ below (z_pu r0) args s mc ms (fun _ => False)) (F0 m pc ls st0) :=
  z_pT hI hb hsize hM hr hGk hG hK hS cw hdg hW hc1 hs1 (fun x H1 hq hS1 hT => z_Pout hout hlocks (hg.tr hq) hT he h1 h2)
/-- .. which may write -/
theorem z_pCX {r : zR} {Po : zR → zM → Prop} {E : String} {mc ms : Nat} (hI : z_In p l e R s m args below meth c H (F0 m pc ls st0) rest y av.toArray) (hb : c.code = cc) (hsize : ls.size = c.maxLocals) (hM : z_P G D cl tys lo l y w rm av X r) (hr : r = .inr E) (hGk : z_Gk G lo) (hG : G s) (hK : va_K D cl tys s) (hS : z_S D cl lo X0 s.heap X H locs) (cw : z_Cw R s args y w rm maxL)
    (hdg : decode cc pc = .ok (ig, 3)) (hW : (rest.map fun v => v.category).sum ≤ 8) (hc1 : cells + rm.cells ≤ R.cells) (hs1 : slots + rm.slots ≤ R.slots) (hout : ∀ z ∈ c.exceptionTable.toList, ∀ pc, covers z pc = false) (hlocks : meth.locks = false) (hP : Po (.inr E) X) (h1 : cells + rm.cells ≤ mc) (h2 : slots + rm.slots ≤ ms) :
    W p l e R s m args below meth c H locs cells slots (z_MQ below (z_Q D cl X0 Po) args s mc ms (fun q => lo ≤ q)) (F0 m pc ls st0) :=
  z_pT hI hb hsize hM hr hGk hG hK hS cw hdg hW hc1 hs1 (fun x H1 hq hS1 hT => z_Cout hout hlocks hS1 hT hP h1 h2)
/-- a call that writes and surely returns nothing, the world behind it known -/
theorem z_wv {Po : zR → zM → Prop} {X2 : zM} (hI : z_In p l e R s m args below meth c H (F0 m pc ls st0) rest y av.toArray) (hb : c.code = cc) (hsize : ls.size = c.maxLocals) (hM : z_C G D cl tys lo l y w rm av X Po) (hPo : ∀ r X9, Po r X9 → r = .inl none ∧ X9 = X2) (hGk : z_Gk G lo) (hG : G s) (hK : va_K D cl tys s) (hS : z_S D cl lo X0 s.heap X H locs) (cw : z_Cw R s args y w rm maxL)
    (hdg : decode cc pc = .ok (ig, 3)) (hW : (rest.map fun v => v.category).sum ≤ 8) (hc1 : cells + rm.cells ≤ R.cells) (hs1 : slots + rm.slots ≤ R.slots)
    (k1 : ∀ (H1 : Heap) (locs1 : List Loc), z_S D cl lo X0 s.heap X2 H1 locs1 → W p l e R s m args below meth c H1 locs1 (cells + rm.cells) (slots + rm.slots) Q (F0 m (pc + 3) ls rest)) :
    W p l e R s m args below meth c H locs cells slots Q (F0 m pc ls st0) := by
  refine z_w hI hb hsize hM hGk hG hK hS cw hdg hW hc1 hs1 (fun v X' H1 locs1 hP _ hS1 _ _ => ?_) (fun E x X' H1 locs1 hP _ _ _ _ _ => ?_)
  · obtain ⟨e1, e2⟩ := hPo _ _ hP
    cases e1
    subst e2
    exact k1 H1 locs1 hS1
  · obtain ⟨e1, -⟩ := hPo _ _ hP
    cases e1
end Z19
/-! ===== the class's world ===== -/
def z_sm (g : Nat → Int32) : Nat → Int32
  | 0 => 0
  | i + 1 => z_sm g i + g i
theorem z_smS (g : Nat → Int32) (i : Nat) : z_sm g (i + 1) = z_sm g i + g i := rfl
def XI (x sA rA : Nat) (cS cR : ClassId) (n k : Nat) (td : Int32) (sd rd : Nat → Nat) (S : Nat → Nat → Int32) (I : Nat → Nat) (F : Nat → Nat → Int32) (X : zM) : Prop :=
  X x = some (.inr (0, [.ref sA, .ref rA, .int (nI n), .int (nI k), .int td])) ∧ X sA = some (zar cS n sd) ∧ X rA = some (zar cR k rd) ∧ (∀ i, i < n → X (sd i) = some (.inr (1, rowS i (S i)))) ∧ (∀ j, j < k → X (rd j) = some (.inr (2, rowR (sd (I j)) (F j)))) ∧ (∀ j, j < k → I j < n) ∧ n ≤ 20 ∧ k ≤ 20 ∧ (∀ i j, i < n → j < n → sd i = sd j → i = j) ∧ (∀ i j, i < k → j < k → rd i = rd j → i = j)
end
section
/-! ===== the class: what is only asked ===== -/
set_option maxHeartbeats 4000000 in
set_option maxRecDepth 100000 in
theorem c_RR_requireWithin (l : Launch) (hl9 : l.stackTraces = false) {D : va_G} {tys : List (ClassId × FieldType)} {lo tP : Nat} (v a b : Int32) {X : zM} : z_P (z_G lo tP) D cls4 tys lo l y_RR_requireWithin w_RR_requireWithin zr0 [.int v, .int a, .int b] X (if z_rg v a b then .inl none else .inr E_IAE) := by
  refine z_ofW (by decide) ?_
  intro p e s m args below meth c s₁ B hml hout hv
  obtain ⟨rfl, hG, hK, hW0, hXl, hlo⟩ := hv
  have hx := B.exec
  have hb := B.bytes
  have hr := B.returns
  have hlk := B.notSynchronized
  have hown : s.vm.findClass R_RR = some m.cls := findClass_of_methodNamed B.named
  have hts : ∀ w9 ∈ z_tb, w9.before ([.int v, .int a, .int b] : List Value).toArray s = true := hG.ts _
  have hk : ∀ {w9 : Cond}, w9 ∈ lw_tbl → z_ok w9 = true → w9.before ([.int v, .int a, .int b] : List Value).toArray s = true := fun h1 h2 => hG.w h1 h2 _
  have hg : z_Gr s.heap s.heap := z_Gr.rf
  have hS := z_S.start hW0 hXl hlo
  have hl := lv_entry ([.int v, .int a, .int b]) (n := 3) (Nat.le_of_ble_eq_true rfl)
  rw [lg_entry_eq]
  generalize (lg_sl ([.int v, .int a, .int b]) ++ List.replicate (3 - (lg_sl ([.int v, .int a, .int b])).length) Slot.unset).toArray = ls at hl ⊢
  have hl : lv_has ls 3 [(0, .int v), (1, .int a), (2, .int b)] := hl
  refine lv_iload_n hx hb d_RR_requireWithin_0 rfl (lv_at hl 0 rfl) ?_
  refine lv_iload_n hx hb d_RR_requireWithin_1 rfl (lv_at hl 1 rfl) ?_
  refine lv_icmp_lt (tgt := 10) hx hb d_RR_requireWithin_2 (by decide) (fun c_1 => ?_) (fun c_1 => ?_)
  · exact th_IAE hx hb hl9 hown hG (hl.1.trans hml.symm) hout hlk (is := 199) (text := "a number is outside its range") (by decide +kernel) d_RR_requireWithin_10 d_RR_requireWithin_13 d_RR_requireWithin_14 d_RR_requireWithin_16 d_RR_requireWithin_19 (z_teP (by simp [z_rg, c_1])) (by decide) (Nat.le_of_ble_eq_true rfl) (by decide) (by decide) (by decide) (by decide)
  · refine lv_iload_n hx hb d_RR_requireWithin_5 rfl (lv_at hl 0 rfl) ?_
    refine lv_iload_n hx hb d_RR_requireWithin_6 rfl (lv_at hl 2 rfl) ?_
    refine lv_icmp_le (tgt := 20) hx hb d_RR_requireWithin_7 (by decide) (fun c_2 => ?_) (fun c_2 => ?_)
    · exact z_Pvret hx hb hr hlk hg (by simp [z_rg, c_1, c_2]) (by decide) (by decide) d_RR_requireWithin_20
    · exact th_IAE hx hb hl9 hown hG (hl.1.trans hml.symm) hout hlk (is := 199) (text := "a number is outside its range") (by decide +kernel) d_RR_requireWithin_10 d_RR_requireWithin_13 d_RR_requireWithin_14 d_RR_requireWithin_16 d_RR_requireWithin_19 (z_teP (by simp [z_rg, c_1, c_2])) (by decide) (Nat.le_of_ble_eq_true rfl) (by decide) (by decide) (by decide) (by decide)
set_option maxHeartbeats 4000000 in
set_option maxRecDepth 100000 in
theorem c_RR_requireHere (l : Launch) (hl9 : l.stackTraces = false) {D : va_G} {tys : List (ClassId × FieldType)} {lo tP : Nat} (row a : Nat) (f : Nat → Int32) {X : zM} (hrow : X row = some (.inr (2, rowR a f))) : z_P (z_G lo tP) D cls4 tys lo l y_RR_requireHere w_RR_requireHere zr0 [.ref row] X (if f 3 = 2 then .inl none else .inr E_ISE) := by
  refine z_ofW (by decide) ?_
  intro p e s m args below meth c s₁ B hml hout hv
  obtain ⟨rfl, hG, hK, hW0, hXl, hlo⟩ := hv
  have hx := B.exec
  have hb := B.bytes
  have hr := B.returns
  have hlk := B.notSynchronized
  have hown : s.vm.findClass R_RR = some m.cls := findClass_of_methodNamed B.named
  have hts : ∀ w9 ∈ z_tb, w9.before ([.ref row] : List Value).toArray s = true := hG.ts _
  have hk : ∀ {w9 : Cond}, w9 ∈ lw_tbl → z_ok w9 = true → w9.before ([.ref row] : List Value).toArray s = true := fun h1 h2 => hG.w h1 h2 _
  have hg : z_Gr s.heap s.heap := z_Gr.rf
  have hS := z_S.start hW0 hXl hlo
  have hl := lv_entry ([.ref row]) (n := 1) (Nat.le_of_ble_eq_true rfl)
  rw [lg_entry_eq]
  generalize (lg_sl ([.ref row]) ++ List.replicate (1 - (lg_sl ([.ref row])).length) Slot.unset).toArray = ls at hl ⊢
  have hl : lv_has ls 1 [(0, .ref row)] := hl
  refine lv_aload_n hx hb d_RR_requireHere_0 rfl (lv_at hl 0 rfl) ?_
  refine z_get (ci := 2) (C := R_RE) (T := F_RE) (N := 15) hx hb hts j_RE hown hK hS hrow rfl 3 (by decide) (hk k_272 rfl) (fun _ h9 => h9) rfl d_RR_requireHere_1 ?_
  refine lv_iconst (v := 2) hx hb d_RR_requireHere_4 (by decide) ?_
  refine lv_icmp_eq (tgt := 18) hx hb d_RR_requireHere_5 (by decide) (fun c_1 => ?_) (fun c_1 => ?_)
  · exact z_Pvret hx hb hr hlk hg (by simp [c_1]) (by decide) (by decide) d_RR_requireHere_18
  · exact th_ISE hx hb hl9 hown hG (hl.1.trans hml.symm) hout hlk (is := 201) (text := "the return is not here") (by decide +kernel) d_RR_requireHere_8 d_RR_requireHere_11 d_RR_requireHere_12 d_RR_requireHere_14 d_RR_requireHere_17 (z_teP (by simp [c_1])) (by decide) (Nat.le_of_ble_eq_true rfl) (by decide) (by decide) (by decide) (by decide)
set_option maxHeartbeats 4000000 in
set_option maxRecDepth 100000 in
theorem c_RR_requireGraded (l : Launch) (hl9 : l.stackTraces = false) {D : va_G} {tys : List (ClassId × FieldType)} {lo tP : Nat} (row a : Nat) (f : Nat → Int32) {X : zM} (hrow : X row = some (.inr (2, rowR a f))) : z_P (z_G lo tP) D cls4 tys lo l y_RR_requireGraded w_RR_requireGraded zr0 [.ref row] X (if f 3 = 3 then .inl none else .inr E_ISE) := by
  refine z_ofW (by decide) ?_
  intro p e s m args below meth c s₁ B hml hout hv
  obtain ⟨rfl, hG, hK, hW0, hXl, hlo⟩ := hv
  have hx := B.exec
  have hb := B.bytes
  have hr := B.returns
  have hlk := B.notSynchronized
  have hown : s.vm.findClass R_RR = some m.cls := findClass_of_methodNamed B.named
  have hts : ∀ w9 ∈ z_tb, w9.before ([.ref row] : List Value).toArray s = true := hG.ts _
  have hk : ∀ {w9 : Cond}, w9 ∈ lw_tbl → z_ok w9 = true → w9.before ([.ref row] : List Value).toArray s = true := fun h1 h2 => hG.w h1 h2 _
  have hg : z_Gr s.heap s.heap := z_Gr.rf
  have hS := z_S.start hW0 hXl hlo
  have hl := lv_entry ([.ref row]) (n := 1) (Nat.le_of_ble_eq_true rfl)
  rw [lg_entry_eq]
  generalize (lg_sl ([.ref row]) ++ List.replicate (1 - (lg_sl ([.ref row])).length) Slot.unset).toArray = ls at hl ⊢
  have hl : lv_has ls 1 [(0, .ref row)] := hl
  refine lv_aload_n hx hb d_RR_requireGraded_0 rfl (lv_at hl 0 rfl) ?_
  refine z_get (ci := 2) (C := R_RE) (T := F_RE) (N := 15) hx hb hts j_RE hown hK hS hrow rfl 3 (by decide) (hk k_272 rfl) (fun _ h9 => h9) rfl d_RR_requireGraded_1 ?_
  refine lv_iconst (v := 3) hx hb d_RR_requireGraded_4 (by decide) ?_
  refine lv_icmp_eq (tgt := 18) hx hb d_RR_requireGraded_5 (by decide) (fun c_1 => ?_) (fun c_1 => ?_)
  · exact z_Pvret hx hb hr hlk hg (by simp [c_1]) (by decide) (by decide) d_RR_requireGraded_18
  · exact th_ISE hx hb hl9 hown hG (hl.1.trans hml.symm) hout hlk (is := 203) (text := "the return is not graded") (by decide +kernel) d_RR_requireGraded_8 d_RR_requireGraded_11 d_RR_requireGraded_12 d_RR_requireGraded_14 d_RR_requireGraded_17 (z_teP (by simp [c_1])) (by decide) (Nat.le_of_ble_eq_true rfl) (by decide) (by decide) (by decide) (by decide)
set_option maxHeartbeats 4000000 in
set_option maxRecDepth 100000 in
theorem c_RR_requireHereOrGraded (l : Launch) (hl9 : l.stackTraces = false) {D : va_G} {tys : List (ClassId × FieldType)} {lo tP : Nat} (row a : Nat) (f : Nat → Int32) {X : zM} (hrow : X row = some (.inr (2, rowR a f))) : z_P (z_G lo tP) D cls4 tys lo l y_RR_requireHereOrGraded w_RR_requireHereOrGraded zr0 [.ref row] X (if f 3 = 2 ∨ f 3 = 3 then .inl none else .inr E_ISE) := by
  refine z_ofW (by decide) ?_
  intro p e s m args below meth c s₁ B hml hout hv
  obtain ⟨rfl, hG, hK, hW0, hXl, hlo⟩ := hv
  have hx := B.exec
  have hb := B.bytes
  have hr := B.returns
  have hlk := B.notSynchronized
  have hown : s.vm.findClass R_RR = some m.cls := findClass_of_methodNamed B.named
  have hts : ∀ w9 ∈ z_tb, w9.before ([.ref row] : List Value).toArray s = true := hG.ts _
  have hk : ∀ {w9 : Cond}, w9 ∈ lw_tbl → z_ok w9 = true → w9.before ([.ref row] : List Value).toArray s = true := fun h1 h2 => hG.w h1 h2 _
  have hg : z_Gr s.heap s.heap := z_Gr.rf
  have hS := z_S.start hW0 hXl hlo
  have hl := lv_entry ([.ref row]) (n := 1) (Nat.le_of_ble_eq_true rfl)
  rw [lg_entry_eq]
  generalize (lg_sl ([.ref row]) ++ List.replicate (1 - (lg_sl ([.ref row])).length) Slot.unset).toArray = ls at hl ⊢
  have hl : lv_has ls 1 [(0, .ref row)] := hl
  refine lv_aload_n hx hb d_RR_requireHereOrGraded_0 rfl (lv_at hl 0 rfl) ?_
  refine z_get (ci := 2) (C := R_RE) (T := F_RE) (N := 15) hx hb hts j_RE hown hK hS hrow rfl 3 (by decide) (hk k_272 rfl) (fun _ h9 => h9) rfl d_RR_requireHereOrGraded_1 ?_
  refine lv_iconst (v := 2) hx hb d_RR_requireHereOrGraded_4 (by decide) ?_
  refine lv_icmp_eq (tgt := 26) hx hb d_RR_requireHereOrGraded_5 (by decide) (fun c_1 => ?_) (fun c_1 => ?_)
  · exact z_Pvret hx hb hr hlk hg (by simp [c_1]) (by decide) (by decide) d_RR_requireHereOrGraded_26
  · refine lv_aload_n hx hb d_RR_requireHereOrGraded_8 rfl (lv_at hl 0 rfl) ?_
    refine z_get (ci := 2) (C := R_RE) (T := F_RE) (N := 15) hx hb hts j_RE hown hK hS hrow rfl 3 (by decide) (hk k_272 rfl) (fun _ h9 => h9) rfl d_RR_requireHereOrGraded_9 ?_
    refine lv_iconst (v := 3) hx hb d_RR_requireHereOrGraded_12 (by decide) ?_
    refine lv_icmp_eq (tgt := 26) hx hb d_RR_requireHereOrGraded_13 (by decide) (fun c_2 => ?_) (fun c_2 => ?_)
    · exact z_Pvret hx hb hr hlk hg (by simp [c_1, c_2]) (by decide) (by decide) d_RR_requireHereOrGraded_26
    · exact th_ISE hx hb hl9 hown hG (hl.1.trans hml.symm) hout hlk (is := 205) (text := "the return is neither here nor graded") (by decide +kernel) d_RR_requireHereOrGraded_16 d_RR_requireHereOrGraded_19 d_RR_requireHereOrGraded_20 d_RR_requireHereOrGraded_22 d_RR_requireHereOrGraded_25 (z_teP (by simp [c_1, c_2])) (by decide) (Nat.le_of_ble_eq_true rfl) (by decide) (by decide) (by decide) (by decide)
set_option maxHeartbeats 4000000 in
set_option maxRecDepth 100000 in
theorem c_RR_requireNoQuarantine (l : Launch) (hl9 : l.stackTraces = false) {D : va_G} {tys : List (ClassId × FieldType)} {lo tP : Nat} (row a : Nat) (f : Nat → Int32) {X : zM} (hrow : X row = some (.inr (2, rowR a f))) : z_P (z_G lo tP) D cls4 tys lo l y_RR_requireNoQuarantine w_RR_requireNoQuarantine zr0 [.ref row] X (if f 5 = 0 then .inl none else .inr E_ISE) := by
  refine z_ofW (by decide) ?_
  intro p e s m args below meth c s₁ B hml hout hv
  obtain ⟨rfl, hG, hK, hW0, hXl, hlo⟩ := hv
  have hx := B.exec
  have hb := B.bytes
  have hr := B.returns
  have hlk := B.notSynchronized
  have hown : s.vm.findClass R_RR = some m.cls := findClass_of_methodNamed B.named
  have hts : ∀ w9 ∈ z_tb, w9.before ([.ref row] : List Value).toArray s = true := hG.ts _
  have hk : ∀ {w9 : Cond}, w9 ∈ lw_tbl → z_ok w9 = true → w9.before ([.ref row] : List Value).toArray s = true := fun h1 h2 => hG.w h1 h2 _
  have hg : z_Gr s.heap s.heap := z_Gr.rf
  have hS := z_S.start hW0 hXl hlo
  have hl := lv_entry ([.ref row]) (n := 1) (Nat.le_of_ble_eq_true rfl)
  rw [lg_entry_eq]
  generalize (lg_sl ([.ref row]) ++ List.replicate (1 - (lg_sl ([.ref row])).length) Slot.unset).toArray = ls at hl ⊢
  have hl : lv_has ls 1 [(0, .ref row)] := hl
  refine lv_aload_n hx hb d_RR_requireNoQuarantine_0 rfl (lv_at hl 0 rfl) ?_
  refine z_get (ci := 2) (C := R_RE) (T := F_RE) (N := 15) hx hb hts j_RE hown hK hS hrow rfl 5 (by decide) (hk k_276 rfl) (fun _ h9 => h9) rfl d_RR_requireNoQuarantine_1 ?_
  refine lv_if_eq (tgt := 17) hx hb d_RR_requireNoQuarantine_4 (by decide) (fun c_1 => ?_) (fun c_1 => ?_)
  · exact z_Pvret hx hb hr hlk hg (by simp [c_1]) (by decide) (by decide) d_RR_requireNoQuarantine_17
  · exact th_ISE hx hb hl9 hown hG (hl.1.trans hml.symm) hout hlk (is := 207) (text := "the return is quarantined") (by decide +kernel) d_RR_requireNoQuarantine_7 d_RR_requireNoQuarantine_10 d_RR_requireNoQuarantine_11 d_RR_requireNoQuarantine_13 d_RR_requireNoQuarantine_16 (z_teP (by simp [c_1])) (by decide) (Nat.le_of_ble_eq_true rfl) (by decide) (by decide) (by decide) (by decide)
end
section
/-! ===== the class: a sale, a return, by its number ===== -/
set_option maxHeartbeats 4000000 in
set_option maxRecDepth 100000 in
theorem c_RR_saleAt (l : Launch) (hl9 : l.stackTraces = false) {D : va_G} {cS cR cJ cI cZ : ClassId} {lo tP : Nat} (x sA rA n k : Nat) (td : Int32) (sd : Nat → Nat) (v : Int32) {X : zM} (hxx : X x = some (.inr (0, [.ref sA, .ref rA, .int (nI n), .int (nI k), .int td]))) (hsA : X sA = some (zar cS n sd)) (hn : n ≤ 20) : z_P (z_G lo tP) D cls4 (zty cS cR cJ cI cZ) lo l y_RR_saleAt w_RR_saleAt zr0 [.ref x, .int v] X (if z_rs v n then .inl (some (.ref (sd v.toNatClampNeg))) else .inr E_NSE) := by
  refine z_ofW (by decide) ?_
  intro p e s m args below meth c s₁ B hml hout hv
  obtain ⟨rfl, hG, hK, hW0, hXl, hlo⟩ := hv
  have hx := B.exec
  have hb := B.bytes
  have hr := B.returns
  have hlk := B.notSynchronized
  have hown : s.vm.findClass R_RR = some m.cls := findClass_of_methodNamed B.named
  have hts : ∀ w9 ∈ z_tb, w9.before ([.ref x, .int v] : List Value).toArray s = true := hG.ts _
  have hk : ∀ {w9 : Cond}, w9 ∈ lw_tbl → z_ok w9 = true → w9.before ([.ref x, .int v] : List Value).toArray s = true := fun h1 h2 => hG.w h1 h2 _
  have hg : z_Gr s.heap s.heap := z_Gr.rf
  have hS := z_S.start hW0 hXl hlo
  have hl := lv_entry ([.ref x, .int v]) (n := 3) (Nat.le_of_ble_eq_true rfl)
  rw [lg_entry_eq]
  generalize (lg_sl ([.ref x, .int v]) ++ List.replicate (3 - (lg_sl ([.ref x, .int v])).length) Slot.unset).toArray = ls at hl ⊢
  have hl : lv_has ls 3 [(0, .ref x), (1, .int v)] := hl
  refine lv_iload_n hx hb d_RR_saleAt_0 rfl (lv_at hl 1 rfl) ?_
  refine lv_if_lt (tgt := 13) hx hb d_RR_saleAt_1 (by decide) (fun c_1 => ?_) (fun c_1 => ?_)
  · exact th_NSE hx hb hl9 hown hG (hl.1.trans hml.symm) hout hlk (is := 194) (text := "there is no such sale") (by decide +kernel) d_RR_saleAt_13 d_RR_saleAt_16 d_RR_saleAt_17 d_RR_saleAt_19 d_RR_saleAt_22 (z_teP (if_neg (fun h => h.1 c_1))) (by decide) (Nat.le_of_ble_eq_true rfl) (by decide) (by decide) (by decide) (by decide)
  · refine lv_iload_n hx hb d_RR_saleAt_4 rfl (lv_at hl 1 rfl) ?_
    refine lv_aload_n hx hb d_RR_saleAt_5 rfl (lv_at hl 0 rfl) ?_
    refine z_get (ci := 0) (C := R_RR) (T := F_RR) (N := 5) hx hb hts j_RR hown hK hS hxx rfl 0 (by decide) (hk k_43 rfl) (fun _ h9 => h9) rfl d_RR_saleAt_6 ?_
    refine z_alen hx hb hK hS 0 hsA rfl (v := 20) rfl d_RR_saleAt_9 ?_
    refine lv_icmp_lt (tgt := 23) hx hb d_RR_saleAt_10 (by decide) (fun c_2 => ?_) (fun c_2 => ?_)
    · refine lv_aload_n hx hb d_RR_saleAt_23 rfl (lv_at hl 0 rfl) ?_
      refine z_get (ci := 0) (C := R_RR) (T := F_RR) (N := 5) hx hb hts j_RR hown hK hS hxx rfl 0 (by decide) (hk k_43 rfl) (fun _ h9 => h9) rfl d_RR_saleAt_24 ?_
      refine lv_iload_n hx hb d_RR_saleAt_27 rfl (lv_at hl 1 rfl) ?_
      obtain ⟨j, hj, ej⟩ := z_ix0 c_1 c_2
      by_cases hjn : j < n
      · refine z_aald hx hb hK hS 0 hsA rfl (by rw [ej]; exact vp_in_nI hj (by decide)) d_RR_saleAt_28 (r := some (sd j)) (by simp only [ej, nI_clamp (show j < 2 ^ 31 by omega), if_pos hjn]) ?_
        refine lv_astore_n (lv' := [(2, .ref (sd j)), (0, .ref x), (1, .int v)]) hx hb d_RR_saleAt_29 rfl hl (by decide) rfl (fun ls hl => ?_)
        refine lv_aload_n hx hb d_RR_saleAt_30 rfl (lv_at hl 0 rfl) ?_
        refine lv_ifnonnull (tgt := 44) hx hb d_RR_saleAt_31 (by decide) ?_
        refine lv_aload_n hx hb d_RR_saleAt_44 rfl (lv_at hl 0 rfl) ?_
        exact z_Paret hx hb hr hlk hg (by rw [if_pos (by rw [ej]; exact (z_rs1 hj hn).mpr hjn), ej, nI_clamp (show j < 2 ^ 31 by omega)]) (by decide) (by decide) d_RR_saleAt_45
      · refine z_aald hx hb hK hS 0 hsA rfl (by rw [ej]; exact vp_in_nI hj (by decide)) d_RR_saleAt_28 (r := none) (by simp only [ej, nI_clamp (show j < 2 ^ 31 by omega), if_neg hjn]) ?_
        refine lv_astore_nN (lv' := [(2, .null), (0, .ref x), (1, .int v)]) hx hb d_RR_saleAt_29 rfl hl (by decide) rfl (fun ls hl => ?_)
        refine lv_aload_nN hx hb d_RR_saleAt_30 rfl (lv_at hl 0 rfl) ?_
        refine lv_ifnonnullN hx hb d_RR_saleAt_31 ?_
        exact th_NSE hx hb hl9 hown hG (hl.1.trans hml.symm) hout hlk (is := 194) (text := "there is no such sale") (by decide +kernel) d_RR_saleAt_34 d_RR_saleAt_37 d_RR_saleAt_38 d_RR_saleAt_40 d_RR_saleAt_43 (z_teP (if_neg (by rw [ej, z_rs1 hj hn]; exact hjn))) (by decide) (Nat.le_of_ble_eq_true rfl) (by decide) (by decide) (by decide) (by decide)
    · exact th_NSE hx hb hl9 hown hG (hl.1.trans hml.symm) hout hlk (is := 194) (text := "there is no such sale") (by decide +kernel) d_RR_saleAt_13 d_RR_saleAt_16 d_RR_saleAt_17 d_RR_saleAt_19 d_RR_saleAt_22 (z_teP (if_neg (z_rsB hn c_2))) (by decide) (Nat.le_of_ble_eq_true rfl) (by decide) (by decide) (by decide) (by decide)
set_option maxHeartbeats 4000000 in
set_option maxRecDepth 100000 in
theorem c_RR_returnAt (l : Launch) (hl9 : l.stackTraces = false) {D : va_G} {cS cR cJ cI cZ : ClassId} {lo tP : Nat} (x sA rA n k : Nat) (td : Int32) (rd : Nat → Nat) (v : Int32) {X : zM} (hxx : X x = some (.inr (0, [.ref sA, .ref rA, .int (nI n), .int (nI k), .int td]))) (hrA : X rA = some (zar cR k rd)) (hkk : k ≤ 20) : z_P (z_G lo tP) D cls4 (zty cS cR cJ cI cZ) lo l y_RR_returnAt w_RR_returnAt zr0 [.ref x, .int v] X (if z_rg v 1 (nI k) then .inl (some (.ref (rd (v.toNatClampNeg - 1)))) else .inr E_NSE) := by
  refine z_ofW (by decide) ?_
  intro p e s m args below meth c s₁ B hml hout hv
  obtain ⟨rfl, hG, hK, hW0, hXl, hlo⟩ := hv
  have hx := B.exec
  have hb := B.bytes
  have hr := B.returns
  have hlk := B.notSynchronized
  have hown : s.vm.findClass R_RR = some m.cls := findClass_of_methodNamed B.named
  have hts : ∀ w9 ∈ z_tb, w9.before ([.ref x, .int v] : List Value).toArray s = true := hG.ts _
  have hk : ∀ {w9 : Cond}, w9 ∈ lw_tbl → z_ok w9 = true → w9.before ([.ref x, .int v] : List Value).toArray s = true := fun h1 h2 => hG.w h1 h2 _
  have hg : z_Gr s.heap s.heap := z_Gr.rf
  have hS := z_S.start hW0 hXl hlo
  have hl := lv_entry ([.ref x, .int v]) (n := 3) (Nat.le_of_ble_eq_true rfl)
  rw [lg_entry_eq]
  generalize (lg_sl ([.ref x, .int v]) ++ List.replicate (3 - (lg_sl ([.ref x, .int v])).length) Slot.unset).toArray = ls at hl ⊢
  have hl : lv_has ls 3 [(0, .ref x), (1, .int v)] := hl
  refine lv_iload_n hx hb d_RR_returnAt_0 rfl (lv_at hl 1 rfl) ?_
  refine lv_iconst (v := 1) hx hb d_RR_returnAt_1 (by decide) ?_
  refine lv_icmp_lt (tgt := 14) hx hb d_RR_returnAt_2 (by decide) (fun c_1 => ?_) (fun c_1 => ?_)
  · exact th_NSE hx hb hl9 hown hG (hl.1.trans hml.symm) hout hlk (is := 197) (text := "there is no such return") (by decide +kernel) d_RR_returnAt_14 d_RR_returnAt_17 d_RR_returnAt_18 d_RR_returnAt_20 d_RR_returnAt_23 (z_teP (if_neg (fun h => h.1 c_1))) (by decide) (Nat.le_of_ble_eq_true rfl) (by decide) (by decide) (by decide) (by decide)
  · refine lv_iload_n hx hb d_RR_returnAt_5 rfl (lv_at hl 1 rfl) ?_
    refine lv_aload_n hx hb d_RR_returnAt_6 rfl (lv_at hl 0 rfl) ?_
    refine z_get (ci := 0) (C := R_RR) (T := F_RR) (N := 5) hx hb hts j_RR hown hK hS hxx rfl 1 (by decide) (hk k_44 rfl) (fun _ h9 => h9) rfl d_RR_returnAt_7 ?_
    refine z_alen hx hb hK hS 1 hrA rfl (v := 20) rfl d_RR_returnAt_10 ?_
    refine lv_icmp_le (tgt := 24) hx hb d_RR_returnAt_11 (by decide) (fun c_2 => ?_) (fun c_2 => ?_)
    · refine lv_aload_n hx hb d_RR_returnAt_24 rfl (lv_at hl 0 rfl) ?_
      refine z_get (ci := 0) (C := R_RR) (T := F_RR) (N := 5) hx hb hts j_RR hown hK hS hxx rfl 1 (by decide) (hk k_44 rfl) (fun _ h9 => h9) rfl d_RR_returnAt_25 ?_
      refine lv_iload_n hx hb d_RR_returnAt_28 rfl (lv_at hl 1 rfl) ?_
      refine lv_iconst (v := 1) hx hb d_RR_returnAt_29 (by decide) ?_
      refine lv_isub hx hb d_RR_returnAt_30 ?_
      obtain ⟨j, hj, ej⟩ := z_ix1 c_1 c_2
      by_cases hjk : j < k
      · refine z_aald hx hb hK hS 1 hrA rfl (by rw [ej, nI_pred]; exact vp_in_nI hj (by decide)) d_RR_returnAt_31 (r := some (rd j)) (by simp only [ej, nI_pred, nI_clamp (show j < 2 ^ 31 by omega), if_pos hjk]) ?_
        refine lv_astore_n (lv' := [(2, .ref (rd j)), (0, .ref x), (1, .int v)]) hx hb d_RR_returnAt_32 rfl hl (by decide) rfl (fun ls hl => ?_)
        refine lv_aload_n hx hb d_RR_returnAt_33 rfl (lv_at hl 0 rfl) ?_
        refine lv_ifnonnull (tgt := 47) hx hb d_RR_returnAt_34 (by decide) ?_
        refine lv_aload_n hx hb d_RR_returnAt_47 rfl (lv_at hl 0 rfl) ?_
        exact z_Paret hx hb hr hlk hg (by rw [if_pos (by rw [ej]; exact (z_rg1 hj hkk).mpr hjk), ej, nI_clamp (show j + 1 < 2 ^ 31 by omega), Nat.add_sub_cancel]) (by decide) (by decide) d_RR_returnAt_48
      · refine z_aald hx hb hK hS 1 hrA rfl (by rw [ej, nI_pred]; exact vp_in_nI hj (by decide)) d_RR_returnAt_31 (r := none) (by simp only [ej, nI_pred, nI_clamp (show j < 2 ^ 31 by omega), if_neg hjk]) ?_
        refine lv_astore_nN (lv' := [(2, .null), (0, .ref x), (1, .int v)]) hx hb d_RR_returnAt_32 rfl hl (by decide) rfl (fun ls hl => ?_)
        refine lv_aload_nN hx hb d_RR_returnAt_33 rfl (lv_at hl 0 rfl) ?_
        refine lv_ifnonnullN hx hb d_RR_returnAt_34 ?_
        exact th_NSE hx hb hl9 hown hG (hl.1.trans hml.symm) hout hlk (is := 197) (text := "there is no such return") (by decide +kernel) d_RR_returnAt_37 d_RR_returnAt_40 d_RR_returnAt_41 d_RR_returnAt_43 d_RR_returnAt_46 (z_teP (if_neg (by rw [ej, z_rg1 hj hkk]; exact hjk))) (by decide) (Nat.le_of_ble_eq_true rfl) (by decide) (by decide) (by decide) (by decide)
    · exact th_NSE hx hb hl9 hown hG (hl.1.trans hml.symm) hout hlk (is := 197) (text := "there is no such return") (by decide +kernel) d_RR_returnAt_14 d_RR_returnAt_17 d_RR_returnAt_18 d_RR_returnAt_20 d_RR_returnAt_23 (z_teP (if_neg (z_rgB hkk c_2))) (by decide) (Nat.le_of_ble_eq_true rfl) (by decide) (by decide) (by decide) (by decide)
end
section
/-! ===== the rows themselves ===== -/
set_option maxHeartbeats 4000000 in
set_option maxRecDepth 100000 in
theorem c_SA_init (l : Launch) (hl9 : l.stackTraces = false) {D : va_G} {tys : List (ClassId × FieldType)} {lo tP : Nat} (q : Nat) (v1 v2 v3 v4 v5 : Int32) {X : zM} (hq : X q = some (.inr (1, [.int 0, .int 0, .int 0, .int 0, .int 0, .int 0]))) : z_C (z_G lo tP) D cls4 tys lo l y_SA_init w_SA_init zrA [.ref q, .int v1, .int v2, .int v3, .int v4, .int v5] X (fun r X9 => r = .inl none ∧ X9 = z_up X q (.inr (1, [.int v1, .int v2, .int v3, .int v4, .int v5, .int 0]))) := by
  refine z_ofW (by decide) ?_
  intro p e s m args below meth c s₁ B hml hout hv
  obtain ⟨rfl, hG, hK, hW0, hXl, hlo⟩ := hv
  have hx := B.exec
  have hb := B.bytes
  have hr := B.returns
  have hlk := B.notSynchronized
  have hown : s.vm.findClass R_SA = some m.cls := findClass_of_methodNamed B.named
  have hts : ∀ w9 ∈ z_tb, w9.before ([.ref q, .int v1, .int v2, .int v3, .int v4, .int v5] : List Value).toArray s = true := hG.ts _
  have hk : ∀ {w9 : Cond}, w9 ∈ lw_tbl → z_ok w9 = true → w9.before ([.ref q, .int v1, .int v2, .int v3, .int v4, .int v5] : List Value).toArray s = true := fun h1 h2 => hG.w h1 h2 _
  have hg : z_Gr s.heap s.heap := z_Gr.rf
  have hS := z_S.start hW0 hXl hlo
  have hl := lv_entry ([.ref q, .int v1, .int v2, .int v3, .int v4, .int v5]) (n := 6) (Nat.le_of_ble_eq_true rfl)
  rw [lg_entry_eq]
  generalize (lg_sl ([.ref q, .int v1, .int v2, .int v3, .int v4, .int v5]) ++ List.replicate (6 - (lg_sl ([.ref q, .int v1, .int v2, .int v3, .int v4, .int v5])).length) Slot.unset).toArray = ls at hl ⊢
  have hl : lv_has ls 6 [(0, .ref q), (1, .int v1), (2, .int v2), (3, .int v3), (4, .int v4), (5, .int v5)] := hl
  have hin : meth.name = "<init>" := (name_of_methodNamed B.named B.method).1
  refine lv_aload_n hx hb d_SA_init_0 rfl (lv_at hl 0 rfl) ?_
  refine W.objInit hx hb hown (hk k_188 rfl) (hk k_37 rfl) (hk k_38 rfl) rfl (by rw [hml]; exact hl.1) rfl d_SA_init_1 (by decide) (Nat.le_of_ble_eq_true rfl) ?_
  refine W.eq (g2 := F0 m 4 ls []) rfl ?_
  refine lv_aload_n hx hb d_SA_init_4 rfl (lv_at hl 0 rfl) ?_
  refine lv_iload_n hx hb d_SA_init_5 rfl (lv_at hl 1 rfl) ?_
  refine z_putF (ci := 1) (C := R_SA) (T := F_SA) (N := 6) (ty := .int) (fs' := [.int v1, .int 0, .int 0, .int 0, .int 0, .int 0]) hx hb hts j_SA t_SA t_SA_ok n_SA hown hK hS hq rfl 0 (by decide) (hk k_189 rfl) (fun _ h9 => h9) rfl hin rfl (by decide +kernel) rfl rfl (Nat.le_of_ble_eq_true rfl) d_SA_init_6 rfl (fun H locs hS => ?_)
  have e_1 : (z_up X q (.inr (1, [.int v1, .int 0, .int 0, .int 0, .int 0, .int 0]))) q = some (.inr (1, [.int v1, .int 0, .int 0, .int 0, .int 0, .int 0])) := z_eq _ _ _
  refine lv_aload_n hx hb d_SA_init_9 rfl (lv_at hl 0 rfl) ?_
  refine lv_iload_n hx hb d_SA_init_10 rfl (lv_at hl 2 rfl) ?_
  refine z_putF (ci := 1) (C := R_SA) (T := F_SA) (N := 6) (ty := .int) (fs' := [.int v1, .int v2, .int 0, .int 0, .int 0, .int 0]) hx hb hts j_SA t_SA t_SA_ok n_SA hown hK hS e_1 rfl 1 (by decide) (hk k_191 rfl) (fun _ h9 => h9) rfl hin rfl (by decide +kernel) rfl rfl (Nat.le_of_ble_eq_true rfl) d_SA_init_11 rfl (fun H locs hS => ?_)
  have e_2 : (z_up (z_up X q (.inr (1, [.int v1, .int 0, .int 0, .int 0, .int 0, .int 0]))) q (.inr (1, [.int v1, .int v2, .int 0, .int 0, .int 0, .int 0]))) q = some (.inr (1, [.int v1, .int v2, .int 0, .int 0, .int 0, .int 0])) := z_eq _ _ _
  refine lv_aload_n hx hb d_SA_init_14 rfl (lv_at hl 0 rfl) ?_
  refine lv_iload_n hx hb d_SA_init_15 rfl (lv_at hl 3 rfl) ?_
  refine z_putF (ci := 1) (C := R_SA) (T := F_SA) (N := 6) (ty := .int) (fs' := [.int v1, .int v2, .int v3, .int 0, .int 0, .int 0]) hx hb hts j_SA t_SA t_SA_ok n_SA hown hK hS e_2 rfl 2 (by decide) (hk k_194 rfl) (fun _ h9 => h9) rfl hin rfl (by decide +kernel) rfl rfl (Nat.le_of_ble_eq_true rfl) d_SA_init_16 rfl (fun H locs hS => ?_)
  have e_3 : (z_up (z_up (z_up X q (.inr (1, [.int v1, .int 0, .int 0, .int 0, .int 0, .int 0]))) q (.inr (1, [.int v1, .int v2, .int 0, .int 0, .int 0, .int 0]))) q (.inr (1, [.int v1, .int v2, .int v3, .int 0, .int 0, .int 0]))) q = some (.inr (1, [.int v1, .int v2, .int v3, .int 0, .int 0, .int 0])) := z_eq _ _ _
  refine lv_aload_n hx hb d_SA_init_19 rfl (lv_at hl 0 rfl) ?_
  refine lv_iload hx hb d_SA_init_20 (lv_at hl 4 rfl) ?_
  refine z_putF (ci := 1) (C := R_SA) (T := F_SA) (N := 6) (ty := .int) (fs' := [.int v1, .int v2, .int v3, .int v4, .int 0, .int 0]) hx hb hts j_SA t_SA t_SA_ok n_SA hown hK hS e_3 rfl 3 (by decide) (hk k_196 rfl) (fun _ h9 => h9) rfl hin rfl (by decide +kernel) rfl rfl (Nat.le_of_ble_eq_true rfl) d_SA_init_22 rfl (fun H locs hS => ?_)
  have e_4 : (z_up (z_up (z_up (z_up X q (.inr (1, [.int v1, .int 0, .int 0, .int 0, .int 0, .int 0]))) q (.inr (1, [.int v1, .int v2, .int 0, .int 0, .int 0, .int 0]))) q (.inr (1, [.int v1, .int v2, .int v3, .int 0, .int 0, .int 0]))) q (.inr (1, [.int v1, .int v2, .int v3, .int v4, .int 0, .int 0]))) q = some (.inr (1, [.int v1, .int v2, .int v3, .int v4, .int 0, .int 0])) := z_eq _ _ _
  refine lv_aload_n hx hb d_SA_init_25 rfl (lv_at hl 0 rfl) ?_
  refine lv_iload hx hb d_SA_init_26 (lv_at hl 5 rfl) ?_
  refine z_putF (ci := 1) (C := R_SA) (T := F_SA) (N := 6) (ty := .int) (fs' := [.int v1, .int v2, .int v3, .int v4, .int v5, .int 0]) hx hb hts j_SA t_SA t_SA_ok n_SA hown hK hS e_4 rfl 4 (by decide) (hk k_198 rfl) (fun _ h9 => h9) rfl hin rfl (by decide +kernel) rfl rfl (Nat.le_of_ble_eq_true rfl) d_SA_init_28 rfl (fun H locs hS => ?_)
  have e_5 : (z_up (z_up (z_up (z_up (z_up X q (.inr (1, [.int v1, .int 0, .int 0, .int 0, .int 0, .int 0]))) q (.inr (1, [.int v1, .int v2, .int 0, .int 0, .int 0, .int 0]))) q (.inr (1, [.int v1, .int v2, .int v3, .int 0, .int 0, .int 0]))) q (.inr (1, [.int v1, .int v2, .int v3, .int v4, .int 0, .int 0]))) q (.inr (1, [.int v1, .int v2, .int v3, .int v4, .int v5, .int 0]))) q = some (.inr (1, [.int v1, .int v2, .int v3, .int v4, .int v5, .int 0])) := z_eq _ _ _
  exact z_Cvret hx hb hr hlk hS (⟨rfl, by simp only [z_upup]⟩) (by decide) (by decide) d_SA_init_31
set_option maxHeartbeats 4000000 in
set_option maxRecDepth 100000 in
theorem c_RE_init (l : Launch) (hl9 : l.stackTraces = false) {D : va_G} {tys : List (ClassId × FieldType)} {lo tP : Nat} (q a : Nat) (v2 v3 v4 : Int32) {X : zM} (hq : X q = some (.inr (2, [.null, .int 0, .int 0, .int 0, .int 0, .int 0, .int 0, .int 0, .int 0, .int 0, .int 0, .int 0, .int 0, .int 0, .int 0]))) : z_C (z_G lo tP) D cls4 tys lo l y_RE_init w_RE_init zrA [.ref q, .ref a, .int v2, .int v3, .int v4] X (fun r X9 => r = .inl none ∧ X9 = z_up X q (.inr (2, [.ref a, .int v2, .int v4, .int v3, .int (-1), .int 0, .int 0, .int 0, .int (-1), .int (-1), .int (-1), .int 0, .int 0, .int 0, .int 0]))) := by
  refine z_ofW (by decide) ?_
  intro p e s m args below meth c s₁ B hml hout hv
  obtain ⟨rfl, hG, hK, hW0, hXl, hlo⟩ := hv
  have hx := B.exec
  have hb := B.bytes
  have hr := B.returns
  have hlk := B.notSynchronized
  have hown : s.vm.findClass R_RE = some m.cls := findClass_of_methodNamed B.named
  have hts : ∀ w9 ∈ z_tb, w9.before ([.ref q, .ref a, .int v2, .int v3, .int v4] : List Value).toArray s = true := hG.ts _
  have hk : ∀ {w9 : Cond}, w9 ∈ lw_tbl → z_ok w9 = true → w9.before ([.ref q, .ref a, .int v2, .int v3, .int v4] : List Value).toArray s = true := fun h1 h2 => hG.w h1 h2 _
  have hg : z_Gr s.heap s.heap := z_Gr.rf
  have hS := z_S.start hW0 hXl hlo
  have hl := lv_entry ([.ref q, .ref a, .int v2, .int v3, .int v4]) (n := 5) (Nat.le_of_ble_eq_true rfl)
  rw [lg_entry_eq]
  generalize (lg_sl ([.ref q, .ref a, .int v2, .int v3, .int v4]) ++ List.replicate (5 - (lg_sl ([.ref q, .ref a, .int v2, .int v3, .int v4])).length) Slot.unset).toArray = ls at hl ⊢
  have hl : lv_has ls 5 [(0, .ref q), (1, .ref a), (2, .int v2), (3, .int v3), (4, .int v4)] := hl
  have hin : meth.name = "<init>" := (name_of_methodNamed B.named B.method).1
  refine lv_aload_n hx hb d_RE_init_0 rfl (lv_at hl 0 rfl) ?_
  refine W.objInit hx hb hown (hk k_264 rfl) (hk k_37 rfl) (hk k_38 rfl) rfl (by rw [hml]; exact hl.1) rfl d_RE_init_1 (by decide) (Nat.le_of_ble_eq_true rfl) ?_
  refine W.eq (g2 := F0 m 4 ls []) rfl ?_
  refine lv_aload_n hx hb d_RE_init_4 rfl (lv_at hl 0 rfl) ?_
  refine lv_aload_n hx hb d_RE_init_5 rfl (lv_at hl 1 rfl) ?_
  refine z_putF (ci := 2) (C := R_RE) (T := F_RE) (N := 15) (ty := .object "ReturnRows$Sale") (fs' := [.ref a, .int 0, .int 0, .int 0, .int 0, .int 0, .int 0, .int 0, .int 0, .int 0, .int 0, .int 0, .int 0, .int 0, .int 0]) hx hb hts j_RE t_RE t_RE_ok n_RE hown hK hS hq rfl 0 (by decide) (hk k_265 rfl) (fun _ h9 => h9) rfl hin rfl (by decide +kernel) rfl rfl (Nat.le_of_ble_eq_true rfl) d_RE_init_6 rfl (fun H locs hS => ?_)
  have e_1 : (z_up X q (.inr (2, [.ref a, .int 0, .int 0, .int 0, .int 0, .int 0, .int 0, .int 0, .int 0, .int 0, .int 0, .int 0, .int 0, .int 0, .int 0]))) q = some (.inr (2, [.ref a, .int 0, .int 0, .int 0, .int 0, .int 0, .int 0, .int 0, .int 0, .int 0, .int 0, .int 0, .int 0, .int 0, .int 0])) := z_eq _ _ _
  refine lv_aload_n hx hb d_RE_init_9 rfl (lv_at hl 0 rfl) ?_
  refine lv_iload_n hx hb d_RE_init_10 rfl (lv_at hl 2 rfl) ?_
  refine z_putF (ci := 2) (C := R_RE) (T := F_RE) (N := 15) (ty := .int) (fs' := [.ref a, .int v2, .int 0, .int 0, .int 0, .int 0, .int 0, .int 0, .int 0, .int 0, .int 0, .int 0, .int 0, .int 0, .int 0]) hx hb hts j_RE t_RE t_RE_ok n_RE hown hK hS e_1 rfl 1 (by decide) (hk k_267 rfl) (fun _ h9 => h9) rfl hin rfl (by decide +kernel) rfl rfl (Nat.le_of_ble_eq_true rfl) d_RE_init_11 rfl (fun H locs hS => ?_)
  have e_2 : (z_up (z_up X q (.inr (2, [.ref a, .int 0, .int 0, .int 0, .int 0, .int 0, .int 0, .int 0, .int 0, .int 0, .int 0, .int 0, .int 0, .int 0, .int 0]))) q (.inr (2, [.ref a, .int v2, .int 0, .int 0, .int 0, .int 0, .int 0, .int 0, .int 0, .int 0, .int 0, .int 0, .int 0, .int 0, .int 0]))) q = some (.inr (2, [.ref a, .int v2, .int 0, .int 0, .int 0, .int 0, .int 0, .int 0, .int 0, .int 0, .int 0, .int 0, .int 0, .int 0, .int 0])) := z_eq _ _ _
  refine lv_aload_n hx hb d_RE_init_14 rfl (lv_at hl 0 rfl) ?_
  refine lv_iload_n hx hb d_RE_init_15 rfl (lv_at hl 3 rfl) ?_
  refine z_put (ci := 2) (C := R_RE) (T := F_RE) (N := 15) (ty := .int) (fs' := [.ref a, .int v2, .int 0, .int v3, .int 0, .int 0, .int 0, .int 0, .int 0, .int 0, .int 0, .int 0, .int 0, .int 0, .int 0]) hx hb hts j_RE t_RE t_RE_ok n_RE hown hK hS e_2 rfl 3 (by decide) (hk k_271 rfl) (fun _ h9 => h9) rfl (by decide +kernel) rfl rfl (Nat.le_of_ble_eq_true rfl) d_RE_init_16 rfl (fun H locs hS => ?_)
  have e_3 : (z_up (z_up (z_up X q (.inr (2, [.ref a, .int 0, .int 0, .int 0, .int 0, .int 0, .int 0, .int 0, .int 0, .int 0, .int 0, .int 0, .int 0, .int 0, .int 0]))) q (.inr (2, [.ref a, .int v2, .int 0, .int 0, .int 0, .int 0, .int 0, .int 0, .int 0, .int 0, .int 0, .int 0, .int 0, .int 0, .int 0]))) q (.inr (2, [.ref a, .int v2, .int 0, .int v3, .int 0, .int 0, .int 0, .int 0, .int 0, .int 0, .int 0, .int 0, .int 0, .int 0, .int 0]))) q = some (.inr (2, [.ref a, .int v2, .int 0, .int v3, .int 0, .int 0, .int 0, .int 0, .int 0, .int 0, .int 0, .int 0, .int 0, .int 0, .int 0])) := z_eq _ _ _
  refine lv_aload_n hx hb d_RE_init_19 rfl (lv_at hl 0 rfl) ?_
  refine lv_iload hx hb d_RE_init_20 (lv_at hl 4 rfl) ?_
  refine z_putF (ci := 2) (C := R_RE) (T := F_RE) (N := 15) (ty := .int) (fs' := [.ref a, .int v2, .int v4, .int v3, .int 0, .int 0, .int 0, .int 0, .int 0, .int 0, .int 0, .int 0, .int 0, .int 0, .int 0]) hx hb hts j_RE t_RE t_RE_ok n_RE hown hK hS e_3 rfl 2 (by decide) (hk k_269 rfl) (fun _ h9 => h9) rfl hin rfl (by decide +kernel) rfl rfl (Nat.le_of_ble_eq_true rfl) d_RE_init_22 rfl (fun H locs hS => ?_)
  have e_4 : (z_up (z_up (z_up (z_up X q (.inr (2, [.ref a, .int 0, .int 0, .int 0, .int 0, .int 0, .int 0, .int 0, .int 0, .int 0, .int 0, .int 0, .int 0, .int 0, .int 0]))) q (.inr (2, [.ref a, .int v2, .int 0, .int 0, .int 0, .int 0, .int 0, .int 0, .int 0, .int 0, .int 0, .int 0, .int 0, .int 0, .int 0]))) q (.inr (2, [.ref a, .int v2, .int 0, .int v3, .int 0, .int 0, .int 0, .int 0, .int 0, .int 0, .int 0, .int 0, .int 0, .int 0, .int 0]))) q (.inr (2, [.ref a, .int v2, .int v4, .int v3, .int 0, .int 0, .int 0, .int 0, .int 0, .int 0, .int 0, .int 0, .int 0, .int 0, .int 0]))) q = some (.inr (2, [.ref a, .int v2, .int v4, .int v3, .int 0, .int 0, .int 0, .int 0, .int 0, .int 0, .int 0, .int 0, .int 0, .int 0, .int 0])) := z_eq _ _ _
  refine lv_aload_n hx hb d_RE_init_25 rfl (lv_at hl 0 rfl) ?_
  refine lv_iconst (v := (-1)) hx hb d_RE_init_26 (by decide) ?_
  refine z_put (ci := 2) (C := R_RE) (T := F_RE) (N := 15) (ty := .int) (fs' := [.ref a, .int v2, .int v4, .int v3, .int (-1), .int 0, .int 0, .int 0, .int 0, .int 0, .int 0, .int 0, .int 0, .int 0, .int 0]) hx hb hts j_RE t_RE t_RE_ok n_RE hown hK hS e_4 rfl 4 (by decide) (hk k_273 rfl) (fun _ h9 => h9) rfl (by decide +kernel) rfl rfl (Nat.le_of_ble_eq_true rfl) d_RE_init_27 rfl (fun H locs hS => ?_)
  have e_5 : (z_up (z_up (z_up (z_up (z_up X q (.inr (2, [.ref a, .int 0, .int 0, .int 0, .int 0, .int 0, .int 0, .int 0, .int 0, .int 0, .int 0, .int 0, .int 0, .int 0, .int 0]))) q (.inr (2, [.ref a, .int v2, .int 0, .int 0, .int 0, .int 0, .int 0, .int 0, .int 0, .int 0, .int 0, .int 0, .int 0, .int 0, .int 0]))) q (.inr (2, [.ref a, .int v2, .int 0, .int v3, .int 0, .int 0, .int 0, .int 0, .int 0, .int 0, .int 0, .int 0, .int 0, .int 0, .int 0]))) q (.inr (2, [.ref a, .int v2, .int v4, .int v3, .int 0, .int 0, .int 0, .int 0, .int 0, .int 0, .int 0, .int 0, .int 0, .int 0, .int 0]))) q (.inr (2, [.ref a, .int v2, .int v4, .int v3, .int (-1), .int 0, .int 0, .int 0, .int 0, .int 0, .int 0, .int 0, .int 0, .int 0, .int 0]))) q = some (.inr (2, [.ref a, .int v2, .int v4, .int v3, .int (-1), .int 0, .int 0, .int 0, .int 0, .int 0, .int 0, .int 0, .int 0, .int 0, .int 0])) := z_eq _ _ _
  refine lv_aload_n hx hb d_RE_init_30 rfl (lv_at hl 0 rfl) ?_
  refine lv_iconst (v := (-1)) hx hb d_RE_init_31 (by decide) ?_
  refine z_put (ci := 2) (C := R_RE) (T := F_RE) (N := 15) (ty := .int) (fs' := [.ref a, .int v2, .int v4, .int v3, .int (-1), .int 0, .int 0, .int 0, .int (-1), .int 0, .int 0, .int 0, .int 0, .int 0, .int 0]) hx hb hts j_RE t_RE t_RE_ok n_RE hown hK hS e_5 rfl 8 (by decide) (hk k_280 rfl) (fun _ h9 => h9) rfl (by decide +kernel) rfl rfl (Nat.le_of_ble_eq_true rfl) d_RE_init_32 rfl (fun H locs hS => ?_)
  have e_6 : (z_up (z_up (z_up (z_up (z_up (z_up X q (.inr (2, [.ref a, .int 0, .int 0, .int 0, .int 0, .int 0, .int 0, .int 0, .int 0, .int 0, .int 0, .int 0, .int 0, .int 0, .int 0]))) q (.inr (2, [.ref a, .int v2, .int 0, .int 0, .int 0, .int 0, .int 0, .int 0, .int 0, .int 0, .int 0, .int 0, .int 0, .int 0, .int 0]))) q (.inr (2, [.ref a, .int v2, .int 0, .int v3, .int 0, .int 0, .int 0, .int 0, .int 0, .int 0, .int 0, .int 0, .int 0, .int 0, .int 0]))) q (.inr (2, [.ref a, .int v2, .int v4, .int v3, .int 0, .int 0, .int 0, .int 0, .int 0, .int 0, .int 0, .int 0, .int 0, .int 0, .int 0]))) q (.inr (2, [.ref a, .int v2, .int v4, .int v3, .int (-1), .int 0, .int 0, .int 0, .int 0, .int 0, .int 0, .int 0, .int 0, .int 0, .int 0]))) q (.inr (2, [.ref a, .int v2, .int v4, .int v3, .int (-1), .int 0, .int 0, .int 0, .int (-1), .int 0, .int 0, .int 0, .int 0, .int 0, .int 0]))) q = some (.inr (2, [.ref a, .int v2, .int v4, .int v3, .int (-1), .int 0, .int 0, .int 0, .int (-1), .int 0, .int 0, .int 0, .int 0, .int 0, .int 0])) := z_eq _ _ _
  refine lv_aload_n hx hb d_RE_init_35 rfl (lv_at hl 0 rfl) ?_
  refine lv_iconst (v := (-1)) hx hb d_RE_init_36 (by decide) ?_
  refine z_put (ci := 2) (C := R_RE) (T := F_RE) (N := 15) (ty := .int) (fs' := [.ref a, .int v2, .int v4, .int v3, .int (-1), .int 0, .int 0, .int 0, .int (-1), .int (-1), .int 0, .int 0, .int 0, .int 0, .int 0]) hx hb hts j_RE t_RE t_RE_ok n_RE hown hK hS e_6 rfl 9 (by decide) (hk k_282 rfl) (fun _ h9 => h9) rfl (by decide +kernel) rfl rfl (Nat.le_of_ble_eq_true rfl) d_RE_init_37 rfl (fun H locs hS => ?_)
  have e_7 : (z_up (z_up (z_up (z_up (z_up (z_up (z_up X q (.inr (2, [.ref a, .int 0, .int 0, .int 0, .int 0, .int 0, .int 0, .int 0, .int 0, .int 0, .int 0, .int 0, .int 0, .int 0, .int 0]))) q (.inr (2, [.ref a, .int v2, .int 0, .int 0, .int 0, .int 0, .int 0, .int 0, .int 0, .int 0, .int 0, .int 0, .int 0, .int 0, .int 0]))) q (.inr (2, [.ref a, .int v2, .int 0, .int v3, .int 0, .int 0, .int 0, .int 0, .int 0, .int 0, .int 0, .int 0, .int 0, .int 0, .int 0]))) q (.inr (2, [.ref a, .int v2, .int v4, .int v3, .int 0, .int 0, .int 0, .int 0, .int 0, .int 0, .int 0, .int 0, .int 0, .int 0, .int 0]))) q (.inr (2, [.ref a, .int v2, .int v4, .int v3, .int (-1), .int 0, .int 0, .int 0, .int 0, .int 0, .int 0, .int 0, .int 0, .int 0, .int 0]))) q (.inr (2, [.ref a, .int v2, .int v4, .int v3, .int (-1), .int 0, .int 0, .int 0, .int (-1), .int 0, .int 0, .int 0, .int 0, .int 0, .int 0]))) q (.inr (2, [.ref a, .int v2, .int v4, .int v3, .int (-1), .int 0, .int 0, .int 0, .int (-1), .int (-1), .int 0, .int 0, .int 0, .int 0, .int 0]))) q = some (.inr (2, [.ref a, .int v2, .int v4, .int v3, .int (-1), .int 0, .int 0, .int 0, .int (-1), .int (-1), .int 0, .int 0, .int 0, .int 0, .int 0])) := z_eq _ _ _
  refine lv_aload_n hx hb d_RE_init_40 rfl (lv_at hl 0 rfl) ?_
  refine lv_iconst (v := (-1)) hx hb d_RE_init_41 (by decide) ?_
  refine z_put (ci := 2) (C := R_RE) (T := F_RE) (N := 15) (ty := .int) (fs' := [.ref a, .int v2, .int v4, .int v3, .int (-1), .int 0, .int 0, .int 0, .int (-1), .int (-1), .int (-1), .int 0, .int 0, .int 0, .int 0]) hx hb hts j_RE t_RE t_RE_ok n_RE hown hK hS e_7 rfl 10 (by decide) (hk k_284 rfl) (fun _ h9 => h9) rfl (by decide +kernel) rfl rfl (Nat.le_of_ble_eq_true rfl) d_RE_init_42 rfl (fun H locs hS => ?_)
  have e_8 : (z_up (z_up (z_up (z_up (z_up (z_up (z_up (z_up X q (.inr (2, [.ref a, .int 0, .int 0, .int 0, .int 0, .int 0, .int 0, .int 0, .int 0, .int 0, .int 0, .int 0, .int 0, .int 0, .int 0]))) q (.inr (2, [.ref a, .int v2, .int 0, .int 0, .int 0, .int 0, .int 0, .int 0, .int 0, .int 0, .int 0, .int 0, .int 0, .int 0, .int 0]))) q (.inr (2, [.ref a, .int v2, .int 0, .int v3, .int 0, .int 0, .int 0, .int 0, .int 0, .int 0, .int 0, .int 0, .int 0, .int 0, .int 0]))) q (.inr (2, [.ref a, .int v2, .int v4, .int v3, .int 0, .int 0, .int 0, .int 0, .int 0, .int 0, .int 0, .int 0, .int 0, .int 0, .int 0]))) q (.inr (2, [.ref a, .int v2, .int v4, .int v3, .int (-1), .int 0, .int 0, .int 0, .int 0, .int 0, .int 0, .int 0, .int 0, .int 0, .int 0]))) q (.inr (2, [.ref a, .int v2, .int v4, .int v3, .int (-1), .int 0, .int 0, .int 0, .int (-1), .int 0, .int 0, .int 0, .int 0, .int 0, .int 0]))) q (.inr (2, [.ref a, .int v2, .int v4, .int v3, .int (-1), .int 0, .int 0, .int 0, .int (-1), .int (-1), .int 0, .int 0, .int 0, .int 0, .int 0]))) q (.inr (2, [.ref a, .int v2, .int v4, .int v3, .int (-1), .int 0, .int 0, .int 0, .int (-1), .int (-1), .int (-1), .int 0, .int 0, .int 0, .int 0]))) q = some (.inr (2, [.ref a, .int v2, .int v4, .int v3, .int (-1), .int 0, .int 0, .int 0, .int (-1), .int (-1), .int (-1), .int 0, .int 0, .int 0, .int 0])) := z_eq _ _ _
  exact z_Cvret hx hb hr hlk hS (⟨rfl, by simp only [z_upup]⟩) (by decide) (by decide) d_RE_init_45
set_option maxHeartbeats 4000000 in
set_option maxRecDepth 100000 in
theorem c_RE_takeGrade (l : Launch) (hl9 : l.stackTraces = false) {D : va_G} {tys : List (ClassId × FieldType)} {lo tP : Nat} (v : Int32) (row a : Nat) (f : Nat → Int32) {X : zM} (hrow : X row = some (.inr (2, rowR a f))) : z_C (z_G lo tP) D cls4 tys lo l y_RE_takeGrade w_RE_takeGrade zrA [.ref row, .int v] X (fun r X9 => r = .inl none ∧ X9 = z_up X row (.inr (2, rowR a (z_tg f v)))) := by
  refine z_ofW (by decide) ?_
  intro p e s m args below meth c s₁ B hml hout hv
  obtain ⟨rfl, hG, hK, hW0, hXl, hlo⟩ := hv
  have hx := B.exec
  have hb := B.bytes
  have hr := B.returns
  have hlk := B.notSynchronized
  have hown : s.vm.findClass R_RE = some m.cls := findClass_of_methodNamed B.named
  have hts : ∀ w9 ∈ z_tb, w9.before ([.ref row, .int v] : List Value).toArray s = true := hG.ts _
  have hk : ∀ {w9 : Cond}, w9 ∈ lw_tbl → z_ok w9 = true → w9.before ([.ref row, .int v] : List Value).toArray s = true := fun h1 h2 => hG.w h1 h2 _
  have hg : z_Gr s.heap s.heap := z_Gr.rf
  have hS := z_S.start hW0 hXl hlo
  have hl := lv_entry ([.ref row, .int v]) (n := 2) (Nat.le_of_ble_eq_true rfl)
  rw [lg_entry_eq]
  generalize (lg_sl ([.ref row, .int v]) ++ List.replicate (2 - (lg_sl ([.ref row, .int v])).length) Slot.unset).toArray = ls at hl ⊢
  have hl : lv_has ls 2 [(0, .ref row), (1, .int v)] := hl
  refine lv_aload_n hx hb d_RE_takeGrade_0 rfl (lv_at hl 0 rfl) ?_
  refine lv_aload_n hx hb d_RE_takeGrade_1 rfl (lv_at hl 0 rfl) ?_
  refine z_get (ci := 2) (C := R_RE) (T := F_RE) (N := 15) hx hb hts j_RE hown hK hS hrow rfl 8 (by decide) (hk k_280 rfl) (fun _ h9 => h9) rfl d_RE_takeGrade_2 ?_
  refine z_put (ci := 2) (C := R_RE) (T := F_RE) (N := 15) (ty := .int) (fs' := [.ref a, .int (f 1), .int (f 2), .int (f 3), .int (f 4), .int (f 5), .int (f 6), .int (f 7), .int (f 8), .int (f 8), .int (f 10), .int (f 11), .int (f 12), .int (f 13), .int (f 14)]) hx hb hts j_RE t_RE t_RE_ok n_RE hown hK hS hrow rfl 9 (by decide) (hk k_282 rfl) (fun _ h9 => h9) rfl (by decide +kernel) rfl rfl (Nat.le_of_ble_eq_true rfl) d_RE_takeGrade_5 rfl (fun H locs hS => ?_)
  have e_1 : (z_up X row (.inr (2, [.ref a, .int (f 1), .int (f 2), .int (f 3), .int (f 4), .int (f 5), .int (f 6), .int (f 7), .int (f 8), .int (f 8), .int (f 10), .int (f 11), .int (f 12), .int (f 13), .int (f 14)]))) row = some (.inr (2, [.ref a, .int (f 1), .int (f 2), .int (f 3), .int (f 4), .int (f 5), .int (f 6), .int (f 7), .int (f 8), .int (f 8), .int (f 10), .int (f 11), .int (f 12), .int (f 13), .int (f 14)])) := z_eq _ _ _
  refine lv_aload_n hx hb d_RE_takeGrade_8 rfl (lv_at hl 0 rfl) ?_
  refine lv_iload_n hx hb d_RE_takeGrade_9 rfl (lv_at hl 1 rfl) ?_
  refine z_put (ci := 2) (C := R_RE) (T := F_RE) (N := 15) (ty := .int) (fs' := [.ref a, .int (f 1), .int (f 2), .int (f 3), .int (f 4), .int (f 5), .int (f 6), .int (f 7), .int v, .int (f 8), .int (f 10), .int (f 11), .int (f 12), .int (f 13), .int (f 14)]) hx hb hts j_RE t_RE t_RE_ok n_RE hown hK hS e_1 rfl 8 (by decide) (hk k_280 rfl) (fun _ h9 => h9) rfl (by decide +kernel) rfl rfl (Nat.le_of_ble_eq_true rfl) d_RE_takeGrade_10 rfl (fun H locs hS => ?_)
  have e_2 : (z_up (z_up X row (.inr (2, [.ref a, .int (f 1), .int (f 2), .int (f 3), .int (f 4), .int (f 5), .int (f 6), .int (f 7), .int (f 8), .int (f 8), .int (f 10), .int (f 11), .int (f 12), .int (f 13), .int (f 14)]))) row (.inr (2, [.ref a, .int (f 1), .int (f 2), .int (f 3), .int (f 4), .int (f 5), .int (f 6), .int (f 7), .int v, .int (f 8), .int (f 10), .int (f 11), .int (f 12), .int (f 13), .int (f 14)]))) row = some (.inr (2, [.ref a, .int (f 1), .int (f 2), .int (f 3), .int (f 4), .int (f 5), .int (f 6), .int (f 7), .int v, .int (f 8), .int (f 10), .int (f 11), .int (f 12), .int (f 13), .int (f 14)])) := z_eq _ _ _
  refine lv_aload_n hx hb d_RE_takeGrade_13 rfl (lv_at hl 0 rfl) ?_
  refine z_get (ci := 2) (C := R_RE) (T := F_RE) (N := 15) hx hb hts j_RE hown hK hS e_2 rfl 10 (by decide) (hk k_284 rfl) (fun _ h9 => h9) rfl d_RE_takeGrade_14 ?_
  refine lv_iconst (v := (-1)) hx hb d_RE_takeGrade_17 (by decide) ?_
  refine lv_icmp_eq (tgt := 29) hx hb d_RE_takeGrade_18 (by decide) (fun c_3 => ?_) (fun c_3 => ?_)
  · refine lv_aload_n hx hb d_RE_takeGrade_29 rfl (lv_at hl 0 rfl) ?_
    refine lv_iload_n hx hb d_RE_takeGrade_30 rfl (lv_at hl 1 rfl) ?_
    refine z_put (ci := 2) (C := R_RE) (T := F_RE) (N := 15) (ty := .int) (fs' := [.ref a, .int (f 1), .int (f 2), .int (f 3), .int (f 4), .int (f 5), .int (f 6), .int (f 7), .int v, .int (f 8), .int v, .int (f 11), .int (f 12), .int (f 13), .int (f 14)]) hx hb hts j_RE t_RE t_RE_ok n_RE hown hK hS e_2 rfl 10 (by decide) (hk k_284 rfl) (fun _ h9 => h9) rfl (by decide +kernel) rfl rfl (Nat.le_of_ble_eq_true rfl) d_RE_takeGrade_31 rfl (fun H locs hS => ?_)
    have e_4 : (z_up (z_up (z_up X row (.inr (2, [.ref a, .int (f 1), .int (f 2), .int (f 3), .int (f 4), .int (f 5), .int (f 6), .int (f 7), .int (f 8), .int (f 8), .int (f 10), .int (f 11), .int (f 12), .int (f 13), .int (f 14)]))) row (.inr (2, [.ref a, .int (f 1), .int (f 2), .int (f 3), .int (f 4), .int (f 5), .int (f 6), .int (f 7), .int v, .int (f 8), .int (f 10), .int (f 11), .int (f 12), .int (f 13), .int (f 14)]))) row (.inr (2, [.ref a, .int (f 1), .int (f 2), .int (f 3), .int (f 4), .int (f 5), .int (f 6), .int (f 7), .int v, .int (f 8), .int v, .int (f 11), .int (f 12), .int (f 13), .int (f 14)]))) row = some (.inr (2, [.ref a, .int (f 1), .int (f 2), .int (f 3), .int (f 4), .int (f 5), .int (f 6), .int (f 7), .int v, .int (f 8), .int v, .int (f 11), .int (f 12), .int (f 13), .int (f 14)])) := z_eq _ _ _
    exact z_Cvret hx hb hr hlk hS (⟨rfl, by rw [z_tg1 (Or.inl c_3)]; simp only [z_upup]⟩) (by decide) (by decide) d_RE_takeGrade_34
  · refine lv_iload_n hx hb d_RE_takeGrade_21 rfl (lv_at hl 1 rfl) ?_
    refine lv_aload_n hx hb d_RE_takeGrade_22 rfl (lv_at hl 0 rfl) ?_
    refine z_get (ci := 2) (C := R_RE) (T := F_RE) (N := 15) hx hb hts j_RE hown hK hS e_2 rfl 10 (by decide) (hk k_284 rfl) (fun _ h9 => h9) rfl d_RE_takeGrade_23 ?_
    refine lv_icmp_ge (tgt := 34) hx hb d_RE_takeGrade_26 (by decide) (fun c_5 => ?_) (fun c_5 => ?_)
    · exact z_Cvret hx hb hr hlk hS (⟨rfl, by rw [z_tg2 (fun h => h.elim c_3 (fun h => Int32.not_le.mpr h c_5))]; simp only [z_upup]⟩) (by decide) (by decide) d_RE_takeGrade_34
    · refine lv_aload_n hx hb d_RE_takeGrade_29 rfl (lv_at hl 0 rfl) ?_
      refine lv_iload_n hx hb d_RE_takeGrade_30 rfl (lv_at hl 1 rfl) ?_
      refine z_put (ci := 2) (C := R_RE) (T := F_RE) (N := 15) (ty := .int) (fs' := [.ref a, .int (f 1), .int (f 2), .int (f 3), .int (f 4), .int (f 5), .int (f 6), .int (f 7), .int v, .int (f 8), .int v, .int (f 11), .int (f 12), .int (f 13), .int (f 14)]) hx hb hts j_RE t_RE t_RE_ok n_RE hown hK hS e_2 rfl 10 (by decide) (hk k_284 rfl) (fun _ h9 => h9) rfl (by decide +kernel) rfl rfl (Nat.le_of_ble_eq_true rfl) d_RE_takeGrade_31 rfl (fun H locs hS => ?_)
      have e_6 : (z_up (z_up (z_up X row (.inr (2, [.ref a, .int (f 1), .int (f 2), .int (f 3), .int (f 4), .int (f 5), .int (f 6), .int (f 7), .int (f 8), .int (f 8), .int (f 10), .int (f 11), .int (f 12), .int (f 13), .int (f 14)]))) row (.inr (2, [.ref a, .int (f 1), .int (f 2), .int (f 3), .int (f 4), .int (f 5), .int (f 6), .int (f 7), .int v, .int (f 8), .int (f 10), .int (f 11), .int (f 12), .int (f 13), .int (f 14)]))) row (.inr (2, [.ref a, .int (f 1), .int (f 2), .int (f 3), .int (f 4), .int (f 5), .int (f 6), .int (f 7), .int v, .int (f 8), .int v, .int (f 11), .int (f 12), .int (f 13), .int (f 14)]))) row = some (.inr (2, [.ref a, .int (f 1), .int (f 2), .int (f 3), .int (f 4), .int (f 5), .int (f 6), .int (f 7), .int v, .int (f 8), .int v, .int (f 11), .int (f 12), .int (f 13), .int (f 14)])) := z_eq _ _ _
      exact z_Cvret hx hb hr hlk hS (⟨rfl, by rw [z_tg1 (Or.inr (Int32.not_le.mp c_5))]; simp only [z_upup]⟩) (by decide) (by decide) d_RE_takeGrade_34
set_option maxHeartbeats 4000000 in
set_option maxRecDepth 100000 in
theorem c_RE_isOf (l : Launch) (hl9 : l.stackTraces = false) {D : va_G} {tys : List (ClassId × FieldType)} {lo tP : Nat} (u w : Int32) (row a : Nat) (f : Nat → Int32) {X : zM} (hrow : X row = some (.inr (2, rowR a f))) (i : Nat) (g : Nat → Int32) (hsal : X a = some (.inr (1, rowS i g))) : z_P (z_G lo tP) D cls4 tys lo l y_RE_isOf w_RE_isOf zrA [.ref row, .int u, .int w] X (.inl (some (.int (if z_of u w g f then 1 else 0)))) := by
  refine z_ofW (by decide) ?_
  intro p e s m args below meth c s₁ B hml hout hv
  obtain ⟨rfl, hG, hK, hW0, hXl, hlo⟩ := hv
  have hx := B.exec
  have hb := B.bytes
  have hr := B.returns
  have hlk := B.notSynchronized
  have hown : s.vm.findClass R_RE = some m.cls := findClass_of_methodNamed B.named
  have hts : ∀ w9 ∈ z_tb, w9.before ([.ref row, .int u, .int w] : List Value).toArray s = true := hG.ts _
  have hk : ∀ {w9 : Cond}, w9 ∈ lw_tbl → z_ok w9 = true → w9.before ([.ref row, .int u, .int w] : List Value).toArray s = true := fun h1 h2 => hG.w h1 h2 _
  have hg : z_Gr s.heap s.heap := z_Gr.rf
  have hS := z_S.start hW0 hXl hlo
  have hl := lv_entry ([.ref row, .int u, .int w]) (n := 3) (Nat.le_of_ble_eq_true rfl)
  rw [lg_entry_eq]
  generalize (lg_sl ([.ref row, .int u, .int w]) ++ List.replicate (3 - (lg_sl ([.ref row, .int u, .int w])).length) Slot.unset).toArray = ls at hl ⊢
  have hl : lv_has ls 3 [(0, .ref row), (1, .int u), (2, .int w)] := hl
  refine lv_iload_n hx hb d_RE_isOf_0 rfl (lv_at hl 1 rfl) ?_
  refine lv_iconst (v := (-1)) hx hb d_RE_isOf_1 (by decide) ?_
  refine lv_icmp_eq (tgt := 13) hx hb d_RE_isOf_2 (by decide) (fun c_1 => ?_) (fun c_1 => ?_)
  · refine lv_iload_n hx hb d_RE_isOf_13 rfl (lv_at hl 2 rfl) ?_
    refine lv_iconst (v := (-1)) hx hb d_RE_isOf_14 (by decide) ?_
    refine lv_icmp_eq (tgt := 29) hx hb d_RE_isOf_15 (by decide) (fun c_2 => ?_) (fun c_2 => ?_)
    · refine lv_iconst (v := 1) hx hb d_RE_isOf_29 (by decide) ?_
      refine lv_goto (tgt := 34) hx hb d_RE_isOf_30 (by decide) ?_
      exact z_Piret hx hb hr rfl hlk hg (by simp [z_of, c_1, c_2]) (by decide) (by decide) d_RE_isOf_34
    · refine lv_iload_n hx hb d_RE_isOf_18 rfl (lv_at hl 2 rfl) ?_
      refine lv_aload_n hx hb d_RE_isOf_19 rfl (lv_at hl 0 rfl) ?_
      refine z_get (ci := 2) (C := R_RE) (T := F_RE) (N := 15) hx hb hts j_RE hown hK hS hrow rfl 0 (by decide) (hk k_265 rfl) (fun _ h9 => h9) rfl d_RE_isOf_20 ?_
      refine z_get (ci := 1) (C := R_SA) (T := F_SA) (N := 6) hx hb hts j_SA hown hK hS hsal rfl 1 (by decide) (hk k_192 rfl) (fun _ h9 => h9) rfl d_RE_isOf_23 ?_
      refine lv_icmp_ne (tgt := 33) hx hb d_RE_isOf_26 (by decide) (fun c_3 => ?_) (fun c_3 => ?_)
      · refine lv_iconst (v := 0) hx hb d_RE_isOf_33 (by decide) ?_
        exact z_Piret hx hb hr rfl hlk hg (by simp [z_of, c_1, c_2, c_3]) (by decide) (by decide) d_RE_isOf_34
      · refine lv_iconst (v := 1) hx hb d_RE_isOf_29 (by decide) ?_
        refine lv_goto (tgt := 34) hx hb d_RE_isOf_30 (by decide) ?_
        exact z_Piret hx hb hr rfl hlk hg (by simp [z_of, c_1, c_2, c_3]) (by decide) (by decide) d_RE_isOf_34
  · refine lv_iload_n hx hb d_RE_isOf_5 rfl (lv_at hl 1 rfl) ?_
    refine lv_aload_n hx hb d_RE_isOf_6 rfl (lv_at hl 0 rfl) ?_
    refine z_get (ci := 2) (C := R_RE) (T := F_RE) (N := 15) hx hb hts j_RE hown hK hS hrow rfl 1 (by decide) (hk k_267 rfl) (fun _ h9 => h9) rfl d_RE_isOf_7 ?_
    refine lv_icmp_ne (tgt := 33) hx hb d_RE_isOf_10 (by decide) (fun c_4 => ?_) (fun c_4 => ?_)
    · refine lv_iconst (v := 0) hx hb d_RE_isOf_33 (by decide) ?_
      exact z_Piret hx hb hr rfl hlk hg (by simp [z_of, c_1, c_4]) (by decide) (by decide) d_RE_isOf_34
    · refine lv_iload_n hx hb d_RE_isOf_13 rfl (lv_at hl 2 rfl) ?_
      refine lv_iconst (v := (-1)) hx hb d_RE_isOf_14 (by decide) ?_
      refine lv_icmp_eq (tgt := 29) hx hb d_RE_isOf_15 (by decide) (fun c_5 => ?_) (fun c_5 => ?_)
      · refine lv_iconst (v := 1) hx hb d_RE_isOf_29 (by decide) ?_
        refine lv_goto (tgt := 34) hx hb d_RE_isOf_30 (by decide) ?_
        exact z_Piret hx hb hr rfl hlk hg (by simp [z_of, c_1, c_4, c_5]) (by decide) (by decide) d_RE_isOf_34
      · refine lv_iload_n hx hb d_RE_isOf_18 rfl (lv_at hl 2 rfl) ?_
        refine lv_aload_n hx hb d_RE_isOf_19 rfl (lv_at hl 0 rfl) ?_
        refine z_get (ci := 2) (C := R_RE) (T := F_RE) (N := 15) hx hb hts j_RE hown hK hS hrow rfl 0 (by decide) (hk k_265 rfl) (fun _ h9 => h9) rfl d_RE_isOf_20 ?_
        refine z_get (ci := 1) (C := R_SA) (T := F_SA) (N := 6) hx hb hts j_SA hown hK hS hsal rfl 1 (by decide) (hk k_192 rfl) (fun _ h9 => h9) rfl d_RE_isOf_23 ?_
        refine lv_icmp_ne (tgt := 33) hx hb d_RE_isOf_26 (by decide) (fun c_6 => ?_) (fun c_6 => ?_)
        · refine lv_iconst (v := 0) hx hb d_RE_isOf_33 (by decide) ?_
          exact z_Piret hx hb hr rfl hlk hg (by simp [z_of, c_1, c_4, c_5, c_6]) (by decide) (by decide) d_RE_isOf_34
        · refine lv_iconst (v := 1) hx hb d_RE_isOf_29 (by decide) ?_
          refine lv_goto (tgt := 34) hx hb d_RE_isOf_30 (by decide) ?_
          exact z_Piret hx hb hr rfl hlk hg (by simp [z_of, c_1, c_4, c_5, c_6]) (by decide) (by decide) d_RE_isOf_34
set_option maxHeartbeats 4000000 in
set_option maxRecDepth 100000 in
theorem c_RE_measured_0 (l : Launch) (hl9 : l.stackTraces = false) {D : va_G} {tys : List (ClassId × FieldType)} {lo tP : Nat} (row a : Nat) (f : Nat → Int32) {X : zM} (hrow : X row = some (.inr (2, rowR a f))) : z_P (z_G lo tP) D cls4 tys lo l y_RE_measured w_RE_measured zrA [.ref row, .int 0] X (.inl (some (.int (z_me 0 f)))) := by
  refine z_ofW (by decide) ?_
  intro p e s m args below meth c s₁ B hml hout hv
  obtain ⟨rfl, hG, hK, hW0, hXl, hlo⟩ := hv
  have hx := B.exec
  have hb := B.bytes
  have hr := B.returns
  have hlk := B.notSynchronized
  have hown : s.vm.findClass R_RE = some m.cls := findClass_of_methodNamed B.named
  have hts : ∀ w9 ∈ z_tb, w9.before ([.ref row, .int 0] : List Value).toArray s = true := hG.ts _
  have hk : ∀ {w9 : Cond}, w9 ∈ lw_tbl → z_ok w9 = true → w9.before ([.ref row, .int 0] : List Value).toArray s = true := fun h1 h2 => hG.w h1 h2 _
  have hg : z_Gr s.heap s.heap := z_Gr.rf
  have hS := z_S.start hW0 hXl hlo
  have hl := lv_entry ([.ref row, .int 0]) (n := 2) (Nat.le_of_ble_eq_true rfl)
  rw [lg_entry_eq]
  generalize (lg_sl ([.ref row, .int 0]) ++ List.replicate (2 - (lg_sl ([.ref row, .int 0])).length) Slot.unset).toArray = ls at hl ⊢
  have hl : lv_has ls 2 [(0, .ref row), (1, .int 0)] := hl
  refine lv_iload_n hx hb d_RE_measured_0 rfl (lv_at hl 1 rfl) ?_
  refine lv_tableIn (x := 0) (off := 35) (tgt := 36) hx hb d_RE_measured_1 (by decide) (by decide) (by decide) (by decide) ?_
  refine lv_iconst (v := 1) hx hb d_RE_measured_36 (by decide) ?_
  exact z_Piret hx hb hr rfl hlk hg (by simp [z_me]) (by decide) (by decide) d_RE_measured_37
set_option maxHeartbeats 4000000 in
set_option maxRecDepth 100000 in
theorem c_RE_measured_1 (l : Launch) (hl9 : l.stackTraces = false) {D : va_G} {tys : List (ClassId × FieldType)} {lo tP : Nat} (row a : Nat) (f : Nat → Int32) {X : zM} (hrow : X row = some (.inr (2, rowR a f))) : z_P (z_G lo tP) D cls4 tys lo l y_RE_measured w_RE_measured zrA [.ref row, .int 1] X (.inl (some (.int (z_me 1 f)))) := by
  refine z_ofW (by decide) ?_
  intro p e s m args below meth c s₁ B hml hout hv
  obtain ⟨rfl, hG, hK, hW0, hXl, hlo⟩ := hv
  have hx := B.exec
  have hb := B.bytes
  have hr := B.returns
  have hlk := B.notSynchronized
  have hown : s.vm.findClass R_RE = some m.cls := findClass_of_methodNamed B.named
  have hts : ∀ w9 ∈ z_tb, w9.before ([.ref row, .int 1] : List Value).toArray s = true := hG.ts _
  have hk : ∀ {w9 : Cond}, w9 ∈ lw_tbl → z_ok w9 = true → w9.before ([.ref row, .int 1] : List Value).toArray s = true := fun h1 h2 => hG.w h1 h2 _
  have hg : z_Gr s.heap s.heap := z_Gr.rf
  have hS := z_S.start hW0 hXl hlo
  have hl := lv_entry ([.ref row, .int 1]) (n := 2) (Nat.le_of_ble_eq_true rfl)
  rw [lg_entry_eq]
  generalize (lg_sl ([.ref row, .int 1]) ++ List.replicate (2 - (lg_sl ([.ref row, .int 1])).length) Slot.unset).toArray = ls at hl ⊢
  have hl : lv_has ls 2 [(0, .ref row), (1, .int 1)] := hl
  refine lv_iload_n hx hb d_RE_measured_0 rfl (lv_at hl 1 rfl) ?_
  refine lv_tableIn (x := 1) (off := 37) (tgt := 38) hx hb d_RE_measured_1 (by decide) (by decide) (by decide) (by decide) ?_
  refine lv_aload_n hx hb d_RE_measured_38 rfl (lv_at hl 0 rfl) ?_
  refine z_get (ci := 2) (C := R_RE) (T := F_RE) (N := 15) hx hb hts j_RE hown hK hS hrow rfl 13 (by decide) (hk k_289 rfl) (fun _ h9 => h9) rfl d_RE_measured_39 ?_
  exact z_Piret hx hb hr rfl hlk hg (by simp [z_me]) (by decide) (by decide) d_RE_measured_42
set_option maxHeartbeats 4000000 in
set_option maxRecDepth 100000 in
theorem c_RE_measured_2 (l : Launch) (hl9 : l.stackTraces = false) {D : va_G} {tys : List (ClassId × FieldType)} {lo tP : Nat} (row a : Nat) (f : Nat → Int32) {X : zM} (hrow : X row = some (.inr (2, rowR a f))) : z_P (z_G lo tP) D cls4 tys lo l y_RE_measured w_RE_measured zrA [.ref row, .int 2] X (.inl (some (.int (z_me 2 f)))) := by
  refine z_ofW (by decide) ?_
  intro p e s m args below meth c s₁ B hml hout hv
  obtain ⟨rfl, hG, hK, hW0, hXl, hlo⟩ := hv
  have hx := B.exec
  have hb := B.bytes
  have hr := B.returns
  have hlk := B.notSynchronized
  have hown : s.vm.findClass R_RE = some m.cls := findClass_of_methodNamed B.named
  have hts : ∀ w9 ∈ z_tb, w9.before ([.ref row, .int 2] : List Value).toArray s = true := hG.ts _
  have hk : ∀ {w9 : Cond}, w9 ∈ lw_tbl → z_ok w9 = true → w9.before ([.ref row, .int 2] : List Value).toArray s = true := fun h1 h2 => hG.w h1 h2 _
  have hg : z_Gr s.heap s.heap := z_Gr.rf
  have hS := z_S.start hW0 hXl hlo
  have hl := lv_entry ([.ref row, .int 2]) (n := 2) (Nat.le_of_ble_eq_true rfl)
  rw [lg_entry_eq]
  generalize (lg_sl ([.ref row, .int 2]) ++ List.replicate (2 - (lg_sl ([.ref row, .int 2])).length) Slot.unset).toArray = ls at hl ⊢
  have hl : lv_has ls 2 [(0, .ref row), (1, .int 2)] := hl
  refine lv_iload_n hx hb d_RE_measured_0 rfl (lv_at hl 1 rfl) ?_
  refine lv_tableIn (x := 2) (off := 42) (tgt := 43) hx hb d_RE_measured_1 (by decide) (by decide) (by decide) (by decide) ?_
  refine lv_aload_n hx hb d_RE_measured_43 rfl (lv_at hl 0 rfl) ?_
  refine z_get (ci := 2) (C := R_RE) (T := F_RE) (N := 15) hx hb hts j_RE hown hK hS hrow rfl 3 (by decide) (hk k_271 rfl) (fun _ h9 => h9) rfl d_RE_measured_44 ?_
  refine lv_iconst (v := 5) hx hb d_RE_measured_47 (by decide) ?_
  refine lv_icmp_ne (tgt := 55) hx hb d_RE_measured_48 (by decide) (fun c_1 => ?_) (fun c_1 => ?_)
  · refine lv_iconst (v := 0) hx hb d_RE_measured_55 (by decide) ?_
    exact z_Piret hx hb hr rfl hlk hg (by simp [z_me, c_1]) (by decide) (by decide) d_RE_measured_56
  · refine lv_iconst (v := 1) hx hb d_RE_measured_51 (by decide) ?_
    refine lv_goto (tgt := 56) hx hb d_RE_measured_52 (by decide) ?_
    exact z_Piret hx hb hr rfl hlk hg (by simp [z_me, c_1]) (by decide) (by decide) d_RE_measured_56
set_option maxHeartbeats 4000000 in
set_option maxRecDepth 100000 in
theorem c_RE_measured_3 (l : Launch) (hl9 : l.stackTraces = false) {D : va_G} {tys : List (ClassId × FieldType)} {lo tP : Nat} (row a : Nat) (f : Nat → Int32) {X : zM} (hrow : X row = some (.inr (2, rowR a f))) : z_P (z_G lo tP) D cls4 tys lo l y_RE_measured w_RE_measured zrA [.ref row, .int 3] X (.inl (some (.int (z_me 3 f)))) := by
  refine z_ofW (by decide) ?_
  intro p e s m args below meth c s₁ B hml hout hv
  obtain ⟨rfl, hG, hK, hW0, hXl, hlo⟩ := hv
  have hx := B.exec
  have hb := B.bytes
  have hr := B.returns
  have hlk := B.notSynchronized
  have hown : s.vm.findClass R_RE = some m.cls := findClass_of_methodNamed B.named
  have hts : ∀ w9 ∈ z_tb, w9.before ([.ref row, .int 3] : List Value).toArray s = true := hG.ts _
  have hk : ∀ {w9 : Cond}, w9 ∈ lw_tbl → z_ok w9 = true → w9.before ([.ref row, .int 3] : List Value).toArray s = true := fun h1 h2 => hG.w h1 h2 _
  have hg : z_Gr s.heap s.heap := z_Gr.rf
  have hS := z_S.start hW0 hXl hlo
  have hl := lv_entry ([.ref row, .int 3]) (n := 2) (Nat.le_of_ble_eq_true rfl)
  rw [lg_entry_eq]
  generalize (lg_sl ([.ref row, .int 3]) ++ List.replicate (2 - (lg_sl ([.ref row, .int 3])).length) Slot.unset).toArray = ls at hl ⊢
  have hl : lv_has ls 2 [(0, .ref row), (1, .int 3)] := hl
  refine lv_iload_n hx hb d_RE_measured_0 rfl (lv_at hl 1 rfl) ?_
  refine lv_tableIn (x := 3) (off := 56) (tgt := 57) hx hb d_RE_measured_1 (by decide) (by decide) (by decide) (by decide) ?_
  refine lv_aload_n hx hb d_RE_measured_57 rfl (lv_at hl 0 rfl) ?_
  refine z_get (ci := 2) (C := R_RE) (T := F_RE) (N := 15) hx hb hts j_RE hown hK hS hrow rfl 6 (by decide) (hk k_277 rfl) (fun _ h9 => h9) rfl d_RE_measured_58 ?_
  refine lv_if_eq (tgt := 68) hx hb d_RE_measured_61 (by decide) (fun c_1 => ?_) (fun c_1 => ?_)
  · refine lv_iconst (v := 0) hx hb d_RE_measured_68 (by decide) ?_
    exact z_Piret hx hb hr rfl hlk hg (by simp [z_me, c_1]) (by decide) (by decide) d_RE_measured_69
  · refine lv_iconst (v := 1) hx hb d_RE_measured_64 (by decide) ?_
    refine lv_goto (tgt := 69) hx hb d_RE_measured_65 (by decide) ?_
    exact z_Piret hx hb hr rfl hlk hg (by simp [z_me, c_1]) (by decide) (by decide) d_RE_measured_69
set_option maxHeartbeats 4000000 in
set_option maxRecDepth 100000 in
theorem c_RE_measured_4 (l : Launch) (hl9 : l.stackTraces = false) {D : va_G} {tys : List (ClassId × FieldType)} {lo tP : Nat} (row a : Nat) (f : Nat → Int32) {X : zM} (hrow : X row = some (.inr (2, rowR a f))) : z_P (z_G lo tP) D cls4 tys lo l y_RE_measured w_RE_measured zrA [.ref row, .int 4] X (.inl (some (.int (z_me 4 f)))) := by
  refine z_ofW (by decide) ?_
  intro p e s m args below meth c s₁ B hml hout hv
  obtain ⟨rfl, hG, hK, hW0, hXl, hlo⟩ := hv
  have hx := B.exec
  have hb := B.bytes
  have hr := B.returns
  have hlk := B.notSynchronized
  have hown : s.vm.findClass R_RE = some m.cls := findClass_of_methodNamed B.named
  have hts : ∀ w9 ∈ z_tb, w9.before ([.ref row, .int 4] : List Value).toArray s = true := hG.ts _
  have hk : ∀ {w9 : Cond}, w9 ∈ lw_tbl → z_ok w9 = true → w9.before ([.ref row, .int 4] : List Value).toArray s = true := fun h1 h2 => hG.w h1 h2 _
  have hg : z_Gr s.heap s.heap := z_Gr.rf
  have hS := z_S.start hW0 hXl hlo
  have hl := lv_entry ([.ref row, .int 4]) (n := 2) (Nat.le_of_ble_eq_true rfl)
  rw [lg_entry_eq]
  generalize (lg_sl ([.ref row, .int 4]) ++ List.replicate (2 - (lg_sl ([.ref row, .int 4])).length) Slot.unset).toArray = ls at hl ⊢
  have hl : lv_has ls 2 [(0, .ref row), (1, .int 4)] := hl
  refine lv_iload_n hx hb d_RE_measured_0 rfl (lv_at hl 1 rfl) ?_
  refine lv_tableIn (x := 4) (off := 69) (tgt := 70) hx hb d_RE_measured_1 (by decide) (by decide) (by decide) (by decide) ?_
  refine lv_aload_n hx hb d_RE_measured_70 rfl (lv_at hl 0 rfl) ?_
  refine z_get (ci := 2) (C := R_RE) (T := F_RE) (N := 15) hx hb hts j_RE hown hK hS hrow rfl 5 (by decide) (hk k_275 rfl) (fun _ h9 => h9) rfl d_RE_measured_71 ?_
  refine lv_if_eq (tgt := 81) hx hb d_RE_measured_74 (by decide) (fun c_1 => ?_) (fun c_1 => ?_)
  · refine lv_iconst (v := 0) hx hb d_RE_measured_81 (by decide) ?_
    exact z_Piret hx hb hr rfl hlk hg (by simp [z_me, c_1]) (by decide) (by decide) d_RE_measured_82
  · refine lv_iconst (v := 1) hx hb d_RE_measured_77 (by decide) ?_
    refine lv_goto (tgt := 82) hx hb d_RE_measured_78 (by decide) ?_
    exact z_Piret hx hb hr rfl hlk hg (by simp [z_me, c_1]) (by decide) (by decide) d_RE_measured_82
set_option maxHeartbeats 4000000 in
set_option maxRecDepth 100000 in
theorem c_RE_amountDue (l : Launch) (hl9 : l.stackTraces = false) {D : va_G} {tys : List (ClassId × FieldType)} {lo tP : Nat} (row a : Nat) (f : Nat → Int32) {X : zM} (hrow : X row = some (.inr (2, rowR a f))) (i : Nat) (g : Nat → Int32) (hsal : X a = some (.inr (1, rowS i g))) : z_P (z_G lo tP) D cls4 tys lo l y_RE_amountDue w_RE_amountDue zrA [.ref row] X (.inl (some (.int (z_due g f)))) := by
  refine z_ofW (by decide) ?_
  intro p e s m args below meth c s₁ B hml hout hv
  obtain ⟨rfl, hG, hK, hW0, hXl, hlo⟩ := hv
  have hx := B.exec
  have hb := B.bytes
  have hr := B.returns
  have hlk := B.notSynchronized
  have hown : s.vm.findClass R_RE = some m.cls := findClass_of_methodNamed B.named
  have hts : ∀ w9 ∈ z_tb, w9.before ([.ref row] : List Value).toArray s = true := hG.ts _
  have hk : ∀ {w9 : Cond}, w9 ∈ lw_tbl → z_ok w9 = true → w9.before ([.ref row] : List Value).toArray s = true := fun h1 h2 => hG.w h1 h2 _
  have hg : z_Gr s.heap s.heap := z_Gr.rf
  have hS := z_S.start hW0 hXl hlo
  have hl := lv_entry ([.ref row]) (n := 3) (Nat.le_of_ble_eq_true rfl)
  rw [lg_entry_eq]
  generalize (lg_sl ([.ref row]) ++ List.replicate (3 - (lg_sl ([.ref row])).length) Slot.unset).toArray = ls at hl ⊢
  have hl : lv_has ls 3 [(0, .ref row)] := hl
  refine lv_aload_n hx hb d_RE_amountDue_0 rfl (lv_at hl 0 rfl) ?_
  refine z_get (ci := 2) (C := R_RE) (T := F_RE) (N := 15) hx hb hts j_RE hown hK hS hrow rfl 8 (by decide) (hk k_280 rfl) (fun _ h9 => h9) rfl d_RE_amountDue_1 ?_
  refine lv_if_lt (tgt := 18) hx hb d_RE_amountDue_4 (by decide) (fun c_1 => ?_) (fun c_1 => ?_)
  · refine lv_iconst (v := 0) hx hb d_RE_amountDue_18 (by decide) ?_
    exact z_Piret hx hb hr rfl hlk hg (by simp [z_due, c_1]) (by decide) (by decide) d_RE_amountDue_19
  · refine lv_aload_n hx hb d_RE_amountDue_7 rfl (lv_at hl 0 rfl) ?_
    refine z_get (ci := 2) (C := R_RE) (T := F_RE) (N := 15) hx hb hts j_RE hown hK hS hrow rfl 8 (by decide) (hk k_280 rfl) (fun _ h9 => h9) rfl d_RE_amountDue_8 ?_
    refine va_getsN hx hb hG.2.2.2.2.2.2.2.1 hS.va hown (va_Nw.use rfl hG.2.2.2.1) (fun _ h9 => h9) d_RE_amountDue_11 ?_
    refine va_tlen hx hb hG.2.2.2.2.2.2.2.2 hS.va (v := 5) rfl d_RE_amountDue_14 ?_
    refine lv_icmp_lt (tgt := 20) hx hb d_RE_amountDue_15 (by decide) (fun c_2 => ?_) (fun c_2 => ?_)
    · refine lv_aload_n hx hb d_RE_amountDue_20 rfl (lv_at hl 0 rfl) ?_
      refine z_get (ci := 2) (C := R_RE) (T := F_RE) (N := 15) hx hb hts j_RE hown hK hS hrow rfl 6 (by decide) (hk k_277 rfl) (fun _ h9 => h9) rfl d_RE_amountDue_21 ?_
      refine lv_if_ne (tgt := 44) hx hb d_RE_amountDue_24 (by decide) (fun c_3 => ?_) (fun c_3 => ?_)
      · refine lv_iconst (v := 0) hx hb d_RE_amountDue_44 (by decide) ?_
        exact z_Piret hx hb hr rfl hlk hg (by simp [z_due, c_1, c_2, c_3]) (by decide) (by decide) d_RE_amountDue_45
      · refine lv_aload_n hx hb d_RE_amountDue_27 rfl (lv_at hl 0 rfl) ?_
        refine z_get (ci := 2) (C := R_RE) (T := F_RE) (N := 15) hx hb hts j_RE hown hK hS hrow rfl 2 (by decide) (hk k_269 rfl) (fun _ h9 => h9) rfl d_RE_amountDue_28 ?_
        refine lv_aload_n hx hb d_RE_amountDue_31 rfl (lv_at hl 0 rfl) ?_
        refine z_get (ci := 2) (C := R_RE) (T := F_RE) (N := 15) hx hb hts j_RE hown hK hS hrow rfl 0 (by decide) (hk k_265 rfl) (fun _ h9 => h9) rfl d_RE_amountDue_32 ?_
        refine z_get (ci := 1) (C := R_SA) (T := F_SA) (N := 6) hx hb hts j_SA hown hK hS hsal rfl 4 (by decide) (hk k_199 rfl) (fun _ h9 => h9) rfl d_RE_amountDue_35 ?_
        refine lv_isub hx hb d_RE_amountDue_38 ?_
        refine lv_bipush (v := 30) hx hb d_RE_amountDue_39 (by decide) ?_
        refine lv_icmp_le (tgt := 46) hx hb d_RE_amountDue_41 (by decide) (fun c_4 => ?_) (fun c_4 => ?_)
        · refine lv_aload_n hx hb d_RE_amountDue_46 rfl (lv_at hl 0 rfl) ?_
          refine z_get (ci := 2) (C := R_RE) (T := F_RE) (N := 15) hx hb hts j_RE hown hK hS hrow rfl 0 (by decide) (hk k_265 rfl) (fun _ h9 => h9) rfl d_RE_amountDue_47 ?_
          refine z_get (ci := 1) (C := R_SA) (T := F_SA) (N := 6) hx hb hts j_SA hown hK hS hsal rfl 2 (by decide) (hk k_195 rfl) (fun _ h9 => h9) rfl d_RE_amountDue_50 ?_
          refine va_getsN hx hb hG.2.2.2.2.2.2.2.1 hS.va hown (va_Nw.use rfl hG.2.2.2.1) (fun _ h9 => h9) d_RE_amountDue_53 ?_
          refine lv_aload_n hx hb d_RE_amountDue_56 rfl (lv_at hl 0 rfl) ?_
          refine z_get (ci := 2) (C := R_RE) (T := F_RE) (N := 15) hx hb hts j_RE hown hK hS hrow rfl 8 (by decide) (hk k_280 rfl) (fun _ h9 => h9) rfl d_RE_amountDue_57 ?_
          refine va_ti hx hb hG.2.2.2.2.2.2.2.2 hS.va (z_in5 c_1 c_2) (v := .int (z_pc (f 8).toNatClampNeg)) rfl d_RE_amountDue_60 ?_
          refine lv_imul hx hb d_RE_amountDue_61 ?_
          refine lv_bipush (v := 100) hx hb d_RE_amountDue_62 (by decide) ?_
          refine lv_idiv hx hb d_RE_amountDue_64 (by decide) ?_
          refine lv_istore_n (lv' := [(1, .int (((g 2) * (z_pc (f 8).toNatClampNeg)) / 100)), (0, .ref row)]) hx hb d_RE_amountDue_65 rfl hl (by decide) rfl (fun ls hl => ?_)
          refine lv_aload_n hx hb d_RE_amountDue_66 rfl (lv_at hl 1 rfl) ?_
          refine z_get (ci := 2) (C := R_RE) (T := F_RE) (N := 15) hx hb hts j_RE hown hK hS hrow rfl 0 (by decide) (hk k_265 rfl) (fun _ h9 => h9) rfl d_RE_amountDue_67 ?_
          refine z_get (ci := 1) (C := R_SA) (T := F_SA) (N := 6) hx hb hts j_SA hown hK hS hsal rfl 2 (by decide) (hk k_195 rfl) (fun _ h9 => h9) rfl d_RE_amountDue_70 ?_
          refine lv_bipush (v := 10) hx hb d_RE_amountDue_73 (by decide) ?_
          refine lv_idiv hx hb d_RE_amountDue_75 (by decide) ?_
          refine lv_aload_n hx hb d_RE_amountDue_76 rfl (lv_at hl 1 rfl) ?_
          refine z_get (ci := 2) (C := R_RE) (T := F_RE) (N := 15) hx hb hts j_RE hown hK hS hrow rfl 12 (by decide) (hk k_287 rfl) (fun _ h9 => h9) rfl d_RE_amountDue_77 ?_
          refine lv_imul hx hb d_RE_amountDue_80 ?_
          refine lv_istore_n (lv' := [(2, .int (((g 2) / 10) * (f 12))), (1, .int (((g 2) * (z_pc (f 8).toNatClampNeg)) / 100)), (0, .ref row)]) hx hb d_RE_amountDue_81 rfl hl (by decide) rfl (fun ls hl => ?_)
          refine lv_iconst (v := 0) hx hb d_RE_amountDue_82 (by decide) ?_
          refine lv_iload_n hx hb d_RE_amountDue_83 rfl (lv_at hl 1 rfl) ?_
          refine lv_iload_n hx hb d_RE_amountDue_84 rfl (lv_at hl 0 rfl) ?_
          refine lv_isub hx hb d_RE_amountDue_85 ?_
          refine va_mmax hx hb (hml.trans hl.1.symm) hown (hk k_451 rfl) (hk k_452 rfl) (hk k_30 rfl) (hk k_453 rfl) (by decide) (Nat.le_of_ble_eq_true rfl) (by decide) (by decide) d_RE_amountDue_86 ?_
          exact z_Piret hx hb hr rfl hlk hg (by simp [z_due, c_1, c_2, c_3, c_4]) (by decide) (by decide) d_RE_amountDue_89
        · refine lv_iconst (v := 0) hx hb d_RE_amountDue_44 (by decide) ?_
          exact z_Piret hx hb hr rfl hlk hg (by simp [z_due, c_1, c_2, c_3, c_4]) (by decide) (by decide) d_RE_amountDue_45
    · refine lv_iconst (v := 0) hx hb d_RE_amountDue_18 (by decide) ?_
      exact z_Piret hx hb hr rfl hlk hg (by simp [z_due, c_1, c_2]) (by decide) (by decide) d_RE_amountDue_19
end
section
/-! ===== the class: what is counted ===== -/
set_option maxHeartbeats 4000000 in
set_option maxRecDepth 100000 in
theorem c_RR_backOfClass (l : Launch) (hl9 : l.stackTraces = false) {D : va_G} {cS cR cJ cI cZ : ClassId} {lo tP : Nat} (v : Int32) {x sA rA n k : Nat} {td : Int32} {sd rd : Nat → Nat} {S : Nat → Nat → Int32} {I : Nat → Nat} {F : Nat → Nat → Int32} {X : zM} (hXI : XI x sA rA cS cR n k td sd rd S I F X) : z_P (z_G lo tP) D cls4 (zty cS cR cJ cI cZ) lo l y_RR_backOfClass w_RR_backOfClass zrB [.ref x, .int v] X (.inl (some (.int (z_sm (fun j => if j < k ∧ F j 3 = 6 ∧ F j 8 = v then 1 else 0) 20)))) := by
  refine z_ofW (by decide) ?_
  intro p e s m args below meth c s₁ B hml hout hv
  obtain ⟨rfl, hG, hK, hW0, hXl, hlo⟩ := hv
  have hx := B.exec
  have hb := B.bytes
  have hr := B.returns
  have hlk := B.notSynchronized
  have hown : s.vm.findClass R_RR = some m.cls := findClass_of_methodNamed B.named
  have hts : ∀ w9 ∈ z_tb, w9.before ([.ref x, .int v] : List Value).toArray s = true := hG.ts _
  have hk : ∀ {w9 : Cond}, w9 ∈ lw_tbl → z_ok w9 = true → w9.before ([.ref x, .int v] : List Value).toArray s = true := fun h1 h2 => hG.w h1 h2 _
  have hg : z_Gr s.heap s.heap := z_Gr.rf
  have hS := z_S.start hW0 hXl hlo
  have hl := lv_entry ([.ref x, .int v]) (n := 7) (Nat.le_of_ble_eq_true rfl)
  rw [lg_entry_eq]
  generalize (lg_sl ([.ref x, .int v]) ++ List.replicate (7 - (lg_sl ([.ref x, .int v])).length) Slot.unset).toArray = ls at hl ⊢
  have hl : lv_has ls 7 [(0, .ref x), (1, .int v)] := hl
  obtain ⟨hxx, hsA, hrA, hSs, hRr, hIn, hn, hkk, hjs, hjr⟩ := id hXI
  refine lv_iconst (v := 0) hx hb d_RR_backOfClass_0 (by decide) ?_
  refine lv_istore_n (lv' := [(2, .int 0), (0, .ref x), (1, .int v)]) hx hb d_RR_backOfClass_1 rfl hl (by decide) rfl (fun ls hl => ?_)
  refine lv_aload_n hx hb d_RR_backOfClass_2 rfl (lv_at hl 1 rfl) ?_
  refine z_get (ci := 0) (C := R_RR) (T := F_RR) (N := 5) hx hb hts j_RR hown hK hS hxx rfl 1 (by decide) (hk k_44 rfl) (fun _ h9 => h9) rfl d_RR_backOfClass_3 ?_
  refine lv_astore_n (lv' := [(3, .ref rA), (2, .int 0), (0, .ref x), (1, .int v)]) hx hb d_RR_backOfClass_6 rfl hl (by decide) rfl (fun ls hl => ?_)
  refine lv_aload_n hx hb d_RR_backOfClass_7 rfl (lv_at hl 0 rfl) ?_
  refine z_alen hx hb hK hS 1 hrA rfl (v := 20) rfl d_RR_backOfClass_8 ?_
  refine lv_istore (lv' := [(4, .int 20), (3, .ref rA), (2, .int 0), (0, .ref x), (1, .int v)]) hx hb d_RR_backOfClass_9 hl (by decide) rfl (fun ls hl => ?_)
  refine lv_iconst (v := 0) hx hb d_RR_backOfClass_11 (by decide) ?_
  refine lv_istore (lv' := [(5, .int 0), (4, .int 20), (3, .ref rA), (2, .int 0), (0, .ref x), (1, .int v)]) hx hb d_RR_backOfClass_12 hl (by decide) rfl (fun ls hl => ?_)
  have hloop : ∀ (dd i : Nat) (t : Int32) (H : Heap) (ls : Array Slot), i + dd = 20 → t = z_sm (fun j => if j < k ∧ F j 3 = 6 ∧ F j 8 = v then 1 else 0) i → z_Gr s.heap H → z_S D cls4 lo X s.heap X H [] → lv_has ls 7 [(0, .ref x), (1, .int v), (2, .int t), (3, .ref rA), (4, .int 20), (5, .int (nI i))] → W p l e zrB s m ([.ref x, .int v] : List Value).toArray below meth c H [] 0 0 (z_MQ below (z_pu (.inl (some (.int (z_sm (fun j => if j < k ∧ F j 3 = 6 ∧ F j 8 = v then 1 else 0) 20))))) ([.ref x, .int v] : List Value).toArray s zrB.cells zrB.slots (fun _ => False)) (F0 m 14 ls []) := by
    intro dd
    induction dd with
    | zero =>
      intro i t H ls hi ht_t hg hS hl
      obtain rfl : i = 20 := by omega
      refine lv_iload hx hb d_RR_backOfClass_14 (lv_at hl 5 rfl) ?_
      refine lv_iload hx hb d_RR_backOfClass_16 (lv_at hl 4 rfl) ?_
      refine lv_icmp_ge (tgt := 60) hx hb d_RR_backOfClass_18 (by decide) (fun c_1 => ?_) (fun c_1 => absurd (by decide) c_1)
      refine lv_iload_n hx hb d_RR_backOfClass_60 rfl (lv_at hl 2 rfl) ?_
      exact z_Piret hx hb hr rfl hlk hg (by rw [ht_t]) (by decide) (by decide) d_RR_backOfClass_61
    | succ dd ih =>
      intro i t H ls hi ht_t hg hS hl
      have hi20 : i < 20 := by omega
      refine lv_iload hx hb d_RR_backOfClass_14 (lv_at hl 5 rfl) ?_
      refine lv_iload hx hb d_RR_backOfClass_16 (lv_at hl 4 rfl) ?_
      refine lv_icmp_ge (tgt := 60) hx hb d_RR_backOfClass_18 (by decide) (fun c_2 => absurd c_2 (nI_ge (b := 20) hi20 (by decide))) (fun c_2 => ?_)
      refine lv_aload_n hx hb d_RR_backOfClass_21 rfl (lv_at hl 3 rfl) ?_
      refine lv_iload hx hb d_RR_backOfClass_22 (lv_at hl 5 rfl) ?_
      by_cases hik : i < k
      · refine z_aald hx hb hK hS 1 hrA rfl (vp_in_nI hi20 (by decide)) d_RR_backOfClass_24 (r := some (rd i)) (by simp only [nI_clamp (show i < 2 ^ 31 by omega), if_pos hik]) ?_
        refine lv_astore (lv' := [(6, .ref (rd i)), (0, .ref x), (1, .int v), (2, .int t), (3, .ref rA), (4, .int 20), (5, .int (nI i))]) hx hb d_RR_backOfClass_25 hl (by decide) rfl (fun ls hl => ?_)
        refine lv_aload hx hb d_RR_backOfClass_27 (lv_at hl 0 rfl) ?_
        refine lv_ifnull hx hb d_RR_backOfClass_29 ?_
        refine lv_aload hx hb d_RR_backOfClass_32 (lv_at hl 0 rfl) ?_
        refine z_get (ci := 2) (C := R_RE) (T := F_RE) (N := 15) hx hb hts j_RE hown hK hS (hRr i hik) rfl 3 (by decide) (hk k_272 rfl) (fun _ h9 => h9) rfl d_RR_backOfClass_34 ?_
        refine lv_bipush (v := 6) hx hb d_RR_backOfClass_37 (by decide) ?_
        refine lv_icmp_ne (tgt := 54) hx hb d_RR_backOfClass_39 (by decide) (fun c_3 => ?_) (fun c_3 => ?_)
        · refine lv_iinc (v := (nI i) + 1) (lv' := [(5, .int ((nI i) + 1)), (6, .ref (rd i)), (0, .ref x), (1, .int v), (2, .int t), (3, .ref rA), (4, .int 20)]) hx hb d_RR_backOfClass_54 hl (k := 6) rfl rfl (by decide) rfl (fun ls hl => ?_)
          refine lv_goto (tgt := 14) hx hb d_RR_backOfClass_57 (by decide) ?_
          exact ih (i + 1) t H ls (by omega) (by rw [z_smS, ← ht_t]; simp [hik, c_3]) hg hS (by rw [nI_1] at hl; exact lv_sub hl [2, 3, 4, 5, 6, 0] rfl)
        · refine lv_aload hx hb d_RR_backOfClass_42 (lv_at hl 0 rfl) ?_
          refine z_get (ci := 2) (C := R_RE) (T := F_RE) (N := 15) hx hb hts j_RE hown hK hS (hRr i hik) rfl 8 (by decide) (hk k_281 rfl) (fun _ h9 => h9) rfl d_RR_backOfClass_44 ?_
          refine lv_iload_n hx hb d_RR_backOfClass_47 rfl (lv_at hl 2 rfl) ?_
          refine lv_icmp_ne (tgt := 54) hx hb d_RR_backOfClass_48 (by decide) (fun c_4 => ?_) (fun c_4 => ?_)
          · refine lv_iinc (v := (nI i) + 1) (lv' := [(5, .int ((nI i) + 1)), (6, .ref (rd i)), (0, .ref x), (1, .int v), (2, .int t), (3, .ref rA), (4, .int 20)]) hx hb d_RR_backOfClass_54 hl (k := 6) rfl rfl (by decide) rfl (fun ls hl => ?_)
            refine lv_goto (tgt := 14) hx hb d_RR_backOfClass_57 (by decide) ?_
            exact ih (i + 1) t H ls (by omega) (by rw [z_smS, ← ht_t]; simp [hik, c_3, c_4]) hg hS (by rw [nI_1] at hl; exact lv_sub hl [2, 3, 4, 5, 6, 0] rfl)
          · refine lv_iinc (v := t + 1) (lv' := [(2, .int (t + 1)), (6, .ref (rd i)), (0, .ref x), (1, .int v), (3, .ref rA), (4, .int 20), (5, .int (nI i))]) hx hb d_RR_backOfClass_51 hl (k := 3) rfl rfl (by decide) rfl (fun ls hl => ?_)
            refine lv_iinc (v := (nI i) + 1) (lv' := [(5, .int ((nI i) + 1)), (2, .int (t + 1)), (6, .ref (rd i)), (0, .ref x), (1, .int v), (3, .ref rA), (4, .int 20)]) hx hb d_RR_backOfClass_54 hl (k := 6) rfl rfl (by decide) rfl (fun ls hl => ?_)
            refine lv_goto (tgt := 14) hx hb d_RR_backOfClass_57 (by decide) ?_
            exact ih (i + 1) (t + 1) H ls (by omega) (by rw [z_smS, ← ht_t]; simp [hik, c_3, c_4]) hg hS (by rw [nI_1] at hl; exact lv_sub hl [3, 4, 1, 5, 6, 0] rfl)
      · refine z_aald hx hb hK hS 1 hrA rfl (vp_in_nI hi20 (by decide)) d_RR_backOfClass_24 (r := none) (by simp only [nI_clamp (show i < 2 ^ 31 by omega), if_neg hik]) ?_
        refine lv_astoreN (lv' := [(6, .null), (0, .ref x), (1, .int v), (2, .int t), (3, .ref rA), (4, .int 20), (5, .int (nI i))]) hx hb d_RR_backOfClass_25 hl (by decide) rfl (fun ls hl => ?_)
        refine lv_aloadN hx hb d_RR_backOfClass_27 (lv_at hl 0 rfl) ?_
        refine lv_ifnullN (tgt := 54) hx hb d_RR_backOfClass_29 (by decide) ?_
        refine lv_iinc (v := (nI i) + 1) (lv' := [(5, .int ((nI i) + 1)), (6, .null), (0, .ref x), (1, .int v), (2, .int t), (3, .ref rA), (4, .int 20)]) hx hb d_RR_backOfClass_54 hl (k := 6) rfl rfl (by decide) rfl (fun ls hl => ?_)
        refine lv_goto (tgt := 14) hx hb d_RR_backOfClass_57 (by decide) ?_
        exact ih (i + 1) t H ls (by omega) (by rw [z_smS, ← ht_t]; simp [hik]) hg hS (by rw [nI_1] at hl; exact lv_sub hl [2, 3, 4, 5, 6, 0] rfl)
  exact hloop 20 0 0 _ ls rfl rfl hg hS (lv_sub hl [4, 5, 3, 2, 1, 0] rfl)
set_option maxHeartbeats 4000000 in
set_option maxRecDepth 100000 in
theorem c_RR_salesTo (l : Launch) (hl9 : l.stackTraces = false) {D : va_G} {cS cR cJ cI cZ : ClassId} {lo tP : Nat} (v : Int32) {x sA rA n k : Nat} {td : Int32} {sd rd : Nat → Nat} {S : Nat → Nat → Int32} {I : Nat → Nat} {F : Nat → Nat → Int32} {X : zM} (hXI : XI x sA rA cS cR n k td sd rd S I F X) : z_P (z_G lo tP) D cls4 (zty cS cR cJ cI cZ) lo l y_RR_salesTo w_RR_salesTo zrB [.ref x, .int v] X (.inl (some (.int (z_sm (fun j => if j < n ∧ S j 1 = v then 1 else 0) 20)))) := by
  refine z_ofW (by decide) ?_
  intro p e s m args below meth c s₁ B hml hout hv
  obtain ⟨rfl, hG, hK, hW0, hXl, hlo⟩ := hv
  have hx := B.exec
  have hb := B.bytes
  have hr := B.returns
  have hlk := B.notSynchronized
  have hown : s.vm.findClass R_RR = some m.cls := findClass_of_methodNamed B.named
  have hts : ∀ w9 ∈ z_tb, w9.before ([.ref x, .int v] : List Value).toArray s = true := hG.ts _
  have hk : ∀ {w9 : Cond}, w9 ∈ lw_tbl → z_ok w9 = true → w9.before ([.ref x, .int v] : List Value).toArray s = true := fun h1 h2 => hG.w h1 h2 _
  have hg : z_Gr s.heap s.heap := z_Gr.rf
  have hS := z_S.start hW0 hXl hlo
  have hl := lv_entry ([.ref x, .int v]) (n := 7) (Nat.le_of_ble_eq_true rfl)
  rw [lg_entry_eq]
  generalize (lg_sl ([.ref x, .int v]) ++ List.replicate (7 - (lg_sl ([.ref x, .int v])).length) Slot.unset).toArray = ls at hl ⊢
  have hl : lv_has ls 7 [(0, .ref x), (1, .int v)] := hl
  obtain ⟨hxx, hsA, hrA, hSs, hRr, hIn, hn, hkk, hjs, hjr⟩ := id hXI
  refine lv_iconst (v := 0) hx hb d_RR_salesTo_0 (by decide) ?_
  refine lv_istore_n (lv' := [(2, .int 0), (0, .ref x), (1, .int v)]) hx hb d_RR_salesTo_1 rfl hl (by decide) rfl (fun ls hl => ?_)
  refine lv_aload_n hx hb d_RR_salesTo_2 rfl (lv_at hl 1 rfl) ?_
  refine z_get (ci := 0) (C := R_RR) (T := F_RR) (N := 5) hx hb hts j_RR hown hK hS hxx rfl 0 (by decide) (hk k_43 rfl) (fun _ h9 => h9) rfl d_RR_salesTo_3 ?_
  refine lv_astore_n (lv' := [(3, .ref sA), (2, .int 0), (0, .ref x), (1, .int v)]) hx hb d_RR_salesTo_6 rfl hl (by decide) rfl (fun ls hl => ?_)
  refine lv_aload_n hx hb d_RR_salesTo_7 rfl (lv_at hl 0 rfl) ?_
  refine z_alen hx hb hK hS 0 hsA rfl (v := 20) rfl d_RR_salesTo_8 ?_
  refine lv_istore (lv' := [(4, .int 20), (3, .ref sA), (2, .int 0), (0, .ref x), (1, .int v)]) hx hb d_RR_salesTo_9 hl (by decide) rfl (fun ls hl => ?_)
  refine lv_iconst (v := 0) hx hb d_RR_salesTo_11 (by decide) ?_
  refine lv_istore (lv' := [(5, .int 0), (4, .int 20), (3, .ref sA), (2, .int 0), (0, .ref x), (1, .int v)]) hx hb d_RR_salesTo_12 hl (by decide) rfl (fun ls hl => ?_)
  have hloop : ∀ (dd i : Nat) (t : Int32) (H : Heap) (ls : Array Slot), i + dd = 20 → t = z_sm (fun j => if j < n ∧ S j 1 = v then 1 else 0) i → z_Gr s.heap H → z_S D cls4 lo X s.heap X H [] → lv_has ls 7 [(0, .ref x), (1, .int v), (2, .int t), (3, .ref sA), (4, .int 20), (5, .int (nI i))] → W p l e zrB s m ([.ref x, .int v] : List Value).toArray below meth c H [] 0 0 (z_MQ below (z_pu (.inl (some (.int (z_sm (fun j => if j < n ∧ S j 1 = v then 1 else 0) 20))))) ([.ref x, .int v] : List Value).toArray s zrB.cells zrB.slots (fun _ => False)) (F0 m 14 ls []) := by
    intro dd
    induction dd with
    | zero =>
      intro i t H ls hi ht_t hg hS hl
      obtain rfl : i = 20 := by omega
      refine lv_iload hx hb d_RR_salesTo_14 (lv_at hl 5 rfl) ?_
      refine lv_iload hx hb d_RR_salesTo_16 (lv_at hl 4 rfl) ?_
      refine lv_icmp_ge (tgt := 50) hx hb d_RR_salesTo_18 (by decide) (fun c_1 => ?_) (fun c_1 => absurd (by decide) c_1)
      refine lv_iload_n hx hb d_RR_salesTo_50 rfl (lv_at hl 2 rfl) ?_
      exact z_Piret hx hb hr rfl hlk hg (by rw [ht_t]) (by decide) (by decide) d_RR_salesTo_51
    | succ dd ih =>
      intro i t H ls hi ht_t hg hS hl
      have hi20 : i < 20 := by omega
      refine lv_iload hx hb d_RR_salesTo_14 (lv_at hl 5 rfl) ?_
      refine lv_iload hx hb d_RR_salesTo_16 (lv_at hl 4 rfl) ?_
      refine lv_icmp_ge (tgt := 50) hx hb d_RR_salesTo_18 (by decide) (fun c_2 => absurd c_2 (nI_ge (b := 20) hi20 (by decide))) (fun c_2 => ?_)
      refine lv_aload_n hx hb d_RR_salesTo_21 rfl (lv_at hl 3 rfl) ?_
      refine lv_iload hx hb d_RR_salesTo_22 (lv_at hl 5 rfl) ?_
      by_cases hik : i < n
      · refine z_aald hx hb hK hS 0 hsA rfl (vp_in_nI hi20 (by decide)) d_RR_salesTo_24 (r := some (sd i)) (by simp only [nI_clamp (show i < 2 ^ 31 by omega), if_pos hik]) ?_
        refine lv_astore (lv' := [(6, .ref (sd i)), (0, .ref x), (1, .int v), (2, .int t), (3, .ref sA), (4, .int 20), (5, .int (nI i))]) hx hb d_RR_salesTo_25 hl (by decide) rfl (fun ls hl => ?_)
        refine lv_aload hx hb d_RR_salesTo_27 (lv_at hl 0 rfl) ?_
        refine lv_ifnull hx hb d_RR_salesTo_29 ?_
        refine lv_aload hx hb d_RR_salesTo_32 (lv_at hl 0 rfl) ?_
        refine z_get (ci := 1) (C := R_SA) (T := F_SA) (N := 6) hx hb hts j_SA hown hK hS (hSs i hik) rfl 1 (by decide) (hk k_193 rfl) (fun _ h9 => h9) rfl d_RR_salesTo_34 ?_
        refine lv_iload_n hx hb d_RR_salesTo_37 rfl (lv_at hl 2 rfl) ?_
        refine lv_icmp_ne (tgt := 44) hx hb d_RR_salesTo_38 (by decide) (fun c_3 => ?_) (fun c_3 => ?_)
        · refine lv_iinc (v := (nI i) + 1) (lv' := [(5, .int ((nI i) + 1)), (6, .ref (sd i)), (0, .ref x), (1, .int v), (2, .int t), (3, .ref sA), (4, .int 20)]) hx hb d_RR_salesTo_44 hl (k := 6) rfl rfl (by decide) rfl (fun ls hl => ?_)
          refine lv_goto (tgt := 14) hx hb d_RR_salesTo_47 (by decide) ?_
          exact ih (i + 1) t H ls (by omega) (by rw [z_smS, ← ht_t]; simp [hik, c_3]) hg hS (by rw [nI_1] at hl; exact lv_sub hl [2, 3, 4, 5, 6, 0] rfl)
        · refine lv_iinc (v := t + 1) (lv' := [(2, .int (t + 1)), (6, .ref (sd i)), (0, .ref x), (1, .int v), (3, .ref sA), (4, .int 20), (5, .int (nI i))]) hx hb d_RR_salesTo_41 hl (k := 3) rfl rfl (by decide) rfl (fun ls hl => ?_)
          refine lv_iinc (v := (nI i) + 1) (lv' := [(5, .int ((nI i) + 1)), (2, .int (t + 1)), (6, .ref (sd i)), (0, .ref x), (1, .int v), (3, .ref sA), (4, .int 20)]) hx hb d_RR_salesTo_44 hl (k := 6) rfl rfl (by decide) rfl (fun ls hl => ?_)
          refine lv_goto (tgt := 14) hx hb d_RR_salesTo_47 (by decide) ?_
          exact ih (i + 1) (t + 1) H ls (by omega) (by rw [z_smS, ← ht_t]; simp [hik, c_3]) hg hS (by rw [nI_1] at hl; exact lv_sub hl [3, 4, 1, 5, 6, 0] rfl)
      · refine z_aald hx hb hK hS 0 hsA rfl (vp_in_nI hi20 (by decide)) d_RR_salesTo_24 (r := none) (by simp only [nI_clamp (show i < 2 ^ 31 by omega), if_neg hik]) ?_
        refine lv_astoreN (lv' := [(6, .null), (0, .ref x), (1, .int v), (2, .int t), (3, .ref sA), (4, .int 20), (5, .int (nI i))]) hx hb d_RR_salesTo_25 hl (by decide) rfl (fun ls hl => ?_)
        refine lv_aloadN hx hb d_RR_salesTo_27 (lv_at hl 0 rfl) ?_
        refine lv_ifnullN (tgt := 44) hx hb d_RR_salesTo_29 (by decide) ?_
        refine lv_iinc (v := (nI i) + 1) (lv' := [(5, .int ((nI i) + 1)), (6, .null), (0, .ref x), (1, .int v), (2, .int t), (3, .ref sA), (4, .int 20)]) hx hb d_RR_salesTo_44 hl (k := 6) rfl rfl (by decide) rfl (fun ls hl => ?_)
        refine lv_goto (tgt := 14) hx hb d_RR_salesTo_47 (by decide) ?_
        exact ih (i + 1) t H ls (by omega) (by rw [z_smS, ← ht_t]; simp [hik]) hg hS (by rw [nI_1] at hl; exact lv_sub hl [2, 3, 4, 5, 6, 0] rfl)
  exact hloop 20 0 0 _ ls rfl rfl hg hS (lv_sub hl [4, 5, 3, 2, 1, 0] rfl)
set_option maxHeartbeats 4000000 in
set_option maxRecDepth 100000 in
theorem c_RR_recentReturnsOf (l : Launch) (hl9 : l.stackTraces = false) {D : va_G} {cS cR cJ cI cZ : ClassId} {lo tP : Nat} (v : Int32) {x sA rA n k : Nat} {td : Int32} {sd rd : Nat → Nat} {S : Nat → Nat → Int32} {I : Nat → Nat} {F : Nat → Nat → Int32} {X : zM} (hXI : XI x sA rA cS cR n k td sd rd S I F X) : z_P (z_G lo tP) D cls4 (zty cS cR cJ cI cZ) lo l y_RR_recentReturnsOf w_RR_recentReturnsOf zrB [.ref x, .int v] X (.inl (some (.int (z_sm (fun j => if j < k ∧ S (I j) 1 = v ∧ ¬ 30 < td - F j 2 then 1 else 0) 20)))) := by
  refine z_ofW (by decide) ?_
  intro p e s m args below meth c s₁ B hml hout hv
  obtain ⟨rfl, hG, hK, hW0, hXl, hlo⟩ := hv
  have hx := B.exec
  have hb := B.bytes
  have hr := B.returns
  have hlk := B.notSynchronized
  have hown : s.vm.findClass R_RR = some m.cls := findClass_of_methodNamed B.named
  have hts : ∀ w9 ∈ z_tb, w9.before ([.ref x, .int v] : List Value).toArray s = true := hG.ts _
  have hk : ∀ {w9 : Cond}, w9 ∈ lw_tbl → z_ok w9 = true → w9.before ([.ref x, .int v] : List Value).toArray s = true := fun h1 h2 => hG.w h1 h2 _
  have hg : z_Gr s.heap s.heap := z_Gr.rf
  have hS := z_S.start hW0 hXl hlo
  have hl := lv_entry ([.ref x, .int v]) (n := 7) (Nat.le_of_ble_eq_true rfl)
  rw [lg_entry_eq]
  generalize (lg_sl ([.ref x, .int v]) ++ List.replicate (7 - (lg_sl ([.ref x, .int v])).length) Slot.unset).toArray = ls at hl ⊢
  have hl : lv_has ls 7 [(0, .ref x), (1, .int v)] := hl
  obtain ⟨hxx, hsA, hrA, hSs, hRr, hIn, hn, hkk, hjs, hjr⟩ := id hXI
  refine lv_iconst (v := 0) hx hb d_RR_recentReturnsOf_0 (by decide) ?_
  refine lv_istore_n (lv' := [(2, .int 0), (0, .ref x), (1, .int v)]) hx hb d_RR_recentReturnsOf_1 rfl hl (by decide) rfl (fun ls hl => ?_)
  refine lv_aload_n hx hb d_RR_recentReturnsOf_2 rfl (lv_at hl 1 rfl) ?_
  refine z_get (ci := 0) (C := R_RR) (T := F_RR) (N := 5) hx hb hts j_RR hown hK hS hxx rfl 1 (by decide) (hk k_44 rfl) (fun _ h9 => h9) rfl d_RR_recentReturnsOf_3 ?_
  refine lv_astore_n (lv' := [(3, .ref rA), (2, .int 0), (0, .ref x), (1, .int v)]) hx hb d_RR_recentReturnsOf_6 rfl hl (by decide) rfl (fun ls hl => ?_)
  refine lv_aload_n hx hb d_RR_recentReturnsOf_7 rfl (lv_at hl 0 rfl) ?_
  refine z_alen hx hb hK hS 1 hrA rfl (v := 20) rfl d_RR_recentReturnsOf_8 ?_
  refine lv_istore (lv' := [(4, .int 20), (3, .ref rA), (2, .int 0), (0, .ref x), (1, .int v)]) hx hb d_RR_recentReturnsOf_9 hl (by decide) rfl (fun ls hl => ?_)
  refine lv_iconst (v := 0) hx hb d_RR_recentReturnsOf_11 (by decide) ?_
  refine lv_istore (lv' := [(5, .int 0), (4, .int 20), (3, .ref rA), (2, .int 0), (0, .ref x), (1, .int v)]) hx hb d_RR_recentReturnsOf_12 hl (by decide) rfl (fun ls hl => ?_)
  have hloop : ∀ (dd i : Nat) (t : Int32) (H : Heap) (ls : Array Slot), i + dd = 20 → t = z_sm (fun j => if j < k ∧ S (I j) 1 = v ∧ ¬ 30 < td - F j 2 then 1 else 0) i → z_Gr s.heap H → z_S D cls4 lo X s.heap X H [] → lv_has ls 7 [(0, .ref x), (1, .int v), (2, .int t), (3, .ref rA), (4, .int 20), (5, .int (nI i))] → W p l e zrB s m ([.ref x, .int v] : List Value).toArray below meth c H [] 0 0 (z_MQ below (z_pu (.inl (some (.int (z_sm (fun j => if j < k ∧ S (I j) 1 = v ∧ ¬ 30 < td - F j 2 then 1 else 0) 20))))) ([.ref x, .int v] : List Value).toArray s zrB.cells zrB.slots (fun _ => False)) (F0 m 14 ls []) := by
    intro dd
    induction dd with
    | zero =>
      intro i t H ls hi ht_t hg hS hl
      obtain rfl : i = 20 := by omega
      refine lv_iload hx hb d_RR_recentReturnsOf_14 (lv_at hl 5 rfl) ?_
      refine lv_iload hx hb d_RR_recentReturnsOf_16 (lv_at hl 4 rfl) ?_
      refine lv_icmp_ge (tgt := 68) hx hb d_RR_recentReturnsOf_18 (by decide) (fun c_1 => ?_) (fun c_1 => absurd (by decide) c_1)
      refine lv_iload_n hx hb d_RR_recentReturnsOf_68 rfl (lv_at hl 2 rfl) ?_
      exact z_Piret hx hb hr rfl hlk hg (by rw [ht_t]) (by decide) (by decide) d_RR_recentReturnsOf_69
    | succ dd ih =>
      intro i t H ls hi ht_t hg hS hl
      have hi20 : i < 20 := by omega
      refine lv_iload hx hb d_RR_recentReturnsOf_14 (lv_at hl 5 rfl) ?_
      refine lv_iload hx hb d_RR_recentReturnsOf_16 (lv_at hl 4 rfl) ?_
      refine lv_icmp_ge (tgt := 68) hx hb d_RR_recentReturnsOf_18 (by decide) (fun c_2 => absurd c_2 (nI_ge (b := 20) hi20 (by decide))) (fun c_2 => ?_)
      refine lv_aload_n hx hb d_RR_recentReturnsOf_21 rfl (lv_at hl 3 rfl) ?_
      refine lv_iload hx hb d_RR_recentReturnsOf_22 (lv_at hl 5 rfl) ?_
      by_cases hik : i < k
      · refine z_aald hx hb hK hS 1 hrA rfl (vp_in_nI hi20 (by decide)) d_RR_recentReturnsOf_24 (r := some (rd i)) (by simp only [nI_clamp (show i < 2 ^ 31 by omega), if_pos hik]) ?_
        refine lv_astore (lv' := [(6, .ref (rd i)), (0, .ref x), (1, .int v), (2, .int t), (3, .ref rA), (4, .int 20), (5, .int (nI i))]) hx hb d_RR_recentReturnsOf_25 hl (by decide) rfl (fun ls hl => ?_)
        refine lv_aload hx hb d_RR_recentReturnsOf_27 (lv_at hl 0 rfl) ?_
        refine lv_ifnull hx hb d_RR_recentReturnsOf_29 ?_
        refine lv_aload hx hb d_RR_recentReturnsOf_32 (lv_at hl 0 rfl) ?_
        refine z_get (ci := 2) (C := R_RE) (T := F_RE) (N := 15) hx hb hts j_RE hown hK hS (hRr i hik) rfl 0 (by decide) (hk k_266 rfl) (fun _ h9 => h9) rfl d_RR_recentReturnsOf_34 ?_
        refine z_get (ci := 1) (C := R_SA) (T := F_SA) (N := 6) hx hb hts j_SA hown hK hS (hSs (I i) (hIn i hik)) rfl 1 (by decide) (hk k_193 rfl) (fun _ h9 => h9) rfl d_RR_recentReturnsOf_37 ?_
        refine lv_iload_n hx hb d_RR_recentReturnsOf_40 rfl (lv_at hl 2 rfl) ?_
        refine lv_icmp_ne (tgt := 62) hx hb d_RR_recentReturnsOf_41 (by decide) (fun c_3 => ?_) (fun c_3 => ?_)
        · refine lv_iinc (v := (nI i) + 1) (lv' := [(5, .int ((nI i) + 1)), (6, .ref (rd i)), (0, .ref x), (1, .int v), (2, .int t), (3, .ref rA), (4, .int 20)]) hx hb d_RR_recentReturnsOf_62 hl (k := 6) rfl rfl (by decide) rfl (fun ls hl => ?_)
          refine lv_goto (tgt := 14) hx hb d_RR_recentReturnsOf_65 (by decide) ?_
          exact ih (i + 1) t H ls (by omega) (by rw [z_smS, ← ht_t]; simp [hik, c_3]) hg hS (by rw [nI_1] at hl; exact lv_sub hl [2, 3, 4, 5, 6, 0] rfl)
        · refine lv_aload_n hx hb d_RR_recentReturnsOf_44 rfl (lv_at hl 1 rfl) ?_
          refine z_get (ci := 0) (C := R_RR) (T := F_RR) (N := 5) hx hb hts j_RR hown hK hS hxx rfl 4 (by decide) (hk k_47 rfl) (fun _ h9 => h9) rfl d_RR_recentReturnsOf_45 ?_
          refine lv_aload hx hb d_RR_recentReturnsOf_48 (lv_at hl 0 rfl) ?_
          refine z_get (ci := 2) (C := R_RE) (T := F_RE) (N := 15) hx hb hts j_RE hown hK hS (hRr i hik) rfl 2 (by decide) (hk k_270 rfl) (fun _ h9 => h9) rfl d_RR_recentReturnsOf_50 ?_
          refine lv_isub hx hb d_RR_recentReturnsOf_53 ?_
          refine lv_bipush (v := 30) hx hb d_RR_recentReturnsOf_54 (by decide) ?_
          refine lv_icmp_gt (tgt := 62) hx hb d_RR_recentReturnsOf_56 (by decide) (fun c_4 => ?_) (fun c_4 => ?_)
          · refine lv_iinc (v := (nI i) + 1) (lv' := [(5, .int ((nI i) + 1)), (6, .ref (rd i)), (0, .ref x), (1, .int v), (2, .int t), (3, .ref rA), (4, .int 20)]) hx hb d_RR_recentReturnsOf_62 hl (k := 6) rfl rfl (by decide) rfl (fun ls hl => ?_)
            refine lv_goto (tgt := 14) hx hb d_RR_recentReturnsOf_65 (by decide) ?_
            exact ih (i + 1) t H ls (by omega) (by rw [z_smS, ← ht_t]; simp [hik, c_3, c_4]) hg hS (by rw [nI_1] at hl; exact lv_sub hl [2, 3, 4, 5, 6, 0] rfl)
          · refine lv_iinc (v := t + 1) (lv' := [(2, .int (t + 1)), (6, .ref (rd i)), (0, .ref x), (1, .int v), (3, .ref rA), (4, .int 20), (5, .int (nI i))]) hx hb d_RR_recentReturnsOf_59 hl (k := 3) rfl rfl (by decide) rfl (fun ls hl => ?_)
            refine lv_iinc (v := (nI i) + 1) (lv' := [(5, .int ((nI i) + 1)), (2, .int (t + 1)), (6, .ref (rd i)), (0, .ref x), (1, .int v), (3, .ref rA), (4, .int 20)]) hx hb d_RR_recentReturnsOf_62 hl (k := 6) rfl rfl (by decide) rfl (fun ls hl => ?_)
            refine lv_goto (tgt := 14) hx hb d_RR_recentReturnsOf_65 (by decide) ?_
            exact ih (i + 1) (t + 1) H ls (by omega) (by rw [z_smS, ← ht_t]; simp [hik, c_3, c_4]) hg hS (by rw [nI_1] at hl; exact lv_sub hl [3, 4, 1, 5, 6, 0] rfl)
      · refine z_aald hx hb hK hS 1 hrA rfl (vp_in_nI hi20 (by decide)) d_RR_recentReturnsOf_24 (r := none) (by simp only [nI_clamp (show i < 2 ^ 31 by omega), if_neg hik]) ?_
        refine lv_astoreN (lv' := [(6, .null), (0, .ref x), (1, .int v), (2, .int t), (3, .ref rA), (4, .int 20), (5, .int (nI i))]) hx hb d_RR_recentReturnsOf_25 hl (by decide) rfl (fun ls hl => ?_)
        refine lv_aloadN hx hb d_RR_recentReturnsOf_27 (lv_at hl 0 rfl) ?_
        refine lv_ifnullN (tgt := 62) hx hb d_RR_recentReturnsOf_29 (by decide) ?_
        refine lv_iinc (v := (nI i) + 1) (lv' := [(5, .int ((nI i) + 1)), (6, .null), (0, .ref x), (1, .int v), (2, .int t), (3, .ref rA), (4, .int 20)]) hx hb d_RR_recentReturnsOf_62 hl (k := 6) rfl rfl (by decide) rfl (fun ls hl => ?_)
        refine lv_goto (tgt := 14) hx hb d_RR_recentReturnsOf_65 (by decide) ?_
        exact ih (i + 1) t H ls (by omega) (by rw [z_smS, ← ht_t]; simp [hik]) hg hS (by rw [nI_1] at hl; exact lv_sub hl [2, 3, 4, 5, 6, 0] rfl)
  exact hloop 20 0 0 _ ls rfl rfl hg hS (lv_sub hl [4, 5, 3, 2, 1, 0] rfl)
theorem z_cu0 {b v : Int32} {k : Nat} {F : Nat → Nat → Int32} (h : (b = 1 ∧ ∃ j, j < k ∧ F j 14 = v) ∨ (b = 0 ∧ ∀ j, j < k → ¬ F j 14 = v)) (hn : ∀ j, j < k → ¬ F j 14 = v) : (.inl (some (.int b)) : zR) = .inl (some (.int 0)) := by
  rcases h with ⟨-, j, hj, hv⟩ | ⟨rfl, -⟩
  · exact absurd hv (hn j hj)
  · rfl
theorem z_cu1 {b v : Int32} {k i : Nat} {F : Nat → Nat → Int32} (h : (b = 1 ∧ ∃ j, j < k ∧ F j 14 = v) ∨ (b = 0 ∧ ∀ j, j < k → ¬ F j 14 = v)) (hi : i < k) (hv : F i 14 = v) : (.inl (some (.int b)) : zR) = .inl (some (.int 1)) := by
  rcases h with ⟨rfl, -⟩ | ⟨-, hn⟩
  · rfl
  · exact absurd hv (hn i hi)
set_option maxHeartbeats 4000000 in
set_option maxRecDepth 100000 in
theorem c_RR_isCertificateUsed (l : Launch) (hl9 : l.stackTraces = false) {D : va_G} {cS cR cJ cI cZ : ClassId} {lo tP : Nat} (v b : Int32) {x sA rA n k : Nat} {td : Int32} {sd rd : Nat → Nat} {S : Nat → Nat → Int32} {I : Nat → Nat} {F : Nat → Nat → Int32} {X : zM} (hXI : XI x sA rA cS cR n k td sd rd S I F X) (hbv : (b = 1 ∧ ∃ j, j < k ∧ F j 14 = v) ∨ (b = 0 ∧ ∀ j, j < k → ¬ F j 14 = v)) : z_P (z_G lo tP) D cls4 (zty cS cR cJ cI cZ) lo l y_RR_isCertificateUsed w_RR_isCertificateUsed zrB [.ref x, .int v] X (.inl (some (.int b))) := by
  refine z_ofW (by decide) ?_
  intro p e s m args below meth c s₁ B hml hout hv
  obtain ⟨rfl, hG, hK, hW0, hXl, hlo⟩ := hv
  have hx := B.exec
  have hb := B.bytes
  have hr := B.returns
  have hlk := B.notSynchronized
  have hown : s.vm.findClass R_RR = some m.cls := findClass_of_methodNamed B.named
  have hts : ∀ w9 ∈ z_tb, w9.before ([.ref x, .int v] : List Value).toArray s = true := hG.ts _
  have hk : ∀ {w9 : Cond}, w9 ∈ lw_tbl → z_ok w9 = true → w9.before ([.ref x, .int v] : List Value).toArray s = true := fun h1 h2 => hG.w h1 h2 _
  have hg : z_Gr s.heap s.heap := z_Gr.rf
  have hS := z_S.start hW0 hXl hlo
  have hl := lv_entry ([.ref x, .int v]) (n := 6) (Nat.le_of_ble_eq_true rfl)
  rw [lg_entry_eq]
  generalize (lg_sl ([.ref x, .int v]) ++ List.replicate (6 - (lg_sl ([.ref x, .int v])).length) Slot.unset).toArray = ls at hl ⊢
  have hl : lv_has ls 6 [(0, .ref x), (1, .int v)] := hl
  obtain ⟨hxx, hsA, hrA, hSs, hRr, hIn, hn, hkk, hjs, hjr⟩ := id hXI
  refine lv_aload_n hx hb d_RR_isCertificateUsed_0 rfl (lv_at hl 0 rfl) ?_
  refine z_get (ci := 0) (C := R_RR) (T := F_RR) (N := 5) hx hb hts j_RR hown hK hS hxx rfl 1 (by decide) (hk k_44 rfl) (fun _ h9 => h9) rfl d_RR_isCertificateUsed_1 ?_
  refine lv_astore_n (lv' := [(2, .ref rA), (0, .ref x), (1, .int v)]) hx hb d_RR_isCertificateUsed_4 rfl hl (by decide) rfl (fun ls hl => ?_)
  refine lv_aload_n hx hb d_RR_isCertificateUsed_5 rfl (lv_at hl 0 rfl) ?_
  refine z_alen hx hb hK hS 1 hrA rfl (v := 20) rfl d_RR_isCertificateUsed_6 ?_
  refine lv_istore_n (lv' := [(3, .int 20), (2, .ref rA), (0, .ref x), (1, .int v)]) hx hb d_RR_isCertificateUsed_7 rfl hl (by decide) rfl (fun ls hl => ?_)
  refine lv_iconst (v := 0) hx hb d_RR_isCertificateUsed_8 (by decide) ?_
  refine lv_istore (lv' := [(4, .int 0), (3, .int 20), (2, .ref rA), (0, .ref x), (1, .int v)]) hx hb d_RR_isCertificateUsed_9 hl (by decide) rfl (fun ls hl => ?_)
  have hloop : ∀ (dd i : Nat) (H : Heap) (ls : Array Slot), i + dd = 20 → (∀ j, j < i → j < k → ¬ F j 14 = v) → z_Gr s.heap H → z_S D cls4 lo X s.heap X H [] → lv_has ls 6 [(0, .ref x), (1, .int v), (2, .ref rA), (3, .int 20), (4, .int (nI i))] → W p l e zrB s m ([.ref x, .int v] : List Value).toArray below meth c H [] 0 0 (z_MQ below (z_pu (.inl (some (.int b)))) ([.ref x, .int v] : List Value).toArray s zrB.cells zrB.slots (fun _ => False)) (F0 m 11 ls []) := by
    intro dd
    induction dd with
    | zero =>
      intro i H ls hi hex hg hS hl
      obtain rfl : i = 20 := by omega
      refine lv_iload hx hb d_RR_isCertificateUsed_11 (lv_at hl 4 rfl) ?_
      refine lv_iload_n hx hb d_RR_isCertificateUsed_13 rfl (lv_at hl 3 rfl) ?_
      refine lv_icmp_ge (tgt := 45) hx hb d_RR_isCertificateUsed_14 (by decide) (fun c_1 => ?_) (fun c_1 => absurd (by decide) c_1)
      refine lv_iconst (v := 0) hx hb d_RR_isCertificateUsed_45 (by decide) ?_
      exact z_Piret hx hb hr rfl hlk hg (z_cu0 hbv (fun j hj => hex j (by omega) hj)) (by decide) (by decide) d_RR_isCertificateUsed_46
    | succ dd ih =>
      intro i H ls hi hex hg hS hl
      have hi20 : i < 20 := by omega
      refine lv_iload hx hb d_RR_isCertificateUsed_11 (lv_at hl 4 rfl) ?_
      refine lv_iload_n hx hb d_RR_isCertificateUsed_13 rfl (lv_at hl 3 rfl) ?_
      refine lv_icmp_ge (tgt := 45) hx hb d_RR_isCertificateUsed_14 (by decide) (fun c_2 => absurd c_2 (nI_ge (b := 20) hi20 (by decide))) (fun c_2 => ?_)
      refine lv_aload_n hx hb d_RR_isCertificateUsed_17 rfl (lv_at hl 2 rfl) ?_
      refine lv_iload hx hb d_RR_isCertificateUsed_18 (lv_at hl 4 rfl) ?_
      by_cases hik : i < k
      · refine z_aald hx hb hK hS 1 hrA rfl (vp_in_nI hi20 (by decide)) d_RR_isCertificateUsed_20 (r := some (rd i)) (by simp only [nI_clamp (show i < 2 ^ 31 by omega), if_pos hik]) ?_
        refine lv_astore (lv' := [(5, .ref (rd i)), (0, .ref x), (1, .int v), (2, .ref rA), (3, .int 20), (4, .int (nI i))]) hx hb d_RR_isCertificateUsed_21 hl (by decide) rfl (fun ls hl => ?_)
        refine lv_aload hx hb d_RR_isCertificateUsed_23 (lv_at hl 0 rfl) ?_
        refine lv_ifnull hx hb d_RR_isCertificateUsed_25 ?_
        refine lv_aload hx hb d_RR_isCertificateUsed_28 (lv_at hl 0 rfl) ?_
        refine z_get (ci := 2) (C := R_RE) (T := F_RE) (N := 15) hx hb hts j_RE hown hK hS (hRr i hik) rfl 14 (by decide) (hk k_291 rfl) (fun _ h9 => h9) rfl d_RR_isCertificateUsed_30 ?_
        refine lv_iload_n hx hb d_RR_isCertificateUsed_33 rfl (lv_at hl 2 rfl) ?_
        refine lv_icmp_ne (tgt := 39) hx hb d_RR_isCertificateUsed_34 (by decide) (fun c_3 => ?_) (fun c_3 => ?_)
        · refine lv_iinc (v := (nI i) + 1) (lv' := [(4, .int ((nI i) + 1)), (5, .ref (rd i)), (0, .ref x), (1, .int v), (2, .ref rA), (3, .int 20)]) hx hb d_RR_isCertificateUsed_39 hl (k := 5) rfl rfl (by decide) rfl (fun ls hl => ?_)
          refine lv_goto (tgt := 11) hx hb d_RR_isCertificateUsed_42 (by decide) ?_
          exact ih (i + 1) H ls (by omega) (fun j hj hjk => by rcases Nat.lt_succ_iff_lt_or_eq.mp hj with h | h; exact hex j h hjk; rw [h]; exact c_3) hg hS (by rw [nI_1] at hl; exact lv_sub hl [2, 3, 4, 5, 0] rfl)
        · refine lv_iconst (v := 1) hx hb d_RR_isCertificateUsed_37 (by decide) ?_
          exact z_Piret hx hb hr rfl hlk hg (z_cu1 hbv hik c_3) (by decide) (by decide) d_RR_isCertificateUsed_38
      · refine z_aald hx hb hK hS 1 hrA rfl (vp_in_nI hi20 (by decide)) d_RR_isCertificateUsed_20 (r := none) (by simp only [nI_clamp (show i < 2 ^ 31 by omega), if_neg hik]) ?_
        refine lv_astoreN (lv' := [(5, .null), (0, .ref x), (1, .int v), (2, .ref rA), (3, .int 20), (4, .int (nI i))]) hx hb d_RR_isCertificateUsed_21 hl (by decide) rfl (fun ls hl => ?_)
        refine lv_aloadN hx hb d_RR_isCertificateUsed_23 (lv_at hl 0 rfl) ?_
        refine lv_ifnullN (tgt := 39) hx hb d_RR_isCertificateUsed_25 (by decide) ?_
        refine lv_iinc (v := (nI i) + 1) (lv' := [(4, .int ((nI i) + 1)), (5, .null), (0, .ref x), (1, .int v), (2, .ref rA), (3, .int 20)]) hx hb d_RR_isCertificateUsed_39 hl (k := 5) rfl rfl (by decide) rfl (fun ls hl => ?_)
        refine lv_goto (tgt := 11) hx hb d_RR_isCertificateUsed_42 (by decide) ?_
        exact ih (i + 1) H ls (by omega) (fun j hj hjk => by rcases Nat.lt_succ_iff_lt_or_eq.mp hj with h | h; exact hex j h hjk; exact absurd (h ▸ hjk) hik) hg hS (by rw [nI_1] at hl; exact lv_sub hl [2, 3, 4, 5, 0] rfl)
  exact hloop 20 0 _ ls rfl (fun j hj => absurd hj (Nat.not_lt_zero j)) hg hS (lv_sub hl [3, 4, 2, 1, 0] rfl)
set_option maxHeartbeats 4000000 in
set_option maxRecDepth 100000 in
theorem c_RR_sum (l : Launch) (hl9 : l.stackTraces = false) {D : va_G} {cS cR cJ cI cZ : ClassId} {lo tP : Nat} (μ : (Nat → Int32) → Int32) (q u w : Int32) (hμ : ∀ {X : zM} (row a : Nat) (f : Nat → Int32), X row = some (.inr (2, rowR a f)) → z_P (z_G lo tP) D cls4 (zty cS cR cJ cI cZ) lo l y_RE_measured w_RE_measured zrA [.ref row, .int q] X (.inl (some (.int (μ f))))) {x sA rA n k : Nat} {td : Int32} {sd rd : Nat → Nat} {S : Nat → Nat → Int32} {I : Nat → Nat} {F : Nat → Nat → Int32} {X : zM} (hXI : XI x sA rA cS cR n k td sd rd S I F X) : z_P (z_G lo tP) D cls4 (zty cS cR cJ cI cZ) lo l y_RR_sum w_RR_sum zrB [.ref x, .int q, .int u, .int w] X (.inl (some (.int (z_sm (fun j => if j < k ∧ z_of u w (S (I j)) (F j) then μ (F j) else 0) 20)))) := by
  refine z_ofW (by decide) ?_
  intro p e s m args below meth c s₁ B hml hout hv
  obtain ⟨rfl, hG, hK, hW0, hXl, hlo⟩ := hv
  have hx := B.exec
  have hb := B.bytes
  have hr := B.returns
  have hlk := B.notSynchronized
  have hown : s.vm.findClass R_RR = some m.cls := findClass_of_methodNamed B.named
  have hts : ∀ w9 ∈ z_tb, w9.before ([.ref x, .int q, .int u, .int w] : List Value).toArray s = true := hG.ts _
  have hk : ∀ {w9 : Cond}, w9 ∈ lw_tbl → z_ok w9 = true → w9.before ([.ref x, .int q, .int u, .int w] : List Value).toArray s = true := fun h1 h2 => hG.w h1 h2 _
  have hg : z_Gr s.heap s.heap := z_Gr.rf
  have hS := z_S.start hW0 hXl hlo
  have hl := lv_entry ([.ref x, .int q, .int u, .int w]) (n := 9) (Nat.le_of_ble_eq_true rfl)
  rw [lg_entry_eq]
  generalize (lg_sl ([.ref x, .int q, .int u, .int w]) ++ List.replicate (9 - (lg_sl ([.ref x, .int q, .int u, .int w])).length) Slot.unset).toArray = ls at hl ⊢
  have hl : lv_has ls 9 [(0, .ref x), (1, .int q), (2, .int u), (3, .int w)] := hl
  obtain ⟨hxx, hsA, hrA, hSs, hRr, hIn, hn, hkk, hjs, hjr⟩ := id hXI
  refine lv_iconst (v := 0) hx hb d_RR_sum_0 (by decide) ?_
  refine lv_istore (lv' := [(4, .int 0), (0, .ref x), (1, .int q), (2, .int u), (3, .int w)]) hx hb d_RR_sum_1 hl (by decide) rfl (fun ls hl => ?_)
  refine lv_aload_n hx hb d_RR_sum_3 rfl (lv_at hl 1 rfl) ?_
  refine z_get (ci := 0) (C := R_RR) (T := F_RR) (N := 5) hx hb hts j_RR hown hK hS hxx rfl 1 (by decide) (hk k_44 rfl) (fun _ h9 => h9) rfl d_RR_sum_4 ?_
  refine lv_astore (lv' := [(5, .ref rA), (4, .int 0), (0, .ref x), (1, .int q), (2, .int u), (3, .int w)]) hx hb d_RR_sum_7 hl (by decide) rfl (fun ls hl => ?_)
  refine lv_aload hx hb d_RR_sum_9 (lv_at hl 0 rfl) ?_
  refine z_alen hx hb hK hS 1 hrA rfl (v := 20) rfl d_RR_sum_11 ?_
  refine lv_istore (lv' := [(6, .int 20), (5, .ref rA), (4, .int 0), (0, .ref x), (1, .int q), (2, .int u), (3, .int w)]) hx hb d_RR_sum_12 hl (by decide) rfl (fun ls hl => ?_)
  refine lv_iconst (v := 0) hx hb d_RR_sum_14 (by decide) ?_
  refine lv_istore (lv' := [(7, .int 0), (6, .int 20), (5, .ref rA), (4, .int 0), (0, .ref x), (1, .int q), (2, .int u), (3, .int w)]) hx hb d_RR_sum_15 hl (by decide) rfl (fun ls hl => ?_)
  have hloop : ∀ (dd i : Nat) (t : Int32) (H : Heap) (ls : Array Slot), i + dd = 20 → t = z_sm (fun j => if j < k ∧ z_of u w (S (I j)) (F j) then μ (F j) else 0) i → z_Gr s.heap H → z_S D cls4 lo X s.heap X H [] → lv_has ls 9 [(0, .ref x), (1, .int q), (2, .int u), (3, .int w), (4, .int t), (5, .ref rA), (6, .int 20), (7, .int (nI i))] → W p l e zrB s m ([.ref x, .int q, .int u, .int w] : List Value).toArray below meth c H [] 0 0 (z_MQ below (z_pu (.inl (some (.int (z_sm (fun j => if j < k ∧ z_of u w (S (I j)) (F j) then μ (F j) else 0) 20))))) ([.ref x, .int q, .int u, .int w] : List Value).toArray s zrB.cells zrB.slots (fun _ => False)) (F0 m 17 ls []) := by
    intro dd
    induction dd with
    | zero =>
      intro i t H ls hi ht_t hg hS hl
      obtain rfl : i = 20 := by omega
      refine lv_iload hx hb d_RR_sum_17 (lv_at hl 7 rfl) ?_
      refine lv_iload hx hb d_RR_sum_19 (lv_at hl 6 rfl) ?_
      refine lv_icmp_ge (tgt := 63) hx hb d_RR_sum_21 (by decide) (fun c_1 => ?_) (fun c_1 => absurd (by decide) c_1)
      refine lv_iload hx hb d_RR_sum_63 (lv_at hl 4 rfl) ?_
      exact z_Piret hx hb hr rfl hlk hg (by rw [ht_t]) (by decide) (by decide) d_RR_sum_65
    | succ dd ih =>
      intro i t H ls hi ht_t hg hS hl
      have hi20 : i < 20 := by omega
      refine lv_iload hx hb d_RR_sum_17 (lv_at hl 7 rfl) ?_
      refine lv_iload hx hb d_RR_sum_19 (lv_at hl 6 rfl) ?_
      refine lv_icmp_ge (tgt := 63) hx hb d_RR_sum_21 (by decide) (fun c_2 => absurd c_2 (nI_ge (b := 20) hi20 (by decide))) (fun c_2 => ?_)
      refine lv_aload hx hb d_RR_sum_24 (lv_at hl 5 rfl) ?_
      refine lv_iload hx hb d_RR_sum_26 (lv_at hl 7 rfl) ?_
      by_cases hik : i < k
      · refine z_aald hx hb hK hS 1 hrA rfl (vp_in_nI hi20 (by decide)) d_RR_sum_28 (r := some (rd i)) (by simp only [nI_clamp (show i < 2 ^ 31 by omega), if_pos hik]) ?_
        refine lv_astore (lv' := [(8, .ref (rd i)), (0, .ref x), (1, .int q), (2, .int u), (3, .int w), (4, .int t), (5, .ref rA), (6, .int 20), (7, .int (nI i))]) hx hb d_RR_sum_29 hl (by decide) rfl (fun ls hl => ?_)
        refine lv_aload hx hb d_RR_sum_31 (lv_at hl 0 rfl) ?_
        refine lv_ifnull hx hb d_RR_sum_33 ?_
        refine lv_aload hx hb d_RR_sum_36 (lv_at hl 0 rfl) ?_
        refine lv_iload_n hx hb d_RR_sum_38 rfl (lv_at hl 3 rfl) ?_
        refine lv_iload_n hx hb d_RR_sum_39 rfl (lv_at hl 4 rfl) ?_
        refine z_pi (n_RR_RE_isOf hx hown hG (va_recv hK (hS.1.one (hRr i hik)) (ci := 2) (q0 := 0) rfl rfl) (by rw [hb]; exact d_RR_sum_40)) hb (hl.1.trans hml.symm) (c_RE_isOf l hl9 u w (rd i) (sd (I i)) (F i) (hRr i hik) (I i) (S (I i)) (hSs (I i) (hIn i hik))) (rfl) (z_Gkeeps lo tP) hG hK hS (cw_RE_isOf hG (by decide) (by decide)) d_RR_sum_40 (Nat.le_of_ble_eq_true rfl) (by decide) (by decide) (fun H hq hS => ?_)
        have hg := hg.tr hq
        by_cases hof : z_of u w (S (I i)) (F i)
        · rw [if_pos hof]
          refine lv_if_eq (tgt := 57) hx hb d_RR_sum_43 (by decide) (fun c_3 => absurd c_3 (by decide)) (fun c_3 => ?_)
          refine lv_iload hx hb d_RR_sum_46 (lv_at hl 5 rfl) ?_
          refine lv_aload hx hb d_RR_sum_48 (lv_at hl 0 rfl) ?_
          refine lv_iload_n hx hb d_RR_sum_50 rfl (lv_at hl 2 rfl) ?_
          refine z_pi (n_RR_RE_measured hx hown hG (va_recv hK (hS.1.one (hRr i hik)) (ci := 2) (q0 := 0) rfl rfl) (by rw [hb]; exact d_RR_sum_51)) hb (hl.1.trans hml.symm) (hμ (rd i) (sd (I i)) (F i) (hRr i hik)) (rfl) (z_Gkeeps lo tP) hG hK hS (cw_RE_measured hG (by decide) (by decide)) d_RR_sum_51 (Nat.le_of_ble_eq_true rfl) (by decide) (by decide) (fun H hq hS => ?_)
          have hg := hg.tr hq
          refine lv_iadd hx hb d_RR_sum_54 ?_
          refine lv_istore (lv' := [(4, .int (t + (μ (F i)))), (8, .ref (rd i)), (0, .ref x), (1, .int q), (2, .int u), (3, .int w), (5, .ref rA), (6, .int 20), (7, .int (nI i))]) hx hb d_RR_sum_55 hl (by decide) rfl (fun ls hl => ?_)
          refine lv_iinc (v := (nI i) + 1) (lv' := [(7, .int ((nI i) + 1)), (4, .int (t + (μ (F i)))), (8, .ref (rd i)), (0, .ref x), (1, .int q), (2, .int u), (3, .int w), (5, .ref rA), (6, .int 20)]) hx hb d_RR_sum_57 hl (k := 8) rfl rfl (by decide) rfl (fun ls hl => ?_)
          refine lv_goto (tgt := 17) hx hb d_RR_sum_60 (by decide) ?_
          exact ih (i + 1) (t + (μ (F i))) H ls (by omega) (by rw [z_smS, ← ht_t]; simp [hik, hof]) hg hS (by rw [nI_1] at hl; exact lv_sub hl [3, 4, 5, 6, 1, 7, 8, 0] rfl)
        · rw [if_neg hof]
          refine lv_if_eq (tgt := 57) hx hb d_RR_sum_43 (by decide) (fun c_4 => ?_) (fun c_4 => absurd (by decide) c_4)
          refine lv_iinc (v := (nI i) + 1) (lv' := [(7, .int ((nI i) + 1)), (8, .ref (rd i)), (0, .ref x), (1, .int q), (2, .int u), (3, .int w), (4, .int t), (5, .ref rA), (6, .int 20)]) hx hb d_RR_sum_57 hl (k := 8) rfl rfl (by decide) rfl (fun ls hl => ?_)
          refine lv_goto (tgt := 17) hx hb d_RR_sum_60 (by decide) ?_
          exact ih (i + 1) t H ls (by omega) (by rw [z_smS, ← ht_t]; simp [hik, hof]) hg hS (by rw [nI_1] at hl; exact lv_sub hl [2, 3, 4, 5, 6, 7, 8, 0] rfl)
      · refine z_aald hx hb hK hS 1 hrA rfl (vp_in_nI hi20 (by decide)) d_RR_sum_28 (r := none) (by simp only [nI_clamp (show i < 2 ^ 31 by omega), if_neg hik]) ?_
        refine lv_astoreN (lv' := [(8, .null), (0, .ref x), (1, .int q), (2, .int u), (3, .int w), (4, .int t), (5, .ref rA), (6, .int 20), (7, .int (nI i))]) hx hb d_RR_sum_29 hl (by decide) rfl (fun ls hl => ?_)
        refine lv_aloadN hx hb d_RR_sum_31 (lv_at hl 0 rfl) ?_
        refine lv_ifnullN (tgt := 57) hx hb d_RR_sum_33 (by decide) ?_
        refine lv_iinc (v := (nI i) + 1) (lv' := [(7, .int ((nI i) + 1)), (8, .null), (0, .ref x), (1, .int q), (2, .int u), (3, .int w), (4, .int t), (5, .ref rA), (6, .int 20)]) hx hb d_RR_sum_57 hl (k := 8) rfl rfl (by decide) rfl (fun ls hl => ?_)
        refine lv_goto (tgt := 17) hx hb d_RR_sum_60 (by decide) ?_
        exact ih (i + 1) t H ls (by omega) (by rw [z_smS, ← ht_t]; simp [hik]) hg hS (by rw [nI_1] at hl; exact lv_sub hl [2, 3, 4, 5, 6, 7, 8, 0] rfl)
  exact hloop 20 0 0 _ ls rfl rfl hg hS (lv_sub hl [4, 5, 6, 7, 3, 2, 1, 0] rfl)
end
section
/-! ===== what each call does, in numbers ===== -/
def zfs (f : Nat → Int32) (i : Nat) (v : Int32) : Nat → Int32 := fun q => if q = i then v else f q
def zfr (F : Nat → Nat → Int32) (j : Nat) (f : Nat → Int32) : Nat → Nat → Int32 := fun q => if q = j then f else F q
theorem zfr_id (F : Nat → Nat → Int32) (j : Nat) : zfr F j (F j) = F := by
  funext q
  unfold zfr
  by_cases h : q = j
  · rw [if_pos h, h]
  · rw [if_neg h]
theorem zfr_at (F : Nat → Nat → Int32) (j : Nat) (f : Nat → Int32) : zfr F j f j = f := if_pos rfl
theorem zfr_ne {F : Nat → Nat → Int32} {i j : Nat} {f : Nat → Int32} (h : ¬ i = j) : zfr F j f i = F i := if_neg h
/-- whose an entry is: the class's, the reference's, the law's own -/
def zk : va_E → Nat
  | .inr (c, _) => if c = 3 then 1 else 0
  | .inl (_, _, .inl _) => 1
  | .inl (_, _, .inr (.inl _)) => 2
  | .inl (_, _, .inr (.inr _)) => 0
/-- what is not of the kind i has stayed -/
def zFr (i : Nat) (X X9 : zM) : Prop := ∀ q e, X q = some e → ¬ zk e = i → X9 q = some e
theorem zFr.rf {i : Nat} {X : zM} : zFr i X X := fun _ _ h _ => h
theorem zFr.tr {i : Nat} {X X8 X9 : zM} (h : zFr i X X8) (h' : zFr i X8 X9) : zFr i X X9 := fun q e hq hk => h' q e (h q e hq hk) hk
theorem zFr.up {i a : Nat} {X X9 : zM} {e0 e : va_E} (h : zFr i X X9) (ha : X9 a = some e0) (he : zk e0 = i) : zFr i X (z_up X9 a e) := fun q e1 hq hk => by
  have h1 := h q e1 hq hk
  have hne : q ≠ a := fun h2 => by
    subst h2
    rw [h1] at ha
    cases ha
    exact hk he
  rw [z_ne hne]
  exact h1
theorem zFr.nw {i a : Nat} {X X9 : zM} {e : va_E} (h : zFr i X X9) (hn : ∀ e1, X9 a = some e1 → False) : zFr i X (z_up X9 a e) := fun q e1 hq hk => by
  have h1 := h q e1 hq hk
  have hne : q ≠ a := fun h2 => by
    subst h2
    exact hn _ h1
  rw [z_ne hne]
  exact h1
/-- the end of a call of the class: c = 0, and the answer is a, or the c-th of its exceptions -/
def zT (E : List String) (c : Nat) (a : Option Value) (X : zM) (N : zM → Prop) (r : zR) (X9 : zM) : Prop :=
  (c = 0 → r = .inl a ∧ N X9 ∧ zFr 0 X X9) ∧ (¬ c = 0 → r = .inr (E.getD (c - 1) "") ∧ X9 = X)
theorem zT0 {E : List String} {c : Nat} {a : Option Value} {X X9 : zM} {N : zM → Prop} (hc : c = 0) (hN : N X9) (hf : zFr 0 X X9) : zT E c a X N (.inl a) X9 := ⟨fun _ => ⟨rfl, hN, hf⟩, fun h => absurd hc h⟩
theorem zT1 {E : List String} {c : Nat} {a : Option Value} {X : zM} {N : zM → Prop} {e : String} (i : Nat) (hc : c = i + 1) (he : E.getD i "" = e) : zT E c a X N (.inr e) X := ⟨fun h => by omega, fun _ => ⟨by rw [hc, Nat.add_sub_cancel, he], rfl⟩⟩
/-- the answer of a call that only reads -/
def zRe (E : List String) (c : Nat) (a : Option Value) : zR := if c = 0 then .inl a else .inr (E.getD (c - 1) "")
theorem zRe0 {E : List String} {c : Nat} {a : Option Value} (hc : c = 0) : zRe E c a = .inl a := if_pos hc
theorem zRe1 {E : List String} {c : Nat} {a : Option Value} {e : String} (i : Nat) (hc : c = i + 1) (he : E.getD i "" = e) : zRe E c a = .inr e := by
  unfold zRe
  rw [if_neg (by omega), hc, Nat.add_sub_cancel, he]
theorem z_PC {G : State → Prop} {D : va_G} {cl : List vw_C} {tys : List (ClassId × FieldType)} {lo : Nat} {l : Launch} {y : MethodName} {w : Cond} {rm : Room} {av : List Value} {X : zM} {E : List String} {c : Nat} {a : Option Value} {N : zM → Prop} (h : z_P G D cl tys lo l y w rm av X (zRe E c a)) (hN : N X) : z_C G D cl tys lo l y w rm av X (zT E c a X N) := by
  intro p e ha hc1 hc2 s m args below hf hs hP hK
  obtain ⟨n, o, h1, h2, h3, ⟨hO, hGr⟩, L, hfe, hL⟩ := h p e ha hc1 hc2 s m args below hf hs hP hK
  obtain ⟨-, -, -, hW, -, -⟩ := hP
  refine ⟨n, o, h1, h2, h3, ⟨zRe E c a, X, ?_, hO, hW.grow hGr.2, hGr.1, fun q hq _ => hGr.2 q hq, fun q hq => Or.inl hq⟩, L, hfe, fun q hq => (hL q hq).elim⟩
  unfold zRe
  by_cases h0 : c = 0
  · rw [if_pos h0]
    exact zT0 h0 hN zFr.rf
  · rw [if_neg h0]
    exact ⟨fun h => absurd h h0, fun _ => ⟨rfl, rfl⟩⟩
/-- the whole state of the returns -/
abbrev zA : Type := Nat × Nat × Int32 × (Nat → Nat → Int32) × (Nat → Nat) × (Nat → Nat → Int32)
def YI (x : Nat) (cS cR : ClassId) (A : zA) (X : zM) : Prop := ∃ (sA rA : Nat) (sd rd : Nat → Nat), XI x sA rA cS cR A.1 A.2.1 A.2.2.1 sd rd A.2.2.2.1 A.2.2.2.2.1 A.2.2.2.2.2 X
section SP
variable {x sA rA : Nat} {cS cR : ClassId} {n k : Nat} {td : Int32} {sd rd : Nat → Nat} {S : Nat → Nat → Int32} {I : Nat → Nat} {F : Nat → Nat → Int32} {X : zM}
theorem XI.row (h : XI x sA rA cS cR n k td sd rd S I F X) {j : Nat} (hj : j < k) (f : Nat → Int32) : XI x sA rA cS cR n k td sd rd S I (zfr F j f) (z_up X (rd j) (.inr (2, rowR (sd (I j)) f))) := by
  obtain ⟨h1, h2, h3, h4, h5, h6, h7, h8, h9, h10⟩ := h
  have hr := h5 j hj
  refine ⟨(z_ne (z_oo h1 hr (by decide))).trans h1, (z_ne (z_ao h2 hr)).trans h2, (z_ne (z_ao h3 hr)).trans h3, fun i hi => (z_ne (z_oo (h4 i hi) hr (by decide))).trans (h4 i hi), fun i hi => ?_, h6, h7, h8, h9, h10⟩
  by_cases he : i = j
  · subst he
    rw [zfr_at]
    exact z_eq _ _ _
  · rw [zfr_ne he]
    exact (z_ne (fun q => he (h10 i j hi hj q))).trans (h5 i hi)
theorem zT0r {E : List String} {c : Nat} {a : Option Value} {X9 : zM} {f : Nat → Int32} {j : Nat} (h : XI x sA rA cS cR n k td sd rd S I F X) (hj : j < k) (hc : c = 0) (hX : X9 = z_up X (rd j) (.inr (2, rowR (sd (I j)) f))) : zT E c a X (YI x cS cR ⟨n, k, td, S, I, zfr F j f⟩) (.inl a) X9 := by
  subst hX
  exact zT0 hc ⟨sA, rA, sd, rd, h.row hj f⟩ (zFr.rf.up (h.2.2.2.2.1 j hj) rfl)
theorem XI.day (h : XI x sA rA cS cR n k td sd rd S I F X) (d : Int32) : XI x sA rA cS cR n k d sd rd S I F (z_up X x (.inr (0, [.ref sA, .ref rA, .int (nI n), .int (nI k), .int d]))) := by
  obtain ⟨h1, h2, h3, h4, h5, h6⟩ := h
  exact ⟨z_eq _ _ _, (z_ne (z_ao h2 h1)).trans h2, (z_ne (z_ao h3 h1)).trans h3, fun i hi => (z_ne (z_oo (h4 i hi) h1 (by decide))).trans (h4 i hi), fun i hi => (z_ne (z_oo (h5 i hi) h1 (by decide))).trans (h5 i hi), h6⟩
end SP
/-! the calls' codes -/
def cd_day (td d : Int32) : Nat := if z_rg d td 1000 then 0 else 1
def cd_sale (n : Nat) (c p l : Int32) : Nat := if z_rg c 0 5 then (if z_rg p 1 100000 then (if z_rg l 0 1000 then (if n = 20 then 2 else 0) else 1) else 1) else 1
def cd_comes (k : Nat) (g : Nat → Int32) (why : Int32) : Nat := if z_rg why 0 7 then (if g 5 = 0 then (if k = 20 then 4 else 0) else 3) else 2
def cd_arrive (f : Nat → Int32) (p : Int32) : Nat := if z_rg p (-1) 9 then (if (f 3 = 0 ∧ p = -1) ∨ (f 3 = 1 ∧ ¬ p = -1) then 0 else 3) else 2
def cd_serial (f : Nat → Int32) : Nat := if f 3 = 2 then 0 else 2
def cd_quarantine (f : Nat → Int32) (on : Int32) : Nat := if f 5 = on ∨ (¬ on = 0 ∧ ¬ (f 3 = 2 ∨ f 3 = 3)) then 2 else 0
def cd_check (f : Nat → Int32) (what : Int32) : Nat := if z_rg what 0 4 then (if f 3 = 2 then 0 else 3) else 2
def cd_grade (f : Nat → Int32) (g : Int32) : Nat := if z_rg g 0 4 then (if (f 3 = 2 ∨ f 3 = 3) ∧ f 5 = 0 ∧ (f 7 = 0 ∨ 3 ≤ g) then 0 else 3) else 2
def cd_repair (f : Nat → Int32) (n : Int32) : Nat := if z_rg n 1 5 then (if f 3 = 3 ∧ f 5 = 0 ∧ ¬ f 8 = 0 then 0 else 3) else 2
def cd_step (f : Nat → Int32) : Nat := if f 3 = 4 then 0 else 2
def cd_scrap (f : Nat → Int32) (c : Int32) : Nat := if z_rg c 1 1000 then (if f 3 = 3 ∧ 3 ≤ f 8 then 0 else 3) else 2
def cd_back (td : Int32) (g f : Nat → Int32) : Nat := if f 3 = 3 ∧ f 5 = 0 ∧ f 6 = 0 ∧ f 8 ≤ 2 ∧ td ≤ g 3 then 0 else 2
def cd_missing (f : Nat → Int32) (n : Int32) : Nat := if z_rg n 0 10 then (if f 3 = 2 ∨ f 3 = 3 then 0 else 3) else 2
def cd_refund (g f : Nat → Int32) (c : Int32) : Nat := if z_rg c 1 100000 then (if c ≤ z_due g f - f 13 then 0 else 3) else 2
def cd_reason (why what : Int32) : Nat := if z_rg why 0 7 then (if z_rg what 0 2 then 0 else 1) else 1
def cd_customer (c what : Int32) : Nat := if z_rg c 0 5 then (if z_rg what 0 3 then 0 else 1) else 1
def cd_told (what : Int32) : Nat := if z_rg what 0 11 then 0 else 2
end
