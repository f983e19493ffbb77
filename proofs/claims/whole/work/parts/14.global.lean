/-! ===== what holds of the state all through: words, strings, statics ===== -/
/-- a word that stays true while the tables grow warmer -/
def z_ok (w : Cond) : Bool := goodWord w || (w.onTables && w.keepsCast)
theorem z_ok_at {args a' : Array Value} {s U : State} {w : Cond} (hW : s.WarmedH U.vm) (h : z_ok w = true) (hb : w.before args s = true) : w.before a' U = true := by
  unfold z_ok at h
  rcases Bool.or_eq_true_iff.mp h with h | h
  · exact word_at hW (good_of_word h) hb
  · simp only [Bool.and_eq_true] at h
    exact va_tabs (u := s.setVm U.vm) h.1 rfl (Cond.before_shiftedCast (State.Shifted.of_warmed hW) w h.2 hb)
def z_tb : List Cond := lw_tbl.filter z_ok
theorem z_in {w : Cond} (h : w ∈ lw_tbl) (hz : z_ok w = true) : w ∈ z_tb := List.mem_filter.mpr ⟨h, hz⟩
/-- a static's place and what it holds: null or a reference -/
def z_L (C n d : String) (A : Nat → Prop) (U : State) (H : Heap) : Prop := ∃ (c : ClassId) (k : Class) (i : Nat) (f : Field) (a : Nat) (cell : Cell), U.vm.findClass C = some c ∧ U.fieldFound? C n d = some (c, k, i, f) ∧ f.isStatic = true ∧ k.statics = some a ∧ H[a]? = some cell ∧ cell.vm.isStatics = true ∧ cell.cls = c ∧ f.slot < cell.slots.size ∧ k.staticTypes[f.slot]? = some f.type ∧ ¬ A a
theorem z_L.moved {C n d : String} {A : Nat → Prop} {u U : State} {H : Heap} (hvm : u.vm.Alike U.vm) (h : z_L C n d A u H) : z_L C n d A U H := by
  obtain ⟨c, k, i, f, a, cell, h1, h2, h3, h4, h5, h6, h7, h8, h9, h10⟩ := h
  obtain ⟨k', hi', he⟩ := State.fieldFound?_setVm hvm h2
  exact ⟨c, k', i, f, a, cell, by rw [hvm.findClass]; exact h1, hi', h3, by rw [he]; exact h4, h5, h6, h7, h8, by rw [he]; exact h9, h10⟩
theorem z_L.kept {C n d : String} {A : Nat → Prop} {U : State} {H H1 : Heap} (h : z_L C n d A U H) (hq : ∀ a : Nat, a < H.size → ¬ A a → H1[a]? = H[a]?) : z_L C n d A U H1 := by
  obtain ⟨c, k, i, f, a, cell, h1, h2, h3, h4, h5, h6, h7, h8, h9, h10⟩ := h
  exact ⟨c, k, i, f, a, cell, h1, h2, h3, h4, by rw [hq a (Array.getElem?_eq_some_iff.mp h5).1 h10]; exact h5, h6, h7, h8, h9, h10⟩
theorem z_L.word {C n d : String} {A : Nat → Prop} {s : State} {args : Array Value} (h : z_L C n d A s s.heap) : (Cond.laysStatic C n d).before args s = true := by
  obtain ⟨c, k, i, f, a, cell, h1, h2, h3, h4, h5, h6, h7, h8, h9, -⟩ := h
  show (Cond.laysStatic C n d).holds args s none s [] = true
  exact Cond.laysStatic_of h1 h2 h3 h4 h5 h6 h7 h8 h9
theorem z_L.of {args : Array Value} {s : State} {C n d : String} {A : Nat → Prop} (hl : (Cond.laysStatic C n d).before args s = true) (hA : ∀ a : Nat, a < s.heap.size → ¬ A a) : z_L C n d A s s.heap := by
  obtain ⟨c, k, i, f, a, cell, h1, h2, h3, h4, h5, h6, h7, h8, h9⟩ := Cond.laysStatic_spec hl
  exact ⟨c, k, i, f, a, cell, h1, h2, h3, h4, h5, h6, h7, h8, h9, hA a (Array.getElem?_eq_some_iff.mp h5).1⟩
theorem z_isRef {C n d : String} {v : Value} {A : Nat → Prop} {s : State} {args : Array Value} (h : va_Z C n d v A s s.heap) (hv : v.isRef = true) : (Cond.isRef (.static C n d)).before args s = true := by
  obtain ⟨cf, kf, fi, f, a, cell, h1, h2, h3, h4, h5, h6, h7, -⟩ := h
  have he : (Term.static C n d).eval args s none [] s = some v := by
    simp [Term.eval, State.fieldNamed?, h1, h2, h4, h5, h6, h7]
  simp only [Cond.before, Cond.holds, Cond.value, he]
  cases v <;> simp_all [Value.isRef]
theorem z_isRefq {C n d : String} {A : Nat → Prop} {s : State} {args : Array Value} (h : va_Zq C n d A s s.heap) : (Cond.isRef (.static C n d)).before args s = true := by
  rcases h with h | ⟨t, h⟩
  · exact z_isRef h rfl
  · exact z_isRef h rfl
/-- the texts of the exceptions, by their places in the pool -/
def z_strs : List (Nat × String) := [(199, "a number is outside its range"), (35, "no room for another sale"), (194, "there is no such sale"), (53, "there is a return of this sale"), (59, "no room for another return"), (197, "there is no such return"), (71, "the return is neither announced nor waiting"), (73, "a person lets in a waiting return, none an announced one"), (201, "the return is not here"), (95, "the quarantine is so already"), (205, "the return is neither here nor graded"), (207, "the return is quarantined"), (112, "a bad check forbids so good a grade"), (203, "the return is not graded"), (127, "the best grade needs no repair"), (132, "the return is not in repair"), (134, "the grade is too good for scrap"), (143, "the serial is that of another sale"), (145, "the grade is too bad for resale"), (150, "the last day of the lot is over"), (165, "this is more than is left"), (173, "a reason has no such number"), (182, "a customer has no such number"), (190, "a return has no such number")]
/-- the table of percents -/
def z_pc : Nat → Int32 := fun j => if j = 0 then 100 else if j = 1 then 90 else if j = 2 then 70 else if j = 3 then 40 else 0
def z_G (lo tP : Nat) (U : State) : Prop :=
  (∀ w ∈ z_tb, w.before #[] U = true) ∧ va_AO R_SA U ∧ va_AO R_RE U ∧ va_Nw (.fieldLinkNest "ReturnRows$Return" 52 "ReturnRows" "PERCENTS" "[I" "ReturnRows") U ∧ (∀ q ∈ z_strs, ∃ a, vk_R R_RR q.1 q.2 a U) ∧
  (va_Zq Bundle.tN "UNASSIGNED_STACK" Bundle.steD (fun q => lo ≤ q) U U.heap ∧ z_L Bundle.tN "UNASSIGNED_STACK" Bundle.steD (fun q => lo ≤ q) U U.heap) ∧
  (va_Zq Bundle.tN "SUPPRESSED_SENTINEL" Bundle.listD (fun q => lo ≤ q) U U.heap ∧ z_L Bundle.tN "SUPPRESSED_SENTINEL" Bundle.listD (fun q => lo ≤ q) U U.heap) ∧
  va_Z R_RR "PERCENTS" "[I" (.ref tP) (fun q => lo ≤ q) U U.heap ∧ va_T .int tP 5 (fun j => .int (z_pc j)) (fun q => lo ≤ q) U U.heap
theorem z_Gkeeps (lo tP : Nat) : z_Gk (z_G lo tP) lo := by
  intro u U h hW hq
  have hq' : ∀ a : Nat, a < u.heap.size → ¬ (fun q => lo ≤ q) a → U.heap[a]? = u.heap[a]? := fun a _ h2 => hq a (Nat.not_le.mp h2)
  obtain ⟨h1, h2, h3, h4, h5, ⟨h6, h6'⟩, ⟨h7, h7'⟩, h8, h9⟩ := h
  refine ⟨fun w hw => z_ok_at hW (List.mem_filter.mp hw).2 (h1 w hw), va_AO.moved hW.alike h2, va_AO.moved hW.alike h3, va_Nw.warmF hW h4, fun q hq => ?_, ⟨(va_Zq.moved hW.alike h6).kept hq', (z_L.moved hW.alike h6').kept hq'⟩, ⟨(va_Zq.moved hW.alike h7).kept hq', (z_L.moved hW.alike h7').kept hq'⟩, (va_Z.moved hW.alike h8).kept hq', (va_T.moved hW.alike h9).kept hq'⟩
  obtain ⟨a, ha⟩ := h5 q hq
  exact ⟨a, vk_R.warm hW ha⟩
/-- any word of the tables, inside a method -/
theorem z_G.w {lo tP : Nat} {U : State} (h : z_G lo tP U) {w : Cond} (hw : w ∈ lw_tbl) (hz : z_ok w = true) (args : Array Value) : w.before args U = true := z_ok_at (State.WarmedH.refl U) hz (h.1 w (z_in hw hz))
theorem z_G.ts {lo tP : Nat} {U : State} (h : z_G lo tP U) (args : Array Value) : ∀ w ∈ z_tb, w.before args U = true := fun w hw => z_ok_at (State.WarmedH.refl U) (List.mem_filter.mp hw).2 (h.1 w hw)
theorem z_G.at {lo tP : Nat} {s : State} (h : z_G lo tP s) {w : Cond} (hw : w ∈ lw_tbl) (hz : z_ok w = true) : ∀ (a' : Array Value) (U : State), s.WarmedH U.vm → w.before a' U = true := fun a' U hW => z_ok_at hW hz (h.1 w (z_in hw hz))
theorem j_RR : ∀ w ∈ u_ws R_RR F_RR 5, w ∈ z_tb := fun w h => z_in (i_RR w h) (by revert w h; decide +kernel)
theorem j_SA : ∀ w ∈ u_ws R_SA F_SA 6, w ∈ z_tb := fun w h => z_in (i_SA w h) (by revert w h; decide +kernel)
theorem j_RE : ∀ w ∈ u_ws R_RE F_RE 15, w ∈ z_tb := fun w h => z_in (i_RE w h) (by revert w h; decide +kernel)
theorem j_MO : ∀ w ∈ u_ws R_MO F_MO 23, w ∈ z_tb := fun w h => z_in (i_MO w h) (by revert w h; decide +kernel)
/-! the words of a throw -/
def z_no (w : Cond) : Bool := decide (w ≠ .isRef (.static Bundle.tN "UNASSIGNED_STACK" Bundle.steD)) && decide (w ≠ .isRef (.static Bundle.tN "SUPPRESSED_SENTINEL" Bundle.listD)) && decide (w ≠ .laysStatic Bundle.tN "UNASSIGNED_STACK" Bundle.steD) && decide (w ≠ .laysStatic Bundle.tN "SUPPRESSED_SENTINEL" Bundle.listD)
abbrev z_nm : List String := ["java/lang/RuntimeException", "java/lang/Exception"]
theorem z_ownOf {lo tP : Nat} {s : State} {args : Array Value} {ic : Nat} {E : String} (h : z_G lo tP s) (hm : ((Bundle.ownAtoms R_RR ic E z_nm).filter z_no).all (fun w => decide (w ∈ lw_tbl) && z_ok w) = true) : ∀ w ∈ Bundle.ownAtoms R_RR ic E z_nm, w.before args s = true := by
  intro w hw
  by_cases hn : z_no w = true
  · have h1 := List.all_eq_true.mp hm w (List.mem_filter.mpr ⟨hw, hn⟩)
    simp only [Bool.and_eq_true, decide_eq_true_eq] at h1
    exact h.w h1.1 h1.2 args
  · obtain ⟨-, -, -, -, -, ⟨h6, h6'⟩, ⟨h7, h7'⟩, -, -⟩ := h
    simp only [z_no, Bool.and_eq_true, decide_eq_true_eq] at hn
    by_cases e1 : w = .isRef (.static Bundle.tN "UNASSIGNED_STACK" Bundle.steD)
    · rw [e1]; exact z_isRefq h6
    · by_cases e2 : w = .isRef (.static Bundle.tN "SUPPRESSED_SENTINEL" Bundle.listD)
      · rw [e2]; exact z_isRefq h7
      · by_cases e3 : w = .laysStatic Bundle.tN "UNASSIGNED_STACK" Bundle.steD
        · rw [e3]; exact h6'.word
        · by_cases e4 : w = .laysStatic Bundle.tN "SUPPRESSED_SENTINEL" Bundle.listD
          · rw [e4]; exact h7'.word
          · exact absurd ⟨⟨⟨e1, e2⟩, e3⟩, e4⟩ hn
set_option maxRecDepth 100000 in
theorem o_IAE : ((Bundle.ownAtoms R_RR 175 E_IAE z_nm).filter z_no).all (fun w => decide (w ∈ lw_tbl) && z_ok w) = true := by decide +kernel
set_option maxRecDepth 100000 in
theorem o_ISE : ((Bundle.ownAtoms R_RR 55 E_ISE z_nm).filter z_no).all (fun w => decide (w ∈ lw_tbl) && z_ok w) = true := by decide +kernel
set_option maxRecDepth 100000 in
theorem o_UOE : ((Bundle.ownAtoms R_RR 37 E_UOE z_nm).filter z_no).all (fun w => decide (w ∈ lw_tbl) && z_ok w) = true := by decide +kernel
