/-! ===== the rows of the class ===== -/
abbrev rowS (i : Nat) (f : Nat → Int32) : List Value := [.int (nI i), .int (f 1), .int (f 2), .int (f 3), .int (f 4), .int (f 5)]
abbrev rowR (a : Nat) (f : Nat → Int32) : List Value := [.ref a, .int (f 1), .int (f 2), .int (f 3), .int (f 4), .int (f 5), .int (f 6), .int (f 7), .int (f 8), .int (f 9), .int (f 10), .int (f 11), .int (f 12), .int (f 13), .int (f 14)]
abbrev z_rg (v a b : Int32) : Prop := ¬ v < a ∧ v ≤ b
theorem z_bn {v : Int32} (h : v = 0 ∨ v = 1) : narrow .boolean (.int v) = .int v := by
  rcases h with rfl | rfl <;> rfl
theorem z_bf {v : Int32} (h : v = 0 ∨ v = 1) : fits .boolean (.int v) = true := by
  rcases h with rfl | rfl <;> rfl
/-! ===== numbers of sales and returns ===== -/
abbrev z_rs (v : Int32) (n : Nat) : Prop := ¬ v < 0 ∧ v < nI n
theorem z_ix0 {v : Int32} (h1 : ¬ v < 0) (h2 : v < 20) : ∃ j : Nat, j < 20 ∧ v = nI j := by
  obtain ⟨j, hj, rfl⟩ := nI_of h1
  refine ⟨j, ?_, rfl⟩
  have h3 : nI j < nI 20 := h2
  exact (nI_ltI hj (by decide)).mp h3
theorem z_ix1 {v : Int32} (h1 : ¬ v < 1) (h2 : v ≤ 20) : ∃ j : Nat, j < 20 ∧ v = nI (j + 1) := by
  have h0 : ¬ v < 0 := fun h => h1 (by
    rw [Int32.lt_iff_toInt_lt] at h ⊢
    have e0 : (0 : Int32).toInt = 0 := by decide
    have e1 : (1 : Int32).toInt = 1 := by decide
    omega)
  obtain ⟨j, hj, rfl⟩ := nI_of h0
  have h3 : nI j ≤ nI 20 := h2
  have h4 := (nI_leI hj (by decide)).mp h3
  have h5 : ¬ nI j < nI 1 := h1
  have h6 : ¬ j < 1 := fun h => h5 ((nI_ltI hj (by decide)).mpr h)
  exact ⟨j - 1, by omega, by rw [show j - 1 + 1 = j by omega]⟩
theorem z_rg1 {j k : Nat} (hj : j < 20) (hk : k ≤ 20) : z_rg (nI (j + 1)) 1 (nI k) ↔ j < k := by
  constructor
  · intro h
    have := (nI_leI (by omega) (by omega)).mp h.2
    omega
  · intro h
    refine ⟨?_, (nI_leI (by omega) (by omega)).mpr (by omega)⟩
    show ¬ nI (j + 1) < nI 1
    rw [nI_ltI (by omega) (by decide)]
    omega
theorem z_rgB {v : Int32} {k : Nat} (hk : k ≤ 20) (h : ¬ v ≤ 20) : ¬ z_rg v 1 (nI k) := fun q => h (Int32.le_trans q.2 (show nI k ≤ nI 20 from nI_le hk (by decide)))
theorem z_rs1 {j n : Nat} (hj : j < 20) (hn : n ≤ 20) : z_rs (nI j) n ↔ j < n := by
  constructor
  · intro h
    exact (nI_ltI (by omega) (by omega)).mp h.2
  · intro h
    exact ⟨nI_pos (by omega), (nI_ltI (by omega) (by omega)).mpr h⟩
theorem z_rsB {v : Int32} {n : Nat} (hn : n ≤ 20) (h : ¬ v < 20) : ¬ z_rs v n := fun q => h (Int32.lt_of_lt_of_le q.2 (show nI n ≤ nI 20 from nI_le hn (by decide)))
/-- the number of a return that there is -/
theorem z_no1 {v : Int32} {k : Nat} (hk : k ≤ 20) (h : z_rg v 1 (nI k)) : ∃ j : Nat, j < k ∧ v = nI (j + 1) := by
  obtain ⟨j, hj, e⟩ := z_ix1 h.1 (Int32.le_trans h.2 (show nI k ≤ nI 20 from nI_le hk (by decide)))
  refine ⟨j, ?_, e⟩
  rw [e] at h
  exact (z_rg1 hj hk).mp h
theorem z_no0 {v : Int32} {n : Nat} (hn : n ≤ 20) (h : z_rs v n) : ∃ j : Nat, j < n ∧ v = nI j := by
  obtain ⟨j, hj, e⟩ := z_ix0 h.1 (Int32.lt_of_lt_of_le h.2 (show nI n ≤ nI 20 from nI_le hn (by decide)))
  refine ⟨j, ?_, e⟩
  rw [e] at h
  exact (z_rs1 hj hn).mp h
abbrev zty (cS cR cJ cI cZ : ClassId) : List (ClassId × FieldType) := [(cS, .object R_SA), (cR, .object R_RE), (cJ, .long), (cI, .int), (cZ, .boolean)]
/-- a row of references: the first n of 20 places -/
abbrev zar (c : ClassId) (n : Nat) (d : Nat → Nat) : va_E := .inl (c, 20, .inr (.inr (.inr (.inr (fun i => if i < n then some (d i) else none)))))
/-! ===== what a row is asked and told ===== -/
/-- a new grade -/
def z_tg (f : Nat → Int32) (g : Int32) : Nat → Int32 := fun i => if i = 8 then g else if i = 9 then f 8 else if i = 10 then (if f 10 = -1 ∨ g < f 10 then g else f 10) else f i
/-- what is due: g the sale's, f the return's -/
def z_due (g f : Nat → Int32) : Int32 := if f 8 < 0 ∨ ¬ f 8 < 5 then 0 else if ¬ f 6 = 0 ∨ ¬ f 2 - g 4 ≤ 30 then 0 else if 0 < g 2 * z_pc (f 8).toNatClampNeg / 100 - g 2 / 10 * f 12 then g 2 * z_pc (f 8).toNatClampNeg / 100 - g 2 / 10 * f 12 else 0
/-- whether a return is of a reason and a buyer -/
abbrev z_of (u w : Int32) (g f : Nat → Int32) : Prop := (u = -1 ∨ u = f 1) ∧ (w = -1 ∨ w = g 1)
def z_me (v : Nat) (f : Nat → Int32) : Int32 := if v = 0 then 1 else if v = 1 then f 13 else if v = 2 then (if f 3 = 5 then 1 else 0) else if v = 3 then (if f 6 = 0 then 0 else 1) else (if f 5 = 0 then 0 else 1)
theorem z_in5 {v : Int32} (h1 : ¬ v < 0) (h2 : v < 5) : vp_in v 5 := by
  obtain ⟨j, hj, rfl⟩ := nI_of h1
  have h3 : nI j < nI 5 := h2
  exact vp_in_nI ((nI_ltI hj (by decide)).mp h3) (by decide)
theorem z_tg1 {a : Nat} {f : Nat → Int32} {g : Int32} (h : f 10 = -1 ∨ g < f 10) : rowR a (z_tg f g) = [.ref a, .int (f 1), .int (f 2), .int (f 3), .int (f 4), .int (f 5), .int (f 6), .int (f 7), .int g, .int (f 8), .int g, .int (f 11), .int (f 12), .int (f 13), .int (f 14)] := by
  have e : z_tg f g 10 = g := by show (if f 10 = -1 ∨ g < f 10 then g else f 10) = g; exact if_pos h
  show [Value.ref a, .int (f 1), .int (f 2), .int (f 3), .int (f 4), .int (f 5), .int (f 6), .int (f 7), .int g, .int (f 8), .int (z_tg f g 10), .int (f 11), .int (f 12), .int (f 13), .int (f 14)] = _
  rw [e]
theorem z_tg2 {a : Nat} {f : Nat → Int32} {g : Int32} (h : ¬ (f 10 = -1 ∨ g < f 10)) : rowR a (z_tg f g) = [.ref a, .int (f 1), .int (f 2), .int (f 3), .int (f 4), .int (f 5), .int (f 6), .int (f 7), .int g, .int (f 8), .int (f 10), .int (f 11), .int (f 12), .int (f 13), .int (f 14)] := by
  have e : z_tg f g 10 = f 10 := by show (if f 10 = -1 ∨ g < f 10 then g else f 10) = f 10; exact if_neg h
  show [Value.ref a, .int (f 1), .int (f 2), .int (f 3), .int (f 4), .int (f 5), .int (f 6), .int (f 7), .int g, .int (f 8), .int (z_tg f g 10), .int (f 11), .int (f 12), .int (f 13), .int (f 14)] = _
  rw [e]
