/-! ===== the rows of the class ===== -/
abbrev rowS (i : Nat) (f : Nat → Int32) : List Value := [.int (nI i), .int (f 1), .int (f 2), .int (f 3), .int (f 4), .int (f 5)]
abbrev rowR (a : Nat) (f : Nat → Int32) : List Value := [.ref a, .int (f 1), .int (f 2), .int (f 3), .int (f 4), .int (f 5), .int (f 6), .int (f 7), .int (f 8), .int (f 9), .int (f 10), .int (f 11), .int (f 12), .int (f 13), .int (f 14)]
abbrev z_rg (v a b : Int32) : Prop := ¬ v < a ∧ v ≤ b
theorem z_bn {v : Int32} (h : v = 0 ∨ v = 1) : narrow .boolean (.int v) = .int v := by
  rcases h with rfl | rfl <;> rfl
theorem z_bf {v : Int32} (h : v = 0 ∨ v = 1) : fits .boolean (.int v) = true := by
  rcases h with rfl | rfl <;> rfl
/-! ===== numbers of sales and returns ===== -/
abbrev z_rs (v : Int32) (n : Nat) : Prop := ¬ v < 0 ∧ v < nI n
theorem z_ix0 {v : Int32} (h1 : ¬ v < 0) (h2 : v < 20) : ∃ j : Nat, j < 20 ∧ v = nI j := by
  obtain ⟨j, hj, rfl⟩ := nI_of h1
  refine ⟨j, ?_, rfl⟩
  have h3 : nI j < nI 20 := h2
  exact (nI_ltI hj (by decide)).mp h3
theorem z_ix1 {v : Int32} (h1 : ¬ v < 1) (h2 : v ≤ 20) : ∃ j : Nat, j < 20 ∧ v = nI (j + 1) := by
  have h0 : ¬ v < 0 := fun h => h1 (by
    rw [Int32.lt_iff_toInt_lt] at h ⊢
    have e0 : (0 : Int32).toInt = 0 := by decide
    have e1 : (1 : Int32).toInt = 1 := by decide
    omega)
  obtain ⟨j, hj, rfl⟩ := nI_of h0
  have h3 : nI j ≤ nI 20 := h2
  have h4 := (nI_leI hj (by decide)).mp h3
  have h5 : ¬ nI j < nI 1 := h1
  have h6 : ¬ j < 1 := fun h => h5 ((nI_ltI hj (by decide)).mpr h)
  exact ⟨j - 1, by omega, by rw [show j - 1 + 1 = j by omega]⟩
theorem z_rg1 {j k : Nat} (hj : j < 20) (hk : k ≤ 20) : z_rg (nI (j + 1)) 1 (nI k) ↔ j < k := by
  constructor
  · intro h
    have := (nI_leI (by omega) (by omega)).mp h.2
    omega
  · intro h
    refine ⟨?_, (nI_leI (by omega) (by omega)).mpr (by omega)⟩
    show ¬ nI (j + 1) < nI 1
    rw [nI_ltI (by omega) (by decide)]
    omega
theorem z_rgB {v : Int32} {k : Nat} (hk : k ≤ 20) (h : ¬ v ≤ 20) : ¬ z_rg v 1 (nI k) := fun q => h (Int32.le_trans q.2 (show nI k ≤ nI 20 from nI_le hk (by decide)))
theorem z_rs1 {j n : Nat} (hj : j < 20) (hn : n ≤ 20) : z_rs (nI j) n ↔ j < n := by
  constructor
  · intro h
    exact (nI_ltI (by omega) (by omega)).mp h.2
  · intro h
    exact ⟨nI_pos (by omega), (nI_ltI (by omega) (by omega)).mpr h⟩
theorem z_rsB {v : Int32} {n : Nat} (hn : n ≤ 20) (h : ¬ v < 20) : ¬ z_rs v n := fun q => h (Int32.lt_of_lt_of_le q.2 (show nI n ≤ nI 20 from nI_le hn (by decide)))
/-- the number of a return that there is -/
theorem z_no1 {v : Int32} {k : Nat} (hk : k ≤ 20) (h : z_rg v 1 (nI k)) : ∃ j : Nat, j < k ∧ v = nI (j + 1) := by
  obtain ⟨j, hj, e⟩ := z_ix1 h.1 (Int32.le_trans h.2 (show nI k ≤ nI 20 from nI_le hk (by decide)))
  refine ⟨j, ?_, e⟩
  rw [e] at h
  exact (z_rg1 hj hk).mp h
theorem z_no0 {v : Int32} {n : Nat} (hn : n ≤ 20) (h : z_rs v n) : ∃ j : Nat, j < n ∧ v = nI j := by
  obtain ⟨j, hj, e⟩ := z_ix0 h.1 (Int32.lt_of_lt_of_le h.2 (show nI n ≤ nI 20 from nI_le hn (by decide)))
  refine ⟨j, ?_, e⟩
  rw [e] at h
  exact (z_rs1 hj hn).mp h
abbrev zty (cS cR cJ cI cZ : ClassId) : List (ClassId × FieldType) := [(cS, .object R_SA), (cR, .object R_RE), (cJ, .long), (cI, .int), (cZ, .boolean)]
/-- a row of references: the first n of 20 places -/
abbrev zar (c : ClassId) (n : Nat) (d : Nat → Nat) : va_E := .inl (c, 20, .inr (.inr (.inr (.inr (fun i => if i < n then some (d i) else none)))))
