/-! ===== both sides of a call ===== -/
def RI (f : Nat → Int32) : Prop := (f 8 = -1 ∨ z_rg (f 8) 0 4) ∧ (f 5 = 0 ∨ f 5 = 1) ∧ (f 6 = 0 ∨ f 6 = 1) ∧ (∃ q, q < 32 ∧ f 7 = nI q) ∧ (f 3 = 4 → z_rg (f 11) 1 5 ∧ z_rg (f 8) 1 4) ∧ (f 3 = 3 → z_rg (f 8) 0 4) ∧ (¬ f 3 = 5 → f 14 = 0)
def Iv (n k : Nat) (S : Nat → Nat → Int32) (I : Nat → Nat) (F : Nat → Nat → Int32) : Prop := (∀ j, j < k → RI (F j)) ∧ (∀ i, i < n → (S i 5 = 0 ↔ ∀ j, j < k → ¬ I j = i)) ∧ (∀ j, j < k → I j < n)
def JV (A : zA) : Prop := Iv A.1 A.2.1 A.2.2.2.1 A.2.2.2.2.1 A.2.2.2.2.2
theorem Iv.row {n k : Nat} {S : Nat → Nat → Int32} {I : Nat → Nat} {F : Nat → Nat → Int32} (h : Iv n k S I F) {j : Nat} {f : Nat → Int32} (hf : RI f) : Iv n k S I (zfr F j f) := by
  refine ⟨fun i hi => ?_, h.2⟩
  by_cases e : i = j
  · rw [e, zfr_at]; exact hf
  · rw [zfr_ne e]; exact h.1 i hi
theorem z_r14 {v : Int32} (h : z_rg v 0 4) (h0 : ¬ v = 0) : z_rg v 1 4 := by
  rcases z_cs4 h with rfl | rfl | rfl | rfl | rfl
  · exact absurd rfl h0
  · decide
  · decide
  · decide
  · decide
theorem z_r04 {v : Int32} (h : z_rg v 1 4) : z_rg v 0 4 := ⟨fun q => h.1 (Int32.lt_trans q (by decide)), h.2⟩
theorem z_r14p {v : Int32} (h : z_rg v 1 4) : z_rg (v - 1) 0 4 := by
  rcases z_cs4 (z_r04 h) with rfl | rfl | rfl | rfl | rfl
  · exact absurd h (by decide)
  · decide
  · decide
  · decide
  · decide
theorem z_r15p {v : Int32} (h : z_rg v 1 5) (h0 : ¬ v - 1 = 0) : z_rg (v - 1) 1 5 := by
  rcases z_cs15 h with rfl | rfl | rfl | rfl | rfl
  · exact absurd rfl h0
  · decide
  · decide
  · decide
  · decide
theorem z_bt : ∀ q, q < 32 → ∀ w, w < 5 → ((nI q ||| ((1 : Int32) <<< (nI w &&& 31))) = nI (nI q ||| ((1 : Int32) <<< (nI w &&& 31))).toNatClampNeg ∧ (nI q ||| ((1 : Int32) <<< (nI w &&& 31))).toNatClampNeg < 32) ∧ ((nI q &&& (((1 : Int32) <<< (nI w &&& 31)) ^^^ (-1))) = nI (nI q &&& (((1 : Int32) <<< (nI w &&& 31)) ^^^ (-1))).toNatClampNeg ∧ (nI q &&& (((1 : Int32) <<< (nI w &&& 31)) ^^^ (-1))).toNatClampNeg < 32) := by decide +kernel
theorem z_chk {f : Nat → Int32} {p0 p1 : Int32} (h : ∃ q, q < 32 ∧ f 7 = nI q) (hp : z_rg p0 0 4) : ∃ q, q < 32 ∧ an_check f p0 p1 = nI q := by
  obtain ⟨q, hq, e⟩ := h
  obtain ⟨w, hw, rfl⟩ := nI_of2 (M := 4) (n := 4) (by decide) hp.1 hp.2
  have hb := z_bt q hq w (by omega)
  unfold an_check
  rw [e]
  by_cases h1 : p1 = 0
  · rw [if_pos h1]; exact ⟨_, hb.1.2, hb.1.1⟩
  · rw [if_neg h1]; exact ⟨_, hb.2.2, hb.2.1⟩
section J0
variable {f : Nat → Int32} {p0 p1 td : Int32} {g : Nat → Int32}
theorem ri_arrive (h : RI f) (hc : cd_arrive f p0 = 0) : RI (zfs (zfs f 4 p0) 3 2) := by
  obtain ⟨r1, r2, r3, r4, r5, r6, r7⟩ := h
  refine ⟨r1, r2, r3, r4, fun h => absurd (show (2 : Int32) = 4 from h) (by decide), fun h => absurd (show (2 : Int32) = 3 from h) (by decide), fun _ => r7 (fun h5 => ?_)⟩
  unfold cd_arrive at hc
  rw [h5] at hc
  by_cases hp : z_rg p0 (-1) 9
  · rw [if_pos hp] at hc
    simp at hc
  · rw [if_neg hp] at hc
    exact absurd hc (by decide)
theorem ri_serial (h : RI f) {v : Int32} (hv : v = 0 ∨ v = 1) : RI (zfs f 6 v) := by
  obtain ⟨r1, r2, r3, r4, r5, r6, r7⟩ := h
  exact ⟨r1, r2, hv, r4, r5, r6, r7⟩
theorem ri_quarantine (h : RI f) {v : Int32} (hv : v = 0 ∨ v = 1) : RI (zfs f 5 v) := by
  obtain ⟨r1, r2, r3, r4, r5, r6, r7⟩ := h
  exact ⟨r1, hv, r3, r4, r5, r6, r7⟩
theorem ri_check (h : RI f) (hc : cd_check f p0 = 0) : RI (zfs f 7 (an_check f p0 p1)) := by
  obtain ⟨r1, r2, r3, r4, r5, r6, r7⟩ := h
  have hp : z_rg p0 0 4 := by
    by_cases hp : z_rg p0 0 4
    · exact hp
    · unfold cd_check at hc; rw [if_neg hp] at hc; exact absurd hc (by decide)
  exact ⟨r1, r2, r3, z_chk r4 hp, r5, r6, r7⟩
theorem ri_grade (h : RI f) (hc : cd_grade f p0 = 0) : RI (zfs (z_tg f p0) 3 3) := by
  obtain ⟨r1, r2, r3, r4, r5, r6, r7⟩ := h
  unfold cd_grade at hc
  by_cases hp : z_rg p0 0 4
  · rw [if_pos hp] at hc
    refine ⟨Or.inr hp, r2, r3, r4, fun h => absurd (show (3 : Int32) = 4 from h) (by decide), fun _ => hp, fun _ => r7 (fun h5 => ?_)⟩
    rw [h5] at hc
    simp at hc
  · rw [if_neg hp] at hc; exact absurd hc (by decide)
theorem ri_repair (h : RI f) (hc : cd_repair f p0 = 0) : RI (zfs (zfs f 11 p0) 3 4) := by
  obtain ⟨r1, r2, r3, r4, r5, r6, r7⟩ := h
  unfold cd_repair at hc
  by_cases hp : z_rg p0 1 5
  · rw [if_pos hp] at hc
    by_cases hq : f 3 = 3 ∧ f 5 = 0 ∧ ¬ f 8 = 0
    · exact ⟨r1, r2, r3, r4, fun _ => ⟨hp, z_r14 (r6 hq.1) hq.2.2⟩, fun h => absurd (show (4 : Int32) = 3 from h) (by decide), fun _ => r7 (fun h5 => absurd (hq.1.symm.trans h5) (by decide))⟩
    · rw [if_neg hq] at hc; exact absurd hc (by decide)
  · rw [if_neg hp] at hc; exact absurd hc (by decide)
theorem ri_step (h : RI f) (hc : cd_step f = 0) : RI (up_step f p0) := by
  obtain ⟨r1, r2, r3, r4, r5, r6, r7⟩ := h
  have h4 : f 3 = 4 := by
    by_cases h4 : f 3 = 4
    · exact h4
    · unfold cd_step at hc; rw [if_neg h4] at hc; exact absurd hc (by decide)
  obtain ⟨q1, q2⟩ := r5 h4
  have q14 := r7 (fun h5 => absurd (h4.symm.trans h5) (by decide))
  unfold up_step
  by_cases h0 : p0 = 0
  · rw [if_pos h0]
    exact ⟨r1, r2, r3, r4, fun h => absurd (show (3 : Int32) = 4 from h) (by decide), fun _ => z_r04 q2, fun _ => q14⟩
  · rw [if_neg h0]
    by_cases h1 : f 11 - 1 = 0
    · rw [if_pos h1]
      exact ⟨Or.inr (z_r14p q2), r2, r3, r4, fun h => absurd (show (3 : Int32) = 4 from h) (by decide), fun _ => z_r14p q2, fun _ => q14⟩
    · rw [if_neg h1]
      exact ⟨r1, r2, r3, r4, fun _ => ⟨z_r15p q1 h1, q2⟩, r6, r7⟩
theorem ri_scrap (h : RI f) {b9 : Int32} : RI (if b9 = 0 then zfs (zfs f 14 p0) 3 5 else f) := by
  by_cases hb : b9 = 0
  · rw [if_pos hb]
    obtain ⟨r1, r2, r3, r4, r5, r6, r7⟩ := h
    exact ⟨r1, r2, r3, r4, fun h => absurd (show (5 : Int32) = 4 from h) (by decide), fun h => absurd (show (5 : Int32) = 3 from h) (by decide), fun h => absurd rfl h⟩
  · rw [if_neg hb]; exact h
theorem ri_back (h : RI f) (hc : cd_back td g f = 0) : RI (zfs f 3 6) := by
  obtain ⟨r1, r2, r3, r4, r5, r6, r7⟩ := h
  unfold cd_back at hc
  by_cases hq : f 3 = 3 ∧ f 5 = 0 ∧ f 6 = 0 ∧ f 8 ≤ 2 ∧ td ≤ g 3
  · exact ⟨r1, r2, r3, r4, fun h => absurd (show (6 : Int32) = 4 from h) (by decide), fun h => absurd (show (6 : Int32) = 3 from h) (by decide), fun _ => r7 (fun h5 => absurd (hq.1.symm.trans h5) (by decide))⟩
  · rw [if_neg hq] at hc; exact absurd hc (by decide)
theorem ri_missing (h : RI f) : RI (zfs f 12 p0) := h
theorem ri_refund (h : RI f) {v : Int32} : RI (zfs f 13 v) := h
theorem ri_new {why st : Int32} (hs : st = 0 ∨ st = 1) : RI (zrt why st td) := ⟨Or.inl rfl, Or.inl rfl, Or.inl rfl, ⟨0, by decide, rfl⟩, fun h => by
  have h' : st = 4 := h
  rcases hs with rfl | rfl <;> exact absurd h' (by decide), fun h => by
  have h' : st = 3 := h
  rcases hs with rfl | rfl <;> exact absurd h' (by decide), fun _ => rfl⟩
end J0
theorem Iv.sale {n k : Nat} {S : Nat → Nat → Int32} {I : Nat → Nat} {F : Nat → Nat → Int32} {c0 p0 l0 td : Int32} (h : Iv n k S I F) : Iv (n + 1) k (zfr S n (zsl c0 p0 l0 td)) I F := by
  obtain ⟨h1, h2, h3⟩ := h
  refine ⟨h1, fun i hi => ?_, fun j hj => Nat.lt_succ_of_lt (h3 j hj)⟩
  by_cases e : i = n
  · subst e
    rw [zfr_at]
    exact ⟨fun _ j hj => Nat.ne_of_lt (h3 j hj), fun _ => rfl⟩
  · rw [zfr_ne e]
    exact h2 i (by omega)
theorem Iv.comes {n k i : Nat} {S : Nat → Nat → Int32} {I : Nat → Nat} {F : Nat → Nat → Int32} {f : Nat → Int32} (h : Iv n k S I F) (hi : i < n) (hf : RI f) : Iv n (k + 1) (zfr S i (zfs (S i) 5 1)) (zui I k i) (zfr F k f) := by
  obtain ⟨h1, h2, h3⟩ := h
  refine ⟨fun j hj => ?_, fun a ha => ?_, z_icom h3 hi⟩
  · by_cases e : j = k
    · subst e; rw [zfr_at]; exact hf
    · rw [zfr_ne e]; exact h1 j (by omega)
  · by_cases e : a = i
    · subst e
      rw [zfr_at]
      constructor
      · intro h9
        exact absurd (show (1 : Int32) = 0 from h9) (by decide)
      · intro h9
        exact absurd (zui_at I k a) (h9 k (by omega))
    · rw [zfr_ne e, h2 a ha]
      constructor
      · intro h9 j hj
        by_cases ej : j = k
        · subst ej; rw [zui_at]; exact fun q => e q.symm
        · rw [zui_ne ej]; exact h9 j (by omega)
      · intro h9 j hj
        have := h9 j (by omega)
        rw [zui_ne (by omega)] at this
        exact this
/-- the one that is used, or none -/
theorem z_ex (P : Prop) : ∃ b9 : Int32, (b9 = 1 ∧ P) ∨ (b9 = 0 ∧ ¬ P) := by
  by_cases h : P
  · exact ⟨1, Or.inl ⟨rfl, h⟩⟩
  · exact ⟨0, Or.inr ⟨rfl, h⟩⟩
theorem z_exc (k : Nat) (F : Nat → Nat → Int32) (v : Int32) : ∃ b9 : Int32, (b9 = 1 ∧ ∃ j, j < k ∧ F j 14 = v) ∨ (b9 = 0 ∧ ∀ j, j < k → ¬ F j 14 = v) := by
  obtain ⟨b9, h⟩ := z_ex (∃ j, j < k ∧ F j 14 = v)
  exact ⟨b9, h.imp id (fun h => ⟨h.1, fun j hj hv => h.2 ⟨j, hj, hv⟩⟩)⟩
theorem j_arrive (l : Launch) (hl9 : l.stackTraces = false) {D : va_G} {cS cR cJ cI cZ : ClassId} {lo tP x mo : Nat} (v : Int32) (p0 : Int32) {A : zA} {X : zM} (hY : YI x cS cR A X) (hV : JV A) : ∃ (cd9 : Nat) (v9 : Int32) (A9 : zA), cd9 ≤ 3 ∧ (cd9 = 0 → JV A9) ∧ z_C (z_G lo tP) D cls4 (zty cS cR cJ cI cZ) lo l y_RR_arrive w_RR_arrive zr1 [.ref x, .int v, .int p0] X (zT [E_NSE, E_IAE, E_ISE] cd9 none X (YI x cS cR A9)) ∧ ∀ (ad : Nat → Nat) (code0 : Int32) (X9 : zM), MJ mo ad cI cZ A code0 X9 → z_C (z_G lo tP) D cls4 (zty cS cR cJ cI cZ) lo l y_MO_arrive w_MO_arrive zrC [.ref mo, .int v, .int p0] X9 (zV mo ad cI cZ cd9 none none X9 A9 A) := by
  obtain ⟨n, k, td, S, I, F⟩ := A
  obtain ⟨sA, rA, sd, rd, hXI⟩ := hY
  have hkk : k ≤ 20 := hXI.2.2.2.2.2.2.2.1
  have hn20 : n ≤ 20 := hXI.2.2.2.2.2.2.1
  have hV : Iv n k S I F := hV
  by_cases hv : z_rg v 1 (nI k)
  · obtain ⟨j, hj, rfl⟩ := z_no1 hkk hv
    have hR := hV.1 j hj
    have hcl : cd_arrive (F j) p0 ≤ 3 := by
      unfold cd_arrive
      repeat' split
      all_goals decide
    exact ⟨cd_arrive (F j) p0, 0, ⟨n, k, td, S, I, zfr F j (zfs (zfs (F j) 4 p0) 3 2)⟩, hcl, fun hc => hV.row (ri_arrive hR hc), c_RR_arrive l hl9 p0 hXI hj, fun ad code0 X9 hM => c_MO_arrive l hl9 p0 hM hj⟩
  · exact ⟨1, 0, ⟨n, k, td, S, I, F⟩, by decide, fun _ => hV, c_RR_arrive_no l hl9 v p0 none _ hXI hv, fun ad code0 X9 hM => c_MO_arrive_no l hl9 v p0 none _ hM hv⟩
theorem j_quarantine (l : Launch) (hl9 : l.stackTraces = false) {D : va_G} {cS cR cJ cI cZ : ClassId} {lo tP x mo : Nat} (v : Int32) (p0 : Int32) (hb01 : p0 = 0 ∨ p0 = 1) {A : zA} {X : zM} (hY : YI x cS cR A X) (hV : JV A) : ∃ (cd9 : Nat) (v9 : Int32) (A9 : zA), cd9 ≤ 2 ∧ (cd9 = 0 → JV A9) ∧ z_C (z_G lo tP) D cls4 (zty cS cR cJ cI cZ) lo l y_RR_quarantine w_RR_quarantine zr1 [.ref x, .int v, .int p0] X (zT [E_NSE, E_ISE] cd9 none X (YI x cS cR A9)) ∧ ∀ (ad : Nat → Nat) (code0 : Int32) (X9 : zM), MJ mo ad cI cZ A code0 X9 → z_C (z_G lo tP) D cls4 (zty cS cR cJ cI cZ) lo l y_MO_quarantine w_MO_quarantine zrC [.ref mo, .int v, .int p0] X9 (zV mo ad cI cZ cd9 none none X9 A9 A) := by
  obtain ⟨n, k, td, S, I, F⟩ := A
  obtain ⟨sA, rA, sd, rd, hXI⟩ := hY
  have hkk : k ≤ 20 := hXI.2.2.2.2.2.2.2.1
  have hn20 : n ≤ 20 := hXI.2.2.2.2.2.2.1
  have hV : Iv n k S I F := hV
  by_cases hv : z_rg v 1 (nI k)
  · obtain ⟨j, hj, rfl⟩ := z_no1 hkk hv
    have hR := hV.1 j hj
    have hcl : cd_quarantine (F j) p0 ≤ 2 := by
      unfold cd_quarantine
      repeat' split
      all_goals decide
    exact ⟨cd_quarantine (F j) p0, 0, ⟨n, k, td, S, I, zfr F j (zfs (F j) 5 p0)⟩, hcl, fun hc => hV.row (ri_quarantine hR hb01), c_RR_quarantine l hl9 p0 hXI hj hb01, fun ad code0 X9 hM => c_MO_quarantine l hl9 p0 hM hj hb01⟩
  · exact ⟨1, 0, ⟨n, k, td, S, I, F⟩, by decide, fun _ => hV, c_RR_quarantine_no l hl9 v p0 none _ hXI hv, fun ad code0 X9 hM => c_MO_quarantine_no l hl9 v p0 none _ hM hv⟩
theorem j_grade (l : Launch) (hl9 : l.stackTraces = false) {D : va_G} {cS cR cJ cI cZ : ClassId} {lo tP x mo : Nat} (v : Int32) (p0 : Int32) {A : zA} {X : zM} (hY : YI x cS cR A X) (hV : JV A) : ∃ (cd9 : Nat) (v9 : Int32) (A9 : zA), cd9 ≤ 3 ∧ (cd9 = 0 → JV A9) ∧ z_C (z_G lo tP) D cls4 (zty cS cR cJ cI cZ) lo l y_RR_grade w_RR_grade zr1 [.ref x, .int v, .int p0] X (zT [E_NSE, E_IAE, E_ISE] cd9 (some (.int v9)) X (YI x cS cR A9)) ∧ ∀ (ad : Nat → Nat) (code0 : Int32) (X9 : zM), MJ mo ad cI cZ A code0 X9 → z_C (z_G lo tP) D cls4 (zty cS cR cJ cI cZ) lo l y_MO_grade w_MO_grade zrC [.ref mo, .int v, .int p0] X9 (zV mo ad cI cZ cd9 (some (.int v9)) (some (.int 0)) X9 A9 A) := by
  obtain ⟨n, k, td, S, I, F⟩ := A
  obtain ⟨sA, rA, sd, rd, hXI⟩ := hY
  have hkk : k ≤ 20 := hXI.2.2.2.2.2.2.2.1
  have hn20 : n ≤ 20 := hXI.2.2.2.2.2.2.1
  have hV : Iv n k S I F := hV
  by_cases hv : z_rg v 1 (nI k)
  · obtain ⟨j, hj, rfl⟩ := z_no1 hkk hv
    have hR := hV.1 j hj
    have hcl : cd_grade (F j) p0 ≤ 3 := by
      unfold cd_grade
      repeat' split
      all_goals decide
    exact ⟨cd_grade (F j) p0, F j 8, ⟨n, k, td, S, I, zfr F j (zfs (z_tg (F j) p0) 3 3)⟩, hcl, fun hc => hV.row (ri_grade hR hc), c_RR_grade l hl9 p0 hXI hj, fun ad code0 X9 hM => c_MO_grade l hl9 p0 hM hj⟩
  · exact ⟨1, 0, ⟨n, k, td, S, I, F⟩, by decide, fun _ => hV, c_RR_grade_no l hl9 v p0 (some (.int 0)) _ hXI hv, fun ad code0 X9 hM => c_MO_grade_no l hl9 v p0 (some (.int 0)) _ hM hv⟩
theorem j_repair (l : Launch) (hl9 : l.stackTraces = false) {D : va_G} {cS cR cJ cI cZ : ClassId} {lo tP x mo : Nat} (v : Int32) (p0 : Int32) {A : zA} {X : zM} (hY : YI x cS cR A X) (hV : JV A) : ∃ (cd9 : Nat) (v9 : Int32) (A9 : zA), cd9 ≤ 3 ∧ (cd9 = 0 → JV A9) ∧ z_C (z_G lo tP) D cls4 (zty cS cR cJ cI cZ) lo l y_RR_repair w_RR_repair zr1 [.ref x, .int v, .int p0] X (zT [E_NSE, E_IAE, E_ISE] cd9 none X (YI x cS cR A9)) ∧ ∀ (ad : Nat → Nat) (code0 : Int32) (X9 : zM), MJ mo ad cI cZ A code0 X9 → z_C (z_G lo tP) D cls4 (zty cS cR cJ cI cZ) lo l y_MO_repair w_MO_repair zrC [.ref mo, .int v, .int p0] X9 (zV mo ad cI cZ cd9 none none X9 A9 A) := by
  obtain ⟨n, k, td, S, I, F⟩ := A
  obtain ⟨sA, rA, sd, rd, hXI⟩ := hY
  have hkk : k ≤ 20 := hXI.2.2.2.2.2.2.2.1
  have hn20 : n ≤ 20 := hXI.2.2.2.2.2.2.1
  have hV : Iv n k S I F := hV
  by_cases hv : z_rg v 1 (nI k)
  · obtain ⟨j, hj, rfl⟩ := z_no1 hkk hv
    have hR := hV.1 j hj
    have hcl : cd_repair (F j) p0 ≤ 3 := by
      unfold cd_repair
      repeat' split
      all_goals decide
    exact ⟨cd_repair (F j) p0, 0, ⟨n, k, td, S, I, zfr F j (zfs (zfs (F j) 11 p0) 3 4)⟩, hcl, fun hc => hV.row (ri_repair hR hc), c_RR_repair l hl9 p0 hXI hj, fun ad code0 X9 hM => c_MO_repair l hl9 p0 hM hj⟩
  · exact ⟨1, 0, ⟨n, k, td, S, I, F⟩, by decide, fun _ => hV, c_RR_repair_no l hl9 v p0 none _ hXI hv, fun ad code0 X9 hM => c_MO_repair_no l hl9 v p0 none _ hM hv⟩
theorem j_step (l : Launch) (hl9 : l.stackTraces = false) {D : va_G} {cS cR cJ cI cZ : ClassId} {lo tP x mo : Nat} (v : Int32) (p0 : Int32) {A : zA} {X : zM} (hY : YI x cS cR A X) (hV : JV A) : ∃ (cd9 : Nat) (v9 : Int32) (A9 : zA), cd9 ≤ 2 ∧ (cd9 = 0 → JV A9) ∧ z_C (z_G lo tP) D cls4 (zty cS cR cJ cI cZ) lo l y_RR_step w_RR_step zr1 [.ref x, .int v, .int p0] X (zT [E_NSE, E_ISE] cd9 (some (.int v9)) X (YI x cS cR A9)) ∧ ∀ (ad : Nat → Nat) (code0 : Int32) (X9 : zM), MJ mo ad cI cZ A code0 X9 → z_C (z_G lo tP) D cls4 (zty cS cR cJ cI cZ) lo l y_MO_step w_MO_step zrC [.ref mo, .int v, .int p0] X9 (zV mo ad cI cZ cd9 (some (.int v9)) (some (.int 0)) X9 A9 A) := by
  obtain ⟨n, k, td, S, I, F⟩ := A
  obtain ⟨sA, rA, sd, rd, hXI⟩ := hY
  have hkk : k ≤ 20 := hXI.2.2.2.2.2.2.2.1
  have hn20 : n ≤ 20 := hXI.2.2.2.2.2.2.1
  have hV : Iv n k S I F := hV
  by_cases hv : z_rg v 1 (nI k)
  · obtain ⟨j, hj, rfl⟩ := z_no1 hkk hv
    have hR := hV.1 j hj
    have hcl : cd_step (F j) ≤ 2 := by
      unfold cd_step
      repeat' split
      all_goals decide
    exact ⟨cd_step (F j), an_steps (F j) p0, ⟨n, k, td, S, I, zfr F j (up_step (F j) p0)⟩, hcl, fun hc => hV.row (ri_step hR hc), c_RR_step l hl9 p0 hXI hj, fun ad code0 X9 hM => c_MO_step l hl9 p0 hM hj (fun h => (hR.2.2.2.2.1 h).1)⟩
  · exact ⟨1, 0, ⟨n, k, td, S, I, F⟩, by decide, fun _ => hV, c_RR_step_no l hl9 v p0 (some (.int 0)) _ hXI hv, fun ad code0 X9 hM => c_MO_step_no l hl9 v p0 (some (.int 0)) _ hM hv⟩
theorem j_scrap (l : Launch) (hl9 : l.stackTraces = false) {D : va_G} {cS cR cJ cI cZ : ClassId} {lo tP x mo : Nat} (v : Int32) (p0 : Int32) {A : zA} {X : zM} (hY : YI x cS cR A X) (hV : JV A) : ∃ (cd9 : Nat) (v9 : Int32) (A9 : zA), cd9 ≤ 3 ∧ (cd9 = 0 → JV A9) ∧ (v9 = 0 ∨ v9 = 1) ∧ z_C (z_G lo tP) D cls4 (zty cS cR cJ cI cZ) lo l y_RR_scrap w_RR_scrap zr1 [.ref x, .int v, .int p0] X (zT [E_NSE, E_IAE, E_ISE] cd9 (some (.int v9)) X (YI x cS cR A9)) ∧ ∀ (ad : Nat → Nat) (code0 : Int32) (X9 : zM), MJ mo ad cI cZ A code0 X9 → z_C (z_G lo tP) D cls4 (zty cS cR cJ cI cZ) lo l y_MO_scrap w_MO_scrap zrC [.ref mo, .int v, .int p0] X9 (zV mo ad cI cZ cd9 (some (.int v9)) (some (.int 0)) X9 A9 A) := by
  obtain ⟨n, k, td, S, I, F⟩ := A
  obtain ⟨sA, rA, sd, rd, hXI⟩ := hY
  have hkk : k ≤ 20 := hXI.2.2.2.2.2.2.2.1
  have hn20 : n ≤ 20 := hXI.2.2.2.2.2.2.1
  have hV : Iv n k S I F := hV
  by_cases hv : z_rg v 1 (nI k)
  · obtain ⟨j, hj, rfl⟩ := z_no1 hkk hv
    have hR := hV.1 j hj
    obtain ⟨b9, hbv⟩ := z_exc k F p0
    have hcl : cd_scrap (F j) p0 ≤ 3 := by
      unfold cd_scrap
      repeat' split
      all_goals decide
    exact ⟨cd_scrap (F j) p0, (if b9 = 0 then 1 else 0), ⟨n, k, td, S, I, zfr F j (if b9 = 0 then zfs (zfs (F j) 14 p0) 3 5 else F j)⟩, hcl, fun hc => hV.row (ri_scrap hR), (by split; exact Or.inr rfl; exact Or.inl rfl), c_RR_scrap l hl9 p0 b9 hXI hj hbv, fun ad code0 X9 hM => c_MO_scrap l hl9 p0 b9 hM hj hR.2.2.2.2.2.2 hbv⟩
  · exact ⟨1, 0, ⟨n, k, td, S, I, F⟩, by decide, fun _ => hV, Or.inl rfl, c_RR_scrap_no l hl9 v p0 0 (some (.int 0)) _ hXI hv, fun ad code0 X9 hM => c_MO_scrap_no l hl9 v p0 0 (some (.int 0)) _ hM hv⟩
theorem j_back (l : Launch) (hl9 : l.stackTraces = false) {D : va_G} {cS cR cJ cI cZ : ClassId} {lo tP x mo : Nat} (v : Int32) {A : zA} {X : zM} (hY : YI x cS cR A X) (hV : JV A) : ∃ (cd9 : Nat) (v9 : Int32) (A9 : zA), cd9 ≤ 2 ∧ (cd9 = 0 → JV A9) ∧ z_C (z_G lo tP) D cls4 (zty cS cR cJ cI cZ) lo l y_RR_back w_RR_back zr1 [.ref x, .int v] X (zT [E_NSE, E_ISE] cd9 (some (.int v9)) X (YI x cS cR A9)) ∧ ∀ (ad : Nat → Nat) (code0 : Int32) (X9 : zM), MJ mo ad cI cZ A code0 X9 → z_C (z_G lo tP) D cls4 (zty cS cR cJ cI cZ) lo l y_MO_back w_MO_back zrC [.ref mo, .int v] X9 (zV mo ad cI cZ cd9 (some (.int v9)) (some (.int 0)) X9 A9 A) := by
  obtain ⟨n, k, td, S, I, F⟩ := A
  obtain ⟨sA, rA, sd, rd, hXI⟩ := hY
  have hkk : k ≤ 20 := hXI.2.2.2.2.2.2.2.1
  have hn20 : n ≤ 20 := hXI.2.2.2.2.2.2.1
  have hV : Iv n k S I F := hV
  by_cases hv : z_rg v 1 (nI k)
  · obtain ⟨j, hj, rfl⟩ := z_no1 hkk hv
    have hR := hV.1 j hj
    have hcl : cd_back td (S (I j)) (F j) ≤ 2 := by
      unfold cd_back
      repeat' split
      all_goals decide
    exact ⟨cd_back td (S (I j)) (F j), an_back k (zfr F j (zfs (F j) 3 6)) (F j 8), ⟨n, k, td, S, I, zfr F j (zfs (F j) 3 6)⟩, hcl, fun hc => hV.row (ri_back hR hc), c_RR_back l hl9 hXI hj, fun ad code0 X9 hM => c_MO_back l hl9 hM hj⟩
  · exact ⟨1, 0, ⟨n, k, td, S, I, F⟩, by decide, fun _ => hV, c_RR_back_no l hl9 v (some (.int 0)) _ hXI hv, fun ad code0 X9 hM => c_MO_back_no l hl9 v (some (.int 0)) _ hM hv⟩
theorem j_missing (l : Launch) (hl9 : l.stackTraces = false) {D : va_G} {cS cR cJ cI cZ : ClassId} {lo tP x mo : Nat} (v : Int32) (p0 : Int32) {A : zA} {X : zM} (hY : YI x cS cR A X) (hV : JV A) : ∃ (cd9 : Nat) (v9 : Int32) (A9 : zA), cd9 ≤ 3 ∧ (cd9 = 0 → JV A9) ∧ z_C (z_G lo tP) D cls4 (zty cS cR cJ cI cZ) lo l y_RR_missing w_RR_missing zr1 [.ref x, .int v, .int p0] X (zT [E_NSE, E_IAE, E_ISE] cd9 none X (YI x cS cR A9)) ∧ ∀ (ad : Nat → Nat) (code0 : Int32) (X9 : zM), MJ mo ad cI cZ A code0 X9 → z_C (z_G lo tP) D cls4 (zty cS cR cJ cI cZ) lo l y_MO_missing w_MO_missing zrC [.ref mo, .int v, .int p0] X9 (zV mo ad cI cZ cd9 none none X9 A9 A) := by
  obtain ⟨n, k, td, S, I, F⟩ := A
  obtain ⟨sA, rA, sd, rd, hXI⟩ := hY
  have hkk : k ≤ 20 := hXI.2.2.2.2.2.2.2.1
  have hn20 : n ≤ 20 := hXI.2.2.2.2.2.2.1
  have hV : Iv n k S I F := hV
  by_cases hv : z_rg v 1 (nI k)
  · obtain ⟨j, hj, rfl⟩ := z_no1 hkk hv
    have hR := hV.1 j hj
    have hcl : cd_missing (F j) p0 ≤ 3 := by
      unfold cd_missing
      repeat' split
      all_goals decide
    exact ⟨cd_missing (F j) p0, 0, ⟨n, k, td, S, I, zfr F j (zfs (F j) 12 p0)⟩, hcl, fun hc => hV.row (ri_missing hR), c_RR_missing l hl9 p0 hXI hj, fun ad code0 X9 hM => c_MO_missing l hl9 p0 hM hj⟩
  · exact ⟨1, 0, ⟨n, k, td, S, I, F⟩, by decide, fun _ => hV, c_RR_missing_no l hl9 v p0 none _ hXI hv, fun ad code0 X9 hM => c_MO_missing_no l hl9 v p0 none _ hM hv⟩
theorem j_refund (l : Launch) (hl9 : l.stackTraces = false) {D : va_G} {cS cR cJ cI cZ : ClassId} {lo tP x mo : Nat} (v : Int32) (p0 : Int32) {A : zA} {X : zM} (hY : YI x cS cR A X) (hV : JV A) : ∃ (cd9 : Nat) (v9 : Int32) (A9 : zA), cd9 ≤ 3 ∧ (cd9 = 0 → JV A9) ∧ z_C (z_G lo tP) D cls4 (zty cS cR cJ cI cZ) lo l y_RR_refund w_RR_refund zr1 [.ref x, .int v, .int p0] X (zT [E_NSE, E_IAE, E_ISE] cd9 (some (.int v9)) X (YI x cS cR A9)) ∧ ∀ (ad : Nat → Nat) (code0 : Int32) (X9 : zM), MJ mo ad cI cZ A code0 X9 → z_C (z_G lo tP) D cls4 (zty cS cR cJ cI cZ) lo l y_MO_refund w_MO_refund zrC [.ref mo, .int v, .int p0] X9 (zV mo ad cI cZ cd9 (some (.int v9)) (some (.int 0)) X9 A9 A) := by
  obtain ⟨n, k, td, S, I, F⟩ := A
  obtain ⟨sA, rA, sd, rd, hXI⟩ := hY
  have hkk : k ≤ 20 := hXI.2.2.2.2.2.2.2.1
  have hn20 : n ≤ 20 := hXI.2.2.2.2.2.2.1
  have hV : Iv n k S I F := hV
  by_cases hv : z_rg v 1 (nI k)
  · obtain ⟨j, hj, rfl⟩ := z_no1 hkk hv
    have hR := hV.1 j hj
    have hcl : cd_refund (S (I j)) (F j) p0 ≤ 3 := by
      unfold cd_refund
      repeat' split
      all_goals decide
    exact ⟨cd_refund (S (I j)) (F j) p0, z_due (S (I j)) (F j) - F j 13 - p0, ⟨n, k, td, S, I, zfr F j (zfs (F j) 13 (F j 13 + p0))⟩, hcl, fun hc => hV.row (ri_refund hR), c_RR_refund l hl9 p0 hXI hj, fun ad code0 X9 hM => c_MO_refund l hl9 p0 hM hj hR.1⟩
  · exact ⟨1, 0, ⟨n, k, td, S, I, F⟩, by decide, fun _ => hV, c_RR_refund_no l hl9 v p0 (some (.int 0)) _ hXI hv, fun ad code0 X9 hM => c_MO_refund_no l hl9 v p0 (some (.int 0)) _ hM hv⟩
theorem z_bcs {f : Nat → Int32} {p0 p1 : Int32} (h : ∃ q, q < 32 ∧ an_check f p0 p1 = nI q) : z_bits (an_check f p0 p1) = z_bc (an_check f p0 p1) := by
  obtain ⟨q, hq, e⟩ := h
  rw [e, z_bc32 q hq]
theorem z_C_imp {G : State → Prop} {D : va_G} {cl : List vw_C} {tys : List (ClassId × FieldType)} {lo : Nat} {l : Launch} {y : MethodName} {w : Cond} {rm : Room} {av : List Value} {X : zM} {P P1 : zR → zM → Prop} (h : z_C G D cl tys lo l y w rm av X P) (hP : ∀ r X9, P r X9 → P1 r X9) : z_C G D cl tys lo l y w rm av X P1 := by
  intro p e ha hc1 hc2 s m args below hf hs hp hk
  obtain ⟨n, o, h1, h2, h3, ⟨r, X9, g0, g⟩, L, hfe, hL⟩ := h p e ha hc1 hc2 s m args below hf hs hp hk
  exact ⟨n, o, h1, h2, h3, ⟨r, X9, hP r X9 g0, g⟩, L, hfe, hL⟩
theorem z_chk0 {f : Nat → Int32} {p0 : Int32} (hc : cd_check f p0 = 0) : z_rg p0 0 4 := by
  by_cases hp : z_rg p0 0 4
  · exact hp
  · unfold cd_check at hc; rw [if_neg hp] at hc; exact absurd hc (by decide)
theorem j_check (l : Launch) (hl9 : l.stackTraces = false) {D : va_G} {cS cR cJ cI cZ : ClassId} {lo tP x mo : Nat} (v : Int32) (p0 : Int32) (p1 : Int32) {A : zA} {X : zM} (hY : YI x cS cR A X) (hV : JV A) : ∃ (cd9 : Nat) (v9 : Int32) (A9 : zA), cd9 ≤ 3 ∧ (cd9 = 0 → JV A9) ∧ z_C (z_G lo tP) D cls4 (zty cS cR cJ cI cZ) lo l y_RR_check w_RR_check zr1 [.ref x, .int v, .int p0, .int p1] X (zT [E_NSE, E_IAE, E_ISE] cd9 (some (.int v9)) X (YI x cS cR A9)) ∧ ∀ (ad : Nat → Nat) (code0 : Int32) (X9 : zM), MJ mo ad cI cZ A code0 X9 → z_C (z_G lo tP) D cls4 (zty cS cR cJ cI cZ) lo l y_MO_check w_MO_check zrC [.ref mo, .int v, .int p0, .int p1] X9 (zV mo ad cI cZ cd9 (some (.int v9)) (some (.int 0)) X9 A9 A) := by
  obtain ⟨n, k, td, S, I, F⟩ := A
  obtain ⟨sA, rA, sd, rd, hXI⟩ := hY
  have hkk : k ≤ 20 := hXI.2.2.2.2.2.2.2.1
  have hn20 : n ≤ 20 := hXI.2.2.2.2.2.2.1
  have hV : Iv n k S I F := hV
  by_cases hv : z_rg v 1 (nI k)
  · obtain ⟨j, hj, rfl⟩ := z_no1 hkk hv
    have hR := hV.1 j hj
    have hcl : cd_check (F j) p0 ≤ 3 := by
      unfold cd_check
      repeat' split
      all_goals decide
    exact ⟨cd_check (F j) p0, z_bc (an_check (F j) p0 p1), ⟨n, k, td, S, I, zfr F j (zfs (F j) 7 (an_check (F j) p0 p1))⟩, hcl, fun hc => hV.row (ri_check hR hc), c_RR_check l hl9 p0 p1 hXI hj, fun ad code0 X9 hM => z_C_imp (c_MO_check l hl9 p0 p1 hM hj) (fun r X1 h => ⟨h.1, fun h0 => by rw [← z_bcs (z_chk hR.2.2.2.1 (z_chk0 h0))]; exact h.2.1 h0, h.2.2⟩)⟩
  · exact ⟨1, 0, ⟨n, k, td, S, I, F⟩, by decide, fun _ => hV, c_RR_check_no l hl9 v p0 p1 (some (.int 0)) _ hXI hv, fun ad code0 X9 hM => c_MO_check_no l hl9 v p0 p1 (some (.int 0)) _ hM hv⟩
theorem j_due (l : Launch) (hl9 : l.stackTraces = false) {D : va_G} {cS cR cJ cI cZ : ClassId} {lo tP x mo : Nat} (v : Int32) {A : zA} {X : zM} (hY : YI x cS cR A X) (hV : JV A) : ∃ (cd9 : Nat) (v9 : Int32) (A9 : zA), cd9 ≤ 1 ∧ (cd9 = 0 → JV A9) ∧ z_C (z_G lo tP) D cls4 (zty cS cR cJ cI cZ) lo l y_RR_due w_RR_due zr1 [.ref x, .int v] X (zT [E_NSE] cd9 (some (.int v9)) X (YI x cS cR A9)) ∧ ∀ (ad : Nat → Nat) (code0 : Int32) (X9 : zM), MJ mo ad cI cZ A code0 X9 → z_C (z_G lo tP) D cls4 (zty cS cR cJ cI cZ) lo l y_MO_due w_MO_due zrC [.ref mo, .int v] X9 (zV mo ad cI cZ cd9 (some (.int v9)) (some (.int 0)) X9 A9 A) := by
  obtain ⟨n, k, td, S, I, F⟩ := A
  obtain ⟨sA, rA, sd, rd, hXI⟩ := hY
  have hkk : k ≤ 20 := hXI.2.2.2.2.2.2.2.1
  have hn20 : n ≤ 20 := hXI.2.2.2.2.2.2.1
  have hV : Iv n k S I F := hV
  by_cases hv : z_rg v 1 (nI k)
  · obtain ⟨j, hj, rfl⟩ := z_no1 hkk hv
    have hR := hV.1 j hj
    have hcl : 0 ≤ 1 := by
      decide
    exact ⟨0, z_due (S (I j)) (F j), ⟨n, k, td, S, I, F⟩, hcl, fun _ => hV, z_PC (c_RR_due l hl9 hXI hj) ⟨sA, rA, sd, rd, hXI⟩, fun ad code0 X9 hM => c_MO_due l hl9 hM hj hR.1⟩
  · exact ⟨1, 0, ⟨n, k, td, S, I, F⟩, by decide, fun _ => hV, z_PC (c_RR_due_no l hl9 v (some (.int 0)) hXI hv) ⟨sA, rA, sd, rd, hXI⟩, fun ad code0 X9 hM => c_MO_due_no l hl9 v (some (.int 0)) _ hM hv⟩
theorem j_told (l : Launch) (hl9 : l.stackTraces = false) {D : va_G} {cS cR cJ cI cZ : ClassId} {lo tP x mo : Nat} (v : Int32) (p0 : Int32) {A : zA} {X : zM} (hY : YI x cS cR A X) (hV : JV A) : ∃ (cd9 : Nat) (v9 : Int32) (A9 : zA), cd9 ≤ 2 ∧ (cd9 = 0 → JV A9) ∧ z_C (z_G lo tP) D cls4 (zty cS cR cJ cI cZ) lo l y_RR_told w_RR_told zr1 [.ref x, .int v, .int p0] X (zT [E_NSE, E_IAE] cd9 (some (.int v9)) X (YI x cS cR A9)) ∧ ∀ (ad : Nat → Nat) (code0 : Int32) (X9 : zM), MJ mo ad cI cZ A code0 X9 → z_C (z_G lo tP) D cls4 (zty cS cR cJ cI cZ) lo l y_MO_told w_MO_told zrC [.ref mo, .int v, .int p0] X9 (zV mo ad cI cZ cd9 (some (.int v9)) (some (.int 0)) X9 A9 A) := by
  obtain ⟨n, k, td, S, I, F⟩ := A
  obtain ⟨sA, rA, sd, rd, hXI⟩ := hY
  have hkk : k ≤ 20 := hXI.2.2.2.2.2.2.2.1
  have hn20 : n ≤ 20 := hXI.2.2.2.2.2.2.1
  have hV : Iv n k S I F := hV
  by_cases hv : z_rg v 1 (nI k)
  · obtain ⟨j, hj, rfl⟩ := z_no1 hkk hv
    have hR := hV.1 j hj
    have hcl : cd_told p0 ≤ 2 := by
      unfold cd_told
      repeat' split
      all_goals decide
    exact ⟨cd_told p0, an_told (I j) (F j) p0, ⟨n, k, td, S, I, F⟩, hcl, fun _ => hV, z_PC (c_RR_told l hl9 p0 hXI hj) ⟨sA, rA, sd, rd, hXI⟩, fun ad code0 X9 hM => c_MO_told l hl9 p0 hM hj⟩
  · exact ⟨1, 0, ⟨n, k, td, S, I, F⟩, by decide, fun _ => hV, z_PC (c_RR_told_no l hl9 v p0 (some (.int 0)) hXI hv) ⟨sA, rA, sd, rd, hXI⟩, fun ad code0 X9 hM => c_MO_told_no l hl9 v p0 (some (.int 0)) _ hM hv⟩
theorem j_reason (l : Launch) (hl9 : l.stackTraces = false) {D : va_G} {cS cR cJ cI cZ : ClassId} {lo tP x mo : Nat} (p0 : Int32) (p1 : Int32) {A : zA} {X : zM} (hY : YI x cS cR A X) (hV : JV A) : ∃ (cd9 : Nat) (v9 : Int32) (A9 : zA), cd9 ≤ 1 ∧ (cd9 = 0 → JV A9) ∧ z_C (z_G lo tP) D cls4 (zty cS cR cJ cI cZ) lo l y_RR_reason w_RR_reason zr1 [.ref x, .int p0, .int p1] X (zT [E_IAE] cd9 (some (.int v9)) X (YI x cS cR A9)) ∧ ∀ (ad : Nat → Nat) (code0 : Int32) (X9 : zM), MJ mo ad cI cZ A code0 X9 → z_C (z_G lo tP) D cls4 (zty cS cR cJ cI cZ) lo l y_MO_reason w_MO_reason zrC [.ref mo, .int p0, .int p1] X9 (zV mo ad cI cZ cd9 (some (.int v9)) (some (.int 0)) X9 A9 A) := by
  obtain ⟨n, k, td, S, I, F⟩ := A
  obtain ⟨sA, rA, sd, rd, hXI⟩ := hY
  have hkk : k ≤ 20 := hXI.2.2.2.2.2.2.2.1
  have hn20 : n ≤ 20 := hXI.2.2.2.2.2.2.1
  have hV : Iv n k S I F := hV
  have hcl : cd_reason p0 p1 ≤ 1 := by
    unfold cd_reason
    repeat' split
    all_goals decide
  exact ⟨cd_reason p0 p1, an_reason k S I F p0 p1, ⟨n, k, td, S, I, F⟩, hcl, fun _ => hV, z_PC (c_RR_reason l hl9 p0 p1 hXI) ⟨sA, rA, sd, rd, hXI⟩, fun ad code0 X9 hM => c_MO_reason l hl9 p0 p1 hM⟩
theorem j_customer (l : Launch) (hl9 : l.stackTraces = false) {D : va_G} {cS cR cJ cI cZ : ClassId} {lo tP x mo : Nat} (p0 : Int32) (p1 : Int32) {A : zA} {X : zM} (hY : YI x cS cR A X) (hV : JV A) : ∃ (cd9 : Nat) (v9 : Int32) (A9 : zA), cd9 ≤ 1 ∧ (cd9 = 0 → JV A9) ∧ z_C (z_G lo tP) D cls4 (zty cS cR cJ cI cZ) lo l y_RR_customer w_RR_customer zr1 [.ref x, .int p0, .int p1] X (zT [E_IAE] cd9 (some (.int v9)) X (YI x cS cR A9)) ∧ ∀ (ad : Nat → Nat) (code0 : Int32) (X9 : zM), MJ mo ad cI cZ A code0 X9 → z_C (z_G lo tP) D cls4 (zty cS cR cJ cI cZ) lo l y_MO_customer w_MO_customer zrC [.ref mo, .int p0, .int p1] X9 (zV mo ad cI cZ cd9 (some (.int v9)) (some (.int 0)) X9 A9 A) := by
  obtain ⟨n, k, td, S, I, F⟩ := A
  obtain ⟨sA, rA, sd, rd, hXI⟩ := hY
  have hkk : k ≤ 20 := hXI.2.2.2.2.2.2.2.1
  have hn20 : n ≤ 20 := hXI.2.2.2.2.2.2.1
  have hV : Iv n k S I F := hV
  have hcl : cd_customer p0 p1 ≤ 1 := by
    unfold cd_customer
    repeat' split
    all_goals decide
  exact ⟨cd_customer p0 p1, an_customer n k td S I F p0 p1, ⟨n, k, td, S, I, F⟩, hcl, fun _ => hV, z_PC (c_RR_customer l hl9 p0 p1 hXI) ⟨sA, rA, sd, rd, hXI⟩, fun ad code0 X9 hM => c_MO_customer l hl9 p0 p1 hM (fun j hj => (hV.1 j hj).2.2.1)⟩
theorem j_day (l : Launch) (hl9 : l.stackTraces = false) {D : va_G} {cS cR cJ cI cZ : ClassId} {lo tP x mo : Nat} (p0 : Int32) {A : zA} {X : zM} (hY : YI x cS cR A X) (hV : JV A) : ∃ (cd9 : Nat) (v9 : Int32) (A9 : zA), cd9 ≤ 1 ∧ (cd9 = 0 → JV A9) ∧ z_C (z_G lo tP) D cls4 (zty cS cR cJ cI cZ) lo l y_RR_day w_RR_day zr1 [.ref x, .int p0] X (zT [E_IAE] cd9 none X (YI x cS cR A9)) ∧ ∀ (ad : Nat → Nat) (code0 : Int32) (X9 : zM), MJ mo ad cI cZ A code0 X9 → z_C (z_G lo tP) D cls4 (zty cS cR cJ cI cZ) lo l y_MO_day w_MO_day zrC [.ref mo, .int p0] X9 (zV mo ad cI cZ cd9 none none X9 A9 A) := by
  obtain ⟨n, k, td, S, I, F⟩ := A
  obtain ⟨sA, rA, sd, rd, hXI⟩ := hY
  have hkk : k ≤ 20 := hXI.2.2.2.2.2.2.2.1
  have hn20 : n ≤ 20 := hXI.2.2.2.2.2.2.1
  have hV : Iv n k S I F := hV
  have hcl : cd_day td p0 ≤ 1 := by
    unfold cd_day
    split <;> decide
  exact ⟨cd_day td p0, 0, ⟨n, k, p0, S, I, F⟩, hcl, fun _ => hV, c_RR_day l hl9 p0 hXI, fun ad code0 X9 hM => c_MO_day l hl9 p0 hM⟩
theorem j_sale (l : Launch) (hl9 : l.stackTraces = false) {D : va_G} {cS cR cJ cI cZ : ClassId} {lo tP x mo : Nat} (p0 : Int32) (p1 : Int32) (p2 : Int32) {A : zA} {X : zM} (hY : YI x cS cR A X) (hV : JV A) : ∃ (cd9 : Nat) (v9 : Int32) (A9 : zA), cd9 ≤ 2 ∧ (cd9 = 0 → JV A9) ∧ z_C (z_G lo tP) D cls4 (zty cS cR cJ cI cZ) lo l y_RR_sale w_RR_sale zr1 [.ref x, .int p0, .int p1, .int p2] X (zT [E_IAE, E_UOE] cd9 (some (.int v9)) X (YI x cS cR A9)) ∧ ∀ (ad : Nat → Nat) (code0 : Int32) (X9 : zM), MJ mo ad cI cZ A code0 X9 → z_C (z_G lo tP) D cls4 (zty cS cR cJ cI cZ) lo l y_MO_sale w_MO_sale zrC [.ref mo, .int p0, .int p1, .int p2] X9 (zV mo ad cI cZ cd9 (some (.int v9)) (some (.int 0)) X9 A9 A) := by
  obtain ⟨n, k, td, S, I, F⟩ := A
  obtain ⟨sA, rA, sd, rd, hXI⟩ := hY
  have hkk : k ≤ 20 := hXI.2.2.2.2.2.2.2.1
  have hn20 : n ≤ 20 := hXI.2.2.2.2.2.2.1
  have hV : Iv n k S I F := hV
  have hcl : cd_sale n p0 p1 p2 ≤ 2 := by
    unfold cd_sale
    repeat' split
    all_goals decide
  exact ⟨cd_sale n p0 p1 p2, nI n, ⟨n + 1, k, td, zfr S n (zsl p0 p1 p2 td), I, F⟩, hcl, fun _ => hV.sale, c_RR_sale l hl9 p0 p1 p2 hXI, fun ad code0 X9 hM => c_MO_sale l hl9 p0 p1 p2 hM⟩
theorem j_comes (l : Launch) (hl9 : l.stackTraces = false) {D : va_G} {cS cR cJ cI cZ : ClassId} {lo tP x mo : Nat} (v : Int32) (p0 : Int32) (p1 : Int32) {A : zA} {X : zM} (hY : YI x cS cR A X) (hV : JV A) : ∃ (cd9 : Nat) (v9 : Int32) (A9 : zA), cd9 ≤ 4 ∧ (cd9 = 0 → JV A9) ∧ z_C (z_G lo tP) D cls4 (zty cS cR cJ cI cZ) lo l y_RR_comes w_RR_comes zr1 [.ref x, .int v, .int p0, .int p1] X (zT [E_NSE, E_IAE, E_ISE, E_UOE] cd9 (some (.int v9)) X (YI x cS cR A9)) ∧ ∀ (ad : Nat → Nat) (code0 : Int32) (X9 : zM), MJ mo ad cI cZ A code0 X9 → z_C (z_G lo tP) D cls4 (zty cS cR cJ cI cZ) lo l y_MO_comes w_MO_comes zrC [.ref mo, .int v, .int p0, .int p1] X9 (zV mo ad cI cZ cd9 (some (.int v9)) (some (.int 0)) X9 A9 A) := by
  obtain ⟨n, k, td, S, I, F⟩ := A
  obtain ⟨sA, rA, sd, rd, hXI⟩ := hY
  have hkk : k ≤ 20 := hXI.2.2.2.2.2.2.2.1
  have hn20 : n ≤ 20 := hXI.2.2.2.2.2.2.1
  have hV : Iv n k S I F := hV
  by_cases hv : z_rs v n
  · obtain ⟨i, hi, rfl⟩ := z_no0 hn20 hv
    have hcl : cd_comes k (S i) p0 ≤ 4 := by
      unfold cd_comes
      repeat' split
      all_goals decide
    obtain ⟨b9, hb⟩ := z_ex (∃ j, j < k ∧ I j = i)
    have hbv : (b9 = 1 ∧ ∃ j, j < k ∧ I j = i) ∨ (b9 = 0 ∧ ∀ j, j < k → ¬ I j = i) := hb.imp id (fun h => ⟨h.1, fun j hj hv => h.2 ⟨j, hj, hv⟩⟩)
    have hb5 : b9 = 0 ↔ S i 5 = 0 := by
      rw [hV.2.1 i hi]
      rcases hbv with ⟨e1, j, hj, hij⟩ | ⟨e1, e2⟩
      · exact ⟨fun h => absurd (e1.symm.trans h) (by decide), fun h => absurd hij (h j hj)⟩
      · exact ⟨fun _ => e2, fun _ => e1⟩
    exact ⟨cd_comes k (S i) p0, nI k + 1, ⟨n, k + 1, td, zfr S i (zfs (S i) 5 1), zui I k i, zfr F k (zrt p0 (if p1 = 0 then 1 else 0) td)⟩, hcl, fun _ => hV.comes hi (ri_new (by split; exact Or.inr rfl; exact Or.inl rfl)), c_RR_comes l hl9 p0 p1 hXI hi, fun ad code0 X9 hM => c_MO_comes l hl9 p0 p1 b9 hM hi hb5 hbv⟩
  · exact ⟨1, 0, ⟨n, k, td, S, I, F⟩, by decide, fun _ => hV, c_RR_comes_no l hl9 v p0 p1 (some (.int 0)) _ hXI hv, fun ad code0 X9 hM => c_MO_comes_no l hl9 v p0 p1 (some (.int 0)) _ hM hv⟩
theorem j_serial (l : Launch) (hl9 : l.stackTraces = false) {D : va_G} {cS cR cJ cI cZ : ClassId} {lo tP x mo : Nat} (v : Int32) (p0 : Int32) {A : zA} {X : zM} (hY : YI x cS cR A X) (hV : JV A) : ∃ (cd9 : Nat) (v9 : Int32) (A9 : zA), cd9 ≤ 2 ∧ (cd9 = 0 → JV A9) ∧ z_C (z_G lo tP) D cls4 (zty cS cR cJ cI cZ) lo l y_RR_serial w_RR_serial zr1 [.ref x, .int v, .int p0] X (zT [E_NSE, E_ISE] cd9 (some (.int v9)) X (YI x cS cR A9)) ∧ ∀ (ad : Nat → Nat) (code0 : Int32) (X9 : zM), MJ mo ad cI cZ A code0 X9 → z_C (z_G lo tP) D cls4 (zty cS cR cJ cI cZ) lo l y_MO_serial w_MO_serial zrC [.ref mo, .int v, .int p0] X9 (zV mo ad cI cZ cd9 (some (.int v9)) (some (.int 0)) X9 A9 A) := by
  obtain ⟨n, k, td, S, I, F⟩ := A
  obtain ⟨sA, rA, sd, rd, hXI⟩ := hY
  have hkk : k ≤ 20 := hXI.2.2.2.2.2.2.2.1
  have hn20 : n ≤ 20 := hXI.2.2.2.2.2.2.1
  have hV : Iv n k S I F := hV
  by_cases hv : z_rg v 1 (nI k)
  · obtain ⟨j, hj, rfl⟩ := z_no1 hkk hv
    have hR := hV.1 j hj
    by_cases hs : z_rs p0 n
    · obtain ⟨i, hi, rfl⟩ := z_no0 hn20 hs
      have hcl : cd_serial (F j) ≤ 2 := by
        unfold cd_serial
        split <;> decide
      exact ⟨cd_serial (F j), an_serial (nI i) (nI (I j)), ⟨n, k, td, S, I, zfr F j (zfs (F j) 6 (if nI i = nI (I j) then 0 else 1))⟩, hcl, fun hc => hV.row (ri_serial hR (by split; exact Or.inl rfl; exact Or.inr rfl)), c_RR_serial l hl9 hXI hj hi, fun ad code0 X9 hM => c_MO_serial l hl9 hM hj hi⟩
    · exact ⟨1, 0, ⟨n, k, td, S, I, F⟩, by decide, fun _ => hV, c_RR_serial_no2 l hl9 p0 (some (.int 0)) _ hXI hj hs, fun ad code0 X9 hM => c_MO_serial_no2 l hl9 p0 (some (.int 0)) _ hM hj hs⟩
  · exact ⟨1, 0, ⟨n, k, td, S, I, F⟩, by decide, fun _ => hV, c_RR_serial_no l hl9 v p0 (some (.int 0)) _ hXI hv, fun ad code0 X9 hM => c_MO_serial_no l hl9 v p0 (some (.int 0)) _ hM hv⟩
