theorem z_cs4 {v : Int32} (h : z_rg v 0 4) : v = 0 ∨ v = 1 ∨ v = 2 ∨ v = 3 ∨ v = 4 := by
  obtain ⟨j, hj, rfl⟩ := nI_of2 (M := 4) (n := 4) (by decide) h.1 h.2
  have hj2 : j = 0 ∨ j = 1 ∨ j = 2 ∨ j = 3 ∨ j = 4 := by omega
  rcases hj2 with rfl | rfl | rfl | rfl | rfl
  · exact Or.inl rfl
  · exact Or.inr (Or.inl rfl)
  · exact Or.inr (Or.inr (Or.inl rfl))
  · exact Or.inr (Or.inr (Or.inr (Or.inl rfl)))
  · exact Or.inr (Or.inr (Or.inr (Or.inr (rfl))))
/-! ===== the reference's helpers ===== -/
section M2
variable {mo : Nat} {ad : Nat → Nat} {cI cZ : ClassId} {n k : Nat} {td code0 : Int32} {S : Nat → Nat → Int32} {I : Nat → Nat} {F : Nat → Nat → Int32} {X : zM}
theorem MI.idx (h : MI mo ad cI cZ n k td code0 S I F X) : ∀ j, j < k → I j < n := by
  obtain ⟨M, -, -, -, -, h⟩ := h
  exact h
theorem MI.n20 (h : MI mo ad cI cZ n k td code0 S I F X) : n ≤ 20 := by
  obtain ⟨M, -, -, h, -, -⟩ := h
  exact h
theorem MI.k20 (h : MI mo ad cI cZ n k td code0 S I F X) : k ≤ 20 := by
  obtain ⟨M, -, -, -, h, -⟩ := h
  exact h
end M2
theorem z_sm_k {g : Nat → Int32} {k : Nat} (hg : ∀ j, k ≤ j → g j = 0) : ∀ d, z_sm g (k + d) = z_sm g k := by
  intro d
  induction d with
  | zero => rfl
  | succ d ih =>
    show z_sm g (k + d) + g (k + d) = _
    rw [ih, hg _ (by omega)]
    simp
theorem z_sm_20 {g : Nat → Int32} {k : Nat} (hk : k ≤ 20) (hg : ∀ j, k ≤ j → g j = 0) : z_sm g 20 = z_sm g k := by
  have h := z_sm_k hg (20 - k)
  rw [show k + (20 - k) = 20 by omega] at h
  exact h
def z_pt (g : Int32) : Int32 := if g = 0 then 100 else if g = 1 then 90 else if g = 2 then 70 else if g = 3 then 40 else 0
theorem z_pt_pc {g : Int32} (h : z_rg g 0 4) : z_pt g = z_pc g.toNatClampNeg := by
  rcases z_cs4 h with rfl | rfl | rfl | rfl | rfl <;> decide
theorem z_isS {v : Int32} {n : Nat} (hn : n ≤ 20) : z_rg v 0 (nI n - 1) ↔ z_rs v n := by
  have h1 : (nI n - 1).toInt = (n : Int) - 1 := by
    have := hn
    rcases Nat.eq_zero_or_pos n with h | h
    · subst h; decide
    · obtain ⟨q, rfl⟩ := Nat.exists_eq_add_of_lt h
      rw [Nat.zero_add, nI_pred, nI_toInt (by omega)]
      omega
  constructor
  · rintro ⟨a, b⟩
    refine ⟨a, Int32.lt_iff_toInt_lt.mpr ?_⟩
    have := Int32.le_iff_toInt_le.mp b
    rw [nI_toInt (by omega)]
    omega
  · rintro ⟨a, b⟩
    refine ⟨a, Int32.le_iff_toInt_le.mpr ?_⟩
    have := Int32.lt_iff_toInt_lt.mp b
    rw [nI_toInt (by omega)] at this
    omega
theorem z_due_m {g f : Nat → Int32} (hgr : f 8 = -1 ∨ z_rg (f 8) 0 4) : z_due g f = if f 8 = -1 then 0 else if ¬ f 6 = 0 then 0 else if ¬ f 2 - g 4 ≤ 30 then 0 else if 0 < g 2 * z_pt (f 8) / 100 - g 2 / 10 * f 12 then g 2 * z_pt (f 8) / 100 - g 2 / 10 * f 12 else 0 := by
  unfold z_due
  rcases hgr with h | h
  · rw [if_pos (Or.inl (by rw [h]; decide)), if_pos h]
  · have h1 : ¬ f 8 = -1 := fun q => by rw [q] at h; exact absurd h (by decide)
    rw [z_pt_pc h, if_neg h1, if_neg (by rintro (q | q); exact h.1 q; exact q (Int32.lt_of_le_of_lt h.2 (by decide)))]
    by_cases h2 : f 6 = 0
    · by_cases h3 : f 2 - g 4 ≤ 30
      · rw [if_neg (show ¬ (¬ f 6 = 0 ∨ ¬ f 2 - g 4 ≤ 30) from fun q => q.elim (fun q => q h2) (fun q => q h3)), if_neg (show ¬ ¬ f 6 = 0 from fun q => q h2), if_neg (show ¬ ¬ f 2 - g 4 ≤ 30 from fun q => q h3)]
      · rw [if_pos (show ¬ f 6 = 0 ∨ ¬ f 2 - g 4 ≤ 30 from Or.inr h3), if_neg (show ¬ ¬ f 6 = 0 from fun q => q h2), if_pos h3]
    · rw [if_pos (show ¬ f 6 = 0 ∨ ¬ f 2 - g 4 ≤ 30 from Or.inl h2), if_pos h2]
theorem z_tg_s (f : Nat → Int32) (g b : Int32) (hb : b = if f 10 = -1 ∨ g < f 10 then g else f 10) : zfs (zfs (zfs f 9 (f 8)) 8 g) 10 b = z_tg f g := by
  subst hb
  funext q
  unfold zfs z_tg
  by_cases h8 : q = 8
  · subst h8; rfl
  · by_cases h9 : q = 9
    · subst h9; rfl
    · by_cases h10 : q = 10
      · subst h10; rfl
      · simp [h8, h9, h10]
set_option maxHeartbeats 4000000 in
set_option maxRecDepth 100000 in
theorem c_MO_in (l : Launch) (hl9 : l.stackTraces = false) {D : va_G} {cS cR cJ cI cZ : ClassId} {lo tP : Nat} (v a b : Int32) {X : zM} : z_P (z_G lo tP) D cls4 (zty cS cR cJ cI cZ) lo l y_MO_in w_MO_in zrA [.int v, .int a, .int b] X (.inl (some (.int (if z_rg v a b then 1 else 0)))) := by
  refine z_ofW (by decide) ?_
  intro p e s m args below meth c s₁ B hml hout hv
  obtain ⟨rfl, hG, hK, hW0, hXl, hlo⟩ := hv
  have hx := B.exec
  have hb := B.bytes
  have hr := B.returns
  have hlk := B.notSynchronized
  have hown : s.vm.findClass R_MO = some m.cls := findClass_of_methodNamed B.named
  have hts : ∀ w9 ∈ z_tb, w9.before ([.int v, .int a, .int b] : List Value).toArray s = true := hG.ts _
  have hk : ∀ {w9 : Cond}, w9 ∈ lw_tbl → z_ok w9 = true → w9.before ([.int v, .int a, .int b] : List Value).toArray s = true := fun h1 h2 => hG.w h1 h2 _
  have hg : z_Gr s.heap s.heap := z_Gr.rf
  have hS := z_S.start hW0 hXl hlo
  have hl := lv_entry ([.int v, .int a, .int b]) (n := 3) (Nat.le_of_ble_eq_true rfl)
  rw [lg_entry_eq]
  generalize (lg_sl ([.int v, .int a, .int b]) ++ List.replicate (3 - (lg_sl ([.int v, .int a, .int b])).length) Slot.unset).toArray = ls at hl ⊢
  have hl : lv_has ls 3 [(0, .int v), (1, .int a), (2, .int b)] := hl
  refine lv_iload_n hx hb d_MO_in_0 rfl (lv_at hl 0 rfl) ?_
  refine lv_iload_n hx hb d_MO_in_1 rfl (lv_at hl 1 rfl) ?_
  refine lv_icmp_lt (tgt := 14) hx hb d_MO_in_2 (by decide) (fun c_1 => ?_) (fun c_1 => ?_)
  · refine lv_iconst (v := 0) hx hb d_MO_in_14 (by decide) ?_
    exact z_Piret hx hb hr rfl hlk hg (by simp [z_rg, c_1]) (by decide) (by decide) d_MO_in_15
  · refine lv_iload_n hx hb d_MO_in_5 rfl (lv_at hl 0 rfl) ?_
    refine lv_iload_n hx hb d_MO_in_6 rfl (lv_at hl 2 rfl) ?_
    refine lv_icmp_gt (tgt := 14) hx hb d_MO_in_7 (by decide) (fun c_2 => ?_) (fun c_2 => ?_)
    · refine lv_iconst (v := 0) hx hb d_MO_in_14 (by decide) ?_
      exact z_Piret hx hb hr rfl hlk hg (by simp [z_rg, c_1, c_2]) (by decide) (by decide) d_MO_in_15
    · refine lv_iconst (v := 1) hx hb d_MO_in_10 (by decide) ?_
      refine lv_goto (tgt := 15) hx hb d_MO_in_11 (by decide) ?_
      exact z_Piret hx hb hr rfl hlk hg (by simp [z_rg, c_1, c_2]) (by decide) (by decide) d_MO_in_15
set_option maxHeartbeats 4000000 in
set_option maxRecDepth 100000 in
theorem c_MO_isReturn (l : Launch) (hl9 : l.stackTraces = false) {D : va_G} {cS cR cJ cI cZ : ClassId} {lo tP : Nat} (v : Int32) {mo : Nat} {ad : Nat → Nat} {n k : Nat} {td code0 : Int32} {S : Nat → Nat → Int32} {I : Nat → Nat} {F : Nat → Nat → Int32} {X : zM} (hM : MI mo ad cI cZ n k td code0 S I F X) : z_P (z_G lo tP) D cls4 (zty cS cR cJ cI cZ) lo l y_MO_isReturn w_MO_isReturn zrB [.ref mo, .int v] X (.inl (some (.int (if z_rg v 1 (nI k) then 1 else 0)))) := by
  refine z_ofW (by decide) ?_
  intro p e s m args below meth c s₁ B hml hout hv
  obtain ⟨rfl, hG, hK, hW0, hXl, hlo⟩ := hv
  have hx := B.exec
  have hb := B.bytes
  have hr := B.returns
  have hlk := B.notSynchronized
  have hown : s.vm.findClass R_MO = some m.cls := findClass_of_methodNamed B.named
  have hts : ∀ w9 ∈ z_tb, w9.before ([.ref mo, .int v] : List Value).toArray s = true := hG.ts _
  have hk : ∀ {w9 : Cond}, w9 ∈ lw_tbl → z_ok w9 = true → w9.before ([.ref mo, .int v] : List Value).toArray s = true := fun h1 h2 => hG.w h1 h2 _
  have hg : z_Gr s.heap s.heap := z_Gr.rf
  have hS := z_S.start hW0 hXl hlo
  have hl := lv_entry ([.ref mo, .int v]) (n := 2) (Nat.le_of_ble_eq_true rfl)
  rw [lg_entry_eq]
  generalize (lg_sl ([.ref mo, .int v]) ++ List.replicate (2 - (lg_sl ([.ref mo, .int v])).length) Slot.unset).toArray = ls at hl ⊢
  have hl : lv_has ls 2 [(0, .ref mo), (1, .int v)] := hl
  have hIn := hM.idx
  have hn20 := hM.n20
  have hk20 := hM.k20
  have hF : zFr 1 X X := zFr.rf
  refine lv_iload_n hx hb d_MO_isReturn_0 rfl (lv_at hl 1 rfl) ?_
  refine lv_iconst (v := 1) hx hb d_MO_isReturn_1 (by decide) ?_
  refine lv_aload_n hx hb d_MO_isReturn_2 rfl (lv_at hl 0 rfl) ?_
  refine z_get (ci := 3) (C := R_MO) (T := F_MO) (N := 23) hx hb hts j_MO hown hK hS hM.ob rfl 3 (by decide) (hk k_511 rfl) (fun _ h9 => h9) rfl d_MO_isReturn_3 ?_
  refine z_pi (v := if z_rg v 1 (nI k) then 1 else 0) (n_MO_MO_in hx hown hG (by rw [hb]; exact d_MO_isReturn_6)) hb (hl.1.trans hml.symm) (c_MO_in l hl9 v 1 (nI k)) (rfl) (z_Gkeeps lo tP) hG hK hS (cw_MO_in hG (by decide) (by decide)) d_MO_isReturn_6 (Nat.le_of_ble_eq_true rfl) (by decide) (by decide) (fun H hq hS => ?_)
  have hg := hg.tr hq
  exact z_Piret hx hb hr (by split <;> rfl) hlk hg (rfl) (by decide) (by decide) d_MO_isReturn_9
set_option maxHeartbeats 4000000 in
set_option maxRecDepth 100000 in
theorem c_MO_isSale (l : Launch) (hl9 : l.stackTraces = false) {D : va_G} {cS cR cJ cI cZ : ClassId} {lo tP : Nat} (v : Int32) {mo : Nat} {ad : Nat → Nat} {n k : Nat} {td code0 : Int32} {S : Nat → Nat → Int32} {I : Nat → Nat} {F : Nat → Nat → Int32} {X : zM} (hM : MI mo ad cI cZ n k td code0 S I F X) : z_P (z_G lo tP) D cls4 (zty cS cR cJ cI cZ) lo l y_MO_isSale w_MO_isSale zrB [.ref mo, .int v] X (.inl (some (.int (if z_rs v n then 1 else 0)))) := by
  refine z_ofW (by decide) ?_
  intro p e s m args below meth c s₁ B hml hout hv
  obtain ⟨rfl, hG, hK, hW0, hXl, hlo⟩ := hv
  have hx := B.exec
  have hb := B.bytes
  have hr := B.returns
  have hlk := B.notSynchronized
  have hown : s.vm.findClass R_MO = some m.cls := findClass_of_methodNamed B.named
  have hts : ∀ w9 ∈ z_tb, w9.before ([.ref mo, .int v] : List Value).toArray s = true := hG.ts _
  have hk : ∀ {w9 : Cond}, w9 ∈ lw_tbl → z_ok w9 = true → w9.before ([.ref mo, .int v] : List Value).toArray s = true := fun h1 h2 => hG.w h1 h2 _
  have hg : z_Gr s.heap s.heap := z_Gr.rf
  have hS := z_S.start hW0 hXl hlo
  have hl := lv_entry ([.ref mo, .int v]) (n := 2) (Nat.le_of_ble_eq_true rfl)
  rw [lg_entry_eq]
  generalize (lg_sl ([.ref mo, .int v]) ++ List.replicate (2 - (lg_sl ([.ref mo, .int v])).length) Slot.unset).toArray = ls at hl ⊢
  have hl : lv_has ls 2 [(0, .ref mo), (1, .int v)] := hl
  have hIn := hM.idx
  have hn20 := hM.n20
  have hk20 := hM.k20
  have hF : zFr 1 X X := zFr.rf
  refine lv_iload_n hx hb d_MO_isSale_0 rfl (lv_at hl 1 rfl) ?_
  refine lv_iconst (v := 0) hx hb d_MO_isSale_1 (by decide) ?_
  refine lv_aload_n hx hb d_MO_isSale_2 rfl (lv_at hl 0 rfl) ?_
  refine z_get (ci := 3) (C := R_MO) (T := F_MO) (N := 23) hx hb hts j_MO hown hK hS hM.ob rfl 2 (by decide) (hk k_506 rfl) (fun _ h9 => h9) rfl d_MO_isSale_3 ?_
  refine lv_iconst (v := 1) hx hb d_MO_isSale_6 (by decide) ?_
  refine lv_isub hx hb d_MO_isSale_7 ?_
  refine z_pi (v := if z_rg v 0 ((nI n) - 1) then 1 else 0) (n_MO_MO_in hx hown hG (by rw [hb]; exact d_MO_isSale_8)) hb (hl.1.trans hml.symm) (c_MO_in l hl9 v 0 ((nI n) - 1)) (rfl) (z_Gkeeps lo tP) hG hK hS (cw_MO_in hG (by decide) (by decide)) d_MO_isSale_8 (Nat.le_of_ble_eq_true rfl) (by decide) (by decide) (fun H hq hS => ?_)
  have hg := hg.tr hq
  exact z_Piret hx hb hr (by split <;> rfl) hlk hg (by simp only [z_isS hn20]) (by decide) (by decide) d_MO_isSale_11
set_option maxHeartbeats 4000000 in
set_option maxRecDepth 100000 in
theorem c_MO_isSeen (l : Launch) (hl9 : l.stackTraces = false) {D : va_G} {cS cR cJ cI cZ : ClassId} {lo tP : Nat} {j : Nat} {mo : Nat} {ad : Nat → Nat} {n k : Nat} {td code0 : Int32} {S : Nat → Nat → Int32} {I : Nat → Nat} {F : Nat → Nat → Int32} {X : zM} (hM : MI mo ad cI cZ n k td code0 S I F X) (hj : j < k) : z_P (z_G lo tP) D cls4 (zty cS cR cJ cI cZ) lo l y_MO_isSeen w_MO_isSeen zrA [.ref mo, .int (nI (j + 1))] X (.inl (some (.int (if F j 3 = 2 ∨ F j 3 = 3 then 1 else 0)))) := by
  refine z_ofW (by decide) ?_
  intro p e s m args below meth c s₁ B hml hout hv
  obtain ⟨rfl, hG, hK, hW0, hXl, hlo⟩ := hv
  have hx := B.exec
  have hb := B.bytes
  have hr := B.returns
  have hlk := B.notSynchronized
  have hown : s.vm.findClass R_MO = some m.cls := findClass_of_methodNamed B.named
  have hts : ∀ w9 ∈ z_tb, w9.before ([.ref mo, .int (nI (j + 1))] : List Value).toArray s = true := hG.ts _
  have hk : ∀ {w9 : Cond}, w9 ∈ lw_tbl → z_ok w9 = true → w9.before ([.ref mo, .int (nI (j + 1))] : List Value).toArray s = true := fun h1 h2 => hG.w h1 h2 _
  have hg : z_Gr s.heap s.heap := z_Gr.rf
  have hS := z_S.start hW0 hXl hlo
  have hl := lv_entry ([.ref mo, .int (nI (j + 1))]) (n := 2) (Nat.le_of_ble_eq_true rfl)
  rw [lg_entry_eq]
  generalize (lg_sl ([.ref mo, .int (nI (j + 1))]) ++ List.replicate (2 - (lg_sl ([.ref mo, .int (nI (j + 1))])).length) Slot.unset).toArray = ls at hl ⊢
  have hl : lv_has ls 2 [(0, .ref mo), (1, .int (nI (j + 1)))] := hl
  have hIn := hM.idx
  have hn20 := hM.n20
  have hk20 := hM.k20
  have hF : zFr 1 X X := zFr.rf
  refine lv_aload_n hx hb d_MO_isSeen_0 rfl (lv_at hl 0 rfl) ?_
  refine z_get (ci := 3) (C := R_MO) (T := F_MO) (N := 23) hx hb hts j_MO hown hK hS hM.ob rfl 10 (by decide) (hk k_514 rfl) (fun _ h9 => h9) rfl d_MO_isSeen_1 ?_
  refine lv_iload_n hx hb d_MO_isSeen_4 rfl (lv_at hl 1 rfl) ?_
  refine mo_ld (v := F j 3) hx hb hK hS hM 10 hj (by decide) rfl d_MO_isSeen_5 ?_
  refine lv_iconst (v := 2) hx hb d_MO_isSeen_6 (by decide) ?_
  refine lv_icmp_eq (tgt := 20) hx hb d_MO_isSeen_7 (by decide) (fun c_1 => ?_) (fun c_1 => ?_)
  · refine lv_iconst (v := 1) hx hb d_MO_isSeen_20 (by decide) ?_
    refine lv_goto (tgt := 25) hx hb d_MO_isSeen_21 (by decide) ?_
    exact z_Piret hx hb hr rfl hlk hg (by simp [c_1]) (by decide) (by decide) d_MO_isSeen_25
  · refine lv_aload_n hx hb d_MO_isSeen_10 rfl (lv_at hl 0 rfl) ?_
    refine z_get (ci := 3) (C := R_MO) (T := F_MO) (N := 23) hx hb hts j_MO hown hK hS hM.ob rfl 10 (by decide) (hk k_514 rfl) (fun _ h9 => h9) rfl d_MO_isSeen_11 ?_
    refine lv_iload_n hx hb d_MO_isSeen_14 rfl (lv_at hl 1 rfl) ?_
    refine mo_ld (v := F j 3) hx hb hK hS hM 10 hj (by decide) rfl d_MO_isSeen_15 ?_
    refine lv_iconst (v := 3) hx hb d_MO_isSeen_16 (by decide) ?_
    refine lv_icmp_ne (tgt := 24) hx hb d_MO_isSeen_17 (by decide) (fun c_2 => ?_) (fun c_2 => ?_)
    · refine lv_iconst (v := 0) hx hb d_MO_isSeen_24 (by decide) ?_
      exact z_Piret hx hb hr rfl hlk hg (by simp [c_1, c_2]) (by decide) (by decide) d_MO_isSeen_25
    · refine lv_iconst (v := 1) hx hb d_MO_isSeen_20 (by decide) ?_
      refine lv_goto (tgt := 25) hx hb d_MO_isSeen_21 (by decide) ?_
      exact z_Piret hx hb hr rfl hlk hg (by simp [c_1, c_2]) (by decide) (by decide) d_MO_isSeen_25
set_option maxHeartbeats 4000000 in
set_option maxRecDepth 100000 in
theorem c_MO_percent (l : Launch) (hl9 : l.stackTraces = false) {D : va_G} {cS cR cJ cI cZ : ClassId} {lo tP : Nat} (v : Int32) {X : zM} : z_P (z_G lo tP) D cls4 (zty cS cR cJ cI cZ) lo l y_MO_percent w_MO_percent zrA [.int v] X (.inl (some (.int (z_pt v)))) := by
  refine z_ofW (by decide) ?_
  intro p e s m args below meth c s₁ B hml hout hv
  obtain ⟨rfl, hG, hK, hW0, hXl, hlo⟩ := hv
  have hx := B.exec
  have hb := B.bytes
  have hr := B.returns
  have hlk := B.notSynchronized
  have hown : s.vm.findClass R_MO = some m.cls := findClass_of_methodNamed B.named
  have hts : ∀ w9 ∈ z_tb, w9.before ([.int v] : List Value).toArray s = true := hG.ts _
  have hk : ∀ {w9 : Cond}, w9 ∈ lw_tbl → z_ok w9 = true → w9.before ([.int v] : List Value).toArray s = true := fun h1 h2 => hG.w h1 h2 _
  have hg : z_Gr s.heap s.heap := z_Gr.rf
  have hS := z_S.start hW0 hXl hlo
  have hl := lv_entry ([.int v]) (n := 1) (Nat.le_of_ble_eq_true rfl)
  rw [lg_entry_eq]
  generalize (lg_sl ([.int v]) ++ List.replicate (1 - (lg_sl ([.int v])).length) Slot.unset).toArray = ls at hl ⊢
  have hl : lv_has ls 1 [(0, .int v)] := hl
  refine lv_iload_n hx hb d_MO_percent_0 rfl (lv_at hl 0 rfl) ?_
  refine lv_if_ne (tgt := 9) hx hb d_MO_percent_1 (by decide) (fun c_1 => ?_) (fun c_1 => ?_)
  · refine lv_iload_n hx hb d_MO_percent_9 rfl (lv_at hl 0 rfl) ?_
    refine lv_iconst (v := 1) hx hb d_MO_percent_10 (by decide) ?_
    refine lv_icmp_ne (tgt := 19) hx hb d_MO_percent_11 (by decide) (fun c_2 => ?_) (fun c_2 => ?_)
    · refine lv_iload_n hx hb d_MO_percent_19 rfl (lv_at hl 0 rfl) ?_
      refine lv_iconst (v := 2) hx hb d_MO_percent_20 (by decide) ?_
      refine lv_icmp_ne (tgt := 29) hx hb d_MO_percent_21 (by decide) (fun c_3 => ?_) (fun c_3 => ?_)
      · refine lv_iload_n hx hb d_MO_percent_29 rfl (lv_at hl 0 rfl) ?_
        refine lv_iconst (v := 3) hx hb d_MO_percent_30 (by decide) ?_
        refine lv_icmp_ne (tgt := 39) hx hb d_MO_percent_31 (by decide) (fun c_4 => ?_) (fun c_4 => ?_)
        · refine lv_iconst (v := 0) hx hb d_MO_percent_39 (by decide) ?_
          exact z_Piret hx hb hr rfl hlk hg (by simp [z_pt, c_1, c_2, c_3, c_4]) (by decide) (by decide) d_MO_percent_40
        · refine lv_bipush (v := 40) hx hb d_MO_percent_34 (by decide) ?_
          refine lv_goto (tgt := 40) hx hb d_MO_percent_36 (by decide) ?_
          exact z_Piret hx hb hr rfl hlk hg (by simp [z_pt, c_1, c_2, c_3, c_4]) (by decide) (by decide) d_MO_percent_40
      · refine lv_bipush (v := 70) hx hb d_MO_percent_24 (by decide) ?_
        refine lv_goto (tgt := 40) hx hb d_MO_percent_26 (by decide) ?_
        exact z_Piret hx hb hr rfl hlk hg (by simp [z_pt, c_1, c_2, c_3]) (by decide) (by decide) d_MO_percent_40
    · refine lv_bipush (v := 90) hx hb d_MO_percent_14 (by decide) ?_
      refine lv_goto (tgt := 40) hx hb d_MO_percent_16 (by decide) ?_
      exact z_Piret hx hb hr rfl hlk hg (by simp [z_pt, c_1, c_2]) (by decide) (by decide) d_MO_percent_40
  · refine lv_bipush (v := 100) hx hb d_MO_percent_4 (by decide) ?_
    refine lv_goto (tgt := 40) hx hb d_MO_percent_6 (by decide) ?_
    exact z_Piret hx hb hr rfl hlk hg (by simp [z_pt, c_1]) (by decide) (by decide) d_MO_percent_40
set_option maxHeartbeats 4000000 in
set_option maxRecDepth 100000 in
theorem c_MO_thrown (l : Launch) (hl9 : l.stackTraces = false) {D : va_G} {cS cR cJ cI cZ : ClassId} {lo tP : Nat} {mo : Nat} {ad : Nat → Nat} {n k : Nat} {td code0 : Int32} {S : Nat → Nat → Int32} {I : Nat → Nat} {F : Nat → Nat → Int32} {X : zM} (hM : MI mo ad cI cZ n k td code0 S I F X) : z_P (z_G lo tP) D cls4 (zty cS cR cJ cI cZ) lo l y_MO_thrown w_MO_thrown zrA [.ref mo] X (.inl (some (.int code0))) := by
  refine z_ofW (by decide) ?_
  intro p e s m args below meth c s₁ B hml hout hv
  obtain ⟨rfl, hG, hK, hW0, hXl, hlo⟩ := hv
  have hx := B.exec
  have hb := B.bytes
  have hr := B.returns
  have hlk := B.notSynchronized
  have hown : s.vm.findClass R_MO = some m.cls := findClass_of_methodNamed B.named
  have hts : ∀ w9 ∈ z_tb, w9.before ([.ref mo] : List Value).toArray s = true := hG.ts _
  have hk : ∀ {w9 : Cond}, w9 ∈ lw_tbl → z_ok w9 = true → w9.before ([.ref mo] : List Value).toArray s = true := fun h1 h2 => hG.w h1 h2 _
  have hg : z_Gr s.heap s.heap := z_Gr.rf
  have hS := z_S.start hW0 hXl hlo
  have hl := lv_entry ([.ref mo]) (n := 1) (Nat.le_of_ble_eq_true rfl)
  rw [lg_entry_eq]
  generalize (lg_sl ([.ref mo]) ++ List.replicate (1 - (lg_sl ([.ref mo])).length) Slot.unset).toArray = ls at hl ⊢
  have hl : lv_has ls 1 [(0, .ref mo)] := hl
  have hIn := hM.idx
  have hn20 := hM.n20
  have hk20 := hM.k20
  have hF : zFr 1 X X := zFr.rf
  refine lv_aload_n hx hb d_MO_thrown_0 rfl (lv_at hl 0 rfl) ?_
  refine z_get (ci := 3) (C := R_MO) (T := F_MO) (N := 23) hx hb hts j_MO hown hK hS hM.ob rfl 0 (by decide) (hk k_504 rfl) (fun _ h9 => h9) rfl d_MO_thrown_1 ?_
  exact z_Piret hx hb hr rfl hlk hg (rfl) (by decide) (by decide) d_MO_thrown_4
set_option maxHeartbeats 4000000 in
set_option maxRecDepth 100000 in
theorem c_MO_dueOf (l : Launch) (hl9 : l.stackTraces = false) {D : va_G} {cS cR cJ cI cZ : ClassId} {lo tP : Nat} {j : Nat} {mo : Nat} {ad : Nat → Nat} {n k : Nat} {td code0 : Int32} {S : Nat → Nat → Int32} {I : Nat → Nat} {F : Nat → Nat → Int32} {X : zM} (hM : MI mo ad cI cZ n k td code0 S I F X) (hj : j < k) (hgr : F j 8 = -1 ∨ z_rg (F j 8) 0 4) : z_P (z_G lo tP) D cls4 (zty cS cR cJ cI cZ) lo l y_MO_dueOf w_MO_dueOf zrB [.ref mo, .int (nI (j + 1))] X (.inl (some (.int (z_due (S (I j)) (F j))))) := by
  refine z_ofW (by decide) ?_
  intro p e s m args below meth c s₁ B hml hout hv
  obtain ⟨rfl, hG, hK, hW0, hXl, hlo⟩ := hv
  have hx := B.exec
  have hb := B.bytes
  have hr := B.returns
  have hlk := B.notSynchronized
  have hown : s.vm.findClass R_MO = some m.cls := findClass_of_methodNamed B.named
  have hts : ∀ w9 ∈ z_tb, w9.before ([.ref mo, .int (nI (j + 1))] : List Value).toArray s = true := hG.ts _
  have hk : ∀ {w9 : Cond}, w9 ∈ lw_tbl → z_ok w9 = true → w9.before ([.ref mo, .int (nI (j + 1))] : List Value).toArray s = true := fun h1 h2 => hG.w h1 h2 _
  have hg : z_Gr s.heap s.heap := z_Gr.rf
  have hS := z_S.start hW0 hXl hlo
  have hl := lv_entry ([.ref mo, .int (nI (j + 1))]) (n := 4) (Nat.le_of_ble_eq_true rfl)
  rw [lg_entry_eq]
  generalize (lg_sl ([.ref mo, .int (nI (j + 1))]) ++ List.replicate (4 - (lg_sl ([.ref mo, .int (nI (j + 1))])).length) Slot.unset).toArray = ls at hl ⊢
  have hl : lv_has ls 4 [(0, .ref mo), (1, .int (nI (j + 1)))] := hl
  have hIn := hM.idx
  have hn20 := hM.n20
  have hk20 := hM.k20
  have hF : zFr 1 X X := zFr.rf
  refine lv_aload_n hx hb d_MO_dueOf_0 rfl (lv_at hl 0 rfl) ?_
  refine z_get (ci := 3) (C := R_MO) (T := F_MO) (N := 23) hx hb hts j_MO hown hK hS hM.ob rfl 8 (by decide) (hk k_512 rfl) (fun _ h9 => h9) rfl d_MO_dueOf_1 ?_
  refine lv_iload_n hx hb d_MO_dueOf_4 rfl (lv_at hl 1 rfl) ?_
  refine mo_ldI hx hb hK hS hM hj d_MO_dueOf_5 ?_
  refine lv_istore_n (lv' := [(2, .int (nI (I j))), (0, .ref mo), (1, .int (nI (j + 1)))]) hx hb d_MO_dueOf_6 rfl hl (by decide) rfl (fun ls hl => ?_)
  refine lv_aload_n hx hb d_MO_dueOf_7 rfl (lv_at hl 1 rfl) ?_
  refine z_get (ci := 3) (C := R_MO) (T := F_MO) (N := 23) hx hb hts j_MO hown hK hS hM.ob rfl 15 (by decide) (hk k_519 rfl) (fun _ h9 => h9) rfl d_MO_dueOf_8 ?_
  refine lv_iload_n hx hb d_MO_dueOf_11 rfl (lv_at hl 2 rfl) ?_
  refine mo_ld (v := F j 8) hx hb hK hS hM 15 hj (by decide) rfl d_MO_dueOf_12 ?_
  refine lv_iconst (v := (-1)) hx hb d_MO_dueOf_13 (by decide) ?_
  refine lv_icmp_eq (tgt := 44) hx hb d_MO_dueOf_14 (by decide) (fun c_1 => ?_) (fun c_1 => ?_)
  · refine lv_iconst (v := 0) hx hb d_MO_dueOf_44 (by decide) ?_
    exact z_Piret hx hb hr rfl hlk hg (by rw [z_due_m hgr]; simp [c_1]) (by decide) (by decide) d_MO_dueOf_45
  · refine lv_aload_n hx hb d_MO_dueOf_17 rfl (lv_at hl 1 rfl) ?_
    refine z_get (ci := 3) (C := R_MO) (T := F_MO) (N := 23) hx hb hts j_MO hown hK hS hM.ob rfl 14 (by decide) (hk k_518 rfl) (fun _ h9 => h9) rfl d_MO_dueOf_18 ?_
    refine lv_iload_n hx hb d_MO_dueOf_21 rfl (lv_at hl 2 rfl) ?_
    refine mo_ldb (v := F j 6) hx hb hK hS hM 14 hj (by decide) rfl d_MO_dueOf_22 ?_
    refine lv_if_ne (tgt := 44) hx hb d_MO_dueOf_23 (by decide) (fun c_2 => ?_) (fun c_2 => ?_)
    · refine lv_iconst (v := 0) hx hb d_MO_dueOf_44 (by decide) ?_
      exact z_Piret hx hb hr rfl hlk hg (by rw [z_due_m hgr]; simp [c_1, c_2]) (by decide) (by decide) d_MO_dueOf_45
    · refine lv_aload_n hx hb d_MO_dueOf_26 rfl (lv_at hl 1 rfl) ?_
      refine z_get (ci := 3) (C := R_MO) (T := F_MO) (N := 23) hx hb hts j_MO hown hK hS hM.ob rfl 11 (by decide) (hk k_515 rfl) (fun _ h9 => h9) rfl d_MO_dueOf_27 ?_
      refine lv_iload_n hx hb d_MO_dueOf_30 rfl (lv_at hl 2 rfl) ?_
      refine mo_ld (v := F j 2) hx hb hK hS hM 11 hj (by decide) rfl d_MO_dueOf_31 ?_
      refine lv_aload_n hx hb d_MO_dueOf_32 rfl (lv_at hl 1 rfl) ?_
      refine z_get (ci := 3) (C := R_MO) (T := F_MO) (N := 23) hx hb hts j_MO hown hK hS hM.ob rfl 7 (by decide) (hk k_510 rfl) (fun _ h9 => h9) rfl d_MO_dueOf_33 ?_
      refine lv_iload_n hx hb d_MO_dueOf_36 rfl (lv_at hl 0 rfl) ?_
      refine mo_lds hx hb hK hS hM 7 (hIn j hj) (by decide) rfl d_MO_dueOf_37 ?_
      refine lv_isub hx hb d_MO_dueOf_38 ?_
      refine lv_bipush (v := 30) hx hb d_MO_dueOf_39 (by decide) ?_
      refine lv_icmp_le (tgt := 46) hx hb d_MO_dueOf_41 (by decide) (fun c_3 => ?_) (fun c_3 => ?_)
      · refine lv_aload_n hx hb d_MO_dueOf_46 rfl (lv_at hl 1 rfl) ?_
        refine z_get (ci := 3) (C := R_MO) (T := F_MO) (N := 23) hx hb hts j_MO hown hK hS hM.ob rfl 5 (by decide) (hk k_508 rfl) (fun _ h9 => h9) rfl d_MO_dueOf_47 ?_
        refine lv_iload_n hx hb d_MO_dueOf_50 rfl (lv_at hl 0 rfl) ?_
        refine mo_lds hx hb hK hS hM 5 (hIn j hj) (by decide) rfl d_MO_dueOf_51 ?_
        refine lv_aload_n hx hb d_MO_dueOf_52 rfl (lv_at hl 1 rfl) ?_
        refine z_get (ci := 3) (C := R_MO) (T := F_MO) (N := 23) hx hb hts j_MO hown hK hS hM.ob rfl 15 (by decide) (hk k_519 rfl) (fun _ h9 => h9) rfl d_MO_dueOf_53 ?_
        refine lv_iload_n hx hb d_MO_dueOf_56 rfl (lv_at hl 2 rfl) ?_
        refine mo_ld (v := F j 8) hx hb hK hS hM 15 hj (by decide) rfl d_MO_dueOf_57 ?_
        refine z_pi (v := z_pt (F j 8)) (n_MO_MO_percent hx hown hG (by rw [hb]; exact d_MO_dueOf_58)) hb (hl.1.trans hml.symm) (c_MO_percent l hl9 (F j 8)) (rfl) (z_Gkeeps lo tP) hG hK hS (cw_MO_percent hG (by decide) (by decide)) d_MO_dueOf_58 (Nat.le_of_ble_eq_true rfl) (by decide) (by decide) (fun H hq hS => ?_)
        have hg := hg.tr hq
        refine lv_imul hx hb d_MO_dueOf_61 ?_
        refine lv_bipush (v := 100) hx hb d_MO_dueOf_62 (by decide) ?_
        refine lv_idiv hx hb d_MO_dueOf_64 (by decide) ?_
        refine lv_aload_n hx hb d_MO_dueOf_65 rfl (lv_at hl 1 rfl) ?_
        refine z_get (ci := 3) (C := R_MO) (T := F_MO) (N := 23) hx hb hts j_MO hown hK hS hM.ob rfl 5 (by decide) (hk k_508 rfl) (fun _ h9 => h9) rfl d_MO_dueOf_66 ?_
        refine lv_iload_n hx hb d_MO_dueOf_69 rfl (lv_at hl 0 rfl) ?_
        refine mo_lds hx hb hK hS hM 5 (hIn j hj) (by decide) rfl d_MO_dueOf_70 ?_
        refine lv_bipush (v := 10) hx hb d_MO_dueOf_71 (by decide) ?_
        refine lv_idiv hx hb d_MO_dueOf_73 (by decide) ?_
        refine lv_aload_n hx hb d_MO_dueOf_74 rfl (lv_at hl 1 rfl) ?_
        refine z_get (ci := 3) (C := R_MO) (T := F_MO) (N := 23) hx hb hts j_MO hown hK hS hM.ob rfl 20 (by decide) (hk k_524 rfl) (fun _ h9 => h9) rfl d_MO_dueOf_75 ?_
        refine lv_iload_n hx hb d_MO_dueOf_78 rfl (lv_at hl 2 rfl) ?_
        refine mo_ld (v := F j 12) hx hb hK hS hM 20 hj (by decide) rfl d_MO_dueOf_79 ?_
        refine lv_imul hx hb d_MO_dueOf_80 ?_
        refine lv_isub hx hb d_MO_dueOf_81 ?_
        refine lv_istore_n (lv' := [(3, .int ((((S (I j) 2) * (z_pt (F j 8))) / 100) - (((S (I j) 2) / 10) * (F j 12)))), (2, .int (nI (I j))), (0, .ref mo), (1, .int (nI (j + 1)))]) hx hb d_MO_dueOf_82 rfl hl (by decide) rfl (fun ls hl => ?_)
        refine lv_iload_n hx hb d_MO_dueOf_83 rfl (lv_at hl 0 rfl) ?_
        refine lv_if_le (tgt := 91) hx hb d_MO_dueOf_84 (by decide) (fun c_4 => ?_) (fun c_4 => ?_)
        · refine lv_iconst (v := 0) hx hb d_MO_dueOf_91 (by decide) ?_
          exact z_Piret hx hb hr rfl hlk hg (by rw [z_due_m hgr]; simp [c_1, c_2, c_3, (Int32.not_lt.mpr c_4)]) (by decide) (by decide) d_MO_dueOf_92
        · refine lv_iload_n hx hb d_MO_dueOf_87 rfl (lv_at hl 0 rfl) ?_
          refine lv_goto (tgt := 92) hx hb d_MO_dueOf_88 (by decide) ?_
          exact z_Piret hx hb hr rfl hlk hg (by rw [z_due_m hgr]; simp [c_1, c_2, c_3, (Int32.not_le.mp c_4)]) (by decide) (by decide) d_MO_dueOf_92
      · refine lv_iconst (v := 0) hx hb d_MO_dueOf_44 (by decide) ?_
        exact z_Piret hx hb hr rfl hlk hg (by rw [z_due_m hgr]; simp [c_1, c_2, c_3]) (by decide) (by decide) d_MO_dueOf_45
set_option maxHeartbeats 4000000 in
set_option maxRecDepth 100000 in
theorem c_MO_backs (l : Launch) (hl9 : l.stackTraces = false) {D : va_G} {cS cR cJ cI cZ : ClassId} {lo tP : Nat} (v : Int32) {mo : Nat} {ad : Nat → Nat} {n k : Nat} {td code0 : Int32} {S : Nat → Nat → Int32} {I : Nat → Nat} {F : Nat → Nat → Int32} {X : zM} (hM : MI mo ad cI cZ n k td code0 S I F X) : z_P (z_G lo tP) D cls4 (zty cS cR cJ cI cZ) lo l y_MO_backs w_MO_backs zrA [.ref mo, .int v] X (.inl (some (.int (an_back k F v)))) := by
  refine z_ofW (by decide) ?_
  intro p e s m args below meth c s₁ B hml hout hv
  obtain ⟨rfl, hG, hK, hW0, hXl, hlo⟩ := hv
  have hx := B.exec
  have hb := B.bytes
  have hr := B.returns
  have hlk := B.notSynchronized
  have hown : s.vm.findClass R_MO = some m.cls := findClass_of_methodNamed B.named
  have hts : ∀ w9 ∈ z_tb, w9.before ([.ref mo, .int v] : List Value).toArray s = true := hG.ts _
  have hk : ∀ {w9 : Cond}, w9 ∈ lw_tbl → z_ok w9 = true → w9.before ([.ref mo, .int v] : List Value).toArray s = true := fun h1 h2 => hG.w h1 h2 _
  have hg : z_Gr s.heap s.heap := z_Gr.rf
  have hS := z_S.start hW0 hXl hlo
  have hl := lv_entry ([.ref mo, .int v]) (n := 4) (Nat.le_of_ble_eq_true rfl)
  rw [lg_entry_eq]
  generalize (lg_sl ([.ref mo, .int v]) ++ List.replicate (4 - (lg_sl ([.ref mo, .int v])).length) Slot.unset).toArray = ls at hl ⊢
  have hl : lv_has ls 4 [(0, .ref mo), (1, .int v)] := hl
  have hIn := hM.idx
  have hn20 := hM.n20
  have hk20 := hM.k20
  have hF : zFr 1 X X := zFr.rf
  refine lv_iconst (v := 0) hx hb d_MO_backs_0 (by decide) ?_
  refine lv_istore_n (lv' := [(2, .int 0), (0, .ref mo), (1, .int v)]) hx hb d_MO_backs_1 rfl hl (by decide) rfl (fun ls hl => ?_)
  refine lv_iconst (v := 1) hx hb d_MO_backs_2 (by decide) ?_
  refine lv_istore_n (lv' := [(3, .int 1), (2, .int 0), (0, .ref mo), (1, .int v)]) hx hb d_MO_backs_3 rfl hl (by decide) rfl (fun ls hl => ?_)
  have hloop : ∀ (dd i : Nat) (t : Int32) (ls : Array Slot), i + dd = k → t = z_sm (fun j => if j < k ∧ F j 3 = 6 ∧ F j 8 = v then 1 else 0) i → lv_has ls 4 [(0, .ref mo), (1, .int v), (2, .int t), (3, .int (nI (i + 1)))] → W p l e zrA s m ([.ref mo, .int v] : List Value).toArray below meth c s.heap [] 0 0 (z_MQ below (z_pu (.inl (some (.int (an_back k F v))))) ([.ref mo, .int v] : List Value).toArray s zrA.cells zrA.slots (fun _ => False)) (F0 m 4 ls []) := by
    intro dd
    induction dd with
    | zero =>
      intro i t ls hi9 ht_t hl
      have hi9 : k = i := by omega
      subst hi9
      refine lv_iload_n hx hb d_MO_backs_4 rfl (lv_at hl 3 rfl) ?_
      refine lv_aload_n hx hb d_MO_backs_5 rfl (lv_at hl 0 rfl) ?_
      refine z_get (ci := 3) (C := R_MO) (T := F_MO) (N := 23) hx hb hts j_MO hown hK hS hM.ob rfl 3 (by decide) (hk k_511 rfl) (fun _ h9 => h9) rfl d_MO_backs_6 ?_
      refine lv_icmp_gt (tgt := 47) hx hb d_MO_backs_9 (by decide) (fun c_1 => ?_) (fun c_1 => absurd (nI_lt (Nat.lt_succ_self k) (by omega)) c_1)
      refine lv_iload_n hx hb d_MO_backs_47 rfl (lv_at hl 2 rfl) ?_
      exact z_Piret hx hb hr rfl hlk hg (by rw [ht_t, ← z_sm_20 hk20 (fun j hj => if_neg (fun h => Nat.not_lt.mpr hj h.1))]; rfl) (by decide) (by decide) d_MO_backs_48
    | succ dd ih =>
      intro i t ls hi9 ht_t hl
      have hik : i < k := by omega
      refine lv_iload_n hx hb d_MO_backs_4 rfl (lv_at hl 3 rfl) ?_
      refine lv_aload_n hx hb d_MO_backs_5 rfl (lv_at hl 0 rfl) ?_
      refine z_get (ci := 3) (C := R_MO) (T := F_MO) (N := 23) hx hb hts j_MO hown hK hS hM.ob rfl 3 (by decide) (hk k_511 rfl) (fun _ h9 => h9) rfl d_MO_backs_6 ?_
      refine lv_icmp_gt (tgt := 47) hx hb d_MO_backs_9 (by decide) (fun c_2 => absurd c_2 (nI_nlt (show i + 1 ≤ k by omega) (by omega))) (fun c_2 => ?_)
      refine lv_iload_n hx hb d_MO_backs_12 rfl (lv_at hl 2 rfl) ?_
      refine lv_aload_n hx hb d_MO_backs_13 rfl (lv_at hl 0 rfl) ?_
      refine z_get (ci := 3) (C := R_MO) (T := F_MO) (N := 23) hx hb hts j_MO hown hK hS hM.ob rfl 10 (by decide) (hk k_514 rfl) (fun _ h9 => h9) rfl d_MO_backs_14 ?_
      refine lv_iload_n hx hb d_MO_backs_17 rfl (lv_at hl 3 rfl) ?_
      refine mo_ld (v := F i 3) hx hb hK hS hM 10 hik (by decide) rfl d_MO_backs_18 ?_
      refine lv_bipush (v := 6) hx hb d_MO_backs_19 (by decide) ?_
      refine lv_icmp_ne (tgt := 38) hx hb d_MO_backs_21 (by decide) (fun c_3 => ?_) (fun c_3 => ?_)
      · refine lv_iconst (v := 0) hx hb d_MO_backs_38 (by decide) ?_
        refine lv_iadd hx hb d_MO_backs_39 ?_
        refine lv_istore_n (lv' := [(2, .int (t + 0)), (0, .ref mo), (1, .int v), (3, .int (nI (i + 1)))]) hx hb d_MO_backs_40 rfl hl (by decide) rfl (fun ls hl => ?_)
        refine lv_iinc (v := (nI (i + 1)) + 1) (lv' := [(3, .int ((nI (i + 1)) + 1)), (2, .int (t + 0)), (0, .ref mo), (1, .int v)]) hx hb d_MO_backs_41 hl (k := 3) rfl rfl (by decide) rfl (fun ls hl => ?_)
        refine lv_goto (tgt := 4) hx hb d_MO_backs_44 (by decide) ?_
        exact ih (i + 1) (t + 0) ls (by omega) (by rw [z_smS, ← ht_t]; simp [hik, c_3, (show ¬ (6 : Int32) = F i 3 from fun h9 => c_3 h9.symm)]) (by rw [nI_1] at hl; exact lv_sub hl [2, 3, 1, 0] rfl)
      · refine lv_aload_n hx hb d_MO_backs_24 rfl (lv_at hl 0 rfl) ?_
        refine z_get (ci := 3) (C := R_MO) (T := F_MO) (N := 23) hx hb hts j_MO hown hK hS hM.ob rfl 15 (by decide) (hk k_519 rfl) (fun _ h9 => h9) rfl d_MO_backs_25 ?_
        refine lv_iload_n hx hb d_MO_backs_28 rfl (lv_at hl 3 rfl) ?_
        refine mo_ld (v := F i 8) hx hb hK hS hM 15 hik (by decide) rfl d_MO_backs_29 ?_
        refine lv_iload_n hx hb d_MO_backs_30 rfl (lv_at hl 1 rfl) ?_
        refine lv_icmp_ne (tgt := 38) hx hb d_MO_backs_31 (by decide) (fun c_4 => ?_) (fun c_4 => ?_)
        · refine lv_iconst (v := 0) hx hb d_MO_backs_38 (by decide) ?_
          refine lv_iadd hx hb d_MO_backs_39 ?_
          refine lv_istore_n (lv' := [(2, .int (t + 0)), (0, .ref mo), (1, .int v), (3, .int (nI (i + 1)))]) hx hb d_MO_backs_40 rfl hl (by decide) rfl (fun ls hl => ?_)
          refine lv_iinc (v := (nI (i + 1)) + 1) (lv' := [(3, .int ((nI (i + 1)) + 1)), (2, .int (t + 0)), (0, .ref mo), (1, .int v)]) hx hb d_MO_backs_41 hl (k := 3) rfl rfl (by decide) rfl (fun ls hl => ?_)
          refine lv_goto (tgt := 4) hx hb d_MO_backs_44 (by decide) ?_
          exact ih (i + 1) (t + 0) ls (by omega) (by rw [z_smS, ← ht_t]; simp [hik, c_3, c_4, (show ¬ v = F i 8 from fun h9 => c_4 h9.symm)]) (by rw [nI_1] at hl; exact lv_sub hl [2, 3, 1, 0] rfl)
        · refine lv_iconst (v := 1) hx hb d_MO_backs_34 (by decide) ?_
          refine lv_goto (tgt := 39) hx hb d_MO_backs_35 (by decide) ?_
          refine lv_iadd hx hb d_MO_backs_39 ?_
          refine lv_istore_n (lv' := [(2, .int (t + 1)), (0, .ref mo), (1, .int v), (3, .int (nI (i + 1)))]) hx hb d_MO_backs_40 rfl hl (by decide) rfl (fun ls hl => ?_)
          refine lv_iinc (v := (nI (i + 1)) + 1) (lv' := [(3, .int ((nI (i + 1)) + 1)), (2, .int (t + 1)), (0, .ref mo), (1, .int v)]) hx hb d_MO_backs_41 hl (k := 3) rfl rfl (by decide) rfl (fun ls hl => ?_)
          refine lv_goto (tgt := 4) hx hb d_MO_backs_44 (by decide) ?_
          exact ih (i + 1) (t + 1) ls (by omega) (by rw [z_smS, ← ht_t]; simp [hik, c_3, c_4]) (by rw [nI_1] at hl; exact lv_sub hl [2, 3, 1, 0] rfl)
  exact hloop k 0 0 ls (Nat.zero_add _) rfl (lv_sub hl [2, 3, 1, 0] rfl)
set_option maxHeartbeats 4000000 in
set_option maxRecDepth 100000 in
theorem c_MO_returnsOf_0 (l : Launch) (hl9 : l.stackTraces = false) {D : va_G} {cS cR cJ cI cZ : ClassId} {lo tP : Nat} (v : Int32) {mo : Nat} {ad : Nat → Nat} {n k : Nat} {td code0 : Int32} {S : Nat → Nat → Int32} {I : Nat → Nat} {F : Nat → Nat → Int32} {X : zM} (hM : MI mo ad cI cZ n k td code0 S I F X) (hc1 : ¬ v = -1) (hbl : ∀ j, j < k → F j 6 = 0 ∨ F j 6 = 1) : z_P (z_G lo tP) D cls4 (zty cS cR cJ cI cZ) lo l y_MO_returnsOf w_MO_returnsOf zrA [.ref mo, .int v, .int 0] X (.inl (some (.int (an_sum k S I F 0 (-1) v)))) := by
  refine z_ofW (by decide) ?_
  intro p e s m args below meth c s₁ B hml hout hv
  obtain ⟨rfl, hG, hK, hW0, hXl, hlo⟩ := hv
  have hx := B.exec
  have hb := B.bytes
  have hr := B.returns
  have hlk := B.notSynchronized
  have hown : s.vm.findClass R_MO = some m.cls := findClass_of_methodNamed B.named
  have hts : ∀ w9 ∈ z_tb, w9.before ([.ref mo, .int v, .int 0] : List Value).toArray s = true := hG.ts _
  have hk : ∀ {w9 : Cond}, w9 ∈ lw_tbl → z_ok w9 = true → w9.before ([.ref mo, .int v, .int 0] : List Value).toArray s = true := fun h1 h2 => hG.w h1 h2 _
  have hg : z_Gr s.heap s.heap := z_Gr.rf
  have hS := z_S.start hW0 hXl hlo
  have hl := lv_entry ([.ref mo, .int v, .int 0]) (n := 5) (Nat.le_of_ble_eq_true rfl)
  rw [lg_entry_eq]
  generalize (lg_sl ([.ref mo, .int v, .int 0]) ++ List.replicate (5 - (lg_sl ([.ref mo, .int v, .int 0])).length) Slot.unset).toArray = ls at hl ⊢
  have hl : lv_has ls 5 [(0, .ref mo), (1, .int v), (2, .int 0)] := hl
  have hIn := hM.idx
  have hn20 := hM.n20
  have hk20 := hM.k20
  have hF : zFr 1 X X := zFr.rf
  refine lv_iconst (v := 0) hx hb d_MO_returnsOf_0 (by decide) ?_
  refine lv_istore_n (lv' := [(3, .int 0), (0, .ref mo), (1, .int v), (2, .int 0)]) hx hb d_MO_returnsOf_1 rfl hl (by decide) rfl (fun ls hl => ?_)
  refine lv_iconst (v := 1) hx hb d_MO_returnsOf_2 (by decide) ?_
  refine lv_istore (lv' := [(4, .int 1), (3, .int 0), (0, .ref mo), (1, .int v), (2, .int 0)]) hx hb d_MO_returnsOf_3 hl (by decide) rfl (fun ls hl => ?_)
  have hloop : ∀ (dd i : Nat) (t : Int32) (ls : Array Slot), i + dd = k → t = z_sm (fun j => if j < k ∧ z_of (-1) v (S (I j)) (F j) then z_me 0 (F j) else 0) i → lv_has ls 5 [(0, .ref mo), (1, .int v), (2, .int 0), (3, .int t), (4, .int (nI (i + 1)))] → W p l e zrA s m ([.ref mo, .int v, .int 0] : List Value).toArray below meth c s.heap [] 0 0 (z_MQ below (z_pu (.inl (some (.int (an_sum k S I F 0 (-1) v))))) ([.ref mo, .int v, .int 0] : List Value).toArray s zrA.cells zrA.slots (fun _ => False)) (F0 m 5 ls []) := by
    intro dd
    induction dd with
    | zero =>
      intro i t ls hi9 ht_t hl
      have hi9 : k = i := by omega
      subst hi9
      refine lv_iload hx hb d_MO_returnsOf_5 (lv_at hl 4 rfl) ?_
      refine lv_aload_n hx hb d_MO_returnsOf_7 rfl (lv_at hl 0 rfl) ?_
      refine z_get (ci := 3) (C := R_MO) (T := F_MO) (N := 23) hx hb hts j_MO hown hK hS hM.ob rfl 3 (by decide) (hk k_511 rfl) (fun _ h9 => h9) rfl d_MO_returnsOf_8 ?_
      refine lv_icmp_gt (tgt := 58) hx hb d_MO_returnsOf_11 (by decide) (fun c_1 => ?_) (fun c_1 => absurd (nI_lt (Nat.lt_succ_self k) (by omega)) c_1)
      refine lv_iload_n hx hb d_MO_returnsOf_58 rfl (lv_at hl 3 rfl) ?_
      exact z_Piret hx hb hr rfl hlk hg (by rw [ht_t, ← z_sm_20 hk20 (fun j hj => if_neg (fun h => Nat.not_lt.mpr hj h.1))]; rfl) (by decide) (by decide) d_MO_returnsOf_59
    | succ dd ih =>
      intro i t ls hi9 ht_t hl
      have hik : i < k := by omega
      refine lv_iload hx hb d_MO_returnsOf_5 (lv_at hl 4 rfl) ?_
      refine lv_aload_n hx hb d_MO_returnsOf_7 rfl (lv_at hl 0 rfl) ?_
      refine z_get (ci := 3) (C := R_MO) (T := F_MO) (N := 23) hx hb hts j_MO hown hK hS hM.ob rfl 3 (by decide) (hk k_511 rfl) (fun _ h9 => h9) rfl d_MO_returnsOf_8 ?_
      refine lv_icmp_gt (tgt := 58) hx hb d_MO_returnsOf_11 (by decide) (fun c_2 => absurd c_2 (nI_nlt (show i + 1 ≤ k by omega) (by omega))) (fun c_2 => ?_)
      refine lv_iload_n hx hb d_MO_returnsOf_14 rfl (lv_at hl 3 rfl) ?_
      refine lv_aload_n hx hb d_MO_returnsOf_15 rfl (lv_at hl 0 rfl) ?_
      refine z_get (ci := 3) (C := R_MO) (T := F_MO) (N := 23) hx hb hts j_MO hown hK hS hM.ob rfl 4 (by decide) (hk k_507 rfl) (fun _ h9 => h9) rfl d_MO_returnsOf_16 ?_
      refine lv_aload_n hx hb d_MO_returnsOf_19 rfl (lv_at hl 0 rfl) ?_
      refine z_get (ci := 3) (C := R_MO) (T := F_MO) (N := 23) hx hb hts j_MO hown hK hS hM.ob rfl 8 (by decide) (hk k_512 rfl) (fun _ h9 => h9) rfl d_MO_returnsOf_20 ?_
      refine lv_iload hx hb d_MO_returnsOf_23 (lv_at hl 4 rfl) ?_
      refine mo_ldI hx hb hK hS hM hik d_MO_returnsOf_25 ?_
      refine mo_lds hx hb hK hS hM 4 (hIn i hik) (by decide) rfl d_MO_returnsOf_26 ?_
      refine lv_iload_n hx hb d_MO_returnsOf_27 rfl (lv_at hl 1 rfl) ?_
      refine lv_icmp_ne (tgt := 49) hx hb d_MO_returnsOf_28 (by decide) (fun c_3 => ?_) (fun c_3 => ?_)
      · refine lv_iconst (v := 0) hx hb d_MO_returnsOf_49 (by decide) ?_
        refine lv_iadd hx hb d_MO_returnsOf_50 ?_
        refine lv_istore_n (lv' := [(3, .int (t + 0)), (0, .ref mo), (1, .int v), (2, .int 0), (4, .int (nI (i + 1)))]) hx hb d_MO_returnsOf_51 rfl hl (by decide) rfl (fun ls hl => ?_)
        refine lv_iinc (v := (nI (i + 1)) + 1) (lv' := [(4, .int ((nI (i + 1)) + 1)), (3, .int (t + 0)), (0, .ref mo), (1, .int v), (2, .int 0)]) hx hb d_MO_returnsOf_52 hl (k := 4) rfl rfl (by decide) rfl (fun ls hl => ?_)
        refine lv_goto (tgt := 5) hx hb d_MO_returnsOf_55 (by decide) ?_
        exact ih (i + 1) (t + 0) ls (by omega) (by rw [z_smS, ← ht_t]; simp [hik, c_3, (show ¬ v = S (I i) 1 from fun h9 => c_3 h9.symm), z_of, z_me, hc1]) (by rw [nI_1] at hl; exact lv_sub hl [2, 3, 4, 1, 0] rfl)
      · refine lv_aload_n hx hb d_MO_returnsOf_31 rfl (lv_at hl 0 rfl) ?_
        refine z_get (ci := 3) (C := R_MO) (T := F_MO) (N := 23) hx hb hts j_MO hown hK hS hM.ob rfl 14 (by decide) (hk k_518 rfl) (fun _ h9 => h9) rfl d_MO_returnsOf_32 ?_
        refine lv_iload hx hb d_MO_returnsOf_35 (lv_at hl 4 rfl) ?_
        refine mo_ldb (v := F i 6) hx hb hK hS hM 14 hik (by decide) rfl d_MO_returnsOf_37 ?_
        refine lv_if_ne (tgt := 45) hx hb d_MO_returnsOf_38 (by decide) (fun c_4 => ?_) (fun c_4 => ?_)
        · refine lv_iconst (v := 1) hx hb d_MO_returnsOf_45 (by decide) ?_
          refine lv_goto (tgt := 50) hx hb d_MO_returnsOf_46 (by decide) ?_
          refine lv_iadd hx hb d_MO_returnsOf_50 ?_
          refine lv_istore_n (lv' := [(3, .int (t + 1)), (0, .ref mo), (1, .int v), (2, .int 0), (4, .int (nI (i + 1)))]) hx hb d_MO_returnsOf_51 rfl hl (by decide) rfl (fun ls hl => ?_)
          refine lv_iinc (v := (nI (i + 1)) + 1) (lv' := [(4, .int ((nI (i + 1)) + 1)), (3, .int (t + 1)), (0, .ref mo), (1, .int v), (2, .int 0)]) hx hb d_MO_returnsOf_52 hl (k := 4) rfl rfl (by decide) rfl (fun ls hl => ?_)
          refine lv_goto (tgt := 5) hx hb d_MO_returnsOf_55 (by decide) ?_
          exact ih (i + 1) (t + 1) ls (by omega) (by rw [z_smS, ← ht_t]; simp [hik, c_3, c_4, (show ¬ (0 : Int32) = F i 6 from fun h9 => c_4 h9.symm), z_of, z_me, hc1]) (by rw [nI_1] at hl; exact lv_sub hl [2, 3, 4, 1, 0] rfl)
        · refine lv_iload_n hx hb d_MO_returnsOf_41 rfl (lv_at hl 2 rfl) ?_
          refine lv_if_ne (tgt := 49) hx hb d_MO_returnsOf_42 (by decide) (fun c_5 => absurd (by decide) c_5) (fun c_5 => ?_)
          refine lv_iconst (v := 1) hx hb d_MO_returnsOf_45 (by decide) ?_
          refine lv_goto (tgt := 50) hx hb d_MO_returnsOf_46 (by decide) ?_
          refine lv_iadd hx hb d_MO_returnsOf_50 ?_
          refine lv_istore_n (lv' := [(3, .int (t + 1)), (0, .ref mo), (1, .int v), (2, .int 0), (4, .int (nI (i + 1)))]) hx hb d_MO_returnsOf_51 rfl hl (by decide) rfl (fun ls hl => ?_)
          refine lv_iinc (v := (nI (i + 1)) + 1) (lv' := [(4, .int ((nI (i + 1)) + 1)), (3, .int (t + 1)), (0, .ref mo), (1, .int v), (2, .int 0)]) hx hb d_MO_returnsOf_52 hl (k := 4) rfl rfl (by decide) rfl (fun ls hl => ?_)
          refine lv_goto (tgt := 5) hx hb d_MO_returnsOf_55 (by decide) ?_
          exact ih (i + 1) (t + 1) ls (by omega) (by rw [z_smS, ← ht_t]; simp [hik, c_3, c_4, z_of, z_me, hc1]) (by rw [nI_1] at hl; exact lv_sub hl [2, 3, 4, 1, 0] rfl)
  exact hloop k 0 0 ls (Nat.zero_add _) rfl (lv_sub hl [2, 3, 4, 1, 0] rfl)
set_option maxHeartbeats 4000000 in
set_option maxRecDepth 100000 in
theorem c_MO_returnsOf_1 (l : Launch) (hl9 : l.stackTraces = false) {D : va_G} {cS cR cJ cI cZ : ClassId} {lo tP : Nat} (v : Int32) {mo : Nat} {ad : Nat → Nat} {n k : Nat} {td code0 : Int32} {S : Nat → Nat → Int32} {I : Nat → Nat} {F : Nat → Nat → Int32} {X : zM} (hM : MI mo ad cI cZ n k td code0 S I F X) (hc1 : ¬ v = -1) (hbl : ∀ j, j < k → F j 6 = 0 ∨ F j 6 = 1) : z_P (z_G lo tP) D cls4 (zty cS cR cJ cI cZ) lo l y_MO_returnsOf w_MO_returnsOf zrA [.ref mo, .int v, .int 1] X (.inl (some (.int (an_sum k S I F 3 (-1) v)))) := by
  refine z_ofW (by decide) ?_
  intro p e s m args below meth c s₁ B hml hout hv
  obtain ⟨rfl, hG, hK, hW0, hXl, hlo⟩ := hv
  have hx := B.exec
  have hb := B.bytes
  have hr := B.returns
  have hlk := B.notSynchronized
  have hown : s.vm.findClass R_MO = some m.cls := findClass_of_methodNamed B.named
  have hts : ∀ w9 ∈ z_tb, w9.before ([.ref mo, .int v, .int 1] : List Value).toArray s = true := hG.ts _
  have hk : ∀ {w9 : Cond}, w9 ∈ lw_tbl → z_ok w9 = true → w9.before ([.ref mo, .int v, .int 1] : List Value).toArray s = true := fun h1 h2 => hG.w h1 h2 _
  have hg : z_Gr s.heap s.heap := z_Gr.rf
  have hS := z_S.start hW0 hXl hlo
  have hl := lv_entry ([.ref mo, .int v, .int 1]) (n := 5) (Nat.le_of_ble_eq_true rfl)
  rw [lg_entry_eq]
  generalize (lg_sl ([.ref mo, .int v, .int 1]) ++ List.replicate (5 - (lg_sl ([.ref mo, .int v, .int 1])).length) Slot.unset).toArray = ls at hl ⊢
  have hl : lv_has ls 5 [(0, .ref mo), (1, .int v), (2, .int 1)] := hl
  have hIn := hM.idx
  have hn20 := hM.n20
  have hk20 := hM.k20
  have hF : zFr 1 X X := zFr.rf
  refine lv_iconst (v := 0) hx hb d_MO_returnsOf_0 (by decide) ?_
  refine lv_istore_n (lv' := [(3, .int 0), (0, .ref mo), (1, .int v), (2, .int 1)]) hx hb d_MO_returnsOf_1 rfl hl (by decide) rfl (fun ls hl => ?_)
  refine lv_iconst (v := 1) hx hb d_MO_returnsOf_2 (by decide) ?_
  refine lv_istore (lv' := [(4, .int 1), (3, .int 0), (0, .ref mo), (1, .int v), (2, .int 1)]) hx hb d_MO_returnsOf_3 hl (by decide) rfl (fun ls hl => ?_)
  have hloop : ∀ (dd i : Nat) (t : Int32) (ls : Array Slot), i + dd = k → t = z_sm (fun j => if j < k ∧ z_of (-1) v (S (I j)) (F j) then z_me 3 (F j) else 0) i → lv_has ls 5 [(0, .ref mo), (1, .int v), (2, .int 1), (3, .int t), (4, .int (nI (i + 1)))] → W p l e zrA s m ([.ref mo, .int v, .int 1] : List Value).toArray below meth c s.heap [] 0 0 (z_MQ below (z_pu (.inl (some (.int (an_sum k S I F 3 (-1) v))))) ([.ref mo, .int v, .int 1] : List Value).toArray s zrA.cells zrA.slots (fun _ => False)) (F0 m 5 ls []) := by
    intro dd
    induction dd with
    | zero =>
      intro i t ls hi9 ht_t hl
      have hi9 : k = i := by omega
      subst hi9
      refine lv_iload hx hb d_MO_returnsOf_5 (lv_at hl 4 rfl) ?_
      refine lv_aload_n hx hb d_MO_returnsOf_7 rfl (lv_at hl 0 rfl) ?_
      refine z_get (ci := 3) (C := R_MO) (T := F_MO) (N := 23) hx hb hts j_MO hown hK hS hM.ob rfl 3 (by decide) (hk k_511 rfl) (fun _ h9 => h9) rfl d_MO_returnsOf_8 ?_
      refine lv_icmp_gt (tgt := 58) hx hb d_MO_returnsOf_11 (by decide) (fun c_1 => ?_) (fun c_1 => absurd (nI_lt (Nat.lt_succ_self k) (by omega)) c_1)
      refine lv_iload_n hx hb d_MO_returnsOf_58 rfl (lv_at hl 3 rfl) ?_
      exact z_Piret hx hb hr rfl hlk hg (by rw [ht_t, ← z_sm_20 hk20 (fun j hj => if_neg (fun h => Nat.not_lt.mpr hj h.1))]; rfl) (by decide) (by decide) d_MO_returnsOf_59
    | succ dd ih =>
      intro i t ls hi9 ht_t hl
      have hik : i < k := by omega
      refine lv_iload hx hb d_MO_returnsOf_5 (lv_at hl 4 rfl) ?_
      refine lv_aload_n hx hb d_MO_returnsOf_7 rfl (lv_at hl 0 rfl) ?_
      refine z_get (ci := 3) (C := R_MO) (T := F_MO) (N := 23) hx hb hts j_MO hown hK hS hM.ob rfl 3 (by decide) (hk k_511 rfl) (fun _ h9 => h9) rfl d_MO_returnsOf_8 ?_
      refine lv_icmp_gt (tgt := 58) hx hb d_MO_returnsOf_11 (by decide) (fun c_2 => absurd c_2 (nI_nlt (show i + 1 ≤ k by omega) (by omega))) (fun c_2 => ?_)
      refine lv_iload_n hx hb d_MO_returnsOf_14 rfl (lv_at hl 3 rfl) ?_
      refine lv_aload_n hx hb d_MO_returnsOf_15 rfl (lv_at hl 0 rfl) ?_
      refine z_get (ci := 3) (C := R_MO) (T := F_MO) (N := 23) hx hb hts j_MO hown hK hS hM.ob rfl 4 (by decide) (hk k_507 rfl) (fun _ h9 => h9) rfl d_MO_returnsOf_16 ?_
      refine lv_aload_n hx hb d_MO_returnsOf_19 rfl (lv_at hl 0 rfl) ?_
      refine z_get (ci := 3) (C := R_MO) (T := F_MO) (N := 23) hx hb hts j_MO hown hK hS hM.ob rfl 8 (by decide) (hk k_512 rfl) (fun _ h9 => h9) rfl d_MO_returnsOf_20 ?_
      refine lv_iload hx hb d_MO_returnsOf_23 (lv_at hl 4 rfl) ?_
      refine mo_ldI hx hb hK hS hM hik d_MO_returnsOf_25 ?_
      refine mo_lds hx hb hK hS hM 4 (hIn i hik) (by decide) rfl d_MO_returnsOf_26 ?_
      refine lv_iload_n hx hb d_MO_returnsOf_27 rfl (lv_at hl 1 rfl) ?_
      refine lv_icmp_ne (tgt := 49) hx hb d_MO_returnsOf_28 (by decide) (fun c_3 => ?_) (fun c_3 => ?_)
      · refine lv_iconst (v := 0) hx hb d_MO_returnsOf_49 (by decide) ?_
        refine lv_iadd hx hb d_MO_returnsOf_50 ?_
        refine lv_istore_n (lv' := [(3, .int (t + 0)), (0, .ref mo), (1, .int v), (2, .int 1), (4, .int (nI (i + 1)))]) hx hb d_MO_returnsOf_51 rfl hl (by decide) rfl (fun ls hl => ?_)
        refine lv_iinc (v := (nI (i + 1)) + 1) (lv' := [(4, .int ((nI (i + 1)) + 1)), (3, .int (t + 0)), (0, .ref mo), (1, .int v), (2, .int 1)]) hx hb d_MO_returnsOf_52 hl (k := 4) rfl rfl (by decide) rfl (fun ls hl => ?_)
        refine lv_goto (tgt := 5) hx hb d_MO_returnsOf_55 (by decide) ?_
        exact ih (i + 1) (t + 0) ls (by omega) (by rw [z_smS, ← ht_t]; simp [hik, c_3, (show ¬ v = S (I i) 1 from fun h9 => c_3 h9.symm), z_of, z_me, hc1]) (by rw [nI_1] at hl; exact lv_sub hl [2, 3, 4, 1, 0] rfl)
      · refine lv_aload_n hx hb d_MO_returnsOf_31 rfl (lv_at hl 0 rfl) ?_
        refine z_get (ci := 3) (C := R_MO) (T := F_MO) (N := 23) hx hb hts j_MO hown hK hS hM.ob rfl 14 (by decide) (hk k_518 rfl) (fun _ h9 => h9) rfl d_MO_returnsOf_32 ?_
        refine lv_iload hx hb d_MO_returnsOf_35 (lv_at hl 4 rfl) ?_
        refine mo_ldb (v := F i 6) hx hb hK hS hM 14 hik (by decide) rfl d_MO_returnsOf_37 ?_
        refine lv_if_ne (tgt := 45) hx hb d_MO_returnsOf_38 (by decide) (fun c_4 => ?_) (fun c_4 => ?_)
        · refine lv_iconst (v := 1) hx hb d_MO_returnsOf_45 (by decide) ?_
          refine lv_goto (tgt := 50) hx hb d_MO_returnsOf_46 (by decide) ?_
          refine lv_iadd hx hb d_MO_returnsOf_50 ?_
          refine lv_istore_n (lv' := [(3, .int (t + 1)), (0, .ref mo), (1, .int v), (2, .int 1), (4, .int (nI (i + 1)))]) hx hb d_MO_returnsOf_51 rfl hl (by decide) rfl (fun ls hl => ?_)
          refine lv_iinc (v := (nI (i + 1)) + 1) (lv' := [(4, .int ((nI (i + 1)) + 1)), (3, .int (t + 1)), (0, .ref mo), (1, .int v), (2, .int 1)]) hx hb d_MO_returnsOf_52 hl (k := 4) rfl rfl (by decide) rfl (fun ls hl => ?_)
          refine lv_goto (tgt := 5) hx hb d_MO_returnsOf_55 (by decide) ?_
          exact ih (i + 1) (t + 1) ls (by omega) (by rw [z_smS, ← ht_t]; simp [hik, c_3, c_4, (show ¬ (0 : Int32) = F i 6 from fun h9 => c_4 h9.symm), z_of, z_me, hc1]) (by rw [nI_1] at hl; exact lv_sub hl [2, 3, 4, 1, 0] rfl)
        · refine lv_iload_n hx hb d_MO_returnsOf_41 rfl (lv_at hl 2 rfl) ?_
          refine lv_if_ne (tgt := 49) hx hb d_MO_returnsOf_42 (by decide) (fun c_5 => ?_) (fun c_5 => absurd c_5 (by decide))
          refine lv_iconst (v := 0) hx hb d_MO_returnsOf_49 (by decide) ?_
          refine lv_iadd hx hb d_MO_returnsOf_50 ?_
          refine lv_istore_n (lv' := [(3, .int (t + 0)), (0, .ref mo), (1, .int v), (2, .int 1), (4, .int (nI (i + 1)))]) hx hb d_MO_returnsOf_51 rfl hl (by decide) rfl (fun ls hl => ?_)
          refine lv_iinc (v := (nI (i + 1)) + 1) (lv' := [(4, .int ((nI (i + 1)) + 1)), (3, .int (t + 0)), (0, .ref mo), (1, .int v), (2, .int 1)]) hx hb d_MO_returnsOf_52 hl (k := 4) rfl rfl (by decide) rfl (fun ls hl => ?_)
          refine lv_goto (tgt := 5) hx hb d_MO_returnsOf_55 (by decide) ?_
          exact ih (i + 1) (t + 0) ls (by omega) (by rw [z_smS, ← ht_t]; simp [hik, c_3, c_4, z_of, z_me, hc1]) (by rw [nI_1] at hl; exact lv_sub hl [2, 3, 4, 1, 0] rfl)
  exact hloop k 0 0 ls (Nat.zero_add _) rfl (lv_sub hl [2, 3, 4, 1, 0] rfl)
theorem z_hr0 {b : Int32} {k i0 : Nat} {I : Nat → Nat} (h : (b = 1 ∧ ∃ j, j < k ∧ I j = i0) ∨ (b = 0 ∧ ∀ j, j < k → ¬ I j = i0)) (hn : ∀ j, j < k → ¬ I j = i0) : (.inl (some (.int b)) : zR) = .inl (some (.int 0)) := by
  rcases h with ⟨-, j, hj, hv⟩ | ⟨rfl, -⟩
  · exact absurd hv (hn j hj)
  · rfl
theorem z_hr1 {b : Int32} {k i i0 : Nat} {I : Nat → Nat} (h : (b = 1 ∧ ∃ j, j < k ∧ I j = i0) ∨ (b = 0 ∧ ∀ j, j < k → ¬ I j = i0)) (hi : i < k) (hv : I i = i0) : (.inl (some (.int b)) : zR) = .inl (some (.int 1)) := by
  rcases h with ⟨rfl, -⟩ | ⟨-, hn⟩
  · rfl
  · exact absurd hv (hn i hi)
set_option maxHeartbeats 4000000 in
set_option maxRecDepth 100000 in
theorem c_MO_hasReturn (l : Launch) (hl9 : l.stackTraces = false) {D : va_G} {cS cR cJ cI cZ : ClassId} {lo tP : Nat} {i0 : Nat} (b9 : Int32) {mo : Nat} {ad : Nat → Nat} {n k : Nat} {td code0 : Int32} {S : Nat → Nat → Int32} {I : Nat → Nat} {F : Nat → Nat → Int32} {X : zM} (hM : MI mo ad cI cZ n k td code0 S I F X) (hi0 : i0 < n) (hbv : (b9 = 1 ∧ ∃ j, j < k ∧ I j = i0) ∨ (b9 = 0 ∧ ∀ j, j < k → ¬ I j = i0)) : z_P (z_G lo tP) D cls4 (zty cS cR cJ cI cZ) lo l y_MO_hasReturn w_MO_hasReturn zrA [.ref mo, .int (nI i0)] X (.inl (some (.int b9))) := by
  refine z_ofW (by decide) ?_
  intro p e s m args below meth c s₁ B hml hout hv
  obtain ⟨rfl, hG, hK, hW0, hXl, hlo⟩ := hv
  have hx := B.exec
  have hb := B.bytes
  have hr := B.returns
  have hlk := B.notSynchronized
  have hown : s.vm.findClass R_MO = some m.cls := findClass_of_methodNamed B.named
  have hts : ∀ w9 ∈ z_tb, w9.before ([.ref mo, .int (nI i0)] : List Value).toArray s = true := hG.ts _
  have hk : ∀ {w9 : Cond}, w9 ∈ lw_tbl → z_ok w9 = true → w9.before ([.ref mo, .int (nI i0)] : List Value).toArray s = true := fun h1 h2 => hG.w h1 h2 _
  have hg : z_Gr s.heap s.heap := z_Gr.rf
  have hS := z_S.start hW0 hXl hlo
  have hl := lv_entry ([.ref mo, .int (nI i0)]) (n := 3) (Nat.le_of_ble_eq_true rfl)
  rw [lg_entry_eq]
  generalize (lg_sl ([.ref mo, .int (nI i0)]) ++ List.replicate (3 - (lg_sl ([.ref mo, .int (nI i0)])).length) Slot.unset).toArray = ls at hl ⊢
  have hl : lv_has ls 3 [(0, .ref mo), (1, .int (nI i0))] := hl
  have hIn := hM.idx
  have hn20 := hM.n20
  have hk20 := hM.k20
  have hF : zFr 1 X X := zFr.rf
  refine lv_iconst (v := 1) hx hb d_MO_hasReturn_0 (by decide) ?_
  refine lv_istore_n (lv' := [(2, .int 1), (0, .ref mo), (1, .int (nI i0))]) hx hb d_MO_hasReturn_1 rfl hl (by decide) rfl (fun ls hl => ?_)
  have hloop : ∀ (dd i : Nat) (ls : Array Slot), i + dd = k → (∀ j, j < i → ¬ I j = i0) → lv_has ls 3 [(0, .ref mo), (1, .int (nI i0)), (2, .int (nI (i + 1)))] → W p l e zrA s m ([.ref mo, .int (nI i0)] : List Value).toArray below meth c s.heap [] 0 0 (z_MQ below (z_pu (.inl (some (.int b9)))) ([.ref mo, .int (nI i0)] : List Value).toArray s zrA.cells zrA.slots (fun _ => False)) (F0 m 2 ls []) := by
    intro dd
    induction dd with
    | zero =>
      intro i ls hi9 hex hl
      have hi9 : k = i := by omega
      subst hi9
      refine lv_iload_n hx hb d_MO_hasReturn_2 rfl (lv_at hl 2 rfl) ?_
      refine lv_aload_n hx hb d_MO_hasReturn_3 rfl (lv_at hl 0 rfl) ?_
      refine z_get (ci := 3) (C := R_MO) (T := F_MO) (N := 23) hx hb hts j_MO hown hK hS hM.ob rfl 3 (by decide) (hk k_511 rfl) (fun _ h9 => h9) rfl d_MO_hasReturn_4 ?_
      refine lv_icmp_gt (tgt := 28) hx hb d_MO_hasReturn_7 (by decide) (fun c_1 => ?_) (fun c_1 => absurd (nI_lt (Nat.lt_succ_self k) (by omega)) c_1)
      refine lv_iconst (v := 0) hx hb d_MO_hasReturn_28 (by decide) ?_
      exact z_Piret hx hb hr rfl hlk hg (z_hr0 hbv (fun j hj => hex j hj)) (by decide) (by decide) d_MO_hasReturn_29
    | succ dd ih =>
      intro i ls hi9 hex hl
      have hik : i < k := by omega
      refine lv_iload_n hx hb d_MO_hasReturn_2 rfl (lv_at hl 2 rfl) ?_
      refine lv_aload_n hx hb d_MO_hasReturn_3 rfl (lv_at hl 0 rfl) ?_
      refine z_get (ci := 3) (C := R_MO) (T := F_MO) (N := 23) hx hb hts j_MO hown hK hS hM.ob rfl 3 (by decide) (hk k_511 rfl) (fun _ h9 => h9) rfl d_MO_hasReturn_4 ?_
      refine lv_icmp_gt (tgt := 28) hx hb d_MO_hasReturn_7 (by decide) (fun c_2 => absurd c_2 (nI_nlt (show i + 1 ≤ k by omega) (by omega))) (fun c_2 => ?_)
      refine lv_aload_n hx hb d_MO_hasReturn_10 rfl (lv_at hl 0 rfl) ?_
      refine z_get (ci := 3) (C := R_MO) (T := F_MO) (N := 23) hx hb hts j_MO hown hK hS hM.ob rfl 8 (by decide) (hk k_512 rfl) (fun _ h9 => h9) rfl d_MO_hasReturn_11 ?_
      refine lv_iload_n hx hb d_MO_hasReturn_14 rfl (lv_at hl 2 rfl) ?_
      refine mo_ldI hx hb hK hS hM hik d_MO_hasReturn_15 ?_
      refine lv_iload_n hx hb d_MO_hasReturn_16 rfl (lv_at hl 1 rfl) ?_
      refine lv_icmp_ne (tgt := 22) hx hb d_MO_hasReturn_17 (by decide) (fun c_3 => ?_) (fun c_3 => ?_)
      · refine lv_iinc (v := (nI (i + 1)) + 1) (lv' := [(2, .int ((nI (i + 1)) + 1)), (0, .ref mo), (1, .int (nI i0))]) hx hb d_MO_hasReturn_22 hl (k := 2) rfl rfl (by decide) rfl (fun ls hl => ?_)
        refine lv_goto (tgt := 2) hx hb d_MO_hasReturn_25 (by decide) ?_
        exact ih (i + 1) ls (by omega) (fun j hj => by rcases Nat.lt_succ_iff_lt_or_eq.mp hj with h | h; exact hex j h; rw [h]; exact fun q => c_3 (by rw [q])) (by rw [nI_1] at hl; exact lv_sub hl [1, 2, 0] rfl)
      · refine lv_iconst (v := 1) hx hb d_MO_hasReturn_20 (by decide) ?_
        exact z_Piret hx hb hr rfl hlk hg (z_hr1 hbv hik ((nI_eq (Nat.lt_trans (hIn i hik) (by omega)) (by omega)).mp c_3)) (by decide) (by decide) d_MO_hasReturn_21
  exact hloop k 0 ls (Nat.zero_add _) (fun j hj => absurd hj (Nat.not_lt_zero j)) (lv_sub hl [1, 2, 0] rfl)
/-- a call inside the reference that answers nothing -/
def zW (N : zM → Prop) (X : zM) (r : zR) (X9 : zM) : Prop := r = .inl none ∧ N X9 ∧ zFr 1 X X9
section M3
variable {p : Program} {l : Launch} {e : Env} {R : Room} {s : State} {m : MethodId} {args : Array Value} {below : List Frame} {meth : Method} {c : Code} {H : Heap} {locs : List Loc} {cells slots : Nat} {Q : State → Prop}
variable {cc : ByteArray} {pc : Nat} {ls : Array Slot} {rest st0 : List Value} {D : va_G} {cl : List vw_C} {lo a : Nat} {tys : List (ClassId × FieldType)} {X0 X : zM} {G : State → Prop}
variable {y : MethodName} {w : Cond} {rm : Room} {maxL : Nat} {av : List Value} {ig : Instr}
theorem z_wm {N : zM → Prop} (hI : z_In p l e R s m args below meth c H (F0 m pc ls st0) rest y av.toArray) (hb : c.code = cc) (hsize : ls.size = c.maxLocals) (hM : z_C G D cl tys lo l y w rm av X (zW N X)) (hGk : z_Gk G lo) (hG : G s) (hK : va_K D cl tys s) (hS : z_S D cl lo X0 s.heap X H locs) (cw : z_Cw R s args y w rm maxL)
    (hdg : decode cc pc = .ok (ig, 3)) (hW : (rest.map fun v => v.category).sum ≤ 8) (hc1 : cells + rm.cells ≤ R.cells) (hs1 : slots + rm.slots ≤ R.slots)
    (k1 : ∀ (H1 : Heap) (locs1 : List Loc) (X1 : zM), z_S D cl lo X0 s.heap X1 H1 locs1 → N X1 → zFr 1 X X1 → W p l e R s m args below meth c H1 locs1 (cells + rm.cells) (slots + rm.slots) Q (F0 m (pc + 3) ls rest)) :
    W p l e R s m args below meth c H locs cells slots Q (F0 m pc ls st0) := by
  refine z_w hI hb hsize hM hGk hG hK hS cw hdg hW hc1 hs1 (fun v X' H1 locs1 hP _ hS1 _ _ => ?_) (fun E x X' H1 locs1 hP _ _ _ _ _ => ?_)
  · obtain ⟨e1, e2, e3⟩ := hP
    cases e1
    exact k1 H1 locs1 X' hS1 e2 e3
  · obtain ⟨e1, -⟩ := hP
    cases e1
end M3
set_option maxHeartbeats 4000000 in
set_option maxRecDepth 100000 in
theorem c_MO_regrade (l : Launch) (hl9 : l.stackTraces = false) {D : va_G} {cS cR cJ cI cZ : ClassId} {lo tP : Nat} (g : Int32) {f : Nat → Int32} {j : Nat} {mo : Nat} {ad : Nat → Nat} {n k : Nat} {td code0 : Int32} {S : Nat → Nat → Int32} {I : Nat → Nat} {F : Nat → Nat → Int32} {X : zM} (hM : MI mo ad cI cZ n k td code0 S I (zfr F j f) X) (hj : j < k) : z_C (z_G lo tP) D cls4 (zty cS cR cJ cI cZ) lo l y_MO_regrade w_MO_regrade zrA [.ref mo, .int (nI (j + 1)), .int g] X (zW (MI mo ad cI cZ n k td code0 S I (zfr F j (z_tg f g))) X) := by
  refine z_ofW (by decide) ?_
  intro p e s m args below meth c s₁ B hml hout hv
  obtain ⟨rfl, hG, hK, hW0, hXl, hlo⟩ := hv
  have hx := B.exec
  have hb := B.bytes
  have hr := B.returns
  have hlk := B.notSynchronized
  have hown : s.vm.findClass R_MO = some m.cls := findClass_of_methodNamed B.named
  have hts : ∀ w9 ∈ z_tb, w9.before ([.ref mo, .int (nI (j + 1)), .int g] : List Value).toArray s = true := hG.ts _
  have hk : ∀ {w9 : Cond}, w9 ∈ lw_tbl → z_ok w9 = true → w9.before ([.ref mo, .int (nI (j + 1)), .int g] : List Value).toArray s = true := fun h1 h2 => hG.w h1 h2 _
  have hg : z_Gr s.heap s.heap := z_Gr.rf
  have hS := z_S.start hW0 hXl hlo
  have hl := lv_entry ([.ref mo, .int (nI (j + 1)), .int g]) (n := 3) (Nat.le_of_ble_eq_true rfl)
  rw [lg_entry_eq]
  generalize (lg_sl ([.ref mo, .int (nI (j + 1)), .int g]) ++ List.replicate (3 - (lg_sl ([.ref mo, .int (nI (j + 1)), .int g])).length) Slot.unset).toArray = ls at hl ⊢
  have hl : lv_has ls 3 [(0, .ref mo), (1, .int (nI (j + 1))), (2, .int g)] := hl
  have hIn := hM.idx
  have hn20 := hM.n20
  have hk20 := hM.k20
  have hF : zFr 1 X X := zFr.rf
  refine lv_aload_n hx hb d_MO_regrade_0 rfl (lv_at hl 0 rfl) ?_
  refine z_get (ci := 3) (C := R_MO) (T := F_MO) (N := 23) hx hb hts j_MO hown hK hS hM.ob rfl 16 (by decide) (hk k_520 rfl) (fun _ h9 => h9) rfl d_MO_regrade_1 ?_
  refine lv_iload_n hx hb d_MO_regrade_4 rfl (lv_at hl 1 rfl) ?_
  refine lv_aload_n hx hb d_MO_regrade_5 rfl (lv_at hl 0 rfl) ?_
  refine z_get (ci := 3) (C := R_MO) (T := F_MO) (N := 23) hx hb hts j_MO hown hK hS hM.ob rfl 15 (by decide) (hk k_519 rfl) (fun _ h9 => h9) rfl d_MO_regrade_6 ?_
  refine lv_iload_n hx hb d_MO_regrade_9 rfl (lv_at hl 1 rfl) ?_
  refine mo_ld (v := f 8) hx hb hK hS hM 15 hj (by decide) (by rw [zfr_at]; rfl) d_MO_regrade_10 ?_
  refine mo_st hx hb hK hS hM 16 hj (by decide) (t := 9) rfl d_MO_regrade_11 (fun H locs X_1 hS hM hF_2 => ?_)
  have hF := hF.tr hF_2
  refine lv_aload_n hx hb d_MO_regrade_12 rfl (lv_at hl 0 rfl) ?_
  refine z_get (ci := 3) (C := R_MO) (T := F_MO) (N := 23) hx hb hts j_MO hown hK hS hM.ob rfl 15 (by decide) (hk k_519 rfl) (fun _ h9 => h9) rfl d_MO_regrade_13 ?_
  refine lv_iload_n hx hb d_MO_regrade_16 rfl (lv_at hl 1 rfl) ?_
  refine lv_iload_n hx hb d_MO_regrade_17 rfl (lv_at hl 2 rfl) ?_
  refine mo_st hx hb hK hS hM 15 hj (by decide) (t := 8) rfl d_MO_regrade_18 (fun H locs X_3 hS hM hF_4 => ?_)
  have hF := hF.tr hF_4
  refine lv_aload_n hx hb d_MO_regrade_19 rfl (lv_at hl 0 rfl) ?_
  refine z_get (ci := 3) (C := R_MO) (T := F_MO) (N := 23) hx hb hts j_MO hown hK hS hM.ob rfl 17 (by decide) (hk k_521 rfl) (fun _ h9 => h9) rfl d_MO_regrade_20 ?_
  refine lv_iload_n hx hb d_MO_regrade_23 rfl (lv_at hl 1 rfl) ?_
  refine lv_aload_n hx hb d_MO_regrade_24 rfl (lv_at hl 0 rfl) ?_
  refine z_get (ci := 3) (C := R_MO) (T := F_MO) (N := 23) hx hb hts j_MO hown hK hS hM.ob rfl 17 (by decide) (hk k_521 rfl) (fun _ h9 => h9) rfl d_MO_regrade_25 ?_
  refine lv_iload_n hx hb d_MO_regrade_28 rfl (lv_at hl 1 rfl) ?_
  refine mo_ld (v := f 10) hx hb hK hS hM 17 hj (by decide) (by rw [zfr_at]; rfl) d_MO_regrade_29 ?_
  refine lv_iconst (v := (-1)) hx hb d_MO_regrade_30 (by decide) ?_
  refine lv_icmp_eq (tgt := 44) hx hb d_MO_regrade_31 (by decide) (fun c_5 => ?_) (fun c_5 => ?_)
  · refine lv_iload_n hx hb d_MO_regrade_44 rfl (lv_at hl 2 rfl) ?_
    refine lv_goto (tgt := 54) hx hb d_MO_regrade_45 (by decide) ?_
    refine mo_st hx hb hK hS hM 17 hj (by decide) (t := 10) rfl d_MO_regrade_54 (fun H locs X_6 hS hM hF_7 => ?_)
    have hF := hF.tr hF_7
    exact z_Cvret hx hb hr hlk hS (⟨rfl, by rw [z_tg_s f g _ (if_pos (Or.inl c_5)).symm] at hM; exact hM, hF⟩) (by decide) (by decide) d_MO_regrade_55
  · refine lv_iload_n hx hb d_MO_regrade_34 rfl (lv_at hl 2 rfl) ?_
    refine lv_aload_n hx hb d_MO_regrade_35 rfl (lv_at hl 0 rfl) ?_
    refine z_get (ci := 3) (C := R_MO) (T := F_MO) (N := 23) hx hb hts j_MO hown hK hS hM.ob rfl 17 (by decide) (hk k_521 rfl) (fun _ h9 => h9) rfl d_MO_regrade_36 ?_
    refine lv_iload_n hx hb d_MO_regrade_39 rfl (lv_at hl 1 rfl) ?_
    refine mo_ld (v := f 10) hx hb hK hS hM 17 hj (by decide) (by rw [zfr_at]; rfl) d_MO_regrade_40 ?_
    refine lv_icmp_ge (tgt := 48) hx hb d_MO_regrade_41 (by decide) (fun c_8 => ?_) (fun c_8 => ?_)
    · refine lv_aload_n hx hb d_MO_regrade_48 rfl (lv_at hl 0 rfl) ?_
      refine z_get (ci := 3) (C := R_MO) (T := F_MO) (N := 23) hx hb hts j_MO hown hK hS hM.ob rfl 17 (by decide) (hk k_521 rfl) (fun _ h9 => h9) rfl d_MO_regrade_49 ?_
      refine lv_iload_n hx hb d_MO_regrade_52 rfl (lv_at hl 1 rfl) ?_
      refine mo_ld (v := f 10) hx hb hK hS hM 17 hj (by decide) (by rw [zfr_at]; rfl) d_MO_regrade_53 ?_
      refine mo_st hx hb hK hS hM 17 hj (by decide) (t := 10) rfl d_MO_regrade_54 (fun H locs X_9 hS hM hF_10 => ?_)
      have hF := hF.tr hF_10
      exact z_Cvret hx hb hr hlk hS (⟨rfl, by rw [z_tg_s f g _ (if_neg (fun h => h.elim c_5 (fun h => Int32.not_le.mpr h c_8))).symm] at hM; exact hM, hF⟩) (by decide) (by decide) d_MO_regrade_55
    · refine lv_iload_n hx hb d_MO_regrade_44 rfl (lv_at hl 2 rfl) ?_
      refine lv_goto (tgt := 54) hx hb d_MO_regrade_45 (by decide) ?_
      refine mo_st hx hb hK hS hM 17 hj (by decide) (t := 10) rfl d_MO_regrade_54 (fun H locs X_11 hS hM hF_12 => ?_)
      have hF := hF.tr hF_12
      exact z_Cvret hx hb hr hlk hS (⟨rfl, by rw [z_tg_s f g _ (if_pos (Or.inr (Int32.not_le.mp c_8))).symm] at hM; exact hM, hF⟩) (by decide) (by decide) d_MO_regrade_55
