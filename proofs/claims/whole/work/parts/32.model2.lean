/-! ===== the reference's calls ===== -/
def MJ (mo : Nat) (ad : Nat → Nat) (cI cZ : ClassId) (A : zA) (cd : Int32) (X : zM) : Prop := MI mo ad cI cZ A.1 A.2.1 A.2.2.1 cd A.2.2.2.1 A.2.2.2.2.1 A.2.2.2.2.2 X
/-- the end of a call of the reference: its code is c; the answer a and the state A' where c = 0 -/
def zV (mo : Nat) (ad : Nat → Nat) (cI cZ : ClassId) (c : Nat) (a a0 : Option Value) (X : zM) (A' A : zA) (r : zR) (X9 : zM) : Prop :=
  zFr 1 X X9 ∧ (c = 0 → r = .inl a ∧ MJ mo ad cI cZ A' 0 X9) ∧ (¬ c = 0 → r = .inl a0 ∧ MJ mo ad cI cZ A (nI c) X9)
section M4
variable {mo : Nat} {ad : Nat → Nat} {cI cZ : ClassId} {c : Nat} {a a0 : Option Value} {X X9 : zM} {A' A : zA}
theorem zV0 (hc : c = 0) (hF : zFr 1 X X9) (hM : MJ mo ad cI cZ A' 0 X9) : zV mo ad cI cZ c a a0 X A' A (.inl a) X9 := ⟨hF, fun _ => ⟨rfl, hM⟩, fun h => absurd hc h⟩
theorem zV1 (i : Nat) (hc : c = i + 1) (hF : zFr 1 X X9) (hM : MJ mo ad cI cZ A (nI (i + 1)) X9) : zV mo ad cI cZ c a a0 X A' A (.inl a0) X9 := ⟨hF, fun h => by omega, fun _ => ⟨rfl, by rw [hc]; exact hM⟩⟩
end M4
theorem z_ssub (a b c : Int32) : a - (b + c) = a - b - c := by
  rw [Int32.sub_eq_add_neg, Int32.neg_add, Int32.sub_eq_add_neg, Int32.sub_eq_add_neg, ← Int32.add_assoc, Int32.sub_eq_add_neg a b]
theorem z_cs15 {v : Int32} (h : z_rg v 1 5) : v = 1 ∨ v = 2 ∨ v = 3 ∨ v = 4 ∨ v = 5 := by
  obtain ⟨j, hj, rfl⟩ := z_ix1 h.1 (Int32.le_trans h.2 (by decide))
  have h2 : nI (j + 1) ≤ nI 5 := h.2
  rw [nI_leI (by omega) (by decide)] at h2
  have h3 : j = 0 ∨ j = 1 ∨ j = 2 ∨ j = 3 ∨ j = 4 := by omega
  rcases h3 with rfl | rfl | rfl | rfl | rfl <;> decide
theorem z_cs46 {v : Int32} (h : z_rg v 4 6) : v = 4 ∨ v = 5 ∨ v = 6 := by
  have h0 : z_rg v 0 7 := ⟨fun q => h.1 (Int32.lt_trans q (by decide)), Int32.le_trans h.2 (by decide)⟩
  rcases z_cs7 h0 with rfl | rfl | rfl | rfl | rfl | rfl | rfl | rfl
  · exact absurd h (by decide)
  · exact absurd h (by decide)
  · exact absurd h (by decide)
  · exact absurd h (by decide)
  · exact Or.inl rfl
  · exact Or.inr (Or.inl rfl)
  · exact Or.inr (Or.inr rfl)
  · exact absurd h (by decide)
theorem z_stp {v : Int32} (h : z_rg v 1 5) : v - 1 ≤ 0 ↔ v - 1 = 0 := by
  rcases z_cs15 h with rfl | rfl | rfl | rfl | rfl <;> decide
theorem z_1lt (v : Int32) : 1 < v ↔ 2 ≤ v := by
  rw [Int32.lt_iff_toInt_lt, Int32.le_iff_toInt_le]
  have e1 : (1 : Int32).toInt = 1 := by decide
  have e2 : (2 : Int32).toInt = 2 := by decide
  omega
theorem zfs_sw (f : Nat → Int32) {a b : Nat} (u v : Int32) (h : ¬ a = b) : zfs (zfs f a u) b v = zfs (zfs f b v) a u := by
  funext q
  unfold zfs
  by_cases h1 : q = a
  · subst h1
    simp [h]
  · simp [h1]
set_option maxHeartbeats 4000000 in
set_option maxRecDepth 100000 in
theorem c_MO_arrive_no (l : Launch) (hl9 : l.stackTraces = false) {D : va_G} {cS cR cJ cI cZ : ClassId} {lo tP : Nat} (v : Int32) (p0 : Int32) (a9 : Option Value) (A9 : zA) {mo : Nat} {ad : Nat → Nat} {n k : Nat} {td code0 : Int32} {S : Nat → Nat → Int32} {I : Nat → Nat} {F : Nat → Nat → Int32} {X : zM} (hM : MI mo ad cI cZ n k td code0 S I F X) (hv : ¬ z_rg v 1 (nI k)) : z_C (z_G lo tP) D cls4 (zty cS cR cJ cI cZ) lo l y_MO_arrive w_MO_arrive zrC [.ref mo, .int v, .int p0] X (zV mo ad cI cZ 1 a9 none X A9 ⟨n, k, td, S, I, F⟩) := by
  refine z_ofW (by decide) ?_
  intro p e s m args below meth c s₁ B hml hout hv
  obtain ⟨rfl, hG, hK, hW0, hXl, hlo⟩ := hv
  have hx := B.exec
  have hb := B.bytes
  have hr := B.returns
  have hlk := B.notSynchronized
  have hown : s.vm.findClass R_MO = some m.cls := findClass_of_methodNamed B.named
  have hts : ∀ w9 ∈ z_tb, w9.before ([.ref mo, .int v, .int p0] : List Value).toArray s = true := hG.ts _
  have hk : ∀ {w9 : Cond}, w9 ∈ lw_tbl → z_ok w9 = true → w9.before ([.ref mo, .int v, .int p0] : List Value).toArray s = true := fun h1 h2 => hG.w h1 h2 _
  have hg : z_Gr s.heap s.heap := z_Gr.rf
  have hS := z_S.start hW0 hXl hlo
  have hl := lv_entry ([.ref mo, .int v, .int p0]) (n := 3) (Nat.le_of_ble_eq_true rfl)
  rw [lg_entry_eq]
  generalize (lg_sl ([.ref mo, .int v, .int p0]) ++ List.replicate (3 - (lg_sl ([.ref mo, .int v, .int p0])).length) Slot.unset).toArray = ls at hl ⊢
  have hl : lv_has ls 3 [(0, .ref mo), (1, .int v), (2, .int p0)] := hl
  have hIn := hM.idx
  have hn20 := hM.n20
  have hk20 := hM.k20
  have hF : zFr 1 X X := zFr.rf
  refine lv_aload_n hx hb d_MO_arrive_0 rfl (lv_at hl 0 rfl) ?_
  refine lv_aload_n hx hb d_MO_arrive_1 rfl (lv_at hl 0 rfl) ?_
  refine lv_iload_n hx hb d_MO_arrive_2 rfl (lv_at hl 1 rfl) ?_
  refine z_pi (v := 0) (n_MO_MO_isReturn hx hown hG (va_recv hK (hS.1.one hM.ob) (ci := 3) (q0 := 0) rfl rfl) (by rw [hb]; exact d_MO_arrive_3)) hb (hl.1.trans hml.symm) (c_MO_isReturn l hl9 v hM) (by rw [if_neg hv]) (z_Gkeeps lo tP) hG hK hS (cw_MO_isReturn hG (by decide) (by decide)) d_MO_arrive_3 (Nat.le_of_ble_eq_true rfl) (by decide) (by decide) (fun H hq hS => ?_)
  refine lv_if_ne (tgt := 13) hx hb d_MO_arrive_6 (by decide) (fun c_1 => absurd (by decide) c_1) (fun c_1 => ?_)
  refine lv_iconst (v := 1) hx hb d_MO_arrive_9 (by decide) ?_
  refine lv_goto (tgt := 28) hx hb d_MO_arrive_10 (by decide) ?_
  refine mo_code hx hb hG hown hK hS hM (v := 1) d_MO_arrive_28 (fun H locs X_2 hS hM hF_3 => ?_)
  have hF := hF.tr hF_3
  refine lv_aload_n hx hb d_MO_arrive_31 rfl (lv_at hl 0 rfl) ?_
  refine z_get (ci := 3) (C := R_MO) (T := F_MO) (N := 23) hx hb hts j_MO hown hK hS hM.ob rfl 0 (by decide) (hk k_504 rfl) (fun _ h9 => h9) rfl d_MO_arrive_32 ?_
  refine lv_if_ne (tgt := 76) hx hb d_MO_arrive_35 (by decide) (fun c_4 => ?_) (fun c_4 => absurd c_4 (by decide))
  refine lv_aload_n hx hb d_MO_arrive_76 rfl (lv_at hl 0 rfl) ?_
  refine z_get (ci := 3) (C := R_MO) (T := F_MO) (N := 23) hx hb hts j_MO hown hK hS hM.ob rfl 0 (by decide) (hk k_504 rfl) (fun _ h9 => h9) rfl d_MO_arrive_77 ?_
  refine lv_if_le (tgt := 84) hx hb d_MO_arrive_80 (by decide) (fun c_5 => absurd c_5 (by decide)) (fun c_5 => ?_)
  exact z_Cvret hx hb hr hlk hS (zV1 0 rfl hF hM) (by decide) (by decide) d_MO_arrive_83
set_option maxHeartbeats 4000000 in
set_option maxRecDepth 100000 in
theorem c_MO_arrive (l : Launch) (hl9 : l.stackTraces = false) {D : va_G} {cS cR cJ cI cZ : ClassId} {lo tP : Nat} {j : Nat} (p0 : Int32) {mo : Nat} {ad : Nat → Nat} {n k : Nat} {td code0 : Int32} {S : Nat → Nat → Int32} {I : Nat → Nat} {F : Nat → Nat → Int32} {X : zM} (hM : MI mo ad cI cZ n k td code0 S I F X) (hj : j < k) : z_C (z_G lo tP) D cls4 (zty cS cR cJ cI cZ) lo l y_MO_arrive w_MO_arrive zrC [.ref mo, .int (nI (j + 1)), .int p0] X (zV mo ad cI cZ (cd_arrive (F j) p0) none none X ⟨n, k, td, S, I, zfr F j (zfs (zfs (F j) 4 p0) 3 2)⟩ ⟨n, k, td, S, I, F⟩) := by
  refine z_ofW (by decide) ?_
  intro p e s m args below meth c s₁ B hml hout hv
  obtain ⟨rfl, hG, hK, hW0, hXl, hlo⟩ := hv
  have hx := B.exec
  have hb := B.bytes
  have hr := B.returns
  have hlk := B.notSynchronized
  have hown : s.vm.findClass R_MO = some m.cls := findClass_of_methodNamed B.named
  have hts : ∀ w9 ∈ z_tb, w9.before ([.ref mo, .int (nI (j + 1)), .int p0] : List Value).toArray s = true := hG.ts _
  have hk : ∀ {w9 : Cond}, w9 ∈ lw_tbl → z_ok w9 = true → w9.before ([.ref mo, .int (nI (j + 1)), .int p0] : List Value).toArray s = true := fun h1 h2 => hG.w h1 h2 _
  have hg : z_Gr s.heap s.heap := z_Gr.rf
  have hS := z_S.start hW0 hXl hlo
  have hl := lv_entry ([.ref mo, .int (nI (j + 1)), .int p0]) (n := 3) (Nat.le_of_ble_eq_true rfl)
  rw [lg_entry_eq]
  generalize (lg_sl ([.ref mo, .int (nI (j + 1)), .int p0]) ++ List.replicate (3 - (lg_sl ([.ref mo, .int (nI (j + 1)), .int p0])).length) Slot.unset).toArray = ls at hl ⊢
  have hl : lv_has ls 3 [(0, .ref mo), (1, .int (nI (j + 1))), (2, .int p0)] := hl
  have hIn := hM.idx
  have hn20 := hM.n20
  have hk20 := hM.k20
  have hF : zFr 1 X X := zFr.rf
  refine lv_aload_n hx hb d_MO_arrive_0 rfl (lv_at hl 0 rfl) ?_
  refine lv_aload_n hx hb d_MO_arrive_1 rfl (lv_at hl 0 rfl) ?_
  refine lv_iload_n hx hb d_MO_arrive_2 rfl (lv_at hl 1 rfl) ?_
  refine z_pi (v := 1) (n_MO_MO_isReturn hx hown hG (va_recv hK (hS.1.one hM.ob) (ci := 3) (q0 := 0) rfl rfl) (by rw [hb]; exact d_MO_arrive_3)) hb (hl.1.trans hml.symm) (c_MO_isReturn l hl9 (nI (j + 1)) hM) (by rw [if_pos ((z_rg1 (by omega) hk20).mpr hj)]) (z_Gkeeps lo tP) hG hK hS (cw_MO_isReturn hG (by decide) (by decide)) d_MO_arrive_3 (Nat.le_of_ble_eq_true rfl) (by decide) (by decide) (fun H hq hS => ?_)
  refine lv_if_ne (tgt := 13) hx hb d_MO_arrive_6 (by decide) (fun c_1 => ?_) (fun c_1 => absurd c_1 (by decide))
  refine lv_iload_n hx hb d_MO_arrive_13 rfl (lv_at hl 2 rfl) ?_
  refine lv_iconst (v := (-1)) hx hb d_MO_arrive_14 (by decide) ?_
  refine lv_bipush (v := 9) hx hb d_MO_arrive_15 (by decide) ?_
  by_cases w_2 : z_rg p0 (-1) 9
  · refine z_pi (v := 1) (n_MO_MO_in hx hown hG (by rw [hb]; exact d_MO_arrive_17)) hb (hl.1.trans hml.symm) (c_MO_in l hl9 p0 (-1) 9) (by rw [if_pos w_2]) (z_Gkeeps lo tP) hG hK hS (cw_MO_in hG (by decide) (by decide)) d_MO_arrive_17 (Nat.le_of_ble_eq_true rfl) (by decide) (by decide) (fun H hq hS => ?_)
    refine lv_if_ne (tgt := 27) hx hb d_MO_arrive_20 (by decide) (fun c_3 => ?_) (fun c_3 => absurd c_3 (by decide))
    refine lv_iconst (v := 0) hx hb d_MO_arrive_27 (by decide) ?_
    refine mo_code hx hb hG hown hK hS hM (v := 0) d_MO_arrive_28 (fun H locs X_4 hS hM hF_5 => ?_)
    have hF := hF.tr hF_5
    refine lv_aload_n hx hb d_MO_arrive_31 rfl (lv_at hl 0 rfl) ?_
    refine z_get (ci := 3) (C := R_MO) (T := F_MO) (N := 23) hx hb hts j_MO hown hK hS hM.ob rfl 0 (by decide) (hk k_504 rfl) (fun _ h9 => h9) rfl d_MO_arrive_32 ?_
    refine lv_if_ne (tgt := 76) hx hb d_MO_arrive_35 (by decide) (fun c_6 => absurd (by decide) c_6) (fun c_6 => ?_)
    refine lv_aload_n hx hb d_MO_arrive_38 rfl (lv_at hl 0 rfl) ?_
    refine lv_aload_n hx hb d_MO_arrive_39 rfl (lv_at hl 0 rfl) ?_
    refine z_get (ci := 3) (C := R_MO) (T := F_MO) (N := 23) hx hb hts j_MO hown hK hS hM.ob rfl 10 (by decide) (hk k_514 rfl) (fun _ h9 => h9) rfl d_MO_arrive_40 ?_
    refine lv_iload_n hx hb d_MO_arrive_43 rfl (lv_at hl 1 rfl) ?_
    refine mo_ld (v := F j 3) hx hb hK hS hM 10 hj (by decide) rfl d_MO_arrive_44 ?_
    refine lv_if_ne (tgt := 53) hx hb d_MO_arrive_45 (by decide) (fun c_7 => ?_) (fun c_7 => ?_)
    · refine lv_aload_n hx hb d_MO_arrive_53 rfl (lv_at hl 0 rfl) ?_
      refine z_get (ci := 3) (C := R_MO) (T := F_MO) (N := 23) hx hb hts j_MO hown hK hS hM.ob rfl 10 (by decide) (hk k_514 rfl) (fun _ h9 => h9) rfl d_MO_arrive_54 ?_
      refine lv_iload_n hx hb d_MO_arrive_57 rfl (lv_at hl 1 rfl) ?_
      refine mo_ld (v := F j 3) hx hb hK hS hM 10 hj (by decide) rfl d_MO_arrive_58 ?_
      refine lv_iconst (v := 1) hx hb d_MO_arrive_59 (by decide) ?_
      refine lv_icmp_ne (tgt := 68) hx hb d_MO_arrive_60 (by decide) (fun c_8 => ?_) (fun c_8 => ?_)
      · refine lv_iconst (v := 3) hx hb d_MO_arrive_68 (by decide) ?_
        refine lv_goto (tgt := 73) hx hb d_MO_arrive_69 (by decide) ?_
        refine mo_code hx hb hG hown hK hS hM (v := 3) d_MO_arrive_73 (fun H locs X_9 hS hM hF_10 => ?_)
        have hF := hF.tr hF_10
        refine lv_aload_n hx hb d_MO_arrive_76 rfl (lv_at hl 0 rfl) ?_
        refine z_get (ci := 3) (C := R_MO) (T := F_MO) (N := 23) hx hb hts j_MO hown hK hS hM.ob rfl 0 (by decide) (hk k_504 rfl) (fun _ h9 => h9) rfl d_MO_arrive_77 ?_
        refine lv_if_le (tgt := 84) hx hb d_MO_arrive_80 (by decide) (fun c_11 => absurd c_11 (by decide)) (fun c_11 => ?_)
        exact z_Cvret hx hb hr hlk hS (zV1 2 (by unfold cd_arrive; rw [if_pos w_2]; simp [c_7, c_8]) hF hM) (by decide) (by decide) d_MO_arrive_83
      · refine lv_iload_n hx hb d_MO_arrive_63 rfl (lv_at hl 2 rfl) ?_
        refine lv_iconst (v := (-1)) hx hb d_MO_arrive_64 (by decide) ?_
        refine lv_icmp_ne (tgt := 72) hx hb d_MO_arrive_65 (by decide) (fun c_12 => ?_) (fun c_12 => ?_)
        · refine lv_iconst (v := 0) hx hb d_MO_arrive_72 (by decide) ?_
          refine mo_code hx hb hG hown hK hS hM (v := 0) d_MO_arrive_73 (fun H locs X_13 hS hM hF_14 => ?_)
          have hF := hF.tr hF_14
          refine lv_aload_n hx hb d_MO_arrive_76 rfl (lv_at hl 0 rfl) ?_
          refine z_get (ci := 3) (C := R_MO) (T := F_MO) (N := 23) hx hb hts j_MO hown hK hS hM.ob rfl 0 (by decide) (hk k_504 rfl) (fun _ h9 => h9) rfl d_MO_arrive_77 ?_
          refine lv_if_le (tgt := 84) hx hb d_MO_arrive_80 (by decide) (fun c_15 => ?_) (fun c_15 => absurd (by decide) c_15)
          refine lv_aload_n hx hb d_MO_arrive_84 rfl (lv_at hl 0 rfl) ?_
          refine z_get (ci := 3) (C := R_MO) (T := F_MO) (N := 23) hx hb hts j_MO hown hK hS hM.ob rfl 10 (by decide) (hk k_514 rfl) (fun _ h9 => h9) rfl d_MO_arrive_85 ?_
          refine lv_iload_n hx hb d_MO_arrive_88 rfl (lv_at hl 1 rfl) ?_
          refine lv_iconst (v := 2) hx hb d_MO_arrive_89 (by decide) ?_
          rw [← zfr_id F j] at hM
          refine mo_st hx hb hK hS hM 10 hj (by decide) (t := 3) rfl d_MO_arrive_90 (fun H locs X_16 hS hM hF_17 => ?_)
          have hF := hF.tr hF_17
          refine lv_aload_n hx hb d_MO_arrive_91 rfl (lv_at hl 0 rfl) ?_
          refine z_get (ci := 3) (C := R_MO) (T := F_MO) (N := 23) hx hb hts j_MO hown hK hS hM.ob rfl 12 (by decide) (hk k_516 rfl) (fun _ h9 => h9) rfl d_MO_arrive_92 ?_
          refine lv_iload_n hx hb d_MO_arrive_95 rfl (lv_at hl 1 rfl) ?_
          refine lv_iload_n hx hb d_MO_arrive_96 rfl (lv_at hl 2 rfl) ?_
          refine mo_st hx hb hK hS hM 12 hj (by decide) (t := 4) rfl d_MO_arrive_97 (fun H locs X_18 hS hM hF_19 => ?_)
          have hF := hF.tr hF_19
          exact z_Cvret hx hb hr hlk hS (zV0 (by unfold cd_arrive; rw [if_pos w_2]; simp [c_7, c_8, c_12]) hF (by rw [zfs_sw _ _ _ (by decide)] at hM; exact hM)) (by decide) (by decide) d_MO_arrive_98
        · refine lv_iconst (v := 3) hx hb d_MO_arrive_68 (by decide) ?_
          refine lv_goto (tgt := 73) hx hb d_MO_arrive_69 (by decide) ?_
          refine mo_code hx hb hG hown hK hS hM (v := 3) d_MO_arrive_73 (fun H locs X_20 hS hM hF_21 => ?_)
          have hF := hF.tr hF_21
          refine lv_aload_n hx hb d_MO_arrive_76 rfl (lv_at hl 0 rfl) ?_
          refine z_get (ci := 3) (C := R_MO) (T := F_MO) (N := 23) hx hb hts j_MO hown hK hS hM.ob rfl 0 (by decide) (hk k_504 rfl) (fun _ h9 => h9) rfl d_MO_arrive_77 ?_
          refine lv_if_le (tgt := 84) hx hb d_MO_arrive_80 (by decide) (fun c_22 => absurd c_22 (by decide)) (fun c_22 => ?_)
          exact z_Cvret hx hb hr hlk hS (zV1 2 (by unfold cd_arrive; rw [if_pos w_2]; simp [c_7, c_8, c_12]) hF hM) (by decide) (by decide) d_MO_arrive_83
    · refine lv_iload_n hx hb d_MO_arrive_48 rfl (lv_at hl 2 rfl) ?_
      refine lv_iconst (v := (-1)) hx hb d_MO_arrive_49 (by decide) ?_
      refine lv_icmp_eq (tgt := 72) hx hb d_MO_arrive_50 (by decide) (fun c_23 => ?_) (fun c_23 => ?_)
      · refine lv_iconst (v := 0) hx hb d_MO_arrive_72 (by decide) ?_
        refine mo_code hx hb hG hown hK hS hM (v := 0) d_MO_arrive_73 (fun H locs X_24 hS hM hF_25 => ?_)
        have hF := hF.tr hF_25
        refine lv_aload_n hx hb d_MO_arrive_76 rfl (lv_at hl 0 rfl) ?_
        refine z_get (ci := 3) (C := R_MO) (T := F_MO) (N := 23) hx hb hts j_MO hown hK hS hM.ob rfl 0 (by decide) (hk k_504 rfl) (fun _ h9 => h9) rfl d_MO_arrive_77 ?_
        refine lv_if_le (tgt := 84) hx hb d_MO_arrive_80 (by decide) (fun c_26 => ?_) (fun c_26 => absurd (by decide) c_26)
        refine lv_aload_n hx hb d_MO_arrive_84 rfl (lv_at hl 0 rfl) ?_
        refine z_get (ci := 3) (C := R_MO) (T := F_MO) (N := 23) hx hb hts j_MO hown hK hS hM.ob rfl 10 (by decide) (hk k_514 rfl) (fun _ h9 => h9) rfl d_MO_arrive_85 ?_
        refine lv_iload_n hx hb d_MO_arrive_88 rfl (lv_at hl 1 rfl) ?_
        refine lv_iconst (v := 2) hx hb d_MO_arrive_89 (by decide) ?_
        rw [← zfr_id F j] at hM
        refine mo_st hx hb hK hS hM 10 hj (by decide) (t := 3) rfl d_MO_arrive_90 (fun H locs X_27 hS hM hF_28 => ?_)
        have hF := hF.tr hF_28
        refine lv_aload_n hx hb d_MO_arrive_91 rfl (lv_at hl 0 rfl) ?_
        refine z_get (ci := 3) (C := R_MO) (T := F_MO) (N := 23) hx hb hts j_MO hown hK hS hM.ob rfl 12 (by decide) (hk k_516 rfl) (fun _ h9 => h9) rfl d_MO_arrive_92 ?_
        refine lv_iload_n hx hb d_MO_arrive_95 rfl (lv_at hl 1 rfl) ?_
        refine lv_iload_n hx hb d_MO_arrive_96 rfl (lv_at hl 2 rfl) ?_
        refine mo_st hx hb hK hS hM 12 hj (by decide) (t := 4) rfl d_MO_arrive_97 (fun H locs X_29 hS hM hF_30 => ?_)
        have hF := hF.tr hF_30
        exact z_Cvret hx hb hr hlk hS (zV0 (by unfold cd_arrive; rw [if_pos w_2]; simp [c_7, c_23]) hF (by rw [zfs_sw _ _ _ (by decide)] at hM; exact hM)) (by decide) (by decide) d_MO_arrive_98
      · refine lv_aload_n hx hb d_MO_arrive_53 rfl (lv_at hl 0 rfl) ?_
        refine z_get (ci := 3) (C := R_MO) (T := F_MO) (N := 23) hx hb hts j_MO hown hK hS hM.ob rfl 10 (by decide) (hk k_514 rfl) (fun _ h9 => h9) rfl d_MO_arrive_54 ?_
        refine lv_iload_n hx hb d_MO_arrive_57 rfl (lv_at hl 1 rfl) ?_
        refine mo_ld (v := F j 3) hx hb hK hS hM 10 hj (by decide) rfl d_MO_arrive_58 ?_
        refine lv_iconst (v := 1) hx hb d_MO_arrive_59 (by decide) ?_
        refine lv_icmp_ne (tgt := 68) hx hb d_MO_arrive_60 (by decide) (fun c_31 => ?_) (fun c_31 => absurd c_31 (fun h9 => absurd (c_7.symm.trans h9) (by decide)))
        refine lv_iconst (v := 3) hx hb d_MO_arrive_68 (by decide) ?_
        refine lv_goto (tgt := 73) hx hb d_MO_arrive_69 (by decide) ?_
        refine mo_code hx hb hG hown hK hS hM (v := 3) d_MO_arrive_73 (fun H locs X_32 hS hM hF_33 => ?_)
        have hF := hF.tr hF_33
        refine lv_aload_n hx hb d_MO_arrive_76 rfl (lv_at hl 0 rfl) ?_
        refine z_get (ci := 3) (C := R_MO) (T := F_MO) (N := 23) hx hb hts j_MO hown hK hS hM.ob rfl 0 (by decide) (hk k_504 rfl) (fun _ h9 => h9) rfl d_MO_arrive_77 ?_
        refine lv_if_le (tgt := 84) hx hb d_MO_arrive_80 (by decide) (fun c_34 => absurd c_34 (by decide)) (fun c_34 => ?_)
        exact z_Cvret hx hb hr hlk hS (zV1 2 (by unfold cd_arrive; rw [if_pos w_2]; simp [c_7, c_23]) hF hM) (by decide) (by decide) d_MO_arrive_83
  · refine z_pi (v := 0) (n_MO_MO_in hx hown hG (by rw [hb]; exact d_MO_arrive_17)) hb (hl.1.trans hml.symm) (c_MO_in l hl9 p0 (-1) 9) (by rw [if_neg w_2]) (z_Gkeeps lo tP) hG hK hS (cw_MO_in hG (by decide) (by decide)) d_MO_arrive_17 (Nat.le_of_ble_eq_true rfl) (by decide) (by decide) (fun H hq hS => ?_)
    refine lv_if_ne (tgt := 27) hx hb d_MO_arrive_20 (by decide) (fun c_35 => absurd (by decide) c_35) (fun c_35 => ?_)
    refine lv_iconst (v := 2) hx hb d_MO_arrive_23 (by decide) ?_
    refine lv_goto (tgt := 28) hx hb d_MO_arrive_24 (by decide) ?_
    refine mo_code hx hb hG hown hK hS hM (v := 2) d_MO_arrive_28 (fun H locs X_36 hS hM hF_37 => ?_)
    have hF := hF.tr hF_37
    refine lv_aload_n hx hb d_MO_arrive_31 rfl (lv_at hl 0 rfl) ?_
    refine z_get (ci := 3) (C := R_MO) (T := F_MO) (N := 23) hx hb hts j_MO hown hK hS hM.ob rfl 0 (by decide) (hk k_504 rfl) (fun _ h9 => h9) rfl d_MO_arrive_32 ?_
    refine lv_if_ne (tgt := 76) hx hb d_MO_arrive_35 (by decide) (fun c_38 => ?_) (fun c_38 => absurd c_38 (by decide))
    refine lv_aload_n hx hb d_MO_arrive_76 rfl (lv_at hl 0 rfl) ?_
    refine z_get (ci := 3) (C := R_MO) (T := F_MO) (N := 23) hx hb hts j_MO hown hK hS hM.ob rfl 0 (by decide) (hk k_504 rfl) (fun _ h9 => h9) rfl d_MO_arrive_77 ?_
    refine lv_if_le (tgt := 84) hx hb d_MO_arrive_80 (by decide) (fun c_39 => absurd c_39 (by decide)) (fun c_39 => ?_)
    exact z_Cvret hx hb hr hlk hS (zV1 1 (by unfold cd_arrive; rw [if_neg w_2]) hF hM) (by decide) (by decide) d_MO_arrive_83
set_option maxHeartbeats 4000000 in
set_option maxRecDepth 100000 in
theorem c_MO_quarantine_no (l : Launch) (hl9 : l.stackTraces = false) {D : va_G} {cS cR cJ cI cZ : ClassId} {lo tP : Nat} (v : Int32) (p0 : Int32) (a9 : Option Value) (A9 : zA) {mo : Nat} {ad : Nat → Nat} {n k : Nat} {td code0 : Int32} {S : Nat → Nat → Int32} {I : Nat → Nat} {F : Nat → Nat → Int32} {X : zM} (hM : MI mo ad cI cZ n k td code0 S I F X) (hv : ¬ z_rg v 1 (nI k)) : z_C (z_G lo tP) D cls4 (zty cS cR cJ cI cZ) lo l y_MO_quarantine w_MO_quarantine zrC [.ref mo, .int v, .int p0] X (zV mo ad cI cZ 1 a9 none X A9 ⟨n, k, td, S, I, F⟩) := by
  refine z_ofW (by decide) ?_
  intro p e s m args below meth c s₁ B hml hout hv
  obtain ⟨rfl, hG, hK, hW0, hXl, hlo⟩ := hv
  have hx := B.exec
  have hb := B.bytes
  have hr := B.returns
  have hlk := B.notSynchronized
  have hown : s.vm.findClass R_MO = some m.cls := findClass_of_methodNamed B.named
  have hts : ∀ w9 ∈ z_tb, w9.before ([.ref mo, .int v, .int p0] : List Value).toArray s = true := hG.ts _
  have hk : ∀ {w9 : Cond}, w9 ∈ lw_tbl → z_ok w9 = true → w9.before ([.ref mo, .int v, .int p0] : List Value).toArray s = true := fun h1 h2 => hG.w h1 h2 _
  have hg : z_Gr s.heap s.heap := z_Gr.rf
  have hS := z_S.start hW0 hXl hlo
  have hl := lv_entry ([.ref mo, .int v, .int p0]) (n := 3) (Nat.le_of_ble_eq_true rfl)
  rw [lg_entry_eq]
  generalize (lg_sl ([.ref mo, .int v, .int p0]) ++ List.replicate (3 - (lg_sl ([.ref mo, .int v, .int p0])).length) Slot.unset).toArray = ls at hl ⊢
  have hl : lv_has ls 3 [(0, .ref mo), (1, .int v), (2, .int p0)] := hl
  have hIn := hM.idx
  have hn20 := hM.n20
  have hk20 := hM.k20
  have hF : zFr 1 X X := zFr.rf
  refine lv_aload_n hx hb d_MO_quarantine_0 rfl (lv_at hl 0 rfl) ?_
  refine lv_aload_n hx hb d_MO_quarantine_1 rfl (lv_at hl 0 rfl) ?_
  refine lv_iload_n hx hb d_MO_quarantine_2 rfl (lv_at hl 1 rfl) ?_
  refine z_pi (v := 0) (n_MO_MO_isReturn hx hown hG (va_recv hK (hS.1.one hM.ob) (ci := 3) (q0 := 0) rfl rfl) (by rw [hb]; exact d_MO_quarantine_3)) hb (hl.1.trans hml.symm) (c_MO_isReturn l hl9 v hM) (by rw [if_neg hv]) (z_Gkeeps lo tP) hG hK hS (cw_MO_isReturn hG (by decide) (by decide)) d_MO_quarantine_3 (Nat.le_of_ble_eq_true rfl) (by decide) (by decide) (fun H hq hS => ?_)
  refine lv_if_ne (tgt := 13) hx hb d_MO_quarantine_6 (by decide) (fun c_1 => absurd (by decide) c_1) (fun c_1 => ?_)
  refine lv_iconst (v := 1) hx hb d_MO_quarantine_9 (by decide) ?_
  refine lv_goto (tgt := 14) hx hb d_MO_quarantine_10 (by decide) ?_
  refine mo_code hx hb hG hown hK hS hM (v := 1) d_MO_quarantine_14 (fun H locs X_2 hS hM hF_3 => ?_)
  have hF := hF.tr hF_3
  refine lv_aload_n hx hb d_MO_quarantine_17 rfl (lv_at hl 0 rfl) ?_
  refine z_get (ci := 3) (C := R_MO) (T := F_MO) (N := 23) hx hb hts j_MO hown hK hS hM.ob rfl 0 (by decide) (hk k_504 rfl) (fun _ h9 => h9) rfl d_MO_quarantine_18 ?_
  refine lv_if_ne (tgt := 55) hx hb d_MO_quarantine_21 (by decide) (fun c_4 => ?_) (fun c_4 => absurd c_4 (by decide))
  refine lv_aload_n hx hb d_MO_quarantine_55 rfl (lv_at hl 0 rfl) ?_
  refine z_get (ci := 3) (C := R_MO) (T := F_MO) (N := 23) hx hb hts j_MO hown hK hS hM.ob rfl 0 (by decide) (hk k_504 rfl) (fun _ h9 => h9) rfl d_MO_quarantine_56 ?_
  refine lv_if_ne (tgt := 69) hx hb d_MO_quarantine_59 (by decide) (fun c_5 => ?_) (fun c_5 => absurd c_5 (by decide))
  exact z_Cvret hx hb hr hlk hS (zV1 0 rfl hF hM) (by decide) (by decide) d_MO_quarantine_69
set_option maxHeartbeats 4000000 in
set_option maxRecDepth 100000 in
theorem c_MO_quarantine (l : Launch) (hl9 : l.stackTraces = false) {D : va_G} {cS cR cJ cI cZ : ClassId} {lo tP : Nat} {j : Nat} (p0 : Int32) {mo : Nat} {ad : Nat → Nat} {n k : Nat} {td code0 : Int32} {S : Nat → Nat → Int32} {I : Nat → Nat} {F : Nat → Nat → Int32} {X : zM} (hM : MI mo ad cI cZ n k td code0 S I F X) (hj : j < k) (hb01 : p0 = 0 ∨ p0 = 1) : z_C (z_G lo tP) D cls4 (zty cS cR cJ cI cZ) lo l y_MO_quarantine w_MO_quarantine zrC [.ref mo, .int (nI (j + 1)), .int p0] X (zV mo ad cI cZ (cd_quarantine (F j) p0) none none X ⟨n, k, td, S, I, zfr F j (zfs (F j) 5 p0)⟩ ⟨n, k, td, S, I, F⟩) := by
  refine z_ofW (by decide) ?_
  intro p e s m args below meth c s₁ B hml hout hv
  obtain ⟨rfl, hG, hK, hW0, hXl, hlo⟩ := hv
  have hx := B.exec
  have hb := B.bytes
  have hr := B.returns
  have hlk := B.notSynchronized
  have hown : s.vm.findClass R_MO = some m.cls := findClass_of_methodNamed B.named
  have hts : ∀ w9 ∈ z_tb, w9.before ([.ref mo, .int (nI (j + 1)), .int p0] : List Value).toArray s = true := hG.ts _
  have hk : ∀ {w9 : Cond}, w9 ∈ lw_tbl → z_ok w9 = true → w9.before ([.ref mo, .int (nI (j + 1)), .int p0] : List Value).toArray s = true := fun h1 h2 => hG.w h1 h2 _
  have hg : z_Gr s.heap s.heap := z_Gr.rf
  have hS := z_S.start hW0 hXl hlo
  have hl := lv_entry ([.ref mo, .int (nI (j + 1)), .int p0]) (n := 3) (Nat.le_of_ble_eq_true rfl)
  rw [lg_entry_eq]
  generalize (lg_sl ([.ref mo, .int (nI (j + 1)), .int p0]) ++ List.replicate (3 - (lg_sl ([.ref mo, .int (nI (j + 1)), .int p0])).length) Slot.unset).toArray = ls at hl ⊢
  have hl : lv_has ls 3 [(0, .ref mo), (1, .int (nI (j + 1))), (2, .int p0)] := hl
  have hIn := hM.idx
  have hn20 := hM.n20
  have hk20 := hM.k20
  have hF : zFr 1 X X := zFr.rf
  refine lv_aload_n hx hb d_MO_quarantine_0 rfl (lv_at hl 0 rfl) ?_
  refine lv_aload_n hx hb d_MO_quarantine_1 rfl (lv_at hl 0 rfl) ?_
  refine lv_iload_n hx hb d_MO_quarantine_2 rfl (lv_at hl 1 rfl) ?_
  refine z_pi (v := 1) (n_MO_MO_isReturn hx hown hG (va_recv hK (hS.1.one hM.ob) (ci := 3) (q0 := 0) rfl rfl) (by rw [hb]; exact d_MO_quarantine_3)) hb (hl.1.trans hml.symm) (c_MO_isReturn l hl9 (nI (j + 1)) hM) (by rw [if_pos ((z_rg1 (by omega) hk20).mpr hj)]) (z_Gkeeps lo tP) hG hK hS (cw_MO_isReturn hG (by decide) (by decide)) d_MO_quarantine_3 (Nat.le_of_ble_eq_true rfl) (by decide) (by decide) (fun H hq hS => ?_)
  refine lv_if_ne (tgt := 13) hx hb d_MO_quarantine_6 (by decide) (fun c_1 => ?_) (fun c_1 => absurd c_1 (by decide))
  refine lv_iconst (v := 0) hx hb d_MO_quarantine_13 (by decide) ?_
  refine mo_code hx hb hG hown hK hS hM (v := 0) d_MO_quarantine_14 (fun H locs X_2 hS hM hF_3 => ?_)
  have hF := hF.tr hF_3
  refine lv_aload_n hx hb d_MO_quarantine_17 rfl (lv_at hl 0 rfl) ?_
  refine z_get (ci := 3) (C := R_MO) (T := F_MO) (N := 23) hx hb hts j_MO hown hK hS hM.ob rfl 0 (by decide) (hk k_504 rfl) (fun _ h9 => h9) rfl d_MO_quarantine_18 ?_
  refine lv_if_ne (tgt := 55) hx hb d_MO_quarantine_21 (by decide) (fun c_4 => absurd (by decide) c_4) (fun c_4 => ?_)
  refine lv_aload_n hx hb d_MO_quarantine_24 rfl (lv_at hl 0 rfl) ?_
  refine lv_aload_n hx hb d_MO_quarantine_25 rfl (lv_at hl 0 rfl) ?_
  refine z_get (ci := 3) (C := R_MO) (T := F_MO) (N := 23) hx hb hts j_MO hown hK hS hM.ob rfl 13 (by decide) (hk k_517 rfl) (fun _ h9 => h9) rfl d_MO_quarantine_26 ?_
  refine lv_iload_n hx hb d_MO_quarantine_29 rfl (lv_at hl 1 rfl) ?_
  refine mo_ldb (v := F j 5) hx hb hK hS hM 13 hj (by decide) rfl d_MO_quarantine_30 ?_
  refine lv_iload_n hx hb d_MO_quarantine_31 rfl (lv_at hl 2 rfl) ?_
  refine lv_icmp_eq (tgt := 47) hx hb d_MO_quarantine_32 (by decide) (fun c_5 => ?_) (fun c_5 => ?_)
  · refine lv_iconst (v := 2) hx hb d_MO_quarantine_47 (by decide) ?_
    refine lv_goto (tgt := 52) hx hb d_MO_quarantine_48 (by decide) ?_
    refine mo_code hx hb hG hown hK hS hM (v := 2) d_MO_quarantine_52 (fun H locs X_6 hS hM hF_7 => ?_)
    have hF := hF.tr hF_7
    refine lv_aload_n hx hb d_MO_quarantine_55 rfl (lv_at hl 0 rfl) ?_
    refine z_get (ci := 3) (C := R_MO) (T := F_MO) (N := 23) hx hb hts j_MO hown hK hS hM.ob rfl 0 (by decide) (hk k_504 rfl) (fun _ h9 => h9) rfl d_MO_quarantine_56 ?_
    refine lv_if_ne (tgt := 69) hx hb d_MO_quarantine_59 (by decide) (fun c_8 => ?_) (fun c_8 => absurd c_8 (by decide))
    exact z_Cvret hx hb hr hlk hS (zV1 1 (if_pos (Or.inl c_5)) hF hM) (by decide) (by decide) d_MO_quarantine_69
  · refine lv_iload_n hx hb d_MO_quarantine_35 rfl (lv_at hl 2 rfl) ?_
    refine lv_if_eq (tgt := 51) hx hb d_MO_quarantine_36 (by decide) (fun c_9 => ?_) (fun c_9 => ?_)
    · refine lv_iconst (v := 0) hx hb d_MO_quarantine_51 (by decide) ?_
      refine mo_code hx hb hG hown hK hS hM (v := 0) d_MO_quarantine_52 (fun H locs X_10 hS hM hF_11 => ?_)
      have hF := hF.tr hF_11
      refine lv_aload_n hx hb d_MO_quarantine_55 rfl (lv_at hl 0 rfl) ?_
      refine z_get (ci := 3) (C := R_MO) (T := F_MO) (N := 23) hx hb hts j_MO hown hK hS hM.ob rfl 0 (by decide) (hk k_504 rfl) (fun _ h9 => h9) rfl d_MO_quarantine_56 ?_
      refine lv_if_ne (tgt := 69) hx hb d_MO_quarantine_59 (by decide) (fun c_12 => absurd (by decide) c_12) (fun c_12 => ?_)
      refine lv_aload_n hx hb d_MO_quarantine_62 rfl (lv_at hl 0 rfl) ?_
      refine z_get (ci := 3) (C := R_MO) (T := F_MO) (N := 23) hx hb hts j_MO hown hK hS hM.ob rfl 13 (by decide) (hk k_517 rfl) (fun _ h9 => h9) rfl d_MO_quarantine_63 ?_
      refine lv_iload_n hx hb d_MO_quarantine_66 rfl (lv_at hl 1 rfl) ?_
      refine lv_iload_n hx hb d_MO_quarantine_67 rfl (lv_at hl 2 rfl) ?_
      rw [← zfr_id F j] at hM
      refine mo_stb hx hb hK hS hM 13 hj (by decide) hb01 (t := 5) rfl d_MO_quarantine_68 (fun H locs X_13 hS hM hF_14 => ?_)
      have hF := hF.tr hF_14
      exact z_Cvret hx hb hr hlk hS (zV0 (if_neg (fun h => h.elim c_5 (fun h => h.1 c_9))) hF hM) (by decide) (by decide) d_MO_quarantine_69
    · refine lv_aload_n hx hb d_MO_quarantine_39 rfl (lv_at hl 0 rfl) ?_
      refine lv_iload_n hx hb d_MO_quarantine_40 rfl (lv_at hl 1 rfl) ?_
      by_cases w_15 : F j 3 = 2 ∨ F j 3 = 3
      · refine z_pi (v := 1) (n_MO_MO_isSeen hx hown hG (va_recv hK (hS.1.one hM.ob) (ci := 3) (q0 := 0) rfl rfl) (by rw [hb]; exact d_MO_quarantine_41)) hb (hl.1.trans hml.symm) (c_MO_isSeen l hl9 hM hj) (by rw [if_pos w_15]) (z_Gkeeps lo tP) hG hK hS (cw_MO_isSeen hG (by decide) (by decide)) d_MO_quarantine_41 (Nat.le_of_ble_eq_true rfl) (by decide) (by decide) (fun H hq hS => ?_)
        refine lv_if_ne (tgt := 51) hx hb d_MO_quarantine_44 (by decide) (fun c_16 => ?_) (fun c_16 => absurd c_16 (by decide))
        refine lv_iconst (v := 0) hx hb d_MO_quarantine_51 (by decide) ?_
        refine mo_code hx hb hG hown hK hS hM (v := 0) d_MO_quarantine_52 (fun H locs X_17 hS hM hF_18 => ?_)
        have hF := hF.tr hF_18
        refine lv_aload_n hx hb d_MO_quarantine_55 rfl (lv_at hl 0 rfl) ?_
        refine z_get (ci := 3) (C := R_MO) (T := F_MO) (N := 23) hx hb hts j_MO hown hK hS hM.ob rfl 0 (by decide) (hk k_504 rfl) (fun _ h9 => h9) rfl d_MO_quarantine_56 ?_
        refine lv_if_ne (tgt := 69) hx hb d_MO_quarantine_59 (by decide) (fun c_19 => absurd (by decide) c_19) (fun c_19 => ?_)
        refine lv_aload_n hx hb d_MO_quarantine_62 rfl (lv_at hl 0 rfl) ?_
        refine z_get (ci := 3) (C := R_MO) (T := F_MO) (N := 23) hx hb hts j_MO hown hK hS hM.ob rfl 13 (by decide) (hk k_517 rfl) (fun _ h9 => h9) rfl d_MO_quarantine_63 ?_
        refine lv_iload_n hx hb d_MO_quarantine_66 rfl (lv_at hl 1 rfl) ?_
        refine lv_iload_n hx hb d_MO_quarantine_67 rfl (lv_at hl 2 rfl) ?_
        rw [← zfr_id F j] at hM
        refine mo_stb hx hb hK hS hM 13 hj (by decide) hb01 (t := 5) rfl d_MO_quarantine_68 (fun H locs X_20 hS hM hF_21 => ?_)
        have hF := hF.tr hF_21
        exact z_Cvret hx hb hr hlk hS (zV0 (if_neg (fun h => h.elim c_5 (fun h => h.2 w_15))) hF hM) (by decide) (by decide) d_MO_quarantine_69
      · refine z_pi (v := 0) (n_MO_MO_isSeen hx hown hG (va_recv hK (hS.1.one hM.ob) (ci := 3) (q0 := 0) rfl rfl) (by rw [hb]; exact d_MO_quarantine_41)) hb (hl.1.trans hml.symm) (c_MO_isSeen l hl9 hM hj) (by rw [if_neg w_15]) (z_Gkeeps lo tP) hG hK hS (cw_MO_isSeen hG (by decide) (by decide)) d_MO_quarantine_41 (Nat.le_of_ble_eq_true rfl) (by decide) (by decide) (fun H hq hS => ?_)
        refine lv_if_ne (tgt := 51) hx hb d_MO_quarantine_44 (by decide) (fun c_22 => absurd (by decide) c_22) (fun c_22 => ?_)
        refine lv_iconst (v := 2) hx hb d_MO_quarantine_47 (by decide) ?_
        refine lv_goto (tgt := 52) hx hb d_MO_quarantine_48 (by decide) ?_
        refine mo_code hx hb hG hown hK hS hM (v := 2) d_MO_quarantine_52 (fun H locs X_23 hS hM hF_24 => ?_)
        have hF := hF.tr hF_24
        refine lv_aload_n hx hb d_MO_quarantine_55 rfl (lv_at hl 0 rfl) ?_
        refine z_get (ci := 3) (C := R_MO) (T := F_MO) (N := 23) hx hb hts j_MO hown hK hS hM.ob rfl 0 (by decide) (hk k_504 rfl) (fun _ h9 => h9) rfl d_MO_quarantine_56 ?_
        refine lv_if_ne (tgt := 69) hx hb d_MO_quarantine_59 (by decide) (fun c_25 => ?_) (fun c_25 => absurd c_25 (by decide))
        exact z_Cvret hx hb hr hlk hS (zV1 1 (if_pos (Or.inr ⟨c_9, w_15⟩)) hF hM) (by decide) (by decide) d_MO_quarantine_69
set_option maxHeartbeats 4000000 in
set_option maxRecDepth 100000 in
theorem c_MO_check_no (l : Launch) (hl9 : l.stackTraces = false) {D : va_G} {cS cR cJ cI cZ : ClassId} {lo tP : Nat} (v : Int32) (p0 p1 : Int32) (a9 : Option Value) (A9 : zA) {mo : Nat} {ad : Nat → Nat} {n k : Nat} {td code0 : Int32} {S : Nat → Nat → Int32} {I : Nat → Nat} {F : Nat → Nat → Int32} {X : zM} (hM : MI mo ad cI cZ n k td code0 S I F X) (hv : ¬ z_rg v 1 (nI k)) : z_C (z_G lo tP) D cls4 (zty cS cR cJ cI cZ) lo l y_MO_check w_MO_check zrC [.ref mo, .int v, .int p0, .int p1] X (zV mo ad cI cZ 1 a9 (some (.int 0)) X A9 ⟨n, k, td, S, I, F⟩) := by
  refine z_ofW (by decide) ?_
  intro p e s m args below meth c s₁ B hml hout hv
  obtain ⟨rfl, hG, hK, hW0, hXl, hlo⟩ := hv
  have hx := B.exec
  have hb := B.bytes
  have hr := B.returns
  have hlk := B.notSynchronized
  have hown : s.vm.findClass R_MO = some m.cls := findClass_of_methodNamed B.named
  have hts : ∀ w9 ∈ z_tb, w9.before ([.ref mo, .int v, .int p0, .int p1] : List Value).toArray s = true := hG.ts _
  have hk : ∀ {w9 : Cond}, w9 ∈ lw_tbl → z_ok w9 = true → w9.before ([.ref mo, .int v, .int p0, .int p1] : List Value).toArray s = true := fun h1 h2 => hG.w h1 h2 _
  have hg : z_Gr s.heap s.heap := z_Gr.rf
  have hS := z_S.start hW0 hXl hlo
  have hl := lv_entry ([.ref mo, .int v, .int p0, .int p1]) (n := 6) (Nat.le_of_ble_eq_true rfl)
  rw [lg_entry_eq]
  generalize (lg_sl ([.ref mo, .int v, .int p0, .int p1]) ++ List.replicate (6 - (lg_sl ([.ref mo, .int v, .int p0, .int p1])).length) Slot.unset).toArray = ls at hl ⊢
  have hl : lv_has ls 6 [(0, .ref mo), (1, .int v), (2, .int p0), (3, .int p1)] := hl
  have hIn := hM.idx
  have hn20 := hM.n20
  have hk20 := hM.k20
  have hF : zFr 1 X X := zFr.rf
  refine lv_aload_n hx hb d_MO_check_0 rfl (lv_at hl 0 rfl) ?_
  refine lv_aload_n hx hb d_MO_check_1 rfl (lv_at hl 0 rfl) ?_
  refine lv_iload_n hx hb d_MO_check_2 rfl (lv_at hl 1 rfl) ?_
  refine z_pi (v := 0) (n_MO_MO_isReturn hx hown hG (va_recv hK (hS.1.one hM.ob) (ci := 3) (q0 := 0) rfl rfl) (by rw [hb]; exact d_MO_check_3)) hb (hl.1.trans hml.symm) (c_MO_isReturn l hl9 v hM) (by rw [if_neg hv]) (z_Gkeeps lo tP) hG hK hS (cw_MO_isReturn hG (by decide) (by decide)) d_MO_check_3 (Nat.le_of_ble_eq_true rfl) (by decide) (by decide) (fun H hq hS => ?_)
  refine lv_if_ne (tgt := 13) hx hb d_MO_check_6 (by decide) (fun c_1 => absurd (by decide) c_1) (fun c_1 => ?_)
  refine lv_iconst (v := 1) hx hb d_MO_check_9 (by decide) ?_
  refine lv_goto (tgt := 27) hx hb d_MO_check_10 (by decide) ?_
  refine mo_code hx hb hG hown hK hS hM (v := 1) d_MO_check_27 (fun H locs X_2 hS hM hF_3 => ?_)
  have hF := hF.tr hF_3
  refine lv_aload_n hx hb d_MO_check_30 rfl (lv_at hl 0 rfl) ?_
  refine z_get (ci := 3) (C := R_MO) (T := F_MO) (N := 23) hx hb hts j_MO hown hK hS hM.ob rfl 0 (by decide) (hk k_504 rfl) (fun _ h9 => h9) rfl d_MO_check_31 ?_
  refine lv_if_ne (tgt := 56) hx hb d_MO_check_34 (by decide) (fun c_4 => ?_) (fun c_4 => absurd c_4 (by decide))
  refine lv_aload_n hx hb d_MO_check_56 rfl (lv_at hl 0 rfl) ?_
  refine z_get (ci := 3) (C := R_MO) (T := F_MO) (N := 23) hx hb hts j_MO hown hK hS hM.ob rfl 0 (by decide) (hk k_504 rfl) (fun _ h9 => h9) rfl d_MO_check_57 ?_
  refine lv_if_le (tgt := 65) hx hb d_MO_check_60 (by decide) (fun c_5 => absurd c_5 (by decide)) (fun c_5 => ?_)
  refine lv_iconst (v := 0) hx hb d_MO_check_63 (by decide) ?_
  exact z_Ciret hx hb hr rfl hlk hS (zV1 0 rfl hF hM) (by decide) (by decide) d_MO_check_64
set_option maxHeartbeats 4000000 in
set_option maxRecDepth 100000 in
theorem c_MO_check (l : Launch) (hl9 : l.stackTraces = false) {D : va_G} {cS cR cJ cI cZ : ClassId} {lo tP : Nat} {j : Nat} (p0 p1 : Int32) {mo : Nat} {ad : Nat → Nat} {n k : Nat} {td code0 : Int32} {S : Nat → Nat → Int32} {I : Nat → Nat} {F : Nat → Nat → Int32} {X : zM} (hM : MI mo ad cI cZ n k td code0 S I F X) (hj : j < k) : z_C (z_G lo tP) D cls4 (zty cS cR cJ cI cZ) lo l y_MO_check w_MO_check zrC [.ref mo, .int (nI (j + 1)), .int p0, .int p1] X (zV mo ad cI cZ (cd_check (F j) p0) (some (.int (z_bits (an_check (F j) p0 p1)))) (some (.int 0)) X ⟨n, k, td, S, I, zfr F j (zfs (F j) 7 (an_check (F j) p0 p1))⟩ ⟨n, k, td, S, I, F⟩) := by
  refine z_ofW (by decide) ?_
  intro p e s m args below meth c s₁ B hml hout hv
  obtain ⟨rfl, hG, hK, hW0, hXl, hlo⟩ := hv
  have hx := B.exec
  have hb := B.bytes
  have hr := B.returns
  have hlk := B.notSynchronized
  have hown : s.vm.findClass R_MO = some m.cls := findClass_of_methodNamed B.named
  have hts : ∀ w9 ∈ z_tb, w9.before ([.ref mo, .int (nI (j + 1)), .int p0, .int p1] : List Value).toArray s = true := hG.ts _
  have hk : ∀ {w9 : Cond}, w9 ∈ lw_tbl → z_ok w9 = true → w9.before ([.ref mo, .int (nI (j + 1)), .int p0, .int p1] : List Value).toArray s = true := fun h1 h2 => hG.w h1 h2 _
  have hg : z_Gr s.heap s.heap := z_Gr.rf
  have hS := z_S.start hW0 hXl hlo
  have hl := lv_entry ([.ref mo, .int (nI (j + 1)), .int p0, .int p1]) (n := 6) (Nat.le_of_ble_eq_true rfl)
  rw [lg_entry_eq]
  generalize (lg_sl ([.ref mo, .int (nI (j + 1)), .int p0, .int p1]) ++ List.replicate (6 - (lg_sl ([.ref mo, .int (nI (j + 1)), .int p0, .int p1])).length) Slot.unset).toArray = ls at hl ⊢
  have hl : lv_has ls 6 [(0, .ref mo), (1, .int (nI (j + 1))), (2, .int p0), (3, .int p1)] := hl
  have hIn := hM.idx
  have hn20 := hM.n20
  have hk20 := hM.k20
  have hF : zFr 1 X X := zFr.rf
  refine lv_aload_n hx hb d_MO_check_0 rfl (lv_at hl 0 rfl) ?_
  refine lv_aload_n hx hb d_MO_check_1 rfl (lv_at hl 0 rfl) ?_
  refine lv_iload_n hx hb d_MO_check_2 rfl (lv_at hl 1 rfl) ?_
  refine z_pi (v := 1) (n_MO_MO_isReturn hx hown hG (va_recv hK (hS.1.one hM.ob) (ci := 3) (q0 := 0) rfl rfl) (by rw [hb]; exact d_MO_check_3)) hb (hl.1.trans hml.symm) (c_MO_isReturn l hl9 (nI (j + 1)) hM) (by rw [if_pos ((z_rg1 (by omega) hk20).mpr hj)]) (z_Gkeeps lo tP) hG hK hS (cw_MO_isReturn hG (by decide) (by decide)) d_MO_check_3 (Nat.le_of_ble_eq_true rfl) (by decide) (by decide) (fun H hq hS => ?_)
  refine lv_if_ne (tgt := 13) hx hb d_MO_check_6 (by decide) (fun c_1 => ?_) (fun c_1 => absurd c_1 (by decide))
  refine lv_iload_n hx hb d_MO_check_13 rfl (lv_at hl 2 rfl) ?_
  refine lv_iconst (v := 0) hx hb d_MO_check_14 (by decide) ?_
  refine lv_iconst (v := 4) hx hb d_MO_check_15 (by decide) ?_
  by_cases w_2 : z_rg p0 0 4
  · refine z_pi (v := 1) (n_MO_MO_in hx hown hG (by rw [hb]; exact d_MO_check_16)) hb (hl.1.trans hml.symm) (c_MO_in l hl9 p0 0 4) (by rw [if_pos w_2]) (z_Gkeeps lo tP) hG hK hS (cw_MO_in hG (by decide) (by decide)) d_MO_check_16 (Nat.le_of_ble_eq_true rfl) (by decide) (by decide) (fun H hq hS => ?_)
    refine lv_if_ne (tgt := 26) hx hb d_MO_check_19 (by decide) (fun c_3 => ?_) (fun c_3 => absurd c_3 (by decide))
    refine lv_iconst (v := 0) hx hb d_MO_check_26 (by decide) ?_
    refine mo_code hx hb hG hown hK hS hM (v := 0) d_MO_check_27 (fun H locs X_4 hS hM hF_5 => ?_)
    have hF := hF.tr hF_5
    refine lv_aload_n hx hb d_MO_check_30 rfl (lv_at hl 0 rfl) ?_
    refine z_get (ci := 3) (C := R_MO) (T := F_MO) (N := 23) hx hb hts j_MO hown hK hS hM.ob rfl 0 (by decide) (hk k_504 rfl) (fun _ h9 => h9) rfl d_MO_check_31 ?_
    refine lv_if_ne (tgt := 56) hx hb d_MO_check_34 (by decide) (fun c_6 => absurd (by decide) c_6) (fun c_6 => ?_)
    refine lv_aload_n hx hb d_MO_check_37 rfl (lv_at hl 0 rfl) ?_
    refine lv_aload_n hx hb d_MO_check_38 rfl (lv_at hl 0 rfl) ?_
    refine z_get (ci := 3) (C := R_MO) (T := F_MO) (N := 23) hx hb hts j_MO hown hK hS hM.ob rfl 10 (by decide) (hk k_514 rfl) (fun _ h9 => h9) rfl d_MO_check_39 ?_
    refine lv_iload_n hx hb d_MO_check_42 rfl (lv_at hl 1 rfl) ?_
    refine mo_ld (v := F j 3) hx hb hK hS hM 10 hj (by decide) rfl d_MO_check_43 ?_
    refine lv_iconst (v := 2) hx hb d_MO_check_44 (by decide) ?_
    refine lv_icmp_eq (tgt := 52) hx hb d_MO_check_45 (by decide) (fun c_7 => ?_) (fun c_7 => ?_)
    · refine lv_iconst (v := 0) hx hb d_MO_check_52 (by decide) ?_
      refine mo_code hx hb hG hown hK hS hM (v := 0) d_MO_check_53 (fun H locs X_8 hS hM hF_9 => ?_)
      have hF := hF.tr hF_9
      refine lv_aload_n hx hb d_MO_check_56 rfl (lv_at hl 0 rfl) ?_
      refine z_get (ci := 3) (C := R_MO) (T := F_MO) (N := 23) hx hb hts j_MO hown hK hS hM.ob rfl 0 (by decide) (hk k_504 rfl) (fun _ h9 => h9) rfl d_MO_check_57 ?_
      refine lv_if_le (tgt := 65) hx hb d_MO_check_60 (by decide) (fun c_10 => ?_) (fun c_10 => absurd (by decide) c_10)
      refine lv_aload_n hx hb d_MO_check_65 rfl (lv_at hl 0 rfl) ?_
      refine z_get (ci := 3) (C := R_MO) (T := F_MO) (N := 23) hx hb hts j_MO hown hK hS hM.ob rfl 18 (by decide) (hk k_522 rfl) (fun _ h9 => h9) rfl d_MO_check_66 ?_
      refine lv_iload_n hx hb d_MO_check_69 rfl (lv_at hl 1 rfl) ?_
      refine lv_iload_n hx hb d_MO_check_70 rfl (lv_at hl 3 rfl) ?_
      refine lv_if_eq (tgt := 89) hx hb d_MO_check_71 (by decide) (fun c_11 => ?_) (fun c_11 => ?_)
      · refine lv_aload_n hx hb d_MO_check_89 rfl (lv_at hl 0 rfl) ?_
        refine z_get (ci := 3) (C := R_MO) (T := F_MO) (N := 23) hx hb hts j_MO hown hK hS hM.ob rfl 18 (by decide) (hk k_522 rfl) (fun _ h9 => h9) rfl d_MO_check_90 ?_
        refine lv_iload_n hx hb d_MO_check_93 rfl (lv_at hl 1 rfl) ?_
        refine mo_ld (v := F j 7) hx hb hK hS hM 18 hj (by decide) rfl d_MO_check_94 ?_
        refine lv_iconst (v := 1) hx hb d_MO_check_95 (by decide) ?_
        refine lv_iload_n hx hb d_MO_check_96 rfl (lv_at hl 2 rfl) ?_
        refine lv_ishl hx hb d_MO_check_97 ?_
        refine lv_ior hx hb d_MO_check_98 ?_
        rw [← zfr_id F j] at hM
        refine mo_st hx hb hK hS hM 18 hj (by decide) (t := 7) rfl d_MO_check_99 (fun H locs X_12 hS hM hF_13 => ?_)
        have hF := hF.tr hF_13
        refine lv_iconst (v := 0) hx hb d_MO_check_100 (by decide) ?_
        refine lv_istore (lv' := [(4, .int 0), (0, .ref mo), (1, .int (nI (j + 1))), (2, .int p0), (3, .int p1)]) hx hb d_MO_check_101 hl (by decide) rfl (fun ls hl => ?_)
        refine lv_iconst (v := 0) hx hb d_MO_check_103 (by decide) ?_
        refine lv_istore (lv' := [(5, .int 0), (4, .int 0), (0, .ref mo), (1, .int (nI (j + 1))), (2, .int p0), (3, .int p1)]) hx hb d_MO_check_104 hl (by decide) rfl (fun ls hl => ?_)
        refine lv_iload hx hb d_MO_check_106 (lv_at hl 0 rfl) ?_
        refine lv_iconst (v := 5) hx hb d_MO_check_108 (by decide) ?_
        refine lv_icmp_ge (tgt := 134) hx hb d_MO_check_109 (by decide) (fun c_14 => absurd c_14 (by decide)) (fun c_14 => ?_)
        refine lv_iload hx hb d_MO_check_112 (lv_at hl 1 rfl) ?_
        refine lv_aload_n hx hb d_MO_check_114 rfl (lv_at hl 2 rfl) ?_
        refine z_get (ci := 3) (C := R_MO) (T := F_MO) (N := 23) hx hb hts j_MO hown hK hS hM.ob rfl 18 (by decide) (hk k_522 rfl) (fun _ h9 => h9) rfl d_MO_check_115 ?_
        refine lv_iload_n hx hb d_MO_check_118 rfl (lv_at hl 3 rfl) ?_
        refine mo_ld (v := (F j 7) ||| ((1 : Int32) <<< (p0 &&& 31))) hx hb hK hS hM 18 hj (by decide) (by rw [zfr_at]; rfl) d_MO_check_119 ?_
        refine lv_iload hx hb d_MO_check_120 (lv_at hl 0 rfl) ?_
        refine lv_ishr hx hb d_MO_check_122 ?_
        refine lv_iconst (v := 1) hx hb d_MO_check_123 (by decide) ?_
        refine lv_iand hx hb d_MO_check_124 ?_
        refine lv_iadd hx hb d_MO_check_125 ?_
        refine lv_istore (lv' := [(4, .int (0 + ((((F j 7) ||| ((1 : Int32) <<< (p0 &&& 31))) >>> ((0 : Int32) &&& 31)) &&& 1))), (5, .int 0), (0, .ref mo), (1, .int (nI (j + 1))), (2, .int p0), (3, .int p1)]) hx hb d_MO_check_126 hl (by decide) rfl (fun ls hl => ?_)
        refine lv_iinc (v := 1) (lv' := [(5, .int 1), (4, .int (0 + ((((F j 7) ||| ((1 : Int32) <<< (p0 &&& 31))) >>> ((0 : Int32) &&& 31)) &&& 1))), (0, .ref mo), (1, .int (nI (j + 1))), (2, .int p0), (3, .int p1)]) hx hb d_MO_check_128 hl (k := 1) rfl rfl (by decide) rfl (fun ls hl => ?_)
        refine lv_goto (tgt := 106) hx hb d_MO_check_131 (by decide) ?_
        refine lv_iload hx hb d_MO_check_106 (lv_at hl 0 rfl) ?_
        refine lv_iconst (v := 5) hx hb d_MO_check_108 (by decide) ?_
        refine lv_icmp_ge (tgt := 134) hx hb d_MO_check_109 (by decide) (fun c_15 => absurd c_15 (by decide)) (fun c_15 => ?_)
        refine lv_iload hx hb d_MO_check_112 (lv_at hl 1 rfl) ?_
        refine lv_aload_n hx hb d_MO_check_114 rfl (lv_at hl 2 rfl) ?_
        refine z_get (ci := 3) (C := R_MO) (T := F_MO) (N := 23) hx hb hts j_MO hown hK hS hM.ob rfl 18 (by decide) (hk k_522 rfl) (fun _ h9 => h9) rfl d_MO_check_115 ?_
        refine lv_iload_n hx hb d_MO_check_118 rfl (lv_at hl 3 rfl) ?_
        refine mo_ld (v := (F j 7) ||| ((1 : Int32) <<< (p0 &&& 31))) hx hb hK hS hM 18 hj (by decide) (by rw [zfr_at]; rfl) d_MO_check_119 ?_
        refine lv_iload hx hb d_MO_check_120 (lv_at hl 0 rfl) ?_
        refine lv_ishr hx hb d_MO_check_122 ?_
        refine lv_iconst (v := 1) hx hb d_MO_check_123 (by decide) ?_
        refine lv_iand hx hb d_MO_check_124 ?_
        refine lv_iadd hx hb d_MO_check_125 ?_
        refine lv_istore (lv' := [(4, .int ((0 + ((((F j 7) ||| ((1 : Int32) <<< (p0 &&& 31))) >>> ((0 : Int32) &&& 31)) &&& 1)) + ((((F j 7) ||| ((1 : Int32) <<< (p0 &&& 31))) >>> ((1 : Int32) &&& 31)) &&& 1))), (5, .int 1), (0, .ref mo), (1, .int (nI (j + 1))), (2, .int p0), (3, .int p1)]) hx hb d_MO_check_126 hl (by decide) rfl (fun ls hl => ?_)
        refine lv_iinc (v := 2) (lv' := [(5, .int 2), (4, .int ((0 + ((((F j 7) ||| ((1 : Int32) <<< (p0 &&& 31))) >>> ((0 : Int32) &&& 31)) &&& 1)) + ((((F j 7) ||| ((1 : Int32) <<< (p0 &&& 31))) >>> ((1 : Int32) &&& 31)) &&& 1))), (0, .ref mo), (1, .int (nI (j + 1))), (2, .int p0), (3, .int p1)]) hx hb d_MO_check_128 hl (k := 1) rfl rfl (by decide) rfl (fun ls hl => ?_)
        refine lv_goto (tgt := 106) hx hb d_MO_check_131 (by decide) ?_
        refine lv_iload hx hb d_MO_check_106 (lv_at hl 0 rfl) ?_
        refine lv_iconst (v := 5) hx hb d_MO_check_108 (by decide) ?_
        refine lv_icmp_ge (tgt := 134) hx hb d_MO_check_109 (by decide) (fun c_16 => absurd c_16 (by decide)) (fun c_16 => ?_)
        refine lv_iload hx hb d_MO_check_112 (lv_at hl 1 rfl) ?_
        refine lv_aload_n hx hb d_MO_check_114 rfl (lv_at hl 2 rfl) ?_
        refine z_get (ci := 3) (C := R_MO) (T := F_MO) (N := 23) hx hb hts j_MO hown hK hS hM.ob rfl 18 (by decide) (hk k_522 rfl) (fun _ h9 => h9) rfl d_MO_check_115 ?_
        refine lv_iload_n hx hb d_MO_check_118 rfl (lv_at hl 3 rfl) ?_
        refine mo_ld (v := (F j 7) ||| ((1 : Int32) <<< (p0 &&& 31))) hx hb hK hS hM 18 hj (by decide) (by rw [zfr_at]; rfl) d_MO_check_119 ?_
        refine lv_iload hx hb d_MO_check_120 (lv_at hl 0 rfl) ?_
        refine lv_ishr hx hb d_MO_check_122 ?_
        refine lv_iconst (v := 1) hx hb d_MO_check_123 (by decide) ?_
        refine lv_iand hx hb d_MO_check_124 ?_
        refine lv_iadd hx hb d_MO_check_125 ?_
        refine lv_istore (lv' := [(4, .int (((0 + ((((F j 7) ||| ((1 : Int32) <<< (p0 &&& 31))) >>> ((0 : Int32) &&& 31)) &&& 1)) + ((((F j 7) ||| ((1 : Int32) <<< (p0 &&& 31))) >>> ((1 : Int32) &&& 31)) &&& 1)) + ((((F j 7) ||| ((1 : Int32) <<< (p0 &&& 31))) >>> ((2 : Int32) &&& 31)) &&& 1))), (5, .int 2), (0, .ref mo), (1, .int (nI (j + 1))), (2, .int p0), (3, .int p1)]) hx hb d_MO_check_126 hl (by decide) rfl (fun ls hl => ?_)
        refine lv_iinc (v := 3) (lv' := [(5, .int 3), (4, .int (((0 + ((((F j 7) ||| ((1 : Int32) <<< (p0 &&& 31))) >>> ((0 : Int32) &&& 31)) &&& 1)) + ((((F j 7) ||| ((1 : Int32) <<< (p0 &&& 31))) >>> ((1 : Int32) &&& 31)) &&& 1)) + ((((F j 7) ||| ((1 : Int32) <<< (p0 &&& 31))) >>> ((2 : Int32) &&& 31)) &&& 1))), (0, .ref mo), (1, .int (nI (j + 1))), (2, .int p0), (3, .int p1)]) hx hb d_MO_check_128 hl (k := 1) rfl rfl (by decide) rfl (fun ls hl => ?_)
        refine lv_goto (tgt := 106) hx hb d_MO_check_131 (by decide) ?_
        refine lv_iload hx hb d_MO_check_106 (lv_at hl 0 rfl) ?_
        refine lv_iconst (v := 5) hx hb d_MO_check_108 (by decide) ?_
        refine lv_icmp_ge (tgt := 134) hx hb d_MO_check_109 (by decide) (fun c_17 => absurd c_17 (by decide)) (fun c_17 => ?_)
        refine lv_iload hx hb d_MO_check_112 (lv_at hl 1 rfl) ?_
        refine lv_aload_n hx hb d_MO_check_114 rfl (lv_at hl 2 rfl) ?_
        refine z_get (ci := 3) (C := R_MO) (T := F_MO) (N := 23) hx hb hts j_MO hown hK hS hM.ob rfl 18 (by decide) (hk k_522 rfl) (fun _ h9 => h9) rfl d_MO_check_115 ?_
        refine lv_iload_n hx hb d_MO_check_118 rfl (lv_at hl 3 rfl) ?_
        refine mo_ld (v := (F j 7) ||| ((1 : Int32) <<< (p0 &&& 31))) hx hb hK hS hM 18 hj (by decide) (by rw [zfr_at]; rfl) d_MO_check_119 ?_
        refine lv_iload hx hb d_MO_check_120 (lv_at hl 0 rfl) ?_
        refine lv_ishr hx hb d_MO_check_122 ?_
        refine lv_iconst (v := 1) hx hb d_MO_check_123 (by decide) ?_
        refine lv_iand hx hb d_MO_check_124 ?_
        refine lv_iadd hx hb d_MO_check_125 ?_
        refine lv_istore (lv' := [(4, .int ((((0 + ((((F j 7) ||| ((1 : Int32) <<< (p0 &&& 31))) >>> ((0 : Int32) &&& 31)) &&& 1)) + ((((F j 7) ||| ((1 : Int32) <<< (p0 &&& 31))) >>> ((1 : Int32) &&& 31)) &&& 1)) + ((((F j 7) ||| ((1 : Int32) <<< (p0 &&& 31))) >>> ((2 : Int32) &&& 31)) &&& 1)) + ((((F j 7) ||| ((1 : Int32) <<< (p0 &&& 31))) >>> ((3 : Int32) &&& 31)) &&& 1))), (5, .int 3), (0, .ref mo), (1, .int (nI (j + 1))), (2, .int p0), (3, .int p1)]) hx hb d_MO_check_126 hl (by decide) rfl (fun ls hl => ?_)
        refine lv_iinc (v := 4) (lv' := [(5, .int 4), (4, .int ((((0 + ((((F j 7) ||| ((1 : Int32) <<< (p0 &&& 31))) >>> ((0 : Int32) &&& 31)) &&& 1)) + ((((F j 7) ||| ((1 : Int32) <<< (p0 &&& 31))) >>> ((1 : Int32) &&& 31)) &&& 1)) + ((((F j 7) ||| ((1 : Int32) <<< (p0 &&& 31))) >>> ((2 : Int32) &&& 31)) &&& 1)) + ((((F j 7) ||| ((1 : Int32) <<< (p0 &&& 31))) >>> ((3 : Int32) &&& 31)) &&& 1))), (0, .ref mo), (1, .int (nI (j + 1))), (2, .int p0), (3, .int p1)]) hx hb d_MO_check_128 hl (k := 1) rfl rfl (by decide) rfl (fun ls hl => ?_)
        refine lv_goto (tgt := 106) hx hb d_MO_check_131 (by decide) ?_
        refine lv_iload hx hb d_MO_check_106 (lv_at hl 0 rfl) ?_
        refine lv_iconst (v := 5) hx hb d_MO_check_108 (by decide) ?_
        refine lv_icmp_ge (tgt := 134) hx hb d_MO_check_109 (by decide) (fun c_18 => absurd c_18 (by decide)) (fun c_18 => ?_)
        refine lv_iload hx hb d_MO_check_112 (lv_at hl 1 rfl) ?_
        refine lv_aload_n hx hb d_MO_check_114 rfl (lv_at hl 2 rfl) ?_
        refine z_get (ci := 3) (C := R_MO) (T := F_MO) (N := 23) hx hb hts j_MO hown hK hS hM.ob rfl 18 (by decide) (hk k_522 rfl) (fun _ h9 => h9) rfl d_MO_check_115 ?_
        refine lv_iload_n hx hb d_MO_check_118 rfl (lv_at hl 3 rfl) ?_
        refine mo_ld (v := (F j 7) ||| ((1 : Int32) <<< (p0 &&& 31))) hx hb hK hS hM 18 hj (by decide) (by rw [zfr_at]; rfl) d_MO_check_119 ?_
        refine lv_iload hx hb d_MO_check_120 (lv_at hl 0 rfl) ?_
        refine lv_ishr hx hb d_MO_check_122 ?_
        refine lv_iconst (v := 1) hx hb d_MO_check_123 (by decide) ?_
        refine lv_iand hx hb d_MO_check_124 ?_
        refine lv_iadd hx hb d_MO_check_125 ?_
        refine lv_istore (lv' := [(4, .int (((((0 + ((((F j 7) ||| ((1 : Int32) <<< (p0 &&& 31))) >>> ((0 : Int32) &&& 31)) &&& 1)) + ((((F j 7) ||| ((1 : Int32) <<< (p0 &&& 31))) >>> ((1 : Int32) &&& 31)) &&& 1)) + ((((F j 7) ||| ((1 : Int32) <<< (p0 &&& 31))) >>> ((2 : Int32) &&& 31)) &&& 1)) + ((((F j 7) ||| ((1 : Int32) <<< (p0 &&& 31))) >>> ((3 : Int32) &&& 31)) &&& 1)) + ((((F j 7) ||| ((1 : Int32) <<< (p0 &&& 31))) >>> ((4 : Int32) &&& 31)) &&& 1))), (5, .int 4), (0, .ref mo), (1, .int (nI (j + 1))), (2, .int p0), (3, .int p1)]) hx hb d_MO_check_126 hl (by decide) rfl (fun ls hl => ?_)
        refine lv_iinc (v := 5) (lv' := [(5, .int 5), (4, .int (((((0 + ((((F j 7) ||| ((1 : Int32) <<< (p0 &&& 31))) >>> ((0 : Int32) &&& 31)) &&& 1)) + ((((F j 7) ||| ((1 : Int32) <<< (p0 &&& 31))) >>> ((1 : Int32) &&& 31)) &&& 1)) + ((((F j 7) ||| ((1 : Int32) <<< (p0 &&& 31))) >>> ((2 : Int32) &&& 31)) &&& 1)) + ((((F j 7) ||| ((1 : Int32) <<< (p0 &&& 31))) >>> ((3 : Int32) &&& 31)) &&& 1)) + ((((F j 7) ||| ((1 : Int32) <<< (p0 &&& 31))) >>> ((4 : Int32) &&& 31)) &&& 1))), (0, .ref mo), (1, .int (nI (j + 1))), (2, .int p0), (3, .int p1)]) hx hb d_MO_check_128 hl (k := 1) rfl rfl (by decide) rfl (fun ls hl => ?_)
        refine lv_goto (tgt := 106) hx hb d_MO_check_131 (by decide) ?_
        refine lv_iload hx hb d_MO_check_106 (lv_at hl 0 rfl) ?_
        refine lv_iconst (v := 5) hx hb d_MO_check_108 (by decide) ?_
        refine lv_icmp_ge (tgt := 134) hx hb d_MO_check_109 (by decide) (fun c_19 => ?_) (fun c_19 => absurd (by decide) c_19)
        refine lv_iload hx hb d_MO_check_134 (lv_at hl 1 rfl) ?_
        exact z_Ciret hx hb hr rfl hlk hS (by simp only [an_check, if_pos c_11]; exact zV0 (by unfold cd_check; rw [if_pos w_2]; simp [c_7, c_11]) hF hM) (by decide) (by decide) d_MO_check_136
      · refine lv_aload_n hx hb d_MO_check_74 rfl (lv_at hl 0 rfl) ?_
        refine z_get (ci := 3) (C := R_MO) (T := F_MO) (N := 23) hx hb hts j_MO hown hK hS hM.ob rfl 18 (by decide) (hk k_522 rfl) (fun _ h9 => h9) rfl d_MO_check_75 ?_
        refine lv_iload_n hx hb d_MO_check_78 rfl (lv_at hl 1 rfl) ?_
        refine mo_ld (v := F j 7) hx hb hK hS hM 18 hj (by decide) rfl d_MO_check_79 ?_
        refine lv_iconst (v := 1) hx hb d_MO_check_80 (by decide) ?_
        refine lv_iload_n hx hb d_MO_check_81 rfl (lv_at hl 2 rfl) ?_
        refine lv_ishl hx hb d_MO_check_82 ?_
        refine lv_iconst (v := (-1)) hx hb d_MO_check_83 (by decide) ?_
        refine lv_ixor hx hb d_MO_check_84 ?_
        refine lv_iand hx hb d_MO_check_85 ?_
        refine lv_goto (tgt := 99) hx hb d_MO_check_86 (by decide) ?_
        rw [← zfr_id F j] at hM
        refine mo_st hx hb hK hS hM 18 hj (by decide) (t := 7) rfl d_MO_check_99 (fun H locs X_20 hS hM hF_21 => ?_)
        have hF := hF.tr hF_21
        refine lv_iconst (v := 0) hx hb d_MO_check_100 (by decide) ?_
        refine lv_istore (lv' := [(4, .int 0), (0, .ref mo), (1, .int (nI (j + 1))), (2, .int p0), (3, .int p1)]) hx hb d_MO_check_101 hl (by decide) rfl (fun ls hl => ?_)
        refine lv_iconst (v := 0) hx hb d_MO_check_103 (by decide) ?_
        refine lv_istore (lv' := [(5, .int 0), (4, .int 0), (0, .ref mo), (1, .int (nI (j + 1))), (2, .int p0), (3, .int p1)]) hx hb d_MO_check_104 hl (by decide) rfl (fun ls hl => ?_)
        refine lv_iload hx hb d_MO_check_106 (lv_at hl 0 rfl) ?_
        refine lv_iconst (v := 5) hx hb d_MO_check_108 (by decide) ?_
        refine lv_icmp_ge (tgt := 134) hx hb d_MO_check_109 (by decide) (fun c_22 => absurd c_22 (by decide)) (fun c_22 => ?_)
        refine lv_iload hx hb d_MO_check_112 (lv_at hl 1 rfl) ?_
        refine lv_aload_n hx hb d_MO_check_114 rfl (lv_at hl 2 rfl) ?_
        refine z_get (ci := 3) (C := R_MO) (T := F_MO) (N := 23) hx hb hts j_MO hown hK hS hM.ob rfl 18 (by decide) (hk k_522 rfl) (fun _ h9 => h9) rfl d_MO_check_115 ?_
        refine lv_iload_n hx hb d_MO_check_118 rfl (lv_at hl 3 rfl) ?_
        refine mo_ld (v := (F j 7) &&& (((1 : Int32) <<< (p0 &&& 31)) ^^^ (-1))) hx hb hK hS hM 18 hj (by decide) (by rw [zfr_at]; rfl) d_MO_check_119 ?_
        refine lv_iload hx hb d_MO_check_120 (lv_at hl 0 rfl) ?_
        refine lv_ishr hx hb d_MO_check_122 ?_
        refine lv_iconst (v := 1) hx hb d_MO_check_123 (by decide) ?_
        refine lv_iand hx hb d_MO_check_124 ?_
        refine lv_iadd hx hb d_MO_check_125 ?_
        refine lv_istore (lv' := [(4, .int (0 + ((((F j 7) &&& (((1 : Int32) <<< (p0 &&& 31)) ^^^ (-1))) >>> ((0 : Int32) &&& 31)) &&& 1))), (5, .int 0), (0, .ref mo), (1, .int (nI (j + 1))), (2, .int p0), (3, .int p1)]) hx hb d_MO_check_126 hl (by decide) rfl (fun ls hl => ?_)
        refine lv_iinc (v := 1) (lv' := [(5, .int 1), (4, .int (0 + ((((F j 7) &&& (((1 : Int32) <<< (p0 &&& 31)) ^^^ (-1))) >>> ((0 : Int32) &&& 31)) &&& 1))), (0, .ref mo), (1, .int (nI (j + 1))), (2, .int p0), (3, .int p1)]) hx hb d_MO_check_128 hl (k := 1) rfl rfl (by decide) rfl (fun ls hl => ?_)
        refine lv_goto (tgt := 106) hx hb d_MO_check_131 (by decide) ?_
        refine lv_iload hx hb d_MO_check_106 (lv_at hl 0 rfl) ?_
        refine lv_iconst (v := 5) hx hb d_MO_check_108 (by decide) ?_
        refine lv_icmp_ge (tgt := 134) hx hb d_MO_check_109 (by decide) (fun c_23 => absurd c_23 (by decide)) (fun c_23 => ?_)
        refine lv_iload hx hb d_MO_check_112 (lv_at hl 1 rfl) ?_
        refine lv_aload_n hx hb d_MO_check_114 rfl (lv_at hl 2 rfl) ?_
        refine z_get (ci := 3) (C := R_MO) (T := F_MO) (N := 23) hx hb hts j_MO hown hK hS hM.ob rfl 18 (by decide) (hk k_522 rfl) (fun _ h9 => h9) rfl d_MO_check_115 ?_
        refine lv_iload_n hx hb d_MO_check_118 rfl (lv_at hl 3 rfl) ?_
        refine mo_ld (v := (F j 7) &&& (((1 : Int32) <<< (p0 &&& 31)) ^^^ (-1))) hx hb hK hS hM 18 hj (by decide) (by rw [zfr_at]; rfl) d_MO_check_119 ?_
        refine lv_iload hx hb d_MO_check_120 (lv_at hl 0 rfl) ?_
        refine lv_ishr hx hb d_MO_check_122 ?_
        refine lv_iconst (v := 1) hx hb d_MO_check_123 (by decide) ?_
        refine lv_iand hx hb d_MO_check_124 ?_
        refine lv_iadd hx hb d_MO_check_125 ?_
        refine lv_istore (lv' := [(4, .int ((0 + ((((F j 7) &&& (((1 : Int32) <<< (p0 &&& 31)) ^^^ (-1))) >>> ((0 : Int32) &&& 31)) &&& 1)) + ((((F j 7) &&& (((1 : Int32) <<< (p0 &&& 31)) ^^^ (-1))) >>> ((1 : Int32) &&& 31)) &&& 1))), (5, .int 1), (0, .ref mo), (1, .int (nI (j + 1))), (2, .int p0), (3, .int p1)]) hx hb d_MO_check_126 hl (by decide) rfl (fun ls hl => ?_)
        refine lv_iinc (v := 2) (lv' := [(5, .int 2), (4, .int ((0 + ((((F j 7) &&& (((1 : Int32) <<< (p0 &&& 31)) ^^^ (-1))) >>> ((0 : Int32) &&& 31)) &&& 1)) + ((((F j 7) &&& (((1 : Int32) <<< (p0 &&& 31)) ^^^ (-1))) >>> ((1 : Int32) &&& 31)) &&& 1))), (0, .ref mo), (1, .int (nI (j + 1))), (2, .int p0), (3, .int p1)]) hx hb d_MO_check_128 hl (k := 1) rfl rfl (by decide) rfl (fun ls hl => ?_)
        refine lv_goto (tgt := 106) hx hb d_MO_check_131 (by decide) ?_
        refine lv_iload hx hb d_MO_check_106 (lv_at hl 0 rfl) ?_
        refine lv_iconst (v := 5) hx hb d_MO_check_108 (by decide) ?_
        refine lv_icmp_ge (tgt := 134) hx hb d_MO_check_109 (by decide) (fun c_24 => absurd c_24 (by decide)) (fun c_24 => ?_)
        refine lv_iload hx hb d_MO_check_112 (lv_at hl 1 rfl) ?_
        refine lv_aload_n hx hb d_MO_check_114 rfl (lv_at hl 2 rfl) ?_
        refine z_get (ci := 3) (C := R_MO) (T := F_MO) (N := 23) hx hb hts j_MO hown hK hS hM.ob rfl 18 (by decide) (hk k_522 rfl) (fun _ h9 => h9) rfl d_MO_check_115 ?_
        refine lv_iload_n hx hb d_MO_check_118 rfl (lv_at hl 3 rfl) ?_
        refine mo_ld (v := (F j 7) &&& (((1 : Int32) <<< (p0 &&& 31)) ^^^ (-1))) hx hb hK hS hM 18 hj (by decide) (by rw [zfr_at]; rfl) d_MO_check_119 ?_
        refine lv_iload hx hb d_MO_check_120 (lv_at hl 0 rfl) ?_
        refine lv_ishr hx hb d_MO_check_122 ?_
        refine lv_iconst (v := 1) hx hb d_MO_check_123 (by decide) ?_
        refine lv_iand hx hb d_MO_check_124 ?_
        refine lv_iadd hx hb d_MO_check_125 ?_
        refine lv_istore (lv' := [(4, .int (((0 + ((((F j 7) &&& (((1 : Int32) <<< (p0 &&& 31)) ^^^ (-1))) >>> ((0 : Int32) &&& 31)) &&& 1)) + ((((F j 7) &&& (((1 : Int32) <<< (p0 &&& 31)) ^^^ (-1))) >>> ((1 : Int32) &&& 31)) &&& 1)) + ((((F j 7) &&& (((1 : Int32) <<< (p0 &&& 31)) ^^^ (-1))) >>> ((2 : Int32) &&& 31)) &&& 1))), (5, .int 2), (0, .ref mo), (1, .int (nI (j + 1))), (2, .int p0), (3, .int p1)]) hx hb d_MO_check_126 hl (by decide) rfl (fun ls hl => ?_)
        refine lv_iinc (v := 3) (lv' := [(5, .int 3), (4, .int (((0 + ((((F j 7) &&& (((1 : Int32) <<< (p0 &&& 31)) ^^^ (-1))) >>> ((0 : Int32) &&& 31)) &&& 1)) + ((((F j 7) &&& (((1 : Int32) <<< (p0 &&& 31)) ^^^ (-1))) >>> ((1 : Int32) &&& 31)) &&& 1)) + ((((F j 7) &&& (((1 : Int32) <<< (p0 &&& 31)) ^^^ (-1))) >>> ((2 : Int32) &&& 31)) &&& 1))), (0, .ref mo), (1, .int (nI (j + 1))), (2, .int p0), (3, .int p1)]) hx hb d_MO_check_128 hl (k := 1) rfl rfl (by decide) rfl (fun ls hl => ?_)
        refine lv_goto (tgt := 106) hx hb d_MO_check_131 (by decide) ?_
        refine lv_iload hx hb d_MO_check_106 (lv_at hl 0 rfl) ?_
        refine lv_iconst (v := 5) hx hb d_MO_check_108 (by decide) ?_
        refine lv_icmp_ge (tgt := 134) hx hb d_MO_check_109 (by decide) (fun c_25 => absurd c_25 (by decide)) (fun c_25 => ?_)
        refine lv_iload hx hb d_MO_check_112 (lv_at hl 1 rfl) ?_
        refine lv_aload_n hx hb d_MO_check_114 rfl (lv_at hl 2 rfl) ?_
        refine z_get (ci := 3) (C := R_MO) (T := F_MO) (N := 23) hx hb hts j_MO hown hK hS hM.ob rfl 18 (by decide) (hk k_522 rfl) (fun _ h9 => h9) rfl d_MO_check_115 ?_
        refine lv_iload_n hx hb d_MO_check_118 rfl (lv_at hl 3 rfl) ?_
        refine mo_ld (v := (F j 7) &&& (((1 : Int32) <<< (p0 &&& 31)) ^^^ (-1))) hx hb hK hS hM 18 hj (by decide) (by rw [zfr_at]; rfl) d_MO_check_119 ?_
        refine lv_iload hx hb d_MO_check_120 (lv_at hl 0 rfl) ?_
        refine lv_ishr hx hb d_MO_check_122 ?_
        refine lv_iconst (v := 1) hx hb d_MO_check_123 (by decide) ?_
        refine lv_iand hx hb d_MO_check_124 ?_
        refine lv_iadd hx hb d_MO_check_125 ?_
        refine lv_istore (lv' := [(4, .int ((((0 + ((((F j 7) &&& (((1 : Int32) <<< (p0 &&& 31)) ^^^ (-1))) >>> ((0 : Int32) &&& 31)) &&& 1)) + ((((F j 7) &&& (((1 : Int32) <<< (p0 &&& 31)) ^^^ (-1))) >>> ((1 : Int32) &&& 31)) &&& 1)) + ((((F j 7) &&& (((1 : Int32) <<< (p0 &&& 31)) ^^^ (-1))) >>> ((2 : Int32) &&& 31)) &&& 1)) + ((((F j 7) &&& (((1 : Int32) <<< (p0 &&& 31)) ^^^ (-1))) >>> ((3 : Int32) &&& 31)) &&& 1))), (5, .int 3), (0, .ref mo), (1, .int (nI (j + 1))), (2, .int p0), (3, .int p1)]) hx hb d_MO_check_126 hl (by decide) rfl (fun ls hl => ?_)
        refine lv_iinc (v := 4) (lv' := [(5, .int 4), (4, .int ((((0 + ((((F j 7) &&& (((1 : Int32) <<< (p0 &&& 31)) ^^^ (-1))) >>> ((0 : Int32) &&& 31)) &&& 1)) + ((((F j 7) &&& (((1 : Int32) <<< (p0 &&& 31)) ^^^ (-1))) >>> ((1 : Int32) &&& 31)) &&& 1)) + ((((F j 7) &&& (((1 : Int32) <<< (p0 &&& 31)) ^^^ (-1))) >>> ((2 : Int32) &&& 31)) &&& 1)) + ((((F j 7) &&& (((1 : Int32) <<< (p0 &&& 31)) ^^^ (-1))) >>> ((3 : Int32) &&& 31)) &&& 1))), (0, .ref mo), (1, .int (nI (j + 1))), (2, .int p0), (3, .int p1)]) hx hb d_MO_check_128 hl (k := 1) rfl rfl (by decide) rfl (fun ls hl => ?_)
        refine lv_goto (tgt := 106) hx hb d_MO_check_131 (by decide) ?_
        refine lv_iload hx hb d_MO_check_106 (lv_at hl 0 rfl) ?_
        refine lv_iconst (v := 5) hx hb d_MO_check_108 (by decide) ?_
        refine lv_icmp_ge (tgt := 134) hx hb d_MO_check_109 (by decide) (fun c_26 => absurd c_26 (by decide)) (fun c_26 => ?_)
        refine lv_iload hx hb d_MO_check_112 (lv_at hl 1 rfl) ?_
        refine lv_aload_n hx hb d_MO_check_114 rfl (lv_at hl 2 rfl) ?_
        refine z_get (ci := 3) (C := R_MO) (T := F_MO) (N := 23) hx hb hts j_MO hown hK hS hM.ob rfl 18 (by decide) (hk k_522 rfl) (fun _ h9 => h9) rfl d_MO_check_115 ?_
        refine lv_iload_n hx hb d_MO_check_118 rfl (lv_at hl 3 rfl) ?_
        refine mo_ld (v := (F j 7) &&& (((1 : Int32) <<< (p0 &&& 31)) ^^^ (-1))) hx hb hK hS hM 18 hj (by decide) (by rw [zfr_at]; rfl) d_MO_check_119 ?_
        refine lv_iload hx hb d_MO_check_120 (lv_at hl 0 rfl) ?_
        refine lv_ishr hx hb d_MO_check_122 ?_
        refine lv_iconst (v := 1) hx hb d_MO_check_123 (by decide) ?_
        refine lv_iand hx hb d_MO_check_124 ?_
        refine lv_iadd hx hb d_MO_check_125 ?_
        refine lv_istore (lv' := [(4, .int (((((0 + ((((F j 7) &&& (((1 : Int32) <<< (p0 &&& 31)) ^^^ (-1))) >>> ((0 : Int32) &&& 31)) &&& 1)) + ((((F j 7) &&& (((1 : Int32) <<< (p0 &&& 31)) ^^^ (-1))) >>> ((1 : Int32) &&& 31)) &&& 1)) + ((((F j 7) &&& (((1 : Int32) <<< (p0 &&& 31)) ^^^ (-1))) >>> ((2 : Int32) &&& 31)) &&& 1)) + ((((F j 7) &&& (((1 : Int32) <<< (p0 &&& 31)) ^^^ (-1))) >>> ((3 : Int32) &&& 31)) &&& 1)) + ((((F j 7) &&& (((1 : Int32) <<< (p0 &&& 31)) ^^^ (-1))) >>> ((4 : Int32) &&& 31)) &&& 1))), (5, .int 4), (0, .ref mo), (1, .int (nI (j + 1))), (2, .int p0), (3, .int p1)]) hx hb d_MO_check_126 hl (by decide) rfl (fun ls hl => ?_)
        refine lv_iinc (v := 5) (lv' := [(5, .int 5), (4, .int (((((0 + ((((F j 7) &&& (((1 : Int32) <<< (p0 &&& 31)) ^^^ (-1))) >>> ((0 : Int32) &&& 31)) &&& 1)) + ((((F j 7) &&& (((1 : Int32) <<< (p0 &&& 31)) ^^^ (-1))) >>> ((1 : Int32) &&& 31)) &&& 1)) + ((((F j 7) &&& (((1 : Int32) <<< (p0 &&& 31)) ^^^ (-1))) >>> ((2 : Int32) &&& 31)) &&& 1)) + ((((F j 7) &&& (((1 : Int32) <<< (p0 &&& 31)) ^^^ (-1))) >>> ((3 : Int32) &&& 31)) &&& 1)) + ((((F j 7) &&& (((1 : Int32) <<< (p0 &&& 31)) ^^^ (-1))) >>> ((4 : Int32) &&& 31)) &&& 1))), (0, .ref mo), (1, .int (nI (j + 1))), (2, .int p0), (3, .int p1)]) hx hb d_MO_check_128 hl (k := 1) rfl rfl (by decide) rfl (fun ls hl => ?_)
        refine lv_goto (tgt := 106) hx hb d_MO_check_131 (by decide) ?_
        refine lv_iload hx hb d_MO_check_106 (lv_at hl 0 rfl) ?_
        refine lv_iconst (v := 5) hx hb d_MO_check_108 (by decide) ?_
        refine lv_icmp_ge (tgt := 134) hx hb d_MO_check_109 (by decide) (fun c_27 => ?_) (fun c_27 => absurd (by decide) c_27)
        refine lv_iload hx hb d_MO_check_134 (lv_at hl 1 rfl) ?_
        exact z_Ciret hx hb hr rfl hlk hS (by simp only [an_check, if_neg c_11]; exact zV0 (by unfold cd_check; rw [if_pos w_2]; simp [c_7, c_11]) hF hM) (by decide) (by decide) d_MO_check_136
    · refine lv_iconst (v := 3) hx hb d_MO_check_48 (by decide) ?_
      refine lv_goto (tgt := 53) hx hb d_MO_check_49 (by decide) ?_
      refine mo_code hx hb hG hown hK hS hM (v := 3) d_MO_check_53 (fun H locs X_28 hS hM hF_29 => ?_)
      have hF := hF.tr hF_29
      refine lv_aload_n hx hb d_MO_check_56 rfl (lv_at hl 0 rfl) ?_
      refine z_get (ci := 3) (C := R_MO) (T := F_MO) (N := 23) hx hb hts j_MO hown hK hS hM.ob rfl 0 (by decide) (hk k_504 rfl) (fun _ h9 => h9) rfl d_MO_check_57 ?_
      refine lv_if_le (tgt := 65) hx hb d_MO_check_60 (by decide) (fun c_30 => absurd c_30 (by decide)) (fun c_30 => ?_)
      refine lv_iconst (v := 0) hx hb d_MO_check_63 (by decide) ?_
      exact z_Ciret hx hb hr rfl hlk hS (zV1 2 (by unfold cd_check; rw [if_pos w_2]; simp [c_7]) hF hM) (by decide) (by decide) d_MO_check_64
  · refine z_pi (v := 0) (n_MO_MO_in hx hown hG (by rw [hb]; exact d_MO_check_16)) hb (hl.1.trans hml.symm) (c_MO_in l hl9 p0 0 4) (by rw [if_neg w_2]) (z_Gkeeps lo tP) hG hK hS (cw_MO_in hG (by decide) (by decide)) d_MO_check_16 (Nat.le_of_ble_eq_true rfl) (by decide) (by decide) (fun H hq hS => ?_)
    refine lv_if_ne (tgt := 26) hx hb d_MO_check_19 (by decide) (fun c_31 => absurd (by decide) c_31) (fun c_31 => ?_)
    refine lv_iconst (v := 2) hx hb d_MO_check_22 (by decide) ?_
    refine lv_goto (tgt := 27) hx hb d_MO_check_23 (by decide) ?_
    refine mo_code hx hb hG hown hK hS hM (v := 2) d_MO_check_27 (fun H locs X_32 hS hM hF_33 => ?_)
    have hF := hF.tr hF_33
    refine lv_aload_n hx hb d_MO_check_30 rfl (lv_at hl 0 rfl) ?_
    refine z_get (ci := 3) (C := R_MO) (T := F_MO) (N := 23) hx hb hts j_MO hown hK hS hM.ob rfl 0 (by decide) (hk k_504 rfl) (fun _ h9 => h9) rfl d_MO_check_31 ?_
    refine lv_if_ne (tgt := 56) hx hb d_MO_check_34 (by decide) (fun c_34 => ?_) (fun c_34 => absurd c_34 (by decide))
    refine lv_aload_n hx hb d_MO_check_56 rfl (lv_at hl 0 rfl) ?_
    refine z_get (ci := 3) (C := R_MO) (T := F_MO) (N := 23) hx hb hts j_MO hown hK hS hM.ob rfl 0 (by decide) (hk k_504 rfl) (fun _ h9 => h9) rfl d_MO_check_57 ?_
    refine lv_if_le (tgt := 65) hx hb d_MO_check_60 (by decide) (fun c_35 => absurd c_35 (by decide)) (fun c_35 => ?_)
    refine lv_iconst (v := 0) hx hb d_MO_check_63 (by decide) ?_
    exact z_Ciret hx hb hr rfl hlk hS (zV1 1 (by unfold cd_check; rw [if_neg w_2]) hF hM) (by decide) (by decide) d_MO_check_64
set_option maxHeartbeats 4000000 in
set_option maxRecDepth 100000 in
theorem c_MO_grade_no (l : Launch) (hl9 : l.stackTraces = false) {D : va_G} {cS cR cJ cI cZ : ClassId} {lo tP : Nat} (v : Int32) (p0 : Int32) (a9 : Option Value) (A9 : zA) {mo : Nat} {ad : Nat → Nat} {n k : Nat} {td code0 : Int32} {S : Nat → Nat → Int32} {I : Nat → Nat} {F : Nat → Nat → Int32} {X : zM} (hM : MI mo ad cI cZ n k td code0 S I F X) (hv : ¬ z_rg v 1 (nI k)) : z_C (z_G lo tP) D cls4 (zty cS cR cJ cI cZ) lo l y_MO_grade w_MO_grade zrC [.ref mo, .int v, .int p0] X (zV mo ad cI cZ 1 a9 (some (.int 0)) X A9 ⟨n, k, td, S, I, F⟩) := by
  refine z_ofW (by decide) ?_
  intro p e s m args below meth c s₁ B hml hout hv
  obtain ⟨rfl, hG, hK, hW0, hXl, hlo⟩ := hv
  have hx := B.exec
  have hb := B.bytes
  have hr := B.returns
  have hlk := B.notSynchronized
  have hown : s.vm.findClass R_MO = some m.cls := findClass_of_methodNamed B.named
  have hts : ∀ w9 ∈ z_tb, w9.before ([.ref mo, .int v, .int p0] : List Value).toArray s = true := hG.ts _
  have hk : ∀ {w9 : Cond}, w9 ∈ lw_tbl → z_ok w9 = true → w9.before ([.ref mo, .int v, .int p0] : List Value).toArray s = true := fun h1 h2 => hG.w h1 h2 _
  have hg : z_Gr s.heap s.heap := z_Gr.rf
  have hS := z_S.start hW0 hXl hlo
  have hl := lv_entry ([.ref mo, .int v, .int p0]) (n := 3) (Nat.le_of_ble_eq_true rfl)
  rw [lg_entry_eq]
  generalize (lg_sl ([.ref mo, .int v, .int p0]) ++ List.replicate (3 - (lg_sl ([.ref mo, .int v, .int p0])).length) Slot.unset).toArray = ls at hl ⊢
  have hl : lv_has ls 3 [(0, .ref mo), (1, .int v), (2, .int p0)] := hl
  have hIn := hM.idx
  have hn20 := hM.n20
  have hk20 := hM.k20
  have hF : zFr 1 X X := zFr.rf
  refine lv_aload_n hx hb d_MO_grade_0 rfl (lv_at hl 0 rfl) ?_
  refine lv_aload_n hx hb d_MO_grade_1 rfl (lv_at hl 0 rfl) ?_
  refine lv_iload_n hx hb d_MO_grade_2 rfl (lv_at hl 1 rfl) ?_
  refine z_pi (v := 0) (n_MO_MO_isReturn hx hown hG (va_recv hK (hS.1.one hM.ob) (ci := 3) (q0 := 0) rfl rfl) (by rw [hb]; exact d_MO_grade_3)) hb (hl.1.trans hml.symm) (c_MO_isReturn l hl9 v hM) (by rw [if_neg hv]) (z_Gkeeps lo tP) hG hK hS (cw_MO_isReturn hG (by decide) (by decide)) d_MO_grade_3 (Nat.le_of_ble_eq_true rfl) (by decide) (by decide) (fun H hq hS => ?_)
  refine lv_if_ne (tgt := 13) hx hb d_MO_grade_6 (by decide) (fun c_1 => absurd (by decide) c_1) (fun c_1 => ?_)
  refine lv_iconst (v := 1) hx hb d_MO_grade_9 (by decide) ?_
  refine lv_goto (tgt := 27) hx hb d_MO_grade_10 (by decide) ?_
  refine mo_code hx hb hG hown hK hS hM (v := 1) d_MO_grade_27 (fun H locs X_2 hS hM hF_3 => ?_)
  have hF := hF.tr hF_3
  refine lv_aload_n hx hb d_MO_grade_30 rfl (lv_at hl 0 rfl) ?_
  refine z_get (ci := 3) (C := R_MO) (T := F_MO) (N := 23) hx hb hts j_MO hown hK hS hM.ob rfl 0 (by decide) (hk k_504 rfl) (fun _ h9 => h9) rfl d_MO_grade_31 ?_
  refine lv_if_ne (tgt := 77) hx hb d_MO_grade_34 (by decide) (fun c_4 => ?_) (fun c_4 => absurd c_4 (by decide))
  refine lv_aload_n hx hb d_MO_grade_77 rfl (lv_at hl 0 rfl) ?_
  refine z_get (ci := 3) (C := R_MO) (T := F_MO) (N := 23) hx hb hts j_MO hown hK hS hM.ob rfl 0 (by decide) (hk k_504 rfl) (fun _ h9 => h9) rfl d_MO_grade_78 ?_
  refine lv_if_le (tgt := 86) hx hb d_MO_grade_81 (by decide) (fun c_5 => absurd c_5 (by decide)) (fun c_5 => ?_)
  refine lv_iconst (v := 0) hx hb d_MO_grade_84 (by decide) ?_
  exact z_Ciret hx hb hr rfl hlk hS (zV1 0 rfl hF hM) (by decide) (by decide) d_MO_grade_85
set_option maxHeartbeats 4000000 in
set_option maxRecDepth 100000 in
theorem c_MO_grade (l : Launch) (hl9 : l.stackTraces = false) {D : va_G} {cS cR cJ cI cZ : ClassId} {lo tP : Nat} {j : Nat} (p0 : Int32) {mo : Nat} {ad : Nat → Nat} {n k : Nat} {td code0 : Int32} {S : Nat → Nat → Int32} {I : Nat → Nat} {F : Nat → Nat → Int32} {X : zM} (hM : MI mo ad cI cZ n k td code0 S I F X) (hj : j < k) : z_C (z_G lo tP) D cls4 (zty cS cR cJ cI cZ) lo l y_MO_grade w_MO_grade zrC [.ref mo, .int (nI (j + 1)), .int p0] X (zV mo ad cI cZ (cd_grade (F j) p0) (some (.int (F j 8))) (some (.int 0)) X ⟨n, k, td, S, I, zfr F j (zfs (z_tg (F j) p0) 3 3)⟩ ⟨n, k, td, S, I, F⟩) := by
  refine z_ofW (by decide) ?_
  intro p e s m args below meth c s₁ B hml hout hv
  obtain ⟨rfl, hG, hK, hW0, hXl, hlo⟩ := hv
  have hx := B.exec
  have hb := B.bytes
  have hr := B.returns
  have hlk := B.notSynchronized
  have hown : s.vm.findClass R_MO = some m.cls := findClass_of_methodNamed B.named
  have hts : ∀ w9 ∈ z_tb, w9.before ([.ref mo, .int (nI (j + 1)), .int p0] : List Value).toArray s = true := hG.ts _
  have hk : ∀ {w9 : Cond}, w9 ∈ lw_tbl → z_ok w9 = true → w9.before ([.ref mo, .int (nI (j + 1)), .int p0] : List Value).toArray s = true := fun h1 h2 => hG.w h1 h2 _
  have hg : z_Gr s.heap s.heap := z_Gr.rf
  have hS := z_S.start hW0 hXl hlo
  have hl := lv_entry ([.ref mo, .int (nI (j + 1)), .int p0]) (n := 3) (Nat.le_of_ble_eq_true rfl)
  rw [lg_entry_eq]
  generalize (lg_sl ([.ref mo, .int (nI (j + 1)), .int p0]) ++ List.replicate (3 - (lg_sl ([.ref mo, .int (nI (j + 1)), .int p0])).length) Slot.unset).toArray = ls at hl ⊢
  have hl : lv_has ls 3 [(0, .ref mo), (1, .int (nI (j + 1))), (2, .int p0)] := hl
  have hIn := hM.idx
  have hn20 := hM.n20
  have hk20 := hM.k20
  have hF : zFr 1 X X := zFr.rf
  refine lv_aload_n hx hb d_MO_grade_0 rfl (lv_at hl 0 rfl) ?_
  refine lv_aload_n hx hb d_MO_grade_1 rfl (lv_at hl 0 rfl) ?_
  refine lv_iload_n hx hb d_MO_grade_2 rfl (lv_at hl 1 rfl) ?_
  refine z_pi (v := 1) (n_MO_MO_isReturn hx hown hG (va_recv hK (hS.1.one hM.ob) (ci := 3) (q0 := 0) rfl rfl) (by rw [hb]; exact d_MO_grade_3)) hb (hl.1.trans hml.symm) (c_MO_isReturn l hl9 (nI (j + 1)) hM) (by rw [if_pos ((z_rg1 (by omega) hk20).mpr hj)]) (z_Gkeeps lo tP) hG hK hS (cw_MO_isReturn hG (by decide) (by decide)) d_MO_grade_3 (Nat.le_of_ble_eq_true rfl) (by decide) (by decide) (fun H hq hS => ?_)
  refine lv_if_ne (tgt := 13) hx hb d_MO_grade_6 (by decide) (fun c_1 => ?_) (fun c_1 => absurd c_1 (by decide))
  refine lv_iload_n hx hb d_MO_grade_13 rfl (lv_at hl 2 rfl) ?_
  refine lv_iconst (v := 0) hx hb d_MO_grade_14 (by decide) ?_
  refine lv_iconst (v := 4) hx hb d_MO_grade_15 (by decide) ?_
  by_cases w_2 : z_rg p0 0 4
  · refine z_pi (v := 1) (n_MO_MO_in hx hown hG (by rw [hb]; exact d_MO_grade_16)) hb (hl.1.trans hml.symm) (c_MO_in l hl9 p0 0 4) (by rw [if_pos w_2]) (z_Gkeeps lo tP) hG hK hS (cw_MO_in hG (by decide) (by decide)) d_MO_grade_16 (Nat.le_of_ble_eq_true rfl) (by decide) (by decide) (fun H hq hS => ?_)
    refine lv_if_ne (tgt := 26) hx hb d_MO_grade_19 (by decide) (fun c_3 => ?_) (fun c_3 => absurd c_3 (by decide))
    refine lv_iconst (v := 0) hx hb d_MO_grade_26 (by decide) ?_
    refine mo_code hx hb hG hown hK hS hM (v := 0) d_MO_grade_27 (fun H locs X_4 hS hM hF_5 => ?_)
    have hF := hF.tr hF_5
    refine lv_aload_n hx hb d_MO_grade_30 rfl (lv_at hl 0 rfl) ?_
    refine z_get (ci := 3) (C := R_MO) (T := F_MO) (N := 23) hx hb hts j_MO hown hK hS hM.ob rfl 0 (by decide) (hk k_504 rfl) (fun _ h9 => h9) rfl d_MO_grade_31 ?_
    refine lv_if_ne (tgt := 77) hx hb d_MO_grade_34 (by decide) (fun c_6 => absurd (by decide) c_6) (fun c_6 => ?_)
    refine lv_aload_n hx hb d_MO_grade_37 rfl (lv_at hl 0 rfl) ?_
    refine lv_aload_n hx hb d_MO_grade_38 rfl (lv_at hl 0 rfl) ?_
    refine lv_iload_n hx hb d_MO_grade_39 rfl (lv_at hl 1 rfl) ?_
    by_cases w_7 : F j 3 = 2 ∨ F j 3 = 3
    · refine z_pi (v := 1) (n_MO_MO_isSeen hx hown hG (va_recv hK (hS.1.one hM.ob) (ci := 3) (q0 := 0) rfl rfl) (by rw [hb]; exact d_MO_grade_40)) hb (hl.1.trans hml.symm) (c_MO_isSeen l hl9 hM hj) (by rw [if_pos w_7]) (z_Gkeeps lo tP) hG hK hS (cw_MO_isSeen hG (by decide) (by decide)) d_MO_grade_40 (Nat.le_of_ble_eq_true rfl) (by decide) (by decide) (fun H hq hS => ?_)
      refine lv_if_eq (tgt := 69) hx hb d_MO_grade_43 (by decide) (fun c_8 => absurd c_8 (by decide)) (fun c_8 => ?_)
      refine lv_aload_n hx hb d_MO_grade_46 rfl (lv_at hl 0 rfl) ?_
      refine z_get (ci := 3) (C := R_MO) (T := F_MO) (N := 23) hx hb hts j_MO hown hK hS hM.ob rfl 13 (by decide) (hk k_517 rfl) (fun _ h9 => h9) rfl d_MO_grade_47 ?_
      refine lv_iload_n hx hb d_MO_grade_50 rfl (lv_at hl 1 rfl) ?_
      refine mo_ldb (v := F j 5) hx hb hK hS hM 13 hj (by decide) rfl d_MO_grade_51 ?_
      refine lv_if_ne (tgt := 69) hx hb d_MO_grade_52 (by decide) (fun c_9 => ?_) (fun c_9 => ?_)
      · refine lv_iconst (v := 3) hx hb d_MO_grade_69 (by decide) ?_
        refine lv_goto (tgt := 74) hx hb d_MO_grade_70 (by decide) ?_
        refine mo_code hx hb hG hown hK hS hM (v := 3) d_MO_grade_74 (fun H locs X_10 hS hM hF_11 => ?_)
        have hF := hF.tr hF_11
        refine lv_aload_n hx hb d_MO_grade_77 rfl (lv_at hl 0 rfl) ?_
        refine z_get (ci := 3) (C := R_MO) (T := F_MO) (N := 23) hx hb hts j_MO hown hK hS hM.ob rfl 0 (by decide) (hk k_504 rfl) (fun _ h9 => h9) rfl d_MO_grade_78 ?_
        refine lv_if_le (tgt := 86) hx hb d_MO_grade_81 (by decide) (fun c_12 => absurd c_12 (by decide)) (fun c_12 => ?_)
        refine lv_iconst (v := 0) hx hb d_MO_grade_84 (by decide) ?_
        exact z_Ciret hx hb hr rfl hlk hS (zV1 2 (by unfold cd_grade; rw [if_pos w_2]; simp [w_7, c_9]) hF hM) (by decide) (by decide) d_MO_grade_85
      · refine lv_aload_n hx hb d_MO_grade_55 rfl (lv_at hl 0 rfl) ?_
        refine z_get (ci := 3) (C := R_MO) (T := F_MO) (N := 23) hx hb hts j_MO hown hK hS hM.ob rfl 18 (by decide) (hk k_522 rfl) (fun _ h9 => h9) rfl d_MO_grade_56 ?_
        refine lv_iload_n hx hb d_MO_grade_59 rfl (lv_at hl 1 rfl) ?_
        refine mo_ld (v := F j 7) hx hb hK hS hM 18 hj (by decide) rfl d_MO_grade_60 ?_
        refine lv_if_eq (tgt := 73) hx hb d_MO_grade_61 (by decide) (fun c_13 => ?_) (fun c_13 => ?_)
        · refine lv_iconst (v := 0) hx hb d_MO_grade_73 (by decide) ?_
          refine mo_code hx hb hG hown hK hS hM (v := 0) d_MO_grade_74 (fun H locs X_14 hS hM hF_15 => ?_)
          have hF := hF.tr hF_15
          refine lv_aload_n hx hb d_MO_grade_77 rfl (lv_at hl 0 rfl) ?_
          refine z_get (ci := 3) (C := R_MO) (T := F_MO) (N := 23) hx hb hts j_MO hown hK hS hM.ob rfl 0 (by decide) (hk k_504 rfl) (fun _ h9 => h9) rfl d_MO_grade_78 ?_
          refine lv_if_le (tgt := 86) hx hb d_MO_grade_81 (by decide) (fun c_16 => ?_) (fun c_16 => absurd (by decide) c_16)
          refine lv_aload_n hx hb d_MO_grade_86 rfl (lv_at hl 0 rfl) ?_
          refine lv_iload_n hx hb d_MO_grade_87 rfl (lv_at hl 1 rfl) ?_
          refine lv_iload_n hx hb d_MO_grade_88 rfl (lv_at hl 2 rfl) ?_
          rw [← zfr_id F j] at hM
          refine z_wm (n_MO_MO_regrade hx hown hG (va_recv hK (hS.1.one hM.ob) (ci := 3) (q0 := 0) rfl rfl) (by rw [hb]; exact d_MO_grade_89)) hb (hl.1.trans hml.symm) (c_MO_regrade l hl9 p0 hM hj) (z_Gkeeps lo tP) hG hK hS (cw_MO_regrade hG (by decide) (by decide)) d_MO_grade_89 (Nat.le_of_ble_eq_true rfl) (by decide) (by decide) (fun H locs X_17 hS hM hF_18 => ?_)
          have hF := hF.tr hF_18
          refine lv_aload_n hx hb d_MO_grade_92 rfl (lv_at hl 0 rfl) ?_
          refine z_get (ci := 3) (C := R_MO) (T := F_MO) (N := 23) hx hb hts j_MO hown hK hS hM.ob rfl 10 (by decide) (hk k_514 rfl) (fun _ h9 => h9) rfl d_MO_grade_93 ?_
          refine lv_iload_n hx hb d_MO_grade_96 rfl (lv_at hl 1 rfl) ?_
          refine lv_iconst (v := 3) hx hb d_MO_grade_97 (by decide) ?_
          refine mo_st hx hb hK hS hM 10 hj (by decide) (t := 3) rfl d_MO_grade_98 (fun H locs X_19 hS hM hF_20 => ?_)
          have hF := hF.tr hF_20
          refine lv_aload_n hx hb d_MO_grade_99 rfl (lv_at hl 0 rfl) ?_
          refine z_get (ci := 3) (C := R_MO) (T := F_MO) (N := 23) hx hb hts j_MO hown hK hS hM.ob rfl 16 (by decide) (hk k_520 rfl) (fun _ h9 => h9) rfl d_MO_grade_100 ?_
          refine lv_iload_n hx hb d_MO_grade_103 rfl (lv_at hl 1 rfl) ?_
          refine mo_ld (v := (z_tg (F j) p0) 9) hx hb hK hS hM 16 hj (by decide) (by rw [zfr_at]; rfl) d_MO_grade_104 ?_
          exact z_Ciret hx hb hr rfl hlk hS (zV0 (by unfold cd_grade; rw [if_pos w_2]; simp [w_7, c_9, c_13]) hF hM) (by decide) (by decide) d_MO_grade_105
        · refine lv_iload_n hx hb d_MO_grade_64 rfl (lv_at hl 2 rfl) ?_
          refine lv_iconst (v := 3) hx hb d_MO_grade_65 (by decide) ?_
          refine lv_icmp_ge (tgt := 73) hx hb d_MO_grade_66 (by decide) (fun c_21 => ?_) (fun c_21 => ?_)
          · refine lv_iconst (v := 0) hx hb d_MO_grade_73 (by decide) ?_
            refine mo_code hx hb hG hown hK hS hM (v := 0) d_MO_grade_74 (fun H locs X_22 hS hM hF_23 => ?_)
            have hF := hF.tr hF_23
            refine lv_aload_n hx hb d_MO_grade_77 rfl (lv_at hl 0 rfl) ?_
            refine z_get (ci := 3) (C := R_MO) (T := F_MO) (N := 23) hx hb hts j_MO hown hK hS hM.ob rfl 0 (by decide) (hk k_504 rfl) (fun _ h9 => h9) rfl d_MO_grade_78 ?_
            refine lv_if_le (tgt := 86) hx hb d_MO_grade_81 (by decide) (fun c_24 => ?_) (fun c_24 => absurd (by decide) c_24)
            refine lv_aload_n hx hb d_MO_grade_86 rfl (lv_at hl 0 rfl) ?_
            refine lv_iload_n hx hb d_MO_grade_87 rfl (lv_at hl 1 rfl) ?_
            refine lv_iload_n hx hb d_MO_grade_88 rfl (lv_at hl 2 rfl) ?_
            rw [← zfr_id F j] at hM
            refine z_wm (n_MO_MO_regrade hx hown hG (va_recv hK (hS.1.one hM.ob) (ci := 3) (q0 := 0) rfl rfl) (by rw [hb]; exact d_MO_grade_89)) hb (hl.1.trans hml.symm) (c_MO_regrade l hl9 p0 hM hj) (z_Gkeeps lo tP) hG hK hS (cw_MO_regrade hG (by decide) (by decide)) d_MO_grade_89 (Nat.le_of_ble_eq_true rfl) (by decide) (by decide) (fun H locs X_25 hS hM hF_26 => ?_)
            have hF := hF.tr hF_26
            refine lv_aload_n hx hb d_MO_grade_92 rfl (lv_at hl 0 rfl) ?_
            refine z_get (ci := 3) (C := R_MO) (T := F_MO) (N := 23) hx hb hts j_MO hown hK hS hM.ob rfl 10 (by decide) (hk k_514 rfl) (fun _ h9 => h9) rfl d_MO_grade_93 ?_
            refine lv_iload_n hx hb d_MO_grade_96 rfl (lv_at hl 1 rfl) ?_
            refine lv_iconst (v := 3) hx hb d_MO_grade_97 (by decide) ?_
            refine mo_st hx hb hK hS hM 10 hj (by decide) (t := 3) rfl d_MO_grade_98 (fun H locs X_27 hS hM hF_28 => ?_)
            have hF := hF.tr hF_28
            refine lv_aload_n hx hb d_MO_grade_99 rfl (lv_at hl 0 rfl) ?_
            refine z_get (ci := 3) (C := R_MO) (T := F_MO) (N := 23) hx hb hts j_MO hown hK hS hM.ob rfl 16 (by decide) (hk k_520 rfl) (fun _ h9 => h9) rfl d_MO_grade_100 ?_
            refine lv_iload_n hx hb d_MO_grade_103 rfl (lv_at hl 1 rfl) ?_
            refine mo_ld (v := (z_tg (F j) p0) 9) hx hb hK hS hM 16 hj (by decide) (by rw [zfr_at]; rfl) d_MO_grade_104 ?_
            exact z_Ciret hx hb hr rfl hlk hS (zV0 (by unfold cd_grade; rw [if_pos w_2]; simp [w_7, c_9, c_13, c_21]) hF hM) (by decide) (by decide) d_MO_grade_105
          · refine lv_iconst (v := 3) hx hb d_MO_grade_69 (by decide) ?_
            refine lv_goto (tgt := 74) hx hb d_MO_grade_70 (by decide) ?_
            refine mo_code hx hb hG hown hK hS hM (v := 3) d_MO_grade_74 (fun H locs X_29 hS hM hF_30 => ?_)
            have hF := hF.tr hF_30
            refine lv_aload_n hx hb d_MO_grade_77 rfl (lv_at hl 0 rfl) ?_
            refine z_get (ci := 3) (C := R_MO) (T := F_MO) (N := 23) hx hb hts j_MO hown hK hS hM.ob rfl 0 (by decide) (hk k_504 rfl) (fun _ h9 => h9) rfl d_MO_grade_78 ?_
            refine lv_if_le (tgt := 86) hx hb d_MO_grade_81 (by decide) (fun c_31 => absurd c_31 (by decide)) (fun c_31 => ?_)
            refine lv_iconst (v := 0) hx hb d_MO_grade_84 (by decide) ?_
            exact z_Ciret hx hb hr rfl hlk hS (zV1 2 (by unfold cd_grade; rw [if_pos w_2]; simp [w_7, c_9, c_13, c_21]) hF hM) (by decide) (by decide) d_MO_grade_85
    · refine z_pi (v := 0) (n_MO_MO_isSeen hx hown hG (va_recv hK (hS.1.one hM.ob) (ci := 3) (q0 := 0) rfl rfl) (by rw [hb]; exact d_MO_grade_40)) hb (hl.1.trans hml.symm) (c_MO_isSeen l hl9 hM hj) (by rw [if_neg w_7]) (z_Gkeeps lo tP) hG hK hS (cw_MO_isSeen hG (by decide) (by decide)) d_MO_grade_40 (Nat.le_of_ble_eq_true rfl) (by decide) (by decide) (fun H hq hS => ?_)
      refine lv_if_eq (tgt := 69) hx hb d_MO_grade_43 (by decide) (fun c_32 => ?_) (fun c_32 => absurd (by decide) c_32)
      refine lv_iconst (v := 3) hx hb d_MO_grade_69 (by decide) ?_
      refine lv_goto (tgt := 74) hx hb d_MO_grade_70 (by decide) ?_
      refine mo_code hx hb hG hown hK hS hM (v := 3) d_MO_grade_74 (fun H locs X_33 hS hM hF_34 => ?_)
      have hF := hF.tr hF_34
      refine lv_aload_n hx hb d_MO_grade_77 rfl (lv_at hl 0 rfl) ?_
      refine z_get (ci := 3) (C := R_MO) (T := F_MO) (N := 23) hx hb hts j_MO hown hK hS hM.ob rfl 0 (by decide) (hk k_504 rfl) (fun _ h9 => h9) rfl d_MO_grade_78 ?_
      refine lv_if_le (tgt := 86) hx hb d_MO_grade_81 (by decide) (fun c_35 => absurd c_35 (by decide)) (fun c_35 => ?_)
      refine lv_iconst (v := 0) hx hb d_MO_grade_84 (by decide) ?_
      exact z_Ciret hx hb hr rfl hlk hS (zV1 2 (by unfold cd_grade; rw [if_pos w_2]; simp [w_7]) hF hM) (by decide) (by decide) d_MO_grade_85
  · refine z_pi (v := 0) (n_MO_MO_in hx hown hG (by rw [hb]; exact d_MO_grade_16)) hb (hl.1.trans hml.symm) (c_MO_in l hl9 p0 0 4) (by rw [if_neg w_2]) (z_Gkeeps lo tP) hG hK hS (cw_MO_in hG (by decide) (by decide)) d_MO_grade_16 (Nat.le_of_ble_eq_true rfl) (by decide) (by decide) (fun H hq hS => ?_)
    refine lv_if_ne (tgt := 26) hx hb d_MO_grade_19 (by decide) (fun c_36 => absurd (by decide) c_36) (fun c_36 => ?_)
    refine lv_iconst (v := 2) hx hb d_MO_grade_22 (by decide) ?_
    refine lv_goto (tgt := 27) hx hb d_MO_grade_23 (by decide) ?_
    refine mo_code hx hb hG hown hK hS hM (v := 2) d_MO_grade_27 (fun H locs X_37 hS hM hF_38 => ?_)
    have hF := hF.tr hF_38
    refine lv_aload_n hx hb d_MO_grade_30 rfl (lv_at hl 0 rfl) ?_
    refine z_get (ci := 3) (C := R_MO) (T := F_MO) (N := 23) hx hb hts j_MO hown hK hS hM.ob rfl 0 (by decide) (hk k_504 rfl) (fun _ h9 => h9) rfl d_MO_grade_31 ?_
    refine lv_if_ne (tgt := 77) hx hb d_MO_grade_34 (by decide) (fun c_39 => ?_) (fun c_39 => absurd c_39 (by decide))
    refine lv_aload_n hx hb d_MO_grade_77 rfl (lv_at hl 0 rfl) ?_
    refine z_get (ci := 3) (C := R_MO) (T := F_MO) (N := 23) hx hb hts j_MO hown hK hS hM.ob rfl 0 (by decide) (hk k_504 rfl) (fun _ h9 => h9) rfl d_MO_grade_78 ?_
    refine lv_if_le (tgt := 86) hx hb d_MO_grade_81 (by decide) (fun c_40 => absurd c_40 (by decide)) (fun c_40 => ?_)
    refine lv_iconst (v := 0) hx hb d_MO_grade_84 (by decide) ?_
    exact z_Ciret hx hb hr rfl hlk hS (zV1 1 (by unfold cd_grade; rw [if_neg w_2]) hF hM) (by decide) (by decide) d_MO_grade_85
set_option maxHeartbeats 4000000 in
set_option maxRecDepth 100000 in
theorem c_MO_repair_no (l : Launch) (hl9 : l.stackTraces = false) {D : va_G} {cS cR cJ cI cZ : ClassId} {lo tP : Nat} (v : Int32) (p0 : Int32) (a9 : Option Value) (A9 : zA) {mo : Nat} {ad : Nat → Nat} {n k : Nat} {td code0 : Int32} {S : Nat → Nat → Int32} {I : Nat → Nat} {F : Nat → Nat → Int32} {X : zM} (hM : MI mo ad cI cZ n k td code0 S I F X) (hv : ¬ z_rg v 1 (nI k)) : z_C (z_G lo tP) D cls4 (zty cS cR cJ cI cZ) lo l y_MO_repair w_MO_repair zrC [.ref mo, .int v, .int p0] X (zV mo ad cI cZ 1 a9 none X A9 ⟨n, k, td, S, I, F⟩) := by
  refine z_ofW (by decide) ?_
  intro p e s m args below meth c s₁ B hml hout hv
  obtain ⟨rfl, hG, hK, hW0, hXl, hlo⟩ := hv
  have hx := B.exec
  have hb := B.bytes
  have hr := B.returns
  have hlk := B.notSynchronized
  have hown : s.vm.findClass R_MO = some m.cls := findClass_of_methodNamed B.named
  have hts : ∀ w9 ∈ z_tb, w9.before ([.ref mo, .int v, .int p0] : List Value).toArray s = true := hG.ts _
  have hk : ∀ {w9 : Cond}, w9 ∈ lw_tbl → z_ok w9 = true → w9.before ([.ref mo, .int v, .int p0] : List Value).toArray s = true := fun h1 h2 => hG.w h1 h2 _
  have hg : z_Gr s.heap s.heap := z_Gr.rf
  have hS := z_S.start hW0 hXl hlo
  have hl := lv_entry ([.ref mo, .int v, .int p0]) (n := 3) (Nat.le_of_ble_eq_true rfl)
  rw [lg_entry_eq]
  generalize (lg_sl ([.ref mo, .int v, .int p0]) ++ List.replicate (3 - (lg_sl ([.ref mo, .int v, .int p0])).length) Slot.unset).toArray = ls at hl ⊢
  have hl : lv_has ls 3 [(0, .ref mo), (1, .int v), (2, .int p0)] := hl
  have hIn := hM.idx
  have hn20 := hM.n20
  have hk20 := hM.k20
  have hF : zFr 1 X X := zFr.rf
  refine lv_aload_n hx hb d_MO_repair_0 rfl (lv_at hl 0 rfl) ?_
  refine lv_aload_n hx hb d_MO_repair_1 rfl (lv_at hl 0 rfl) ?_
  refine lv_iload_n hx hb d_MO_repair_2 rfl (lv_at hl 1 rfl) ?_
  refine z_pi (v := 0) (n_MO_MO_isReturn hx hown hG (va_recv hK (hS.1.one hM.ob) (ci := 3) (q0 := 0) rfl rfl) (by rw [hb]; exact d_MO_repair_3)) hb (hl.1.trans hml.symm) (c_MO_isReturn l hl9 v hM) (by rw [if_neg hv]) (z_Gkeeps lo tP) hG hK hS (cw_MO_isReturn hG (by decide) (by decide)) d_MO_repair_3 (Nat.le_of_ble_eq_true rfl) (by decide) (by decide) (fun H hq hS => ?_)
  refine lv_if_ne (tgt := 13) hx hb d_MO_repair_6 (by decide) (fun c_1 => absurd (by decide) c_1) (fun c_1 => ?_)
  refine lv_iconst (v := 1) hx hb d_MO_repair_9 (by decide) ?_
  refine lv_goto (tgt := 27) hx hb d_MO_repair_10 (by decide) ?_
  refine mo_code hx hb hG hown hK hS hM (v := 1) d_MO_repair_27 (fun H locs X_2 hS hM hF_3 => ?_)
  have hF := hF.tr hF_3
  refine lv_aload_n hx hb d_MO_repair_30 rfl (lv_at hl 0 rfl) ?_
  refine z_get (ci := 3) (C := R_MO) (T := F_MO) (N := 23) hx hb hts j_MO hown hK hS hM.ob rfl 0 (by decide) (hk k_504 rfl) (fun _ h9 => h9) rfl d_MO_repair_31 ?_
  refine lv_if_ne (tgt := 74) hx hb d_MO_repair_34 (by decide) (fun c_4 => ?_) (fun c_4 => absurd c_4 (by decide))
  refine lv_aload_n hx hb d_MO_repair_74 rfl (lv_at hl 0 rfl) ?_
  refine z_get (ci := 3) (C := R_MO) (T := F_MO) (N := 23) hx hb hts j_MO hown hK hS hM.ob rfl 0 (by decide) (hk k_504 rfl) (fun _ h9 => h9) rfl d_MO_repair_75 ?_
  refine lv_if_le (tgt := 82) hx hb d_MO_repair_78 (by decide) (fun c_5 => absurd c_5 (by decide)) (fun c_5 => ?_)
  exact z_Cvret hx hb hr hlk hS (zV1 0 rfl hF hM) (by decide) (by decide) d_MO_repair_81
set_option maxHeartbeats 4000000 in
set_option maxRecDepth 100000 in
theorem c_MO_repair (l : Launch) (hl9 : l.stackTraces = false) {D : va_G} {cS cR cJ cI cZ : ClassId} {lo tP : Nat} {j : Nat} (p0 : Int32) {mo : Nat} {ad : Nat → Nat} {n k : Nat} {td code0 : Int32} {S : Nat → Nat → Int32} {I : Nat → Nat} {F : Nat → Nat → Int32} {X : zM} (hM : MI mo ad cI cZ n k td code0 S I F X) (hj : j < k) : z_C (z_G lo tP) D cls4 (zty cS cR cJ cI cZ) lo l y_MO_repair w_MO_repair zrC [.ref mo, .int (nI (j + 1)), .int p0] X (zV mo ad cI cZ (cd_repair (F j) p0) none none X ⟨n, k, td, S, I, zfr F j (zfs (zfs (F j) 11 p0) 3 4)⟩ ⟨n, k, td, S, I, F⟩) := by
  refine z_ofW (by decide) ?_
  intro p e s m args below meth c s₁ B hml hout hv
  obtain ⟨rfl, hG, hK, hW0, hXl, hlo⟩ := hv
  have hx := B.exec
  have hb := B.bytes
  have hr := B.returns
  have hlk := B.notSynchronized
  have hown : s.vm.findClass R_MO = some m.cls := findClass_of_methodNamed B.named
  have hts : ∀ w9 ∈ z_tb, w9.before ([.ref mo, .int (nI (j + 1)), .int p0] : List Value).toArray s = true := hG.ts _
  have hk : ∀ {w9 : Cond}, w9 ∈ lw_tbl → z_ok w9 = true → w9.before ([.ref mo, .int (nI (j + 1)), .int p0] : List Value).toArray s = true := fun h1 h2 => hG.w h1 h2 _
  have hg : z_Gr s.heap s.heap := z_Gr.rf
  have hS := z_S.start hW0 hXl hlo
  have hl := lv_entry ([.ref mo, .int (nI (j + 1)), .int p0]) (n := 3) (Nat.le_of_ble_eq_true rfl)
  rw [lg_entry_eq]
  generalize (lg_sl ([.ref mo, .int (nI (j + 1)), .int p0]) ++ List.replicate (3 - (lg_sl ([.ref mo, .int (nI (j + 1)), .int p0])).length) Slot.unset).toArray = ls at hl ⊢
  have hl : lv_has ls 3 [(0, .ref mo), (1, .int (nI (j + 1))), (2, .int p0)] := hl
  have hIn := hM.idx
  have hn20 := hM.n20
  have hk20 := hM.k20
  have hF : zFr 1 X X := zFr.rf
  refine lv_aload_n hx hb d_MO_repair_0 rfl (lv_at hl 0 rfl) ?_
  refine lv_aload_n hx hb d_MO_repair_1 rfl (lv_at hl 0 rfl) ?_
  refine lv_iload_n hx hb d_MO_repair_2 rfl (lv_at hl 1 rfl) ?_
  refine z_pi (v := 1) (n_MO_MO_isReturn hx hown hG (va_recv hK (hS.1.one hM.ob) (ci := 3) (q0 := 0) rfl rfl) (by rw [hb]; exact d_MO_repair_3)) hb (hl.1.trans hml.symm) (c_MO_isReturn l hl9 (nI (j + 1)) hM) (by rw [if_pos ((z_rg1 (by omega) hk20).mpr hj)]) (z_Gkeeps lo tP) hG hK hS (cw_MO_isReturn hG (by decide) (by decide)) d_MO_repair_3 (Nat.le_of_ble_eq_true rfl) (by decide) (by decide) (fun H hq hS => ?_)
  refine lv_if_ne (tgt := 13) hx hb d_MO_repair_6 (by decide) (fun c_1 => ?_) (fun c_1 => absurd c_1 (by decide))
  refine lv_iload_n hx hb d_MO_repair_13 rfl (lv_at hl 2 rfl) ?_
  refine lv_iconst (v := 1) hx hb d_MO_repair_14 (by decide) ?_
  refine lv_iconst (v := 5) hx hb d_MO_repair_15 (by decide) ?_
  by_cases w_2 : z_rg p0 1 5
  · refine z_pi (v := 1) (n_MO_MO_in hx hown hG (by rw [hb]; exact d_MO_repair_16)) hb (hl.1.trans hml.symm) (c_MO_in l hl9 p0 1 5) (by rw [if_pos w_2]) (z_Gkeeps lo tP) hG hK hS (cw_MO_in hG (by decide) (by decide)) d_MO_repair_16 (Nat.le_of_ble_eq_true rfl) (by decide) (by decide) (fun H hq hS => ?_)
    refine lv_if_ne (tgt := 26) hx hb d_MO_repair_19 (by decide) (fun c_3 => ?_) (fun c_3 => absurd c_3 (by decide))
    refine lv_iconst (v := 0) hx hb d_MO_repair_26 (by decide) ?_
    refine mo_code hx hb hG hown hK hS hM (v := 0) d_MO_repair_27 (fun H locs X_4 hS hM hF_5 => ?_)
    have hF := hF.tr hF_5
    refine lv_aload_n hx hb d_MO_repair_30 rfl (lv_at hl 0 rfl) ?_
    refine z_get (ci := 3) (C := R_MO) (T := F_MO) (N := 23) hx hb hts j_MO hown hK hS hM.ob rfl 0 (by decide) (hk k_504 rfl) (fun _ h9 => h9) rfl d_MO_repair_31 ?_
    refine lv_if_ne (tgt := 74) hx hb d_MO_repair_34 (by decide) (fun c_6 => absurd (by decide) c_6) (fun c_6 => ?_)
    refine lv_aload_n hx hb d_MO_repair_37 rfl (lv_at hl 0 rfl) ?_
    refine lv_aload_n hx hb d_MO_repair_38 rfl (lv_at hl 0 rfl) ?_
    refine z_get (ci := 3) (C := R_MO) (T := F_MO) (N := 23) hx hb hts j_MO hown hK hS hM.ob rfl 10 (by decide) (hk k_514 rfl) (fun _ h9 => h9) rfl d_MO_repair_39 ?_
    refine lv_iload_n hx hb d_MO_repair_42 rfl (lv_at hl 1 rfl) ?_
    refine mo_ld (v := F j 3) hx hb hK hS hM 10 hj (by decide) rfl d_MO_repair_43 ?_
    refine lv_iconst (v := 3) hx hb d_MO_repair_44 (by decide) ?_
    refine lv_icmp_ne (tgt := 66) hx hb d_MO_repair_45 (by decide) (fun c_7 => ?_) (fun c_7 => ?_)
    · refine lv_iconst (v := 3) hx hb d_MO_repair_66 (by decide) ?_
      refine lv_goto (tgt := 71) hx hb d_MO_repair_67 (by decide) ?_
      refine mo_code hx hb hG hown hK hS hM (v := 3) d_MO_repair_71 (fun H locs X_8 hS hM hF_9 => ?_)
      have hF := hF.tr hF_9
      refine lv_aload_n hx hb d_MO_repair_74 rfl (lv_at hl 0 rfl) ?_
      refine z_get (ci := 3) (C := R_MO) (T := F_MO) (N := 23) hx hb hts j_MO hown hK hS hM.ob rfl 0 (by decide) (hk k_504 rfl) (fun _ h9 => h9) rfl d_MO_repair_75 ?_
      refine lv_if_le (tgt := 82) hx hb d_MO_repair_78 (by decide) (fun c_10 => absurd c_10 (by decide)) (fun c_10 => ?_)
      exact z_Cvret hx hb hr hlk hS (zV1 2 (by unfold cd_repair; rw [if_pos w_2]; simp [c_7]) hF hM) (by decide) (by decide) d_MO_repair_81
    · refine lv_aload_n hx hb d_MO_repair_48 rfl (lv_at hl 0 rfl) ?_
      refine z_get (ci := 3) (C := R_MO) (T := F_MO) (N := 23) hx hb hts j_MO hown hK hS hM.ob rfl 13 (by decide) (hk k_517 rfl) (fun _ h9 => h9) rfl d_MO_repair_49 ?_
      refine lv_iload_n hx hb d_MO_repair_52 rfl (lv_at hl 1 rfl) ?_
      refine mo_ldb (v := F j 5) hx hb hK hS hM 13 hj (by decide) rfl d_MO_repair_53 ?_
      refine lv_if_ne (tgt := 66) hx hb d_MO_repair_54 (by decide) (fun c_11 => ?_) (fun c_11 => ?_)
      · refine lv_iconst (v := 3) hx hb d_MO_repair_66 (by decide) ?_
        refine lv_goto (tgt := 71) hx hb d_MO_repair_67 (by decide) ?_
        refine mo_code hx hb hG hown hK hS hM (v := 3) d_MO_repair_71 (fun H locs X_12 hS hM hF_13 => ?_)
        have hF := hF.tr hF_13
        refine lv_aload_n hx hb d_MO_repair_74 rfl (lv_at hl 0 rfl) ?_
        refine z_get (ci := 3) (C := R_MO) (T := F_MO) (N := 23) hx hb hts j_MO hown hK hS hM.ob rfl 0 (by decide) (hk k_504 rfl) (fun _ h9 => h9) rfl d_MO_repair_75 ?_
        refine lv_if_le (tgt := 82) hx hb d_MO_repair_78 (by decide) (fun c_14 => absurd c_14 (by decide)) (fun c_14 => ?_)
        exact z_Cvret hx hb hr hlk hS (zV1 2 (by unfold cd_repair; rw [if_pos w_2]; simp [c_7, c_11]) hF hM) (by decide) (by decide) d_MO_repair_81
      · refine lv_aload_n hx hb d_MO_repair_57 rfl (lv_at hl 0 rfl) ?_
        refine z_get (ci := 3) (C := R_MO) (T := F_MO) (N := 23) hx hb hts j_MO hown hK hS hM.ob rfl 15 (by decide) (hk k_519 rfl) (fun _ h9 => h9) rfl d_MO_repair_58 ?_
        refine lv_iload_n hx hb d_MO_repair_61 rfl (lv_at hl 1 rfl) ?_
        refine mo_ld (v := F j 8) hx hb hK hS hM 15 hj (by decide) rfl d_MO_repair_62 ?_
        refine lv_if_ne (tgt := 70) hx hb d_MO_repair_63 (by decide) (fun c_15 => ?_) (fun c_15 => ?_)
        · refine lv_iconst (v := 0) hx hb d_MO_repair_70 (by decide) ?_
          refine mo_code hx hb hG hown hK hS hM (v := 0) d_MO_repair_71 (fun H locs X_16 hS hM hF_17 => ?_)
          have hF := hF.tr hF_17
          refine lv_aload_n hx hb d_MO_repair_74 rfl (lv_at hl 0 rfl) ?_
          refine z_get (ci := 3) (C := R_MO) (T := F_MO) (N := 23) hx hb hts j_MO hown hK hS hM.ob rfl 0 (by decide) (hk k_504 rfl) (fun _ h9 => h9) rfl d_MO_repair_75 ?_
          refine lv_if_le (tgt := 82) hx hb d_MO_repair_78 (by decide) (fun c_18 => ?_) (fun c_18 => absurd (by decide) c_18)
          refine lv_aload_n hx hb d_MO_repair_82 rfl (lv_at hl 0 rfl) ?_
          refine z_get (ci := 3) (C := R_MO) (T := F_MO) (N := 23) hx hb hts j_MO hown hK hS hM.ob rfl 10 (by decide) (hk k_514 rfl) (fun _ h9 => h9) rfl d_MO_repair_83 ?_
          refine lv_iload_n hx hb d_MO_repair_86 rfl (lv_at hl 1 rfl) ?_
          refine lv_iconst (v := 4) hx hb d_MO_repair_87 (by decide) ?_
          rw [← zfr_id F j] at hM
          refine mo_st hx hb hK hS hM 10 hj (by decide) (t := 3) rfl d_MO_repair_88 (fun H locs X_19 hS hM hF_20 => ?_)
          have hF := hF.tr hF_20
          refine lv_aload_n hx hb d_MO_repair_89 rfl (lv_at hl 0 rfl) ?_
          refine z_get (ci := 3) (C := R_MO) (T := F_MO) (N := 23) hx hb hts j_MO hown hK hS hM.ob rfl 19 (by decide) (hk k_523 rfl) (fun _ h9 => h9) rfl d_MO_repair_90 ?_
          refine lv_iload_n hx hb d_MO_repair_93 rfl (lv_at hl 1 rfl) ?_
          refine lv_iload_n hx hb d_MO_repair_94 rfl (lv_at hl 2 rfl) ?_
          refine mo_st hx hb hK hS hM 19 hj (by decide) (t := 11) rfl d_MO_repair_95 (fun H locs X_21 hS hM hF_22 => ?_)
          have hF := hF.tr hF_22
          exact z_Cvret hx hb hr hlk hS (zV0 (by unfold cd_repair; rw [if_pos w_2]; simp [c_7, c_11, c_15]) hF (by rw [zfs_sw _ _ _ (by decide)] at hM; exact hM)) (by decide) (by decide) d_MO_repair_96
        · refine lv_iconst (v := 3) hx hb d_MO_repair_66 (by decide) ?_
          refine lv_goto (tgt := 71) hx hb d_MO_repair_67 (by decide) ?_
          refine mo_code hx hb hG hown hK hS hM (v := 3) d_MO_repair_71 (fun H locs X_23 hS hM hF_24 => ?_)
          have hF := hF.tr hF_24
          refine lv_aload_n hx hb d_MO_repair_74 rfl (lv_at hl 0 rfl) ?_
          refine z_get (ci := 3) (C := R_MO) (T := F_MO) (N := 23) hx hb hts j_MO hown hK hS hM.ob rfl 0 (by decide) (hk k_504 rfl) (fun _ h9 => h9) rfl d_MO_repair_75 ?_
          refine lv_if_le (tgt := 82) hx hb d_MO_repair_78 (by decide) (fun c_25 => absurd c_25 (by decide)) (fun c_25 => ?_)
          exact z_Cvret hx hb hr hlk hS (zV1 2 (by unfold cd_repair; rw [if_pos w_2]; simp [c_7, c_11, c_15]) hF hM) (by decide) (by decide) d_MO_repair_81
  · refine z_pi (v := 0) (n_MO_MO_in hx hown hG (by rw [hb]; exact d_MO_repair_16)) hb (hl.1.trans hml.symm) (c_MO_in l hl9 p0 1 5) (by rw [if_neg w_2]) (z_Gkeeps lo tP) hG hK hS (cw_MO_in hG (by decide) (by decide)) d_MO_repair_16 (Nat.le_of_ble_eq_true rfl) (by decide) (by decide) (fun H hq hS => ?_)
    refine lv_if_ne (tgt := 26) hx hb d_MO_repair_19 (by decide) (fun c_26 => absurd (by decide) c_26) (fun c_26 => ?_)
    refine lv_iconst (v := 2) hx hb d_MO_repair_22 (by decide) ?_
    refine lv_goto (tgt := 27) hx hb d_MO_repair_23 (by decide) ?_
    refine mo_code hx hb hG hown hK hS hM (v := 2) d_MO_repair_27 (fun H locs X_27 hS hM hF_28 => ?_)
    have hF := hF.tr hF_28
    refine lv_aload_n hx hb d_MO_repair_30 rfl (lv_at hl 0 rfl) ?_
    refine z_get (ci := 3) (C := R_MO) (T := F_MO) (N := 23) hx hb hts j_MO hown hK hS hM.ob rfl 0 (by decide) (hk k_504 rfl) (fun _ h9 => h9) rfl d_MO_repair_31 ?_
    refine lv_if_ne (tgt := 74) hx hb d_MO_repair_34 (by decide) (fun c_29 => ?_) (fun c_29 => absurd c_29 (by decide))
    refine lv_aload_n hx hb d_MO_repair_74 rfl (lv_at hl 0 rfl) ?_
    refine z_get (ci := 3) (C := R_MO) (T := F_MO) (N := 23) hx hb hts j_MO hown hK hS hM.ob rfl 0 (by decide) (hk k_504 rfl) (fun _ h9 => h9) rfl d_MO_repair_75 ?_
    refine lv_if_le (tgt := 82) hx hb d_MO_repair_78 (by decide) (fun c_30 => absurd c_30 (by decide)) (fun c_30 => ?_)
    exact z_Cvret hx hb hr hlk hS (zV1 1 (by unfold cd_repair; rw [if_neg w_2]) hF hM) (by decide) (by decide) d_MO_repair_81
set_option maxHeartbeats 4000000 in
set_option maxRecDepth 100000 in
theorem c_MO_step_no (l : Launch) (hl9 : l.stackTraces = false) {D : va_G} {cS cR cJ cI cZ : ClassId} {lo tP : Nat} (v : Int32) (p0 : Int32) (a9 : Option Value) (A9 : zA) {mo : Nat} {ad : Nat → Nat} {n k : Nat} {td code0 : Int32} {S : Nat → Nat → Int32} {I : Nat → Nat} {F : Nat → Nat → Int32} {X : zM} (hM : MI mo ad cI cZ n k td code0 S I F X) (hv : ¬ z_rg v 1 (nI k)) : z_C (z_G lo tP) D cls4 (zty cS cR cJ cI cZ) lo l y_MO_step w_MO_step zrC [.ref mo, .int v, .int p0] X (zV mo ad cI cZ 1 a9 (some (.int 0)) X A9 ⟨n, k, td, S, I, F⟩) := by
  refine z_ofW (by decide) ?_
  intro p e s m args below meth c s₁ B hml hout hv
  obtain ⟨rfl, hG, hK, hW0, hXl, hlo⟩ := hv
  have hx := B.exec
  have hb := B.bytes
  have hr := B.returns
  have hlk := B.notSynchronized
  have hown : s.vm.findClass R_MO = some m.cls := findClass_of_methodNamed B.named
  have hts : ∀ w9 ∈ z_tb, w9.before ([.ref mo, .int v, .int p0] : List Value).toArray s = true := hG.ts _
  have hk : ∀ {w9 : Cond}, w9 ∈ lw_tbl → z_ok w9 = true → w9.before ([.ref mo, .int v, .int p0] : List Value).toArray s = true := fun h1 h2 => hG.w h1 h2 _
  have hg : z_Gr s.heap s.heap := z_Gr.rf
  have hS := z_S.start hW0 hXl hlo
  have hl := lv_entry ([.ref mo, .int v, .int p0]) (n := 3) (Nat.le_of_ble_eq_true rfl)
  rw [lg_entry_eq]
  generalize (lg_sl ([.ref mo, .int v, .int p0]) ++ List.replicate (3 - (lg_sl ([.ref mo, .int v, .int p0])).length) Slot.unset).toArray = ls at hl ⊢
  have hl : lv_has ls 3 [(0, .ref mo), (1, .int v), (2, .int p0)] := hl
  have hIn := hM.idx
  have hn20 := hM.n20
  have hk20 := hM.k20
  have hF : zFr 1 X X := zFr.rf
  refine lv_aload_n hx hb d_MO_step_0 rfl (lv_at hl 0 rfl) ?_
  refine lv_aload_n hx hb d_MO_step_1 rfl (lv_at hl 0 rfl) ?_
  refine lv_iload_n hx hb d_MO_step_2 rfl (lv_at hl 1 rfl) ?_
  refine z_pi (v := 0) (n_MO_MO_isReturn hx hown hG (va_recv hK (hS.1.one hM.ob) (ci := 3) (q0 := 0) rfl rfl) (by rw [hb]; exact d_MO_step_3)) hb (hl.1.trans hml.symm) (c_MO_isReturn l hl9 v hM) (by rw [if_neg hv]) (z_Gkeeps lo tP) hG hK hS (cw_MO_isReturn hG (by decide) (by decide)) d_MO_step_3 (Nat.le_of_ble_eq_true rfl) (by decide) (by decide) (fun H hq hS => ?_)
  refine lv_if_ne (tgt := 13) hx hb d_MO_step_6 (by decide) (fun c_1 => absurd (by decide) c_1) (fun c_1 => ?_)
  refine lv_iconst (v := 1) hx hb d_MO_step_9 (by decide) ?_
  refine lv_goto (tgt := 14) hx hb d_MO_step_10 (by decide) ?_
  refine mo_code hx hb hG hown hK hS hM (v := 1) d_MO_step_14 (fun H locs X_2 hS hM hF_3 => ?_)
  have hF := hF.tr hF_3
  refine lv_aload_n hx hb d_MO_step_17 rfl (lv_at hl 0 rfl) ?_
  refine z_get (ci := 3) (C := R_MO) (T := F_MO) (N := 23) hx hb hts j_MO hown hK hS hM.ob rfl 0 (by decide) (hk k_504 rfl) (fun _ h9 => h9) rfl d_MO_step_18 ?_
  refine lv_if_ne (tgt := 43) hx hb d_MO_step_21 (by decide) (fun c_4 => ?_) (fun c_4 => absurd c_4 (by decide))
  refine lv_aload_n hx hb d_MO_step_43 rfl (lv_at hl 0 rfl) ?_
  refine z_get (ci := 3) (C := R_MO) (T := F_MO) (N := 23) hx hb hts j_MO hown hK hS hM.ob rfl 0 (by decide) (hk k_504 rfl) (fun _ h9 => h9) rfl d_MO_step_44 ?_
  refine lv_if_le (tgt := 52) hx hb d_MO_step_47 (by decide) (fun c_5 => absurd c_5 (by decide)) (fun c_5 => ?_)
  refine lv_iconst (v := 0) hx hb d_MO_step_50 (by decide) ?_
  exact z_Ciret hx hb hr rfl hlk hS (zV1 0 rfl hF hM) (by decide) (by decide) d_MO_step_51
set_option maxHeartbeats 4000000 in
set_option maxRecDepth 100000 in
theorem c_MO_step (l : Launch) (hl9 : l.stackTraces = false) {D : va_G} {cS cR cJ cI cZ : ClassId} {lo tP : Nat} {j : Nat} (p0 : Int32) {mo : Nat} {ad : Nat → Nat} {n k : Nat} {td code0 : Int32} {S : Nat → Nat → Int32} {I : Nat → Nat} {F : Nat → Nat → Int32} {X : zM} (hM : MI mo ad cI cZ n k td code0 S I F X) (hj : j < k) (hst9 : F j 3 = 4 → z_rg (F j 11) 1 5) : z_C (z_G lo tP) D cls4 (zty cS cR cJ cI cZ) lo l y_MO_step w_MO_step zrC [.ref mo, .int (nI (j + 1)), .int p0] X (zV mo ad cI cZ (cd_step (F j)) (some (.int (an_steps (F j) p0))) (some (.int 0)) X ⟨n, k, td, S, I, zfr F j (up_step (F j) p0)⟩ ⟨n, k, td, S, I, F⟩) := by
  refine z_ofW (by decide) ?_
  intro p e s m args below meth c s₁ B hml hout hv
  obtain ⟨rfl, hG, hK, hW0, hXl, hlo⟩ := hv
  have hx := B.exec
  have hb := B.bytes
  have hr := B.returns
  have hlk := B.notSynchronized
  have hown : s.vm.findClass R_MO = some m.cls := findClass_of_methodNamed B.named
  have hts : ∀ w9 ∈ z_tb, w9.before ([.ref mo, .int (nI (j + 1)), .int p0] : List Value).toArray s = true := hG.ts _
  have hk : ∀ {w9 : Cond}, w9 ∈ lw_tbl → z_ok w9 = true → w9.before ([.ref mo, .int (nI (j + 1)), .int p0] : List Value).toArray s = true := fun h1 h2 => hG.w h1 h2 _
  have hg : z_Gr s.heap s.heap := z_Gr.rf
  have hS := z_S.start hW0 hXl hlo
  have hl := lv_entry ([.ref mo, .int (nI (j + 1)), .int p0]) (n := 3) (Nat.le_of_ble_eq_true rfl)
  rw [lg_entry_eq]
  generalize (lg_sl ([.ref mo, .int (nI (j + 1)), .int p0]) ++ List.replicate (3 - (lg_sl ([.ref mo, .int (nI (j + 1)), .int p0])).length) Slot.unset).toArray = ls at hl ⊢
  have hl : lv_has ls 3 [(0, .ref mo), (1, .int (nI (j + 1))), (2, .int p0)] := hl
  have hIn := hM.idx
  have hn20 := hM.n20
  have hk20 := hM.k20
  have hF : zFr 1 X X := zFr.rf
  refine lv_aload_n hx hb d_MO_step_0 rfl (lv_at hl 0 rfl) ?_
  refine lv_aload_n hx hb d_MO_step_1 rfl (lv_at hl 0 rfl) ?_
  refine lv_iload_n hx hb d_MO_step_2 rfl (lv_at hl 1 rfl) ?_
  refine z_pi (v := 1) (n_MO_MO_isReturn hx hown hG (va_recv hK (hS.1.one hM.ob) (ci := 3) (q0 := 0) rfl rfl) (by rw [hb]; exact d_MO_step_3)) hb (hl.1.trans hml.symm) (c_MO_isReturn l hl9 (nI (j + 1)) hM) (by rw [if_pos ((z_rg1 (by omega) hk20).mpr hj)]) (z_Gkeeps lo tP) hG hK hS (cw_MO_isReturn hG (by decide) (by decide)) d_MO_step_3 (Nat.le_of_ble_eq_true rfl) (by decide) (by decide) (fun H hq hS => ?_)
  refine lv_if_ne (tgt := 13) hx hb d_MO_step_6 (by decide) (fun c_1 => ?_) (fun c_1 => absurd c_1 (by decide))
  refine lv_iconst (v := 0) hx hb d_MO_step_13 (by decide) ?_
  refine mo_code hx hb hG hown hK hS hM (v := 0) d_MO_step_14 (fun H locs X_2 hS hM hF_3 => ?_)
  have hF := hF.tr hF_3
  refine lv_aload_n hx hb d_MO_step_17 rfl (lv_at hl 0 rfl) ?_
  refine z_get (ci := 3) (C := R_MO) (T := F_MO) (N := 23) hx hb hts j_MO hown hK hS hM.ob rfl 0 (by decide) (hk k_504 rfl) (fun _ h9 => h9) rfl d_MO_step_18 ?_
  refine lv_if_ne (tgt := 43) hx hb d_MO_step_21 (by decide) (fun c_4 => absurd (by decide) c_4) (fun c_4 => ?_)
  refine lv_aload_n hx hb d_MO_step_24 rfl (lv_at hl 0 rfl) ?_
  refine lv_aload_n hx hb d_MO_step_25 rfl (lv_at hl 0 rfl) ?_
  refine z_get (ci := 3) (C := R_MO) (T := F_MO) (N := 23) hx hb hts j_MO hown hK hS hM.ob rfl 10 (by decide) (hk k_514 rfl) (fun _ h9 => h9) rfl d_MO_step_26 ?_
  refine lv_iload_n hx hb d_MO_step_29 rfl (lv_at hl 1 rfl) ?_
  refine mo_ld (v := F j 3) hx hb hK hS hM 10 hj (by decide) rfl d_MO_step_30 ?_
  refine lv_iconst (v := 4) hx hb d_MO_step_31 (by decide) ?_
  refine lv_icmp_eq (tgt := 39) hx hb d_MO_step_32 (by decide) (fun c_5 => ?_) (fun c_5 => ?_)
  · refine lv_iconst (v := 0) hx hb d_MO_step_39 (by decide) ?_
    refine mo_code hx hb hG hown hK hS hM (v := 0) d_MO_step_40 (fun H locs X_6 hS hM hF_7 => ?_)
    have hF := hF.tr hF_7
    refine lv_aload_n hx hb d_MO_step_43 rfl (lv_at hl 0 rfl) ?_
    refine z_get (ci := 3) (C := R_MO) (T := F_MO) (N := 23) hx hb hts j_MO hown hK hS hM.ob rfl 0 (by decide) (hk k_504 rfl) (fun _ h9 => h9) rfl d_MO_step_44 ?_
    refine lv_if_le (tgt := 52) hx hb d_MO_step_47 (by decide) (fun c_8 => ?_) (fun c_8 => absurd (by decide) c_8)
    refine lv_aload_n hx hb d_MO_step_52 rfl (lv_at hl 0 rfl) ?_
    refine z_get (ci := 3) (C := R_MO) (T := F_MO) (N := 23) hx hb hts j_MO hown hK hS hM.ob rfl 19 (by decide) (hk k_523 rfl) (fun _ h9 => h9) rfl d_MO_step_53 ?_
    refine lv_iload_n hx hb d_MO_step_56 rfl (lv_at hl 1 rfl) ?_
    refine lv_iload_n hx hb d_MO_step_57 rfl (lv_at hl 2 rfl) ?_
    refine lv_if_eq (tgt := 72) hx hb d_MO_step_58 (by decide) (fun c_9 => ?_) (fun c_9 => ?_)
    · refine lv_iconst (v := 0) hx hb d_MO_step_72 (by decide) ?_
      rw [← zfr_id F j] at hM
      refine mo_st hx hb hK hS hM 19 hj (by decide) (t := 11) rfl d_MO_step_73 (fun H locs X_10 hS hM hF_11 => ?_)
      have hF := hF.tr hF_11
      refine lv_aload_n hx hb d_MO_step_74 rfl (lv_at hl 0 rfl) ?_
      refine z_get (ci := 3) (C := R_MO) (T := F_MO) (N := 23) hx hb hts j_MO hown hK hS hM.ob rfl 19 (by decide) (hk k_523 rfl) (fun _ h9 => h9) rfl d_MO_step_75 ?_
      refine lv_iload_n hx hb d_MO_step_78 rfl (lv_at hl 1 rfl) ?_
      refine mo_ld (v := 0) hx hb hK hS hM 19 hj (by decide) (by rw [zfr_at]; rfl) d_MO_step_79 ?_
      refine lv_if_le (tgt := 90) hx hb d_MO_step_80 (by decide) (fun c_12 => ?_) (fun c_12 => absurd (by decide) c_12)
      refine lv_aload_n hx hb d_MO_step_90 rfl (lv_at hl 0 rfl) ?_
      refine z_get (ci := 3) (C := R_MO) (T := F_MO) (N := 23) hx hb hts j_MO hown hK hS hM.ob rfl 10 (by decide) (hk k_514 rfl) (fun _ h9 => h9) rfl d_MO_step_91 ?_
      refine lv_iload_n hx hb d_MO_step_94 rfl (lv_at hl 1 rfl) ?_
      refine lv_iconst (v := 3) hx hb d_MO_step_95 (by decide) ?_
      refine mo_st hx hb hK hS hM 10 hj (by decide) (t := 3) rfl d_MO_step_96 (fun H locs X_13 hS hM hF_14 => ?_)
      have hF := hF.tr hF_14
      refine lv_iload_n hx hb d_MO_step_97 rfl (lv_at hl 2 rfl) ?_
      refine lv_if_eq (tgt := 114) hx hb d_MO_step_98 (by decide) (fun c_15 => ?_) (fun c_15 => absurd (c_9) c_15)
      refine lv_iconst (v := 0) hx hb d_MO_step_114 (by decide) ?_
      exact z_Ciret hx hb hr rfl hlk hS (by simp only [an_steps, up_step, if_pos c_9]; exact zV0 (by unfold cd_step; simp [c_5, c_9]) hF hM) (by decide) (by decide) d_MO_step_115
    · refine lv_aload_n hx hb d_MO_step_61 rfl (lv_at hl 0 rfl) ?_
      refine z_get (ci := 3) (C := R_MO) (T := F_MO) (N := 23) hx hb hts j_MO hown hK hS hM.ob rfl 19 (by decide) (hk k_523 rfl) (fun _ h9 => h9) rfl d_MO_step_62 ?_
      refine lv_iload_n hx hb d_MO_step_65 rfl (lv_at hl 1 rfl) ?_
      refine mo_ld (v := F j 11) hx hb hK hS hM 19 hj (by decide) rfl d_MO_step_66 ?_
      refine lv_iconst (v := 1) hx hb d_MO_step_67 (by decide) ?_
      refine lv_isub hx hb d_MO_step_68 ?_
      refine lv_goto (tgt := 73) hx hb d_MO_step_69 (by decide) ?_
      rw [← zfr_id F j] at hM
      refine mo_st hx hb hK hS hM 19 hj (by decide) (t := 11) rfl d_MO_step_73 (fun H locs X_16 hS hM hF_17 => ?_)
      have hF := hF.tr hF_17
      refine lv_aload_n hx hb d_MO_step_74 rfl (lv_at hl 0 rfl) ?_
      refine z_get (ci := 3) (C := R_MO) (T := F_MO) (N := 23) hx hb hts j_MO hown hK hS hM.ob rfl 19 (by decide) (hk k_523 rfl) (fun _ h9 => h9) rfl d_MO_step_75 ?_
      refine lv_iload_n hx hb d_MO_step_78 rfl (lv_at hl 1 rfl) ?_
      refine mo_ld (v := (F j 11) - 1) hx hb hK hS hM 19 hj (by decide) (by rw [zfr_at]; rfl) d_MO_step_79 ?_
      refine lv_if_le (tgt := 90) hx hb d_MO_step_80 (by decide) (fun c_18 => ?_) (fun c_18 => ?_)
      · refine lv_aload_n hx hb d_MO_step_90 rfl (lv_at hl 0 rfl) ?_
        refine z_get (ci := 3) (C := R_MO) (T := F_MO) (N := 23) hx hb hts j_MO hown hK hS hM.ob rfl 10 (by decide) (hk k_514 rfl) (fun _ h9 => h9) rfl d_MO_step_91 ?_
        refine lv_iload_n hx hb d_MO_step_94 rfl (lv_at hl 1 rfl) ?_
        refine lv_iconst (v := 3) hx hb d_MO_step_95 (by decide) ?_
        refine mo_st hx hb hK hS hM 10 hj (by decide) (t := 3) rfl d_MO_step_96 (fun H locs X_19 hS hM hF_20 => ?_)
        have hF := hF.tr hF_20
        refine lv_iload_n hx hb d_MO_step_97 rfl (lv_at hl 2 rfl) ?_
        refine lv_if_eq (tgt := 114) hx hb d_MO_step_98 (by decide) (fun c_21 => absurd c_21 (c_9)) (fun c_21 => ?_)
        refine lv_aload_n hx hb d_MO_step_101 rfl (lv_at hl 0 rfl) ?_
        refine lv_iload_n hx hb d_MO_step_102 rfl (lv_at hl 1 rfl) ?_
        refine lv_aload_n hx hb d_MO_step_103 rfl (lv_at hl 0 rfl) ?_
        refine z_get (ci := 3) (C := R_MO) (T := F_MO) (N := 23) hx hb hts j_MO hown hK hS hM.ob rfl 15 (by decide) (hk k_519 rfl) (fun _ h9 => h9) rfl d_MO_step_104 ?_
        refine lv_iload_n hx hb d_MO_step_107 rfl (lv_at hl 1 rfl) ?_
        refine mo_ld (v := F j 8) hx hb hK hS hM 15 hj (by decide) (by rw [zfr_at]; rfl) d_MO_step_108 ?_
        refine lv_iconst (v := 1) hx hb d_MO_step_109 (by decide) ?_
        refine lv_isub hx hb d_MO_step_110 ?_
        refine z_wm (n_MO_MO_regrade hx hown hG (va_recv hK (hS.1.one hM.ob) (ci := 3) (q0 := 0) rfl rfl) (by rw [hb]; exact d_MO_step_111)) hb (hl.1.trans hml.symm) (c_MO_regrade l hl9 ((F j 8) - 1) hM hj) (z_Gkeeps lo tP) hG hK hS (cw_MO_regrade hG (by decide) (by decide)) d_MO_step_111 (Nat.le_of_ble_eq_true rfl) (by decide) (by decide) (fun H locs X_22 hS hM hF_23 => ?_)
        have hF := hF.tr hF_23
        refine lv_iconst (v := 0) hx hb d_MO_step_114 (by decide) ?_
        exact z_Ciret hx hb hr rfl hlk hS (by have hst0 := (z_stp (hst9 c_5)).mp c_18; simp only [an_steps, up_step, if_neg c_9, if_pos hst0]; rw [hst0] at hM ⊢; exact zV0 (by unfold cd_step; simp [c_5, c_9, c_18, (Int32.not_lt.mpr c_18)]) hF hM) (by decide) (by decide) d_MO_step_115
      · refine lv_aload_n hx hb d_MO_step_83 rfl (lv_at hl 0 rfl) ?_
        refine z_get (ci := 3) (C := R_MO) (T := F_MO) (N := 23) hx hb hts j_MO hown hK hS hM.ob rfl 19 (by decide) (hk k_523 rfl) (fun _ h9 => h9) rfl d_MO_step_84 ?_
        refine lv_iload_n hx hb d_MO_step_87 rfl (lv_at hl 1 rfl) ?_
        refine mo_ld (v := (F j 11) - 1) hx hb hK hS hM 19 hj (by decide) (by rw [zfr_at]; rfl) d_MO_step_88 ?_
        exact z_Ciret hx hb hr rfl hlk hS (by have hst0 : ¬ F j 11 - 1 = 0 := fun q => c_18 ((z_stp (hst9 c_5)).mpr q); simp only [an_steps, up_step, if_neg c_9, if_neg hst0]; exact zV0 (by unfold cd_step; simp [c_5, c_9, c_18, (Int32.not_le.mp c_18)]) hF hM) (by decide) (by decide) d_MO_step_89
  · refine lv_iconst (v := 2) hx hb d_MO_step_35 (by decide) ?_
    refine lv_goto (tgt := 40) hx hb d_MO_step_36 (by decide) ?_
    refine mo_code hx hb hG hown hK hS hM (v := 2) d_MO_step_40 (fun H locs X_24 hS hM hF_25 => ?_)
    have hF := hF.tr hF_25
    refine lv_aload_n hx hb d_MO_step_43 rfl (lv_at hl 0 rfl) ?_
    refine z_get (ci := 3) (C := R_MO) (T := F_MO) (N := 23) hx hb hts j_MO hown hK hS hM.ob rfl 0 (by decide) (hk k_504 rfl) (fun _ h9 => h9) rfl d_MO_step_44 ?_
    refine lv_if_le (tgt := 52) hx hb d_MO_step_47 (by decide) (fun c_26 => absurd c_26 (by decide)) (fun c_26 => ?_)
    refine lv_iconst (v := 0) hx hb d_MO_step_50 (by decide) ?_
    exact z_Ciret hx hb hr rfl hlk hS (zV1 1 (by unfold cd_step; simp [c_5]) hF hM) (by decide) (by decide) d_MO_step_51
set_option maxHeartbeats 4000000 in
set_option maxRecDepth 100000 in
theorem c_MO_scrap_no (l : Launch) (hl9 : l.stackTraces = false) {D : va_G} {cS cR cJ cI cZ : ClassId} {lo tP : Nat} (v : Int32) (p0 b9 : Int32) (a9 : Option Value) (A9 : zA) {mo : Nat} {ad : Nat → Nat} {n k : Nat} {td code0 : Int32} {S : Nat → Nat → Int32} {I : Nat → Nat} {F : Nat → Nat → Int32} {X : zM} (hM : MI mo ad cI cZ n k td code0 S I F X) (hv : ¬ z_rg v 1 (nI k)) : z_C (z_G lo tP) D cls4 (zty cS cR cJ cI cZ) lo l y_MO_scrap w_MO_scrap zrC [.ref mo, .int v, .int p0] X (zV mo ad cI cZ 1 a9 (some (.int 0)) X A9 ⟨n, k, td, S, I, F⟩) := by
  refine z_ofW (by decide) ?_
  intro p e s m args below meth c s₁ B hml hout hv
  obtain ⟨rfl, hG, hK, hW0, hXl, hlo⟩ := hv
  have hx := B.exec
  have hb := B.bytes
  have hr := B.returns
  have hlk := B.notSynchronized
  have hown : s.vm.findClass R_MO = some m.cls := findClass_of_methodNamed B.named
  have hts : ∀ w9 ∈ z_tb, w9.before ([.ref mo, .int v, .int p0] : List Value).toArray s = true := hG.ts _
  have hk : ∀ {w9 : Cond}, w9 ∈ lw_tbl → z_ok w9 = true → w9.before ([.ref mo, .int v, .int p0] : List Value).toArray s = true := fun h1 h2 => hG.w h1 h2 _
  have hg : z_Gr s.heap s.heap := z_Gr.rf
  have hS := z_S.start hW0 hXl hlo
  have hl := lv_entry ([.ref mo, .int v, .int p0]) (n := 3) (Nat.le_of_ble_eq_true rfl)
  rw [lg_entry_eq]
  generalize (lg_sl ([.ref mo, .int v, .int p0]) ++ List.replicate (3 - (lg_sl ([.ref mo, .int v, .int p0])).length) Slot.unset).toArray = ls at hl ⊢
  have hl : lv_has ls 3 [(0, .ref mo), (1, .int v), (2, .int p0)] := hl
  have hIn := hM.idx
  have hn20 := hM.n20
  have hk20 := hM.k20
  have hF : zFr 1 X X := zFr.rf
  refine lv_aload_n hx hb d_MO_scrap_0 rfl (lv_at hl 0 rfl) ?_
  refine lv_aload_n hx hb d_MO_scrap_1 rfl (lv_at hl 0 rfl) ?_
  refine lv_iload_n hx hb d_MO_scrap_2 rfl (lv_at hl 1 rfl) ?_
  refine z_pi (v := 0) (n_MO_MO_isReturn hx hown hG (va_recv hK (hS.1.one hM.ob) (ci := 3) (q0 := 0) rfl rfl) (by rw [hb]; exact d_MO_scrap_3)) hb (hl.1.trans hml.symm) (c_MO_isReturn l hl9 v hM) (by rw [if_neg hv]) (z_Gkeeps lo tP) hG hK hS (cw_MO_isReturn hG (by decide) (by decide)) d_MO_scrap_3 (Nat.le_of_ble_eq_true rfl) (by decide) (by decide) (fun H hq hS => ?_)
  refine lv_if_ne (tgt := 13) hx hb d_MO_scrap_6 (by decide) (fun c_1 => absurd (by decide) c_1) (fun c_1 => ?_)
  refine lv_iconst (v := 1) hx hb d_MO_scrap_9 (by decide) ?_
  refine lv_goto (tgt := 29) hx hb d_MO_scrap_10 (by decide) ?_
  refine mo_code hx hb hG hown hK hS hM (v := 1) d_MO_scrap_29 (fun H locs X_2 hS hM hF_3 => ?_)
  have hF := hF.tr hF_3
  refine lv_aload_n hx hb d_MO_scrap_32 rfl (lv_at hl 0 rfl) ?_
  refine z_get (ci := 3) (C := R_MO) (T := F_MO) (N := 23) hx hb hts j_MO hown hK hS hM.ob rfl 0 (by decide) (hk k_504 rfl) (fun _ h9 => h9) rfl d_MO_scrap_33 ?_
  refine lv_if_ne (tgt := 68) hx hb d_MO_scrap_36 (by decide) (fun c_4 => ?_) (fun c_4 => absurd c_4 (by decide))
  refine lv_aload_n hx hb d_MO_scrap_68 rfl (lv_at hl 0 rfl) ?_
  refine z_get (ci := 3) (C := R_MO) (T := F_MO) (N := 23) hx hb hts j_MO hown hK hS hM.ob rfl 0 (by decide) (hk k_504 rfl) (fun _ h9 => h9) rfl d_MO_scrap_69 ?_
  refine lv_if_gt (tgt := 84) hx hb d_MO_scrap_72 (by decide) (fun c_5 => ?_) (fun c_5 => absurd (by decide) c_5)
  refine lv_iconst (v := 0) hx hb d_MO_scrap_84 (by decide) ?_
  exact z_Ciret hx hb hr rfl hlk hS (zV1 0 rfl hF hM) (by decide) (by decide) d_MO_scrap_85
set_option maxHeartbeats 4000000 in
set_option maxRecDepth 100000 in
theorem c_MO_scrap (l : Launch) (hl9 : l.stackTraces = false) {D : va_G} {cS cR cJ cI cZ : ClassId} {lo tP : Nat} {j : Nat} (p0 b9 : Int32) {mo : Nat} {ad : Nat → Nat} {n k : Nat} {td code0 : Int32} {S : Nat → Nat → Int32} {I : Nat → Nat} {F : Nat → Nat → Int32} {X : zM} (hM : MI mo ad cI cZ n k td code0 S I F X) (hj : j < k) (h014i : ¬ F j 3 = 5 → F j 14 = 0) (hbv : (b9 = 1 ∧ ∃ j, j < k ∧ F j 14 = p0) ∨ (b9 = 0 ∧ ∀ j, j < k → ¬ F j 14 = p0)) : z_C (z_G lo tP) D cls4 (zty cS cR cJ cI cZ) lo l y_MO_scrap w_MO_scrap zrC [.ref mo, .int (nI (j + 1)), .int p0] X (zV mo ad cI cZ (cd_scrap (F j) p0) (some (.int (if b9 = 0 then 1 else 0))) (some (.int 0)) X ⟨n, k, td, S, I, zfr F j (if b9 = 0 then zfs (zfs (F j) 14 p0) 3 5 else F j)⟩ ⟨n, k, td, S, I, F⟩) := by
  refine z_ofW (by decide) ?_
  intro p e s m args below meth c s₁ B hml hout hv
  obtain ⟨rfl, hG, hK, hW0, hXl, hlo⟩ := hv
  have hx := B.exec
  have hb := B.bytes
  have hr := B.returns
  have hlk := B.notSynchronized
  have hown : s.vm.findClass R_MO = some m.cls := findClass_of_methodNamed B.named
  have hts : ∀ w9 ∈ z_tb, w9.before ([.ref mo, .int (nI (j + 1)), .int p0] : List Value).toArray s = true := hG.ts _
  have hk : ∀ {w9 : Cond}, w9 ∈ lw_tbl → z_ok w9 = true → w9.before ([.ref mo, .int (nI (j + 1)), .int p0] : List Value).toArray s = true := fun h1 h2 => hG.w h1 h2 _
  have hg : z_Gr s.heap s.heap := z_Gr.rf
  have hS := z_S.start hW0 hXl hlo
  have hl := lv_entry ([.ref mo, .int (nI (j + 1)), .int p0]) (n := 3) (Nat.le_of_ble_eq_true rfl)
  rw [lg_entry_eq]
  generalize (lg_sl ([.ref mo, .int (nI (j + 1)), .int p0]) ++ List.replicate (3 - (lg_sl ([.ref mo, .int (nI (j + 1)), .int p0])).length) Slot.unset).toArray = ls at hl ⊢
  have hl : lv_has ls 3 [(0, .ref mo), (1, .int (nI (j + 1))), (2, .int p0)] := hl
  have hIn := hM.idx
  have hn20 := hM.n20
  have hk20 := hM.k20
  have hF : zFr 1 X X := zFr.rf
  refine lv_aload_n hx hb d_MO_scrap_0 rfl (lv_at hl 0 rfl) ?_
  refine lv_aload_n hx hb d_MO_scrap_1 rfl (lv_at hl 0 rfl) ?_
  refine lv_iload_n hx hb d_MO_scrap_2 rfl (lv_at hl 1 rfl) ?_
  refine z_pi (v := 1) (n_MO_MO_isReturn hx hown hG (va_recv hK (hS.1.one hM.ob) (ci := 3) (q0 := 0) rfl rfl) (by rw [hb]; exact d_MO_scrap_3)) hb (hl.1.trans hml.symm) (c_MO_isReturn l hl9 (nI (j + 1)) hM) (by rw [if_pos ((z_rg1 (by omega) hk20).mpr hj)]) (z_Gkeeps lo tP) hG hK hS (cw_MO_isReturn hG (by decide) (by decide)) d_MO_scrap_3 (Nat.le_of_ble_eq_true rfl) (by decide) (by decide) (fun H hq hS => ?_)
  refine lv_if_ne (tgt := 13) hx hb d_MO_scrap_6 (by decide) (fun c_1 => ?_) (fun c_1 => absurd c_1 (by decide))
  refine lv_iload_n hx hb d_MO_scrap_13 rfl (lv_at hl 2 rfl) ?_
  refine lv_iconst (v := 1) hx hb d_MO_scrap_14 (by decide) ?_
  refine lv_sipush (v := 1000) hx hb d_MO_scrap_15 (by decide) ?_
  by_cases w_2 : z_rg p0 1 1000
  · refine z_pi (v := 1) (n_MO_MO_in hx hown hG (by rw [hb]; exact d_MO_scrap_18)) hb (hl.1.trans hml.symm) (c_MO_in l hl9 p0 1 1000) (by rw [if_pos w_2]) (z_Gkeeps lo tP) hG hK hS (cw_MO_in hG (by decide) (by decide)) d_MO_scrap_18 (Nat.le_of_ble_eq_true rfl) (by decide) (by decide) (fun H hq hS => ?_)
    refine lv_if_ne (tgt := 28) hx hb d_MO_scrap_21 (by decide) (fun c_3 => ?_) (fun c_3 => absurd c_3 (by decide))
    refine lv_iconst (v := 0) hx hb d_MO_scrap_28 (by decide) ?_
    refine mo_code hx hb hG hown hK hS hM (v := 0) d_MO_scrap_29 (fun H locs X_4 hS hM hF_5 => ?_)
    have hF := hF.tr hF_5
    refine lv_aload_n hx hb d_MO_scrap_32 rfl (lv_at hl 0 rfl) ?_
    refine z_get (ci := 3) (C := R_MO) (T := F_MO) (N := 23) hx hb hts j_MO hown hK hS hM.ob rfl 0 (by decide) (hk k_504 rfl) (fun _ h9 => h9) rfl d_MO_scrap_33 ?_
    refine lv_if_ne (tgt := 68) hx hb d_MO_scrap_36 (by decide) (fun c_6 => absurd (by decide) c_6) (fun c_6 => ?_)
    refine lv_aload_n hx hb d_MO_scrap_39 rfl (lv_at hl 0 rfl) ?_
    refine lv_aload_n hx hb d_MO_scrap_40 rfl (lv_at hl 0 rfl) ?_
    refine z_get (ci := 3) (C := R_MO) (T := F_MO) (N := 23) hx hb hts j_MO hown hK hS hM.ob rfl 10 (by decide) (hk k_514 rfl) (fun _ h9 => h9) rfl d_MO_scrap_41 ?_
    refine lv_iload_n hx hb d_MO_scrap_44 rfl (lv_at hl 1 rfl) ?_
    refine mo_ld (v := F j 3) hx hb hK hS hM 10 hj (by decide) rfl d_MO_scrap_45 ?_
    refine lv_iconst (v := 3) hx hb d_MO_scrap_46 (by decide) ?_
    refine lv_icmp_ne (tgt := 60) hx hb d_MO_scrap_47 (by decide) (fun c_7 => ?_) (fun c_7 => ?_)
    · refine lv_iconst (v := 3) hx hb d_MO_scrap_60 (by decide) ?_
      refine lv_goto (tgt := 65) hx hb d_MO_scrap_61 (by decide) ?_
      refine mo_code hx hb hG hown hK hS hM (v := 3) d_MO_scrap_65 (fun H locs X_8 hS hM hF_9 => ?_)
      have hF := hF.tr hF_9
      refine lv_aload_n hx hb d_MO_scrap_68 rfl (lv_at hl 0 rfl) ?_
      refine z_get (ci := 3) (C := R_MO) (T := F_MO) (N := 23) hx hb hts j_MO hown hK hS hM.ob rfl 0 (by decide) (hk k_504 rfl) (fun _ h9 => h9) rfl d_MO_scrap_69 ?_
      refine lv_if_gt (tgt := 84) hx hb d_MO_scrap_72 (by decide) (fun c_10 => ?_) (fun c_10 => absurd (by decide) c_10)
      refine lv_iconst (v := 0) hx hb d_MO_scrap_84 (by decide) ?_
      exact z_Ciret hx hb hr rfl hlk hS (zV1 2 (by unfold cd_scrap; rw [if_pos w_2]; simp [c_7]) hF hM) (by decide) (by decide) d_MO_scrap_85
    · refine lv_aload_n hx hb d_MO_scrap_50 rfl (lv_at hl 0 rfl) ?_
      refine z_get (ci := 3) (C := R_MO) (T := F_MO) (N := 23) hx hb hts j_MO hown hK hS hM.ob rfl 15 (by decide) (hk k_519 rfl) (fun _ h9 => h9) rfl d_MO_scrap_51 ?_
      refine lv_iload_n hx hb d_MO_scrap_54 rfl (lv_at hl 1 rfl) ?_
      refine mo_ld (v := F j 8) hx hb hK hS hM 15 hj (by decide) rfl d_MO_scrap_55 ?_
      refine lv_iconst (v := 3) hx hb d_MO_scrap_56 (by decide) ?_
      refine lv_icmp_ge (tgt := 64) hx hb d_MO_scrap_57 (by decide) (fun c_11 => ?_) (fun c_11 => ?_)
      · refine lv_iconst (v := 0) hx hb d_MO_scrap_64 (by decide) ?_
        refine mo_code hx hb hG hown hK hS hM (v := 0) d_MO_scrap_65 (fun H locs X_12 hS hM hF_13 => ?_)
        have hF := hF.tr hF_13
        refine lv_aload_n hx hb d_MO_scrap_68 rfl (lv_at hl 0 rfl) ?_
        refine z_get (ci := 3) (C := R_MO) (T := F_MO) (N := 23) hx hb hts j_MO hown hK hS hM.ob rfl 0 (by decide) (hk k_504 rfl) (fun _ h9 => h9) rfl d_MO_scrap_69 ?_
        refine lv_if_gt (tgt := 84) hx hb d_MO_scrap_72 (by decide) (fun c_14 => absurd c_14 (by decide)) (fun c_14 => ?_)
        refine lv_aload_n hx hb d_MO_scrap_75 rfl (lv_at hl 0 rfl) ?_
        refine z_get (ci := 3) (C := R_MO) (T := F_MO) (N := 23) hx hb hts j_MO hown hK hS hM.ob rfl 22 (by decide) (hk k_526 rfl) (fun _ h9 => h9) rfl d_MO_scrap_76 ?_
        refine lv_iload_n hx hb d_MO_scrap_79 rfl (lv_at hl 2 rfl) ?_
        refine mo_ldc hx hb hK hS hM w_2 d_MO_scrap_80 (fun z9 hz9 => ?_)
        refine lv_if_eq (tgt := 86) hx hb d_MO_scrap_81 (by decide) (fun c_15 => ?_) (fun c_15 => ?_)
        · refine lv_aload_n hx hb d_MO_scrap_86 rfl (lv_at hl 0 rfl) ?_
          refine z_get (ci := 3) (C := R_MO) (T := F_MO) (N := 23) hx hb hts j_MO hown hK hS hM.ob rfl 22 (by decide) (hk k_526 rfl) (fun _ h9 => h9) rfl d_MO_scrap_87 ?_
          refine lv_iload_n hx hb d_MO_scrap_90 rfl (lv_at hl 2 rfl) ?_
          refine lv_iload_n hx hb d_MO_scrap_91 rfl (lv_at hl 1 rfl) ?_
          have h014 := h014i (by rw [c_7]; decide)
          refine mo_stc hx hb hK hS hM hj w_2 h014 d_MO_scrap_92 (fun H locs X_16 hS hM hF_17 => ?_)
          have hF := hF.tr hF_17
          refine lv_aload_n hx hb d_MO_scrap_93 rfl (lv_at hl 0 rfl) ?_
          refine z_get (ci := 3) (C := R_MO) (T := F_MO) (N := 23) hx hb hts j_MO hown hK hS hM.ob rfl 10 (by decide) (hk k_514 rfl) (fun _ h9 => h9) rfl d_MO_scrap_94 ?_
          refine lv_iload_n hx hb d_MO_scrap_97 rfl (lv_at hl 1 rfl) ?_
          refine lv_iconst (v := 5) hx hb d_MO_scrap_98 (by decide) ?_
          refine mo_st hx hb hK hS hM 10 hj (by decide) (t := 3) rfl d_MO_scrap_99 (fun H locs X_18 hS hM hF_19 => ?_)
          have hF := hF.tr hF_19
          refine lv_iconst (v := 1) hx hb d_MO_scrap_100 (by decide) ?_
          exact z_Ciret hx hb hr rfl hlk hS (by have hb9 : b9 = 0 := hbv.elim (fun h => absurd c_15 (hz9.mpr h.2)) (fun h => h.1); simp only [if_pos hb9]; exact zV0 (by unfold cd_scrap; rw [if_pos w_2]; simp [c_7, c_11, c_15, (Int32.not_lt.mpr c_11)]) hF hM) (by decide) (by decide) d_MO_scrap_101
        · refine lv_iconst (v := 0) hx hb d_MO_scrap_84 (by decide) ?_
          exact z_Ciret hx hb hr rfl hlk hS (by have hb9 : ¬ b9 = 0 := fun h => hbv.elim (fun q => by rw [q.1] at h; exact absurd h (by decide)) (fun q => by obtain ⟨a, a1, a2⟩ := hz9.mp c_15; exact q.2 a a1 a2); simp only [if_neg hb9]; exact zV0 (by unfold cd_scrap; rw [if_pos w_2]; simp [c_7, c_11, c_15, (Int32.not_lt.mpr c_11)]) hF (by rw [← zfr_id F j] at hM; exact hM)) (by decide) (by decide) d_MO_scrap_85
      · refine lv_iconst (v := 3) hx hb d_MO_scrap_60 (by decide) ?_
        refine lv_goto (tgt := 65) hx hb d_MO_scrap_61 (by decide) ?_
        refine mo_code hx hb hG hown hK hS hM (v := 3) d_MO_scrap_65 (fun H locs X_20 hS hM hF_21 => ?_)
        have hF := hF.tr hF_21
        refine lv_aload_n hx hb d_MO_scrap_68 rfl (lv_at hl 0 rfl) ?_
        refine z_get (ci := 3) (C := R_MO) (T := F_MO) (N := 23) hx hb hts j_MO hown hK hS hM.ob rfl 0 (by decide) (hk k_504 rfl) (fun _ h9 => h9) rfl d_MO_scrap_69 ?_
        refine lv_if_gt (tgt := 84) hx hb d_MO_scrap_72 (by decide) (fun c_22 => ?_) (fun c_22 => absurd (by decide) c_22)
        refine lv_iconst (v := 0) hx hb d_MO_scrap_84 (by decide) ?_
        exact z_Ciret hx hb hr rfl hlk hS (zV1 2 (by unfold cd_scrap; rw [if_pos w_2]; simp [c_7, c_11, (Int32.not_le.mp c_11)]) hF hM) (by decide) (by decide) d_MO_scrap_85
  · refine z_pi (v := 0) (n_MO_MO_in hx hown hG (by rw [hb]; exact d_MO_scrap_18)) hb (hl.1.trans hml.symm) (c_MO_in l hl9 p0 1 1000) (by rw [if_neg w_2]) (z_Gkeeps lo tP) hG hK hS (cw_MO_in hG (by decide) (by decide)) d_MO_scrap_18 (Nat.le_of_ble_eq_true rfl) (by decide) (by decide) (fun H hq hS => ?_)
    refine lv_if_ne (tgt := 28) hx hb d_MO_scrap_21 (by decide) (fun c_23 => absurd (by decide) c_23) (fun c_23 => ?_)
    refine lv_iconst (v := 2) hx hb d_MO_scrap_24 (by decide) ?_
    refine lv_goto (tgt := 29) hx hb d_MO_scrap_25 (by decide) ?_
    refine mo_code hx hb hG hown hK hS hM (v := 2) d_MO_scrap_29 (fun H locs X_24 hS hM hF_25 => ?_)
    have hF := hF.tr hF_25
    refine lv_aload_n hx hb d_MO_scrap_32 rfl (lv_at hl 0 rfl) ?_
    refine z_get (ci := 3) (C := R_MO) (T := F_MO) (N := 23) hx hb hts j_MO hown hK hS hM.ob rfl 0 (by decide) (hk k_504 rfl) (fun _ h9 => h9) rfl d_MO_scrap_33 ?_
    refine lv_if_ne (tgt := 68) hx hb d_MO_scrap_36 (by decide) (fun c_26 => ?_) (fun c_26 => absurd c_26 (by decide))
    refine lv_aload_n hx hb d_MO_scrap_68 rfl (lv_at hl 0 rfl) ?_
    refine z_get (ci := 3) (C := R_MO) (T := F_MO) (N := 23) hx hb hts j_MO hown hK hS hM.ob rfl 0 (by decide) (hk k_504 rfl) (fun _ h9 => h9) rfl d_MO_scrap_69 ?_
    refine lv_if_gt (tgt := 84) hx hb d_MO_scrap_72 (by decide) (fun c_27 => ?_) (fun c_27 => absurd (by decide) c_27)
    refine lv_iconst (v := 0) hx hb d_MO_scrap_84 (by decide) ?_
    exact z_Ciret hx hb hr rfl hlk hS (zV1 1 (by unfold cd_scrap; rw [if_neg w_2]) hF hM) (by decide) (by decide) d_MO_scrap_85
set_option maxHeartbeats 4000000 in
set_option maxRecDepth 100000 in
theorem c_MO_back_no (l : Launch) (hl9 : l.stackTraces = false) {D : va_G} {cS cR cJ cI cZ : ClassId} {lo tP : Nat} (v : Int32)  (a9 : Option Value) (A9 : zA) {mo : Nat} {ad : Nat → Nat} {n k : Nat} {td code0 : Int32} {S : Nat → Nat → Int32} {I : Nat → Nat} {F : Nat → Nat → Int32} {X : zM} (hM : MI mo ad cI cZ n k td code0 S I F X) (hv : ¬ z_rg v 1 (nI k)) : z_C (z_G lo tP) D cls4 (zty cS cR cJ cI cZ) lo l y_MO_back w_MO_back zrC [.ref mo, .int v] X (zV mo ad cI cZ 1 a9 (some (.int 0)) X A9 ⟨n, k, td, S, I, F⟩) := by
  refine z_ofW (by decide) ?_
  intro p e s m args below meth c s₁ B hml hout hv
  obtain ⟨rfl, hG, hK, hW0, hXl, hlo⟩ := hv
  have hx := B.exec
  have hb := B.bytes
  have hr := B.returns
  have hlk := B.notSynchronized
  have hown : s.vm.findClass R_MO = some m.cls := findClass_of_methodNamed B.named
  have hts : ∀ w9 ∈ z_tb, w9.before ([.ref mo, .int v] : List Value).toArray s = true := hG.ts _
  have hk : ∀ {w9 : Cond}, w9 ∈ lw_tbl → z_ok w9 = true → w9.before ([.ref mo, .int v] : List Value).toArray s = true := fun h1 h2 => hG.w h1 h2 _
  have hg : z_Gr s.heap s.heap := z_Gr.rf
  have hS := z_S.start hW0 hXl hlo
  have hl := lv_entry ([.ref mo, .int v]) (n := 2) (Nat.le_of_ble_eq_true rfl)
  rw [lg_entry_eq]
  generalize (lg_sl ([.ref mo, .int v]) ++ List.replicate (2 - (lg_sl ([.ref mo, .int v])).length) Slot.unset).toArray = ls at hl ⊢
  have hl : lv_has ls 2 [(0, .ref mo), (1, .int v)] := hl
  have hIn := hM.idx
  have hn20 := hM.n20
  have hk20 := hM.k20
  have hF : zFr 1 X X := zFr.rf
  refine lv_aload_n hx hb d_MO_back_0 rfl (lv_at hl 0 rfl) ?_
  refine lv_aload_n hx hb d_MO_back_1 rfl (lv_at hl 0 rfl) ?_
  refine lv_iload_n hx hb d_MO_back_2 rfl (lv_at hl 1 rfl) ?_
  refine z_pi (v := 0) (n_MO_MO_isReturn hx hown hG (va_recv hK (hS.1.one hM.ob) (ci := 3) (q0 := 0) rfl rfl) (by rw [hb]; exact d_MO_back_3)) hb (hl.1.trans hml.symm) (c_MO_isReturn l hl9 v hM) (by rw [if_neg hv]) (z_Gkeeps lo tP) hG hK hS (cw_MO_isReturn hG (by decide) (by decide)) d_MO_back_3 (Nat.le_of_ble_eq_true rfl) (by decide) (by decide) (fun H hq hS => ?_)
  refine lv_if_ne (tgt := 13) hx hb d_MO_back_6 (by decide) (fun c_1 => absurd (by decide) c_1) (fun c_1 => ?_)
  refine lv_iconst (v := 1) hx hb d_MO_back_9 (by decide) ?_
  refine lv_goto (tgt := 14) hx hb d_MO_back_10 (by decide) ?_
  refine mo_code hx hb hG hown hK hS hM (v := 1) d_MO_back_14 (fun H locs X_2 hS hM hF_3 => ?_)
  have hF := hF.tr hF_3
  refine lv_aload_n hx hb d_MO_back_17 rfl (lv_at hl 0 rfl) ?_
  refine z_get (ci := 3) (C := R_MO) (T := F_MO) (N := 23) hx hb hts j_MO hown hK hS hM.ob rfl 0 (by decide) (hk k_504 rfl) (fun _ h9 => h9) rfl d_MO_back_18 ?_
  refine lv_if_ne (tgt := 89) hx hb d_MO_back_21 (by decide) (fun c_4 => ?_) (fun c_4 => absurd c_4 (by decide))
  refine lv_aload_n hx hb d_MO_back_89 rfl (lv_at hl 0 rfl) ?_
  refine z_get (ci := 3) (C := R_MO) (T := F_MO) (N := 23) hx hb hts j_MO hown hK hS hM.ob rfl 0 (by decide) (hk k_504 rfl) (fun _ h9 => h9) rfl d_MO_back_90 ?_
  refine lv_if_le (tgt := 98) hx hb d_MO_back_93 (by decide) (fun c_5 => absurd c_5 (by decide)) (fun c_5 => ?_)
  refine lv_iconst (v := 0) hx hb d_MO_back_96 (by decide) ?_
  exact z_Ciret hx hb hr rfl hlk hS (zV1 0 rfl hF hM) (by decide) (by decide) d_MO_back_97
set_option maxHeartbeats 4000000 in
set_option maxRecDepth 100000 in
theorem c_MO_back (l : Launch) (hl9 : l.stackTraces = false) {D : va_G} {cS cR cJ cI cZ : ClassId} {lo tP : Nat} {j : Nat}  {mo : Nat} {ad : Nat → Nat} {n k : Nat} {td code0 : Int32} {S : Nat → Nat → Int32} {I : Nat → Nat} {F : Nat → Nat → Int32} {X : zM} (hM : MI mo ad cI cZ n k td code0 S I F X) (hj : j < k) : z_C (z_G lo tP) D cls4 (zty cS cR cJ cI cZ) lo l y_MO_back w_MO_back zrC [.ref mo, .int (nI (j + 1))] X (zV mo ad cI cZ (cd_back td (S (I j)) (F j)) (some (.int (an_back k (zfr F j (zfs (F j) 3 6)) (F j 8)))) (some (.int 0)) X ⟨n, k, td, S, I, zfr F j (zfs (F j) 3 6)⟩ ⟨n, k, td, S, I, F⟩) := by
  refine z_ofW (by decide) ?_
  intro p e s m args below meth c s₁ B hml hout hv
  obtain ⟨rfl, hG, hK, hW0, hXl, hlo⟩ := hv
  have hx := B.exec
  have hb := B.bytes
  have hr := B.returns
  have hlk := B.notSynchronized
  have hown : s.vm.findClass R_MO = some m.cls := findClass_of_methodNamed B.named
  have hts : ∀ w9 ∈ z_tb, w9.before ([.ref mo, .int (nI (j + 1))] : List Value).toArray s = true := hG.ts _
  have hk : ∀ {w9 : Cond}, w9 ∈ lw_tbl → z_ok w9 = true → w9.before ([.ref mo, .int (nI (j + 1))] : List Value).toArray s = true := fun h1 h2 => hG.w h1 h2 _
  have hg : z_Gr s.heap s.heap := z_Gr.rf
  have hS := z_S.start hW0 hXl hlo
  have hl := lv_entry ([.ref mo, .int (nI (j + 1))]) (n := 2) (Nat.le_of_ble_eq_true rfl)
  rw [lg_entry_eq]
  generalize (lg_sl ([.ref mo, .int (nI (j + 1))]) ++ List.replicate (2 - (lg_sl ([.ref mo, .int (nI (j + 1))])).length) Slot.unset).toArray = ls at hl ⊢
  have hl : lv_has ls 2 [(0, .ref mo), (1, .int (nI (j + 1)))] := hl
  have hIn := hM.idx
  have hn20 := hM.n20
  have hk20 := hM.k20
  have hF : zFr 1 X X := zFr.rf
  refine lv_aload_n hx hb d_MO_back_0 rfl (lv_at hl 0 rfl) ?_
  refine lv_aload_n hx hb d_MO_back_1 rfl (lv_at hl 0 rfl) ?_
  refine lv_iload_n hx hb d_MO_back_2 rfl (lv_at hl 1 rfl) ?_
  refine z_pi (v := 1) (n_MO_MO_isReturn hx hown hG (va_recv hK (hS.1.one hM.ob) (ci := 3) (q0 := 0) rfl rfl) (by rw [hb]; exact d_MO_back_3)) hb (hl.1.trans hml.symm) (c_MO_isReturn l hl9 (nI (j + 1)) hM) (by rw [if_pos ((z_rg1 (by omega) hk20).mpr hj)]) (z_Gkeeps lo tP) hG hK hS (cw_MO_isReturn hG (by decide) (by decide)) d_MO_back_3 (Nat.le_of_ble_eq_true rfl) (by decide) (by decide) (fun H hq hS => ?_)
  refine lv_if_ne (tgt := 13) hx hb d_MO_back_6 (by decide) (fun c_1 => ?_) (fun c_1 => absurd c_1 (by decide))
  refine lv_iconst (v := 0) hx hb d_MO_back_13 (by decide) ?_
  refine mo_code hx hb hG hown hK hS hM (v := 0) d_MO_back_14 (fun H locs X_2 hS hM hF_3 => ?_)
  have hF := hF.tr hF_3
  refine lv_aload_n hx hb d_MO_back_17 rfl (lv_at hl 0 rfl) ?_
  refine z_get (ci := 3) (C := R_MO) (T := F_MO) (N := 23) hx hb hts j_MO hown hK hS hM.ob rfl 0 (by decide) (hk k_504 rfl) (fun _ h9 => h9) rfl d_MO_back_18 ?_
  refine lv_if_ne (tgt := 89) hx hb d_MO_back_21 (by decide) (fun c_4 => absurd (by decide) c_4) (fun c_4 => ?_)
  refine lv_aload_n hx hb d_MO_back_24 rfl (lv_at hl 0 rfl) ?_
  refine lv_aload_n hx hb d_MO_back_25 rfl (lv_at hl 0 rfl) ?_
  refine z_get (ci := 3) (C := R_MO) (T := F_MO) (N := 23) hx hb hts j_MO hown hK hS hM.ob rfl 10 (by decide) (hk k_514 rfl) (fun _ h9 => h9) rfl d_MO_back_26 ?_
  refine lv_iload_n hx hb d_MO_back_29 rfl (lv_at hl 1 rfl) ?_
  refine mo_ld (v := F j 3) hx hb hK hS hM 10 hj (by decide) rfl d_MO_back_30 ?_
  refine lv_iconst (v := 3) hx hb d_MO_back_31 (by decide) ?_
  refine lv_icmp_ne (tgt := 81) hx hb d_MO_back_32 (by decide) (fun c_5 => ?_) (fun c_5 => ?_)
  · refine lv_iconst (v := 2) hx hb d_MO_back_81 (by decide) ?_
    refine lv_goto (tgt := 86) hx hb d_MO_back_82 (by decide) ?_
    refine mo_code hx hb hG hown hK hS hM (v := 2) d_MO_back_86 (fun H locs X_6 hS hM hF_7 => ?_)
    have hF := hF.tr hF_7
    refine lv_aload_n hx hb d_MO_back_89 rfl (lv_at hl 0 rfl) ?_
    refine z_get (ci := 3) (C := R_MO) (T := F_MO) (N := 23) hx hb hts j_MO hown hK hS hM.ob rfl 0 (by decide) (hk k_504 rfl) (fun _ h9 => h9) rfl d_MO_back_90 ?_
    refine lv_if_le (tgt := 98) hx hb d_MO_back_93 (by decide) (fun c_8 => absurd c_8 (by decide)) (fun c_8 => ?_)
    refine lv_iconst (v := 0) hx hb d_MO_back_96 (by decide) ?_
    exact z_Ciret hx hb hr rfl hlk hS (zV1 1 (by unfold cd_back; simp [c_5]) hF hM) (by decide) (by decide) d_MO_back_97
  · refine lv_aload_n hx hb d_MO_back_35 rfl (lv_at hl 0 rfl) ?_
    refine z_get (ci := 3) (C := R_MO) (T := F_MO) (N := 23) hx hb hts j_MO hown hK hS hM.ob rfl 13 (by decide) (hk k_517 rfl) (fun _ h9 => h9) rfl d_MO_back_36 ?_
    refine lv_iload_n hx hb d_MO_back_39 rfl (lv_at hl 1 rfl) ?_
    refine mo_ldb (v := F j 5) hx hb hK hS hM 13 hj (by decide) rfl d_MO_back_40 ?_
    refine lv_if_ne (tgt := 81) hx hb d_MO_back_41 (by decide) (fun c_9 => ?_) (fun c_9 => ?_)
    · refine lv_iconst (v := 2) hx hb d_MO_back_81 (by decide) ?_
      refine lv_goto (tgt := 86) hx hb d_MO_back_82 (by decide) ?_
      refine mo_code hx hb hG hown hK hS hM (v := 2) d_MO_back_86 (fun H locs X_10 hS hM hF_11 => ?_)
      have hF := hF.tr hF_11
      refine lv_aload_n hx hb d_MO_back_89 rfl (lv_at hl 0 rfl) ?_
      refine z_get (ci := 3) (C := R_MO) (T := F_MO) (N := 23) hx hb hts j_MO hown hK hS hM.ob rfl 0 (by decide) (hk k_504 rfl) (fun _ h9 => h9) rfl d_MO_back_90 ?_
      refine lv_if_le (tgt := 98) hx hb d_MO_back_93 (by decide) (fun c_12 => absurd c_12 (by decide)) (fun c_12 => ?_)
      refine lv_iconst (v := 0) hx hb d_MO_back_96 (by decide) ?_
      exact z_Ciret hx hb hr rfl hlk hS (zV1 1 (by unfold cd_back; simp [c_5, c_9]) hF hM) (by decide) (by decide) d_MO_back_97
    · refine lv_aload_n hx hb d_MO_back_44 rfl (lv_at hl 0 rfl) ?_
      refine z_get (ci := 3) (C := R_MO) (T := F_MO) (N := 23) hx hb hts j_MO hown hK hS hM.ob rfl 14 (by decide) (hk k_518 rfl) (fun _ h9 => h9) rfl d_MO_back_45 ?_
      refine lv_iload_n hx hb d_MO_back_48 rfl (lv_at hl 1 rfl) ?_
      refine mo_ldb (v := F j 6) hx hb hK hS hM 14 hj (by decide) rfl d_MO_back_49 ?_
      refine lv_if_ne (tgt := 81) hx hb d_MO_back_50 (by decide) (fun c_13 => ?_) (fun c_13 => ?_)
      · refine lv_iconst (v := 2) hx hb d_MO_back_81 (by decide) ?_
        refine lv_goto (tgt := 86) hx hb d_MO_back_82 (by decide) ?_
        refine mo_code hx hb hG hown hK hS hM (v := 2) d_MO_back_86 (fun H locs X_14 hS hM hF_15 => ?_)
        have hF := hF.tr hF_15
        refine lv_aload_n hx hb d_MO_back_89 rfl (lv_at hl 0 rfl) ?_
        refine z_get (ci := 3) (C := R_MO) (T := F_MO) (N := 23) hx hb hts j_MO hown hK hS hM.ob rfl 0 (by decide) (hk k_504 rfl) (fun _ h9 => h9) rfl d_MO_back_90 ?_
        refine lv_if_le (tgt := 98) hx hb d_MO_back_93 (by decide) (fun c_16 => absurd c_16 (by decide)) (fun c_16 => ?_)
        refine lv_iconst (v := 0) hx hb d_MO_back_96 (by decide) ?_
        exact z_Ciret hx hb hr rfl hlk hS (zV1 1 (by unfold cd_back; simp [c_5, c_9, c_13]) hF hM) (by decide) (by decide) d_MO_back_97
      · refine lv_aload_n hx hb d_MO_back_53 rfl (lv_at hl 0 rfl) ?_
        refine z_get (ci := 3) (C := R_MO) (T := F_MO) (N := 23) hx hb hts j_MO hown hK hS hM.ob rfl 15 (by decide) (hk k_519 rfl) (fun _ h9 => h9) rfl d_MO_back_54 ?_
        refine lv_iload_n hx hb d_MO_back_57 rfl (lv_at hl 1 rfl) ?_
        refine mo_ld (v := F j 8) hx hb hK hS hM 15 hj (by decide) rfl d_MO_back_58 ?_
        refine lv_iconst (v := 2) hx hb d_MO_back_59 (by decide) ?_
        refine lv_icmp_gt (tgt := 81) hx hb d_MO_back_60 (by decide) (fun c_17 => ?_) (fun c_17 => ?_)
        · refine lv_iconst (v := 2) hx hb d_MO_back_81 (by decide) ?_
          refine lv_goto (tgt := 86) hx hb d_MO_back_82 (by decide) ?_
          refine mo_code hx hb hG hown hK hS hM (v := 2) d_MO_back_86 (fun H locs X_18 hS hM hF_19 => ?_)
          have hF := hF.tr hF_19
          refine lv_aload_n hx hb d_MO_back_89 rfl (lv_at hl 0 rfl) ?_
          refine z_get (ci := 3) (C := R_MO) (T := F_MO) (N := 23) hx hb hts j_MO hown hK hS hM.ob rfl 0 (by decide) (hk k_504 rfl) (fun _ h9 => h9) rfl d_MO_back_90 ?_
          refine lv_if_le (tgt := 98) hx hb d_MO_back_93 (by decide) (fun c_20 => absurd c_20 (by decide)) (fun c_20 => ?_)
          refine lv_iconst (v := 0) hx hb d_MO_back_96 (by decide) ?_
          exact z_Ciret hx hb hr rfl hlk hS (zV1 1 (by unfold cd_back; simp [c_5, c_9, c_13, c_17, (Int32.not_le.mpr c_17)]) hF hM) (by decide) (by decide) d_MO_back_97
        · refine lv_aload_n hx hb d_MO_back_63 rfl (lv_at hl 0 rfl) ?_
          refine z_get (ci := 3) (C := R_MO) (T := F_MO) (N := 23) hx hb hts j_MO hown hK hS hM.ob rfl 1 (by decide) (hk k_505 rfl) (fun _ h9 => h9) rfl d_MO_back_64 ?_
          refine lv_aload_n hx hb d_MO_back_67 rfl (lv_at hl 0 rfl) ?_
          refine z_get (ci := 3) (C := R_MO) (T := F_MO) (N := 23) hx hb hts j_MO hown hK hS hM.ob rfl 6 (by decide) (hk k_509 rfl) (fun _ h9 => h9) rfl d_MO_back_68 ?_
          refine lv_aload_n hx hb d_MO_back_71 rfl (lv_at hl 0 rfl) ?_
          refine z_get (ci := 3) (C := R_MO) (T := F_MO) (N := 23) hx hb hts j_MO hown hK hS hM.ob rfl 8 (by decide) (hk k_512 rfl) (fun _ h9 => h9) rfl d_MO_back_72 ?_
          refine lv_iload_n hx hb d_MO_back_75 rfl (lv_at hl 1 rfl) ?_
          refine mo_ldI hx hb hK hS hM hj d_MO_back_76 ?_
          refine mo_lds hx hb hK hS hM 6 (hIn j hj) (by decide) rfl d_MO_back_77 ?_
          refine lv_icmp_le (tgt := 85) hx hb d_MO_back_78 (by decide) (fun c_21 => ?_) (fun c_21 => ?_)
          · refine lv_iconst (v := 0) hx hb d_MO_back_85 (by decide) ?_
            refine mo_code hx hb hG hown hK hS hM (v := 0) d_MO_back_86 (fun H locs X_22 hS hM hF_23 => ?_)
            have hF := hF.tr hF_23
            refine lv_aload_n hx hb d_MO_back_89 rfl (lv_at hl 0 rfl) ?_
            refine z_get (ci := 3) (C := R_MO) (T := F_MO) (N := 23) hx hb hts j_MO hown hK hS hM.ob rfl 0 (by decide) (hk k_504 rfl) (fun _ h9 => h9) rfl d_MO_back_90 ?_
            refine lv_if_le (tgt := 98) hx hb d_MO_back_93 (by decide) (fun c_24 => ?_) (fun c_24 => absurd (by decide) c_24)
            refine lv_aload_n hx hb d_MO_back_98 rfl (lv_at hl 0 rfl) ?_
            refine z_get (ci := 3) (C := R_MO) (T := F_MO) (N := 23) hx hb hts j_MO hown hK hS hM.ob rfl 10 (by decide) (hk k_514 rfl) (fun _ h9 => h9) rfl d_MO_back_99 ?_
            refine lv_iload_n hx hb d_MO_back_102 rfl (lv_at hl 1 rfl) ?_
            refine lv_bipush (v := 6) hx hb d_MO_back_103 (by decide) ?_
            rw [← zfr_id F j] at hM
            refine mo_st hx hb hK hS hM 10 hj (by decide) (t := 3) rfl d_MO_back_105 (fun H locs X_25 hS hM hF_26 => ?_)
            have hF := hF.tr hF_26
            refine lv_aload_n hx hb d_MO_back_106 rfl (lv_at hl 0 rfl) ?_
            refine lv_aload_n hx hb d_MO_back_107 rfl (lv_at hl 0 rfl) ?_
            refine z_get (ci := 3) (C := R_MO) (T := F_MO) (N := 23) hx hb hts j_MO hown hK hS hM.ob rfl 15 (by decide) (hk k_519 rfl) (fun _ h9 => h9) rfl d_MO_back_108 ?_
            refine lv_iload_n hx hb d_MO_back_111 rfl (lv_at hl 1 rfl) ?_
            refine mo_ld (v := F j 8) hx hb hK hS hM 15 hj (by decide) (by rw [zfr_at]; rfl) d_MO_back_112 ?_
            refine z_pi (v := an_back k (zfr F j (zfs (F j) 3 6)) (F j 8)) (n_MO_MO_backs hx hown hG (va_recv hK (hS.1.one hM.ob) (ci := 3) (q0 := 0) rfl rfl) (by rw [hb]; exact d_MO_back_113)) hb (hl.1.trans hml.symm) (c_MO_backs l hl9 (F j 8) hM) (rfl) (z_Gkeeps lo tP) hG hK hS (cw_MO_backs hG (by decide) (by decide)) d_MO_back_113 (Nat.le_of_ble_eq_true rfl) (by decide) (by decide) (fun H hq hS => ?_)
            exact z_Ciret hx hb hr rfl hlk hS (zV0 (by unfold cd_back; simp [c_5, c_9, c_13, c_17, c_21, (Int32.not_lt.mp c_17), (Int32.not_lt.mpr c_21)]) hF hM) (by decide) (by decide) d_MO_back_116
          · refine lv_iconst (v := 2) hx hb d_MO_back_81 (by decide) ?_
            refine lv_goto (tgt := 86) hx hb d_MO_back_82 (by decide) ?_
            refine mo_code hx hb hG hown hK hS hM (v := 2) d_MO_back_86 (fun H locs X_27 hS hM hF_28 => ?_)
            have hF := hF.tr hF_28
            refine lv_aload_n hx hb d_MO_back_89 rfl (lv_at hl 0 rfl) ?_
            refine z_get (ci := 3) (C := R_MO) (T := F_MO) (N := 23) hx hb hts j_MO hown hK hS hM.ob rfl 0 (by decide) (hk k_504 rfl) (fun _ h9 => h9) rfl d_MO_back_90 ?_
            refine lv_if_le (tgt := 98) hx hb d_MO_back_93 (by decide) (fun c_29 => absurd c_29 (by decide)) (fun c_29 => ?_)
            refine lv_iconst (v := 0) hx hb d_MO_back_96 (by decide) ?_
            exact z_Ciret hx hb hr rfl hlk hS (zV1 1 (by unfold cd_back; simp [c_5, c_9, c_13, c_17, c_21, (Int32.not_lt.mp c_17), (Int32.not_le.mp c_21)]) hF hM) (by decide) (by decide) d_MO_back_97
set_option maxHeartbeats 4000000 in
set_option maxRecDepth 100000 in
theorem c_MO_missing_no (l : Launch) (hl9 : l.stackTraces = false) {D : va_G} {cS cR cJ cI cZ : ClassId} {lo tP : Nat} (v : Int32) (p0 : Int32) (a9 : Option Value) (A9 : zA) {mo : Nat} {ad : Nat → Nat} {n k : Nat} {td code0 : Int32} {S : Nat → Nat → Int32} {I : Nat → Nat} {F : Nat → Nat → Int32} {X : zM} (hM : MI mo ad cI cZ n k td code0 S I F X) (hv : ¬ z_rg v 1 (nI k)) : z_C (z_G lo tP) D cls4 (zty cS cR cJ cI cZ) lo l y_MO_missing w_MO_missing zrC [.ref mo, .int v, .int p0] X (zV mo ad cI cZ 1 a9 none X A9 ⟨n, k, td, S, I, F⟩) := by
  refine z_ofW (by decide) ?_
  intro p e s m args below meth c s₁ B hml hout hv
  obtain ⟨rfl, hG, hK, hW0, hXl, hlo⟩ := hv
  have hx := B.exec
  have hb := B.bytes
  have hr := B.returns
  have hlk := B.notSynchronized
  have hown : s.vm.findClass R_MO = some m.cls := findClass_of_methodNamed B.named
  have hts : ∀ w9 ∈ z_tb, w9.before ([.ref mo, .int v, .int p0] : List Value).toArray s = true := hG.ts _
  have hk : ∀ {w9 : Cond}, w9 ∈ lw_tbl → z_ok w9 = true → w9.before ([.ref mo, .int v, .int p0] : List Value).toArray s = true := fun h1 h2 => hG.w h1 h2 _
  have hg : z_Gr s.heap s.heap := z_Gr.rf
  have hS := z_S.start hW0 hXl hlo
  have hl := lv_entry ([.ref mo, .int v, .int p0]) (n := 3) (Nat.le_of_ble_eq_true rfl)
  rw [lg_entry_eq]
  generalize (lg_sl ([.ref mo, .int v, .int p0]) ++ List.replicate (3 - (lg_sl ([.ref mo, .int v, .int p0])).length) Slot.unset).toArray = ls at hl ⊢
  have hl : lv_has ls 3 [(0, .ref mo), (1, .int v), (2, .int p0)] := hl
  have hIn := hM.idx
  have hn20 := hM.n20
  have hk20 := hM.k20
  have hF : zFr 1 X X := zFr.rf
  refine lv_aload_n hx hb d_MO_missing_0 rfl (lv_at hl 0 rfl) ?_
  refine lv_aload_n hx hb d_MO_missing_1 rfl (lv_at hl 0 rfl) ?_
  refine lv_iload_n hx hb d_MO_missing_2 rfl (lv_at hl 1 rfl) ?_
  refine z_pi (v := 0) (n_MO_MO_isReturn hx hown hG (va_recv hK (hS.1.one hM.ob) (ci := 3) (q0 := 0) rfl rfl) (by rw [hb]; exact d_MO_missing_3)) hb (hl.1.trans hml.symm) (c_MO_isReturn l hl9 v hM) (by rw [if_neg hv]) (z_Gkeeps lo tP) hG hK hS (cw_MO_isReturn hG (by decide) (by decide)) d_MO_missing_3 (Nat.le_of_ble_eq_true rfl) (by decide) (by decide) (fun H hq hS => ?_)
  refine lv_if_ne (tgt := 13) hx hb d_MO_missing_6 (by decide) (fun c_1 => absurd (by decide) c_1) (fun c_1 => ?_)
  refine lv_iconst (v := 1) hx hb d_MO_missing_9 (by decide) ?_
  refine lv_goto (tgt := 28) hx hb d_MO_missing_10 (by decide) ?_
  refine mo_code hx hb hG hown hK hS hM (v := 1) d_MO_missing_28 (fun H locs X_2 hS hM hF_3 => ?_)
  have hF := hF.tr hF_3
  refine lv_aload_n hx hb d_MO_missing_31 rfl (lv_at hl 0 rfl) ?_
  refine z_get (ci := 3) (C := R_MO) (T := F_MO) (N := 23) hx hb hts j_MO hown hK hS hM.ob rfl 0 (by decide) (hk k_504 rfl) (fun _ h9 => h9) rfl d_MO_missing_32 ?_
  refine lv_if_ne (tgt := 55) hx hb d_MO_missing_35 (by decide) (fun c_4 => ?_) (fun c_4 => absurd c_4 (by decide))
  refine lv_aload_n hx hb d_MO_missing_55 rfl (lv_at hl 0 rfl) ?_
  refine z_get (ci := 3) (C := R_MO) (T := F_MO) (N := 23) hx hb hts j_MO hown hK hS hM.ob rfl 0 (by decide) (hk k_504 rfl) (fun _ h9 => h9) rfl d_MO_missing_56 ?_
  refine lv_if_ne (tgt := 69) hx hb d_MO_missing_59 (by decide) (fun c_5 => ?_) (fun c_5 => absurd c_5 (by decide))
  exact z_Cvret hx hb hr hlk hS (zV1 0 rfl hF hM) (by decide) (by decide) d_MO_missing_69
set_option maxHeartbeats 4000000 in
set_option maxRecDepth 100000 in
theorem c_MO_missing (l : Launch) (hl9 : l.stackTraces = false) {D : va_G} {cS cR cJ cI cZ : ClassId} {lo tP : Nat} {j : Nat} (p0 : Int32) {mo : Nat} {ad : Nat → Nat} {n k : Nat} {td code0 : Int32} {S : Nat → Nat → Int32} {I : Nat → Nat} {F : Nat → Nat → Int32} {X : zM} (hM : MI mo ad cI cZ n k td code0 S I F X) (hj : j < k) : z_C (z_G lo tP) D cls4 (zty cS cR cJ cI cZ) lo l y_MO_missing w_MO_missing zrC [.ref mo, .int (nI (j + 1)), .int p0] X (zV mo ad cI cZ (cd_missing (F j) p0) none none X ⟨n, k, td, S, I, zfr F j (zfs (F j) 12 p0)⟩ ⟨n, k, td, S, I, F⟩) := by
  refine z_ofW (by decide) ?_
  intro p e s m args below meth c s₁ B hml hout hv
  obtain ⟨rfl, hG, hK, hW0, hXl, hlo⟩ := hv
  have hx := B.exec
  have hb := B.bytes
  have hr := B.returns
  have hlk := B.notSynchronized
  have hown : s.vm.findClass R_MO = some m.cls := findClass_of_methodNamed B.named
  have hts : ∀ w9 ∈ z_tb, w9.before ([.ref mo, .int (nI (j + 1)), .int p0] : List Value).toArray s = true := hG.ts _
  have hk : ∀ {w9 : Cond}, w9 ∈ lw_tbl → z_ok w9 = true → w9.before ([.ref mo, .int (nI (j + 1)), .int p0] : List Value).toArray s = true := fun h1 h2 => hG.w h1 h2 _
  have hg : z_Gr s.heap s.heap := z_Gr.rf
  have hS := z_S.start hW0 hXl hlo
  have hl := lv_entry ([.ref mo, .int (nI (j + 1)), .int p0]) (n := 3) (Nat.le_of_ble_eq_true rfl)
  rw [lg_entry_eq]
  generalize (lg_sl ([.ref mo, .int (nI (j + 1)), .int p0]) ++ List.replicate (3 - (lg_sl ([.ref mo, .int (nI (j + 1)), .int p0])).length) Slot.unset).toArray = ls at hl ⊢
  have hl : lv_has ls 3 [(0, .ref mo), (1, .int (nI (j + 1))), (2, .int p0)] := hl
  have hIn := hM.idx
  have hn20 := hM.n20
  have hk20 := hM.k20
  have hF : zFr 1 X X := zFr.rf
  refine lv_aload_n hx hb d_MO_missing_0 rfl (lv_at hl 0 rfl) ?_
  refine lv_aload_n hx hb d_MO_missing_1 rfl (lv_at hl 0 rfl) ?_
  refine lv_iload_n hx hb d_MO_missing_2 rfl (lv_at hl 1 rfl) ?_
  refine z_pi (v := 1) (n_MO_MO_isReturn hx hown hG (va_recv hK (hS.1.one hM.ob) (ci := 3) (q0 := 0) rfl rfl) (by rw [hb]; exact d_MO_missing_3)) hb (hl.1.trans hml.symm) (c_MO_isReturn l hl9 (nI (j + 1)) hM) (by rw [if_pos ((z_rg1 (by omega) hk20).mpr hj)]) (z_Gkeeps lo tP) hG hK hS (cw_MO_isReturn hG (by decide) (by decide)) d_MO_missing_3 (Nat.le_of_ble_eq_true rfl) (by decide) (by decide) (fun H hq hS => ?_)
  refine lv_if_ne (tgt := 13) hx hb d_MO_missing_6 (by decide) (fun c_1 => ?_) (fun c_1 => absurd c_1 (by decide))
  refine lv_iload_n hx hb d_MO_missing_13 rfl (lv_at hl 2 rfl) ?_
  refine lv_iconst (v := 0) hx hb d_MO_missing_14 (by decide) ?_
  refine lv_bipush (v := 10) hx hb d_MO_missing_15 (by decide) ?_
  by_cases w_2 : z_rg p0 0 10
  · refine z_pi (v := 1) (n_MO_MO_in hx hown hG (by rw [hb]; exact d_MO_missing_17)) hb (hl.1.trans hml.symm) (c_MO_in l hl9 p0 0 10) (by rw [if_pos w_2]) (z_Gkeeps lo tP) hG hK hS (cw_MO_in hG (by decide) (by decide)) d_MO_missing_17 (Nat.le_of_ble_eq_true rfl) (by decide) (by decide) (fun H hq hS => ?_)
    refine lv_if_ne (tgt := 27) hx hb d_MO_missing_20 (by decide) (fun c_3 => ?_) (fun c_3 => absurd c_3 (by decide))
    refine lv_iconst (v := 0) hx hb d_MO_missing_27 (by decide) ?_
    refine mo_code hx hb hG hown hK hS hM (v := 0) d_MO_missing_28 (fun H locs X_4 hS hM hF_5 => ?_)
    have hF := hF.tr hF_5
    refine lv_aload_n hx hb d_MO_missing_31 rfl (lv_at hl 0 rfl) ?_
    refine z_get (ci := 3) (C := R_MO) (T := F_MO) (N := 23) hx hb hts j_MO hown hK hS hM.ob rfl 0 (by decide) (hk k_504 rfl) (fun _ h9 => h9) rfl d_MO_missing_32 ?_
    refine lv_if_ne (tgt := 55) hx hb d_MO_missing_35 (by decide) (fun c_6 => absurd (by decide) c_6) (fun c_6 => ?_)
    refine lv_aload_n hx hb d_MO_missing_38 rfl (lv_at hl 0 rfl) ?_
    refine lv_aload_n hx hb d_MO_missing_39 rfl (lv_at hl 0 rfl) ?_
    refine lv_iload_n hx hb d_MO_missing_40 rfl (lv_at hl 1 rfl) ?_
    by_cases w_7 : F j 3 = 2 ∨ F j 3 = 3
    · refine z_pi (v := 1) (n_MO_MO_isSeen hx hown hG (va_recv hK (hS.1.one hM.ob) (ci := 3) (q0 := 0) rfl rfl) (by rw [hb]; exact d_MO_missing_41)) hb (hl.1.trans hml.symm) (c_MO_isSeen l hl9 hM hj) (by rw [if_pos w_7]) (z_Gkeeps lo tP) hG hK hS (cw_MO_isSeen hG (by decide) (by decide)) d_MO_missing_41 (Nat.le_of_ble_eq_true rfl) (by decide) (by decide) (fun H hq hS => ?_)
      refine lv_if_eq (tgt := 51) hx hb d_MO_missing_44 (by decide) (fun c_8 => absurd c_8 (by decide)) (fun c_8 => ?_)
      refine lv_iconst (v := 0) hx hb d_MO_missing_47 (by decide) ?_
      refine lv_goto (tgt := 52) hx hb d_MO_missing_48 (by decide) ?_
      refine mo_code hx hb hG hown hK hS hM (v := 0) d_MO_missing_52 (fun H locs X_9 hS hM hF_10 => ?_)
      have hF := hF.tr hF_10
      refine lv_aload_n hx hb d_MO_missing_55 rfl (lv_at hl 0 rfl) ?_
      refine z_get (ci := 3) (C := R_MO) (T := F_MO) (N := 23) hx hb hts j_MO hown hK hS hM.ob rfl 0 (by decide) (hk k_504 rfl) (fun _ h9 => h9) rfl d_MO_missing_56 ?_
      refine lv_if_ne (tgt := 69) hx hb d_MO_missing_59 (by decide) (fun c_11 => absurd (by decide) c_11) (fun c_11 => ?_)
      refine lv_aload_n hx hb d_MO_missing_62 rfl (lv_at hl 0 rfl) ?_
      refine z_get (ci := 3) (C := R_MO) (T := F_MO) (N := 23) hx hb hts j_MO hown hK hS hM.ob rfl 20 (by decide) (hk k_524 rfl) (fun _ h9 => h9) rfl d_MO_missing_63 ?_
      refine lv_iload_n hx hb d_MO_missing_66 rfl (lv_at hl 1 rfl) ?_
      refine lv_iload_n hx hb d_MO_missing_67 rfl (lv_at hl 2 rfl) ?_
      rw [← zfr_id F j] at hM
      refine mo_st hx hb hK hS hM 20 hj (by decide) (t := 12) rfl d_MO_missing_68 (fun H locs X_12 hS hM hF_13 => ?_)
      have hF := hF.tr hF_13
      exact z_Cvret hx hb hr hlk hS (zV0 (by unfold cd_missing; rw [if_pos w_2]; simp [w_7]) hF hM) (by decide) (by decide) d_MO_missing_69
    · refine z_pi (v := 0) (n_MO_MO_isSeen hx hown hG (va_recv hK (hS.1.one hM.ob) (ci := 3) (q0 := 0) rfl rfl) (by rw [hb]; exact d_MO_missing_41)) hb (hl.1.trans hml.symm) (c_MO_isSeen l hl9 hM hj) (by rw [if_neg w_7]) (z_Gkeeps lo tP) hG hK hS (cw_MO_isSeen hG (by decide) (by decide)) d_MO_missing_41 (Nat.le_of_ble_eq_true rfl) (by decide) (by decide) (fun H hq hS => ?_)
      refine lv_if_eq (tgt := 51) hx hb d_MO_missing_44 (by decide) (fun c_14 => ?_) (fun c_14 => absurd (by decide) c_14)
      refine lv_iconst (v := 3) hx hb d_MO_missing_51 (by decide) ?_
      refine mo_code hx hb hG hown hK hS hM (v := 3) d_MO_missing_52 (fun H locs X_15 hS hM hF_16 => ?_)
      have hF := hF.tr hF_16
      refine lv_aload_n hx hb d_MO_missing_55 rfl (lv_at hl 0 rfl) ?_
      refine z_get (ci := 3) (C := R_MO) (T := F_MO) (N := 23) hx hb hts j_MO hown hK hS hM.ob rfl 0 (by decide) (hk k_504 rfl) (fun _ h9 => h9) rfl d_MO_missing_56 ?_
      refine lv_if_ne (tgt := 69) hx hb d_MO_missing_59 (by decide) (fun c_17 => ?_) (fun c_17 => absurd c_17 (by decide))
      exact z_Cvret hx hb hr hlk hS (zV1 2 (by unfold cd_missing; rw [if_pos w_2]; simp [w_7]) hF hM) (by decide) (by decide) d_MO_missing_69
  · refine z_pi (v := 0) (n_MO_MO_in hx hown hG (by rw [hb]; exact d_MO_missing_17)) hb (hl.1.trans hml.symm) (c_MO_in l hl9 p0 0 10) (by rw [if_neg w_2]) (z_Gkeeps lo tP) hG hK hS (cw_MO_in hG (by decide) (by decide)) d_MO_missing_17 (Nat.le_of_ble_eq_true rfl) (by decide) (by decide) (fun H hq hS => ?_)
    refine lv_if_ne (tgt := 27) hx hb d_MO_missing_20 (by decide) (fun c_18 => absurd (by decide) c_18) (fun c_18 => ?_)
    refine lv_iconst (v := 2) hx hb d_MO_missing_23 (by decide) ?_
    refine lv_goto (tgt := 28) hx hb d_MO_missing_24 (by decide) ?_
    refine mo_code hx hb hG hown hK hS hM (v := 2) d_MO_missing_28 (fun H locs X_19 hS hM hF_20 => ?_)
    have hF := hF.tr hF_20
    refine lv_aload_n hx hb d_MO_missing_31 rfl (lv_at hl 0 rfl) ?_
    refine z_get (ci := 3) (C := R_MO) (T := F_MO) (N := 23) hx hb hts j_MO hown hK hS hM.ob rfl 0 (by decide) (hk k_504 rfl) (fun _ h9 => h9) rfl d_MO_missing_32 ?_
    refine lv_if_ne (tgt := 55) hx hb d_MO_missing_35 (by decide) (fun c_21 => ?_) (fun c_21 => absurd c_21 (by decide))
    refine lv_aload_n hx hb d_MO_missing_55 rfl (lv_at hl 0 rfl) ?_
    refine z_get (ci := 3) (C := R_MO) (T := F_MO) (N := 23) hx hb hts j_MO hown hK hS hM.ob rfl 0 (by decide) (hk k_504 rfl) (fun _ h9 => h9) rfl d_MO_missing_56 ?_
    refine lv_if_ne (tgt := 69) hx hb d_MO_missing_59 (by decide) (fun c_22 => ?_) (fun c_22 => absurd c_22 (by decide))
    exact z_Cvret hx hb hr hlk hS (zV1 1 (by unfold cd_missing; rw [if_neg w_2]) hF hM) (by decide) (by decide) d_MO_missing_69
set_option maxHeartbeats 4000000 in
set_option maxRecDepth 100000 in
theorem c_MO_refund_no (l : Launch) (hl9 : l.stackTraces = false) {D : va_G} {cS cR cJ cI cZ : ClassId} {lo tP : Nat} (v : Int32) (p0 : Int32) (a9 : Option Value) (A9 : zA) {mo : Nat} {ad : Nat → Nat} {n k : Nat} {td code0 : Int32} {S : Nat → Nat → Int32} {I : Nat → Nat} {F : Nat → Nat → Int32} {X : zM} (hM : MI mo ad cI cZ n k td code0 S I F X) (hv : ¬ z_rg v 1 (nI k)) : z_C (z_G lo tP) D cls4 (zty cS cR cJ cI cZ) lo l y_MO_refund w_MO_refund zrC [.ref mo, .int v, .int p0] X (zV mo ad cI cZ 1 a9 (some (.int 0)) X A9 ⟨n, k, td, S, I, F⟩) := by
  refine z_ofW (by decide) ?_
  intro p e s m args below meth c s₁ B hml hout hv
  obtain ⟨rfl, hG, hK, hW0, hXl, hlo⟩ := hv
  have hx := B.exec
  have hb := B.bytes
  have hr := B.returns
  have hlk := B.notSynchronized
  have hown : s.vm.findClass R_MO = some m.cls := findClass_of_methodNamed B.named
  have hts : ∀ w9 ∈ z_tb, w9.before ([.ref mo, .int v, .int p0] : List Value).toArray s = true := hG.ts _
  have hk : ∀ {w9 : Cond}, w9 ∈ lw_tbl → z_ok w9 = true → w9.before ([.ref mo, .int v, .int p0] : List Value).toArray s = true := fun h1 h2 => hG.w h1 h2 _
  have hg : z_Gr s.heap s.heap := z_Gr.rf
  have hS := z_S.start hW0 hXl hlo
  have hl := lv_entry ([.ref mo, .int v, .int p0]) (n := 3) (Nat.le_of_ble_eq_true rfl)
  rw [lg_entry_eq]
  generalize (lg_sl ([.ref mo, .int v, .int p0]) ++ List.replicate (3 - (lg_sl ([.ref mo, .int v, .int p0])).length) Slot.unset).toArray = ls at hl ⊢
  have hl : lv_has ls 3 [(0, .ref mo), (1, .int v), (2, .int p0)] := hl
  have hIn := hM.idx
  have hn20 := hM.n20
  have hk20 := hM.k20
  have hF : zFr 1 X X := zFr.rf
  refine lv_aload_n hx hb d_MO_refund_0 rfl (lv_at hl 0 rfl) ?_
  refine lv_aload_n hx hb d_MO_refund_1 rfl (lv_at hl 0 rfl) ?_
  refine lv_iload_n hx hb d_MO_refund_2 rfl (lv_at hl 1 rfl) ?_
  refine z_pi (v := 0) (n_MO_MO_isReturn hx hown hG (va_recv hK (hS.1.one hM.ob) (ci := 3) (q0 := 0) rfl rfl) (by rw [hb]; exact d_MO_refund_3)) hb (hl.1.trans hml.symm) (c_MO_isReturn l hl9 v hM) (by rw [if_neg hv]) (z_Gkeeps lo tP) hG hK hS (cw_MO_isReturn hG (by decide) (by decide)) d_MO_refund_3 (Nat.le_of_ble_eq_true rfl) (by decide) (by decide) (fun H hq hS => ?_)
  refine lv_if_ne (tgt := 13) hx hb d_MO_refund_6 (by decide) (fun c_1 => absurd (by decide) c_1) (fun c_1 => ?_)
  refine lv_iconst (v := 1) hx hb d_MO_refund_9 (by decide) ?_
  refine lv_goto (tgt := 28) hx hb d_MO_refund_10 (by decide) ?_
  refine mo_code hx hb hG hown hK hS hM (v := 1) d_MO_refund_28 (fun H locs X_2 hS hM hF_3 => ?_)
  have hF := hF.tr hF_3
  refine lv_aload_n hx hb d_MO_refund_31 rfl (lv_at hl 0 rfl) ?_
  refine z_get (ci := 3) (C := R_MO) (T := F_MO) (N := 23) hx hb hts j_MO hown hK hS hM.ob rfl 0 (by decide) (hk k_504 rfl) (fun _ h9 => h9) rfl d_MO_refund_32 ?_
  refine lv_if_ne (tgt := 63) hx hb d_MO_refund_35 (by decide) (fun c_4 => ?_) (fun c_4 => absurd c_4 (by decide))
  refine lv_aload_n hx hb d_MO_refund_63 rfl (lv_at hl 0 rfl) ?_
  refine z_get (ci := 3) (C := R_MO) (T := F_MO) (N := 23) hx hb hts j_MO hown hK hS hM.ob rfl 0 (by decide) (hk k_504 rfl) (fun _ h9 => h9) rfl d_MO_refund_64 ?_
  refine lv_if_le (tgt := 72) hx hb d_MO_refund_67 (by decide) (fun c_5 => absurd c_5 (by decide)) (fun c_5 => ?_)
  refine lv_iconst (v := 0) hx hb d_MO_refund_70 (by decide) ?_
  exact z_Ciret hx hb hr rfl hlk hS (zV1 0 rfl hF hM) (by decide) (by decide) d_MO_refund_71
set_option maxHeartbeats 4000000 in
set_option maxRecDepth 100000 in
theorem c_MO_refund (l : Launch) (hl9 : l.stackTraces = false) {D : va_G} {cS cR cJ cI cZ : ClassId} {lo tP : Nat} {j : Nat} (p0 : Int32) {mo : Nat} {ad : Nat → Nat} {n k : Nat} {td code0 : Int32} {S : Nat → Nat → Int32} {I : Nat → Nat} {F : Nat → Nat → Int32} {X : zM} (hM : MI mo ad cI cZ n k td code0 S I F X) (hj : j < k) (hgr : F j 8 = -1 ∨ z_rg (F j 8) 0 4) : z_C (z_G lo tP) D cls4 (zty cS cR cJ cI cZ) lo l y_MO_refund w_MO_refund zrC [.ref mo, .int (nI (j + 1)), .int p0] X (zV mo ad cI cZ (cd_refund (S (I j)) (F j) p0) (some (.int (z_due (S (I j)) (F j) - F j 13 - p0))) (some (.int 0)) X ⟨n, k, td, S, I, zfr F j (zfs (F j) 13 (F j 13 + p0))⟩ ⟨n, k, td, S, I, F⟩) := by
  refine z_ofW (by decide) ?_
  intro p e s m args below meth c s₁ B hml hout hv
  obtain ⟨rfl, hG, hK, hW0, hXl, hlo⟩ := hv
  have hx := B.exec
  have hb := B.bytes
  have hr := B.returns
  have hlk := B.notSynchronized
  have hown : s.vm.findClass R_MO = some m.cls := findClass_of_methodNamed B.named
  have hts : ∀ w9 ∈ z_tb, w9.before ([.ref mo, .int (nI (j + 1)), .int p0] : List Value).toArray s = true := hG.ts _
  have hk : ∀ {w9 : Cond}, w9 ∈ lw_tbl → z_ok w9 = true → w9.before ([.ref mo, .int (nI (j + 1)), .int p0] : List Value).toArray s = true := fun h1 h2 => hG.w h1 h2 _
  have hg : z_Gr s.heap s.heap := z_Gr.rf
  have hS := z_S.start hW0 hXl hlo
  have hl := lv_entry ([.ref mo, .int (nI (j + 1)), .int p0]) (n := 3) (Nat.le_of_ble_eq_true rfl)
  rw [lg_entry_eq]
  generalize (lg_sl ([.ref mo, .int (nI (j + 1)), .int p0]) ++ List.replicate (3 - (lg_sl ([.ref mo, .int (nI (j + 1)), .int p0])).length) Slot.unset).toArray = ls at hl ⊢
  have hl : lv_has ls 3 [(0, .ref mo), (1, .int (nI (j + 1))), (2, .int p0)] := hl
  have hIn := hM.idx
  have hn20 := hM.n20
  have hk20 := hM.k20
  have hF : zFr 1 X X := zFr.rf
  refine lv_aload_n hx hb d_MO_refund_0 rfl (lv_at hl 0 rfl) ?_
  refine lv_aload_n hx hb d_MO_refund_1 rfl (lv_at hl 0 rfl) ?_
  refine lv_iload_n hx hb d_MO_refund_2 rfl (lv_at hl 1 rfl) ?_
  refine z_pi (v := 1) (n_MO_MO_isReturn hx hown hG (va_recv hK (hS.1.one hM.ob) (ci := 3) (q0 := 0) rfl rfl) (by rw [hb]; exact d_MO_refund_3)) hb (hl.1.trans hml.symm) (c_MO_isReturn l hl9 (nI (j + 1)) hM) (by rw [if_pos ((z_rg1 (by omega) hk20).mpr hj)]) (z_Gkeeps lo tP) hG hK hS (cw_MO_isReturn hG (by decide) (by decide)) d_MO_refund_3 (Nat.le_of_ble_eq_true rfl) (by decide) (by decide) (fun H hq hS => ?_)
  refine lv_if_ne (tgt := 13) hx hb d_MO_refund_6 (by decide) (fun c_1 => ?_) (fun c_1 => absurd c_1 (by decide))
  refine lv_iload_n hx hb d_MO_refund_13 rfl (lv_at hl 2 rfl) ?_
  refine lv_iconst (v := 1) hx hb d_MO_refund_14 (by decide) ?_
  refine lv_ldc (v := 100000) hx hb hown (hk k_591 rfl) d_MO_refund_15 ?_
  by_cases w_2 : z_rg p0 1 100000
  · refine z_pi (v := 1) (n_MO_MO_in hx hown hG (by rw [hb]; exact d_MO_refund_17)) hb (hl.1.trans hml.symm) (c_MO_in l hl9 p0 1 100000) (by rw [if_pos w_2]) (z_Gkeeps lo tP) hG hK hS (cw_MO_in hG (by decide) (by decide)) d_MO_refund_17 (Nat.le_of_ble_eq_true rfl) (by decide) (by decide) (fun H hq hS => ?_)
    refine lv_if_ne (tgt := 27) hx hb d_MO_refund_20 (by decide) (fun c_3 => ?_) (fun c_3 => absurd c_3 (by decide))
    refine lv_iconst (v := 0) hx hb d_MO_refund_27 (by decide) ?_
    refine mo_code hx hb hG hown hK hS hM (v := 0) d_MO_refund_28 (fun H locs X_4 hS hM hF_5 => ?_)
    have hF := hF.tr hF_5
    refine lv_aload_n hx hb d_MO_refund_31 rfl (lv_at hl 0 rfl) ?_
    refine z_get (ci := 3) (C := R_MO) (T := F_MO) (N := 23) hx hb hts j_MO hown hK hS hM.ob rfl 0 (by decide) (hk k_504 rfl) (fun _ h9 => h9) rfl d_MO_refund_32 ?_
    refine lv_if_ne (tgt := 63) hx hb d_MO_refund_35 (by decide) (fun c_6 => absurd (by decide) c_6) (fun c_6 => ?_)
    refine lv_aload_n hx hb d_MO_refund_38 rfl (lv_at hl 0 rfl) ?_
    refine lv_iload_n hx hb d_MO_refund_39 rfl (lv_at hl 2 rfl) ?_
    refine lv_aload_n hx hb d_MO_refund_40 rfl (lv_at hl 0 rfl) ?_
    refine lv_iload_n hx hb d_MO_refund_41 rfl (lv_at hl 1 rfl) ?_
    refine z_pi (v := z_due (S (I j)) (F j)) (n_MO_MO_dueOf hx hown hG (va_recv hK (hS.1.one hM.ob) (ci := 3) (q0 := 0) rfl rfl) (by rw [hb]; exact d_MO_refund_42)) hb (hl.1.trans hml.symm) (c_MO_dueOf l hl9 hM hj hgr) (rfl) (z_Gkeeps lo tP) hG hK hS (cw_MO_dueOf hG (by decide) (by decide)) d_MO_refund_42 (Nat.le_of_ble_eq_true rfl) (by decide) (by decide) (fun H hq hS => ?_)
    refine lv_aload_n hx hb d_MO_refund_45 rfl (lv_at hl 0 rfl) ?_
    refine z_get (ci := 3) (C := R_MO) (T := F_MO) (N := 23) hx hb hts j_MO hown hK hS hM.ob rfl 21 (by decide) (hk k_525 rfl) (fun _ h9 => h9) rfl d_MO_refund_46 ?_
    refine lv_iload_n hx hb d_MO_refund_49 rfl (lv_at hl 1 rfl) ?_
    refine mo_ld (v := F j 13) hx hb hK hS hM 21 hj (by decide) rfl d_MO_refund_50 ?_
    refine lv_isub hx hb d_MO_refund_51 ?_
    refine lv_icmp_le (tgt := 59) hx hb d_MO_refund_52 (by decide) (fun c_7 => ?_) (fun c_7 => ?_)
    · refine lv_iconst (v := 0) hx hb d_MO_refund_59 (by decide) ?_
      refine mo_code hx hb hG hown hK hS hM (v := 0) d_MO_refund_60 (fun H locs X_8 hS hM hF_9 => ?_)
      have hF := hF.tr hF_9
      refine lv_aload_n hx hb d_MO_refund_63 rfl (lv_at hl 0 rfl) ?_
      refine z_get (ci := 3) (C := R_MO) (T := F_MO) (N := 23) hx hb hts j_MO hown hK hS hM.ob rfl 0 (by decide) (hk k_504 rfl) (fun _ h9 => h9) rfl d_MO_refund_64 ?_
      refine lv_if_le (tgt := 72) hx hb d_MO_refund_67 (by decide) (fun c_10 => ?_) (fun c_10 => absurd (by decide) c_10)
      refine lv_aload_n hx hb d_MO_refund_72 rfl (lv_at hl 0 rfl) ?_
      refine z_get (ci := 3) (C := R_MO) (T := F_MO) (N := 23) hx hb hts j_MO hown hK hS hM.ob rfl 21 (by decide) (hk k_525 rfl) (fun _ h9 => h9) rfl d_MO_refund_73 ?_
      refine lv_iload_n hx hb d_MO_refund_76 rfl (lv_at hl 1 rfl) ?_
      refine lv_dup2_11 hx hb d_MO_refund_77 rfl rfl ?_
      refine mo_ld (v := F j 13) hx hb hK hS hM 21 hj (by decide) rfl d_MO_refund_78 ?_
      refine lv_iload_n hx hb d_MO_refund_79 rfl (lv_at hl 2 rfl) ?_
      refine lv_iadd hx hb d_MO_refund_80 ?_
      rw [← zfr_id F j] at hM
      refine mo_st hx hb hK hS hM 21 hj (by decide) (t := 13) rfl d_MO_refund_81 (fun H locs X_11 hS hM hF_12 => ?_)
      have hF := hF.tr hF_12
      refine lv_aload_n hx hb d_MO_refund_82 rfl (lv_at hl 0 rfl) ?_
      refine lv_iload_n hx hb d_MO_refund_83 rfl (lv_at hl 1 rfl) ?_
      refine z_pi (v := z_due (S (I j)) (zfs (F j) 13 ((F j 13) + p0))) (n_MO_MO_dueOf hx hown hG (va_recv hK (hS.1.one hM.ob) (ci := 3) (q0 := 0) rfl rfl) (by rw [hb]; exact d_MO_refund_84)) hb (hl.1.trans hml.symm) (c_MO_dueOf l hl9 hM hj (by rw [zfr_at]; exact hgr)) (by rw [zfr_at]) (z_Gkeeps lo tP) hG hK hS (cw_MO_dueOf hG (by decide) (by decide)) d_MO_refund_84 (Nat.le_of_ble_eq_true rfl) (by decide) (by decide) (fun H hq hS => ?_)
      refine lv_aload_n hx hb d_MO_refund_87 rfl (lv_at hl 0 rfl) ?_
      refine z_get (ci := 3) (C := R_MO) (T := F_MO) (N := 23) hx hb hts j_MO hown hK hS hM.ob rfl 21 (by decide) (hk k_525 rfl) (fun _ h9 => h9) rfl d_MO_refund_88 ?_
      refine lv_iload_n hx hb d_MO_refund_91 rfl (lv_at hl 1 rfl) ?_
      refine mo_ld (v := (F j 13) + p0) hx hb hK hS hM 21 hj (by decide) (by rw [zfr_at]; rfl) d_MO_refund_92 ?_
      refine lv_isub hx hb d_MO_refund_93 ?_
      exact z_Ciret hx hb hr rfl hlk hS (by rw [← z_ssub]; exact zV0 (by unfold cd_refund; rw [if_pos w_2]; simp [c_7, (Int32.not_lt.mpr c_7)]) hF hM) (by decide) (by decide) d_MO_refund_94
    · refine lv_iconst (v := 3) hx hb d_MO_refund_55 (by decide) ?_
      refine lv_goto (tgt := 60) hx hb d_MO_refund_56 (by decide) ?_
      refine mo_code hx hb hG hown hK hS hM (v := 3) d_MO_refund_60 (fun H locs X_13 hS hM hF_14 => ?_)
      have hF := hF.tr hF_14
      refine lv_aload_n hx hb d_MO_refund_63 rfl (lv_at hl 0 rfl) ?_
      refine z_get (ci := 3) (C := R_MO) (T := F_MO) (N := 23) hx hb hts j_MO hown hK hS hM.ob rfl 0 (by decide) (hk k_504 rfl) (fun _ h9 => h9) rfl d_MO_refund_64 ?_
      refine lv_if_le (tgt := 72) hx hb d_MO_refund_67 (by decide) (fun c_15 => absurd c_15 (by decide)) (fun c_15 => ?_)
      refine lv_iconst (v := 0) hx hb d_MO_refund_70 (by decide) ?_
      exact z_Ciret hx hb hr rfl hlk hS (zV1 2 (by unfold cd_refund; rw [if_pos w_2]; simp [c_7, (Int32.not_le.mp c_7)]) hF hM) (by decide) (by decide) d_MO_refund_71
  · refine z_pi (v := 0) (n_MO_MO_in hx hown hG (by rw [hb]; exact d_MO_refund_17)) hb (hl.1.trans hml.symm) (c_MO_in l hl9 p0 1 100000) (by rw [if_neg w_2]) (z_Gkeeps lo tP) hG hK hS (cw_MO_in hG (by decide) (by decide)) d_MO_refund_17 (Nat.le_of_ble_eq_true rfl) (by decide) (by decide) (fun H hq hS => ?_)
    refine lv_if_ne (tgt := 27) hx hb d_MO_refund_20 (by decide) (fun c_16 => absurd (by decide) c_16) (fun c_16 => ?_)
    refine lv_iconst (v := 2) hx hb d_MO_refund_23 (by decide) ?_
    refine lv_goto (tgt := 28) hx hb d_MO_refund_24 (by decide) ?_
    refine mo_code hx hb hG hown hK hS hM (v := 2) d_MO_refund_28 (fun H locs X_17 hS hM hF_18 => ?_)
    have hF := hF.tr hF_18
    refine lv_aload_n hx hb d_MO_refund_31 rfl (lv_at hl 0 rfl) ?_
    refine z_get (ci := 3) (C := R_MO) (T := F_MO) (N := 23) hx hb hts j_MO hown hK hS hM.ob rfl 0 (by decide) (hk k_504 rfl) (fun _ h9 => h9) rfl d_MO_refund_32 ?_
    refine lv_if_ne (tgt := 63) hx hb d_MO_refund_35 (by decide) (fun c_19 => ?_) (fun c_19 => absurd c_19 (by decide))
    refine lv_aload_n hx hb d_MO_refund_63 rfl (lv_at hl 0 rfl) ?_
    refine z_get (ci := 3) (C := R_MO) (T := F_MO) (N := 23) hx hb hts j_MO hown hK hS hM.ob rfl 0 (by decide) (hk k_504 rfl) (fun _ h9 => h9) rfl d_MO_refund_64 ?_
    refine lv_if_le (tgt := 72) hx hb d_MO_refund_67 (by decide) (fun c_20 => absurd c_20 (by decide)) (fun c_20 => ?_)
    refine lv_iconst (v := 0) hx hb d_MO_refund_70 (by decide) ?_
    exact z_Ciret hx hb hr rfl hlk hS (zV1 1 (by unfold cd_refund; rw [if_neg w_2]) hF hM) (by decide) (by decide) d_MO_refund_71
