/-! ===== the reference: serial, and what is only asked ===== -/
set_option maxHeartbeats 4000000 in
set_option maxRecDepth 100000 in
theorem c_MO_serial_no (l : Launch) (hl9 : l.stackTraces = false) {D : va_G} {cS cR cJ cI cZ : ClassId} {lo tP : Nat} (v p0 : Int32) (a9 : Option Value) (A9 : zA) {mo : Nat} {ad : Nat → Nat} {n k : Nat} {td code0 : Int32} {S : Nat → Nat → Int32} {I : Nat → Nat} {F : Nat → Nat → Int32} {X : zM} (hM : MI mo ad cI cZ n k td code0 S I F X) (hv : ¬ z_rg v 1 (nI k)) : z_C (z_G lo tP) D cls4 (zty cS cR cJ cI cZ) lo l y_MO_serial w_MO_serial zrC [.ref mo, .int v, .int p0] X (zV mo ad cI cZ 1 a9 (some (.int 0)) X A9 ⟨n, k, td, S, I, F⟩) := by
  refine z_ofW (by decide) ?_
  intro p e s m args below meth c s₁ B hml hout hv
  obtain ⟨rfl, hG, hK, hW0, hXl, hlo⟩ := hv
  have hx := B.exec
  have hb := B.bytes
  have hr := B.returns
  have hlk := B.notSynchronized
  have hown : s.vm.findClass R_MO = some m.cls := findClass_of_methodNamed B.named
  have hts : ∀ w9 ∈ z_tb, w9.before ([.ref mo, .int v, .int p0] : List Value).toArray s = true := hG.ts _
  have hk : ∀ {w9 : Cond}, w9 ∈ lw_tbl → z_ok w9 = true → w9.before ([.ref mo, .int v, .int p0] : List Value).toArray s = true := fun h1 h2 => hG.w h1 h2 _
  have hg : z_Gr s.heap s.heap := z_Gr.rf
  have hS := z_S.start hW0 hXl hlo
  have hl := lv_entry ([.ref mo, .int v, .int p0]) (n := 3) (Nat.le_of_ble_eq_true rfl)
  rw [lg_entry_eq]
  generalize (lg_sl ([.ref mo, .int v, .int p0]) ++ List.replicate (3 - (lg_sl ([.ref mo, .int v, .int p0])).length) Slot.unset).toArray = ls at hl ⊢
  have hl : lv_has ls 3 [(0, .ref mo), (1, .int v), (2, .int p0)] := hl
  have hIn := hM.idx
  have hn20 := hM.n20
  have hk20 := hM.k20
  have hF : zFr 1 X X := zFr.rf
  refine lv_aload_n hx hb d_MO_serial_0 rfl (lv_at hl 0 rfl) ?_
  refine lv_aload_n hx hb d_MO_serial_1 rfl (lv_at hl 0 rfl) ?_
  refine lv_iload_n hx hb d_MO_serial_2 rfl (lv_at hl 1 rfl) ?_
  refine z_pi (v := 0) (n_MO_MO_isReturn hx hown hG (va_recv hK (hS.1.one hM.ob) (ci := 3) (q0 := 0) rfl rfl) (by rw [hb]; exact d_MO_serial_3)) hb (hl.1.trans hml.symm) (c_MO_isReturn l hl9 v hM) (by rw [if_neg hv]) (z_Gkeeps lo tP) hG hK hS (cw_MO_isReturn hG (by decide) (by decide)) d_MO_serial_3 (Nat.le_of_ble_eq_true rfl) (by decide) (by decide) (fun H hq hS => ?_)
  refine lv_if_eq (tgt := 17) hx hb d_MO_serial_6 (by decide) (fun c_1 => ?_) (fun c_1 => absurd (by decide) c_1)
  refine lv_iconst (v := 1) hx hb d_MO_serial_17 (by decide) ?_
  refine lv_goto (tgt := 22) hx hb d_MO_serial_18 (by decide) ?_
  refine mo_code hx hb hG hown hK hS hM (v := 1) d_MO_serial_22 (fun H locs X_2 hS hM hF_3 => ?_)
  have hF := hF.tr hF_3
  refine lv_aload_n hx hb d_MO_serial_25 rfl (lv_at hl 0 rfl) ?_
  refine z_get (ci := 3) (C := R_MO) (T := F_MO) (N := 23) hx hb hts j_MO hown hK hS hM.ob rfl 0 (by decide) (hk k_504 rfl) (fun _ h9 => h9) rfl d_MO_serial_26 ?_
  refine lv_if_ne (tgt := 51) hx hb d_MO_serial_29 (by decide) (fun c_4 => ?_) (fun c_4 => absurd c_4 (by decide))
  refine lv_aload_n hx hb d_MO_serial_51 rfl (lv_at hl 0 rfl) ?_
  refine z_get (ci := 3) (C := R_MO) (T := F_MO) (N := 23) hx hb hts j_MO hown hK hS hM.ob rfl 0 (by decide) (hk k_504 rfl) (fun _ h9 => h9) rfl d_MO_serial_52 ?_
  refine lv_if_le (tgt := 60) hx hb d_MO_serial_55 (by decide) (fun c_5 => absurd c_5 (by decide)) (fun c_5 => ?_)
  refine lv_iconst (v := 0) hx hb d_MO_serial_58 (by decide) ?_
  exact z_Ciret hx hb hr rfl hlk hS (zV1 0 rfl hF hM) (by decide) (by decide) d_MO_serial_59
set_option maxHeartbeats 4000000 in
set_option maxRecDepth 100000 in
theorem c_MO_serial_no2 (l : Launch) (hl9 : l.stackTraces = false) {D : va_G} {cS cR cJ cI cZ : ClassId} {lo tP : Nat} {j : Nat} (p0 : Int32) (a9 : Option Value) (A9 : zA) {mo : Nat} {ad : Nat → Nat} {n k : Nat} {td code0 : Int32} {S : Nat → Nat → Int32} {I : Nat → Nat} {F : Nat → Nat → Int32} {X : zM} (hM : MI mo ad cI cZ n k td code0 S I F X) (hj : j < k) (hs : ¬ z_rs p0 n) : z_C (z_G lo tP) D cls4 (zty cS cR cJ cI cZ) lo l y_MO_serial w_MO_serial zrC [.ref mo, .int (nI (j + 1)), .int p0] X (zV mo ad cI cZ 1 a9 (some (.int 0)) X A9 ⟨n, k, td, S, I, F⟩) := by
  refine z_ofW (by decide) ?_
  intro p e s m args below meth c s₁ B hml hout hv
  obtain ⟨rfl, hG, hK, hW0, hXl, hlo⟩ := hv
  have hx := B.exec
  have hb := B.bytes
  have hr := B.returns
  have hlk := B.notSynchronized
  have hown : s.vm.findClass R_MO = some m.cls := findClass_of_methodNamed B.named
  have hts : ∀ w9 ∈ z_tb, w9.before ([.ref mo, .int (nI (j + 1)), .int p0] : List Value).toArray s = true := hG.ts _
  have hk : ∀ {w9 : Cond}, w9 ∈ lw_tbl → z_ok w9 = true → w9.before ([.ref mo, .int (nI (j + 1)), .int p0] : List Value).toArray s = true := fun h1 h2 => hG.w h1 h2 _
  have hg : z_Gr s.heap s.heap := z_Gr.rf
  have hS := z_S.start hW0 hXl hlo
  have hl := lv_entry ([.ref mo, .int (nI (j + 1)), .int p0]) (n := 3) (Nat.le_of_ble_eq_true rfl)
  rw [lg_entry_eq]
  generalize (lg_sl ([.ref mo, .int (nI (j + 1)), .int p0]) ++ List.replicate (3 - (lg_sl ([.ref mo, .int (nI (j + 1)), .int p0])).length) Slot.unset).toArray = ls at hl ⊢
  have hl : lv_has ls 3 [(0, .ref mo), (1, .int (nI (j + 1))), (2, .int p0)] := hl
  have hIn := hM.idx
  have hn20 := hM.n20
  have hk20 := hM.k20
  have hF : zFr 1 X X := zFr.rf
  refine lv_aload_n hx hb d_MO_serial_0 rfl (lv_at hl 0 rfl) ?_
  refine lv_aload_n hx hb d_MO_serial_1 rfl (lv_at hl 0 rfl) ?_
  refine lv_iload_n hx hb d_MO_serial_2 rfl (lv_at hl 1 rfl) ?_
  refine z_pi (v := 1) (n_MO_MO_isReturn hx hown hG (va_recv hK (hS.1.one hM.ob) (ci := 3) (q0 := 0) rfl rfl) (by rw [hb]; exact d_MO_serial_3)) hb (hl.1.trans hml.symm) (c_MO_isReturn l hl9 (nI (j + 1)) hM) (by rw [if_pos ((z_rg1 (by omega) hk20).mpr hj)]) (z_Gkeeps lo tP) hG hK hS (cw_MO_isReturn hG (by decide) (by decide)) d_MO_serial_3 (Nat.le_of_ble_eq_true rfl) (by decide) (by decide) (fun H hq hS => ?_)
  refine lv_if_eq (tgt := 17) hx hb d_MO_serial_6 (by decide) (fun c_1 => absurd c_1 (by decide)) (fun c_1 => ?_)
  refine lv_aload_n hx hb d_MO_serial_9 rfl (lv_at hl 0 rfl) ?_
  refine lv_iload_n hx hb d_MO_serial_10 rfl (lv_at hl 2 rfl) ?_
  refine z_pi (v := 0) (n_MO_MO_isSale hx hown hG (va_recv hK (hS.1.one hM.ob) (ci := 3) (q0 := 0) rfl rfl) (by rw [hb]; exact d_MO_serial_11)) hb (hl.1.trans hml.symm) (c_MO_isSale l hl9 p0 hM) (by rw [if_neg hs]) (z_Gkeeps lo tP) hG hK hS (cw_MO_isSale hG (by decide) (by decide)) d_MO_serial_11 (Nat.le_of_ble_eq_true rfl) (by decide) (by decide) (fun H hq hS => ?_)
  refine lv_if_ne (tgt := 21) hx hb d_MO_serial_14 (by decide) (fun c_2 => absurd (by decide) c_2) (fun c_2 => ?_)
  refine lv_iconst (v := 1) hx hb d_MO_serial_17 (by decide) ?_
  refine lv_goto (tgt := 22) hx hb d_MO_serial_18 (by decide) ?_
  refine mo_code hx hb hG hown hK hS hM (v := 1) d_MO_serial_22 (fun H locs X_3 hS hM hF_4 => ?_)
  have hF := hF.tr hF_4
  refine lv_aload_n hx hb d_MO_serial_25 rfl (lv_at hl 0 rfl) ?_
  refine z_get (ci := 3) (C := R_MO) (T := F_MO) (N := 23) hx hb hts j_MO hown hK hS hM.ob rfl 0 (by decide) (hk k_504 rfl) (fun _ h9 => h9) rfl d_MO_serial_26 ?_
  refine lv_if_ne (tgt := 51) hx hb d_MO_serial_29 (by decide) (fun c_5 => ?_) (fun c_5 => absurd c_5 (by decide))
  refine lv_aload_n hx hb d_MO_serial_51 rfl (lv_at hl 0 rfl) ?_
  refine z_get (ci := 3) (C := R_MO) (T := F_MO) (N := 23) hx hb hts j_MO hown hK hS hM.ob rfl 0 (by decide) (hk k_504 rfl) (fun _ h9 => h9) rfl d_MO_serial_52 ?_
  refine lv_if_le (tgt := 60) hx hb d_MO_serial_55 (by decide) (fun c_6 => absurd c_6 (by decide)) (fun c_6 => ?_)
  refine lv_iconst (v := 0) hx hb d_MO_serial_58 (by decide) ?_
  exact z_Ciret hx hb hr rfl hlk hS (zV1 0 rfl hF hM) (by decide) (by decide) d_MO_serial_59
set_option maxHeartbeats 4000000 in
set_option maxRecDepth 100000 in
theorem c_MO_serial (l : Launch) (hl9 : l.stackTraces = false) {D : va_G} {cS cR cJ cI cZ : ClassId} {lo tP : Nat} {i j : Nat} {mo : Nat} {ad : Nat → Nat} {n k : Nat} {td code0 : Int32} {S : Nat → Nat → Int32} {I : Nat → Nat} {F : Nat → Nat → Int32} {X : zM} (hM : MI mo ad cI cZ n k td code0 S I F X) (hj : j < k) (hi : i < n) : z_C (z_G lo tP) D cls4 (zty cS cR cJ cI cZ) lo l y_MO_serial w_MO_serial zrC [.ref mo, .int (nI (j + 1)), .int (nI i)] X (zV mo ad cI cZ (cd_serial (F j)) (some (.int (an_serial (nI i) (nI (I j))))) (some (.int 0)) X ⟨n, k, td, S, I, zfr F j (zfs (F j) 6 (if nI i = nI (I j) then 0 else 1))⟩ ⟨n, k, td, S, I, F⟩) := by
  refine z_ofW (by decide) ?_
  intro p e s m args below meth c s₁ B hml hout hv
  obtain ⟨rfl, hG, hK, hW0, hXl, hlo⟩ := hv
  have hx := B.exec
  have hb := B.bytes
  have hr := B.returns
  have hlk := B.notSynchronized
  have hown : s.vm.findClass R_MO = some m.cls := findClass_of_methodNamed B.named
  have hts : ∀ w9 ∈ z_tb, w9.before ([.ref mo, .int (nI (j + 1)), .int (nI i)] : List Value).toArray s = true := hG.ts _
  have hk : ∀ {w9 : Cond}, w9 ∈ lw_tbl → z_ok w9 = true → w9.before ([.ref mo, .int (nI (j + 1)), .int (nI i)] : List Value).toArray s = true := fun h1 h2 => hG.w h1 h2 _
  have hg : z_Gr s.heap s.heap := z_Gr.rf
  have hS := z_S.start hW0 hXl hlo
  have hl := lv_entry ([.ref mo, .int (nI (j + 1)), .int (nI i)]) (n := 3) (Nat.le_of_ble_eq_true rfl)
  rw [lg_entry_eq]
  generalize (lg_sl ([.ref mo, .int (nI (j + 1)), .int (nI i)]) ++ List.replicate (3 - (lg_sl ([.ref mo, .int (nI (j + 1)), .int (nI i)])).length) Slot.unset).toArray = ls at hl ⊢
  have hl : lv_has ls 3 [(0, .ref mo), (1, .int (nI (j + 1))), (2, .int (nI i))] := hl
  have hIn := hM.idx
  have hn20 := hM.n20
  have hk20 := hM.k20
  have hF : zFr 1 X X := zFr.rf
  refine lv_aload_n hx hb d_MO_serial_0 rfl (lv_at hl 0 rfl) ?_
  refine lv_aload_n hx hb d_MO_serial_1 rfl (lv_at hl 0 rfl) ?_
  refine lv_iload_n hx hb d_MO_serial_2 rfl (lv_at hl 1 rfl) ?_
  refine z_pi (v := 1) (n_MO_MO_isReturn hx hown hG (va_recv hK (hS.1.one hM.ob) (ci := 3) (q0 := 0) rfl rfl) (by rw [hb]; exact d_MO_serial_3)) hb (hl.1.trans hml.symm) (c_MO_isReturn l hl9 (nI (j + 1)) hM) (by rw [if_pos ((z_rg1 (by omega) hk20).mpr hj)]) (z_Gkeeps lo tP) hG hK hS (cw_MO_isReturn hG (by decide) (by decide)) d_MO_serial_3 (Nat.le_of_ble_eq_true rfl) (by decide) (by decide) (fun H hq hS => ?_)
  refine lv_if_eq (tgt := 17) hx hb d_MO_serial_6 (by decide) (fun c_1 => absurd c_1 (by decide)) (fun c_1 => ?_)
  refine lv_aload_n hx hb d_MO_serial_9 rfl (lv_at hl 0 rfl) ?_
  refine lv_iload_n hx hb d_MO_serial_10 rfl (lv_at hl 2 rfl) ?_
  refine z_pi (v := 1) (n_MO_MO_isSale hx hown hG (va_recv hK (hS.1.one hM.ob) (ci := 3) (q0 := 0) rfl rfl) (by rw [hb]; exact d_MO_serial_11)) hb (hl.1.trans hml.symm) (c_MO_isSale l hl9 (nI i) hM) (by rw [if_pos ((z_rs1 (by omega) hn20).mpr hi)]) (z_Gkeeps lo tP) hG hK hS (cw_MO_isSale hG (by decide) (by decide)) d_MO_serial_11 (Nat.le_of_ble_eq_true rfl) (by decide) (by decide) (fun H hq hS => ?_)
  refine lv_if_ne (tgt := 21) hx hb d_MO_serial_14 (by decide) (fun c_2 => ?_) (fun c_2 => absurd c_2 (by decide))
  refine lv_iconst (v := 0) hx hb d_MO_serial_21 (by decide) ?_
  refine mo_code hx hb hG hown hK hS hM (v := 0) d_MO_serial_22 (fun H locs X_3 hS hM hF_4 => ?_)
  have hF := hF.tr hF_4
  refine lv_aload_n hx hb d_MO_serial_25 rfl (lv_at hl 0 rfl) ?_
  refine z_get (ci := 3) (C := R_MO) (T := F_MO) (N := 23) hx hb hts j_MO hown hK hS hM.ob rfl 0 (by decide) (hk k_504 rfl) (fun _ h9 => h9) rfl d_MO_serial_26 ?_
  refine lv_if_ne (tgt := 51) hx hb d_MO_serial_29 (by decide) (fun c_5 => absurd (by decide) c_5) (fun c_5 => ?_)
  refine lv_aload_n hx hb d_MO_serial_32 rfl (lv_at hl 0 rfl) ?_
  refine lv_aload_n hx hb d_MO_serial_33 rfl (lv_at hl 0 rfl) ?_
  refine z_get (ci := 3) (C := R_MO) (T := F_MO) (N := 23) hx hb hts j_MO hown hK hS hM.ob rfl 10 (by decide) (hk k_514 rfl) (fun _ h9 => h9) rfl d_MO_serial_34 ?_
  refine lv_iload_n hx hb d_MO_serial_37 rfl (lv_at hl 1 rfl) ?_
  refine mo_ld (v := F j 3) hx hb hK hS hM 10 hj (by decide) rfl d_MO_serial_38 ?_
  refine lv_iconst (v := 2) hx hb d_MO_serial_39 (by decide) ?_
  refine lv_icmp_eq (tgt := 47) hx hb d_MO_serial_40 (by decide) (fun c_6 => ?_) (fun c_6 => ?_)
  · refine lv_iconst (v := 0) hx hb d_MO_serial_47 (by decide) ?_
    refine mo_code hx hb hG hown hK hS hM (v := 0) d_MO_serial_48 (fun H locs X_7 hS hM hF_8 => ?_)
    have hF := hF.tr hF_8
    refine lv_aload_n hx hb d_MO_serial_51 rfl (lv_at hl 0 rfl) ?_
    refine z_get (ci := 3) (C := R_MO) (T := F_MO) (N := 23) hx hb hts j_MO hown hK hS hM.ob rfl 0 (by decide) (hk k_504 rfl) (fun _ h9 => h9) rfl d_MO_serial_52 ?_
    refine lv_if_le (tgt := 60) hx hb d_MO_serial_55 (by decide) (fun c_9 => ?_) (fun c_9 => absurd (by decide) c_9)
    refine lv_aload_n hx hb d_MO_serial_60 rfl (lv_at hl 0 rfl) ?_
    refine z_get (ci := 3) (C := R_MO) (T := F_MO) (N := 23) hx hb hts j_MO hown hK hS hM.ob rfl 14 (by decide) (hk k_518 rfl) (fun _ h9 => h9) rfl d_MO_serial_61 ?_
    refine lv_iload_n hx hb d_MO_serial_64 rfl (lv_at hl 1 rfl) ?_
    refine lv_aload_n hx hb d_MO_serial_65 rfl (lv_at hl 0 rfl) ?_
    refine z_get (ci := 3) (C := R_MO) (T := F_MO) (N := 23) hx hb hts j_MO hown hK hS hM.ob rfl 8 (by decide) (hk k_512 rfl) (fun _ h9 => h9) rfl d_MO_serial_66 ?_
    refine lv_iload_n hx hb d_MO_serial_69 rfl (lv_at hl 1 rfl) ?_
    refine mo_ldI hx hb hK hS hM hj d_MO_serial_70 ?_
    refine lv_iload_n hx hb d_MO_serial_71 rfl (lv_at hl 2 rfl) ?_
    refine lv_icmp_eq (tgt := 79) hx hb d_MO_serial_72 (by decide) (fun c_10 => ?_) (fun c_10 => ?_)
    · refine lv_iconst (v := 0) hx hb d_MO_serial_79 (by decide) ?_
      rw [← zfr_id F j] at hM
      refine mo_stb hx hb hK hS hM 14 hj (by decide) (by decide) (t := 6) rfl d_MO_serial_80 (fun H locs X_11 hS hM hF_12 => ?_)
      have hF := hF.tr hF_12
      refine lv_aload_n hx hb d_MO_serial_81 rfl (lv_at hl 0 rfl) ?_
      refine z_get (ci := 3) (C := R_MO) (T := F_MO) (N := 23) hx hb hts j_MO hown hK hS hM.ob rfl 14 (by decide) (hk k_518 rfl) (fun _ h9 => h9) rfl d_MO_serial_82 ?_
      refine lv_iload_n hx hb d_MO_serial_85 rfl (lv_at hl 1 rfl) ?_
      refine mo_ldb (v := 0) hx hb hK hS hM 14 hj (by decide) (by rw [zfr_at]; rfl) d_MO_serial_86 ?_
      refine lv_if_eq (tgt := 96) hx hb d_MO_serial_87 (by decide) (fun c_13 => ?_) (fun c_13 => absurd (by decide) c_13)
      refine lv_iconst (v := 1) hx hb d_MO_serial_96 (by decide) ?_
      exact z_Ciret hx hb hr rfl hlk hS (by simp only [an_serial, if_pos (show nI i = nI (I j) from c_10.symm)]; exact zV0 (by unfold cd_serial; simp [c_6, c_10]) hF hM) (by decide) (by decide) d_MO_serial_97
    · refine lv_iconst (v := 1) hx hb d_MO_serial_75 (by decide) ?_
      refine lv_goto (tgt := 80) hx hb d_MO_serial_76 (by decide) ?_
      rw [← zfr_id F j] at hM
      refine mo_stb hx hb hK hS hM 14 hj (by decide) (by decide) (t := 6) rfl d_MO_serial_80 (fun H locs X_14 hS hM hF_15 => ?_)
      have hF := hF.tr hF_15
      refine lv_aload_n hx hb d_MO_serial_81 rfl (lv_at hl 0 rfl) ?_
      refine z_get (ci := 3) (C := R_MO) (T := F_MO) (N := 23) hx hb hts j_MO hown hK hS hM.ob rfl 14 (by decide) (hk k_518 rfl) (fun _ h9 => h9) rfl d_MO_serial_82 ?_
      refine lv_iload_n hx hb d_MO_serial_85 rfl (lv_at hl 1 rfl) ?_
      refine mo_ldb (v := 1) hx hb hK hS hM 14 hj (by decide) (by rw [zfr_at]; rfl) d_MO_serial_86 ?_
      refine lv_if_eq (tgt := 96) hx hb d_MO_serial_87 (by decide) (fun c_16 => absurd c_16 (by decide)) (fun c_16 => ?_)
      refine lv_iconst (v := (-1)) hx hb d_MO_serial_90 (by decide) ?_
      refine lv_iload_n hx hb d_MO_serial_91 rfl (lv_at hl 2 rfl) ?_
      refine lv_isub hx hb d_MO_serial_92 ?_
      refine lv_goto (tgt := 97) hx hb d_MO_serial_93 (by decide) ?_
      exact z_Ciret hx hb hr rfl hlk hS (by simp only [an_serial, if_neg (show ¬ nI i = nI (I j) from fun h => c_10 h.symm)]; exact zV0 (by unfold cd_serial; simp [c_6, c_10]) hF hM) (by decide) (by decide) d_MO_serial_97
  · refine lv_iconst (v := 2) hx hb d_MO_serial_43 (by decide) ?_
    refine lv_goto (tgt := 48) hx hb d_MO_serial_44 (by decide) ?_
    refine mo_code hx hb hG hown hK hS hM (v := 2) d_MO_serial_48 (fun H locs X_17 hS hM hF_18 => ?_)
    have hF := hF.tr hF_18
    refine lv_aload_n hx hb d_MO_serial_51 rfl (lv_at hl 0 rfl) ?_
    refine z_get (ci := 3) (C := R_MO) (T := F_MO) (N := 23) hx hb hts j_MO hown hK hS hM.ob rfl 0 (by decide) (hk k_504 rfl) (fun _ h9 => h9) rfl d_MO_serial_52 ?_
    refine lv_if_le (tgt := 60) hx hb d_MO_serial_55 (by decide) (fun c_19 => absurd c_19 (by decide)) (fun c_19 => ?_)
    refine lv_iconst (v := 0) hx hb d_MO_serial_58 (by decide) ?_
    exact z_Ciret hx hb hr rfl hlk hS (zV1 1 (by unfold cd_serial; simp [c_6]) hF hM) (by decide) (by decide) d_MO_serial_59
set_option maxHeartbeats 4000000 in
set_option maxRecDepth 100000 in
theorem c_MO_due_no (l : Launch) (hl9 : l.stackTraces = false) {D : va_G} {cS cR cJ cI cZ : ClassId} {lo tP : Nat} (v : Int32)  (a9 : Option Value) (A9 : zA) {mo : Nat} {ad : Nat → Nat} {n k : Nat} {td code0 : Int32} {S : Nat → Nat → Int32} {I : Nat → Nat} {F : Nat → Nat → Int32} {X : zM} (hM : MI mo ad cI cZ n k td code0 S I F X) (hv : ¬ z_rg v 1 (nI k)) : z_C (z_G lo tP) D cls4 (zty cS cR cJ cI cZ) lo l y_MO_due w_MO_due zrC [.ref mo, .int v] X (zV mo ad cI cZ 1 a9 (some (.int 0)) X A9 ⟨n, k, td, S, I, F⟩) := by
  refine z_ofW (by decide) ?_
  intro p e s m args below meth c s₁ B hml hout hv
  obtain ⟨rfl, hG, hK, hW0, hXl, hlo⟩ := hv
  have hx := B.exec
  have hb := B.bytes
  have hr := B.returns
  have hlk := B.notSynchronized
  have hown : s.vm.findClass R_MO = some m.cls := findClass_of_methodNamed B.named
  have hts : ∀ w9 ∈ z_tb, w9.before ([.ref mo, .int v] : List Value).toArray s = true := hG.ts _
  have hk : ∀ {w9 : Cond}, w9 ∈ lw_tbl → z_ok w9 = true → w9.before ([.ref mo, .int v] : List Value).toArray s = true := fun h1 h2 => hG.w h1 h2 _
  have hg : z_Gr s.heap s.heap := z_Gr.rf
  have hS := z_S.start hW0 hXl hlo
  have hl := lv_entry ([.ref mo, .int v]) (n := 2) (Nat.le_of_ble_eq_true rfl)
  rw [lg_entry_eq]
  generalize (lg_sl ([.ref mo, .int v]) ++ List.replicate (2 - (lg_sl ([.ref mo, .int v])).length) Slot.unset).toArray = ls at hl ⊢
  have hl : lv_has ls 2 [(0, .ref mo), (1, .int v)] := hl
  have hIn := hM.idx
  have hn20 := hM.n20
  have hk20 := hM.k20
  have hF : zFr 1 X X := zFr.rf
  refine lv_aload_n hx hb d_MO_due_0 rfl (lv_at hl 0 rfl) ?_
  refine lv_aload_n hx hb d_MO_due_1 rfl (lv_at hl 0 rfl) ?_
  refine lv_iload_n hx hb d_MO_due_2 rfl (lv_at hl 1 rfl) ?_
  refine z_pi (v := 0) (n_MO_MO_isReturn hx hown hG (va_recv hK (hS.1.one hM.ob) (ci := 3) (q0 := 0) rfl rfl) (by rw [hb]; exact d_MO_due_3)) hb (hl.1.trans hml.symm) (c_MO_isReturn l hl9 v hM) (by rw [if_neg hv]) (z_Gkeeps lo tP) hG hK hS (cw_MO_isReturn hG (by decide) (by decide)) d_MO_due_3 (Nat.le_of_ble_eq_true rfl) (by decide) (by decide) (fun H hq hS => ?_)
  refine lv_if_eq (tgt := 13) hx hb d_MO_due_6 (by decide) (fun c_1 => ?_) (fun c_1 => absurd (by decide) c_1)
  refine lv_iconst (v := 1) hx hb d_MO_due_13 (by decide) ?_
  refine mo_code hx hb hG hown hK hS hM (v := 1) d_MO_due_14 (fun H locs X_2 hS hM hF_3 => ?_)
  have hF := hF.tr hF_3
  refine lv_aload_n hx hb d_MO_due_17 rfl (lv_at hl 0 rfl) ?_
  refine z_get (ci := 3) (C := R_MO) (T := F_MO) (N := 23) hx hb hts j_MO hown hK hS hM.ob rfl 0 (by decide) (hk k_504 rfl) (fun _ h9 => h9) rfl d_MO_due_18 ?_
  refine lv_if_le (tgt := 28) hx hb d_MO_due_21 (by decide) (fun c_4 => absurd c_4 (by decide)) (fun c_4 => ?_)
  refine lv_iconst (v := 0) hx hb d_MO_due_24 (by decide) ?_
  refine lv_goto (tgt := 33) hx hb d_MO_due_25 (by decide) ?_
  exact z_Ciret hx hb hr rfl hlk hS (zV1 0 rfl hF hM) (by decide) (by decide) d_MO_due_33
set_option maxHeartbeats 4000000 in
set_option maxRecDepth 100000 in
theorem c_MO_due (l : Launch) (hl9 : l.stackTraces = false) {D : va_G} {cS cR cJ cI cZ : ClassId} {lo tP : Nat} {j : Nat}  {mo : Nat} {ad : Nat → Nat} {n k : Nat} {td code0 : Int32} {S : Nat → Nat → Int32} {I : Nat → Nat} {F : Nat → Nat → Int32} {X : zM} (hM : MI mo ad cI cZ n k td code0 S I F X) (hj : j < k) (hgr : F j 8 = -1 ∨ z_rg (F j 8) 0 4) : z_C (z_G lo tP) D cls4 (zty cS cR cJ cI cZ) lo l y_MO_due w_MO_due zrC [.ref mo, .int (nI (j + 1))] X (zV mo ad cI cZ (0) (some (.int (z_due (S (I j)) (F j)))) (some (.int 0)) X ⟨n, k, td, S, I, F⟩ ⟨n, k, td, S, I, F⟩) := by
  refine z_ofW (by decide) ?_
  intro p e s m args below meth c s₁ B hml hout hv
  obtain ⟨rfl, hG, hK, hW0, hXl, hlo⟩ := hv
  have hx := B.exec
  have hb := B.bytes
  have hr := B.returns
  have hlk := B.notSynchronized
  have hown : s.vm.findClass R_MO = some m.cls := findClass_of_methodNamed B.named
  have hts : ∀ w9 ∈ z_tb, w9.before ([.ref mo, .int (nI (j + 1))] : List Value).toArray s = true := hG.ts _
  have hk : ∀ {w9 : Cond}, w9 ∈ lw_tbl → z_ok w9 = true → w9.before ([.ref mo, .int (nI (j + 1))] : List Value).toArray s = true := fun h1 h2 => hG.w h1 h2 _
  have hg : z_Gr s.heap s.heap := z_Gr.rf
  have hS := z_S.start hW0 hXl hlo
  have hl := lv_entry ([.ref mo, .int (nI (j + 1))]) (n := 2) (Nat.le_of_ble_eq_true rfl)
  rw [lg_entry_eq]
  generalize (lg_sl ([.ref mo, .int (nI (j + 1))]) ++ List.replicate (2 - (lg_sl ([.ref mo, .int (nI (j + 1))])).length) Slot.unset).toArray = ls at hl ⊢
  have hl : lv_has ls 2 [(0, .ref mo), (1, .int (nI (j + 1)))] := hl
  have hIn := hM.idx
  have hn20 := hM.n20
  have hk20 := hM.k20
  have hF : zFr 1 X X := zFr.rf
  refine lv_aload_n hx hb d_MO_due_0 rfl (lv_at hl 0 rfl) ?_
  refine lv_aload_n hx hb d_MO_due_1 rfl (lv_at hl 0 rfl) ?_
  refine lv_iload_n hx hb d_MO_due_2 rfl (lv_at hl 1 rfl) ?_
  refine z_pi (v := 1) (n_MO_MO_isReturn hx hown hG (va_recv hK (hS.1.one hM.ob) (ci := 3) (q0 := 0) rfl rfl) (by rw [hb]; exact d_MO_due_3)) hb (hl.1.trans hml.symm) (c_MO_isReturn l hl9 (nI (j + 1)) hM) (by rw [if_pos ((z_rg1 (by omega) hk20).mpr hj)]) (z_Gkeeps lo tP) hG hK hS (cw_MO_isReturn hG (by decide) (by decide)) d_MO_due_3 (Nat.le_of_ble_eq_true rfl) (by decide) (by decide) (fun H hq hS => ?_)
  refine lv_if_eq (tgt := 13) hx hb d_MO_due_6 (by decide) (fun c_1 => absurd c_1 (by decide)) (fun c_1 => ?_)
  refine lv_iconst (v := 0) hx hb d_MO_due_9 (by decide) ?_
  refine lv_goto (tgt := 14) hx hb d_MO_due_10 (by decide) ?_
  refine mo_code hx hb hG hown hK hS hM (v := 0) d_MO_due_14 (fun H locs X_2 hS hM hF_3 => ?_)
  have hF := hF.tr hF_3
  refine lv_aload_n hx hb d_MO_due_17 rfl (lv_at hl 0 rfl) ?_
  refine z_get (ci := 3) (C := R_MO) (T := F_MO) (N := 23) hx hb hts j_MO hown hK hS hM.ob rfl 0 (by decide) (hk k_504 rfl) (fun _ h9 => h9) rfl d_MO_due_18 ?_
  refine lv_if_le (tgt := 28) hx hb d_MO_due_21 (by decide) (fun c_4 => ?_) (fun c_4 => absurd (by decide) c_4)
  refine lv_aload_n hx hb d_MO_due_28 rfl (lv_at hl 0 rfl) ?_
  refine lv_iload_n hx hb d_MO_due_29 rfl (lv_at hl 1 rfl) ?_
  refine z_pi (v := z_due (S (I j)) (F j)) (n_MO_MO_dueOf hx hown hG (va_recv hK (hS.1.one hM.ob) (ci := 3) (q0 := 0) rfl rfl) (by rw [hb]; exact d_MO_due_30)) hb (hl.1.trans hml.symm) (c_MO_dueOf l hl9 hM hj hgr) (rfl) (z_Gkeeps lo tP) hG hK hS (cw_MO_dueOf hG (by decide) (by decide)) d_MO_due_30 (Nat.le_of_ble_eq_true rfl) (by decide) (by decide) (fun H hq hS => ?_)
  exact z_Ciret hx hb hr rfl hlk hS (zV0 rfl hF hM) (by decide) (by decide) d_MO_due_33
theorem z_vv {mo : Nat} {ad : Nat → Nat} {cI cZ : ClassId} {c : Nat} {u v : Int32} {a0 : Option Value} {X X9 : zM} {A A1 : zA} {r : zR} (h : zV mo ad cI cZ c (some (.int u)) a0 X A A1 r X9) (he : v = u) : zV mo ad cI cZ c (some (.int v)) a0 X A A1 r X9 := by
  subst he
  exact h
set_option maxHeartbeats 4000000 in
set_option maxRecDepth 100000 in
theorem c_MO_told_no (l : Launch) (hl9 : l.stackTraces = false) {D : va_G} {cS cR cJ cI cZ : ClassId} {lo tP : Nat} (v : Int32) (p0 : Int32) (a9 : Option Value) (A9 : zA) {mo : Nat} {ad : Nat → Nat} {n k : Nat} {td code0 : Int32} {S : Nat → Nat → Int32} {I : Nat → Nat} {F : Nat → Nat → Int32} {X : zM} (hM : MI mo ad cI cZ n k td code0 S I F X) (hv : ¬ z_rg v 1 (nI k)) : z_C (z_G lo tP) D cls4 (zty cS cR cJ cI cZ) lo l y_MO_told w_MO_told zrC [.ref mo, .int v, .int p0] X (zV mo ad cI cZ 1 a9 (some (.int 0)) X A9 ⟨n, k, td, S, I, F⟩) := by
  refine z_ofW (by decide) ?_
  intro p e s m args below meth c s₁ B hml hout hv
  obtain ⟨rfl, hG, hK, hW0, hXl, hlo⟩ := hv
  have hx := B.exec
  have hb := B.bytes
  have hr := B.returns
  have hlk := B.notSynchronized
  have hown : s.vm.findClass R_MO = some m.cls := findClass_of_methodNamed B.named
  have hts : ∀ w9 ∈ z_tb, w9.before ([.ref mo, .int v, .int p0] : List Value).toArray s = true := hG.ts _
  have hk : ∀ {w9 : Cond}, w9 ∈ lw_tbl → z_ok w9 = true → w9.before ([.ref mo, .int v, .int p0] : List Value).toArray s = true := fun h1 h2 => hG.w h1 h2 _
  have hg : z_Gr s.heap s.heap := z_Gr.rf
  have hS := z_S.start hW0 hXl hlo
  have hl := lv_entry ([.ref mo, .int v, .int p0]) (n := 3) (Nat.le_of_ble_eq_true rfl)
  rw [lg_entry_eq]
  generalize (lg_sl ([.ref mo, .int v, .int p0]) ++ List.replicate (3 - (lg_sl ([.ref mo, .int v, .int p0])).length) Slot.unset).toArray = ls at hl ⊢
  have hl : lv_has ls 3 [(0, .ref mo), (1, .int v), (2, .int p0)] := hl
  have hIn := hM.idx
  have hn20 := hM.n20
  have hk20 := hM.k20
  have hF : zFr 1 X X := zFr.rf
  refine lv_aload_n hx hb d_MO_told_0 rfl (lv_at hl 0 rfl) ?_
  refine lv_aload_n hx hb d_MO_told_1 rfl (lv_at hl 0 rfl) ?_
  refine lv_iload_n hx hb d_MO_told_2 rfl (lv_at hl 1 rfl) ?_
  refine z_pi (v := 0) (n_MO_MO_isReturn hx hown hG (va_recv hK (hS.1.one hM.ob) (ci := 3) (q0 := 0) rfl rfl) (by rw [hb]; exact d_MO_told_3)) hb (hl.1.trans hml.symm) (c_MO_isReturn l hl9 v hM) (by rw [if_neg hv]) (z_Gkeeps lo tP) hG hK hS (cw_MO_isReturn hG (by decide) (by decide)) d_MO_told_3 (Nat.le_of_ble_eq_true rfl) (by decide) (by decide) (fun H hq hS => ?_)
  refine lv_if_ne (tgt := 13) hx hb d_MO_told_6 (by decide) (fun c_1 => absurd (by decide) c_1) (fun c_1 => ?_)
  refine lv_iconst (v := 1) hx hb d_MO_told_9 (by decide) ?_
  refine lv_goto (tgt := 28) hx hb d_MO_told_10 (by decide) ?_
  refine mo_code hx hb hG hown hK hS hM (v := 1) d_MO_told_28 (fun H locs X_2 hS hM hF_3 => ?_)
  have hF := hF.tr hF_3
  refine lv_aload_n hx hb d_MO_told_31 rfl (lv_at hl 0 rfl) ?_
  refine z_get (ci := 3) (C := R_MO) (T := F_MO) (N := 23) hx hb hts j_MO hown hK hS hM.ob rfl 0 (by decide) (hk k_504 rfl) (fun _ h9 => h9) rfl d_MO_told_32 ?_
  refine lv_if_le (tgt := 40) hx hb d_MO_told_35 (by decide) (fun c_4 => absurd c_4 (by decide)) (fun c_4 => ?_)
  refine lv_iconst (v := 0) hx hb d_MO_told_38 (by decide) ?_
  exact z_Ciret hx hb hr rfl hlk hS (zV1 0 rfl hF hM) (by decide) (by decide) d_MO_told_39
set_option maxHeartbeats 4000000 in
set_option maxRecDepth 100000 in
theorem c_MO_told (l : Launch) (hl9 : l.stackTraces = false) {D : va_G} {cS cR cJ cI cZ : ClassId} {lo tP : Nat} {j : Nat} (p0 : Int32) {mo : Nat} {ad : Nat → Nat} {n k : Nat} {td code0 : Int32} {S : Nat → Nat → Int32} {I : Nat → Nat} {F : Nat → Nat → Int32} {X : zM} (hM : MI mo ad cI cZ n k td code0 S I F X) (hj : j < k) : z_C (z_G lo tP) D cls4 (zty cS cR cJ cI cZ) lo l y_MO_told w_MO_told zrC [.ref mo, .int (nI (j + 1)), .int p0] X (zV mo ad cI cZ (cd_told p0) (some (.int (an_told (I j) (F j) p0))) (some (.int 0)) X ⟨n, k, td, S, I, F⟩ ⟨n, k, td, S, I, F⟩) := by
  refine z_ofW (by decide) ?_
  intro p e s m args below meth c s₁ B hml hout hv
  obtain ⟨rfl, hG, hK, hW0, hXl, hlo⟩ := hv
  have hx := B.exec
  have hb := B.bytes
  have hr := B.returns
  have hlk := B.notSynchronized
  have hown : s.vm.findClass R_MO = some m.cls := findClass_of_methodNamed B.named
  have hts : ∀ w9 ∈ z_tb, w9.before ([.ref mo, .int (nI (j + 1)), .int p0] : List Value).toArray s = true := hG.ts _
  have hk : ∀ {w9 : Cond}, w9 ∈ lw_tbl → z_ok w9 = true → w9.before ([.ref mo, .int (nI (j + 1)), .int p0] : List Value).toArray s = true := fun h1 h2 => hG.w h1 h2 _
  have hg : z_Gr s.heap s.heap := z_Gr.rf
  have hS := z_S.start hW0 hXl hlo
  have hl := lv_entry ([.ref mo, .int (nI (j + 1)), .int p0]) (n := 3) (Nat.le_of_ble_eq_true rfl)
  rw [lg_entry_eq]
  generalize (lg_sl ([.ref mo, .int (nI (j + 1)), .int p0]) ++ List.replicate (3 - (lg_sl ([.ref mo, .int (nI (j + 1)), .int p0])).length) Slot.unset).toArray = ls at hl ⊢
  have hl : lv_has ls 3 [(0, .ref mo), (1, .int (nI (j + 1))), (2, .int p0)] := hl
  have hIn := hM.idx
  have hn20 := hM.n20
  have hk20 := hM.k20
  have hF : zFr 1 X X := zFr.rf
  refine lv_aload_n hx hb d_MO_told_0 rfl (lv_at hl 0 rfl) ?_
  refine lv_aload_n hx hb d_MO_told_1 rfl (lv_at hl 0 rfl) ?_
  refine lv_iload_n hx hb d_MO_told_2 rfl (lv_at hl 1 rfl) ?_
  refine z_pi (v := 1) (n_MO_MO_isReturn hx hown hG (va_recv hK (hS.1.one hM.ob) (ci := 3) (q0 := 0) rfl rfl) (by rw [hb]; exact d_MO_told_3)) hb (hl.1.trans hml.symm) (c_MO_isReturn l hl9 (nI (j + 1)) hM) (by rw [if_pos ((z_rg1 (by omega) hk20).mpr hj)]) (z_Gkeeps lo tP) hG hK hS (cw_MO_isReturn hG (by decide) (by decide)) d_MO_told_3 (Nat.le_of_ble_eq_true rfl) (by decide) (by decide) (fun H hq hS => ?_)
  refine lv_if_ne (tgt := 13) hx hb d_MO_told_6 (by decide) (fun c_1 => ?_) (fun c_1 => absurd c_1 (by decide))
  refine lv_iload_n hx hb d_MO_told_13 rfl (lv_at hl 2 rfl) ?_
  refine lv_iconst (v := 0) hx hb d_MO_told_14 (by decide) ?_
  refine lv_bipush (v := 11) hx hb d_MO_told_15 (by decide) ?_
  by_cases w_2 : z_rg p0 0 11
  · refine z_pi (v := 1) (n_MO_MO_in hx hown hG (by rw [hb]; exact d_MO_told_17)) hb (hl.1.trans hml.symm) (c_MO_in l hl9 p0 0 11) (by rw [if_pos w_2]) (z_Gkeeps lo tP) hG hK hS (cw_MO_in hG (by decide) (by decide)) d_MO_told_17 (Nat.le_of_ble_eq_true rfl) (by decide) (by decide) (fun H hq hS => ?_)
    refine lv_if_ne (tgt := 27) hx hb d_MO_told_20 (by decide) (fun c_3 => ?_) (fun c_3 => absurd c_3 (by decide))
    refine lv_iconst (v := 0) hx hb d_MO_told_27 (by decide) ?_
    refine mo_code hx hb hG hown hK hS hM (v := 0) d_MO_told_28 (fun H locs X_4 hS hM hF_5 => ?_)
    have hF := hF.tr hF_5
    refine lv_aload_n hx hb d_MO_told_31 rfl (lv_at hl 0 rfl) ?_
    refine z_get (ci := 3) (C := R_MO) (T := F_MO) (N := 23) hx hb hts j_MO hown hK hS hM.ob rfl 0 (by decide) (hk k_504 rfl) (fun _ h9 => h9) rfl d_MO_told_32 ?_
    refine lv_if_le (tgt := 40) hx hb d_MO_told_35 (by decide) (fun c_6 => ?_) (fun c_6 => absurd (by decide) c_6)
    refine lv_iload_n hx hb d_MO_told_40 rfl (lv_at hl 2 rfl) ?_
    refine lv_if_ne (tgt := 51) hx hb d_MO_told_41 (by decide) (fun c_7 => ?_) (fun c_7 => ?_)
    · refine lv_iload_n hx hb d_MO_told_51 rfl (lv_at hl 2 rfl) ?_
      refine lv_iconst (v := 1) hx hb d_MO_told_52 (by decide) ?_
      refine lv_icmp_ne (tgt := 63) hx hb d_MO_told_53 (by decide) (fun c_8 => ?_) (fun c_8 => ?_)
      · refine lv_iload_n hx hb d_MO_told_63 rfl (lv_at hl 2 rfl) ?_
        refine lv_iconst (v := 2) hx hb d_MO_told_64 (by decide) ?_
        refine lv_icmp_ne (tgt := 75) hx hb d_MO_told_65 (by decide) (fun c_9 => ?_) (fun c_9 => ?_)
        · refine lv_iload_n hx hb d_MO_told_75 rfl (lv_at hl 2 rfl) ?_
          refine lv_iconst (v := 3) hx hb d_MO_told_76 (by decide) ?_
          refine lv_icmp_ne (tgt := 87) hx hb d_MO_told_77 (by decide) (fun c_10 => ?_) (fun c_10 => ?_)
          · refine lv_iload_n hx hb d_MO_told_87 rfl (lv_at hl 2 rfl) ?_
            refine lv_iconst (v := 4) hx hb d_MO_told_88 (by decide) ?_
            refine lv_icmp_ne (tgt := 99) hx hb d_MO_told_89 (by decide) (fun c_11 => ?_) (fun c_11 => ?_)
            · refine lv_iload_n hx hb d_MO_told_99 rfl (lv_at hl 2 rfl) ?_
              refine lv_iconst (v := 5) hx hb d_MO_told_100 (by decide) ?_
              refine lv_icmp_ne (tgt := 111) hx hb d_MO_told_101 (by decide) (fun c_12 => ?_) (fun c_12 => ?_)
              · refine lv_iload_n hx hb d_MO_told_111 rfl (lv_at hl 2 rfl) ?_
                refine lv_bipush (v := 6) hx hb d_MO_told_112 (by decide) ?_
                refine lv_icmp_ne (tgt := 124) hx hb d_MO_told_114 (by decide) (fun c_13 => ?_) (fun c_13 => ?_)
                · refine lv_iload_n hx hb d_MO_told_124 rfl (lv_at hl 2 rfl) ?_
                  refine lv_bipush (v := 7) hx hb d_MO_told_125 (by decide) ?_
                  refine lv_icmp_ne (tgt := 145) hx hb d_MO_told_127 (by decide) (fun c_14 => ?_) (fun c_14 => ?_)
                  · refine lv_iload_n hx hb d_MO_told_145 rfl (lv_at hl 2 rfl) ?_
                    refine lv_bipush (v := 8) hx hb d_MO_told_146 (by decide) ?_
                    refine lv_icmp_ne (tgt := 166) hx hb d_MO_told_148 (by decide) (fun c_15 => ?_) (fun c_15 => ?_)
                    · refine lv_iload_n hx hb d_MO_told_166 rfl (lv_at hl 2 rfl) ?_
                      refine lv_bipush (v := 9) hx hb d_MO_told_167 (by decide) ?_
                      refine lv_icmp_ne (tgt := 181) hx hb d_MO_told_169 (by decide) (fun c_16 => ?_) (fun c_16 => ?_)
                      · refine lv_iload_n hx hb d_MO_told_181 rfl (lv_at hl 2 rfl) ?_
                        refine lv_bipush (v := 10) hx hb d_MO_told_182 (by decide) ?_
                        refine lv_icmp_ne (tgt := 196) hx hb d_MO_told_184 (by decide) (fun c_17 => ?_) (fun c_17 => ?_)
                        · refine lv_aload_n hx hb d_MO_told_196 rfl (lv_at hl 0 rfl) ?_
                          refine z_get (ci := 3) (C := R_MO) (T := F_MO) (N := 23) hx hb hts j_MO hown hK hS hM.ob rfl 12 (by decide) (hk k_516 rfl) (fun _ h9 => h9) rfl d_MO_told_197 ?_
                          refine lv_iload_n hx hb d_MO_told_200 rfl (lv_at hl 1 rfl) ?_
                          refine mo_ld (v := F j 4) hx hb hK hS hM 12 hj (by decide) rfl d_MO_told_201 ?_
                          exact z_Ciret hx hb hr rfl hlk hS (z_vv (zV0 (if_pos w_2) hF hM) (by simp [an_told, c_7, c_8, c_9, c_10, c_11, c_12, c_13, c_14, c_15, c_16, c_17])) (by decide) (by decide) d_MO_told_202
                        · refine lv_aload_n hx hb d_MO_told_187 rfl (lv_at hl 0 rfl) ?_
                          refine z_get (ci := 3) (C := R_MO) (T := F_MO) (N := 23) hx hb hts j_MO hown hK hS hM.ob rfl 21 (by decide) (hk k_525 rfl) (fun _ h9 => h9) rfl d_MO_told_188 ?_
                          refine lv_iload_n hx hb d_MO_told_191 rfl (lv_at hl 1 rfl) ?_
                          refine mo_ld (v := F j 13) hx hb hK hS hM 21 hj (by decide) rfl d_MO_told_192 ?_
                          refine lv_goto (tgt := 202) hx hb d_MO_told_193 (by decide) ?_
                          exact z_Ciret hx hb hr rfl hlk hS (z_vv (zV0 (if_pos w_2) hF hM) (by simp [an_told, c_7, c_8, c_9, c_10, c_11, c_12, c_13, c_14, c_15, c_16, c_17])) (by decide) (by decide) d_MO_told_202
                      · refine lv_aload_n hx hb d_MO_told_172 rfl (lv_at hl 0 rfl) ?_
                        refine z_get (ci := 3) (C := R_MO) (T := F_MO) (N := 23) hx hb hts j_MO hown hK hS hM.ob rfl 19 (by decide) (hk k_523 rfl) (fun _ h9 => h9) rfl d_MO_told_173 ?_
                        refine lv_iload_n hx hb d_MO_told_176 rfl (lv_at hl 1 rfl) ?_
                        refine mo_ld (v := F j 11) hx hb hK hS hM 19 hj (by decide) rfl d_MO_told_177 ?_
                        refine lv_goto (tgt := 202) hx hb d_MO_told_178 (by decide) ?_
                        exact z_Ciret hx hb hr rfl hlk hS (z_vv (zV0 (if_pos w_2) hF hM) (by simp [an_told, c_7, c_8, c_9, c_10, c_11, c_12, c_13, c_14, c_15, c_16])) (by decide) (by decide) d_MO_told_202
                    · refine lv_aload_n hx hb d_MO_told_151 rfl (lv_at hl 0 rfl) ?_
                      refine z_get (ci := 3) (C := R_MO) (T := F_MO) (N := 23) hx hb hts j_MO hown hK hS hM.ob rfl 14 (by decide) (hk k_518 rfl) (fun _ h9 => h9) rfl d_MO_told_152 ?_
                      refine lv_iload_n hx hb d_MO_told_155 rfl (lv_at hl 1 rfl) ?_
                      refine mo_ldb (v := F j 6) hx hb hK hS hM 14 hj (by decide) rfl d_MO_told_156 ?_
                      refine lv_if_eq (tgt := 164) hx hb d_MO_told_157 (by decide) (fun c_18 => ?_) (fun c_18 => ?_)
                      · refine lv_iconst (v := 0) hx hb d_MO_told_164 (by decide) ?_
                        exact z_Ciret hx hb hr rfl hlk hS (z_vv (zV0 (if_pos w_2) hF hM) (by simp [an_told, c_7, c_8, c_9, c_10, c_11, c_12, c_13, c_14, c_15, c_18])) (by decide) (by decide) d_MO_told_165
                      · refine lv_iconst (v := 1) hx hb d_MO_told_160 (by decide) ?_
                        refine lv_goto (tgt := 165) hx hb d_MO_told_161 (by decide) ?_
                        exact z_Ciret hx hb hr rfl hlk hS (z_vv (zV0 (if_pos w_2) hF hM) (by simp [an_told, c_7, c_8, c_9, c_10, c_11, c_12, c_13, c_14, c_15, c_18])) (by decide) (by decide) d_MO_told_165
                  · refine lv_aload_n hx hb d_MO_told_130 rfl (lv_at hl 0 rfl) ?_
                    refine z_get (ci := 3) (C := R_MO) (T := F_MO) (N := 23) hx hb hts j_MO hown hK hS hM.ob rfl 13 (by decide) (hk k_517 rfl) (fun _ h9 => h9) rfl d_MO_told_131 ?_
                    refine lv_iload_n hx hb d_MO_told_134 rfl (lv_at hl 1 rfl) ?_
                    refine mo_ldb (v := F j 5) hx hb hK hS hM 13 hj (by decide) rfl d_MO_told_135 ?_
                    refine lv_if_eq (tgt := 143) hx hb d_MO_told_136 (by decide) (fun c_19 => ?_) (fun c_19 => ?_)
                    · refine lv_iconst (v := 0) hx hb d_MO_told_143 (by decide) ?_
                      exact z_Ciret hx hb hr rfl hlk hS (z_vv (zV0 (if_pos w_2) hF hM) (by simp [an_told, c_7, c_8, c_9, c_10, c_11, c_12, c_13, c_14, c_19])) (by decide) (by decide) d_MO_told_144
                    · refine lv_iconst (v := 1) hx hb d_MO_told_139 (by decide) ?_
                      refine lv_goto (tgt := 144) hx hb d_MO_told_140 (by decide) ?_
                      exact z_Ciret hx hb hr rfl hlk hS (z_vv (zV0 (if_pos w_2) hF hM) (by simp [an_told, c_7, c_8, c_9, c_10, c_11, c_12, c_13, c_14, c_19])) (by decide) (by decide) d_MO_told_144
                · refine lv_aload_n hx hb d_MO_told_117 rfl (lv_at hl 0 rfl) ?_
                  refine z_get (ci := 3) (C := R_MO) (T := F_MO) (N := 23) hx hb hts j_MO hown hK hS hM.ob rfl 18 (by decide) (hk k_522 rfl) (fun _ h9 => h9) rfl d_MO_told_118 ?_
                  refine lv_iload_n hx hb d_MO_told_121 rfl (lv_at hl 1 rfl) ?_
                  refine mo_ld (v := F j 7) hx hb hK hS hM 18 hj (by decide) rfl d_MO_told_122 ?_
                  exact z_Ciret hx hb hr rfl hlk hS (z_vv (zV0 (if_pos w_2) hF hM) (by simp [an_told, c_7, c_8, c_9, c_10, c_11, c_12, c_13])) (by decide) (by decide) d_MO_told_123
              · refine lv_aload_n hx hb d_MO_told_104 rfl (lv_at hl 0 rfl) ?_
                refine z_get (ci := 3) (C := R_MO) (T := F_MO) (N := 23) hx hb hts j_MO hown hK hS hM.ob rfl 17 (by decide) (hk k_521 rfl) (fun _ h9 => h9) rfl d_MO_told_105 ?_
                refine lv_iload_n hx hb d_MO_told_108 rfl (lv_at hl 1 rfl) ?_
                refine mo_ld (v := F j 10) hx hb hK hS hM 17 hj (by decide) rfl d_MO_told_109 ?_
                exact z_Ciret hx hb hr rfl hlk hS (z_vv (zV0 (if_pos w_2) hF hM) (by simp [an_told, c_7, c_8, c_9, c_10, c_11, c_12])) (by decide) (by decide) d_MO_told_110
            · refine lv_aload_n hx hb d_MO_told_92 rfl (lv_at hl 0 rfl) ?_
              refine z_get (ci := 3) (C := R_MO) (T := F_MO) (N := 23) hx hb hts j_MO hown hK hS hM.ob rfl 16 (by decide) (hk k_520 rfl) (fun _ h9 => h9) rfl d_MO_told_93 ?_
              refine lv_iload_n hx hb d_MO_told_96 rfl (lv_at hl 1 rfl) ?_
              refine mo_ld (v := F j 9) hx hb hK hS hM 16 hj (by decide) rfl d_MO_told_97 ?_
              exact z_Ciret hx hb hr rfl hlk hS (z_vv (zV0 (if_pos w_2) hF hM) (by simp [an_told, c_7, c_8, c_9, c_10, c_11])) (by decide) (by decide) d_MO_told_98
          · refine lv_aload_n hx hb d_MO_told_80 rfl (lv_at hl 0 rfl) ?_
            refine z_get (ci := 3) (C := R_MO) (T := F_MO) (N := 23) hx hb hts j_MO hown hK hS hM.ob rfl 15 (by decide) (hk k_519 rfl) (fun _ h9 => h9) rfl d_MO_told_81 ?_
            refine lv_iload_n hx hb d_MO_told_84 rfl (lv_at hl 1 rfl) ?_
            refine mo_ld (v := F j 8) hx hb hK hS hM 15 hj (by decide) rfl d_MO_told_85 ?_
            exact z_Ciret hx hb hr rfl hlk hS (z_vv (zV0 (if_pos w_2) hF hM) (by simp [an_told, c_7, c_8, c_9, c_10])) (by decide) (by decide) d_MO_told_86
        · refine lv_aload_n hx hb d_MO_told_68 rfl (lv_at hl 0 rfl) ?_
          refine z_get (ci := 3) (C := R_MO) (T := F_MO) (N := 23) hx hb hts j_MO hown hK hS hM.ob rfl 9 (by decide) (hk k_513 rfl) (fun _ h9 => h9) rfl d_MO_told_69 ?_
          refine lv_iload_n hx hb d_MO_told_72 rfl (lv_at hl 1 rfl) ?_
          refine mo_ld (v := F j 1) hx hb hK hS hM 9 hj (by decide) rfl d_MO_told_73 ?_
          exact z_Ciret hx hb hr rfl hlk hS (z_vv (zV0 (if_pos w_2) hF hM) (by simp [an_told, c_7, c_8, c_9])) (by decide) (by decide) d_MO_told_74
      · refine lv_aload_n hx hb d_MO_told_56 rfl (lv_at hl 0 rfl) ?_
        refine z_get (ci := 3) (C := R_MO) (T := F_MO) (N := 23) hx hb hts j_MO hown hK hS hM.ob rfl 8 (by decide) (hk k_512 rfl) (fun _ h9 => h9) rfl d_MO_told_57 ?_
        refine lv_iload_n hx hb d_MO_told_60 rfl (lv_at hl 1 rfl) ?_
        refine mo_ldI hx hb hK hS hM hj d_MO_told_61 ?_
        exact z_Ciret hx hb hr rfl hlk hS (z_vv (zV0 (if_pos w_2) hF hM) (by simp [an_told, c_7, c_8])) (by decide) (by decide) d_MO_told_62
    · refine lv_aload_n hx hb d_MO_told_44 rfl (lv_at hl 0 rfl) ?_
      refine z_get (ci := 3) (C := R_MO) (T := F_MO) (N := 23) hx hb hts j_MO hown hK hS hM.ob rfl 10 (by decide) (hk k_514 rfl) (fun _ h9 => h9) rfl d_MO_told_45 ?_
      refine lv_iload_n hx hb d_MO_told_48 rfl (lv_at hl 1 rfl) ?_
      refine mo_ld (v := F j 3) hx hb hK hS hM 10 hj (by decide) rfl d_MO_told_49 ?_
      exact z_Ciret hx hb hr rfl hlk hS (z_vv (zV0 (if_pos w_2) hF hM) (by simp [an_told, c_7])) (by decide) (by decide) d_MO_told_50
  · refine z_pi (v := 0) (n_MO_MO_in hx hown hG (by rw [hb]; exact d_MO_told_17)) hb (hl.1.trans hml.symm) (c_MO_in l hl9 p0 0 11) (by rw [if_neg w_2]) (z_Gkeeps lo tP) hG hK hS (cw_MO_in hG (by decide) (by decide)) d_MO_told_17 (Nat.le_of_ble_eq_true rfl) (by decide) (by decide) (fun H hq hS => ?_)
    refine lv_if_ne (tgt := 27) hx hb d_MO_told_20 (by decide) (fun c_20 => absurd (by decide) c_20) (fun c_20 => ?_)
    refine lv_iconst (v := 2) hx hb d_MO_told_23 (by decide) ?_
    refine lv_goto (tgt := 28) hx hb d_MO_told_24 (by decide) ?_
    refine mo_code hx hb hG hown hK hS hM (v := 2) d_MO_told_28 (fun H locs X_21 hS hM hF_22 => ?_)
    have hF := hF.tr hF_22
    refine lv_aload_n hx hb d_MO_told_31 rfl (lv_at hl 0 rfl) ?_
    refine z_get (ci := 3) (C := R_MO) (T := F_MO) (N := 23) hx hb hts j_MO hown hK hS hM.ob rfl 0 (by decide) (hk k_504 rfl) (fun _ h9 => h9) rfl d_MO_told_32 ?_
    refine lv_if_le (tgt := 40) hx hb d_MO_told_35 (by decide) (fun c_23 => absurd c_23 (by decide)) (fun c_23 => ?_)
    refine lv_iconst (v := 0) hx hb d_MO_told_38 (by decide) ?_
    exact z_Ciret hx hb hr rfl hlk hS (zV1 1 (if_neg w_2) hF hM) (by decide) (by decide) d_MO_told_39
set_option maxHeartbeats 4000000 in
set_option maxRecDepth 100000 in
theorem c_MO_day (l : Launch) (hl9 : l.stackTraces = false) {D : va_G} {cS cR cJ cI cZ : ClassId} {lo tP : Nat} (d : Int32) {mo : Nat} {ad : Nat → Nat} {n k : Nat} {td code0 : Int32} {S : Nat → Nat → Int32} {I : Nat → Nat} {F : Nat → Nat → Int32} {X : zM} (hM : MI mo ad cI cZ n k td code0 S I F X) : z_C (z_G lo tP) D cls4 (zty cS cR cJ cI cZ) lo l y_MO_day w_MO_day zrC [.ref mo, .int d] X (zV mo ad cI cZ (cd_day td d) none none X ⟨n, k, d, S, I, F⟩ ⟨n, k, td, S, I, F⟩) := by
  refine z_ofW (by decide) ?_
  intro p e s m args below meth c s₁ B hml hout hv
  obtain ⟨rfl, hG, hK, hW0, hXl, hlo⟩ := hv
  have hx := B.exec
  have hb := B.bytes
  have hr := B.returns
  have hlk := B.notSynchronized
  have hown : s.vm.findClass R_MO = some m.cls := findClass_of_methodNamed B.named
  have hts : ∀ w9 ∈ z_tb, w9.before ([.ref mo, .int d] : List Value).toArray s = true := hG.ts _
  have hk : ∀ {w9 : Cond}, w9 ∈ lw_tbl → z_ok w9 = true → w9.before ([.ref mo, .int d] : List Value).toArray s = true := fun h1 h2 => hG.w h1 h2 _
  have hg : z_Gr s.heap s.heap := z_Gr.rf
  have hS := z_S.start hW0 hXl hlo
  have hl := lv_entry ([.ref mo, .int d]) (n := 2) (Nat.le_of_ble_eq_true rfl)
  rw [lg_entry_eq]
  generalize (lg_sl ([.ref mo, .int d]) ++ List.replicate (2 - (lg_sl ([.ref mo, .int d])).length) Slot.unset).toArray = ls at hl ⊢
  have hl : lv_has ls 2 [(0, .ref mo), (1, .int d)] := hl
  have hIn := hM.idx
  have hn20 := hM.n20
  have hk20 := hM.k20
  have hF : zFr 1 X X := zFr.rf
  refine lv_aload_n hx hb d_MO_day_0 rfl (lv_at hl 0 rfl) ?_
  refine lv_iload_n hx hb d_MO_day_1 rfl (lv_at hl 1 rfl) ?_
  refine lv_aload_n hx hb d_MO_day_2 rfl (lv_at hl 0 rfl) ?_
  refine z_get (ci := 3) (C := R_MO) (T := F_MO) (N := 23) hx hb hts j_MO hown hK hS hM.ob rfl 1 (by decide) (hk k_505 rfl) (fun _ h9 => h9) rfl d_MO_day_3 ?_
  refine lv_sipush (v := 1000) hx hb d_MO_day_6 (by decide) ?_
  by_cases w_1 : z_rg d td 1000
  · refine z_pi (v := 1) (n_MO_MO_in hx hown hG (by rw [hb]; exact d_MO_day_9)) hb (hl.1.trans hml.symm) (c_MO_in l hl9 d td 1000) (by rw [if_pos w_1]) (z_Gkeeps lo tP) hG hK hS (cw_MO_in hG (by decide) (by decide)) d_MO_day_9 (Nat.le_of_ble_eq_true rfl) (by decide) (by decide) (fun H hq hS => ?_)
    refine lv_if_eq (tgt := 19) hx hb d_MO_day_12 (by decide) (fun c_2 => absurd c_2 (by decide)) (fun c_2 => ?_)
    refine lv_iconst (v := 0) hx hb d_MO_day_15 (by decide) ?_
    refine lv_goto (tgt := 20) hx hb d_MO_day_16 (by decide) ?_
    refine mo_code hx hb hG hown hK hS hM (v := 0) d_MO_day_20 (fun H locs X_3 hS hM hF_4 => ?_)
    have hF := hF.tr hF_4
    refine lv_aload_n hx hb d_MO_day_23 rfl (lv_at hl 0 rfl) ?_
    refine z_get (ci := 3) (C := R_MO) (T := F_MO) (N := 23) hx hb hts j_MO hown hK hS hM.ob rfl 0 (by decide) (hk k_504 rfl) (fun _ h9 => h9) rfl d_MO_day_24 ?_
    refine lv_if_ne (tgt := 35) hx hb d_MO_day_27 (by decide) (fun c_5 => absurd (by decide) c_5) (fun c_5 => ?_)
    refine lv_aload_n hx hb d_MO_day_30 rfl (lv_at hl 0 rfl) ?_
    refine lv_iload_n hx hb d_MO_day_31 rfl (lv_at hl 1 rfl) ?_
    refine mo_today hx hb hG hown hK hS hM (v := d) d_MO_day_32 (fun H locs X_6 hS hM hF_7 => ?_)
    have hF := hF.tr hF_7
    exact z_Cvret hx hb hr hlk hS (zV0 (if_pos w_1) hF hM) (by decide) (by decide) d_MO_day_35
  · refine z_pi (v := 0) (n_MO_MO_in hx hown hG (by rw [hb]; exact d_MO_day_9)) hb (hl.1.trans hml.symm) (c_MO_in l hl9 d td 1000) (by rw [if_neg w_1]) (z_Gkeeps lo tP) hG hK hS (cw_MO_in hG (by decide) (by decide)) d_MO_day_9 (Nat.le_of_ble_eq_true rfl) (by decide) (by decide) (fun H hq hS => ?_)
    refine lv_if_eq (tgt := 19) hx hb d_MO_day_12 (by decide) (fun c_8 => ?_) (fun c_8 => absurd (by decide) c_8)
    refine lv_iconst (v := 1) hx hb d_MO_day_19 (by decide) ?_
    refine mo_code hx hb hG hown hK hS hM (v := 1) d_MO_day_20 (fun H locs X_9 hS hM hF_10 => ?_)
    have hF := hF.tr hF_10
    refine lv_aload_n hx hb d_MO_day_23 rfl (lv_at hl 0 rfl) ?_
    refine z_get (ci := 3) (C := R_MO) (T := F_MO) (N := 23) hx hb hts j_MO hown hK hS hM.ob rfl 0 (by decide) (hk k_504 rfl) (fun _ h9 => h9) rfl d_MO_day_24 ?_
    refine lv_if_ne (tgt := 35) hx hb d_MO_day_27 (by decide) (fun c_11 => ?_) (fun c_11 => absurd c_11 (by decide))
    exact z_Cvret hx hb hr hlk hS (zV1 0 (if_neg w_1) hF hM) (by decide) (by decide) d_MO_day_35
theorem z_an_reason {k : Nat} {S : Nat → Nat → Int32} {I : Nat → Nat} {F : Nat → Nat → Int32} (p0 p1 : Int32) : an_reason k S I F p0 p1 = z_sm (fun j => if j < k ∧ z_of p0 (-1) (S (I j)) (F j) then (if p1 = 0 then 1 else if p1 = 1 then F j 13 else if F j 3 = 5 then 1 else 0) else 0) 20 := by
  unfold an_reason an_sum
  by_cases h0 : p1 = 0
  · simp only [if_pos h0]; rfl
  · by_cases h1 : p1 = 1
    · simp only [if_neg h0, if_pos h1]; rfl
    · simp only [if_neg h0, if_neg h1]; rfl
set_option maxHeartbeats 4000000 in
set_option maxRecDepth 100000 in
theorem c_MO_reason (l : Launch) (hl9 : l.stackTraces = false) {D : va_G} {cS cR cJ cI cZ : ClassId} {lo tP : Nat} (p0 p1 : Int32) {mo : Nat} {ad : Nat → Nat} {n k : Nat} {td code0 : Int32} {S : Nat → Nat → Int32} {I : Nat → Nat} {F : Nat → Nat → Int32} {X : zM} (hM : MI mo ad cI cZ n k td code0 S I F X) : z_C (z_G lo tP) D cls4 (zty cS cR cJ cI cZ) lo l y_MO_reason w_MO_reason zrC [.ref mo, .int p0, .int p1] X (zV mo ad cI cZ (cd_reason p0 p1) (some (.int (an_reason k S I F p0 p1))) (some (.int 0)) X ⟨n, k, td, S, I, F⟩ ⟨n, k, td, S, I, F⟩) := by
  refine z_ofW (by decide) ?_
  intro p e s m args below meth c s₁ B hml hout hv
  obtain ⟨rfl, hG, hK, hW0, hXl, hlo⟩ := hv
  have hx := B.exec
  have hb := B.bytes
  have hr := B.returns
  have hlk := B.notSynchronized
  have hown : s.vm.findClass R_MO = some m.cls := findClass_of_methodNamed B.named
  have hts : ∀ w9 ∈ z_tb, w9.before ([.ref mo, .int p0, .int p1] : List Value).toArray s = true := hG.ts _
  have hk : ∀ {w9 : Cond}, w9 ∈ lw_tbl → z_ok w9 = true → w9.before ([.ref mo, .int p0, .int p1] : List Value).toArray s = true := fun h1 h2 => hG.w h1 h2 _
  have hg : z_Gr s.heap s.heap := z_Gr.rf
  have hS := z_S.start hW0 hXl hlo
  have hl := lv_entry ([.ref mo, .int p0, .int p1]) (n := 5) (Nat.le_of_ble_eq_true rfl)
  rw [lg_entry_eq]
  generalize (lg_sl ([.ref mo, .int p0, .int p1]) ++ List.replicate (5 - (lg_sl ([.ref mo, .int p0, .int p1])).length) Slot.unset).toArray = ls at hl ⊢
  have hl : lv_has ls 5 [(0, .ref mo), (1, .int p0), (2, .int p1)] := hl
  have hIn := hM.idx
  have hn20 := hM.n20
  have hk20 := hM.k20
  have hF : zFr 1 X X := zFr.rf
  refine lv_aload_n hx hb d_MO_reason_0 rfl (lv_at hl 0 rfl) ?_
  refine lv_iload_n hx hb d_MO_reason_1 rfl (lv_at hl 1 rfl) ?_
  refine lv_iconst (v := 0) hx hb d_MO_reason_2 (by decide) ?_
  refine lv_bipush (v := 7) hx hb d_MO_reason_3 (by decide) ?_
  by_cases w_1 : z_rg p0 0 7
  · refine z_pi (v := 1) (n_MO_MO_in hx hown hG (by rw [hb]; exact d_MO_reason_5)) hb (hl.1.trans hml.symm) (c_MO_in l hl9 p0 0 7) (by rw [if_pos w_1]) (z_Gkeeps lo tP) hG hK hS (cw_MO_in hG (by decide) (by decide)) d_MO_reason_5 (Nat.le_of_ble_eq_true rfl) (by decide) (by decide) (fun H hq hS => ?_)
    refine lv_if_eq (tgt := 20) hx hb d_MO_reason_8 (by decide) (fun c_2 => absurd c_2 (by decide)) (fun c_2 => ?_)
    refine lv_iload_n hx hb d_MO_reason_11 rfl (lv_at hl 2 rfl) ?_
    refine lv_iconst (v := 0) hx hb d_MO_reason_12 (by decide) ?_
    refine lv_iconst (v := 2) hx hb d_MO_reason_13 (by decide) ?_
    by_cases w_3 : z_rg p1 0 2
    · refine z_pi (v := 1) (n_MO_MO_in hx hown hG (by rw [hb]; exact d_MO_reason_14)) hb (hl.1.trans hml.symm) (c_MO_in l hl9 p1 0 2) (by rw [if_pos w_3]) (z_Gkeeps lo tP) hG hK hS (cw_MO_in hG (by decide) (by decide)) d_MO_reason_14 (Nat.le_of_ble_eq_true rfl) (by decide) (by decide) (fun H hq hS => ?_)
      refine lv_if_ne (tgt := 24) hx hb d_MO_reason_17 (by decide) (fun c_4 => ?_) (fun c_4 => absurd c_4 (by decide))
      refine lv_iconst (v := 0) hx hb d_MO_reason_24 (by decide) ?_
      refine mo_code hx hb hG hown hK hS hM (v := 0) d_MO_reason_25 (fun H locs X_5 hS hM hF_6 => ?_)
      have hF := hF.tr hF_6
      refine lv_aload_n hx hb d_MO_reason_28 rfl (lv_at hl 0 rfl) ?_
      refine z_get (ci := 3) (C := R_MO) (T := F_MO) (N := 23) hx hb hts j_MO hown hK hS hM.ob rfl 0 (by decide) (hk k_504 rfl) (fun _ h9 => h9) rfl d_MO_reason_29 ?_
      refine lv_if_le (tgt := 37) hx hb d_MO_reason_32 (by decide) (fun c_7 => ?_) (fun c_7 => absurd (by decide) c_7)
      have hp1 : ¬ p0 = -1 := fun h9 => w_1.1 (by rw [h9]; decide)
      refine lv_iconst (v := 0) hx hb d_MO_reason_37 (by decide) ?_
      refine lv_istore_n (lv' := [(3, .int 0), (0, .ref mo), (1, .int p0), (2, .int p1)]) hx hb d_MO_reason_38 rfl hl (by decide) rfl (fun ls hl => ?_)
      refine lv_iconst (v := 1) hx hb d_MO_reason_39 (by decide) ?_
      refine lv_istore (lv' := [(4, .int 1), (3, .int 0), (0, .ref mo), (1, .int p0), (2, .int p1)]) hx hb d_MO_reason_40 hl (by decide) rfl (fun ls hl => ?_)
      have hloop : ∀ (dd i : Nat) (t : Int32) (ls : Array Slot), i + dd = k → t = z_sm (fun j => if j < k ∧ z_of p0 (-1) (S (I j)) (F j) then (if p1 = 0 then 1 else if p1 = 1 then F j 13 else if F j 3 = 5 then 1 else 0) else 0) i → lv_has ls 5 [(0, .ref mo), (1, .int p0), (2, .int p1), (3, .int t), (4, .int (nI (i + 1)))] → W p l e zrC s m ([.ref mo, .int p0, .int p1] : List Value).toArray below meth c H locs 0 0 (z_MQ below (z_Q D cls4 X (zV mo ad cI cZ (cd_reason p0 p1) (some (.int (an_reason k S I F p0 p1))) (some (.int 0)) X ⟨n, k, td, S, I, F⟩ ⟨n, k, td, S, I, F⟩)) ([.ref mo, .int p0, .int p1] : List Value).toArray s zrC.cells zrC.slots (fun q => lo ≤ q)) (F0 m 42 ls []) := by
        intro dd
        induction dd with
        | zero =>
          intro i t ls hi9 ht_t hl
          have hi9 : k = i := by omega
          subst hi9
          refine lv_iload hx hb d_MO_reason_42 (lv_at hl 4 rfl) ?_
          refine lv_aload_n hx hb d_MO_reason_44 rfl (lv_at hl 0 rfl) ?_
          refine z_get (ci := 3) (C := R_MO) (T := F_MO) (N := 23) hx hb hts j_MO hown hK hS hM.ob rfl 3 (by decide) (hk k_511 rfl) (fun _ h9 => h9) rfl d_MO_reason_45 ?_
          refine lv_icmp_gt (tgt := 113) hx hb d_MO_reason_48 (by decide) (fun c_8 => ?_) (fun c_8 => absurd (nI_lt (Nat.lt_succ_self k) (by omega)) c_8)
          refine lv_iload_n hx hb d_MO_reason_113 rfl (lv_at hl 3 rfl) ?_
          exact z_Ciret hx hb hr rfl hlk hS (z_vv (zV0 (by unfold cd_reason; rw [if_pos w_1, if_pos w_3]) hF hM) (by rw [ht_t, z_an_reason, z_sm_20 hk20 (fun j hj => if_neg (fun h => Nat.not_lt.mpr hj h.1))])) (by decide) (by decide) d_MO_reason_114
        | succ dd ih =>
          intro i t ls hi9 ht_t hl
          have hik : i < k := by omega
          refine lv_iload hx hb d_MO_reason_42 (lv_at hl 4 rfl) ?_
          refine lv_aload_n hx hb d_MO_reason_44 rfl (lv_at hl 0 rfl) ?_
          refine z_get (ci := 3) (C := R_MO) (T := F_MO) (N := 23) hx hb hts j_MO hown hK hS hM.ob rfl 3 (by decide) (hk k_511 rfl) (fun _ h9 => h9) rfl d_MO_reason_45 ?_
          refine lv_icmp_gt (tgt := 113) hx hb d_MO_reason_48 (by decide) (fun c_9 => absurd c_9 (nI_nlt (show i + 1 ≤ k by omega) (by omega))) (fun c_9 => ?_)
          refine lv_aload_n hx hb d_MO_reason_51 rfl (lv_at hl 0 rfl) ?_
          refine z_get (ci := 3) (C := R_MO) (T := F_MO) (N := 23) hx hb hts j_MO hown hK hS hM.ob rfl 9 (by decide) (hk k_513 rfl) (fun _ h9 => h9) rfl d_MO_reason_52 ?_
          refine lv_iload hx hb d_MO_reason_55 (lv_at hl 4 rfl) ?_
          refine mo_ld (v := F i 1) hx hb hK hS hM 9 hik (by decide) rfl d_MO_reason_57 ?_
          refine lv_iload_n hx hb d_MO_reason_58 rfl (lv_at hl 1 rfl) ?_
          refine lv_icmp_eq (tgt := 65) hx hb d_MO_reason_59 (by decide) (fun c_10 => ?_) (fun c_10 => ?_)
          · refine lv_iload_n hx hb d_MO_reason_65 rfl (lv_at hl 3 rfl) ?_
            refine lv_iload_n hx hb d_MO_reason_66 rfl (lv_at hl 2 rfl) ?_
            refine lv_if_ne (tgt := 74) hx hb d_MO_reason_67 (by decide) (fun c_11 => ?_) (fun c_11 => ?_)
            · refine lv_iload_n hx hb d_MO_reason_74 rfl (lv_at hl 2 rfl) ?_
              refine lv_iconst (v := 1) hx hb d_MO_reason_75 (by decide) ?_
              refine lv_icmp_ne (tgt := 89) hx hb d_MO_reason_76 (by decide) (fun c_12 => ?_) (fun c_12 => ?_)
              · refine lv_aload_n hx hb d_MO_reason_89 rfl (lv_at hl 0 rfl) ?_
                refine z_get (ci := 3) (C := R_MO) (T := F_MO) (N := 23) hx hb hts j_MO hown hK hS hM.ob rfl 10 (by decide) (hk k_514 rfl) (fun _ h9 => h9) rfl d_MO_reason_90 ?_
                refine lv_iload hx hb d_MO_reason_93 (lv_at hl 4 rfl) ?_
                refine mo_ld (v := F i 3) hx hb hK hS hM 10 hik (by decide) rfl d_MO_reason_95 ?_
                refine lv_iconst (v := 5) hx hb d_MO_reason_96 (by decide) ?_
                refine lv_icmp_ne (tgt := 104) hx hb d_MO_reason_97 (by decide) (fun c_13 => ?_) (fun c_13 => ?_)
                · refine lv_iconst (v := 0) hx hb d_MO_reason_104 (by decide) ?_
                  refine lv_iadd hx hb d_MO_reason_105 ?_
                  refine lv_istore_n (lv' := [(3, .int (t + 0)), (0, .ref mo), (1, .int p0), (2, .int p1), (4, .int (nI (i + 1)))]) hx hb d_MO_reason_106 rfl hl (by decide) rfl (fun ls hl => ?_)
                  refine lv_iinc (v := (nI (i + 1)) + 1) (lv' := [(4, .int ((nI (i + 1)) + 1)), (3, .int (t + 0)), (0, .ref mo), (1, .int p0), (2, .int p1)]) hx hb d_MO_reason_107 hl (k := 4) rfl rfl (by decide) rfl (fun ls hl => ?_)
                  refine lv_goto (tgt := 42) hx hb d_MO_reason_110 (by decide) ?_
                  exact ih (i + 1) (t + 0) ls (by omega) (by rw [z_smS, ← ht_t]; simp [hik, w_1, w_3, c_10, c_11, (show ¬ (0 : Int32) = p1 from fun h9 => c_11 h9.symm), c_12, (show ¬ (1 : Int32) = p1 from fun h9 => c_12 h9.symm), c_13, (show ¬ (5 : Int32) = F i 3 from fun h9 => c_13 h9.symm), z_of, hp1]) (by rw [nI_1] at hl; exact lv_sub hl [2, 3, 4, 1, 0] rfl)
                · refine lv_iconst (v := 1) hx hb d_MO_reason_100 (by decide) ?_
                  refine lv_goto (tgt := 105) hx hb d_MO_reason_101 (by decide) ?_
                  refine lv_iadd hx hb d_MO_reason_105 ?_
                  refine lv_istore_n (lv' := [(3, .int (t + 1)), (0, .ref mo), (1, .int p0), (2, .int p1), (4, .int (nI (i + 1)))]) hx hb d_MO_reason_106 rfl hl (by decide) rfl (fun ls hl => ?_)
                  refine lv_iinc (v := (nI (i + 1)) + 1) (lv' := [(4, .int ((nI (i + 1)) + 1)), (3, .int (t + 1)), (0, .ref mo), (1, .int p0), (2, .int p1)]) hx hb d_MO_reason_107 hl (k := 4) rfl rfl (by decide) rfl (fun ls hl => ?_)
                  refine lv_goto (tgt := 42) hx hb d_MO_reason_110 (by decide) ?_
                  exact ih (i + 1) (t + 1) ls (by omega) (by rw [z_smS, ← ht_t]; simp [hik, w_1, w_3, c_10, c_11, (show ¬ (0 : Int32) = p1 from fun h9 => c_11 h9.symm), c_12, (show ¬ (1 : Int32) = p1 from fun h9 => c_12 h9.symm), c_13, z_of, hp1]) (by rw [nI_1] at hl; exact lv_sub hl [2, 3, 4, 1, 0] rfl)
              · refine lv_aload_n hx hb d_MO_reason_79 rfl (lv_at hl 0 rfl) ?_
                refine z_get (ci := 3) (C := R_MO) (T := F_MO) (N := 23) hx hb hts j_MO hown hK hS hM.ob rfl 21 (by decide) (hk k_525 rfl) (fun _ h9 => h9) rfl d_MO_reason_80 ?_
                refine lv_iload hx hb d_MO_reason_83 (lv_at hl 4 rfl) ?_
                refine mo_ld (v := F i 13) hx hb hK hS hM 21 hik (by decide) rfl d_MO_reason_85 ?_
                refine lv_goto (tgt := 105) hx hb d_MO_reason_86 (by decide) ?_
                refine lv_iadd hx hb d_MO_reason_105 ?_
                refine lv_istore_n (lv' := [(3, .int (t + (F i 13))), (0, .ref mo), (1, .int p0), (2, .int p1), (4, .int (nI (i + 1)))]) hx hb d_MO_reason_106 rfl hl (by decide) rfl (fun ls hl => ?_)
                refine lv_iinc (v := (nI (i + 1)) + 1) (lv' := [(4, .int ((nI (i + 1)) + 1)), (3, .int (t + (F i 13))), (0, .ref mo), (1, .int p0), (2, .int p1)]) hx hb d_MO_reason_107 hl (k := 4) rfl rfl (by decide) rfl (fun ls hl => ?_)
                refine lv_goto (tgt := 42) hx hb d_MO_reason_110 (by decide) ?_
                exact ih (i + 1) (t + (F i 13)) ls (by omega) (by rw [z_smS, ← ht_t]; simp [hik, w_1, w_3, c_10, c_11, (show ¬ (0 : Int32) = p1 from fun h9 => c_11 h9.symm), c_12, z_of, hp1]) (by rw [nI_1] at hl; exact lv_sub hl [2, 3, 4, 1, 0] rfl)
            · refine lv_iconst (v := 1) hx hb d_MO_reason_70 (by decide) ?_
              refine lv_goto (tgt := 105) hx hb d_MO_reason_71 (by decide) ?_
              refine lv_iadd hx hb d_MO_reason_105 ?_
              refine lv_istore_n (lv' := [(3, .int (t + 1)), (0, .ref mo), (1, .int p0), (2, .int p1), (4, .int (nI (i + 1)))]) hx hb d_MO_reason_106 rfl hl (by decide) rfl (fun ls hl => ?_)
              refine lv_iinc (v := (nI (i + 1)) + 1) (lv' := [(4, .int ((nI (i + 1)) + 1)), (3, .int (t + 1)), (0, .ref mo), (1, .int p0), (2, .int p1)]) hx hb d_MO_reason_107 hl (k := 4) rfl rfl (by decide) rfl (fun ls hl => ?_)
              refine lv_goto (tgt := 42) hx hb d_MO_reason_110 (by decide) ?_
              exact ih (i + 1) (t + 1) ls (by omega) (by rw [z_smS, ← ht_t]; simp [hik, w_1, w_3, c_10, c_11, z_of, hp1]) (by rw [nI_1] at hl; exact lv_sub hl [2, 3, 4, 1, 0] rfl)
          · refine lv_goto (tgt := 107) hx hb d_MO_reason_62 (by decide) ?_
            refine lv_iinc (v := (nI (i + 1)) + 1) (lv' := [(4, .int ((nI (i + 1)) + 1)), (0, .ref mo), (1, .int p0), (2, .int p1), (3, .int t)]) hx hb d_MO_reason_107 hl (k := 4) rfl rfl (by decide) rfl (fun ls hl => ?_)
            refine lv_goto (tgt := 42) hx hb d_MO_reason_110 (by decide) ?_
            exact ih (i + 1) (t) ls (by omega) (by rw [z_smS, ← ht_t]; simp [hik, w_1, w_3, c_10, (show ¬ p0 = F i 1 from fun h9 => c_10 h9.symm), z_of, hp1]) (by rw [nI_1] at hl; exact lv_sub hl [1, 2, 3, 4, 0] rfl)
      exact hloop k 0 0 ls (Nat.zero_add _) rfl (lv_sub hl [2, 3, 4, 1, 0] rfl)
    · refine z_pi (v := 0) (n_MO_MO_in hx hown hG (by rw [hb]; exact d_MO_reason_14)) hb (hl.1.trans hml.symm) (c_MO_in l hl9 p1 0 2) (by rw [if_neg w_3]) (z_Gkeeps lo tP) hG hK hS (cw_MO_in hG (by decide) (by decide)) d_MO_reason_14 (Nat.le_of_ble_eq_true rfl) (by decide) (by decide) (fun H hq hS => ?_)
      refine lv_if_ne (tgt := 24) hx hb d_MO_reason_17 (by decide) (fun c_14 => absurd (by decide) c_14) (fun c_14 => ?_)
      refine lv_iconst (v := 1) hx hb d_MO_reason_20 (by decide) ?_
      refine lv_goto (tgt := 25) hx hb d_MO_reason_21 (by decide) ?_
      refine mo_code hx hb hG hown hK hS hM (v := 1) d_MO_reason_25 (fun H locs X_15 hS hM hF_16 => ?_)
      have hF := hF.tr hF_16
      refine lv_aload_n hx hb d_MO_reason_28 rfl (lv_at hl 0 rfl) ?_
      refine z_get (ci := 3) (C := R_MO) (T := F_MO) (N := 23) hx hb hts j_MO hown hK hS hM.ob rfl 0 (by decide) (hk k_504 rfl) (fun _ h9 => h9) rfl d_MO_reason_29 ?_
      refine lv_if_le (tgt := 37) hx hb d_MO_reason_32 (by decide) (fun c_17 => absurd c_17 (by decide)) (fun c_17 => ?_)
      refine lv_iconst (v := 0) hx hb d_MO_reason_35 (by decide) ?_
      exact z_Ciret hx hb hr rfl hlk hS (zV1 0 (by unfold cd_reason; rw [if_pos w_1, if_neg w_3]) hF hM) (by decide) (by decide) d_MO_reason_36
  · refine z_pi (v := 0) (n_MO_MO_in hx hown hG (by rw [hb]; exact d_MO_reason_5)) hb (hl.1.trans hml.symm) (c_MO_in l hl9 p0 0 7) (by rw [if_neg w_1]) (z_Gkeeps lo tP) hG hK hS (cw_MO_in hG (by decide) (by decide)) d_MO_reason_5 (Nat.le_of_ble_eq_true rfl) (by decide) (by decide) (fun H hq hS => ?_)
    refine lv_if_eq (tgt := 20) hx hb d_MO_reason_8 (by decide) (fun c_18 => ?_) (fun c_18 => absurd (by decide) c_18)
    refine lv_iconst (v := 1) hx hb d_MO_reason_20 (by decide) ?_
    refine lv_goto (tgt := 25) hx hb d_MO_reason_21 (by decide) ?_
    refine mo_code hx hb hG hown hK hS hM (v := 1) d_MO_reason_25 (fun H locs X_19 hS hM hF_20 => ?_)
    have hF := hF.tr hF_20
    refine lv_aload_n hx hb d_MO_reason_28 rfl (lv_at hl 0 rfl) ?_
    refine z_get (ci := 3) (C := R_MO) (T := F_MO) (N := 23) hx hb hts j_MO hown hK hS hM.ob rfl 0 (by decide) (hk k_504 rfl) (fun _ h9 => h9) rfl d_MO_reason_29 ?_
    refine lv_if_le (tgt := 37) hx hb d_MO_reason_32 (by decide) (fun c_21 => absurd c_21 (by decide)) (fun c_21 => ?_)
    refine lv_iconst (v := 0) hx hb d_MO_reason_35 (by decide) ?_
    exact z_Ciret hx hb hr rfl hlk hS (zV1 0 (by unfold cd_reason; rw [if_neg w_1]) hF hM) (by decide) (by decide) d_MO_reason_36
theorem z_er {t : Int32} {k : Nat} {td : Int32} {S : Nat → Nat → Int32} {I : Nat → Nat} {F : Nat → Nat → Int32} {p0 : Int32} (h : t = z_sm (fun j => if j < k ∧ S (I j) 1 = p0 ∧ ¬ 30 < td - F j 2 then 1 else 0) k) (hk : k ≤ 20) : t = an_recent k td S I F p0 := by
  rw [h, an_recent, z_sm_20 hk (fun j hj => if_neg (fun h => Nat.not_lt.mpr hj h.1))]
theorem z_er1 {t : Int32} {k : Nat} {td : Int32} {S : Nat → Nat → Int32} {I : Nat → Nat} {F : Nat → Nat → Int32} {p0 : Int32} (h : t = z_sm (fun j => if j < k ∧ S (I j) 1 = p0 ∧ ¬ 30 < td - F j 2 then 1 else 0) k) (hk : k ≤ 20) (h3 : 3 < t) : 3 < an_recent k td S I F p0 := by
  rw [← z_er h hk]
  exact h3
theorem z_er2 {t : Int32} {k : Nat} {td : Int32} {S : Nat → Nat → Int32} {I : Nat → Nat} {F : Nat → Nat → Int32} {p0 : Int32} (h : t = z_sm (fun j => if j < k ∧ S (I j) 1 = p0 ∧ ¬ 30 < td - F j 2 then 1 else 0) k) (hk : k ≤ 20) (h3 : 3 < an_recent k td S I F p0) : 3 < t := by
  rw [z_er h hk]
  exact h3
theorem z_k1 {v : Int32} (h : z_rg v 0 3) (h0 : ¬ v = 0) (h2 : ¬ v = 2) (h3 : ¬ 3 ≤ v) : v = 1 := by
  rcases z_cs3 h with rfl | rfl | rfl | rfl
  · exact absurd rfl h0
  · rfl
  · exact absurd rfl h2
  · exact absurd (by decide) h3
theorem z_k3 {v : Int32} (h : z_rg v 0 3) (h3 : 3 ≤ v) {a b c d : Int32} : (if v = 0 then a else if v = 1 then b else if v = 2 then c else d) = d := by
  rcases z_cs3 h with rfl | rfl | rfl | rfl
  · exact absurd h3 (by decide)
  · exact absurd h3 (by decide)
  · exact absurd h3 (by decide)
  · rfl
set_option maxHeartbeats 4000000 in
set_option maxRecDepth 100000 in
theorem c_MO_customer (l : Launch) (hl9 : l.stackTraces = false) {D : va_G} {cS cR cJ cI cZ : ClassId} {lo tP : Nat} (p0 p1 : Int32) {mo : Nat} {ad : Nat → Nat} {n k : Nat} {td code0 : Int32} {S : Nat → Nat → Int32} {I : Nat → Nat} {F : Nat → Nat → Int32} {X : zM} (hM : MI mo ad cI cZ n k td code0 S I F X) (hbl : ∀ j, j < k → F j 6 = 0 ∨ F j 6 = 1) : z_C (z_G lo tP) D cls4 (zty cS cR cJ cI cZ) lo l y_MO_customer w_MO_customer zrC [.ref mo, .int p0, .int p1] X (zV mo ad cI cZ (cd_customer p0 p1) (some (.int (an_customer n k td S I F p0 p1))) (some (.int 0)) X ⟨n, k, td, S, I, F⟩ ⟨n, k, td, S, I, F⟩) := by
  refine z_ofW (by decide) ?_
  intro p e s m args below meth c s₁ B hml hout hv
  obtain ⟨rfl, hG, hK, hW0, hXl, hlo⟩ := hv
  have hx := B.exec
  have hb := B.bytes
  have hr := B.returns
  have hlk := B.notSynchronized
  have hown : s.vm.findClass R_MO = some m.cls := findClass_of_methodNamed B.named
  have hts : ∀ w9 ∈ z_tb, w9.before ([.ref mo, .int p0, .int p1] : List Value).toArray s = true := hG.ts _
  have hk : ∀ {w9 : Cond}, w9 ∈ lw_tbl → z_ok w9 = true → w9.before ([.ref mo, .int p0, .int p1] : List Value).toArray s = true := fun h1 h2 => hG.w h1 h2 _
  have hg : z_Gr s.heap s.heap := z_Gr.rf
  have hS := z_S.start hW0 hXl hlo
  have hl := lv_entry ([.ref mo, .int p0, .int p1]) (n := 5) (Nat.le_of_ble_eq_true rfl)
  rw [lg_entry_eq]
  generalize (lg_sl ([.ref mo, .int p0, .int p1]) ++ List.replicate (5 - (lg_sl ([.ref mo, .int p0, .int p1])).length) Slot.unset).toArray = ls at hl ⊢
  have hl : lv_has ls 5 [(0, .ref mo), (1, .int p0), (2, .int p1)] := hl
  have hIn := hM.idx
  have hn20 := hM.n20
  have hk20 := hM.k20
  have hF : zFr 1 X X := zFr.rf
  refine lv_aload_n hx hb d_MO_customer_0 rfl (lv_at hl 0 rfl) ?_
  refine lv_iload_n hx hb d_MO_customer_1 rfl (lv_at hl 1 rfl) ?_
  refine lv_iconst (v := 0) hx hb d_MO_customer_2 (by decide) ?_
  refine lv_iconst (v := 5) hx hb d_MO_customer_3 (by decide) ?_
  by_cases w_1 : z_rg p0 0 5
  · refine z_pi (v := 1) (n_MO_MO_in hx hown hG (by rw [hb]; exact d_MO_customer_4)) hb (hl.1.trans hml.symm) (c_MO_in l hl9 p0 0 5) (by rw [if_pos w_1]) (z_Gkeeps lo tP) hG hK hS (cw_MO_in hG (by decide) (by decide)) d_MO_customer_4 (Nat.le_of_ble_eq_true rfl) (by decide) (by decide) (fun H hq hS => ?_)
    refine lv_if_eq (tgt := 19) hx hb d_MO_customer_7 (by decide) (fun c_2 => absurd c_2 (by decide)) (fun c_2 => ?_)
    refine lv_iload_n hx hb d_MO_customer_10 rfl (lv_at hl 2 rfl) ?_
    refine lv_iconst (v := 0) hx hb d_MO_customer_11 (by decide) ?_
    refine lv_iconst (v := 3) hx hb d_MO_customer_12 (by decide) ?_
    by_cases w_3 : z_rg p1 0 3
    · refine z_pi (v := 1) (n_MO_MO_in hx hown hG (by rw [hb]; exact d_MO_customer_13)) hb (hl.1.trans hml.symm) (c_MO_in l hl9 p1 0 3) (by rw [if_pos w_3]) (z_Gkeeps lo tP) hG hK hS (cw_MO_in hG (by decide) (by decide)) d_MO_customer_13 (Nat.le_of_ble_eq_true rfl) (by decide) (by decide) (fun H hq hS => ?_)
      refine lv_if_ne (tgt := 23) hx hb d_MO_customer_16 (by decide) (fun c_4 => ?_) (fun c_4 => absurd c_4 (by decide))
      refine lv_iconst (v := 0) hx hb d_MO_customer_23 (by decide) ?_
      refine mo_code hx hb hG hown hK hS hM (v := 0) d_MO_customer_24 (fun H locs X_5 hS hM hF_6 => ?_)
      have hF := hF.tr hF_6
      refine lv_aload_n hx hb d_MO_customer_27 rfl (lv_at hl 0 rfl) ?_
      refine z_get (ci := 3) (C := R_MO) (T := F_MO) (N := 23) hx hb hts j_MO hown hK hS hM.ob rfl 0 (by decide) (hk k_504 rfl) (fun _ h9 => h9) rfl d_MO_customer_28 ?_
      refine lv_if_le (tgt := 36) hx hb d_MO_customer_31 (by decide) (fun c_7 => ?_) (fun c_7 => absurd (by decide) c_7)
      have hc1 : ¬ p0 = -1 := fun h9 => w_1.1 (by rw [h9]; decide)
      refine lv_iconst (v := 0) hx hb d_MO_customer_36 (by decide) ?_
      refine lv_istore_n (lv' := [(3, .int 0), (0, .ref mo), (1, .int p0), (2, .int p1)]) hx hb d_MO_customer_37 rfl hl (by decide) rfl (fun ls hl => ?_)
      refine lv_iload_n hx hb d_MO_customer_38 rfl (lv_at hl 3 rfl) ?_
      refine lv_if_ne (tgt := 79) hx hb d_MO_customer_39 (by decide) (fun c_8 => ?_) (fun c_8 => ?_)
      · refine lv_iload_n hx hb d_MO_customer_79 rfl (lv_at hl 3 rfl) ?_
        refine lv_if_ne (tgt := 85) hx hb d_MO_customer_80 (by decide) (fun c_9 => ?_) (fun c_9 => absurd c_9 (c_8))
        refine lv_iload_n hx hb d_MO_customer_85 rfl (lv_at hl 3 rfl) ?_
        refine lv_iconst (v := 3) hx hb d_MO_customer_86 (by decide) ?_
        refine lv_icmp_ge (tgt := 106) hx hb d_MO_customer_87 (by decide) (fun c_10 => ?_) (fun c_10 => ?_)
        · refine lv_iconst (v := 1) hx hb d_MO_customer_106 (by decide) ?_
          refine lv_istore (lv' := [(4, .int 1), (3, .int 0), (0, .ref mo), (1, .int p0), (2, .int p1)]) hx hb d_MO_customer_107 hl (by decide) rfl (fun ls hl => ?_)
          have hloop : ∀ (dd i : Nat) (t : Int32) (ls : Array Slot), i + dd = k → t = z_sm (fun j => if j < k ∧ S (I j) 1 = p0 ∧ ¬ 30 < td - F j 2 then 1 else 0) i → lv_has ls 5 [(0, .ref mo), (1, .int p0), (2, .int p1), (3, .int t), (4, .int (nI (i + 1)))] → W p l e zrC s m ([.ref mo, .int p0, .int p1] : List Value).toArray below meth c H locs 0 0 (z_MQ below (z_Q D cls4 X (zV mo ad cI cZ (cd_customer p0 p1) (some (.int (an_customer n k td S I F p0 p1))) (some (.int 0)) X ⟨n, k, td, S, I, F⟩ ⟨n, k, td, S, I, F⟩)) ([.ref mo, .int p0, .int p1] : List Value).toArray s zrC.cells zrC.slots (fun q => lo ≤ q)) (F0 m 109 ls []) := by
            intro dd
            induction dd with
            | zero =>
              intro i t ls hi9 ht_t hl
              have hi9 : k = i := by omega
              subst hi9
              refine lv_iload hx hb d_MO_customer_109 (lv_at hl 4 rfl) ?_
              refine lv_aload_n hx hb d_MO_customer_111 rfl (lv_at hl 0 rfl) ?_
              refine z_get (ci := 3) (C := R_MO) (T := F_MO) (N := 23) hx hb hts j_MO hown hK hS hM.ob rfl 3 (by decide) (hk k_511 rfl) (fun _ h9 => h9) rfl d_MO_customer_112 ?_
              refine lv_icmp_gt (tgt := 165) hx hb d_MO_customer_115 (by decide) (fun c_11 => ?_) (fun c_11 => absurd (nI_lt (Nat.lt_succ_self k) (by omega)) c_11)
              refine lv_aload_n hx hb d_MO_customer_165 rfl (lv_at hl 0 rfl) ?_
              refine lv_iload_n hx hb d_MO_customer_166 rfl (lv_at hl 1 rfl) ?_
              refine lv_iconst (v := 1) hx hb d_MO_customer_167 (by decide) ?_
              refine z_pi (v := an_sum k S I F 3 (-1) p0) (n_MO_MO_returnsOf hx hown hG (va_recv hK (hS.1.one hM.ob) (ci := 3) (q0 := 0) rfl rfl) (by rw [hb]; exact d_MO_customer_168)) hb (hl.1.trans hml.symm) (c_MO_returnsOf_1 l hl9 p0 hM hc1 hbl) (rfl) (z_Gkeeps lo tP) hG hK hS (cw_MO_returnsOf hG (by decide) (by decide)) d_MO_customer_168 (Nat.le_of_ble_eq_true rfl) (by decide) (by decide) (fun H hq hS => ?_)
              refine lv_iconst (v := 1) hx hb d_MO_customer_171 (by decide) ?_
              refine lv_icmp_gt (tgt := 180) hx hb d_MO_customer_172 (by decide) (fun c_12 => ?_) (fun c_12 => ?_)
              · refine lv_iconst (v := 1) hx hb d_MO_customer_180 (by decide) ?_
                refine lv_goto (tgt := 185) hx hb d_MO_customer_181 (by decide) ?_
                exact z_Ciret hx hb hr rfl hlk hS (z_vv (zV0 (by unfold cd_customer; rw [if_pos w_1, if_pos w_3]) hF hM) (by rw [an_customer, z_k3 w_3 c_10]; exact if_pos (Or.inl ((z_1lt _).mp c_12)))) (by decide) (by decide) d_MO_customer_185
              · refine lv_iload_n hx hb d_MO_customer_175 rfl (lv_at hl 3 rfl) ?_
                refine lv_iconst (v := 3) hx hb d_MO_customer_176 (by decide) ?_
                refine lv_icmp_le (tgt := 184) hx hb d_MO_customer_177 (by decide) (fun c_13 => ?_) (fun c_13 => ?_)
                · refine lv_iconst (v := 0) hx hb d_MO_customer_184 (by decide) ?_
                  exact z_Ciret hx hb hr rfl hlk hS (z_vv (zV0 (by unfold cd_customer; rw [if_pos w_1, if_pos w_3]) hF hM) (by rw [an_customer, z_k3 w_3 c_10]; exact if_neg (fun h => h.elim (fun h => c_12 ((z_1lt _).mpr h)) (fun h => Int32.not_lt.mpr c_13 (z_er2 ht_t hk20 h))))) (by decide) (by decide) d_MO_customer_185
                · refine lv_iconst (v := 1) hx hb d_MO_customer_180 (by decide) ?_
                  refine lv_goto (tgt := 185) hx hb d_MO_customer_181 (by decide) ?_
                  exact z_Ciret hx hb hr rfl hlk hS (z_vv (zV0 (by unfold cd_customer; rw [if_pos w_1, if_pos w_3]) hF hM) (by rw [an_customer, z_k3 w_3 c_10]; exact if_pos (Or.inr (z_er1 ht_t hk20 (Int32.not_le.mp c_13))))) (by decide) (by decide) d_MO_customer_185
            | succ dd ih =>
              intro i t ls hi9 ht_t hl
              have hik : i < k := by omega
              refine lv_iload hx hb d_MO_customer_109 (lv_at hl 4 rfl) ?_
              refine lv_aload_n hx hb d_MO_customer_111 rfl (lv_at hl 0 rfl) ?_
              refine z_get (ci := 3) (C := R_MO) (T := F_MO) (N := 23) hx hb hts j_MO hown hK hS hM.ob rfl 3 (by decide) (hk k_511 rfl) (fun _ h9 => h9) rfl d_MO_customer_112 ?_
              refine lv_icmp_gt (tgt := 165) hx hb d_MO_customer_115 (by decide) (fun c_14 => absurd c_14 (nI_nlt (show i + 1 ≤ k by omega) (by omega))) (fun c_14 => ?_)
              refine lv_iload_n hx hb d_MO_customer_118 rfl (lv_at hl 3 rfl) ?_
              refine lv_aload_n hx hb d_MO_customer_119 rfl (lv_at hl 0 rfl) ?_
              refine z_get (ci := 3) (C := R_MO) (T := F_MO) (N := 23) hx hb hts j_MO hown hK hS hM.ob rfl 4 (by decide) (hk k_507 rfl) (fun _ h9 => h9) rfl d_MO_customer_120 ?_
              refine lv_aload_n hx hb d_MO_customer_123 rfl (lv_at hl 0 rfl) ?_
              refine z_get (ci := 3) (C := R_MO) (T := F_MO) (N := 23) hx hb hts j_MO hown hK hS hM.ob rfl 8 (by decide) (hk k_512 rfl) (fun _ h9 => h9) rfl d_MO_customer_124 ?_
              refine lv_iload hx hb d_MO_customer_127 (lv_at hl 4 rfl) ?_
              refine mo_ldI hx hb hK hS hM hik d_MO_customer_129 ?_
              refine mo_lds hx hb hK hS hM 4 (hIn i hik) (by decide) rfl d_MO_customer_130 ?_
              refine lv_iload_n hx hb d_MO_customer_131 rfl (lv_at hl 1 rfl) ?_
              refine lv_icmp_ne (tgt := 156) hx hb d_MO_customer_132 (by decide) (fun c_15 => ?_) (fun c_15 => ?_)
              · refine lv_iconst (v := 0) hx hb d_MO_customer_156 (by decide) ?_
                refine lv_iadd hx hb d_MO_customer_157 ?_
                refine lv_istore_n (lv' := [(3, .int (t + 0)), (0, .ref mo), (1, .int p0), (2, .int p1), (4, .int (nI (i + 1)))]) hx hb d_MO_customer_158 rfl hl (by decide) rfl (fun ls hl => ?_)
                refine lv_iinc (v := (nI (i + 1)) + 1) (lv' := [(4, .int ((nI (i + 1)) + 1)), (3, .int (t + 0)), (0, .ref mo), (1, .int p0), (2, .int p1)]) hx hb d_MO_customer_159 hl (k := 4) rfl rfl (by decide) rfl (fun ls hl => ?_)
                refine lv_goto (tgt := 109) hx hb d_MO_customer_162 (by decide) ?_
                exact ih (i + 1) (t + 0) ls (by omega) (by rw [z_smS, ← ht_t]; simp [hik, w_1, w_3, c_8, (show ¬ (0 : Int32) = p1 from fun h9 => c_8 h9.symm), c_10, c_15, (show ¬ p0 = S (I i) 1 from fun h9 => c_15 h9.symm)]) (by rw [nI_1] at hl; exact lv_sub hl [2, 3, 4, 1, 0] rfl)
              · refine lv_aload_n hx hb d_MO_customer_135 rfl (lv_at hl 0 rfl) ?_
                refine z_get (ci := 3) (C := R_MO) (T := F_MO) (N := 23) hx hb hts j_MO hown hK hS hM.ob rfl 1 (by decide) (hk k_505 rfl) (fun _ h9 => h9) rfl d_MO_customer_136 ?_
                refine lv_aload_n hx hb d_MO_customer_139 rfl (lv_at hl 0 rfl) ?_
                refine z_get (ci := 3) (C := R_MO) (T := F_MO) (N := 23) hx hb hts j_MO hown hK hS hM.ob rfl 11 (by decide) (hk k_515 rfl) (fun _ h9 => h9) rfl d_MO_customer_140 ?_
                refine lv_iload hx hb d_MO_customer_143 (lv_at hl 4 rfl) ?_
                refine mo_ld (v := F i 2) hx hb hK hS hM 11 hik (by decide) rfl d_MO_customer_145 ?_
                refine lv_isub hx hb d_MO_customer_146 ?_
                refine lv_bipush (v := 30) hx hb d_MO_customer_147 (by decide) ?_
                refine lv_icmp_gt (tgt := 156) hx hb d_MO_customer_149 (by decide) (fun c_16 => ?_) (fun c_16 => ?_)
                · refine lv_iconst (v := 0) hx hb d_MO_customer_156 (by decide) ?_
                  refine lv_iadd hx hb d_MO_customer_157 ?_
                  refine lv_istore_n (lv' := [(3, .int (t + 0)), (0, .ref mo), (1, .int p0), (2, .int p1), (4, .int (nI (i + 1)))]) hx hb d_MO_customer_158 rfl hl (by decide) rfl (fun ls hl => ?_)
                  refine lv_iinc (v := (nI (i + 1)) + 1) (lv' := [(4, .int ((nI (i + 1)) + 1)), (3, .int (t + 0)), (0, .ref mo), (1, .int p0), (2, .int p1)]) hx hb d_MO_customer_159 hl (k := 4) rfl rfl (by decide) rfl (fun ls hl => ?_)
                  refine lv_goto (tgt := 109) hx hb d_MO_customer_162 (by decide) ?_
                  exact ih (i + 1) (t + 0) ls (by omega) (by rw [z_smS, ← ht_t]; simp [hik, w_1, w_3, c_8, (show ¬ (0 : Int32) = p1 from fun h9 => c_8 h9.symm), c_10, c_15, c_16]) (by rw [nI_1] at hl; exact lv_sub hl [2, 3, 4, 1, 0] rfl)
                · refine lv_iconst (v := 1) hx hb d_MO_customer_152 (by decide) ?_
                  refine lv_goto (tgt := 157) hx hb d_MO_customer_153 (by decide) ?_
                  refine lv_iadd hx hb d_MO_customer_157 ?_
                  refine lv_istore_n (lv' := [(3, .int (t + 1)), (0, .ref mo), (1, .int p0), (2, .int p1), (4, .int (nI (i + 1)))]) hx hb d_MO_customer_158 rfl hl (by decide) rfl (fun ls hl => ?_)
                  refine lv_iinc (v := (nI (i + 1)) + 1) (lv' := [(4, .int ((nI (i + 1)) + 1)), (3, .int (t + 1)), (0, .ref mo), (1, .int p0), (2, .int p1)]) hx hb d_MO_customer_159 hl (k := 4) rfl rfl (by decide) rfl (fun ls hl => ?_)
                  refine lv_goto (tgt := 109) hx hb d_MO_customer_162 (by decide) ?_
                  exact ih (i + 1) (t + 1) ls (by omega) (by rw [z_smS, ← ht_t]; simp [hik, w_1, w_3, c_8, (show ¬ (0 : Int32) = p1 from fun h9 => c_8 h9.symm), c_10, c_15, c_16]) (by rw [nI_1] at hl; exact lv_sub hl [2, 3, 4, 1, 0] rfl)
          exact hloop k 0 0 ls (Nat.zero_add _) rfl (lv_sub hl [2, 3, 4, 1, 0] rfl)
        · refine lv_aload_n hx hb d_MO_customer_90 rfl (lv_at hl 1 rfl) ?_
          refine lv_iload_n hx hb d_MO_customer_91 rfl (lv_at hl 2 rfl) ?_
          refine lv_iload_n hx hb d_MO_customer_92 rfl (lv_at hl 3 rfl) ?_
          refine lv_iconst (v := 2) hx hb d_MO_customer_93 (by decide) ?_
          refine lv_icmp_ne (tgt := 101) hx hb d_MO_customer_94 (by decide) (fun c_17 => ?_) (fun c_17 => ?_)
          · refine lv_iconst (v := 0) hx hb d_MO_customer_101 (by decide) ?_
            refine z_pi (v := an_sum k S I F 0 (-1) p0) (n_MO_MO_returnsOf hx hown hG (va_recv hK (hS.1.one hM.ob) (ci := 3) (q0 := 0) rfl rfl) (by rw [hb]; exact d_MO_customer_102)) hb (hl.1.trans hml.symm) (c_MO_returnsOf_0 l hl9 p0 hM hc1 hbl) (rfl) (z_Gkeeps lo tP) hG hK hS (cw_MO_returnsOf hG (by decide) (by decide)) d_MO_customer_102 (Nat.le_of_ble_eq_true rfl) (by decide) (by decide) (fun H hq hS => ?_)
            exact z_Ciret hx hb hr rfl hlk hS (z_vv (zV0 (by unfold cd_customer; rw [if_pos w_1, if_pos w_3]) hF hM) (by rw [an_customer, if_neg c_8, if_pos (z_k1 w_3 c_8 c_17 c_10)])) (by decide) (by decide) d_MO_customer_105
          · refine lv_iconst (v := 1) hx hb d_MO_customer_97 (by decide) ?_
            refine lv_goto (tgt := 102) hx hb d_MO_customer_98 (by decide) ?_
            refine z_pi (v := an_sum k S I F 3 (-1) p0) (n_MO_MO_returnsOf hx hown hG (va_recv hK (hS.1.one hM.ob) (ci := 3) (q0 := 0) rfl rfl) (by rw [hb]; exact d_MO_customer_102)) hb (hl.1.trans hml.symm) (c_MO_returnsOf_1 l hl9 p0 hM hc1 hbl) (rfl) (z_Gkeeps lo tP) hG hK hS (cw_MO_returnsOf hG (by decide) (by decide)) d_MO_customer_102 (Nat.le_of_ble_eq_true rfl) (by decide) (by decide) (fun H hq hS => ?_)
            exact z_Ciret hx hb hr rfl hlk hS (z_vv (zV0 (by unfold cd_customer; rw [if_pos w_1, if_pos w_3]) hF hM) (by rw [an_customer, if_neg c_8, if_neg (fun h9 => absurd (h9.symm.trans c_17) (by decide)), if_pos c_17])) (by decide) (by decide) d_MO_customer_105
      · refine lv_iconst (v := 0) hx hb d_MO_customer_42 (by decide) ?_
        refine lv_istore (lv' := [(4, .int 0), (3, .int 0), (0, .ref mo), (1, .int p0), (2, .int p1)]) hx hb d_MO_customer_43 hl (by decide) rfl (fun ls hl => ?_)
        have hloop : ∀ (dd i : Nat) (t : Int32) (ls : Array Slot), i + dd = n → t = z_sm (fun j => if j < n ∧ S j 1 = p0 then 1 else 0) i → lv_has ls 5 [(0, .ref mo), (1, .int p0), (2, .int p1), (3, .int t), (4, .int (nI i))] → W p l e zrC s m ([.ref mo, .int p0, .int p1] : List Value).toArray below meth c H locs 0 0 (z_MQ below (z_Q D cls4 X (zV mo ad cI cZ (cd_customer p0 p1) (some (.int (an_customer n k td S I F p0 p1))) (some (.int 0)) X ⟨n, k, td, S, I, F⟩ ⟨n, k, td, S, I, F⟩)) ([.ref mo, .int p0, .int p1] : List Value).toArray s zrC.cells zrC.slots (fun q => lo ≤ q)) (F0 m 45 ls []) := by
          intro dd
          induction dd with
          | zero =>
            intro i t ls hi9 ht_t hl
            have hi9 : n = i := by omega
            subst hi9
            refine lv_iload hx hb d_MO_customer_45 (lv_at hl 4 rfl) ?_
            refine lv_aload_n hx hb d_MO_customer_47 rfl (lv_at hl 0 rfl) ?_
            refine z_get (ci := 3) (C := R_MO) (T := F_MO) (N := 23) hx hb hts j_MO hown hK hS hM.ob rfl 2 (by decide) (hk k_506 rfl) (fun _ h9 => h9) rfl d_MO_customer_48 ?_
            refine lv_icmp_ge (tgt := 79) hx hb d_MO_customer_51 (by decide) (fun c_18 => ?_) (fun c_18 => absurd (nI_le (Nat.le_refl n) (by omega)) c_18)
            refine lv_iload_n hx hb d_MO_customer_79 rfl (lv_at hl 2 rfl) ?_
            refine lv_if_ne (tgt := 85) hx hb d_MO_customer_80 (by decide) (fun c_19 => absurd (c_8) c_19) (fun c_19 => ?_)
            refine lv_iload_n hx hb d_MO_customer_83 rfl (lv_at hl 3 rfl) ?_
            exact z_Ciret hx hb hr rfl hlk hS (z_vv (zV0 (by unfold cd_customer; rw [if_pos w_1, if_pos w_3]) hF hM) (by rw [ht_t, an_customer, if_pos c_8, an_salesTo, z_sm_20 hn20 (fun j hj => if_neg (fun h => Nat.not_lt.mpr hj h.1))])) (by decide) (by decide) d_MO_customer_84
          | succ dd ih =>
            intro i t ls hi9 ht_t hl
            have hik : i < n := by omega
            refine lv_iload hx hb d_MO_customer_45 (lv_at hl 4 rfl) ?_
            refine lv_aload_n hx hb d_MO_customer_47 rfl (lv_at hl 0 rfl) ?_
            refine z_get (ci := 3) (C := R_MO) (T := F_MO) (N := 23) hx hb hts j_MO hown hK hS hM.ob rfl 2 (by decide) (hk k_506 rfl) (fun _ h9 => h9) rfl d_MO_customer_48 ?_
            refine lv_icmp_ge (tgt := 79) hx hb d_MO_customer_51 (by decide) (fun c_20 => absurd c_20 (nI_ge hik (by omega))) (fun c_20 => ?_)
            refine lv_iload_n hx hb d_MO_customer_54 rfl (lv_at hl 3 rfl) ?_
            refine lv_aload_n hx hb d_MO_customer_55 rfl (lv_at hl 0 rfl) ?_
            refine z_get (ci := 3) (C := R_MO) (T := F_MO) (N := 23) hx hb hts j_MO hown hK hS hM.ob rfl 4 (by decide) (hk k_507 rfl) (fun _ h9 => h9) rfl d_MO_customer_56 ?_
            refine lv_iload hx hb d_MO_customer_59 (lv_at hl 4 rfl) ?_
            refine mo_lds hx hb hK hS hM 4 hik (by decide) rfl d_MO_customer_61 ?_
            refine lv_iload_n hx hb d_MO_customer_62 rfl (lv_at hl 1 rfl) ?_
            refine lv_icmp_ne (tgt := 70) hx hb d_MO_customer_63 (by decide) (fun c_21 => ?_) (fun c_21 => ?_)
            · refine lv_iconst (v := 0) hx hb d_MO_customer_70 (by decide) ?_
              refine lv_iadd hx hb d_MO_customer_71 ?_
              refine lv_istore_n (lv' := [(3, .int (t + 0)), (0, .ref mo), (1, .int p0), (2, .int p1), (4, .int (nI i))]) hx hb d_MO_customer_72 rfl hl (by decide) rfl (fun ls hl => ?_)
              refine lv_iinc (v := (nI i) + 1) (lv' := [(4, .int ((nI i) + 1)), (3, .int (t + 0)), (0, .ref mo), (1, .int p0), (2, .int p1)]) hx hb d_MO_customer_73 hl (k := 4) rfl rfl (by decide) rfl (fun ls hl => ?_)
              refine lv_goto (tgt := 45) hx hb d_MO_customer_76 (by decide) ?_
              exact ih (i + 1) (t + 0) ls (by omega) (by rw [z_smS, ← ht_t]; simp [hik, w_1, w_3, c_8, c_21, (show ¬ p0 = S i 1 from fun h9 => c_21 h9.symm)]) (by rw [nI_1] at hl; exact lv_sub hl [2, 3, 4, 1, 0] rfl)
            · refine lv_iconst (v := 1) hx hb d_MO_customer_66 (by decide) ?_
              refine lv_goto (tgt := 71) hx hb d_MO_customer_67 (by decide) ?_
              refine lv_iadd hx hb d_MO_customer_71 ?_
              refine lv_istore_n (lv' := [(3, .int (t + 1)), (0, .ref mo), (1, .int p0), (2, .int p1), (4, .int (nI i))]) hx hb d_MO_customer_72 rfl hl (by decide) rfl (fun ls hl => ?_)
              refine lv_iinc (v := (nI i) + 1) (lv' := [(4, .int ((nI i) + 1)), (3, .int (t + 1)), (0, .ref mo), (1, .int p0), (2, .int p1)]) hx hb d_MO_customer_73 hl (k := 4) rfl rfl (by decide) rfl (fun ls hl => ?_)
              refine lv_goto (tgt := 45) hx hb d_MO_customer_76 (by decide) ?_
              exact ih (i + 1) (t + 1) ls (by omega) (by rw [z_smS, ← ht_t]; simp [hik, w_1, w_3, c_8, c_21]) (by rw [nI_1] at hl; exact lv_sub hl [2, 3, 4, 1, 0] rfl)
        exact hloop n 0 0 ls (Nat.zero_add _) rfl (lv_sub hl [2, 3, 4, 1, 0] rfl)
    · refine z_pi (v := 0) (n_MO_MO_in hx hown hG (by rw [hb]; exact d_MO_customer_13)) hb (hl.1.trans hml.symm) (c_MO_in l hl9 p1 0 3) (by rw [if_neg w_3]) (z_Gkeeps lo tP) hG hK hS (cw_MO_in hG (by decide) (by decide)) d_MO_customer_13 (Nat.le_of_ble_eq_true rfl) (by decide) (by decide) (fun H hq hS => ?_)
      refine lv_if_ne (tgt := 23) hx hb d_MO_customer_16 (by decide) (fun c_22 => absurd (by decide) c_22) (fun c_22 => ?_)
      refine lv_iconst (v := 1) hx hb d_MO_customer_19 (by decide) ?_
      refine lv_goto (tgt := 24) hx hb d_MO_customer_20 (by decide) ?_
      refine mo_code hx hb hG hown hK hS hM (v := 1) d_MO_customer_24 (fun H locs X_23 hS hM hF_24 => ?_)
      have hF := hF.tr hF_24
      refine lv_aload_n hx hb d_MO_customer_27 rfl (lv_at hl 0 rfl) ?_
      refine z_get (ci := 3) (C := R_MO) (T := F_MO) (N := 23) hx hb hts j_MO hown hK hS hM.ob rfl 0 (by decide) (hk k_504 rfl) (fun _ h9 => h9) rfl d_MO_customer_28 ?_
      refine lv_if_le (tgt := 36) hx hb d_MO_customer_31 (by decide) (fun c_25 => absurd c_25 (by decide)) (fun c_25 => ?_)
      refine lv_iconst (v := 0) hx hb d_MO_customer_34 (by decide) ?_
      exact z_Ciret hx hb hr rfl hlk hS (zV1 0 (by unfold cd_customer; rw [if_pos w_1, if_neg w_3]) hF hM) (by decide) (by decide) d_MO_customer_35
  · refine z_pi (v := 0) (n_MO_MO_in hx hown hG (by rw [hb]; exact d_MO_customer_4)) hb (hl.1.trans hml.symm) (c_MO_in l hl9 p0 0 5) (by rw [if_neg w_1]) (z_Gkeeps lo tP) hG hK hS (cw_MO_in hG (by decide) (by decide)) d_MO_customer_4 (Nat.le_of_ble_eq_true rfl) (by decide) (by decide) (fun H hq hS => ?_)
    refine lv_if_eq (tgt := 19) hx hb d_MO_customer_7 (by decide) (fun c_26 => ?_) (fun c_26 => absurd (by decide) c_26)
    refine lv_iconst (v := 1) hx hb d_MO_customer_19 (by decide) ?_
    refine lv_goto (tgt := 24) hx hb d_MO_customer_20 (by decide) ?_
    refine mo_code hx hb hG hown hK hS hM (v := 1) d_MO_customer_24 (fun H locs X_27 hS hM hF_28 => ?_)
    have hF := hF.tr hF_28
    refine lv_aload_n hx hb d_MO_customer_27 rfl (lv_at hl 0 rfl) ?_
    refine z_get (ci := 3) (C := R_MO) (T := F_MO) (N := 23) hx hb hts j_MO hown hK hS hM.ob rfl 0 (by decide) (hk k_504 rfl) (fun _ h9 => h9) rfl d_MO_customer_28 ?_
    refine lv_if_le (tgt := 36) hx hb d_MO_customer_31 (by decide) (fun c_29 => absurd c_29 (by decide)) (fun c_29 => ?_)
    refine lv_iconst (v := 0) hx hb d_MO_customer_34 (by decide) ?_
    exact z_Ciret hx hb hr rfl hlk hS (zV1 0 (by unfold cd_customer; rw [if_neg w_1]) hF hM) (by decide) (by decide) d_MO_customer_35
theorem z_cn3 {k : Nat} {S : Nat → Nat → Int32} {I : Nat → Nat} {F : Nat → Nat → Int32} {p0 : Int32} (h : p0 = 3) : an_sum k S I F 4 (-1) (-1) = z_sm (fun j => if j < k then (if p0 = 3 then (if F j 5 = 0 then 0 else 1) else if p0 = 7 then F j 13 else 0) else 0) 20 := by
  subst h
  unfold an_sum
  simp [z_of, z_me]
theorem z_cn7 {k : Nat} {S : Nat → Nat → Int32} {I : Nat → Nat} {F : Nat → Nat → Int32} {p0 : Int32} (h : p0 = 7) : an_sum k S I F 1 (-1) (-1) = z_sm (fun j => if j < k then (if p0 = 3 then (if F j 5 = 0 then 0 else 1) else if p0 = 7 then F j 13 else 0) else 0) 20 := by
  subst h
  unfold an_sum
  simp [z_of, z_me]
theorem z_cnb {n k : Nat} {td : Int32} {S : Nat → Nat → Int32} {I : Nat → Nat} {F : Nat → Nat → Int32} {p0 : Int32} (h : z_rg p0 4 6) : an_count n k td S I F p0 = an_back k F (p0 - 4) := by
  rcases z_cs46 h with rfl | rfl | rfl
  · rfl
  · rfl
  · rfl
theorem z_sm_20e {k : Nat} (hk : k ≤ 20) {a : Nat → Int32} : z_sm (fun j => if j < k then a j else 0) k = z_sm (fun j => if j < k then a j else 0) 20 := (z_sm_20 hk (fun j hj => if_neg (Nat.not_lt.mpr hj))).symm
set_option maxHeartbeats 4000000 in
set_option maxRecDepth 100000 in
theorem c_MO_count (l : Launch) (hl9 : l.stackTraces = false) {D : va_G} {cS cR cJ cI cZ : ClassId} {lo tP : Nat} (p0 : Int32) {mo : Nat} {ad : Nat → Nat} {n k : Nat} {td code0 : Int32} {S : Nat → Nat → Int32} {I : Nat → Nat} {F : Nat → Nat → Int32} {X : zM} (hM : MI mo ad cI cZ n k td code0 S I F X) : z_C (z_G lo tP) D cls4 (zty cS cR cJ cI cZ) lo l y_MO_count w_MO_count zrC [.ref mo, .int p0] X (zV mo ad cI cZ 0 (some (.int (an_count n k td S I F p0))) (some (.int 0)) X ⟨n, k, td, S, I, F⟩ ⟨n, k, td, S, I, F⟩) := by
  refine z_ofW (by decide) ?_
  intro p e s m args below meth c s₁ B hml hout hv
  obtain ⟨rfl, hG, hK, hW0, hXl, hlo⟩ := hv
  have hx := B.exec
  have hb := B.bytes
  have hr := B.returns
  have hlk := B.notSynchronized
  have hown : s.vm.findClass R_MO = some m.cls := findClass_of_methodNamed B.named
  have hts : ∀ w9 ∈ z_tb, w9.before ([.ref mo, .int p0] : List Value).toArray s = true := hG.ts _
  have hk : ∀ {w9 : Cond}, w9 ∈ lw_tbl → z_ok w9 = true → w9.before ([.ref mo, .int p0] : List Value).toArray s = true := fun h1 h2 => hG.w h1 h2 _
  have hg : z_Gr s.heap s.heap := z_Gr.rf
  have hS := z_S.start hW0 hXl hlo
  have hl := lv_entry ([.ref mo, .int p0]) (n := 4) (Nat.le_of_ble_eq_true rfl)
  rw [lg_entry_eq]
  generalize (lg_sl ([.ref mo, .int p0]) ++ List.replicate (4 - (lg_sl ([.ref mo, .int p0])).length) Slot.unset).toArray = ls at hl ⊢
  have hl : lv_has ls 4 [(0, .ref mo), (1, .int p0)] := hl
  have hIn := hM.idx
  have hn20 := hM.n20
  have hk20 := hM.k20
  have hF : zFr 1 X X := zFr.rf
  refine lv_aload_n hx hb d_MO_count_0 rfl (lv_at hl 0 rfl) ?_
  refine lv_iconst (v := 0) hx hb d_MO_count_1 (by decide) ?_
  refine mo_code hx hb hG hown hK hS hM (v := 0) d_MO_count_2 (fun H locs X_1 hS hM hF_2 => ?_)
  have hF := hF.tr hF_2
  refine lv_iload_n hx hb d_MO_count_5 rfl (lv_at hl 1 rfl) ?_
  refine lv_if_ne (tgt := 14) hx hb d_MO_count_6 (by decide) (fun c_3 => ?_) (fun c_3 => ?_)
  · refine lv_iload_n hx hb d_MO_count_14 rfl (lv_at hl 1 rfl) ?_
    refine lv_iconst (v := 1) hx hb d_MO_count_15 (by decide) ?_
    refine lv_icmp_ne (tgt := 24) hx hb d_MO_count_16 (by decide) (fun c_4 => ?_) (fun c_4 => ?_)
    · refine lv_iload_n hx hb d_MO_count_24 rfl (lv_at hl 1 rfl) ?_
      refine lv_iconst (v := 2) hx hb d_MO_count_25 (by decide) ?_
      refine lv_icmp_ne (tgt := 34) hx hb d_MO_count_26 (by decide) (fun c_5 => ?_) (fun c_5 => ?_)
      · refine lv_iload_n hx hb d_MO_count_34 rfl (lv_at hl 1 rfl) ?_
        refine lv_iconst (v := 4) hx hb d_MO_count_35 (by decide) ?_
        refine lv_bipush (v := 6) hx hb d_MO_count_36 (by decide) ?_
        by_cases w_6 : z_rg p0 4 6
        · refine z_pi (v := 1) (n_MO_MO_in hx hown hG (by rw [hb]; exact d_MO_count_38)) hb (hl.1.trans hml.symm) (c_MO_in l hl9 p0 4 6) (by rw [if_pos w_6]) (z_Gkeeps lo tP) hG hK hS (cw_MO_in hG (by decide) (by decide)) d_MO_count_38 (Nat.le_of_ble_eq_true rfl) (by decide) (by decide) (fun H hq hS => ?_)
          refine lv_if_eq (tgt := 52) hx hb d_MO_count_41 (by decide) (fun c_7 => absurd c_7 (by decide)) (fun c_7 => ?_)
          refine lv_aload_n hx hb d_MO_count_44 rfl (lv_at hl 0 rfl) ?_
          refine lv_iload_n hx hb d_MO_count_45 rfl (lv_at hl 1 rfl) ?_
          refine lv_iconst (v := 4) hx hb d_MO_count_46 (by decide) ?_
          refine lv_isub hx hb d_MO_count_47 ?_
          refine z_pi (v := an_back k F (p0 - 4)) (n_MO_MO_backs hx hown hG (va_recv hK (hS.1.one hM.ob) (ci := 3) (q0 := 0) rfl rfl) (by rw [hb]; exact d_MO_count_48)) hb (hl.1.trans hml.symm) (c_MO_backs l hl9 (p0 - 4) hM) (rfl) (z_Gkeeps lo tP) hG hK hS (cw_MO_backs hG (by decide) (by decide)) d_MO_count_48 (Nat.le_of_ble_eq_true rfl) (by decide) (by decide) (fun H hq hS => ?_)
          exact z_Ciret hx hb hr rfl hlk hS (z_vv (zV0 rfl hF hM) (z_cnb w_6)) (by decide) (by decide) d_MO_count_51
        · refine z_pi (v := 0) (n_MO_MO_in hx hown hG (by rw [hb]; exact d_MO_count_38)) hb (hl.1.trans hml.symm) (c_MO_in l hl9 p0 4 6) (by rw [if_neg w_6]) (z_Gkeeps lo tP) hG hK hS (cw_MO_in hG (by decide) (by decide)) d_MO_count_38 (Nat.le_of_ble_eq_true rfl) (by decide) (by decide) (fun H hq hS => ?_)
          refine lv_if_eq (tgt := 52) hx hb d_MO_count_41 (by decide) (fun c_8 => ?_) (fun c_8 => absurd (by decide) c_8)
          refine lv_iconst (v := 0) hx hb d_MO_count_52 (by decide) ?_
          refine lv_istore_n (lv' := [(2, .int 0), (0, .ref mo), (1, .int p0)]) hx hb d_MO_count_53 rfl hl (by decide) rfl (fun ls hl => ?_)
          refine lv_iconst (v := 1) hx hb d_MO_count_54 (by decide) ?_
          refine lv_istore_n (lv' := [(3, .int 1), (2, .int 0), (0, .ref mo), (1, .int p0)]) hx hb d_MO_count_55 rfl hl (by decide) rfl (fun ls hl => ?_)
          have hloop : ∀ (dd i : Nat) (t : Int32) (ls : Array Slot), i + dd = k → t = z_sm (fun j => if j < k then (if p0 = 3 then (if F j 5 = 0 then 0 else 1) else if p0 = 7 then F j 13 else 0) else 0) i → lv_has ls 4 [(0, .ref mo), (1, .int p0), (2, .int t), (3, .int (nI (i + 1)))] → W p l e zrC s m ([.ref mo, .int p0] : List Value).toArray below meth c H locs 0 0 (z_MQ below (z_Q D cls4 X (zV mo ad cI cZ 0 (some (.int (an_count n k td S I F p0))) (some (.int 0)) X ⟨n, k, td, S, I, F⟩ ⟨n, k, td, S, I, F⟩)) ([.ref mo, .int p0] : List Value).toArray s zrC.cells zrC.slots (fun q => lo ≤ q)) (F0 m 56 ls []) := by
            intro dd
            induction dd with
            | zero =>
              intro i t ls hi9 ht_t hl
              have hi9 : k = i := by omega
              subst hi9
              refine lv_iload_n hx hb d_MO_count_56 rfl (lv_at hl 3 rfl) ?_
              refine lv_aload_n hx hb d_MO_count_57 rfl (lv_at hl 0 rfl) ?_
              refine z_get (ci := 3) (C := R_MO) (T := F_MO) (N := 23) hx hb hts j_MO hown hK hS hM.ob rfl 3 (by decide) (hk k_511 rfl) (fun _ h9 => h9) rfl d_MO_count_58 ?_
              refine lv_icmp_gt (tgt := 111) hx hb d_MO_count_61 (by decide) (fun c_9 => ?_) (fun c_9 => absurd (nI_lt (Nat.lt_succ_self k) (by omega)) c_9)
              refine lv_iload_n hx hb d_MO_count_111 rfl (lv_at hl 1 rfl) ?_
              refine lv_iconst (v := 3) hx hb d_MO_count_112 (by decide) ?_
              refine lv_icmp_eq (tgt := 122) hx hb d_MO_count_113 (by decide) (fun c_10 => ?_) (fun c_10 => ?_)
              · refine lv_iload_n hx hb d_MO_count_122 rfl (lv_at hl 2 rfl) ?_
                refine lv_goto (tgt := 127) hx hb d_MO_count_123 (by decide) ?_
                exact z_Ciret hx hb hr rfl hlk hS (z_vv (zV0 rfl hF hM) (by rw [ht_t, z_sm_20e hk20, ← z_cn3 (S := S) (I := I) c_10]; subst c_10; rfl)) (by decide) (by decide) d_MO_count_127
              · refine lv_iload_n hx hb d_MO_count_116 rfl (lv_at hl 1 rfl) ?_
                refine lv_bipush (v := 7) hx hb d_MO_count_117 (by decide) ?_
                refine lv_icmp_ne (tgt := 126) hx hb d_MO_count_119 (by decide) (fun c_11 => ?_) (fun c_11 => ?_)
                · refine lv_iconst (v := (-1)) hx hb d_MO_count_126 (by decide) ?_
                  exact z_Ciret hx hb hr rfl hlk hS (z_vv (zV0 rfl hF hM) (by rw [an_count, if_neg c_3, if_neg c_4, if_neg c_5, if_neg c_10, if_neg (fun h9 => w_6 (by rw [h9]; decide)), if_neg (fun h9 => w_6 (by rw [h9]; decide)), if_neg (fun h9 => w_6 (by rw [h9]; decide)), if_neg c_11])) (by decide) (by decide) d_MO_count_127
                · refine lv_iload_n hx hb d_MO_count_122 rfl (lv_at hl 2 rfl) ?_
                  refine lv_goto (tgt := 127) hx hb d_MO_count_123 (by decide) ?_
                  exact z_Ciret hx hb hr rfl hlk hS (z_vv (zV0 rfl hF hM) (by rw [ht_t, z_sm_20e hk20, ← z_cn7 (S := S) (I := I) c_11]; subst c_11; rfl)) (by decide) (by decide) d_MO_count_127
            | succ dd ih =>
              intro i t ls hi9 ht_t hl
              have hik : i < k := by omega
              refine lv_iload_n hx hb d_MO_count_56 rfl (lv_at hl 3 rfl) ?_
              refine lv_aload_n hx hb d_MO_count_57 rfl (lv_at hl 0 rfl) ?_
              refine z_get (ci := 3) (C := R_MO) (T := F_MO) (N := 23) hx hb hts j_MO hown hK hS hM.ob rfl 3 (by decide) (hk k_511 rfl) (fun _ h9 => h9) rfl d_MO_count_58 ?_
              refine lv_icmp_gt (tgt := 111) hx hb d_MO_count_61 (by decide) (fun c_12 => absurd c_12 (nI_nlt (show i + 1 ≤ k by omega) (by omega))) (fun c_12 => ?_)
              refine lv_iload_n hx hb d_MO_count_64 rfl (lv_at hl 2 rfl) ?_
              refine lv_iload_n hx hb d_MO_count_65 rfl (lv_at hl 1 rfl) ?_
              refine lv_iconst (v := 3) hx hb d_MO_count_66 (by decide) ?_
              refine lv_icmp_ne (tgt := 87) hx hb d_MO_count_67 (by decide) (fun c_13 => ?_) (fun c_13 => ?_)
              · refine lv_iload_n hx hb d_MO_count_87 rfl (lv_at hl 1 rfl) ?_
                refine lv_bipush (v := 7) hx hb d_MO_count_88 (by decide) ?_
                refine lv_icmp_ne (tgt := 102) hx hb d_MO_count_90 (by decide) (fun c_14 => ?_) (fun c_14 => ?_)
                · refine lv_iconst (v := 0) hx hb d_MO_count_102 (by decide) ?_
                  refine lv_iadd hx hb d_MO_count_103 ?_
                  refine lv_istore_n (lv' := [(2, .int (t + 0)), (0, .ref mo), (1, .int p0), (3, .int (nI (i + 1)))]) hx hb d_MO_count_104 rfl hl (by decide) rfl (fun ls hl => ?_)
                  refine lv_iinc (v := (nI (i + 1)) + 1) (lv' := [(3, .int ((nI (i + 1)) + 1)), (2, .int (t + 0)), (0, .ref mo), (1, .int p0)]) hx hb d_MO_count_105 hl (k := 3) rfl rfl (by decide) rfl (fun ls hl => ?_)
                  refine lv_goto (tgt := 56) hx hb d_MO_count_108 (by decide) ?_
                  exact ih (i + 1) (t + 0) ls (by omega) (by rw [z_smS, ← ht_t]; simp [hik, c_3, (show ¬ (0 : Int32) = p0 from fun h9 => c_3 h9.symm), c_4, (show ¬ (1 : Int32) = p0 from fun h9 => c_4 h9.symm), c_5, (show ¬ (2 : Int32) = p0 from fun h9 => c_5 h9.symm), w_6, c_13, (show ¬ (3 : Int32) = p0 from fun h9 => c_13 h9.symm), c_14, (show ¬ (7 : Int32) = p0 from fun h9 => c_14 h9.symm)]) (by rw [nI_1] at hl; exact lv_sub hl [2, 3, 1, 0] rfl)
                · refine lv_aload_n hx hb d_MO_count_93 rfl (lv_at hl 0 rfl) ?_
                  refine z_get (ci := 3) (C := R_MO) (T := F_MO) (N := 23) hx hb hts j_MO hown hK hS hM.ob rfl 21 (by decide) (hk k_525 rfl) (fun _ h9 => h9) rfl d_MO_count_94 ?_
                  refine lv_iload_n hx hb d_MO_count_97 rfl (lv_at hl 3 rfl) ?_
                  refine mo_ld (v := F i 13) hx hb hK hS hM 21 hik (by decide) rfl d_MO_count_98 ?_
                  refine lv_goto (tgt := 103) hx hb d_MO_count_99 (by decide) ?_
                  refine lv_iadd hx hb d_MO_count_103 ?_
                  refine lv_istore_n (lv' := [(2, .int (t + (F i 13))), (0, .ref mo), (1, .int p0), (3, .int (nI (i + 1)))]) hx hb d_MO_count_104 rfl hl (by decide) rfl (fun ls hl => ?_)
                  refine lv_iinc (v := (nI (i + 1)) + 1) (lv' := [(3, .int ((nI (i + 1)) + 1)), (2, .int (t + (F i 13))), (0, .ref mo), (1, .int p0)]) hx hb d_MO_count_105 hl (k := 3) rfl rfl (by decide) rfl (fun ls hl => ?_)
                  refine lv_goto (tgt := 56) hx hb d_MO_count_108 (by decide) ?_
                  exact ih (i + 1) (t + (F i 13)) ls (by omega) (by rw [z_smS, ← ht_t]; simp [hik, c_3, (show ¬ (0 : Int32) = p0 from fun h9 => c_3 h9.symm), c_4, (show ¬ (1 : Int32) = p0 from fun h9 => c_4 h9.symm), c_5, (show ¬ (2 : Int32) = p0 from fun h9 => c_5 h9.symm), w_6, c_13, (show ¬ (3 : Int32) = p0 from fun h9 => c_13 h9.symm), c_14]) (by rw [nI_1] at hl; exact lv_sub hl [2, 3, 1, 0] rfl)
              · refine lv_aload_n hx hb d_MO_count_70 rfl (lv_at hl 0 rfl) ?_
                refine z_get (ci := 3) (C := R_MO) (T := F_MO) (N := 23) hx hb hts j_MO hown hK hS hM.ob rfl 13 (by decide) (hk k_517 rfl) (fun _ h9 => h9) rfl d_MO_count_71 ?_
                refine lv_iload_n hx hb d_MO_count_74 rfl (lv_at hl 3 rfl) ?_
                refine mo_ldb (v := F i 5) hx hb hK hS hM 13 hik (by decide) rfl d_MO_count_75 ?_
                refine lv_if_eq (tgt := 83) hx hb d_MO_count_76 (by decide) (fun c_15 => ?_) (fun c_15 => ?_)
                · refine lv_iconst (v := 0) hx hb d_MO_count_83 (by decide) ?_
                  refine lv_goto (tgt := 103) hx hb d_MO_count_84 (by decide) ?_
                  refine lv_iadd hx hb d_MO_count_103 ?_
                  refine lv_istore_n (lv' := [(2, .int (t + 0)), (0, .ref mo), (1, .int p0), (3, .int (nI (i + 1)))]) hx hb d_MO_count_104 rfl hl (by decide) rfl (fun ls hl => ?_)
                  refine lv_iinc (v := (nI (i + 1)) + 1) (lv' := [(3, .int ((nI (i + 1)) + 1)), (2, .int (t + 0)), (0, .ref mo), (1, .int p0)]) hx hb d_MO_count_105 hl (k := 3) rfl rfl (by decide) rfl (fun ls hl => ?_)
                  refine lv_goto (tgt := 56) hx hb d_MO_count_108 (by decide) ?_
                  exact ih (i + 1) (t + 0) ls (by omega) (by rw [z_smS, ← ht_t]; simp [hik, c_3, (show ¬ (0 : Int32) = p0 from fun h9 => c_3 h9.symm), c_4, (show ¬ (1 : Int32) = p0 from fun h9 => c_4 h9.symm), c_5, (show ¬ (2 : Int32) = p0 from fun h9 => c_5 h9.symm), w_6, c_13, c_15]) (by rw [nI_1] at hl; exact lv_sub hl [2, 3, 1, 0] rfl)
                · refine lv_iconst (v := 1) hx hb d_MO_count_79 (by decide) ?_
                  refine lv_goto (tgt := 103) hx hb d_MO_count_80 (by decide) ?_
                  refine lv_iadd hx hb d_MO_count_103 ?_
                  refine lv_istore_n (lv' := [(2, .int (t + 1)), (0, .ref mo), (1, .int p0), (3, .int (nI (i + 1)))]) hx hb d_MO_count_104 rfl hl (by decide) rfl (fun ls hl => ?_)
                  refine lv_iinc (v := (nI (i + 1)) + 1) (lv' := [(3, .int ((nI (i + 1)) + 1)), (2, .int (t + 1)), (0, .ref mo), (1, .int p0)]) hx hb d_MO_count_105 hl (k := 3) rfl rfl (by decide) rfl (fun ls hl => ?_)
                  refine lv_goto (tgt := 56) hx hb d_MO_count_108 (by decide) ?_
                  exact ih (i + 1) (t + 1) ls (by omega) (by rw [z_smS, ← ht_t]; simp [hik, c_3, (show ¬ (0 : Int32) = p0 from fun h9 => c_3 h9.symm), c_4, (show ¬ (1 : Int32) = p0 from fun h9 => c_4 h9.symm), c_5, (show ¬ (2 : Int32) = p0 from fun h9 => c_5 h9.symm), w_6, c_13, c_15, (show ¬ (0 : Int32) = F i 5 from fun h9 => c_15 h9.symm)]) (by rw [nI_1] at hl; exact lv_sub hl [2, 3, 1, 0] rfl)
          exact hloop k 0 0 ls (Nat.zero_add _) rfl (lv_sub hl [2, 3, 1, 0] rfl)
      · refine lv_aload_n hx hb d_MO_count_29 rfl (lv_at hl 0 rfl) ?_
        refine z_get (ci := 3) (C := R_MO) (T := F_MO) (N := 23) hx hb hts j_MO hown hK hS hM.ob rfl 1 (by decide) (hk k_505 rfl) (fun _ h9 => h9) rfl d_MO_count_30 ?_
        exact z_Ciret hx hb hr rfl hlk hS (z_vv (zV0 rfl hF hM) (by simp [an_count, c_3, c_4, c_5])) (by decide) (by decide) d_MO_count_33
    · refine lv_aload_n hx hb d_MO_count_19 rfl (lv_at hl 0 rfl) ?_
      refine z_get (ci := 3) (C := R_MO) (T := F_MO) (N := 23) hx hb hts j_MO hown hK hS hM.ob rfl 3 (by decide) (hk k_511 rfl) (fun _ h9 => h9) rfl d_MO_count_20 ?_
      exact z_Ciret hx hb hr rfl hlk hS (z_vv (zV0 rfl hF hM) (by simp [an_count, c_3, c_4])) (by decide) (by decide) d_MO_count_23
  · refine lv_aload_n hx hb d_MO_count_9 rfl (lv_at hl 0 rfl) ?_
    refine z_get (ci := 3) (C := R_MO) (T := F_MO) (N := 23) hx hb hts j_MO hown hK hS hM.ob rfl 2 (by decide) (hk k_506 rfl) (fun _ h9 => h9) rfl d_MO_count_10 ?_
    exact z_Ciret hx hb hr rfl hlk hS (z_vv (zV0 rfl hF hM) (by simp [an_count, c_3])) (by decide) (by decide) d_MO_count_13
