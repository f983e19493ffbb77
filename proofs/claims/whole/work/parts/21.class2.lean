/-! ===== the class: a sale, a return, by its number ===== -/
set_option maxHeartbeats 4000000 in
set_option maxRecDepth 100000 in
theorem c_RR_saleAt (l : Launch) (hl9 : l.stackTraces = false) {D : va_G} {cS cR cJ cI cZ : ClassId} {lo tP : Nat} (x sA rA n k : Nat) (td : Int32) (sd : Nat → Nat) (v : Int32) {X : zM} (hxx : X x = some (.inr (0, [.ref sA, .ref rA, .int (nI n), .int (nI k), .int td]))) (hsA : X sA = some (zar cS n sd)) (hn : n ≤ 20) : z_P (z_G lo tP) D cls4 (zty cS cR cJ cI cZ) lo l y_RR_saleAt w_RR_saleAt zr0 [.ref x, .int v] X (if z_rs v n then .inl (some (.ref (sd v.toNatClampNeg))) else .inr E_NSE) := by
  refine z_ofW (by decide) ?_
  intro p e s m args below meth c s₁ B hml hout hv
  obtain ⟨rfl, hG, hK, hW0, hXl, hlo⟩ := hv
  have hx := B.exec
  have hb := B.bytes
  have hr := B.returns
  have hlk := B.notSynchronized
  have hown : s.vm.findClass R_RR = some m.cls := findClass_of_methodNamed B.named
  have hts : ∀ w9 ∈ z_tb, w9.before ([.ref x, .int v] : List Value).toArray s = true := hG.ts _
  have hk : ∀ {w9 : Cond}, w9 ∈ lw_tbl → z_ok w9 = true → w9.before ([.ref x, .int v] : List Value).toArray s = true := fun h1 h2 => hG.w h1 h2 _
  have hg : z_Gr s.heap s.heap := z_Gr.rf
  have hS := z_S.start hW0 hXl hlo
  have hl := lv_entry ([.ref x, .int v]) (n := 3) (Nat.le_of_ble_eq_true rfl)
  rw [lg_entry_eq]
  generalize (lg_sl ([.ref x, .int v]) ++ List.replicate (3 - (lg_sl ([.ref x, .int v])).length) Slot.unset).toArray = ls at hl ⊢
  have hl : lv_has ls 3 [(0, .ref x), (1, .int v)] := hl
  refine lv_iload_n hx hb d_RR_saleAt_0 rfl (lv_at hl 1 rfl) ?_
  refine lv_if_lt (tgt := 13) hx hb d_RR_saleAt_1 (by decide) (fun c_1 => ?_) (fun c_1 => ?_)
  · exact th_NSE hx hb hl9 hown hG (hl.1.trans hml.symm) hout hlk (is := 194) (text := "there is no such sale") (by decide +kernel) d_RR_saleAt_13 d_RR_saleAt_16 d_RR_saleAt_17 d_RR_saleAt_19 d_RR_saleAt_22 (z_teP (if_neg (fun h => h.1 c_1))) (by decide) (Nat.le_of_ble_eq_true rfl) (by decide) (by decide) (by decide) (by decide)
  · refine lv_iload_n hx hb d_RR_saleAt_4 rfl (lv_at hl 1 rfl) ?_
    refine lv_aload_n hx hb d_RR_saleAt_5 rfl (lv_at hl 0 rfl) ?_
    refine z_get (ci := 0) (C := R_RR) (T := F_RR) (N := 5) hx hb hts j_RR hown hK hS hxx rfl 0 (by decide) (hk k_43 rfl) (fun _ h9 => h9) rfl d_RR_saleAt_6 ?_
    refine z_alen hx hb hK hS 0 hsA rfl (v := 20) rfl d_RR_saleAt_9 ?_
    refine lv_icmp_lt (tgt := 23) hx hb d_RR_saleAt_10 (by decide) (fun c_2 => ?_) (fun c_2 => ?_)
    · refine lv_aload_n hx hb d_RR_saleAt_23 rfl (lv_at hl 0 rfl) ?_
      refine z_get (ci := 0) (C := R_RR) (T := F_RR) (N := 5) hx hb hts j_RR hown hK hS hxx rfl 0 (by decide) (hk k_43 rfl) (fun _ h9 => h9) rfl d_RR_saleAt_24 ?_
      refine lv_iload_n hx hb d_RR_saleAt_27 rfl (lv_at hl 1 rfl) ?_
      obtain ⟨j, hj, ej⟩ := z_ix0 c_1 c_2
      by_cases hjn : j < n
      · refine z_aald hx hb hK hS 0 hsA rfl (by rw [ej]; exact vp_in_nI hj (by decide)) d_RR_saleAt_28 (r := some (sd j)) (by simp only [ej, nI_clamp (show j < 2 ^ 31 by omega), if_pos hjn]) ?_
        refine lv_astore_n (lv' := [(2, .ref (sd j)), (0, .ref x), (1, .int v)]) hx hb d_RR_saleAt_29 rfl hl (by decide) rfl (fun ls hl => ?_)
        refine lv_aload_n hx hb d_RR_saleAt_30 rfl (lv_at hl 0 rfl) ?_
        refine lv_ifnonnull (tgt := 44) hx hb d_RR_saleAt_31 (by decide) ?_
        refine lv_aload_n hx hb d_RR_saleAt_44 rfl (lv_at hl 0 rfl) ?_
        exact z_Paret hx hb hr hlk hg (by rw [if_pos (by rw [ej]; exact (z_rs1 hj hn).mpr hjn), ej, nI_clamp (show j < 2 ^ 31 by omega)]) (by decide) (by decide) d_RR_saleAt_45
      · refine z_aald hx hb hK hS 0 hsA rfl (by rw [ej]; exact vp_in_nI hj (by decide)) d_RR_saleAt_28 (r := none) (by simp only [ej, nI_clamp (show j < 2 ^ 31 by omega), if_neg hjn]) ?_
        refine lv_astore_nN (lv' := [(2, .null), (0, .ref x), (1, .int v)]) hx hb d_RR_saleAt_29 rfl hl (by decide) rfl (fun ls hl => ?_)
        refine lv_aload_nN hx hb d_RR_saleAt_30 rfl (lv_at hl 0 rfl) ?_
        refine lv_ifnonnullN hx hb d_RR_saleAt_31 ?_
        exact th_NSE hx hb hl9 hown hG (hl.1.trans hml.symm) hout hlk (is := 194) (text := "there is no such sale") (by decide +kernel) d_RR_saleAt_34 d_RR_saleAt_37 d_RR_saleAt_38 d_RR_saleAt_40 d_RR_saleAt_43 (z_teP (if_neg (by rw [ej, z_rs1 hj hn]; exact hjn))) (by decide) (Nat.le_of_ble_eq_true rfl) (by decide) (by decide) (by decide) (by decide)
    · exact th_NSE hx hb hl9 hown hG (hl.1.trans hml.symm) hout hlk (is := 194) (text := "there is no such sale") (by decide +kernel) d_RR_saleAt_13 d_RR_saleAt_16 d_RR_saleAt_17 d_RR_saleAt_19 d_RR_saleAt_22 (z_teP (if_neg (z_rsB hn c_2))) (by decide) (Nat.le_of_ble_eq_true rfl) (by decide) (by decide) (by decide) (by decide)
set_option maxHeartbeats 4000000 in
set_option maxRecDepth 100000 in
theorem c_RR_returnAt (l : Launch) (hl9 : l.stackTraces = false) {D : va_G} {cS cR cJ cI cZ : ClassId} {lo tP : Nat} (x sA rA n k : Nat) (td : Int32) (rd : Nat → Nat) (v : Int32) {X : zM} (hxx : X x = some (.inr (0, [.ref sA, .ref rA, .int (nI n), .int (nI k), .int td]))) (hrA : X rA = some (zar cR k rd)) (hkk : k ≤ 20) : z_P (z_G lo tP) D cls4 (zty cS cR cJ cI cZ) lo l y_RR_returnAt w_RR_returnAt zr0 [.ref x, .int v] X (if z_rg v 1 (nI k) then .inl (some (.ref (rd (v.toNatClampNeg - 1)))) else .inr E_NSE) := by
  refine z_ofW (by decide) ?_
  intro p e s m args below meth c s₁ B hml hout hv
  obtain ⟨rfl, hG, hK, hW0, hXl, hlo⟩ := hv
  have hx := B.exec
  have hb := B.bytes
  have hr := B.returns
  have hlk := B.notSynchronized
  have hown : s.vm.findClass R_RR = some m.cls := findClass_of_methodNamed B.named
  have hts : ∀ w9 ∈ z_tb, w9.before ([.ref x, .int v] : List Value).toArray s = true := hG.ts _
  have hk : ∀ {w9 : Cond}, w9 ∈ lw_tbl → z_ok w9 = true → w9.before ([.ref x, .int v] : List Value).toArray s = true := fun h1 h2 => hG.w h1 h2 _
  have hg : z_Gr s.heap s.heap := z_Gr.rf
  have hS := z_S.start hW0 hXl hlo
  have hl := lv_entry ([.ref x, .int v]) (n := 3) (Nat.le_of_ble_eq_true rfl)
  rw [lg_entry_eq]
  generalize (lg_sl ([.ref x, .int v]) ++ List.replicate (3 - (lg_sl ([.ref x, .int v])).length) Slot.unset).toArray = ls at hl ⊢
  have hl : lv_has ls 3 [(0, .ref x), (1, .int v)] := hl
  refine lv_iload_n hx hb d_RR_returnAt_0 rfl (lv_at hl 1 rfl) ?_
  refine lv_iconst (v := 1) hx hb d_RR_returnAt_1 (by decide) ?_
  refine lv_icmp_lt (tgt := 14) hx hb d_RR_returnAt_2 (by decide) (fun c_1 => ?_) (fun c_1 => ?_)
  · exact th_NSE hx hb hl9 hown hG (hl.1.trans hml.symm) hout hlk (is := 197) (text := "there is no such return") (by decide +kernel) d_RR_returnAt_14 d_RR_returnAt_17 d_RR_returnAt_18 d_RR_returnAt_20 d_RR_returnAt_23 (z_teP (if_neg (fun h => h.1 c_1))) (by decide) (Nat.le_of_ble_eq_true rfl) (by decide) (by decide) (by decide) (by decide)
  · refine lv_iload_n hx hb d_RR_returnAt_5 rfl (lv_at hl 1 rfl) ?_
    refine lv_aload_n hx hb d_RR_returnAt_6 rfl (lv_at hl 0 rfl) ?_
    refine z_get (ci := 0) (C := R_RR) (T := F_RR) (N := 5) hx hb hts j_RR hown hK hS hxx rfl 1 (by decide) (hk k_44 rfl) (fun _ h9 => h9) rfl d_RR_returnAt_7 ?_
    refine z_alen hx hb hK hS 1 hrA rfl (v := 20) rfl d_RR_returnAt_10 ?_
    refine lv_icmp_le (tgt := 24) hx hb d_RR_returnAt_11 (by decide) (fun c_2 => ?_) (fun c_2 => ?_)
    · refine lv_aload_n hx hb d_RR_returnAt_24 rfl (lv_at hl 0 rfl) ?_
      refine z_get (ci := 0) (C := R_RR) (T := F_RR) (N := 5) hx hb hts j_RR hown hK hS hxx rfl 1 (by decide) (hk k_44 rfl) (fun _ h9 => h9) rfl d_RR_returnAt_25 ?_
      refine lv_iload_n hx hb d_RR_returnAt_28 rfl (lv_at hl 1 rfl) ?_
      refine lv_iconst (v := 1) hx hb d_RR_returnAt_29 (by decide) ?_
      refine lv_isub hx hb d_RR_returnAt_30 ?_
      obtain ⟨j, hj, ej⟩ := z_ix1 c_1 c_2
      by_cases hjk : j < k
      · refine z_aald hx hb hK hS 1 hrA rfl (by rw [ej, nI_pred]; exact vp_in_nI hj (by decide)) d_RR_returnAt_31 (r := some (rd j)) (by simp only [ej, nI_pred, nI_clamp (show j < 2 ^ 31 by omega), if_pos hjk]) ?_
        refine lv_astore_n (lv' := [(2, .ref (rd j)), (0, .ref x), (1, .int v)]) hx hb d_RR_returnAt_32 rfl hl (by decide) rfl (fun ls hl => ?_)
        refine lv_aload_n hx hb d_RR_returnAt_33 rfl (lv_at hl 0 rfl) ?_
        refine lv_ifnonnull (tgt := 47) hx hb d_RR_returnAt_34 (by decide) ?_
        refine lv_aload_n hx hb d_RR_returnAt_47 rfl (lv_at hl 0 rfl) ?_
        exact z_Paret hx hb hr hlk hg (by rw [if_pos (by rw [ej]; exact (z_rg1 hj hkk).mpr hjk), ej, nI_clamp (show j + 1 < 2 ^ 31 by omega), Nat.add_sub_cancel]) (by decide) (by decide) d_RR_returnAt_48
      · refine z_aald hx hb hK hS 1 hrA rfl (by rw [ej, nI_pred]; exact vp_in_nI hj (by decide)) d_RR_returnAt_31 (r := none) (by simp only [ej, nI_pred, nI_clamp (show j < 2 ^ 31 by omega), if_neg hjk]) ?_
        refine lv_astore_nN (lv' := [(2, .null), (0, .ref x), (1, .int v)]) hx hb d_RR_returnAt_32 rfl hl (by decide) rfl (fun ls hl => ?_)
        refine lv_aload_nN hx hb d_RR_returnAt_33 rfl (lv_at hl 0 rfl) ?_
        refine lv_ifnonnullN hx hb d_RR_returnAt_34 ?_
        exact th_NSE hx hb hl9 hown hG (hl.1.trans hml.symm) hout hlk (is := 197) (text := "there is no such return") (by decide +kernel) d_RR_returnAt_37 d_RR_returnAt_40 d_RR_returnAt_41 d_RR_returnAt_43 d_RR_returnAt_46 (z_teP (if_neg (by rw [ej, z_rg1 hj hkk]; exact hjk))) (by decide) (Nat.le_of_ble_eq_true rfl) (by decide) (by decide) (by decide) (by decide)
    · exact th_NSE hx hb hl9 hown hG (hl.1.trans hml.symm) hout hlk (is := 197) (text := "there is no such return") (by decide +kernel) d_RR_returnAt_14 d_RR_returnAt_17 d_RR_returnAt_18 d_RR_returnAt_20 d_RR_returnAt_23 (z_teP (if_neg (z_rgB hkk c_2))) (by decide) (Nat.le_of_ble_eq_true rfl) (by decide) (by decide) (by decide) (by decide)
