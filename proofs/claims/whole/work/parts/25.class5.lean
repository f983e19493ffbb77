/-! ===== calls on a row ===== -/
set_option maxHeartbeats 4000000 in
set_option maxRecDepth 100000 in
theorem c_RR_arrive_no (l : Launch) (hl9 : l.stackTraces = false) {D : va_G} {cS cR cJ cI cZ : ClassId} {lo tP : Nat} (v : Int32) (p0 : Int32) (a9 : Option Value) (N9 : zM → Prop) {x sA rA n k : Nat} {td : Int32} {sd rd : Nat → Nat} {S : Nat → Nat → Int32} {I : Nat → Nat} {F : Nat → Nat → Int32} {X : zM} (hXI : XI x sA rA cS cR n k td sd rd S I F X) (hv : ¬ z_rg v 1 (nI k)) : z_C (z_G lo tP) D cls4 (zty cS cR cJ cI cZ) lo l y_RR_arrive w_RR_arrive zr1 [.ref x, .int v, .int p0] X (zT [E_NSE, E_IAE, E_ISE] 1 a9 X N9) := by
  refine z_ofW (by decide) ?_
  intro p e s m args below meth c s₁ B hml hout hv
  obtain ⟨rfl, hG, hK, hW0, hXl, hlo⟩ := hv
  have hx := B.exec
  have hb := B.bytes
  have hr := B.returns
  have hlk := B.notSynchronized
  have hown : s.vm.findClass R_RR = some m.cls := findClass_of_methodNamed B.named
  have hts : ∀ w9 ∈ z_tb, w9.before ([.ref x, .int v, .int p0] : List Value).toArray s = true := hG.ts _
  have hk : ∀ {w9 : Cond}, w9 ∈ lw_tbl → z_ok w9 = true → w9.before ([.ref x, .int v, .int p0] : List Value).toArray s = true := fun h1 h2 => hG.w h1 h2 _
  have hg : z_Gr s.heap s.heap := z_Gr.rf
  have hS := z_S.start hW0 hXl hlo
  have hl := lv_entry ([.ref x, .int v, .int p0]) (n := 5) (Nat.le_of_ble_eq_true rfl)
  rw [lg_entry_eq]
  generalize (lg_sl ([.ref x, .int v, .int p0]) ++ List.replicate (5 - (lg_sl ([.ref x, .int v, .int p0])).length) Slot.unset).toArray = ls at hl ⊢
  have hl : lv_has ls 5 [(0, .ref x), (1, .int v), (2, .int p0)] := hl
  obtain ⟨hxx, hsA, hrA, hSs, hRr, hIn, hn, hkk, hjs, hjr, hAne⟩ := id hXI
  refine lv_aload_n hx hb d_RR_arrive_0 rfl (lv_at hl 0 rfl) ?_
  refine lv_iload_n hx hb d_RR_arrive_1 rfl (lv_at hl 1 rfl) ?_
  exact z_pCX (E := E_NSE) (n_RR_RR_returnAt hx hown hG (va_recv hK (hS.1.one hxx) (ci := 0) (q0 := 0) rfl rfl) (by rw [hb]; exact d_RR_arrive_2)) hb (hl.1.trans hml.symm) (c_RR_returnAt l hl9 x sA rA n k td rd v hxx hrA hkk) (if_neg hv) (z_Gkeeps lo tP) hG hK hS (cw_RR_returnAt hG (by decide) (by decide)) d_RR_arrive_2 (Nat.le_of_ble_eq_true rfl) (by decide) (by decide) hout hlk (zT1 0 rfl rfl) (by decide) (by decide)
set_option maxHeartbeats 4000000 in
set_option maxRecDepth 100000 in
theorem c_RR_arrive (l : Launch) (hl9 : l.stackTraces = false) {D : va_G} {cS cR cJ cI cZ : ClassId} {lo tP : Nat} {j : Nat} (p0 : Int32) {x sA rA n k : Nat} {td : Int32} {sd rd : Nat → Nat} {S : Nat → Nat → Int32} {I : Nat → Nat} {F : Nat → Nat → Int32} {X : zM} (hXI : XI x sA rA cS cR n k td sd rd S I F X) (hj : j < k) : z_C (z_G lo tP) D cls4 (zty cS cR cJ cI cZ) lo l y_RR_arrive w_RR_arrive zr1 [.ref x, .int (nI (j + 1)), .int p0] X (zT [E_NSE, E_IAE, E_ISE] (cd_arrive (F j) p0) none X (YI x cS cR ⟨n, k, td, S, I, zfr F j (zfs (zfs (F j) 4 p0) 3 2)⟩)) := by
  refine z_ofW (by decide) ?_
  intro p e s m args below meth c s₁ B hml hout hv
  obtain ⟨rfl, hG, hK, hW0, hXl, hlo⟩ := hv
  have hx := B.exec
  have hb := B.bytes
  have hr := B.returns
  have hlk := B.notSynchronized
  have hown : s.vm.findClass R_RR = some m.cls := findClass_of_methodNamed B.named
  have hts : ∀ w9 ∈ z_tb, w9.before ([.ref x, .int (nI (j + 1)), .int p0] : List Value).toArray s = true := hG.ts _
  have hk : ∀ {w9 : Cond}, w9 ∈ lw_tbl → z_ok w9 = true → w9.before ([.ref x, .int (nI (j + 1)), .int p0] : List Value).toArray s = true := fun h1 h2 => hG.w h1 h2 _
  have hg : z_Gr s.heap s.heap := z_Gr.rf
  have hS := z_S.start hW0 hXl hlo
  have hl := lv_entry ([.ref x, .int (nI (j + 1)), .int p0]) (n := 5) (Nat.le_of_ble_eq_true rfl)
  rw [lg_entry_eq]
  generalize (lg_sl ([.ref x, .int (nI (j + 1)), .int p0]) ++ List.replicate (5 - (lg_sl ([.ref x, .int (nI (j + 1)), .int p0])).length) Slot.unset).toArray = ls at hl ⊢
  have hl : lv_has ls 5 [(0, .ref x), (1, .int (nI (j + 1))), (2, .int p0)] := hl
  obtain ⟨hxx, hsA, hrA, hSs, hRr, hIn, hn, hkk, hjs, hjr, hAne⟩ := id hXI
  refine lv_aload_n hx hb d_RR_arrive_0 rfl (lv_at hl 0 rfl) ?_
  refine lv_iload_n hx hb d_RR_arrive_1 rfl (lv_at hl 1 rfl) ?_
  refine z_pa (n_RR_RR_returnAt hx hown hG (va_recv hK (hS.1.one hxx) (ci := 0) (q0 := 0) rfl rfl) (by rw [hb]; exact d_RR_arrive_2)) hb (hl.1.trans hml.symm) (c_RR_returnAt l hl9 x sA rA n k td rd (nI (j + 1)) hxx hrA hkk) (by rw [if_pos ((z_rg1 (by omega) hkk).mpr hj), nI_clamp (show j + 1 < 2 ^ 31 by omega), Nat.add_sub_cancel]) (z_Gkeeps lo tP) hG hK hS (cw_RR_returnAt hG (by decide) (by decide)) d_RR_arrive_2 (Nat.le_of_ble_eq_true rfl) (by decide) (by decide) (fun H hq hS => ?_)
  refine lv_astore_n (lv' := [(3, .ref (rd j)), (0, .ref x), (1, .int (nI (j + 1))), (2, .int p0)]) hx hb d_RR_arrive_5 rfl hl (by decide) rfl (fun ls hl => ?_)
  refine lv_iload_n hx hb d_RR_arrive_6 rfl (lv_at hl 3 rfl) ?_
  refine lv_iconst (v := (-1)) hx hb d_RR_arrive_7 (by decide) ?_
  refine lv_bipush (v := 9) hx hb d_RR_arrive_8 (by decide) ?_
  by_cases w_1 : z_rg p0 (-1) 9
  · refine z_pv (n_RR_RR_requireWithin hx hown hG (by rw [hb]; exact d_RR_arrive_10)) hb (hl.1.trans hml.symm) (c_RR_requireWithin l hl9 p0 (-1) 9) (if_pos w_1) (z_Gkeeps lo tP) hG hK hS (cw_RR_requireWithin hG (by decide) (by decide)) d_RR_arrive_10 (Nat.le_of_ble_eq_true rfl) (by decide) (by decide) (fun H hq hS => ?_)
    refine lv_aload_n hx hb d_RR_arrive_13 rfl (lv_at hl 0 rfl) ?_
    refine z_get (ci := 2) (C := R_RE) (T := F_RE) (N := 15) hx hb hts j_RE hown hK hS (hRr j hj) rfl 3 (by decide) (hk k_272 rfl) (fun _ h9 => h9) rfl d_RR_arrive_14 ?_
    refine lv_if_eq (tgt := 38) hx hb d_RR_arrive_17 (by decide) (fun c_2 => ?_) (fun c_2 => ?_)
    · refine lv_aload_n hx hb d_RR_arrive_38 rfl (lv_at hl 0 rfl) ?_
      refine z_get (ci := 2) (C := R_RE) (T := F_RE) (N := 15) hx hb hts j_RE hown hK hS (hRr j hj) rfl 3 (by decide) (hk k_272 rfl) (fun _ h9 => h9) rfl d_RR_arrive_39 ?_
      refine lv_iconst (v := 1) hx hb d_RR_arrive_42 (by decide) ?_
      refine lv_icmp_ne (tgt := 50) hx hb d_RR_arrive_43 (by decide) (fun c_3 => ?_) (fun c_3 => absurd c_3 (fun h9 => absurd (c_2.symm.trans h9) (by decide)))
      refine lv_iconst (v := 0) hx hb d_RR_arrive_50 (by decide) ?_
      refine lv_istore (lv' := [(4, .int 0), (3, .ref (rd j)), (0, .ref x), (1, .int (nI (j + 1))), (2, .int p0)]) hx hb d_RR_arrive_51 hl (by decide) rfl (fun ls hl => ?_)
      refine lv_iload hx hb d_RR_arrive_53 (lv_at hl 0 rfl) ?_
      refine lv_iload_n hx hb d_RR_arrive_55 rfl (lv_at hl 4 rfl) ?_
      refine lv_iconst (v := (-1)) hx hb d_RR_arrive_56 (by decide) ?_
      refine lv_icmp_eq (tgt := 64) hx hb d_RR_arrive_57 (by decide) (fun c_4 => ?_) (fun c_4 => ?_)
      · refine lv_iconst (v := 0) hx hb d_RR_arrive_64 (by decide) ?_
        refine lv_icmp_eq (tgt := 78) hx hb d_RR_arrive_65 (by decide) (fun c_5 => ?_) (fun c_5 => absurd (by decide) c_5)
        refine lv_aload_n hx hb d_RR_arrive_78 rfl (lv_at hl 1 rfl) ?_
        refine lv_iload_n hx hb d_RR_arrive_79 rfl (lv_at hl 4 rfl) ?_
        refine z_put (ci := 2) (C := R_RE) (T := F_RE) (N := 15) (ty := .int) (fs' := [.ref (sd (I j)), .int (F j 1), .int (F j 2), .int (F j 3), .int p0, .int (F j 5), .int (F j 6), .int (F j 7), .int (F j 8), .int (F j 9), .int (F j 10), .int (F j 11), .int (F j 12), .int (F j 13), .int (F j 14)]) hx hb hts j_RE t_RE t_RE_ok n_RE hown hK hS (hRr j hj) rfl 4 (by decide) (hk k_274 rfl) (fun _ h9 => h9) rfl (by decide +kernel) rfl rfl (Nat.le_of_ble_eq_true rfl) d_RR_arrive_80 rfl (fun H locs hS => ?_)
        have e_6 : (z_up X (rd j) (.inr (2, [.ref (sd (I j)), .int (F j 1), .int (F j 2), .int (F j 3), .int p0, .int (F j 5), .int (F j 6), .int (F j 7), .int (F j 8), .int (F j 9), .int (F j 10), .int (F j 11), .int (F j 12), .int (F j 13), .int (F j 14)]))) x = some (.inr (0, [.ref sA, .ref rA, .int (nI n), .int (nI k), .int td])) := (z_ne (z_oo hxx (hRr j hj) (by decide))).trans hxx
        have e_7 : (z_up X (rd j) (.inr (2, [.ref (sd (I j)), .int (F j 1), .int (F j 2), .int (F j 3), .int p0, .int (F j 5), .int (F j 6), .int (F j 7), .int (F j 8), .int (F j 9), .int (F j 10), .int (F j 11), .int (F j 12), .int (F j 13), .int (F j 14)]))) sA = some (.inl (cS, 20, .inr (.inr (.inr (.inr (fun i => if i < n then some (sd i) else none)))))) := (z_ne (z_ao hsA (hRr j hj))).trans hsA
        have e_8 : (z_up X (rd j) (.inr (2, [.ref (sd (I j)), .int (F j 1), .int (F j 2), .int (F j 3), .int p0, .int (F j 5), .int (F j 6), .int (F j 7), .int (F j 8), .int (F j 9), .int (F j 10), .int (F j 11), .int (F j 12), .int (F j 13), .int (F j 14)]))) rA = some (.inl (cR, 20, .inr (.inr (.inr (.inr (fun i => if i < k then some (rd i) else none)))))) := (z_ne (z_ao hrA (hRr j hj))).trans hrA
        have e_9 : (z_up X (rd j) (.inr (2, [.ref (sd (I j)), .int (F j 1), .int (F j 2), .int (F j 3), .int p0, .int (F j 5), .int (F j 6), .int (F j 7), .int (F j 8), .int (F j 9), .int (F j 10), .int (F j 11), .int (F j 12), .int (F j 13), .int (F j 14)]))) (sd (I j)) = some (.inr (1, [.int (nI (I j)), .int (S (I j) 1), .int (S (I j) 2), .int (S (I j) 3), .int (S (I j) 4), .int (S (I j) 5)])) := (z_ne (z_oo (hSs (I j) (hIn j hj)) (hRr j hj) (by decide))).trans (hSs (I j) (hIn j hj))
        have e_10 : (z_up X (rd j) (.inr (2, [.ref (sd (I j)), .int (F j 1), .int (F j 2), .int (F j 3), .int p0, .int (F j 5), .int (F j 6), .int (F j 7), .int (F j 8), .int (F j 9), .int (F j 10), .int (F j 11), .int (F j 12), .int (F j 13), .int (F j 14)]))) (rd j) = some (.inr (2, [.ref (sd (I j)), .int (F j 1), .int (F j 2), .int (F j 3), .int p0, .int (F j 5), .int (F j 6), .int (F j 7), .int (F j 8), .int (F j 9), .int (F j 10), .int (F j 11), .int (F j 12), .int (F j 13), .int (F j 14)])) := z_eq _ _ _
        refine lv_aload_n hx hb d_RR_arrive_83 rfl (lv_at hl 1 rfl) ?_
        refine lv_iconst (v := 2) hx hb d_RR_arrive_84 (by decide) ?_
        refine z_put (ci := 2) (C := R_RE) (T := F_RE) (N := 15) (ty := .int) (fs' := [.ref (sd (I j)), .int (F j 1), .int (F j 2), .int 2, .int p0, .int (F j 5), .int (F j 6), .int (F j 7), .int (F j 8), .int (F j 9), .int (F j 10), .int (F j 11), .int (F j 12), .int (F j 13), .int (F j 14)]) hx hb hts j_RE t_RE t_RE_ok n_RE hown hK hS e_10 rfl 3 (by decide) (hk k_272 rfl) (fun _ h9 => h9) rfl (by decide +kernel) rfl rfl (Nat.le_of_ble_eq_true rfl) d_RR_arrive_85 rfl (fun H locs hS => ?_)
        have e_11 : (z_up (z_up X (rd j) (.inr (2, [.ref (sd (I j)), .int (F j 1), .int (F j 2), .int (F j 3), .int p0, .int (F j 5), .int (F j 6), .int (F j 7), .int (F j 8), .int (F j 9), .int (F j 10), .int (F j 11), .int (F j 12), .int (F j 13), .int (F j 14)]))) (rd j) (.inr (2, [.ref (sd (I j)), .int (F j 1), .int (F j 2), .int 2, .int p0, .int (F j 5), .int (F j 6), .int (F j 7), .int (F j 8), .int (F j 9), .int (F j 10), .int (F j 11), .int (F j 12), .int (F j 13), .int (F j 14)]))) x = some (.inr (0, [.ref sA, .ref rA, .int (nI n), .int (nI k), .int td])) := (z_ne (z_oo e_6 e_10 (by decide))).trans e_6
        have e_12 : (z_up (z_up X (rd j) (.inr (2, [.ref (sd (I j)), .int (F j 1), .int (F j 2), .int (F j 3), .int p0, .int (F j 5), .int (F j 6), .int (F j 7), .int (F j 8), .int (F j 9), .int (F j 10), .int (F j 11), .int (F j 12), .int (F j 13), .int (F j 14)]))) (rd j) (.inr (2, [.ref (sd (I j)), .int (F j 1), .int (F j 2), .int 2, .int p0, .int (F j 5), .int (F j 6), .int (F j 7), .int (F j 8), .int (F j 9), .int (F j 10), .int (F j 11), .int (F j 12), .int (F j 13), .int (F j 14)]))) sA = some (.inl (cS, 20, .inr (.inr (.inr (.inr (fun i => if i < n then some (sd i) else none)))))) := (z_ne (z_ao e_7 e_10)).trans e_7
        have e_13 : (z_up (z_up X (rd j) (.inr (2, [.ref (sd (I j)), .int (F j 1), .int (F j 2), .int (F j 3), .int p0, .int (F j 5), .int (F j 6), .int (F j 7), .int (F j 8), .int (F j 9), .int (F j 10), .int (F j 11), .int (F j 12), .int (F j 13), .int (F j 14)]))) (rd j) (.inr (2, [.ref (sd (I j)), .int (F j 1), .int (F j 2), .int 2, .int p0, .int (F j 5), .int (F j 6), .int (F j 7), .int (F j 8), .int (F j 9), .int (F j 10), .int (F j 11), .int (F j 12), .int (F j 13), .int (F j 14)]))) rA = some (.inl (cR, 20, .inr (.inr (.inr (.inr (fun i => if i < k then some (rd i) else none)))))) := (z_ne (z_ao e_8 e_10)).trans e_8
        have e_14 : (z_up (z_up X (rd j) (.inr (2, [.ref (sd (I j)), .int (F j 1), .int (F j 2), .int (F j 3), .int p0, .int (F j 5), .int (F j 6), .int (F j 7), .int (F j 8), .int (F j 9), .int (F j 10), .int (F j 11), .int (F j 12), .int (F j 13), .int (F j 14)]))) (rd j) (.inr (2, [.ref (sd (I j)), .int (F j 1), .int (F j 2), .int 2, .int p0, .int (F j 5), .int (F j 6), .int (F j 7), .int (F j 8), .int (F j 9), .int (F j 10), .int (F j 11), .int (F j 12), .int (F j 13), .int (F j 14)]))) (sd (I j)) = some (.inr (1, [.int (nI (I j)), .int (S (I j) 1), .int (S (I j) 2), .int (S (I j) 3), .int (S (I j) 4), .int (S (I j) 5)])) := (z_ne (z_oo e_9 e_10 (by decide))).trans e_9
        have e_15 : (z_up (z_up X (rd j) (.inr (2, [.ref (sd (I j)), .int (F j 1), .int (F j 2), .int (F j 3), .int p0, .int (F j 5), .int (F j 6), .int (F j 7), .int (F j 8), .int (F j 9), .int (F j 10), .int (F j 11), .int (F j 12), .int (F j 13), .int (F j 14)]))) (rd j) (.inr (2, [.ref (sd (I j)), .int (F j 1), .int (F j 2), .int 2, .int p0, .int (F j 5), .int (F j 6), .int (F j 7), .int (F j 8), .int (F j 9), .int (F j 10), .int (F j 11), .int (F j 12), .int (F j 13), .int (F j 14)]))) (rd j) = some (.inr (2, [.ref (sd (I j)), .int (F j 1), .int (F j 2), .int 2, .int p0, .int (F j 5), .int (F j 6), .int (F j 7), .int (F j 8), .int (F j 9), .int (F j 10), .int (F j 11), .int (F j 12), .int (F j 13), .int (F j 14)])) := z_eq _ _ _
        exact z_Cvret hx hb hr hlk hS (zT0r (f := zfs (zfs (F j) 4 p0) 3 2) hXI hj (by unfold cd_arrive; rw [if_pos w_1]; simp [c_2, c_4]) (by rw [z_upup]; rfl)) (by decide) (by decide) d_RR_arrive_88
      · refine lv_iconst (v := 1) hx hb d_RR_arrive_60 (by decide) ?_
        refine lv_goto (tgt := 65) hx hb d_RR_arrive_61 (by decide) ?_
        refine lv_icmp_eq (tgt := 78) hx hb d_RR_arrive_65 (by decide) (fun c_16 => absurd c_16 (by decide)) (fun c_16 => ?_)
        exact th_ISE hx hb hl9 hown hG (hl.1.trans hml.symm) hout hlk (is := 73) (text := "a person lets in a waiting return, none an announced one") (by decide +kernel) d_RR_arrive_68 d_RR_arrive_71 d_RR_arrive_72 d_RR_arrive_74 d_RR_arrive_77 (z_teC hW0 (zT1 2 (by unfold cd_arrive; rw [if_pos w_1]; simp [c_2, c_4]) rfl)) (by decide) (Nat.le_of_ble_eq_true rfl) (by decide) (by decide) (by decide) (by decide)
    · refine lv_aload_n hx hb d_RR_arrive_20 rfl (lv_at hl 0 rfl) ?_
      refine z_get (ci := 2) (C := R_RE) (T := F_RE) (N := 15) hx hb hts j_RE hown hK hS (hRr j hj) rfl 3 (by decide) (hk k_272 rfl) (fun _ h9 => h9) rfl d_RR_arrive_21 ?_
      refine lv_iconst (v := 1) hx hb d_RR_arrive_24 (by decide) ?_
      refine lv_icmp_eq (tgt := 38) hx hb d_RR_arrive_25 (by decide) (fun c_17 => ?_) (fun c_17 => ?_)
      · refine lv_aload_n hx hb d_RR_arrive_38 rfl (lv_at hl 0 rfl) ?_
        refine z_get (ci := 2) (C := R_RE) (T := F_RE) (N := 15) hx hb hts j_RE hown hK hS (hRr j hj) rfl 3 (by decide) (hk k_272 rfl) (fun _ h9 => h9) rfl d_RR_arrive_39 ?_
        refine lv_iconst (v := 1) hx hb d_RR_arrive_42 (by decide) ?_
        refine lv_icmp_ne (tgt := 50) hx hb d_RR_arrive_43 (by decide) (fun c_18 => absurd (c_17) c_18) (fun c_18 => ?_)
        refine lv_iconst (v := 1) hx hb d_RR_arrive_46 (by decide) ?_
        refine lv_goto (tgt := 51) hx hb d_RR_arrive_47 (by decide) ?_
        refine lv_istore (lv' := [(4, .int 1), (3, .ref (rd j)), (0, .ref x), (1, .int (nI (j + 1))), (2, .int p0)]) hx hb d_RR_arrive_51 hl (by decide) rfl (fun ls hl => ?_)
        refine lv_iload hx hb d_RR_arrive_53 (lv_at hl 0 rfl) ?_
        refine lv_iload_n hx hb d_RR_arrive_55 rfl (lv_at hl 4 rfl) ?_
        refine lv_iconst (v := (-1)) hx hb d_RR_arrive_56 (by decide) ?_
        refine lv_icmp_eq (tgt := 64) hx hb d_RR_arrive_57 (by decide) (fun c_19 => ?_) (fun c_19 => ?_)
        · refine lv_iconst (v := 0) hx hb d_RR_arrive_64 (by decide) ?_
          refine lv_icmp_eq (tgt := 78) hx hb d_RR_arrive_65 (by decide) (fun c_20 => absurd c_20 (by decide)) (fun c_20 => ?_)
          exact th_ISE hx hb hl9 hown hG (hl.1.trans hml.symm) hout hlk (is := 73) (text := "a person lets in a waiting return, none an announced one") (by decide +kernel) d_RR_arrive_68 d_RR_arrive_71 d_RR_arrive_72 d_RR_arrive_74 d_RR_arrive_77 (z_teC hW0 (zT1 2 (by unfold cd_arrive; rw [if_pos w_1]; simp [c_2, c_17, c_19]) rfl)) (by decide) (Nat.le_of_ble_eq_true rfl) (by decide) (by decide) (by decide) (by decide)
        · refine lv_iconst (v := 1) hx hb d_RR_arrive_60 (by decide) ?_
          refine lv_goto (tgt := 65) hx hb d_RR_arrive_61 (by decide) ?_
          refine lv_icmp_eq (tgt := 78) hx hb d_RR_arrive_65 (by decide) (fun c_21 => ?_) (fun c_21 => absurd (by decide) c_21)
          refine lv_aload_n hx hb d_RR_arrive_78 rfl (lv_at hl 1 rfl) ?_
          refine lv_iload_n hx hb d_RR_arrive_79 rfl (lv_at hl 4 rfl) ?_
          refine z_put (ci := 2) (C := R_RE) (T := F_RE) (N := 15) (ty := .int) (fs' := [.ref (sd (I j)), .int (F j 1), .int (F j 2), .int (F j 3), .int p0, .int (F j 5), .int (F j 6), .int (F j 7), .int (F j 8), .int (F j 9), .int (F j 10), .int (F j 11), .int (F j 12), .int (F j 13), .int (F j 14)]) hx hb hts j_RE t_RE t_RE_ok n_RE hown hK hS (hRr j hj) rfl 4 (by decide) (hk k_274 rfl) (fun _ h9 => h9) rfl (by decide +kernel) rfl rfl (Nat.le_of_ble_eq_true rfl) d_RR_arrive_80 rfl (fun H locs hS => ?_)
          have e_22 : (z_up X (rd j) (.inr (2, [.ref (sd (I j)), .int (F j 1), .int (F j 2), .int (F j 3), .int p0, .int (F j 5), .int (F j 6), .int (F j 7), .int (F j 8), .int (F j 9), .int (F j 10), .int (F j 11), .int (F j 12), .int (F j 13), .int (F j 14)]))) x = some (.inr (0, [.ref sA, .ref rA, .int (nI n), .int (nI k), .int td])) := (z_ne (z_oo hxx (hRr j hj) (by decide))).trans hxx
          have e_23 : (z_up X (rd j) (.inr (2, [.ref (sd (I j)), .int (F j 1), .int (F j 2), .int (F j 3), .int p0, .int (F j 5), .int (F j 6), .int (F j 7), .int (F j 8), .int (F j 9), .int (F j 10), .int (F j 11), .int (F j 12), .int (F j 13), .int (F j 14)]))) sA = some (.inl (cS, 20, .inr (.inr (.inr (.inr (fun i => if i < n then some (sd i) else none)))))) := (z_ne (z_ao hsA (hRr j hj))).trans hsA
          have e_24 : (z_up X (rd j) (.inr (2, [.ref (sd (I j)), .int (F j 1), .int (F j 2), .int (F j 3), .int p0, .int (F j 5), .int (F j 6), .int (F j 7), .int (F j 8), .int (F j 9), .int (F j 10), .int (F j 11), .int (F j 12), .int (F j 13), .int (F j 14)]))) rA = some (.inl (cR, 20, .inr (.inr (.inr (.inr (fun i => if i < k then some (rd i) else none)))))) := (z_ne (z_ao hrA (hRr j hj))).trans hrA
          have e_25 : (z_up X (rd j) (.inr (2, [.ref (sd (I j)), .int (F j 1), .int (F j 2), .int (F j 3), .int p0, .int (F j 5), .int (F j 6), .int (F j 7), .int (F j 8), .int (F j 9), .int (F j 10), .int (F j 11), .int (F j 12), .int (F j 13), .int (F j 14)]))) (sd (I j)) = some (.inr (1, [.int (nI (I j)), .int (S (I j) 1), .int (S (I j) 2), .int (S (I j) 3), .int (S (I j) 4), .int (S (I j) 5)])) := (z_ne (z_oo (hSs (I j) (hIn j hj)) (hRr j hj) (by decide))).trans (hSs (I j) (hIn j hj))
          have e_26 : (z_up X (rd j) (.inr (2, [.ref (sd (I j)), .int (F j 1), .int (F j 2), .int (F j 3), .int p0, .int (F j 5), .int (F j 6), .int (F j 7), .int (F j 8), .int (F j 9), .int (F j 10), .int (F j 11), .int (F j 12), .int (F j 13), .int (F j 14)]))) (rd j) = some (.inr (2, [.ref (sd (I j)), .int (F j 1), .int (F j 2), .int (F j 3), .int p0, .int (F j 5), .int (F j 6), .int (F j 7), .int (F j 8), .int (F j 9), .int (F j 10), .int (F j 11), .int (F j 12), .int (F j 13), .int (F j 14)])) := z_eq _ _ _
          refine lv_aload_n hx hb d_RR_arrive_83 rfl (lv_at hl 1 rfl) ?_
          refine lv_iconst (v := 2) hx hb d_RR_arrive_84 (by decide) ?_
          refine z_put (ci := 2) (C := R_RE) (T := F_RE) (N := 15) (ty := .int) (fs' := [.ref (sd (I j)), .int (F j 1), .int (F j 2), .int 2, .int p0, .int (F j 5), .int (F j 6), .int (F j 7), .int (F j 8), .int (F j 9), .int (F j 10), .int (F j 11), .int (F j 12), .int (F j 13), .int (F j 14)]) hx hb hts j_RE t_RE t_RE_ok n_RE hown hK hS e_26 rfl 3 (by decide) (hk k_272 rfl) (fun _ h9 => h9) rfl (by decide +kernel) rfl rfl (Nat.le_of_ble_eq_true rfl) d_RR_arrive_85 rfl (fun H locs hS => ?_)
          have e_27 : (z_up (z_up X (rd j) (.inr (2, [.ref (sd (I j)), .int (F j 1), .int (F j 2), .int (F j 3), .int p0, .int (F j 5), .int (F j 6), .int (F j 7), .int (F j 8), .int (F j 9), .int (F j 10), .int (F j 11), .int (F j 12), .int (F j 13), .int (F j 14)]))) (rd j) (.inr (2, [.ref (sd (I j)), .int (F j 1), .int (F j 2), .int 2, .int p0, .int (F j 5), .int (F j 6), .int (F j 7), .int (F j 8), .int (F j 9), .int (F j 10), .int (F j 11), .int (F j 12), .int (F j 13), .int (F j 14)]))) x = some (.inr (0, [.ref sA, .ref rA, .int (nI n), .int (nI k), .int td])) := (z_ne (z_oo e_22 e_26 (by decide))).trans e_22
          have e_28 : (z_up (z_up X (rd j) (.inr (2, [.ref (sd (I j)), .int (F j 1), .int (F j 2), .int (F j 3), .int p0, .int (F j 5), .int (F j 6), .int (F j 7), .int (F j 8), .int (F j 9), .int (F j 10), .int (F j 11), .int (F j 12), .int (F j 13), .int (F j 14)]))) (rd j) (.inr (2, [.ref (sd (I j)), .int (F j 1), .int (F j 2), .int 2, .int p0, .int (F j 5), .int (F j 6), .int (F j 7), .int (F j 8), .int (F j 9), .int (F j 10), .int (F j 11), .int (F j 12), .int (F j 13), .int (F j 14)]))) sA = some (.inl (cS, 20, .inr (.inr (.inr (.inr (fun i => if i < n then some (sd i) else none)))))) := (z_ne (z_ao e_23 e_26)).trans e_23
          have e_29 : (z_up (z_up X (rd j) (.inr (2, [.ref (sd (I j)), .int (F j 1), .int (F j 2), .int (F j 3), .int p0, .int (F j 5), .int (F j 6), .int (F j 7), .int (F j 8), .int (F j 9), .int (F j 10), .int (F j 11), .int (F j 12), .int (F j 13), .int (F j 14)]))) (rd j) (.inr (2, [.ref (sd (I j)), .int (F j 1), .int (F j 2), .int 2, .int p0, .int (F j 5), .int (F j 6), .int (F j 7), .int (F j 8), .int (F j 9), .int (F j 10), .int (F j 11), .int (F j 12), .int (F j 13), .int (F j 14)]))) rA = some (.inl (cR, 20, .inr (.inr (.inr (.inr (fun i => if i < k then some (rd i) else none)))))) := (z_ne (z_ao e_24 e_26)).trans e_24
          have e_30 : (z_up (z_up X (rd j) (.inr (2, [.ref (sd (I j)), .int (F j 1), .int (F j 2), .int (F j 3), .int p0, .int (F j 5), .int (F j 6), .int (F j 7), .int (F j 8), .int (F j 9), .int (F j 10), .int (F j 11), .int (F j 12), .int (F j 13), .int (F j 14)]))) (rd j) (.inr (2, [.ref (sd (I j)), .int (F j 1), .int (F j 2), .int 2, .int p0, .int (F j 5), .int (F j 6), .int (F j 7), .int (F j 8), .int (F j 9), .int (F j 10), .int (F j 11), .int (F j 12), .int (F j 13), .int (F j 14)]))) (sd (I j)) = some (.inr (1, [.int (nI (I j)), .int (S (I j) 1), .int (S (I j) 2), .int (S (I j) 3), .int (S (I j) 4), .int (S (I j) 5)])) := (z_ne (z_oo e_25 e_26 (by decide))).trans e_25
          have e_31 : (z_up (z_up X (rd j) (.inr (2, [.ref (sd (I j)), .int (F j 1), .int (F j 2), .int (F j 3), .int p0, .int (F j 5), .int (F j 6), .int (F j 7), .int (F j 8), .int (F j 9), .int (F j 10), .int (F j 11), .int (F j 12), .int (F j 13), .int (F j 14)]))) (rd j) (.inr (2, [.ref (sd (I j)), .int (F j 1), .int (F j 2), .int 2, .int p0, .int (F j 5), .int (F j 6), .int (F j 7), .int (F j 8), .int (F j 9), .int (F j 10), .int (F j 11), .int (F j 12), .int (F j 13), .int (F j 14)]))) (rd j) = some (.inr (2, [.ref (sd (I j)), .int (F j 1), .int (F j 2), .int 2, .int p0, .int (F j 5), .int (F j 6), .int (F j 7), .int (F j 8), .int (F j 9), .int (F j 10), .int (F j 11), .int (F j 12), .int (F j 13), .int (F j 14)])) := z_eq _ _ _
          exact z_Cvret hx hb hr hlk hS (zT0r (f := zfs (zfs (F j) 4 p0) 3 2) hXI hj (by unfold cd_arrive; rw [if_pos w_1]; simp [c_2, c_17, c_19]) (by rw [z_upup]; rfl)) (by decide) (by decide) d_RR_arrive_88
      · exact th_ISE hx hb hl9 hown hG (hl.1.trans hml.symm) hout hlk (is := 71) (text := "the return is neither announced nor waiting") (by decide +kernel) d_RR_arrive_28 d_RR_arrive_31 d_RR_arrive_32 d_RR_arrive_34 d_RR_arrive_37 (z_teC hW0 (zT1 2 (by unfold cd_arrive; rw [if_pos w_1]; simp [c_2, c_17]) rfl)) (by decide) (Nat.le_of_ble_eq_true rfl) (by decide) (by decide) (by decide) (by decide)
  · exact z_pCX (E := E_IAE) (n_RR_RR_requireWithin hx hown hG (by rw [hb]; exact d_RR_arrive_10)) hb (hl.1.trans hml.symm) (c_RR_requireWithin l hl9 p0 (-1) 9) (if_neg w_1) (z_Gkeeps lo tP) hG hK hS (cw_RR_requireWithin hG (by decide) (by decide)) d_RR_arrive_10 (Nat.le_of_ble_eq_true rfl) (by decide) (by decide) hout hlk (zT1 1 (by unfold cd_arrive; rw [if_neg w_1]) rfl) (by decide) (by decide)
set_option maxHeartbeats 4000000 in
set_option maxRecDepth 100000 in
theorem c_RR_repair_no (l : Launch) (hl9 : l.stackTraces = false) {D : va_G} {cS cR cJ cI cZ : ClassId} {lo tP : Nat} (v : Int32) (p0 : Int32) (a9 : Option Value) (N9 : zM → Prop) {x sA rA n k : Nat} {td : Int32} {sd rd : Nat → Nat} {S : Nat → Nat → Int32} {I : Nat → Nat} {F : Nat → Nat → Int32} {X : zM} (hXI : XI x sA rA cS cR n k td sd rd S I F X) (hv : ¬ z_rg v 1 (nI k)) : z_C (z_G lo tP) D cls4 (zty cS cR cJ cI cZ) lo l y_RR_repair w_RR_repair zr1 [.ref x, .int v, .int p0] X (zT [E_NSE, E_IAE, E_ISE] 1 a9 X N9) := by
  refine z_ofW (by decide) ?_
  intro p e s m args below meth c s₁ B hml hout hv
  obtain ⟨rfl, hG, hK, hW0, hXl, hlo⟩ := hv
  have hx := B.exec
  have hb := B.bytes
  have hr := B.returns
  have hlk := B.notSynchronized
  have hown : s.vm.findClass R_RR = some m.cls := findClass_of_methodNamed B.named
  have hts : ∀ w9 ∈ z_tb, w9.before ([.ref x, .int v, .int p0] : List Value).toArray s = true := hG.ts _
  have hk : ∀ {w9 : Cond}, w9 ∈ lw_tbl → z_ok w9 = true → w9.before ([.ref x, .int v, .int p0] : List Value).toArray s = true := fun h1 h2 => hG.w h1 h2 _
  have hg : z_Gr s.heap s.heap := z_Gr.rf
  have hS := z_S.start hW0 hXl hlo
  have hl := lv_entry ([.ref x, .int v, .int p0]) (n := 4) (Nat.le_of_ble_eq_true rfl)
  rw [lg_entry_eq]
  generalize (lg_sl ([.ref x, .int v, .int p0]) ++ List.replicate (4 - (lg_sl ([.ref x, .int v, .int p0])).length) Slot.unset).toArray = ls at hl ⊢
  have hl : lv_has ls 4 [(0, .ref x), (1, .int v), (2, .int p0)] := hl
  obtain ⟨hxx, hsA, hrA, hSs, hRr, hIn, hn, hkk, hjs, hjr, hAne⟩ := id hXI
  refine lv_aload_n hx hb d_RR_repair_0 rfl (lv_at hl 0 rfl) ?_
  refine lv_iload_n hx hb d_RR_repair_1 rfl (lv_at hl 1 rfl) ?_
  exact z_pCX (E := E_NSE) (n_RR_RR_returnAt hx hown hG (va_recv hK (hS.1.one hxx) (ci := 0) (q0 := 0) rfl rfl) (by rw [hb]; exact d_RR_repair_2)) hb (hl.1.trans hml.symm) (c_RR_returnAt l hl9 x sA rA n k td rd v hxx hrA hkk) (if_neg hv) (z_Gkeeps lo tP) hG hK hS (cw_RR_returnAt hG (by decide) (by decide)) d_RR_repair_2 (Nat.le_of_ble_eq_true rfl) (by decide) (by decide) hout hlk (zT1 0 rfl rfl) (by decide) (by decide)
set_option maxHeartbeats 4000000 in
set_option maxRecDepth 100000 in
theorem c_RR_repair (l : Launch) (hl9 : l.stackTraces = false) {D : va_G} {cS cR cJ cI cZ : ClassId} {lo tP : Nat} {j : Nat} (p0 : Int32) {x sA rA n k : Nat} {td : Int32} {sd rd : Nat → Nat} {S : Nat → Nat → Int32} {I : Nat → Nat} {F : Nat → Nat → Int32} {X : zM} (hXI : XI x sA rA cS cR n k td sd rd S I F X) (hj : j < k) : z_C (z_G lo tP) D cls4 (zty cS cR cJ cI cZ) lo l y_RR_repair w_RR_repair zr1 [.ref x, .int (nI (j + 1)), .int p0] X (zT [E_NSE, E_IAE, E_ISE] (cd_repair (F j) p0) none X (YI x cS cR ⟨n, k, td, S, I, zfr F j (zfs (zfs (F j) 11 p0) 3 4)⟩)) := by
  refine z_ofW (by decide) ?_
  intro p e s m args below meth c s₁ B hml hout hv
  obtain ⟨rfl, hG, hK, hW0, hXl, hlo⟩ := hv
  have hx := B.exec
  have hb := B.bytes
  have hr := B.returns
  have hlk := B.notSynchronized
  have hown : s.vm.findClass R_RR = some m.cls := findClass_of_methodNamed B.named
  have hts : ∀ w9 ∈ z_tb, w9.before ([.ref x, .int (nI (j + 1)), .int p0] : List Value).toArray s = true := hG.ts _
  have hk : ∀ {w9 : Cond}, w9 ∈ lw_tbl → z_ok w9 = true → w9.before ([.ref x, .int (nI (j + 1)), .int p0] : List Value).toArray s = true := fun h1 h2 => hG.w h1 h2 _
  have hg : z_Gr s.heap s.heap := z_Gr.rf
  have hS := z_S.start hW0 hXl hlo
  have hl := lv_entry ([.ref x, .int (nI (j + 1)), .int p0]) (n := 4) (Nat.le_of_ble_eq_true rfl)
  rw [lg_entry_eq]
  generalize (lg_sl ([.ref x, .int (nI (j + 1)), .int p0]) ++ List.replicate (4 - (lg_sl ([.ref x, .int (nI (j + 1)), .int p0])).length) Slot.unset).toArray = ls at hl ⊢
  have hl : lv_has ls 4 [(0, .ref x), (1, .int (nI (j + 1))), (2, .int p0)] := hl
  obtain ⟨hxx, hsA, hrA, hSs, hRr, hIn, hn, hkk, hjs, hjr, hAne⟩ := id hXI
  refine lv_aload_n hx hb d_RR_repair_0 rfl (lv_at hl 0 rfl) ?_
  refine lv_iload_n hx hb d_RR_repair_1 rfl (lv_at hl 1 rfl) ?_
  refine z_pa (n_RR_RR_returnAt hx hown hG (va_recv hK (hS.1.one hxx) (ci := 0) (q0 := 0) rfl rfl) (by rw [hb]; exact d_RR_repair_2)) hb (hl.1.trans hml.symm) (c_RR_returnAt l hl9 x sA rA n k td rd (nI (j + 1)) hxx hrA hkk) (by rw [if_pos ((z_rg1 (by omega) hkk).mpr hj), nI_clamp (show j + 1 < 2 ^ 31 by omega), Nat.add_sub_cancel]) (z_Gkeeps lo tP) hG hK hS (cw_RR_returnAt hG (by decide) (by decide)) d_RR_repair_2 (Nat.le_of_ble_eq_true rfl) (by decide) (by decide) (fun H hq hS => ?_)
  refine lv_astore_n (lv' := [(3, .ref (rd j)), (0, .ref x), (1, .int (nI (j + 1))), (2, .int p0)]) hx hb d_RR_repair_5 rfl hl (by decide) rfl (fun ls hl => ?_)
  refine lv_iload_n hx hb d_RR_repair_6 rfl (lv_at hl 3 rfl) ?_
  refine lv_iconst (v := 1) hx hb d_RR_repair_7 (by decide) ?_
  refine lv_iconst (v := 5) hx hb d_RR_repair_8 (by decide) ?_
  by_cases w_1 : z_rg p0 1 5
  · refine z_pv (n_RR_RR_requireWithin hx hown hG (by rw [hb]; exact d_RR_repair_9)) hb (hl.1.trans hml.symm) (c_RR_requireWithin l hl9 p0 1 5) (if_pos w_1) (z_Gkeeps lo tP) hG hK hS (cw_RR_requireWithin hG (by decide) (by decide)) d_RR_repair_9 (Nat.le_of_ble_eq_true rfl) (by decide) (by decide) (fun H hq hS => ?_)
    refine lv_aload_n hx hb d_RR_repair_12 rfl (lv_at hl 0 rfl) ?_
    by_cases w_2 : F j 3 = 3
    · refine z_pv (n_RR_RR_requireGraded hx hown hG (by rw [hb]; exact d_RR_repair_13)) hb (hl.1.trans hml.symm) (c_RR_requireGraded l hl9 (rd j) (sd (I j)) (F j) (hRr j hj)) (if_pos w_2) (z_Gkeeps lo tP) hG hK hS (cw_RR_requireGraded hG (by decide) (by decide)) d_RR_repair_13 (Nat.le_of_ble_eq_true rfl) (by decide) (by decide) (fun H hq hS => ?_)
      refine lv_aload_n hx hb d_RR_repair_16 rfl (lv_at hl 0 rfl) ?_
      by_cases w_3 : F j 5 = 0
      · refine z_pv (n_RR_RR_requireNoQuarantine hx hown hG (by rw [hb]; exact d_RR_repair_17)) hb (hl.1.trans hml.symm) (c_RR_requireNoQuarantine l hl9 (rd j) (sd (I j)) (F j) (hRr j hj)) (if_pos w_3) (z_Gkeeps lo tP) hG hK hS (cw_RR_requireNoQuarantine hG (by decide) (by decide)) d_RR_repair_17 (Nat.le_of_ble_eq_true rfl) (by decide) (by decide) (fun H hq hS => ?_)
        refine lv_aload_n hx hb d_RR_repair_20 rfl (lv_at hl 0 rfl) ?_
        refine z_get (ci := 2) (C := R_RE) (T := F_RE) (N := 15) hx hb hts j_RE hown hK hS (hRr j hj) rfl 8 (by decide) (hk k_281 rfl) (fun _ h9 => h9) rfl d_RR_repair_21 ?_
        refine lv_if_ne (tgt := 37) hx hb d_RR_repair_24 (by decide) (fun c_4 => ?_) (fun c_4 => ?_)
        · refine lv_aload_n hx hb d_RR_repair_37 rfl (lv_at hl 0 rfl) ?_
          refine lv_iload_n hx hb d_RR_repair_38 rfl (lv_at hl 3 rfl) ?_
          refine z_put (ci := 2) (C := R_RE) (T := F_RE) (N := 15) (ty := .int) (fs' := [.ref (sd (I j)), .int (F j 1), .int (F j 2), .int (F j 3), .int (F j 4), .int (F j 5), .int (F j 6), .int (F j 7), .int (F j 8), .int (F j 9), .int (F j 10), .int p0, .int (F j 12), .int (F j 13), .int (F j 14)]) hx hb hts j_RE t_RE t_RE_ok n_RE hown hK hS (hRr j hj) rfl 11 (by decide) (hk k_286 rfl) (fun _ h9 => h9) rfl (by decide +kernel) rfl rfl (Nat.le_of_ble_eq_true rfl) d_RR_repair_39 rfl (fun H locs hS => ?_)
          have e_5 : (z_up X (rd j) (.inr (2, [.ref (sd (I j)), .int (F j 1), .int (F j 2), .int (F j 3), .int (F j 4), .int (F j 5), .int (F j 6), .int (F j 7), .int (F j 8), .int (F j 9), .int (F j 10), .int p0, .int (F j 12), .int (F j 13), .int (F j 14)]))) x = some (.inr (0, [.ref sA, .ref rA, .int (nI n), .int (nI k), .int td])) := (z_ne (z_oo hxx (hRr j hj) (by decide))).trans hxx
          have e_6 : (z_up X (rd j) (.inr (2, [.ref (sd (I j)), .int (F j 1), .int (F j 2), .int (F j 3), .int (F j 4), .int (F j 5), .int (F j 6), .int (F j 7), .int (F j 8), .int (F j 9), .int (F j 10), .int p0, .int (F j 12), .int (F j 13), .int (F j 14)]))) sA = some (.inl (cS, 20, .inr (.inr (.inr (.inr (fun i => if i < n then some (sd i) else none)))))) := (z_ne (z_ao hsA (hRr j hj))).trans hsA
          have e_7 : (z_up X (rd j) (.inr (2, [.ref (sd (I j)), .int (F j 1), .int (F j 2), .int (F j 3), .int (F j 4), .int (F j 5), .int (F j 6), .int (F j 7), .int (F j 8), .int (F j 9), .int (F j 10), .int p0, .int (F j 12), .int (F j 13), .int (F j 14)]))) rA = some (.inl (cR, 20, .inr (.inr (.inr (.inr (fun i => if i < k then some (rd i) else none)))))) := (z_ne (z_ao hrA (hRr j hj))).trans hrA
          have e_8 : (z_up X (rd j) (.inr (2, [.ref (sd (I j)), .int (F j 1), .int (F j 2), .int (F j 3), .int (F j 4), .int (F j 5), .int (F j 6), .int (F j 7), .int (F j 8), .int (F j 9), .int (F j 10), .int p0, .int (F j 12), .int (F j 13), .int (F j 14)]))) (sd (I j)) = some (.inr (1, [.int (nI (I j)), .int (S (I j) 1), .int (S (I j) 2), .int (S (I j) 3), .int (S (I j) 4), .int (S (I j) 5)])) := (z_ne (z_oo (hSs (I j) (hIn j hj)) (hRr j hj) (by decide))).trans (hSs (I j) (hIn j hj))
          have e_9 : (z_up X (rd j) (.inr (2, [.ref (sd (I j)), .int (F j 1), .int (F j 2), .int (F j 3), .int (F j 4), .int (F j 5), .int (F j 6), .int (F j 7), .int (F j 8), .int (F j 9), .int (F j 10), .int p0, .int (F j 12), .int (F j 13), .int (F j 14)]))) (rd j) = some (.inr (2, [.ref (sd (I j)), .int (F j 1), .int (F j 2), .int (F j 3), .int (F j 4), .int (F j 5), .int (F j 6), .int (F j 7), .int (F j 8), .int (F j 9), .int (F j 10), .int p0, .int (F j 12), .int (F j 13), .int (F j 14)])) := z_eq _ _ _
          refine lv_aload_n hx hb d_RR_repair_42 rfl (lv_at hl 0 rfl) ?_
          refine lv_iconst (v := 4) hx hb d_RR_repair_43 (by decide) ?_
          refine z_put (ci := 2) (C := R_RE) (T := F_RE) (N := 15) (ty := .int) (fs' := [.ref (sd (I j)), .int (F j 1), .int (F j 2), .int 4, .int (F j 4), .int (F j 5), .int (F j 6), .int (F j 7), .int (F j 8), .int (F j 9), .int (F j 10), .int p0, .int (F j 12), .int (F j 13), .int (F j 14)]) hx hb hts j_RE t_RE t_RE_ok n_RE hown hK hS e_9 rfl 3 (by decide) (hk k_272 rfl) (fun _ h9 => h9) rfl (by decide +kernel) rfl rfl (Nat.le_of_ble_eq_true rfl) d_RR_repair_44 rfl (fun H locs hS => ?_)
          have e_10 : (z_up (z_up X (rd j) (.inr (2, [.ref (sd (I j)), .int (F j 1), .int (F j 2), .int (F j 3), .int (F j 4), .int (F j 5), .int (F j 6), .int (F j 7), .int (F j 8), .int (F j 9), .int (F j 10), .int p0, .int (F j 12), .int (F j 13), .int (F j 14)]))) (rd j) (.inr (2, [.ref (sd (I j)), .int (F j 1), .int (F j 2), .int 4, .int (F j 4), .int (F j 5), .int (F j 6), .int (F j 7), .int (F j 8), .int (F j 9), .int (F j 10), .int p0, .int (F j 12), .int (F j 13), .int (F j 14)]))) x = some (.inr (0, [.ref sA, .ref rA, .int (nI n), .int (nI k), .int td])) := (z_ne (z_oo e_5 e_9 (by decide))).trans e_5
          have e_11 : (z_up (z_up X (rd j) (.inr (2, [.ref (sd (I j)), .int (F j 1), .int (F j 2), .int (F j 3), .int (F j 4), .int (F j 5), .int (F j 6), .int (F j 7), .int (F j 8), .int (F j 9), .int (F j 10), .int p0, .int (F j 12), .int (F j 13), .int (F j 14)]))) (rd j) (.inr (2, [.ref (sd (I j)), .int (F j 1), .int (F j 2), .int 4, .int (F j 4), .int (F j 5), .int (F j 6), .int (F j 7), .int (F j 8), .int (F j 9), .int (F j 10), .int p0, .int (F j 12), .int (F j 13), .int (F j 14)]))) sA = some (.inl (cS, 20, .inr (.inr (.inr (.inr (fun i => if i < n then some (sd i) else none)))))) := (z_ne (z_ao e_6 e_9)).trans e_6
          have e_12 : (z_up (z_up X (rd j) (.inr (2, [.ref (sd (I j)), .int (F j 1), .int (F j 2), .int (F j 3), .int (F j 4), .int (F j 5), .int (F j 6), .int (F j 7), .int (F j 8), .int (F j 9), .int (F j 10), .int p0, .int (F j 12), .int (F j 13), .int (F j 14)]))) (rd j) (.inr (2, [.ref (sd (I j)), .int (F j 1), .int (F j 2), .int 4, .int (F j 4), .int (F j 5), .int (F j 6), .int (F j 7), .int (F j 8), .int (F j 9), .int (F j 10), .int p0, .int (F j 12), .int (F j 13), .int (F j 14)]))) rA = some (.inl (cR, 20, .inr (.inr (.inr (.inr (fun i => if i < k then some (rd i) else none)))))) := (z_ne (z_ao e_7 e_9)).trans e_7
          have e_13 : (z_up (z_up X (rd j) (.inr (2, [.ref (sd (I j)), .int (F j 1), .int (F j 2), .int (F j 3), .int (F j 4), .int (F j 5), .int (F j 6), .int (F j 7), .int (F j 8), .int (F j 9), .int (F j 10), .int p0, .int (F j 12), .int (F j 13), .int (F j 14)]))) (rd j) (.inr (2, [.ref (sd (I j)), .int (F j 1), .int (F j 2), .int 4, .int (F j 4), .int (F j 5), .int (F j 6), .int (F j 7), .int (F j 8), .int (F j 9), .int (F j 10), .int p0, .int (F j 12), .int (F j 13), .int (F j 14)]))) (sd (I j)) = some (.inr (1, [.int (nI (I j)), .int (S (I j) 1), .int (S (I j) 2), .int (S (I j) 3), .int (S (I j) 4), .int (S (I j) 5)])) := (z_ne (z_oo e_8 e_9 (by decide))).trans e_8
          have e_14 : (z_up (z_up X (rd j) (.inr (2, [.ref (sd (I j)), .int (F j 1), .int (F j 2), .int (F j 3), .int (F j 4), .int (F j 5), .int (F j 6), .int (F j 7), .int (F j 8), .int (F j 9), .int (F j 10), .int p0, .int (F j 12), .int (F j 13), .int (F j 14)]))) (rd j) (.inr (2, [.ref (sd (I j)), .int (F j 1), .int (F j 2), .int 4, .int (F j 4), .int (F j 5), .int (F j 6), .int (F j 7), .int (F j 8), .int (F j 9), .int (F j 10), .int p0, .int (F j 12), .int (F j 13), .int (F j 14)]))) (rd j) = some (.inr (2, [.ref (sd (I j)), .int (F j 1), .int (F j 2), .int 4, .int (F j 4), .int (F j 5), .int (F j 6), .int (F j 7), .int (F j 8), .int (F j 9), .int (F j 10), .int p0, .int (F j 12), .int (F j 13), .int (F j 14)])) := z_eq _ _ _
          exact z_Cvret hx hb hr hlk hS (zT0r (f := zfs (zfs (F j) 11 p0) 3 4) hXI hj (by unfold cd_repair; rw [if_pos w_1]; simp [w_2, w_3, c_4]) (by rw [z_upup]; rfl)) (by decide) (by decide) d_RR_repair_47
        · exact th_ISE hx hb hl9 hown hG (hl.1.trans hml.symm) hout hlk (is := 127) (text := "the best grade needs no repair") (by decide +kernel) d_RR_repair_27 d_RR_repair_30 d_RR_repair_31 d_RR_repair_33 d_RR_repair_36 (z_teC hW0 (zT1 2 (by unfold cd_repair; rw [if_pos w_1]; simp [w_2, w_3, c_4]) rfl)) (by decide) (Nat.le_of_ble_eq_true rfl) (by decide) (by decide) (by decide) (by decide)
      · exact z_pCX (E := E_ISE) (n_RR_RR_requireNoQuarantine hx hown hG (by rw [hb]; exact d_RR_repair_17)) hb (hl.1.trans hml.symm) (c_RR_requireNoQuarantine l hl9 (rd j) (sd (I j)) (F j) (hRr j hj)) (if_neg w_3) (z_Gkeeps lo tP) hG hK hS (cw_RR_requireNoQuarantine hG (by decide) (by decide)) d_RR_repair_17 (Nat.le_of_ble_eq_true rfl) (by decide) (by decide) hout hlk (zT1 2 (by unfold cd_repair; rw [if_pos w_1]; simp [w_2, w_3]) rfl) (by decide) (by decide)
    · exact z_pCX (E := E_ISE) (n_RR_RR_requireGraded hx hown hG (by rw [hb]; exact d_RR_repair_13)) hb (hl.1.trans hml.symm) (c_RR_requireGraded l hl9 (rd j) (sd (I j)) (F j) (hRr j hj)) (if_neg w_2) (z_Gkeeps lo tP) hG hK hS (cw_RR_requireGraded hG (by decide) (by decide)) d_RR_repair_13 (Nat.le_of_ble_eq_true rfl) (by decide) (by decide) hout hlk (zT1 2 (by unfold cd_repair; rw [if_pos w_1]; simp [w_2]) rfl) (by decide) (by decide)
  · exact z_pCX (E := E_IAE) (n_RR_RR_requireWithin hx hown hG (by rw [hb]; exact d_RR_repair_9)) hb (hl.1.trans hml.symm) (c_RR_requireWithin l hl9 p0 1 5) (if_neg w_1) (z_Gkeeps lo tP) hG hK hS (cw_RR_requireWithin hG (by decide) (by decide)) d_RR_repair_9 (Nat.le_of_ble_eq_true rfl) (by decide) (by decide) hout hlk (zT1 1 (by unfold cd_repair; rw [if_neg w_1]) rfl) (by decide) (by decide)
set_option maxHeartbeats 4000000 in
set_option maxRecDepth 100000 in
theorem c_RR_missing_no (l : Launch) (hl9 : l.stackTraces = false) {D : va_G} {cS cR cJ cI cZ : ClassId} {lo tP : Nat} (v : Int32) (p0 : Int32) (a9 : Option Value) (N9 : zM → Prop) {x sA rA n k : Nat} {td : Int32} {sd rd : Nat → Nat} {S : Nat → Nat → Int32} {I : Nat → Nat} {F : Nat → Nat → Int32} {X : zM} (hXI : XI x sA rA cS cR n k td sd rd S I F X) (hv : ¬ z_rg v 1 (nI k)) : z_C (z_G lo tP) D cls4 (zty cS cR cJ cI cZ) lo l y_RR_missing w_RR_missing zr1 [.ref x, .int v, .int p0] X (zT [E_NSE, E_IAE, E_ISE] 1 a9 X N9) := by
  refine z_ofW (by decide) ?_
  intro p e s m args below meth c s₁ B hml hout hv
  obtain ⟨rfl, hG, hK, hW0, hXl, hlo⟩ := hv
  have hx := B.exec
  have hb := B.bytes
  have hr := B.returns
  have hlk := B.notSynchronized
  have hown : s.vm.findClass R_RR = some m.cls := findClass_of_methodNamed B.named
  have hts : ∀ w9 ∈ z_tb, w9.before ([.ref x, .int v, .int p0] : List Value).toArray s = true := hG.ts _
  have hk : ∀ {w9 : Cond}, w9 ∈ lw_tbl → z_ok w9 = true → w9.before ([.ref x, .int v, .int p0] : List Value).toArray s = true := fun h1 h2 => hG.w h1 h2 _
  have hg : z_Gr s.heap s.heap := z_Gr.rf
  have hS := z_S.start hW0 hXl hlo
  have hl := lv_entry ([.ref x, .int v, .int p0]) (n := 4) (Nat.le_of_ble_eq_true rfl)
  rw [lg_entry_eq]
  generalize (lg_sl ([.ref x, .int v, .int p0]) ++ List.replicate (4 - (lg_sl ([.ref x, .int v, .int p0])).length) Slot.unset).toArray = ls at hl ⊢
  have hl : lv_has ls 4 [(0, .ref x), (1, .int v), (2, .int p0)] := hl
  obtain ⟨hxx, hsA, hrA, hSs, hRr, hIn, hn, hkk, hjs, hjr, hAne⟩ := id hXI
  refine lv_aload_n hx hb d_RR_missing_0 rfl (lv_at hl 0 rfl) ?_
  refine lv_iload_n hx hb d_RR_missing_1 rfl (lv_at hl 1 rfl) ?_
  exact z_pCX (E := E_NSE) (n_RR_RR_returnAt hx hown hG (va_recv hK (hS.1.one hxx) (ci := 0) (q0 := 0) rfl rfl) (by rw [hb]; exact d_RR_missing_2)) hb (hl.1.trans hml.symm) (c_RR_returnAt l hl9 x sA rA n k td rd v hxx hrA hkk) (if_neg hv) (z_Gkeeps lo tP) hG hK hS (cw_RR_returnAt hG (by decide) (by decide)) d_RR_missing_2 (Nat.le_of_ble_eq_true rfl) (by decide) (by decide) hout hlk (zT1 0 rfl rfl) (by decide) (by decide)
set_option maxHeartbeats 4000000 in
set_option maxRecDepth 100000 in
theorem c_RR_missing (l : Launch) (hl9 : l.stackTraces = false) {D : va_G} {cS cR cJ cI cZ : ClassId} {lo tP : Nat} {j : Nat} (p0 : Int32) {x sA rA n k : Nat} {td : Int32} {sd rd : Nat → Nat} {S : Nat → Nat → Int32} {I : Nat → Nat} {F : Nat → Nat → Int32} {X : zM} (hXI : XI x sA rA cS cR n k td sd rd S I F X) (hj : j < k) : z_C (z_G lo tP) D cls4 (zty cS cR cJ cI cZ) lo l y_RR_missing w_RR_missing zr1 [.ref x, .int (nI (j + 1)), .int p0] X (zT [E_NSE, E_IAE, E_ISE] (cd_missing (F j) p0) none X (YI x cS cR ⟨n, k, td, S, I, zfr F j (zfs (F j) 12 p0)⟩)) := by
  refine z_ofW (by decide) ?_
  intro p e s m args below meth c s₁ B hml hout hv
  obtain ⟨rfl, hG, hK, hW0, hXl, hlo⟩ := hv
  have hx := B.exec
  have hb := B.bytes
  have hr := B.returns
  have hlk := B.notSynchronized
  have hown : s.vm.findClass R_RR = some m.cls := findClass_of_methodNamed B.named
  have hts : ∀ w9 ∈ z_tb, w9.before ([.ref x, .int (nI (j + 1)), .int p0] : List Value).toArray s = true := hG.ts _
  have hk : ∀ {w9 : Cond}, w9 ∈ lw_tbl → z_ok w9 = true → w9.before ([.ref x, .int (nI (j + 1)), .int p0] : List Value).toArray s = true := fun h1 h2 => hG.w h1 h2 _
  have hg : z_Gr s.heap s.heap := z_Gr.rf
  have hS := z_S.start hW0 hXl hlo
  have hl := lv_entry ([.ref x, .int (nI (j + 1)), .int p0]) (n := 4) (Nat.le_of_ble_eq_true rfl)
  rw [lg_entry_eq]
  generalize (lg_sl ([.ref x, .int (nI (j + 1)), .int p0]) ++ List.replicate (4 - (lg_sl ([.ref x, .int (nI (j + 1)), .int p0])).length) Slot.unset).toArray = ls at hl ⊢
  have hl : lv_has ls 4 [(0, .ref x), (1, .int (nI (j + 1))), (2, .int p0)] := hl
  obtain ⟨hxx, hsA, hrA, hSs, hRr, hIn, hn, hkk, hjs, hjr, hAne⟩ := id hXI
  refine lv_aload_n hx hb d_RR_missing_0 rfl (lv_at hl 0 rfl) ?_
  refine lv_iload_n hx hb d_RR_missing_1 rfl (lv_at hl 1 rfl) ?_
  refine z_pa (n_RR_RR_returnAt hx hown hG (va_recv hK (hS.1.one hxx) (ci := 0) (q0 := 0) rfl rfl) (by rw [hb]; exact d_RR_missing_2)) hb (hl.1.trans hml.symm) (c_RR_returnAt l hl9 x sA rA n k td rd (nI (j + 1)) hxx hrA hkk) (by rw [if_pos ((z_rg1 (by omega) hkk).mpr hj), nI_clamp (show j + 1 < 2 ^ 31 by omega), Nat.add_sub_cancel]) (z_Gkeeps lo tP) hG hK hS (cw_RR_returnAt hG (by decide) (by decide)) d_RR_missing_2 (Nat.le_of_ble_eq_true rfl) (by decide) (by decide) (fun H hq hS => ?_)
  refine lv_astore_n (lv' := [(3, .ref (rd j)), (0, .ref x), (1, .int (nI (j + 1))), (2, .int p0)]) hx hb d_RR_missing_5 rfl hl (by decide) rfl (fun ls hl => ?_)
  refine lv_iload_n hx hb d_RR_missing_6 rfl (lv_at hl 3 rfl) ?_
  refine lv_iconst (v := 0) hx hb d_RR_missing_7 (by decide) ?_
  refine lv_bipush (v := 10) hx hb d_RR_missing_8 (by decide) ?_
  by_cases w_1 : z_rg p0 0 10
  · refine z_pv (n_RR_RR_requireWithin hx hown hG (by rw [hb]; exact d_RR_missing_10)) hb (hl.1.trans hml.symm) (c_RR_requireWithin l hl9 p0 0 10) (if_pos w_1) (z_Gkeeps lo tP) hG hK hS (cw_RR_requireWithin hG (by decide) (by decide)) d_RR_missing_10 (Nat.le_of_ble_eq_true rfl) (by decide) (by decide) (fun H hq hS => ?_)
    refine lv_aload_n hx hb d_RR_missing_13 rfl (lv_at hl 0 rfl) ?_
    by_cases w_2 : F j 3 = 2 ∨ F j 3 = 3
    · refine z_pv (n_RR_RR_requireHereOrGraded hx hown hG (by rw [hb]; exact d_RR_missing_14)) hb (hl.1.trans hml.symm) (c_RR_requireHereOrGraded l hl9 (rd j) (sd (I j)) (F j) (hRr j hj)) (if_pos w_2) (z_Gkeeps lo tP) hG hK hS (cw_RR_requireHereOrGraded hG (by decide) (by decide)) d_RR_missing_14 (Nat.le_of_ble_eq_true rfl) (by decide) (by decide) (fun H hq hS => ?_)
      refine lv_aload_n hx hb d_RR_missing_17 rfl (lv_at hl 0 rfl) ?_
      refine lv_iload_n hx hb d_RR_missing_18 rfl (lv_at hl 3 rfl) ?_
      refine z_put (ci := 2) (C := R_RE) (T := F_RE) (N := 15) (ty := .int) (fs' := [.ref (sd (I j)), .int (F j 1), .int (F j 2), .int (F j 3), .int (F j 4), .int (F j 5), .int (F j 6), .int (F j 7), .int (F j 8), .int (F j 9), .int (F j 10), .int (F j 11), .int p0, .int (F j 13), .int (F j 14)]) hx hb hts j_RE t_RE t_RE_ok n_RE hown hK hS (hRr j hj) rfl 12 (by decide) (hk k_288 rfl) (fun _ h9 => h9) rfl (by decide +kernel) rfl rfl (Nat.le_of_ble_eq_true rfl) d_RR_missing_19 rfl (fun H locs hS => ?_)
      have e_3 : (z_up X (rd j) (.inr (2, [.ref (sd (I j)), .int (F j 1), .int (F j 2), .int (F j 3), .int (F j 4), .int (F j 5), .int (F j 6), .int (F j 7), .int (F j 8), .int (F j 9), .int (F j 10), .int (F j 11), .int p0, .int (F j 13), .int (F j 14)]))) x = some (.inr (0, [.ref sA, .ref rA, .int (nI n), .int (nI k), .int td])) := (z_ne (z_oo hxx (hRr j hj) (by decide))).trans hxx
      have e_4 : (z_up X (rd j) (.inr (2, [.ref (sd (I j)), .int (F j 1), .int (F j 2), .int (F j 3), .int (F j 4), .int (F j 5), .int (F j 6), .int (F j 7), .int (F j 8), .int (F j 9), .int (F j 10), .int (F j 11), .int p0, .int (F j 13), .int (F j 14)]))) sA = some (.inl (cS, 20, .inr (.inr (.inr (.inr (fun i => if i < n then some (sd i) else none)))))) := (z_ne (z_ao hsA (hRr j hj))).trans hsA
      have e_5 : (z_up X (rd j) (.inr (2, [.ref (sd (I j)), .int (F j 1), .int (F j 2), .int (F j 3), .int (F j 4), .int (F j 5), .int (F j 6), .int (F j 7), .int (F j 8), .int (F j 9), .int (F j 10), .int (F j 11), .int p0, .int (F j 13), .int (F j 14)]))) rA = some (.inl (cR, 20, .inr (.inr (.inr (.inr (fun i => if i < k then some (rd i) else none)))))) := (z_ne (z_ao hrA (hRr j hj))).trans hrA
      have e_6 : (z_up X (rd j) (.inr (2, [.ref (sd (I j)), .int (F j 1), .int (F j 2), .int (F j 3), .int (F j 4), .int (F j 5), .int (F j 6), .int (F j 7), .int (F j 8), .int (F j 9), .int (F j 10), .int (F j 11), .int p0, .int (F j 13), .int (F j 14)]))) (sd (I j)) = some (.inr (1, [.int (nI (I j)), .int (S (I j) 1), .int (S (I j) 2), .int (S (I j) 3), .int (S (I j) 4), .int (S (I j) 5)])) := (z_ne (z_oo (hSs (I j) (hIn j hj)) (hRr j hj) (by decide))).trans (hSs (I j) (hIn j hj))
      have e_7 : (z_up X (rd j) (.inr (2, [.ref (sd (I j)), .int (F j 1), .int (F j 2), .int (F j 3), .int (F j 4), .int (F j 5), .int (F j 6), .int (F j 7), .int (F j 8), .int (F j 9), .int (F j 10), .int (F j 11), .int p0, .int (F j 13), .int (F j 14)]))) (rd j) = some (.inr (2, [.ref (sd (I j)), .int (F j 1), .int (F j 2), .int (F j 3), .int (F j 4), .int (F j 5), .int (F j 6), .int (F j 7), .int (F j 8), .int (F j 9), .int (F j 10), .int (F j 11), .int p0, .int (F j 13), .int (F j 14)])) := z_eq _ _ _
      exact z_Cvret hx hb hr hlk hS (zT0r (f := zfs (F j) 12 p0) hXI hj (by unfold cd_missing; rw [if_pos w_1]; simp [w_2]) (by rfl)) (by decide) (by decide) d_RR_missing_22
    · exact z_pCX (E := E_ISE) (n_RR_RR_requireHereOrGraded hx hown hG (by rw [hb]; exact d_RR_missing_14)) hb (hl.1.trans hml.symm) (c_RR_requireHereOrGraded l hl9 (rd j) (sd (I j)) (F j) (hRr j hj)) (if_neg w_2) (z_Gkeeps lo tP) hG hK hS (cw_RR_requireHereOrGraded hG (by decide) (by decide)) d_RR_missing_14 (Nat.le_of_ble_eq_true rfl) (by decide) (by decide) hout hlk (zT1 2 (by unfold cd_missing; rw [if_pos w_1]; simp [w_2]) rfl) (by decide) (by decide)
  · exact z_pCX (E := E_IAE) (n_RR_RR_requireWithin hx hown hG (by rw [hb]; exact d_RR_missing_10)) hb (hl.1.trans hml.symm) (c_RR_requireWithin l hl9 p0 0 10) (if_neg w_1) (z_Gkeeps lo tP) hG hK hS (cw_RR_requireWithin hG (by decide) (by decide)) d_RR_missing_10 (Nat.le_of_ble_eq_true rfl) (by decide) (by decide) hout hlk (zT1 1 (by unfold cd_missing; rw [if_neg w_1]) rfl) (by decide) (by decide)
set_option maxHeartbeats 4000000 in
set_option maxRecDepth 100000 in
theorem c_RR_refund_no (l : Launch) (hl9 : l.stackTraces = false) {D : va_G} {cS cR cJ cI cZ : ClassId} {lo tP : Nat} (v : Int32) (p0 : Int32) (a9 : Option Value) (N9 : zM → Prop) {x sA rA n k : Nat} {td : Int32} {sd rd : Nat → Nat} {S : Nat → Nat → Int32} {I : Nat → Nat} {F : Nat → Nat → Int32} {X : zM} (hXI : XI x sA rA cS cR n k td sd rd S I F X) (hv : ¬ z_rg v 1 (nI k)) : z_C (z_G lo tP) D cls4 (zty cS cR cJ cI cZ) lo l y_RR_refund w_RR_refund zr1 [.ref x, .int v, .int p0] X (zT [E_NSE, E_IAE, E_ISE] 1 a9 X N9) := by
  refine z_ofW (by decide) ?_
  intro p e s m args below meth c s₁ B hml hout hv
  obtain ⟨rfl, hG, hK, hW0, hXl, hlo⟩ := hv
  have hx := B.exec
  have hb := B.bytes
  have hr := B.returns
  have hlk := B.notSynchronized
  have hown : s.vm.findClass R_RR = some m.cls := findClass_of_methodNamed B.named
  have hts : ∀ w9 ∈ z_tb, w9.before ([.ref x, .int v, .int p0] : List Value).toArray s = true := hG.ts _
  have hk : ∀ {w9 : Cond}, w9 ∈ lw_tbl → z_ok w9 = true → w9.before ([.ref x, .int v, .int p0] : List Value).toArray s = true := fun h1 h2 => hG.w h1 h2 _
  have hg : z_Gr s.heap s.heap := z_Gr.rf
  have hS := z_S.start hW0 hXl hlo
  have hl := lv_entry ([.ref x, .int v, .int p0]) (n := 5) (Nat.le_of_ble_eq_true rfl)
  rw [lg_entry_eq]
  generalize (lg_sl ([.ref x, .int v, .int p0]) ++ List.replicate (5 - (lg_sl ([.ref x, .int v, .int p0])).length) Slot.unset).toArray = ls at hl ⊢
  have hl : lv_has ls 5 [(0, .ref x), (1, .int v), (2, .int p0)] := hl
  obtain ⟨hxx, hsA, hrA, hSs, hRr, hIn, hn, hkk, hjs, hjr, hAne⟩ := id hXI
  refine lv_aload_n hx hb d_RR_refund_0 rfl (lv_at hl 0 rfl) ?_
  refine lv_iload_n hx hb d_RR_refund_1 rfl (lv_at hl 1 rfl) ?_
  exact z_pCX (E := E_NSE) (n_RR_RR_returnAt hx hown hG (va_recv hK (hS.1.one hxx) (ci := 0) (q0 := 0) rfl rfl) (by rw [hb]; exact d_RR_refund_2)) hb (hl.1.trans hml.symm) (c_RR_returnAt l hl9 x sA rA n k td rd v hxx hrA hkk) (if_neg hv) (z_Gkeeps lo tP) hG hK hS (cw_RR_returnAt hG (by decide) (by decide)) d_RR_refund_2 (Nat.le_of_ble_eq_true rfl) (by decide) (by decide) hout hlk (zT1 0 rfl rfl) (by decide) (by decide)
set_option maxHeartbeats 4000000 in
set_option maxRecDepth 100000 in
theorem c_RR_refund (l : Launch) (hl9 : l.stackTraces = false) {D : va_G} {cS cR cJ cI cZ : ClassId} {lo tP : Nat} {j : Nat} (p0 : Int32) {x sA rA n k : Nat} {td : Int32} {sd rd : Nat → Nat} {S : Nat → Nat → Int32} {I : Nat → Nat} {F : Nat → Nat → Int32} {X : zM} (hXI : XI x sA rA cS cR n k td sd rd S I F X) (hj : j < k) : z_C (z_G lo tP) D cls4 (zty cS cR cJ cI cZ) lo l y_RR_refund w_RR_refund zr1 [.ref x, .int (nI (j + 1)), .int p0] X (zT [E_NSE, E_IAE, E_ISE] (cd_refund (S (I j)) (F j) p0) (some (.int (z_due (S (I j)) (F j) - F j 13 - p0))) X (YI x cS cR ⟨n, k, td, S, I, zfr F j (zfs (F j) 13 (F j 13 + p0))⟩)) := by
  refine z_ofW (by decide) ?_
  intro p e s m args below meth c s₁ B hml hout hv
  obtain ⟨rfl, hG, hK, hW0, hXl, hlo⟩ := hv
  have hx := B.exec
  have hb := B.bytes
  have hr := B.returns
  have hlk := B.notSynchronized
  have hown : s.vm.findClass R_RR = some m.cls := findClass_of_methodNamed B.named
  have hts : ∀ w9 ∈ z_tb, w9.before ([.ref x, .int (nI (j + 1)), .int p0] : List Value).toArray s = true := hG.ts _
  have hk : ∀ {w9 : Cond}, w9 ∈ lw_tbl → z_ok w9 = true → w9.before ([.ref x, .int (nI (j + 1)), .int p0] : List Value).toArray s = true := fun h1 h2 => hG.w h1 h2 _
  have hg : z_Gr s.heap s.heap := z_Gr.rf
  have hS := z_S.start hW0 hXl hlo
  have hl := lv_entry ([.ref x, .int (nI (j + 1)), .int p0]) (n := 5) (Nat.le_of_ble_eq_true rfl)
  rw [lg_entry_eq]
  generalize (lg_sl ([.ref x, .int (nI (j + 1)), .int p0]) ++ List.replicate (5 - (lg_sl ([.ref x, .int (nI (j + 1)), .int p0])).length) Slot.unset).toArray = ls at hl ⊢
  have hl : lv_has ls 5 [(0, .ref x), (1, .int (nI (j + 1))), (2, .int p0)] := hl
  obtain ⟨hxx, hsA, hrA, hSs, hRr, hIn, hn, hkk, hjs, hjr, hAne⟩ := id hXI
  refine lv_aload_n hx hb d_RR_refund_0 rfl (lv_at hl 0 rfl) ?_
  refine lv_iload_n hx hb d_RR_refund_1 rfl (lv_at hl 1 rfl) ?_
  refine z_pa (n_RR_RR_returnAt hx hown hG (va_recv hK (hS.1.one hxx) (ci := 0) (q0 := 0) rfl rfl) (by rw [hb]; exact d_RR_refund_2)) hb (hl.1.trans hml.symm) (c_RR_returnAt l hl9 x sA rA n k td rd (nI (j + 1)) hxx hrA hkk) (by rw [if_pos ((z_rg1 (by omega) hkk).mpr hj), nI_clamp (show j + 1 < 2 ^ 31 by omega), Nat.add_sub_cancel]) (z_Gkeeps lo tP) hG hK hS (cw_RR_returnAt hG (by decide) (by decide)) d_RR_refund_2 (Nat.le_of_ble_eq_true rfl) (by decide) (by decide) (fun H hq hS => ?_)
  refine lv_astore_n (lv' := [(3, .ref (rd j)), (0, .ref x), (1, .int (nI (j + 1))), (2, .int p0)]) hx hb d_RR_refund_5 rfl hl (by decide) rfl (fun ls hl => ?_)
  refine lv_iload_n hx hb d_RR_refund_6 rfl (lv_at hl 3 rfl) ?_
  refine lv_iconst (v := 1) hx hb d_RR_refund_7 (by decide) ?_
  refine lv_ldc (v := 100000) hx hb hown (hk k_167 rfl) d_RR_refund_8 ?_
  by_cases w_1 : z_rg p0 1 100000
  · refine z_pv (n_RR_RR_requireWithin hx hown hG (by rw [hb]; exact d_RR_refund_10)) hb (hl.1.trans hml.symm) (c_RR_requireWithin l hl9 p0 1 100000) (if_pos w_1) (z_Gkeeps lo tP) hG hK hS (cw_RR_requireWithin hG (by decide) (by decide)) d_RR_refund_10 (Nat.le_of_ble_eq_true rfl) (by decide) (by decide) (fun H hq hS => ?_)
    refine lv_aload_n hx hb d_RR_refund_13 rfl (lv_at hl 0 rfl) ?_
    refine z_pi (n_RR_RE_amountDue hx hown hG (va_recv hK (hS.1.one (hRr j hj)) (ci := 2) (q0 := 0) rfl rfl) (by rw [hb]; exact d_RR_refund_14)) hb (hl.1.trans hml.symm) (c_RE_amountDue l hl9 (rd j) (sd (I j)) (F j) (hRr j hj) (I j) (S (I j)) (hSs (I j) (hIn j hj))) (rfl) (z_Gkeeps lo tP) hG hK hS (cw_RE_amountDue hG (by decide) (by decide)) d_RR_refund_14 (Nat.le_of_ble_eq_true rfl) (by decide) (by decide) (fun H hq hS => ?_)
    refine lv_aload_n hx hb d_RR_refund_17 rfl (lv_at hl 0 rfl) ?_
    refine z_get (ci := 2) (C := R_RE) (T := F_RE) (N := 15) hx hb hts j_RE hown hK hS (hRr j hj) rfl 13 (by decide) (hk k_290 rfl) (fun _ h9 => h9) rfl d_RR_refund_18 ?_
    refine lv_isub hx hb d_RR_refund_21 ?_
    refine lv_istore (lv' := [(4, .int ((z_due (S (I j)) (F j)) - (F j 13))), (3, .ref (rd j)), (0, .ref x), (1, .int (nI (j + 1))), (2, .int p0)]) hx hb d_RR_refund_22 hl (by decide) rfl (fun ls hl => ?_)
    refine lv_iload_n hx hb d_RR_refund_24 rfl (lv_at hl 4 rfl) ?_
    refine lv_iload hx hb d_RR_refund_25 (lv_at hl 0 rfl) ?_
    refine lv_icmp_le (tgt := 40) hx hb d_RR_refund_27 (by decide) (fun c_2 => ?_) (fun c_2 => ?_)
    · refine lv_aload_n hx hb d_RR_refund_40 rfl (lv_at hl 1 rfl) ?_
      refine lv_dup hx hb d_RR_refund_41 rfl ?_
      refine z_get (ci := 2) (C := R_RE) (T := F_RE) (N := 15) hx hb hts j_RE hown hK hS (hRr j hj) rfl 13 (by decide) (hk k_290 rfl) (fun _ h9 => h9) rfl d_RR_refund_42 ?_
      refine lv_iload_n hx hb d_RR_refund_45 rfl (lv_at hl 4 rfl) ?_
      refine lv_iadd hx hb d_RR_refund_46 ?_
      refine z_put (ci := 2) (C := R_RE) (T := F_RE) (N := 15) (ty := .int) (fs' := [.ref (sd (I j)), .int (F j 1), .int (F j 2), .int (F j 3), .int (F j 4), .int (F j 5), .int (F j 6), .int (F j 7), .int (F j 8), .int (F j 9), .int (F j 10), .int (F j 11), .int (F j 12), .int ((F j 13) + p0), .int (F j 14)]) hx hb hts j_RE t_RE t_RE_ok n_RE hown hK hS (hRr j hj) rfl 13 (by decide) (hk k_290 rfl) (fun _ h9 => h9) rfl (by decide +kernel) rfl rfl (Nat.le_of_ble_eq_true rfl) d_RR_refund_47 rfl (fun H locs hS => ?_)
      have e_3 : (z_up X (rd j) (.inr (2, [.ref (sd (I j)), .int (F j 1), .int (F j 2), .int (F j 3), .int (F j 4), .int (F j 5), .int (F j 6), .int (F j 7), .int (F j 8), .int (F j 9), .int (F j 10), .int (F j 11), .int (F j 12), .int ((F j 13) + p0), .int (F j 14)]))) x = some (.inr (0, [.ref sA, .ref rA, .int (nI n), .int (nI k), .int td])) := (z_ne (z_oo hxx (hRr j hj) (by decide))).trans hxx
      have e_4 : (z_up X (rd j) (.inr (2, [.ref (sd (I j)), .int (F j 1), .int (F j 2), .int (F j 3), .int (F j 4), .int (F j 5), .int (F j 6), .int (F j 7), .int (F j 8), .int (F j 9), .int (F j 10), .int (F j 11), .int (F j 12), .int ((F j 13) + p0), .int (F j 14)]))) sA = some (.inl (cS, 20, .inr (.inr (.inr (.inr (fun i => if i < n then some (sd i) else none)))))) := (z_ne (z_ao hsA (hRr j hj))).trans hsA
      have e_5 : (z_up X (rd j) (.inr (2, [.ref (sd (I j)), .int (F j 1), .int (F j 2), .int (F j 3), .int (F j 4), .int (F j 5), .int (F j 6), .int (F j 7), .int (F j 8), .int (F j 9), .int (F j 10), .int (F j 11), .int (F j 12), .int ((F j 13) + p0), .int (F j 14)]))) rA = some (.inl (cR, 20, .inr (.inr (.inr (.inr (fun i => if i < k then some (rd i) else none)))))) := (z_ne (z_ao hrA (hRr j hj))).trans hrA
      have e_6 : (z_up X (rd j) (.inr (2, [.ref (sd (I j)), .int (F j 1), .int (F j 2), .int (F j 3), .int (F j 4), .int (F j 5), .int (F j 6), .int (F j 7), .int (F j 8), .int (F j 9), .int (F j 10), .int (F j 11), .int (F j 12), .int ((F j 13) + p0), .int (F j 14)]))) (sd (I j)) = some (.inr (1, [.int (nI (I j)), .int (S (I j) 1), .int (S (I j) 2), .int (S (I j) 3), .int (S (I j) 4), .int (S (I j) 5)])) := (z_ne (z_oo (hSs (I j) (hIn j hj)) (hRr j hj) (by decide))).trans (hSs (I j) (hIn j hj))
      have e_7 : (z_up X (rd j) (.inr (2, [.ref (sd (I j)), .int (F j 1), .int (F j 2), .int (F j 3), .int (F j 4), .int (F j 5), .int (F j 6), .int (F j 7), .int (F j 8), .int (F j 9), .int (F j 10), .int (F j 11), .int (F j 12), .int ((F j 13) + p0), .int (F j 14)]))) (rd j) = some (.inr (2, [.ref (sd (I j)), .int (F j 1), .int (F j 2), .int (F j 3), .int (F j 4), .int (F j 5), .int (F j 6), .int (F j 7), .int (F j 8), .int (F j 9), .int (F j 10), .int (F j 11), .int (F j 12), .int ((F j 13) + p0), .int (F j 14)])) := z_eq _ _ _
      refine lv_iload hx hb d_RR_refund_50 (lv_at hl 0 rfl) ?_
      refine lv_iload_n hx hb d_RR_refund_52 rfl (lv_at hl 4 rfl) ?_
      refine lv_isub hx hb d_RR_refund_53 ?_
      exact z_Ciret hx hb hr rfl hlk hS (zT0r (f := zfs (F j) 13 (F j 13 + p0)) hXI hj (by unfold cd_refund; rw [if_pos w_1]; simp [c_2]) (by rfl)) (by decide) (by decide) d_RR_refund_54
    · exact th_ISE hx hb hl9 hown hG (hl.1.trans hml.symm) hout hlk (is := 165) (text := "this is more than is left") (by decide +kernel) d_RR_refund_30 d_RR_refund_33 d_RR_refund_34 d_RR_refund_36 d_RR_refund_39 (z_teC hW0 (zT1 2 (by unfold cd_refund; rw [if_pos w_1]; simp [c_2]) rfl)) (by decide) (Nat.le_of_ble_eq_true rfl) (by decide) (by decide) (by decide) (by decide)
  · exact z_pCX (E := E_IAE) (n_RR_RR_requireWithin hx hown hG (by rw [hb]; exact d_RR_refund_10)) hb (hl.1.trans hml.symm) (c_RR_requireWithin l hl9 p0 1 100000) (if_neg w_1) (z_Gkeeps lo tP) hG hK hS (cw_RR_requireWithin hG (by decide) (by decide)) d_RR_refund_10 (Nat.le_of_ble_eq_true rfl) (by decide) (by decide) hout hlk (zT1 1 (by unfold cd_refund; rw [if_neg w_1]) rfl) (by decide) (by decide)
set_option maxHeartbeats 4000000 in
set_option maxRecDepth 100000 in
theorem c_RR_grade_no (l : Launch) (hl9 : l.stackTraces = false) {D : va_G} {cS cR cJ cI cZ : ClassId} {lo tP : Nat} (v : Int32) (p0 : Int32) (a9 : Option Value) (N9 : zM → Prop) {x sA rA n k : Nat} {td : Int32} {sd rd : Nat → Nat} {S : Nat → Nat → Int32} {I : Nat → Nat} {F : Nat → Nat → Int32} {X : zM} (hXI : XI x sA rA cS cR n k td sd rd S I F X) (hv : ¬ z_rg v 1 (nI k)) : z_C (z_G lo tP) D cls4 (zty cS cR cJ cI cZ) lo l y_RR_grade w_RR_grade zr1 [.ref x, .int v, .int p0] X (zT [E_NSE, E_IAE, E_ISE] 1 a9 X N9) := by
  refine z_ofW (by decide) ?_
  intro p e s m args below meth c s₁ B hml hout hv
  obtain ⟨rfl, hG, hK, hW0, hXl, hlo⟩ := hv
  have hx := B.exec
  have hb := B.bytes
  have hr := B.returns
  have hlk := B.notSynchronized
  have hown : s.vm.findClass R_RR = some m.cls := findClass_of_methodNamed B.named
  have hts : ∀ w9 ∈ z_tb, w9.before ([.ref x, .int v, .int p0] : List Value).toArray s = true := hG.ts _
  have hk : ∀ {w9 : Cond}, w9 ∈ lw_tbl → z_ok w9 = true → w9.before ([.ref x, .int v, .int p0] : List Value).toArray s = true := fun h1 h2 => hG.w h1 h2 _
  have hg : z_Gr s.heap s.heap := z_Gr.rf
  have hS := z_S.start hW0 hXl hlo
  have hl := lv_entry ([.ref x, .int v, .int p0]) (n := 4) (Nat.le_of_ble_eq_true rfl)
  rw [lg_entry_eq]
  generalize (lg_sl ([.ref x, .int v, .int p0]) ++ List.replicate (4 - (lg_sl ([.ref x, .int v, .int p0])).length) Slot.unset).toArray = ls at hl ⊢
  have hl : lv_has ls 4 [(0, .ref x), (1, .int v), (2, .int p0)] := hl
  obtain ⟨hxx, hsA, hrA, hSs, hRr, hIn, hn, hkk, hjs, hjr, hAne⟩ := id hXI
  refine lv_aload_n hx hb d_RR_grade_0 rfl (lv_at hl 0 rfl) ?_
  refine lv_iload_n hx hb d_RR_grade_1 rfl (lv_at hl 1 rfl) ?_
  exact z_pCX (E := E_NSE) (n_RR_RR_returnAt hx hown hG (va_recv hK (hS.1.one hxx) (ci := 0) (q0 := 0) rfl rfl) (by rw [hb]; exact d_RR_grade_2)) hb (hl.1.trans hml.symm) (c_RR_returnAt l hl9 x sA rA n k td rd v hxx hrA hkk) (if_neg hv) (z_Gkeeps lo tP) hG hK hS (cw_RR_returnAt hG (by decide) (by decide)) d_RR_grade_2 (Nat.le_of_ble_eq_true rfl) (by decide) (by decide) hout hlk (zT1 0 rfl rfl) (by decide) (by decide)
set_option maxHeartbeats 4000000 in
set_option maxRecDepth 100000 in
theorem c_RR_grade (l : Launch) (hl9 : l.stackTraces = false) {D : va_G} {cS cR cJ cI cZ : ClassId} {lo tP : Nat} {j : Nat} (p0 : Int32) {x sA rA n k : Nat} {td : Int32} {sd rd : Nat → Nat} {S : Nat → Nat → Int32} {I : Nat → Nat} {F : Nat → Nat → Int32} {X : zM} (hXI : XI x sA rA cS cR n k td sd rd S I F X) (hj : j < k) : z_C (z_G lo tP) D cls4 (zty cS cR cJ cI cZ) lo l y_RR_grade w_RR_grade zr1 [.ref x, .int (nI (j + 1)), .int p0] X (zT [E_NSE, E_IAE, E_ISE] (cd_grade (F j) p0) (some (.int (F j 8))) X (YI x cS cR ⟨n, k, td, S, I, zfr F j (zfs (z_tg (F j) p0) 3 3)⟩)) := by
  refine z_ofW (by decide) ?_
  intro p e s m args below meth c s₁ B hml hout hv
  obtain ⟨rfl, hG, hK, hW0, hXl, hlo⟩ := hv
  have hx := B.exec
  have hb := B.bytes
  have hr := B.returns
  have hlk := B.notSynchronized
  have hown : s.vm.findClass R_RR = some m.cls := findClass_of_methodNamed B.named
  have hts : ∀ w9 ∈ z_tb, w9.before ([.ref x, .int (nI (j + 1)), .int p0] : List Value).toArray s = true := hG.ts _
  have hk : ∀ {w9 : Cond}, w9 ∈ lw_tbl → z_ok w9 = true → w9.before ([.ref x, .int (nI (j + 1)), .int p0] : List Value).toArray s = true := fun h1 h2 => hG.w h1 h2 _
  have hg : z_Gr s.heap s.heap := z_Gr.rf
  have hS := z_S.start hW0 hXl hlo
  have hl := lv_entry ([.ref x, .int (nI (j + 1)), .int p0]) (n := 4) (Nat.le_of_ble_eq_true rfl)
  rw [lg_entry_eq]
  generalize (lg_sl ([.ref x, .int (nI (j + 1)), .int p0]) ++ List.replicate (4 - (lg_sl ([.ref x, .int (nI (j + 1)), .int p0])).length) Slot.unset).toArray = ls at hl ⊢
  have hl : lv_has ls 4 [(0, .ref x), (1, .int (nI (j + 1))), (2, .int p0)] := hl
  obtain ⟨hxx, hsA, hrA, hSs, hRr, hIn, hn, hkk, hjs, hjr, hAne⟩ := id hXI
  refine lv_aload_n hx hb d_RR_grade_0 rfl (lv_at hl 0 rfl) ?_
  refine lv_iload_n hx hb d_RR_grade_1 rfl (lv_at hl 1 rfl) ?_
  refine z_pa (n_RR_RR_returnAt hx hown hG (va_recv hK (hS.1.one hxx) (ci := 0) (q0 := 0) rfl rfl) (by rw [hb]; exact d_RR_grade_2)) hb (hl.1.trans hml.symm) (c_RR_returnAt l hl9 x sA rA n k td rd (nI (j + 1)) hxx hrA hkk) (by rw [if_pos ((z_rg1 (by omega) hkk).mpr hj), nI_clamp (show j + 1 < 2 ^ 31 by omega), Nat.add_sub_cancel]) (z_Gkeeps lo tP) hG hK hS (cw_RR_returnAt hG (by decide) (by decide)) d_RR_grade_2 (Nat.le_of_ble_eq_true rfl) (by decide) (by decide) (fun H hq hS => ?_)
  refine lv_astore_n (lv' := [(3, .ref (rd j)), (0, .ref x), (1, .int (nI (j + 1))), (2, .int p0)]) hx hb d_RR_grade_5 rfl hl (by decide) rfl (fun ls hl => ?_)
  refine lv_iload_n hx hb d_RR_grade_6 rfl (lv_at hl 3 rfl) ?_
  refine lv_iconst (v := 0) hx hb d_RR_grade_7 (by decide) ?_
  refine lv_iconst (v := 4) hx hb d_RR_grade_8 (by decide) ?_
  by_cases w_1 : z_rg p0 0 4
  · refine z_pv (n_RR_RR_requireWithin hx hown hG (by rw [hb]; exact d_RR_grade_9)) hb (hl.1.trans hml.symm) (c_RR_requireWithin l hl9 p0 0 4) (if_pos w_1) (z_Gkeeps lo tP) hG hK hS (cw_RR_requireWithin hG (by decide) (by decide)) d_RR_grade_9 (Nat.le_of_ble_eq_true rfl) (by decide) (by decide) (fun H hq hS => ?_)
    refine lv_aload_n hx hb d_RR_grade_12 rfl (lv_at hl 0 rfl) ?_
    by_cases w_2 : F j 3 = 2 ∨ F j 3 = 3
    · refine z_pv (n_RR_RR_requireHereOrGraded hx hown hG (by rw [hb]; exact d_RR_grade_13)) hb (hl.1.trans hml.symm) (c_RR_requireHereOrGraded l hl9 (rd j) (sd (I j)) (F j) (hRr j hj)) (if_pos w_2) (z_Gkeeps lo tP) hG hK hS (cw_RR_requireHereOrGraded hG (by decide) (by decide)) d_RR_grade_13 (Nat.le_of_ble_eq_true rfl) (by decide) (by decide) (fun H hq hS => ?_)
      refine lv_aload_n hx hb d_RR_grade_16 rfl (lv_at hl 0 rfl) ?_
      by_cases w_3 : F j 5 = 0
      · refine z_pv (n_RR_RR_requireNoQuarantine hx hown hG (by rw [hb]; exact d_RR_grade_17)) hb (hl.1.trans hml.symm) (c_RR_requireNoQuarantine l hl9 (rd j) (sd (I j)) (F j) (hRr j hj)) (if_pos w_3) (z_Gkeeps lo tP) hG hK hS (cw_RR_requireNoQuarantine hG (by decide) (by decide)) d_RR_grade_17 (Nat.le_of_ble_eq_true rfl) (by decide) (by decide) (fun H hq hS => ?_)
        refine lv_aload_n hx hb d_RR_grade_20 rfl (lv_at hl 0 rfl) ?_
        refine z_get (ci := 2) (C := R_RE) (T := F_RE) (N := 15) hx hb hts j_RE hown hK hS (hRr j hj) rfl 7 (by decide) (hk k_279 rfl) (fun _ h9 => h9) rfl d_RR_grade_21 ?_
        refine lv_if_eq (tgt := 42) hx hb d_RR_grade_24 (by decide) (fun c_4 => ?_) (fun c_4 => ?_)
        · refine lv_aload_n hx hb d_RR_grade_42 rfl (lv_at hl 0 rfl) ?_
          refine lv_iload_n hx hb d_RR_grade_43 rfl (lv_at hl 3 rfl) ?_
          have etg := c_RE_takeGrade l hl9 (D := D) (tys := zty cS cR cJ cI cZ) (lo := lo) (tP := tP) p0 (rd j) (sd (I j)) (F j) (X := X) (hRr j hj)
          refine z_wv (n_RR_RE_takeGrade hx hown hG (va_recv hK (hS.1.one (hRr j hj)) (ci := 2) (q0 := 0) rfl rfl) (by rw [hb]; exact d_RR_grade_44)) hb (hl.1.trans hml.symm) etg (fun _ _ h9 => h9) (z_Gkeeps lo tP) hG hK hS (cw_RE_takeGrade hG (by decide) (by decide)) d_RR_grade_44 (Nat.le_of_ble_eq_true rfl) (by decide) (by decide) (fun H locs hS => ?_)
          have e_5 : (z_up X (rd j) (.inr (2, [.ref (sd (I j)), .int ((z_tg (F j) p0) 1), .int ((z_tg (F j) p0) 2), .int ((z_tg (F j) p0) 3), .int ((z_tg (F j) p0) 4), .int ((z_tg (F j) p0) 5), .int ((z_tg (F j) p0) 6), .int ((z_tg (F j) p0) 7), .int ((z_tg (F j) p0) 8), .int ((z_tg (F j) p0) 9), .int ((z_tg (F j) p0) 10), .int ((z_tg (F j) p0) 11), .int ((z_tg (F j) p0) 12), .int ((z_tg (F j) p0) 13), .int ((z_tg (F j) p0) 14)]))) x = some (.inr (0, [.ref sA, .ref rA, .int (nI n), .int (nI k), .int td])) := (z_ne (z_oo hxx (hRr j hj) (by decide))).trans hxx
          have e_6 : (z_up X (rd j) (.inr (2, [.ref (sd (I j)), .int ((z_tg (F j) p0) 1), .int ((z_tg (F j) p0) 2), .int ((z_tg (F j) p0) 3), .int ((z_tg (F j) p0) 4), .int ((z_tg (F j) p0) 5), .int ((z_tg (F j) p0) 6), .int ((z_tg (F j) p0) 7), .int ((z_tg (F j) p0) 8), .int ((z_tg (F j) p0) 9), .int ((z_tg (F j) p0) 10), .int ((z_tg (F j) p0) 11), .int ((z_tg (F j) p0) 12), .int ((z_tg (F j) p0) 13), .int ((z_tg (F j) p0) 14)]))) sA = some (.inl (cS, 20, .inr (.inr (.inr (.inr (fun i => if i < n then some (sd i) else none)))))) := (z_ne (z_ao hsA (hRr j hj))).trans hsA
          have e_7 : (z_up X (rd j) (.inr (2, [.ref (sd (I j)), .int ((z_tg (F j) p0) 1), .int ((z_tg (F j) p0) 2), .int ((z_tg (F j) p0) 3), .int ((z_tg (F j) p0) 4), .int ((z_tg (F j) p0) 5), .int ((z_tg (F j) p0) 6), .int ((z_tg (F j) p0) 7), .int ((z_tg (F j) p0) 8), .int ((z_tg (F j) p0) 9), .int ((z_tg (F j) p0) 10), .int ((z_tg (F j) p0) 11), .int ((z_tg (F j) p0) 12), .int ((z_tg (F j) p0) 13), .int ((z_tg (F j) p0) 14)]))) rA = some (.inl (cR, 20, .inr (.inr (.inr (.inr (fun i => if i < k then some (rd i) else none)))))) := (z_ne (z_ao hrA (hRr j hj))).trans hrA
          have e_8 : (z_up X (rd j) (.inr (2, [.ref (sd (I j)), .int ((z_tg (F j) p0) 1), .int ((z_tg (F j) p0) 2), .int ((z_tg (F j) p0) 3), .int ((z_tg (F j) p0) 4), .int ((z_tg (F j) p0) 5), .int ((z_tg (F j) p0) 6), .int ((z_tg (F j) p0) 7), .int ((z_tg (F j) p0) 8), .int ((z_tg (F j) p0) 9), .int ((z_tg (F j) p0) 10), .int ((z_tg (F j) p0) 11), .int ((z_tg (F j) p0) 12), .int ((z_tg (F j) p0) 13), .int ((z_tg (F j) p0) 14)]))) (sd (I j)) = some (.inr (1, [.int (nI (I j)), .int (S (I j) 1), .int (S (I j) 2), .int (S (I j) 3), .int (S (I j) 4), .int (S (I j) 5)])) := (z_ne (z_oo (hSs (I j) (hIn j hj)) (hRr j hj) (by decide))).trans (hSs (I j) (hIn j hj))
          have e_9 : (z_up X (rd j) (.inr (2, [.ref (sd (I j)), .int ((z_tg (F j) p0) 1), .int ((z_tg (F j) p0) 2), .int ((z_tg (F j) p0) 3), .int ((z_tg (F j) p0) 4), .int ((z_tg (F j) p0) 5), .int ((z_tg (F j) p0) 6), .int ((z_tg (F j) p0) 7), .int ((z_tg (F j) p0) 8), .int ((z_tg (F j) p0) 9), .int ((z_tg (F j) p0) 10), .int ((z_tg (F j) p0) 11), .int ((z_tg (F j) p0) 12), .int ((z_tg (F j) p0) 13), .int ((z_tg (F j) p0) 14)]))) (rd j) = some (.inr (2, [.ref (sd (I j)), .int ((z_tg (F j) p0) 1), .int ((z_tg (F j) p0) 2), .int ((z_tg (F j) p0) 3), .int ((z_tg (F j) p0) 4), .int ((z_tg (F j) p0) 5), .int ((z_tg (F j) p0) 6), .int ((z_tg (F j) p0) 7), .int ((z_tg (F j) p0) 8), .int ((z_tg (F j) p0) 9), .int ((z_tg (F j) p0) 10), .int ((z_tg (F j) p0) 11), .int ((z_tg (F j) p0) 12), .int ((z_tg (F j) p0) 13), .int ((z_tg (F j) p0) 14)])) := z_eq _ _ _
          refine lv_aload_n hx hb d_RR_grade_47 rfl (lv_at hl 0 rfl) ?_
          refine lv_iconst (v := 3) hx hb d_RR_grade_48 (by decide) ?_
          refine z_put (ci := 2) (C := R_RE) (T := F_RE) (N := 15) (ty := .int) (fs' := [.ref (sd (I j)), .int ((z_tg (F j) p0) 1), .int ((z_tg (F j) p0) 2), .int 3, .int ((z_tg (F j) p0) 4), .int ((z_tg (F j) p0) 5), .int ((z_tg (F j) p0) 6), .int ((z_tg (F j) p0) 7), .int ((z_tg (F j) p0) 8), .int ((z_tg (F j) p0) 9), .int ((z_tg (F j) p0) 10), .int ((z_tg (F j) p0) 11), .int ((z_tg (F j) p0) 12), .int ((z_tg (F j) p0) 13), .int ((z_tg (F j) p0) 14)]) hx hb hts j_RE t_RE t_RE_ok n_RE hown hK hS e_9 rfl 3 (by decide) (hk k_272 rfl) (fun _ h9 => h9) rfl (by decide +kernel) rfl rfl (Nat.le_of_ble_eq_true rfl) d_RR_grade_49 rfl (fun H locs hS => ?_)
          have e_10 : (z_up (z_up X (rd j) (.inr (2, [.ref (sd (I j)), .int ((z_tg (F j) p0) 1), .int ((z_tg (F j) p0) 2), .int ((z_tg (F j) p0) 3), .int ((z_tg (F j) p0) 4), .int ((z_tg (F j) p0) 5), .int ((z_tg (F j) p0) 6), .int ((z_tg (F j) p0) 7), .int ((z_tg (F j) p0) 8), .int ((z_tg (F j) p0) 9), .int ((z_tg (F j) p0) 10), .int ((z_tg (F j) p0) 11), .int ((z_tg (F j) p0) 12), .int ((z_tg (F j) p0) 13), .int ((z_tg (F j) p0) 14)]))) (rd j) (.inr (2, [.ref (sd (I j)), .int ((z_tg (F j) p0) 1), .int ((z_tg (F j) p0) 2), .int 3, .int ((z_tg (F j) p0) 4), .int ((z_tg (F j) p0) 5), .int ((z_tg (F j) p0) 6), .int ((z_tg (F j) p0) 7), .int ((z_tg (F j) p0) 8), .int ((z_tg (F j) p0) 9), .int ((z_tg (F j) p0) 10), .int ((z_tg (F j) p0) 11), .int ((z_tg (F j) p0) 12), .int ((z_tg (F j) p0) 13), .int ((z_tg (F j) p0) 14)]))) x = some (.inr (0, [.ref sA, .ref rA, .int (nI n), .int (nI k), .int td])) := (z_ne (z_oo e_5 e_9 (by decide))).trans e_5
          have e_11 : (z_up (z_up X (rd j) (.inr (2, [.ref (sd (I j)), .int ((z_tg (F j) p0) 1), .int ((z_tg (F j) p0) 2), .int ((z_tg (F j) p0) 3), .int ((z_tg (F j) p0) 4), .int ((z_tg (F j) p0) 5), .int ((z_tg (F j) p0) 6), .int ((z_tg (F j) p0) 7), .int ((z_tg (F j) p0) 8), .int ((z_tg (F j) p0) 9), .int ((z_tg (F j) p0) 10), .int ((z_tg (F j) p0) 11), .int ((z_tg (F j) p0) 12), .int ((z_tg (F j) p0) 13), .int ((z_tg (F j) p0) 14)]))) (rd j) (.inr (2, [.ref (sd (I j)), .int ((z_tg (F j) p0) 1), .int ((z_tg (F j) p0) 2), .int 3, .int ((z_tg (F j) p0) 4), .int ((z_tg (F j) p0) 5), .int ((z_tg (F j) p0) 6), .int ((z_tg (F j) p0) 7), .int ((z_tg (F j) p0) 8), .int ((z_tg (F j) p0) 9), .int ((z_tg (F j) p0) 10), .int ((z_tg (F j) p0) 11), .int ((z_tg (F j) p0) 12), .int ((z_tg (F j) p0) 13), .int ((z_tg (F j) p0) 14)]))) sA = some (.inl (cS, 20, .inr (.inr (.inr (.inr (fun i => if i < n then some (sd i) else none)))))) := (z_ne (z_ao e_6 e_9)).trans e_6
          have e_12 : (z_up (z_up X (rd j) (.inr (2, [.ref (sd (I j)), .int ((z_tg (F j) p0) 1), .int ((z_tg (F j) p0) 2), .int ((z_tg (F j) p0) 3), .int ((z_tg (F j) p0) 4), .int ((z_tg (F j) p0) 5), .int ((z_tg (F j) p0) 6), .int ((z_tg (F j) p0) 7), .int ((z_tg (F j) p0) 8), .int ((z_tg (F j) p0) 9), .int ((z_tg (F j) p0) 10), .int ((z_tg (F j) p0) 11), .int ((z_tg (F j) p0) 12), .int ((z_tg (F j) p0) 13), .int ((z_tg (F j) p0) 14)]))) (rd j) (.inr (2, [.ref (sd (I j)), .int ((z_tg (F j) p0) 1), .int ((z_tg (F j) p0) 2), .int 3, .int ((z_tg (F j) p0) 4), .int ((z_tg (F j) p0) 5), .int ((z_tg (F j) p0) 6), .int ((z_tg (F j) p0) 7), .int ((z_tg (F j) p0) 8), .int ((z_tg (F j) p0) 9), .int ((z_tg (F j) p0) 10), .int ((z_tg (F j) p0) 11), .int ((z_tg (F j) p0) 12), .int ((z_tg (F j) p0) 13), .int ((z_tg (F j) p0) 14)]))) rA = some (.inl (cR, 20, .inr (.inr (.inr (.inr (fun i => if i < k then some (rd i) else none)))))) := (z_ne (z_ao e_7 e_9)).trans e_7
          have e_13 : (z_up (z_up X (rd j) (.inr (2, [.ref (sd (I j)), .int ((z_tg (F j) p0) 1), .int ((z_tg (F j) p0) 2), .int ((z_tg (F j) p0) 3), .int ((z_tg (F j) p0) 4), .int ((z_tg (F j) p0) 5), .int ((z_tg (F j) p0) 6), .int ((z_tg (F j) p0) 7), .int ((z_tg (F j) p0) 8), .int ((z_tg (F j) p0) 9), .int ((z_tg (F j) p0) 10), .int ((z_tg (F j) p0) 11), .int ((z_tg (F j) p0) 12), .int ((z_tg (F j) p0) 13), .int ((z_tg (F j) p0) 14)]))) (rd j) (.inr (2, [.ref (sd (I j)), .int ((z_tg (F j) p0) 1), .int ((z_tg (F j) p0) 2), .int 3, .int ((z_tg (F j) p0) 4), .int ((z_tg (F j) p0) 5), .int ((z_tg (F j) p0) 6), .int ((z_tg (F j) p0) 7), .int ((z_tg (F j) p0) 8), .int ((z_tg (F j) p0) 9), .int ((z_tg (F j) p0) 10), .int ((z_tg (F j) p0) 11), .int ((z_tg (F j) p0) 12), .int ((z_tg (F j) p0) 13), .int ((z_tg (F j) p0) 14)]))) (sd (I j)) = some (.inr (1, [.int (nI (I j)), .int (S (I j) 1), .int (S (I j) 2), .int (S (I j) 3), .int (S (I j) 4), .int (S (I j) 5)])) := (z_ne (z_oo e_8 e_9 (by decide))).trans e_8
          have e_14 : (z_up (z_up X (rd j) (.inr (2, [.ref (sd (I j)), .int ((z_tg (F j) p0) 1), .int ((z_tg (F j) p0) 2), .int ((z_tg (F j) p0) 3), .int ((z_tg (F j) p0) 4), .int ((z_tg (F j) p0) 5), .int ((z_tg (F j) p0) 6), .int ((z_tg (F j) p0) 7), .int ((z_tg (F j) p0) 8), .int ((z_tg (F j) p0) 9), .int ((z_tg (F j) p0) 10), .int ((z_tg (F j) p0) 11), .int ((z_tg (F j) p0) 12), .int ((z_tg (F j) p0) 13), .int ((z_tg (F j) p0) 14)]))) (rd j) (.inr (2, [.ref (sd (I j)), .int ((z_tg (F j) p0) 1), .int ((z_tg (F j) p0) 2), .int 3, .int ((z_tg (F j) p0) 4), .int ((z_tg (F j) p0) 5), .int ((z_tg (F j) p0) 6), .int ((z_tg (F j) p0) 7), .int ((z_tg (F j) p0) 8), .int ((z_tg (F j) p0) 9), .int ((z_tg (F j) p0) 10), .int ((z_tg (F j) p0) 11), .int ((z_tg (F j) p0) 12), .int ((z_tg (F j) p0) 13), .int ((z_tg (F j) p0) 14)]))) (rd j) = some (.inr (2, [.ref (sd (I j)), .int ((z_tg (F j) p0) 1), .int ((z_tg (F j) p0) 2), .int 3, .int ((z_tg (F j) p0) 4), .int ((z_tg (F j) p0) 5), .int ((z_tg (F j) p0) 6), .int ((z_tg (F j) p0) 7), .int ((z_tg (F j) p0) 8), .int ((z_tg (F j) p0) 9), .int ((z_tg (F j) p0) 10), .int ((z_tg (F j) p0) 11), .int ((z_tg (F j) p0) 12), .int ((z_tg (F j) p0) 13), .int ((z_tg (F j) p0) 14)])) := z_eq _ _ _
          refine lv_aload_n hx hb d_RR_grade_52 rfl (lv_at hl 0 rfl) ?_
          refine z_get (ci := 2) (C := R_RE) (T := F_RE) (N := 15) hx hb hts j_RE hown hK hS e_14 rfl 9 (by decide) (hk k_283 rfl) (fun _ h9 => h9) rfl d_RR_grade_53 ?_
          exact z_Ciret hx hb hr rfl hlk hS (zT0r (f := zfs (z_tg (F j) p0) 3 3) hXI hj (by unfold cd_grade; rw [if_pos w_1]; simp [w_2, w_3, c_4]) (by rw [z_upup]; rfl)) (by decide) (by decide) d_RR_grade_56
        · refine lv_iload_n hx hb d_RR_grade_27 rfl (lv_at hl 3 rfl) ?_
          refine lv_iconst (v := 3) hx hb d_RR_grade_28 (by decide) ?_
          refine lv_icmp_ge (tgt := 42) hx hb d_RR_grade_29 (by decide) (fun c_15 => ?_) (fun c_15 => ?_)
          · refine lv_aload_n hx hb d_RR_grade_42 rfl (lv_at hl 0 rfl) ?_
            refine lv_iload_n hx hb d_RR_grade_43 rfl (lv_at hl 3 rfl) ?_
            have etg := c_RE_takeGrade l hl9 (D := D) (tys := zty cS cR cJ cI cZ) (lo := lo) (tP := tP) p0 (rd j) (sd (I j)) (F j) (X := X) (hRr j hj)
            refine z_wv (n_RR_RE_takeGrade hx hown hG (va_recv hK (hS.1.one (hRr j hj)) (ci := 2) (q0 := 0) rfl rfl) (by rw [hb]; exact d_RR_grade_44)) hb (hl.1.trans hml.symm) etg (fun _ _ h9 => h9) (z_Gkeeps lo tP) hG hK hS (cw_RE_takeGrade hG (by decide) (by decide)) d_RR_grade_44 (Nat.le_of_ble_eq_true rfl) (by decide) (by decide) (fun H locs hS => ?_)
            have e_16 : (z_up X (rd j) (.inr (2, [.ref (sd (I j)), .int ((z_tg (F j) p0) 1), .int ((z_tg (F j) p0) 2), .int ((z_tg (F j) p0) 3), .int ((z_tg (F j) p0) 4), .int ((z_tg (F j) p0) 5), .int ((z_tg (F j) p0) 6), .int ((z_tg (F j) p0) 7), .int ((z_tg (F j) p0) 8), .int ((z_tg (F j) p0) 9), .int ((z_tg (F j) p0) 10), .int ((z_tg (F j) p0) 11), .int ((z_tg (F j) p0) 12), .int ((z_tg (F j) p0) 13), .int ((z_tg (F j) p0) 14)]))) x = some (.inr (0, [.ref sA, .ref rA, .int (nI n), .int (nI k), .int td])) := (z_ne (z_oo hxx (hRr j hj) (by decide))).trans hxx
            have e_17 : (z_up X (rd j) (.inr (2, [.ref (sd (I j)), .int ((z_tg (F j) p0) 1), .int ((z_tg (F j) p0) 2), .int ((z_tg (F j) p0) 3), .int ((z_tg (F j) p0) 4), .int ((z_tg (F j) p0) 5), .int ((z_tg (F j) p0) 6), .int ((z_tg (F j) p0) 7), .int ((z_tg (F j) p0) 8), .int ((z_tg (F j) p0) 9), .int ((z_tg (F j) p0) 10), .int ((z_tg (F j) p0) 11), .int ((z_tg (F j) p0) 12), .int ((z_tg (F j) p0) 13), .int ((z_tg (F j) p0) 14)]))) sA = some (.inl (cS, 20, .inr (.inr (.inr (.inr (fun i => if i < n then some (sd i) else none)))))) := (z_ne (z_ao hsA (hRr j hj))).trans hsA
            have e_18 : (z_up X (rd j) (.inr (2, [.ref (sd (I j)), .int ((z_tg (F j) p0) 1), .int ((z_tg (F j) p0) 2), .int ((z_tg (F j) p0) 3), .int ((z_tg (F j) p0) 4), .int ((z_tg (F j) p0) 5), .int ((z_tg (F j) p0) 6), .int ((z_tg (F j) p0) 7), .int ((z_tg (F j) p0) 8), .int ((z_tg (F j) p0) 9), .int ((z_tg (F j) p0) 10), .int ((z_tg (F j) p0) 11), .int ((z_tg (F j) p0) 12), .int ((z_tg (F j) p0) 13), .int ((z_tg (F j) p0) 14)]))) rA = some (.inl (cR, 20, .inr (.inr (.inr (.inr (fun i => if i < k then some (rd i) else none)))))) := (z_ne (z_ao hrA (hRr j hj))).trans hrA
            have e_19 : (z_up X (rd j) (.inr (2, [.ref (sd (I j)), .int ((z_tg (F j) p0) 1), .int ((z_tg (F j) p0) 2), .int ((z_tg (F j) p0) 3), .int ((z_tg (F j) p0) 4), .int ((z_tg (F j) p0) 5), .int ((z_tg (F j) p0) 6), .int ((z_tg (F j) p0) 7), .int ((z_tg (F j) p0) 8), .int ((z_tg (F j) p0) 9), .int ((z_tg (F j) p0) 10), .int ((z_tg (F j) p0) 11), .int ((z_tg (F j) p0) 12), .int ((z_tg (F j) p0) 13), .int ((z_tg (F j) p0) 14)]))) (sd (I j)) = some (.inr (1, [.int (nI (I j)), .int (S (I j) 1), .int (S (I j) 2), .int (S (I j) 3), .int (S (I j) 4), .int (S (I j) 5)])) := (z_ne (z_oo (hSs (I j) (hIn j hj)) (hRr j hj) (by decide))).trans (hSs (I j) (hIn j hj))
            have e_20 : (z_up X (rd j) (.inr (2, [.ref (sd (I j)), .int ((z_tg (F j) p0) 1), .int ((z_tg (F j) p0) 2), .int ((z_tg (F j) p0) 3), .int ((z_tg (F j) p0) 4), .int ((z_tg (F j) p0) 5), .int ((z_tg (F j) p0) 6), .int ((z_tg (F j) p0) 7), .int ((z_tg (F j) p0) 8), .int ((z_tg (F j) p0) 9), .int ((z_tg (F j) p0) 10), .int ((z_tg (F j) p0) 11), .int ((z_tg (F j) p0) 12), .int ((z_tg (F j) p0) 13), .int ((z_tg (F j) p0) 14)]))) (rd j) = some (.inr (2, [.ref (sd (I j)), .int ((z_tg (F j) p0) 1), .int ((z_tg (F j) p0) 2), .int ((z_tg (F j) p0) 3), .int ((z_tg (F j) p0) 4), .int ((z_tg (F j) p0) 5), .int ((z_tg (F j) p0) 6), .int ((z_tg (F j) p0) 7), .int ((z_tg (F j) p0) 8), .int ((z_tg (F j) p0) 9), .int ((z_tg (F j) p0) 10), .int ((z_tg (F j) p0) 11), .int ((z_tg (F j) p0) 12), .int ((z_tg (F j) p0) 13), .int ((z_tg (F j) p0) 14)])) := z_eq _ _ _
            refine lv_aload_n hx hb d_RR_grade_47 rfl (lv_at hl 0 rfl) ?_
            refine lv_iconst (v := 3) hx hb d_RR_grade_48 (by decide) ?_
            refine z_put (ci := 2) (C := R_RE) (T := F_RE) (N := 15) (ty := .int) (fs' := [.ref (sd (I j)), .int ((z_tg (F j) p0) 1), .int ((z_tg (F j) p0) 2), .int 3, .int ((z_tg (F j) p0) 4), .int ((z_tg (F j) p0) 5), .int ((z_tg (F j) p0) 6), .int ((z_tg (F j) p0) 7), .int ((z_tg (F j) p0) 8), .int ((z_tg (F j) p0) 9), .int ((z_tg (F j) p0) 10), .int ((z_tg (F j) p0) 11), .int ((z_tg (F j) p0) 12), .int ((z_tg (F j) p0) 13), .int ((z_tg (F j) p0) 14)]) hx hb hts j_RE t_RE t_RE_ok n_RE hown hK hS e_20 rfl 3 (by decide) (hk k_272 rfl) (fun _ h9 => h9) rfl (by decide +kernel) rfl rfl (Nat.le_of_ble_eq_true rfl) d_RR_grade_49 rfl (fun H locs hS => ?_)
            have e_21 : (z_up (z_up X (rd j) (.inr (2, [.ref (sd (I j)), .int ((z_tg (F j) p0) 1), .int ((z_tg (F j) p0) 2), .int ((z_tg (F j) p0) 3), .int ((z_tg (F j) p0) 4), .int ((z_tg (F j) p0) 5), .int ((z_tg (F j) p0) 6), .int ((z_tg (F j) p0) 7), .int ((z_tg (F j) p0) 8), .int ((z_tg (F j) p0) 9), .int ((z_tg (F j) p0) 10), .int ((z_tg (F j) p0) 11), .int ((z_tg (F j) p0) 12), .int ((z_tg (F j) p0) 13), .int ((z_tg (F j) p0) 14)]))) (rd j) (.inr (2, [.ref (sd (I j)), .int ((z_tg (F j) p0) 1), .int ((z_tg (F j) p0) 2), .int 3, .int ((z_tg (F j) p0) 4), .int ((z_tg (F j) p0) 5), .int ((z_tg (F j) p0) 6), .int ((z_tg (F j) p0) 7), .int ((z_tg (F j) p0) 8), .int ((z_tg (F j) p0) 9), .int ((z_tg (F j) p0) 10), .int ((z_tg (F j) p0) 11), .int ((z_tg (F j) p0) 12), .int ((z_tg (F j) p0) 13), .int ((z_tg (F j) p0) 14)]))) x = some (.inr (0, [.ref sA, .ref rA, .int (nI n), .int (nI k), .int td])) := (z_ne (z_oo e_16 e_20 (by decide))).trans e_16
            have e_22 : (z_up (z_up X (rd j) (.inr (2, [.ref (sd (I j)), .int ((z_tg (F j) p0) 1), .int ((z_tg (F j) p0) 2), .int ((z_tg (F j) p0) 3), .int ((z_tg (F j) p0) 4), .int ((z_tg (F j) p0) 5), .int ((z_tg (F j) p0) 6), .int ((z_tg (F j) p0) 7), .int ((z_tg (F j) p0) 8), .int ((z_tg (F j) p0) 9), .int ((z_tg (F j) p0) 10), .int ((z_tg (F j) p0) 11), .int ((z_tg (F j) p0) 12), .int ((z_tg (F j) p0) 13), .int ((z_tg (F j) p0) 14)]))) (rd j) (.inr (2, [.ref (sd (I j)), .int ((z_tg (F j) p0) 1), .int ((z_tg (F j) p0) 2), .int 3, .int ((z_tg (F j) p0) 4), .int ((z_tg (F j) p0) 5), .int ((z_tg (F j) p0) 6), .int ((z_tg (F j) p0) 7), .int ((z_tg (F j) p0) 8), .int ((z_tg (F j) p0) 9), .int ((z_tg (F j) p0) 10), .int ((z_tg (F j) p0) 11), .int ((z_tg (F j) p0) 12), .int ((z_tg (F j) p0) 13), .int ((z_tg (F j) p0) 14)]))) sA = some (.inl (cS, 20, .inr (.inr (.inr (.inr (fun i => if i < n then some (sd i) else none)))))) := (z_ne (z_ao e_17 e_20)).trans e_17
            have e_23 : (z_up (z_up X (rd j) (.inr (2, [.ref (sd (I j)), .int ((z_tg (F j) p0) 1), .int ((z_tg (F j) p0) 2), .int ((z_tg (F j) p0) 3), .int ((z_tg (F j) p0) 4), .int ((z_tg (F j) p0) 5), .int ((z_tg (F j) p0) 6), .int ((z_tg (F j) p0) 7), .int ((z_tg (F j) p0) 8), .int ((z_tg (F j) p0) 9), .int ((z_tg (F j) p0) 10), .int ((z_tg (F j) p0) 11), .int ((z_tg (F j) p0) 12), .int ((z_tg (F j) p0) 13), .int ((z_tg (F j) p0) 14)]))) (rd j) (.inr (2, [.ref (sd (I j)), .int ((z_tg (F j) p0) 1), .int ((z_tg (F j) p0) 2), .int 3, .int ((z_tg (F j) p0) 4), .int ((z_tg (F j) p0) 5), .int ((z_tg (F j) p0) 6), .int ((z_tg (F j) p0) 7), .int ((z_tg (F j) p0) 8), .int ((z_tg (F j) p0) 9), .int ((z_tg (F j) p0) 10), .int ((z_tg (F j) p0) 11), .int ((z_tg (F j) p0) 12), .int ((z_tg (F j) p0) 13), .int ((z_tg (F j) p0) 14)]))) rA = some (.inl (cR, 20, .inr (.inr (.inr (.inr (fun i => if i < k then some (rd i) else none)))))) := (z_ne (z_ao e_18 e_20)).trans e_18
            have e_24 : (z_up (z_up X (rd j) (.inr (2, [.ref (sd (I j)), .int ((z_tg (F j) p0) 1), .int ((z_tg (F j) p0) 2), .int ((z_tg (F j) p0) 3), .int ((z_tg (F j) p0) 4), .int ((z_tg (F j) p0) 5), .int ((z_tg (F j) p0) 6), .int ((z_tg (F j) p0) 7), .int ((z_tg (F j) p0) 8), .int ((z_tg (F j) p0) 9), .int ((z_tg (F j) p0) 10), .int ((z_tg (F j) p0) 11), .int ((z_tg (F j) p0) 12), .int ((z_tg (F j) p0) 13), .int ((z_tg (F j) p0) 14)]))) (rd j) (.inr (2, [.ref (sd (I j)), .int ((z_tg (F j) p0) 1), .int ((z_tg (F j) p0) 2), .int 3, .int ((z_tg (F j) p0) 4), .int ((z_tg (F j) p0) 5), .int ((z_tg (F j) p0) 6), .int ((z_tg (F j) p0) 7), .int ((z_tg (F j) p0) 8), .int ((z_tg (F j) p0) 9), .int ((z_tg (F j) p0) 10), .int ((z_tg (F j) p0) 11), .int ((z_tg (F j) p0) 12), .int ((z_tg (F j) p0) 13), .int ((z_tg (F j) p0) 14)]))) (sd (I j)) = some (.inr (1, [.int (nI (I j)), .int (S (I j) 1), .int (S (I j) 2), .int (S (I j) 3), .int (S (I j) 4), .int (S (I j) 5)])) := (z_ne (z_oo e_19 e_20 (by decide))).trans e_19
            have e_25 : (z_up (z_up X (rd j) (.inr (2, [.ref (sd (I j)), .int ((z_tg (F j) p0) 1), .int ((z_tg (F j) p0) 2), .int ((z_tg (F j) p0) 3), .int ((z_tg (F j) p0) 4), .int ((z_tg (F j) p0) 5), .int ((z_tg (F j) p0) 6), .int ((z_tg (F j) p0) 7), .int ((z_tg (F j) p0) 8), .int ((z_tg (F j) p0) 9), .int ((z_tg (F j) p0) 10), .int ((z_tg (F j) p0) 11), .int ((z_tg (F j) p0) 12), .int ((z_tg (F j) p0) 13), .int ((z_tg (F j) p0) 14)]))) (rd j) (.inr (2, [.ref (sd (I j)), .int ((z_tg (F j) p0) 1), .int ((z_tg (F j) p0) 2), .int 3, .int ((z_tg (F j) p0) 4), .int ((z_tg (F j) p0) 5), .int ((z_tg (F j) p0) 6), .int ((z_tg (F j) p0) 7), .int ((z_tg (F j) p0) 8), .int ((z_tg (F j) p0) 9), .int ((z_tg (F j) p0) 10), .int ((z_tg (F j) p0) 11), .int ((z_tg (F j) p0) 12), .int ((z_tg (F j) p0) 13), .int ((z_tg (F j) p0) 14)]))) (rd j) = some (.inr (2, [.ref (sd (I j)), .int ((z_tg (F j) p0) 1), .int ((z_tg (F j) p0) 2), .int 3, .int ((z_tg (F j) p0) 4), .int ((z_tg (F j) p0) 5), .int ((z_tg (F j) p0) 6), .int ((z_tg (F j) p0) 7), .int ((z_tg (F j) p0) 8), .int ((z_tg (F j) p0) 9), .int ((z_tg (F j) p0) 10), .int ((z_tg (F j) p0) 11), .int ((z_tg (F j) p0) 12), .int ((z_tg (F j) p0) 13), .int ((z_tg (F j) p0) 14)])) := z_eq _ _ _
            refine lv_aload_n hx hb d_RR_grade_52 rfl (lv_at hl 0 rfl) ?_
            refine z_get (ci := 2) (C := R_RE) (T := F_RE) (N := 15) hx hb hts j_RE hown hK hS e_25 rfl 9 (by decide) (hk k_283 rfl) (fun _ h9 => h9) rfl d_RR_grade_53 ?_
            exact z_Ciret hx hb hr rfl hlk hS (zT0r (f := zfs (z_tg (F j) p0) 3 3) hXI hj (by unfold cd_grade; rw [if_pos w_1]; simp [w_2, w_3, c_4, c_15]) (by rw [z_upup]; rfl)) (by decide) (by decide) d_RR_grade_56
          · exact th_ISE hx hb hl9 hown hG (hl.1.trans hml.symm) hout hlk (is := 112) (text := "a bad check forbids so good a grade") (by decide +kernel) d_RR_grade_32 d_RR_grade_35 d_RR_grade_36 d_RR_grade_38 d_RR_grade_41 (z_teC hW0 (zT1 2 (by unfold cd_grade; rw [if_pos w_1]; simp [w_2, w_3, c_4, c_15]) rfl)) (by decide) (Nat.le_of_ble_eq_true rfl) (by decide) (by decide) (by decide) (by decide)
      · exact z_pCX (E := E_ISE) (n_RR_RR_requireNoQuarantine hx hown hG (by rw [hb]; exact d_RR_grade_17)) hb (hl.1.trans hml.symm) (c_RR_requireNoQuarantine l hl9 (rd j) (sd (I j)) (F j) (hRr j hj)) (if_neg w_3) (z_Gkeeps lo tP) hG hK hS (cw_RR_requireNoQuarantine hG (by decide) (by decide)) d_RR_grade_17 (Nat.le_of_ble_eq_true rfl) (by decide) (by decide) hout hlk (zT1 2 (by unfold cd_grade; rw [if_pos w_1]; simp [w_2, w_3]) rfl) (by decide) (by decide)
    · exact z_pCX (E := E_ISE) (n_RR_RR_requireHereOrGraded hx hown hG (by rw [hb]; exact d_RR_grade_13)) hb (hl.1.trans hml.symm) (c_RR_requireHereOrGraded l hl9 (rd j) (sd (I j)) (F j) (hRr j hj)) (if_neg w_2) (z_Gkeeps lo tP) hG hK hS (cw_RR_requireHereOrGraded hG (by decide) (by decide)) d_RR_grade_13 (Nat.le_of_ble_eq_true rfl) (by decide) (by decide) hout hlk (zT1 2 (by unfold cd_grade; rw [if_pos w_1]; simp [w_2]) rfl) (by decide) (by decide)
  · exact z_pCX (E := E_IAE) (n_RR_RR_requireWithin hx hown hG (by rw [hb]; exact d_RR_grade_9)) hb (hl.1.trans hml.symm) (c_RR_requireWithin l hl9 p0 0 4) (if_neg w_1) (z_Gkeeps lo tP) hG hK hS (cw_RR_requireWithin hG (by decide) (by decide)) d_RR_grade_9 (Nat.le_of_ble_eq_true rfl) (by decide) (by decide) hout hlk (zT1 1 (by unfold cd_grade; rw [if_neg w_1]) rfl) (by decide) (by decide)
