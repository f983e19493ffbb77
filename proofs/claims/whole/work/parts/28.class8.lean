/-! ===== calls that only ask ===== -/
set_option maxHeartbeats 4000000 in
set_option maxRecDepth 100000 in
theorem c_RR_due_no (l : Launch) (hl9 : l.stackTraces = false) {D : va_G} {cS cR cJ cI cZ : ClassId} {lo tP : Nat} (v : Int32) (a9 : Option Value) {x sA rA n k : Nat} {td : Int32} {sd rd : Nat → Nat} {S : Nat → Nat → Int32} {I : Nat → Nat} {F : Nat → Nat → Int32} {X : zM} (hXI : XI x sA rA cS cR n k td sd rd S I F X) (hv : ¬ z_rg v 1 (nI k)) : z_P (z_G lo tP) D cls4 (zty cS cR cJ cI cZ) lo l y_RR_due w_RR_due zr1 [.ref x, .int v] X (zRe [E_NSE] 1 a9) := by
  refine z_ofW (by decide) ?_
  intro p e s m args below meth c s₁ B hml hout hv
  obtain ⟨rfl, hG, hK, hW0, hXl, hlo⟩ := hv
  have hx := B.exec
  have hb := B.bytes
  have hr := B.returns
  have hlk := B.notSynchronized
  have hown : s.vm.findClass R_RR = some m.cls := findClass_of_methodNamed B.named
  have hts : ∀ w9 ∈ z_tb, w9.before ([.ref x, .int v] : List Value).toArray s = true := hG.ts _
  have hk : ∀ {w9 : Cond}, w9 ∈ lw_tbl → z_ok w9 = true → w9.before ([.ref x, .int v] : List Value).toArray s = true := fun h1 h2 => hG.w h1 h2 _
  have hg : z_Gr s.heap s.heap := z_Gr.rf
  have hS := z_S.start hW0 hXl hlo
  have hl := lv_entry ([.ref x, .int v]) (n := 2) (Nat.le_of_ble_eq_true rfl)
  rw [lg_entry_eq]
  generalize (lg_sl ([.ref x, .int v]) ++ List.replicate (2 - (lg_sl ([.ref x, .int v])).length) Slot.unset).toArray = ls at hl ⊢
  have hl : lv_has ls 2 [(0, .ref x), (1, .int v)] := hl
  obtain ⟨hxx, hsA, hrA, hSs, hRr, hIn, hn, hkk, hjs, hjr, hAne⟩ := id hXI
  refine lv_aload_n hx hb d_RR_due_0 rfl (lv_at hl 0 rfl) ?_
  refine lv_iload_n hx hb d_RR_due_1 rfl (lv_at hl 1 rfl) ?_
  exact z_pPX (E := E_NSE) (n_RR_RR_returnAt hx hown hG (va_recv hK (hS.1.one hxx) (ci := 0) (q0 := 0) rfl rfl) (by rw [hb]; exact d_RR_due_2)) hb (hl.1.trans hml.symm) (c_RR_returnAt l hl9 x sA rA n k td rd v hxx hrA hkk) (if_neg hv) (z_Gkeeps lo tP) hG hK hS (cw_RR_returnAt hG (by decide) (by decide)) d_RR_due_2 (Nat.le_of_ble_eq_true rfl) (by decide) (by decide) hout hlk hg (zRe1 0 rfl rfl) (by decide) (by decide)
set_option maxHeartbeats 4000000 in
set_option maxRecDepth 100000 in
theorem c_RR_due (l : Launch) (hl9 : l.stackTraces = false) {D : va_G} {cS cR cJ cI cZ : ClassId} {lo tP : Nat} {j : Nat} {x sA rA n k : Nat} {td : Int32} {sd rd : Nat → Nat} {S : Nat → Nat → Int32} {I : Nat → Nat} {F : Nat → Nat → Int32} {X : zM} (hXI : XI x sA rA cS cR n k td sd rd S I F X) (hj : j < k) : z_P (z_G lo tP) D cls4 (zty cS cR cJ cI cZ) lo l y_RR_due w_RR_due zr1 [.ref x, .int (nI (j + 1))] X (zRe [E_NSE] 0 (some (.int (z_due (S (I j)) (F j))))) := by
  refine z_ofW (by decide) ?_
  intro p e s m args below meth c s₁ B hml hout hv
  obtain ⟨rfl, hG, hK, hW0, hXl, hlo⟩ := hv
  have hx := B.exec
  have hb := B.bytes
  have hr := B.returns
  have hlk := B.notSynchronized
  have hown : s.vm.findClass R_RR = some m.cls := findClass_of_methodNamed B.named
  have hts : ∀ w9 ∈ z_tb, w9.before ([.ref x, .int (nI (j + 1))] : List Value).toArray s = true := hG.ts _
  have hk : ∀ {w9 : Cond}, w9 ∈ lw_tbl → z_ok w9 = true → w9.before ([.ref x, .int (nI (j + 1))] : List Value).toArray s = true := fun h1 h2 => hG.w h1 h2 _
  have hg : z_Gr s.heap s.heap := z_Gr.rf
  have hS := z_S.start hW0 hXl hlo
  have hl := lv_entry ([.ref x, .int (nI (j + 1))]) (n := 2) (Nat.le_of_ble_eq_true rfl)
  rw [lg_entry_eq]
  generalize (lg_sl ([.ref x, .int (nI (j + 1))]) ++ List.replicate (2 - (lg_sl ([.ref x, .int (nI (j + 1))])).length) Slot.unset).toArray = ls at hl ⊢
  have hl : lv_has ls 2 [(0, .ref x), (1, .int (nI (j + 1)))] := hl
  obtain ⟨hxx, hsA, hrA, hSs, hRr, hIn, hn, hkk, hjs, hjr, hAne⟩ := id hXI
  refine lv_aload_n hx hb d_RR_due_0 rfl (lv_at hl 0 rfl) ?_
  refine lv_iload_n hx hb d_RR_due_1 rfl (lv_at hl 1 rfl) ?_
  refine z_pa (n_RR_RR_returnAt hx hown hG (va_recv hK (hS.1.one hxx) (ci := 0) (q0 := 0) rfl rfl) (by rw [hb]; exact d_RR_due_2)) hb (hl.1.trans hml.symm) (c_RR_returnAt l hl9 x sA rA n k td rd (nI (j + 1)) hxx hrA hkk) (by rw [if_pos ((z_rg1 (by omega) hkk).mpr hj), nI_clamp (show j + 1 < 2 ^ 31 by omega), Nat.add_sub_cancel]) (z_Gkeeps lo tP) hG hK hS (cw_RR_returnAt hG (by decide) (by decide)) d_RR_due_2 (Nat.le_of_ble_eq_true rfl) (by decide) (by decide) (fun H hq hS => ?_)
  have hg := hg.tr hq
  refine z_pi (n_RR_RE_amountDue hx hown hG (va_recv hK (hS.1.one (hRr j hj)) (ci := 2) (q0 := 0) rfl rfl) (by rw [hb]; exact d_RR_due_5)) hb (hl.1.trans hml.symm) (c_RE_amountDue l hl9 (rd j) (sd (I j)) (F j) (hRr j hj) (I j) (S (I j)) (hSs (I j) (hIn j hj))) (rfl) (z_Gkeeps lo tP) hG hK hS (cw_RE_amountDue hG (by decide) (by decide)) d_RR_due_5 (Nat.le_of_ble_eq_true rfl) (by decide) (by decide) (fun H hq hS => ?_)
  have hg := hg.tr hq
  exact z_Piret hx hb hr rfl hlk hg (zRe0 rfl) (by decide) (by decide) d_RR_due_8
set_option maxHeartbeats 4000000 in
set_option maxRecDepth 100000 in
theorem c_RR_told_no (l : Launch) (hl9 : l.stackTraces = false) {D : va_G} {cS cR cJ cI cZ : ClassId} {lo tP : Nat} (v p0 : Int32) (a9 : Option Value) {x sA rA n k : Nat} {td : Int32} {sd rd : Nat → Nat} {S : Nat → Nat → Int32} {I : Nat → Nat} {F : Nat → Nat → Int32} {X : zM} (hXI : XI x sA rA cS cR n k td sd rd S I F X) (hv : ¬ z_rg v 1 (nI k)) : z_P (z_G lo tP) D cls4 (zty cS cR cJ cI cZ) lo l y_RR_told w_RR_told zr1 [.ref x, .int v, .int p0] X (zRe [E_NSE, E_IAE] 1 a9) := by
  refine z_ofW (by decide) ?_
  intro p e s m args below meth c s₁ B hml hout hv
  obtain ⟨rfl, hG, hK, hW0, hXl, hlo⟩ := hv
  have hx := B.exec
  have hb := B.bytes
  have hr := B.returns
  have hlk := B.notSynchronized
  have hown : s.vm.findClass R_RR = some m.cls := findClass_of_methodNamed B.named
  have hts : ∀ w9 ∈ z_tb, w9.before ([.ref x, .int v, .int p0] : List Value).toArray s = true := hG.ts _
  have hk : ∀ {w9 : Cond}, w9 ∈ lw_tbl → z_ok w9 = true → w9.before ([.ref x, .int v, .int p0] : List Value).toArray s = true := fun h1 h2 => hG.w h1 h2 _
  have hg : z_Gr s.heap s.heap := z_Gr.rf
  have hS := z_S.start hW0 hXl hlo
  have hl := lv_entry ([.ref x, .int v, .int p0]) (n := 4) (Nat.le_of_ble_eq_true rfl)
  rw [lg_entry_eq]
  generalize (lg_sl ([.ref x, .int v, .int p0]) ++ List.replicate (4 - (lg_sl ([.ref x, .int v, .int p0])).length) Slot.unset).toArray = ls at hl ⊢
  have hl : lv_has ls 4 [(0, .ref x), (1, .int v), (2, .int p0)] := hl
  obtain ⟨hxx, hsA, hrA, hSs, hRr, hIn, hn, hkk, hjs, hjr, hAne⟩ := id hXI
  refine lv_aload_n hx hb d_RR_told_0 rfl (lv_at hl 0 rfl) ?_
  refine lv_iload_n hx hb d_RR_told_1 rfl (lv_at hl 1 rfl) ?_
  exact z_pPX (E := E_NSE) (n_RR_RR_returnAt hx hown hG (va_recv hK (hS.1.one hxx) (ci := 0) (q0 := 0) rfl rfl) (by rw [hb]; exact d_RR_told_2)) hb (hl.1.trans hml.symm) (c_RR_returnAt l hl9 x sA rA n k td rd v hxx hrA hkk) (if_neg hv) (z_Gkeeps lo tP) hG hK hS (cw_RR_returnAt hG (by decide) (by decide)) d_RR_told_2 (Nat.le_of_ble_eq_true rfl) (by decide) (by decide) hout hlk hg (zRe1 0 rfl rfl) (by decide) (by decide)
set_option maxHeartbeats 4000000 in
set_option maxRecDepth 100000 in
theorem c_RR_told (l : Launch) (hl9 : l.stackTraces = false) {D : va_G} {cS cR cJ cI cZ : ClassId} {lo tP : Nat} {j : Nat} (p0 : Int32) {x sA rA n k : Nat} {td : Int32} {sd rd : Nat → Nat} {S : Nat → Nat → Int32} {I : Nat → Nat} {F : Nat → Nat → Int32} {X : zM} (hXI : XI x sA rA cS cR n k td sd rd S I F X) (hj : j < k) : z_P (z_G lo tP) D cls4 (zty cS cR cJ cI cZ) lo l y_RR_told w_RR_told zr1 [.ref x, .int (nI (j + 1)), .int p0] X (zRe [E_NSE, E_IAE] (cd_told p0) (some (.int (an_told (I j) (F j) p0)))) := by
  refine z_ofW (by decide) ?_
  intro p e s m args below meth c s₁ B hml hout hv
  obtain ⟨rfl, hG, hK, hW0, hXl, hlo⟩ := hv
  have hx := B.exec
  have hb := B.bytes
  have hr := B.returns
  have hlk := B.notSynchronized
  have hown : s.vm.findClass R_RR = some m.cls := findClass_of_methodNamed B.named
  have hts : ∀ w9 ∈ z_tb, w9.before ([.ref x, .int (nI (j + 1)), .int p0] : List Value).toArray s = true := hG.ts _
  have hk : ∀ {w9 : Cond}, w9 ∈ lw_tbl → z_ok w9 = true → w9.before ([.ref x, .int (nI (j + 1)), .int p0] : List Value).toArray s = true := fun h1 h2 => hG.w h1 h2 _
  have hg : z_Gr s.heap s.heap := z_Gr.rf
  have hS := z_S.start hW0 hXl hlo
  have hl := lv_entry ([.ref x, .int (nI (j + 1)), .int p0]) (n := 4) (Nat.le_of_ble_eq_true rfl)
  rw [lg_entry_eq]
  generalize (lg_sl ([.ref x, .int (nI (j + 1)), .int p0]) ++ List.replicate (4 - (lg_sl ([.ref x, .int (nI (j + 1)), .int p0])).length) Slot.unset).toArray = ls at hl ⊢
  have hl : lv_has ls 4 [(0, .ref x), (1, .int (nI (j + 1))), (2, .int p0)] := hl
  obtain ⟨hxx, hsA, hrA, hSs, hRr, hIn, hn, hkk, hjs, hjr, hAne⟩ := id hXI
  refine lv_aload_n hx hb d_RR_told_0 rfl (lv_at hl 0 rfl) ?_
  refine lv_iload_n hx hb d_RR_told_1 rfl (lv_at hl 1 rfl) ?_
  refine z_pa (n_RR_RR_returnAt hx hown hG (va_recv hK (hS.1.one hxx) (ci := 0) (q0 := 0) rfl rfl) (by rw [hb]; exact d_RR_told_2)) hb (hl.1.trans hml.symm) (c_RR_returnAt l hl9 x sA rA n k td rd (nI (j + 1)) hxx hrA hkk) (by rw [if_pos ((z_rg1 (by omega) hkk).mpr hj), nI_clamp (show j + 1 < 2 ^ 31 by omega), Nat.add_sub_cancel]) (z_Gkeeps lo tP) hG hK hS (cw_RR_returnAt hG (by decide) (by decide)) d_RR_told_2 (Nat.le_of_ble_eq_true rfl) (by decide) (by decide) (fun H hq hS => ?_)
  have hg := hg.tr hq
  refine lv_astore_n (lv' := [(3, .ref (rd j)), (0, .ref x), (1, .int (nI (j + 1))), (2, .int p0)]) hx hb d_RR_told_5 rfl hl (by decide) rfl (fun ls hl => ?_)
  refine lv_iload_n hx hb d_RR_told_6 rfl (lv_at hl 3 rfl) ?_
  by_cases hw9 : z_rg p0 0 11
  · rcases z_cs11 hw9 with rfl | rfl | rfl | rfl | rfl | rfl | rfl | rfl | rfl | rfl | rfl | rfl
    · refine lv_tableIn (x := 0) (off := 61) (tgt := 68) hx hb d_RR_told_7 (by decide) (by decide) (by decide) (by decide) ?_
      refine lv_aload_n hx hb d_RR_told_68 rfl (lv_at hl 0 rfl) ?_
      refine z_get (ci := 2) (C := R_RE) (T := F_RE) (N := 15) hx hb hts j_RE hown hK hS (hRr j hj) rfl 3 (by decide) (hk k_272 rfl) (fun _ h9 => h9) rfl d_RR_told_69 ?_
      exact z_Piret hx hb hr rfl hlk hg ((zRe0 (show cd_told 0 = 0 by decide)).trans (by simp [an_told])) (by decide) (by decide) d_RR_told_72
    · refine lv_tableIn (x := 1) (off := 66) (tgt := 73) hx hb d_RR_told_7 (by decide) (by decide) (by decide) (by decide) ?_
      refine lv_aload_n hx hb d_RR_told_73 rfl (lv_at hl 0 rfl) ?_
      refine z_get (ci := 2) (C := R_RE) (T := F_RE) (N := 15) hx hb hts j_RE hown hK hS (hRr j hj) rfl 0 (by decide) (hk k_266 rfl) (fun _ h9 => h9) rfl d_RR_told_74 ?_
      refine z_get (ci := 1) (C := R_SA) (T := F_SA) (N := 6) hx hb hts j_SA hown hK hS (hSs (I j) (hIn j hj)) rfl 0 (by decide) (hk k_190 rfl) (fun _ h9 => h9) rfl d_RR_told_77 ?_
      exact z_Piret hx hb hr rfl hlk hg ((zRe0 (show cd_told 1 = 0 by decide)).trans (by simp [an_told])) (by decide) (by decide) d_RR_told_80
    · refine lv_tableIn (x := 2) (off := 74) (tgt := 81) hx hb d_RR_told_7 (by decide) (by decide) (by decide) (by decide) ?_
      refine lv_aload_n hx hb d_RR_told_81 rfl (lv_at hl 0 rfl) ?_
      refine z_get (ci := 2) (C := R_RE) (T := F_RE) (N := 15) hx hb hts j_RE hown hK hS (hRr j hj) rfl 1 (by decide) (hk k_268 rfl) (fun _ h9 => h9) rfl d_RR_told_82 ?_
      exact z_Piret hx hb hr rfl hlk hg ((zRe0 (show cd_told 2 = 0 by decide)).trans (by simp [an_told])) (by decide) (by decide) d_RR_told_85
    · refine lv_tableIn (x := 3) (off := 79) (tgt := 86) hx hb d_RR_told_7 (by decide) (by decide) (by decide) (by decide) ?_
      refine lv_aload_n hx hb d_RR_told_86 rfl (lv_at hl 0 rfl) ?_
      refine z_get (ci := 2) (C := R_RE) (T := F_RE) (N := 15) hx hb hts j_RE hown hK hS (hRr j hj) rfl 8 (by decide) (hk k_281 rfl) (fun _ h9 => h9) rfl d_RR_told_87 ?_
      exact z_Piret hx hb hr rfl hlk hg ((zRe0 (show cd_told 3 = 0 by decide)).trans (by simp [an_told])) (by decide) (by decide) d_RR_told_90
    · refine lv_tableIn (x := 4) (off := 84) (tgt := 91) hx hb d_RR_told_7 (by decide) (by decide) (by decide) (by decide) ?_
      refine lv_aload_n hx hb d_RR_told_91 rfl (lv_at hl 0 rfl) ?_
      refine z_get (ci := 2) (C := R_RE) (T := F_RE) (N := 15) hx hb hts j_RE hown hK hS (hRr j hj) rfl 9 (by decide) (hk k_283 rfl) (fun _ h9 => h9) rfl d_RR_told_92 ?_
      exact z_Piret hx hb hr rfl hlk hg ((zRe0 (show cd_told 4 = 0 by decide)).trans (by simp [an_told])) (by decide) (by decide) d_RR_told_95
    · refine lv_tableIn (x := 5) (off := 89) (tgt := 96) hx hb d_RR_told_7 (by decide) (by decide) (by decide) (by decide) ?_
      refine lv_aload_n hx hb d_RR_told_96 rfl (lv_at hl 0 rfl) ?_
      refine z_get (ci := 2) (C := R_RE) (T := F_RE) (N := 15) hx hb hts j_RE hown hK hS (hRr j hj) rfl 10 (by decide) (hk k_285 rfl) (fun _ h9 => h9) rfl d_RR_told_97 ?_
      exact z_Piret hx hb hr rfl hlk hg ((zRe0 (show cd_told 5 = 0 by decide)).trans (by simp [an_told])) (by decide) (by decide) d_RR_told_100
    · refine lv_tableIn (x := 6) (off := 94) (tgt := 101) hx hb d_RR_told_7 (by decide) (by decide) (by decide) (by decide) ?_
      refine lv_aload_n hx hb d_RR_told_101 rfl (lv_at hl 0 rfl) ?_
      refine z_get (ci := 2) (C := R_RE) (T := F_RE) (N := 15) hx hb hts j_RE hown hK hS (hRr j hj) rfl 7 (by decide) (hk k_279 rfl) (fun _ h9 => h9) rfl d_RR_told_102 ?_
      exact z_Piret hx hb hr rfl hlk hg ((zRe0 (show cd_told 6 = 0 by decide)).trans (by simp [an_told])) (by decide) (by decide) d_RR_told_105
    · refine lv_tableIn (x := 7) (off := 99) (tgt := 106) hx hb d_RR_told_7 (by decide) (by decide) (by decide) (by decide) ?_
      refine lv_aload_n hx hb d_RR_told_106 rfl (lv_at hl 0 rfl) ?_
      refine z_get (ci := 2) (C := R_RE) (T := F_RE) (N := 15) hx hb hts j_RE hown hK hS (hRr j hj) rfl 5 (by decide) (hk k_276 rfl) (fun _ h9 => h9) rfl d_RR_told_107 ?_
      refine lv_if_eq (tgt := 117) hx hb d_RR_told_110 (by decide) (fun c_1 => ?_) (fun c_1 => ?_)
      · refine lv_iconst (v := 0) hx hb d_RR_told_117 (by decide) ?_
        exact z_Piret hx hb hr rfl hlk hg ((zRe0 (show cd_told 7 = 0 by decide)).trans (by simp [an_told, c_1])) (by decide) (by decide) d_RR_told_118
      · refine lv_iconst (v := 1) hx hb d_RR_told_113 (by decide) ?_
        refine lv_goto (tgt := 118) hx hb d_RR_told_114 (by decide) ?_
        exact z_Piret hx hb hr rfl hlk hg ((zRe0 (show cd_told 7 = 0 by decide)).trans (by simp [an_told, c_1])) (by decide) (by decide) d_RR_told_118
    · refine lv_tableIn (x := 8) (off := 112) (tgt := 119) hx hb d_RR_told_7 (by decide) (by decide) (by decide) (by decide) ?_
      refine lv_aload_n hx hb d_RR_told_119 rfl (lv_at hl 0 rfl) ?_
      refine z_get (ci := 2) (C := R_RE) (T := F_RE) (N := 15) hx hb hts j_RE hown hK hS (hRr j hj) rfl 6 (by decide) (hk k_278 rfl) (fun _ h9 => h9) rfl d_RR_told_120 ?_
      refine lv_if_eq (tgt := 130) hx hb d_RR_told_123 (by decide) (fun c_2 => ?_) (fun c_2 => ?_)
      · refine lv_iconst (v := 0) hx hb d_RR_told_130 (by decide) ?_
        exact z_Piret hx hb hr rfl hlk hg ((zRe0 (show cd_told 8 = 0 by decide)).trans (by simp [an_told, c_2])) (by decide) (by decide) d_RR_told_131
      · refine lv_iconst (v := 1) hx hb d_RR_told_126 (by decide) ?_
        refine lv_goto (tgt := 131) hx hb d_RR_told_127 (by decide) ?_
        exact z_Piret hx hb hr rfl hlk hg ((zRe0 (show cd_told 8 = 0 by decide)).trans (by simp [an_told, c_2])) (by decide) (by decide) d_RR_told_131
    · refine lv_tableIn (x := 9) (off := 125) (tgt := 132) hx hb d_RR_told_7 (by decide) (by decide) (by decide) (by decide) ?_
      refine lv_aload_n hx hb d_RR_told_132 rfl (lv_at hl 0 rfl) ?_
      refine z_get (ci := 2) (C := R_RE) (T := F_RE) (N := 15) hx hb hts j_RE hown hK hS (hRr j hj) rfl 11 (by decide) (hk k_286 rfl) (fun _ h9 => h9) rfl d_RR_told_133 ?_
      exact z_Piret hx hb hr rfl hlk hg ((zRe0 (show cd_told 9 = 0 by decide)).trans (by simp [an_told])) (by decide) (by decide) d_RR_told_136
    · refine lv_tableIn (x := 10) (off := 130) (tgt := 137) hx hb d_RR_told_7 (by decide) (by decide) (by decide) (by decide) ?_
      refine lv_aload_n hx hb d_RR_told_137 rfl (lv_at hl 0 rfl) ?_
      refine z_get (ci := 2) (C := R_RE) (T := F_RE) (N := 15) hx hb hts j_RE hown hK hS (hRr j hj) rfl 13 (by decide) (hk k_290 rfl) (fun _ h9 => h9) rfl d_RR_told_138 ?_
      exact z_Piret hx hb hr rfl hlk hg ((zRe0 (show cd_told 10 = 0 by decide)).trans (by simp [an_told])) (by decide) (by decide) d_RR_told_141
    · refine lv_tableIn (x := 11) (off := 135) (tgt := 142) hx hb d_RR_told_7 (by decide) (by decide) (by decide) (by decide) ?_
      refine lv_aload_n hx hb d_RR_told_142 rfl (lv_at hl 0 rfl) ?_
      refine z_get (ci := 2) (C := R_RE) (T := F_RE) (N := 15) hx hb hts j_RE hown hK hS (hRr j hj) rfl 4 (by decide) (hk k_274 rfl) (fun _ h9 => h9) rfl d_RR_told_143 ?_
      exact z_Piret hx hb hr rfl hlk hg ((zRe0 (show cd_told 11 = 0 by decide)).trans (by simp [an_told])) (by decide) (by decide) d_RR_told_146
  · refine lv_tableOut (x := p0) (tgt := 147) hx hb d_RR_told_7 (z_out0 hw9 (by decide)) (by decide) ?_
    exact th_IAE hx hb hl9 hown hG (hl.1.trans hml.symm) hout hlk (is := 190) (text := "a return has no such number") (by decide +kernel) d_RR_told_147 d_RR_told_150 d_RR_told_151 d_RR_told_153 d_RR_told_156 (z_teP (zRe1 1 (if_neg hw9) rfl)) (by decide) (Nat.le_of_ble_eq_true rfl) (by decide) (by decide) (by decide) (by decide)
set_option maxHeartbeats 4000000 in
set_option maxRecDepth 100000 in
theorem c_RR_isMarked (l : Launch) (hl9 : l.stackTraces = false) {D : va_G} {cS cR cJ cI cZ : ClassId} {lo tP : Nat} (v : Int32) {x sA rA n k : Nat} {td : Int32} {sd rd : Nat → Nat} {S : Nat → Nat → Int32} {I : Nat → Nat} {F : Nat → Nat → Int32} {X : zM} (hXI : XI x sA rA cS cR n k td sd rd S I F X) : z_P (z_G lo tP) D cls4 (zty cS cR cJ cI cZ) lo l y_RR_isMarked w_RR_isMarked zrC [.ref x, .int v] X (.inl (some (.int (an_marked k td S I F v)))) := by
  refine z_ofW (by decide) ?_
  intro p e s m args below meth c s₁ B hml hout hv
  obtain ⟨rfl, hG, hK, hW0, hXl, hlo⟩ := hv
  have hx := B.exec
  have hb := B.bytes
  have hr := B.returns
  have hlk := B.notSynchronized
  have hown : s.vm.findClass R_RR = some m.cls := findClass_of_methodNamed B.named
  have hts : ∀ w9 ∈ z_tb, w9.before ([.ref x, .int v] : List Value).toArray s = true := hG.ts _
  have hk : ∀ {w9 : Cond}, w9 ∈ lw_tbl → z_ok w9 = true → w9.before ([.ref x, .int v] : List Value).toArray s = true := fun h1 h2 => hG.w h1 h2 _
  have hg : z_Gr s.heap s.heap := z_Gr.rf
  have hS := z_S.start hW0 hXl hlo
  have hl := lv_entry ([.ref x, .int v]) (n := 2) (Nat.le_of_ble_eq_true rfl)
  rw [lg_entry_eq]
  generalize (lg_sl ([.ref x, .int v]) ++ List.replicate (2 - (lg_sl ([.ref x, .int v])).length) Slot.unset).toArray = ls at hl ⊢
  have hl : lv_has ls 2 [(0, .ref x), (1, .int v)] := hl
  obtain ⟨hxx, hsA, hrA, hSs, hRr, hIn, hn, hkk, hjs, hjr, hAne⟩ := id hXI
  refine lv_aload_n hx hb d_RR_isMarked_0 rfl (lv_at hl 0 rfl) ?_
  refine lv_iconst (v := 3) hx hb d_RR_isMarked_1 (by decide) ?_
  refine lv_iconst (v := (-1)) hx hb d_RR_isMarked_2 (by decide) ?_
  refine lv_iload_n hx hb d_RR_isMarked_3 rfl (lv_at hl 1 rfl) ?_
  refine z_pi (v := an_sum k S I F 3 (-1) v) (n_RR_RR_sum hx hown hG (va_recv hK (hS.1.one hxx) (ci := 0) (q0 := 0) rfl rfl) (by rw [hb]; exact d_RR_isMarked_4)) hb (hl.1.trans hml.symm) (c_RR_sum l hl9 (z_me 3) 3 (-1) v (fun row a f h => c_RE_measured_3 l hl9 row a f h) hXI) (rfl) (z_Gkeeps lo tP) hG hK hS (cw_RR_sum hG (by decide) (by decide)) d_RR_isMarked_4 (Nat.le_of_ble_eq_true rfl) (by decide) (by decide) (fun H hq hS => ?_)
  have hg := hg.tr hq
  refine lv_iconst (v := 2) hx hb d_RR_isMarked_7 (by decide) ?_
  refine lv_icmp_ge (tgt := 20) hx hb d_RR_isMarked_8 (by decide) (fun c_1 => ?_) (fun c_1 => ?_)
  · refine lv_iconst (v := 1) hx hb d_RR_isMarked_20 (by decide) ?_
    refine lv_goto (tgt := 25) hx hb d_RR_isMarked_21 (by decide) ?_
    exact z_Piret hx hb hr rfl hlk hg (by unfold an_marked; simp [c_1]) (by decide) (by decide) d_RR_isMarked_25
  · refine lv_aload_n hx hb d_RR_isMarked_11 rfl (lv_at hl 0 rfl) ?_
    refine lv_iload_n hx hb d_RR_isMarked_12 rfl (lv_at hl 1 rfl) ?_
    refine z_pi (v := an_recent k td S I F v) (n_RR_RR_recentReturnsOf hx hown hG (va_recv hK (hS.1.one hxx) (ci := 0) (q0 := 0) rfl rfl) (by rw [hb]; exact d_RR_isMarked_13)) hb (hl.1.trans hml.symm) (c_RR_recentReturnsOf l hl9 v hXI) (rfl) (z_Gkeeps lo tP) hG hK hS (cw_RR_recentReturnsOf hG (by decide) (by decide)) d_RR_isMarked_13 (Nat.le_of_ble_eq_true rfl) (by decide) (by decide) (fun H hq hS => ?_)
    have hg := hg.tr hq
    refine lv_iconst (v := 3) hx hb d_RR_isMarked_16 (by decide) ?_
    refine lv_icmp_le (tgt := 24) hx hb d_RR_isMarked_17 (by decide) (fun c_2 => ?_) (fun c_2 => ?_)
    · refine lv_iconst (v := 0) hx hb d_RR_isMarked_24 (by decide) ?_
      exact z_Piret hx hb hr rfl hlk hg (by unfold an_marked; simp [c_1, c_2]) (by decide) (by decide) d_RR_isMarked_25
    · refine lv_iconst (v := 1) hx hb d_RR_isMarked_20 (by decide) ?_
      refine lv_goto (tgt := 25) hx hb d_RR_isMarked_21 (by decide) ?_
      exact z_Piret hx hb hr rfl hlk hg (by unfold an_marked; simp [c_1, c_2]) (by decide) (by decide) d_RR_isMarked_25
set_option maxHeartbeats 4000000 in
set_option maxRecDepth 100000 in
theorem c_RR_reason (l : Launch) (hl9 : l.stackTraces = false) {D : va_G} {cS cR cJ cI cZ : ClassId} {lo tP : Nat} (p0 p1 : Int32) {x sA rA n k : Nat} {td : Int32} {sd rd : Nat → Nat} {S : Nat → Nat → Int32} {I : Nat → Nat} {F : Nat → Nat → Int32} {X : zM} (hXI : XI x sA rA cS cR n k td sd rd S I F X) : z_P (z_G lo tP) D cls4 (zty cS cR cJ cI cZ) lo l y_RR_reason w_RR_reason zr1 [.ref x, .int p0, .int p1] X (zRe [E_IAE] (cd_reason p0 p1) (some (.int (an_reason k S I F p0 p1)))) := by
  refine z_ofW (by decide) ?_
  intro p e s m args below meth c s₁ B hml hout hv
  obtain ⟨rfl, hG, hK, hW0, hXl, hlo⟩ := hv
  have hx := B.exec
  have hb := B.bytes
  have hr := B.returns
  have hlk := B.notSynchronized
  have hown : s.vm.findClass R_RR = some m.cls := findClass_of_methodNamed B.named
  have hts : ∀ w9 ∈ z_tb, w9.before ([.ref x, .int p0, .int p1] : List Value).toArray s = true := hG.ts _
  have hk : ∀ {w9 : Cond}, w9 ∈ lw_tbl → z_ok w9 = true → w9.before ([.ref x, .int p0, .int p1] : List Value).toArray s = true := fun h1 h2 => hG.w h1 h2 _
  have hg : z_Gr s.heap s.heap := z_Gr.rf
  have hS := z_S.start hW0 hXl hlo
  have hl := lv_entry ([.ref x, .int p0, .int p1]) (n := 3) (Nat.le_of_ble_eq_true rfl)
  rw [lg_entry_eq]
  generalize (lg_sl ([.ref x, .int p0, .int p1]) ++ List.replicate (3 - (lg_sl ([.ref x, .int p0, .int p1])).length) Slot.unset).toArray = ls at hl ⊢
  have hl : lv_has ls 3 [(0, .ref x), (1, .int p0), (2, .int p1)] := hl
  obtain ⟨hxx, hsA, hrA, hSs, hRr, hIn, hn, hkk, hjs, hjr, hAne⟩ := id hXI
  refine lv_iload_n hx hb d_RR_reason_0 rfl (lv_at hl 1 rfl) ?_
  refine lv_iconst (v := 0) hx hb d_RR_reason_1 (by decide) ?_
  refine lv_bipush (v := 7) hx hb d_RR_reason_2 (by decide) ?_
  by_cases w_1 : z_rg p0 0 7
  · refine z_pv (n_RR_RR_requireWithin hx hown hG (by rw [hb]; exact d_RR_reason_4)) hb (hl.1.trans hml.symm) (c_RR_requireWithin l hl9 p0 0 7) (if_pos w_1) (z_Gkeeps lo tP) hG hK hS (cw_RR_requireWithin hG (by decide) (by decide)) d_RR_reason_4 (Nat.le_of_ble_eq_true rfl) (by decide) (by decide) (fun H hq hS => ?_)
    have hg := hg.tr hq
    refine lv_iload_n hx hb d_RR_reason_7 rfl (lv_at hl 2 rfl) ?_
    by_cases hw9 : z_rg p1 0 2
    · rcases z_cs2 hw9 with rfl | rfl | rfl
      · refine lv_tableIn (x := 0) (off := 28) (tgt := 36) hx hb d_RR_reason_8 (by decide) (by decide) (by decide) (by decide) ?_
        refine lv_aload_n hx hb d_RR_reason_36 rfl (lv_at hl 0 rfl) ?_
        refine lv_iconst (v := 0) hx hb d_RR_reason_37 (by decide) ?_
        refine lv_iload_n hx hb d_RR_reason_38 rfl (lv_at hl 1 rfl) ?_
        refine lv_iconst (v := (-1)) hx hb d_RR_reason_39 (by decide) ?_
        refine z_pi (v := an_sum k S I F 0 p0 (-1)) (n_RR_RR_sum hx hown hG (va_recv hK (hS.1.one hxx) (ci := 0) (q0 := 0) rfl rfl) (by rw [hb]; exact d_RR_reason_40)) hb (hl.1.trans hml.symm) (c_RR_sum l hl9 (z_me 0) 0 p0 (-1) (fun row a f h => c_RE_measured_0 l hl9 row a f h) hXI) (rfl) (z_Gkeeps lo tP) hG hK hS (cw_RR_sum hG (by decide) (by decide)) d_RR_reason_40 (Nat.le_of_ble_eq_true rfl) (by decide) (by decide) (fun H hq hS => ?_)
        have hg := hg.tr hq
        exact z_Piret hx hb hr rfl hlk hg ((zRe0 (by unfold cd_reason; rw [if_pos w_1]; decide)).trans (by simp [an_reason])) (by decide) (by decide) d_RR_reason_43
      · refine lv_tableIn (x := 1) (off := 36) (tgt := 44) hx hb d_RR_reason_8 (by decide) (by decide) (by decide) (by decide) ?_
        refine lv_aload_n hx hb d_RR_reason_44 rfl (lv_at hl 0 rfl) ?_
        refine lv_iconst (v := 1) hx hb d_RR_reason_45 (by decide) ?_
        refine lv_iload_n hx hb d_RR_reason_46 rfl (lv_at hl 1 rfl) ?_
        refine lv_iconst (v := (-1)) hx hb d_RR_reason_47 (by decide) ?_
        refine z_pi (v := an_sum k S I F 1 p0 (-1)) (n_RR_RR_sum hx hown hG (va_recv hK (hS.1.one hxx) (ci := 0) (q0 := 0) rfl rfl) (by rw [hb]; exact d_RR_reason_48)) hb (hl.1.trans hml.symm) (c_RR_sum l hl9 (z_me 1) 1 p0 (-1) (fun row a f h => c_RE_measured_1 l hl9 row a f h) hXI) (rfl) (z_Gkeeps lo tP) hG hK hS (cw_RR_sum hG (by decide) (by decide)) d_RR_reason_48 (Nat.le_of_ble_eq_true rfl) (by decide) (by decide) (fun H hq hS => ?_)
        have hg := hg.tr hq
        exact z_Piret hx hb hr rfl hlk hg ((zRe0 (by unfold cd_reason; rw [if_pos w_1]; decide)).trans (by simp [an_reason])) (by decide) (by decide) d_RR_reason_51
      · refine lv_tableIn (x := 2) (off := 44) (tgt := 52) hx hb d_RR_reason_8 (by decide) (by decide) (by decide) (by decide) ?_
        refine lv_aload_n hx hb d_RR_reason_52 rfl (lv_at hl 0 rfl) ?_
        refine lv_iconst (v := 2) hx hb d_RR_reason_53 (by decide) ?_
        refine lv_iload_n hx hb d_RR_reason_54 rfl (lv_at hl 1 rfl) ?_
        refine lv_iconst (v := (-1)) hx hb d_RR_reason_55 (by decide) ?_
        refine z_pi (v := an_sum k S I F 2 p0 (-1)) (n_RR_RR_sum hx hown hG (va_recv hK (hS.1.one hxx) (ci := 0) (q0 := 0) rfl rfl) (by rw [hb]; exact d_RR_reason_56)) hb (hl.1.trans hml.symm) (c_RR_sum l hl9 (z_me 2) 2 p0 (-1) (fun row a f h => c_RE_measured_2 l hl9 row a f h) hXI) (rfl) (z_Gkeeps lo tP) hG hK hS (cw_RR_sum hG (by decide) (by decide)) d_RR_reason_56 (Nat.le_of_ble_eq_true rfl) (by decide) (by decide) (fun H hq hS => ?_)
        have hg := hg.tr hq
        exact z_Piret hx hb hr rfl hlk hg ((zRe0 (by unfold cd_reason; rw [if_pos w_1]; decide)).trans (by simp [an_reason])) (by decide) (by decide) d_RR_reason_59
    · refine lv_tableOut (x := p1) (tgt := 60) hx hb d_RR_reason_8 (z_out0 hw9 (by decide)) (by decide) ?_
      exact th_IAE hx hb hl9 hown hG (hl.1.trans hml.symm) hout hlk (is := 173) (text := "a reason has no such number") (by decide +kernel) d_RR_reason_60 d_RR_reason_63 d_RR_reason_64 d_RR_reason_66 d_RR_reason_69 (z_teP (zRe1 0 (by unfold cd_reason; rw [if_pos w_1]; rw [if_neg hw9]) rfl)) (by decide) (Nat.le_of_ble_eq_true rfl) (by decide) (by decide) (by decide) (by decide)
  · exact z_pPX (E := E_IAE) (n_RR_RR_requireWithin hx hown hG (by rw [hb]; exact d_RR_reason_4)) hb (hl.1.trans hml.symm) (c_RR_requireWithin l hl9 p0 0 7) (if_neg w_1) (z_Gkeeps lo tP) hG hK hS (cw_RR_requireWithin hG (by decide) (by decide)) d_RR_reason_4 (Nat.le_of_ble_eq_true rfl) (by decide) (by decide) hout hlk hg (zRe1 0 (by unfold cd_reason; rw [if_neg w_1]) rfl) (by decide) (by decide)
theorem an_marked_0 {k : Nat} {td : Int32} {S : Nat → Nat → Int32} {I : Nat → Nat} {F : Nat → Nat → Int32} {v : Int32} (h : an_marked k td S I F v = 0) : an_marked k td S I F v = 0 := h
theorem an_marked_1 {k : Nat} {td : Int32} {S : Nat → Nat → Int32} {I : Nat → Nat} {F : Nat → Nat → Int32} {v : Int32} (h : ¬ an_marked k td S I F v = 0) : an_marked k td S I F v = 1 := by
  unfold an_marked at h ⊢
  by_cases h2 : 2 ≤ an_sum k S I F 3 (-1) v ∨ 3 < an_recent k td S I F v
  · exact if_pos h2
  · exact absurd (if_neg h2) h
set_option maxHeartbeats 4000000 in
set_option maxRecDepth 100000 in
theorem c_RR_customer (l : Launch) (hl9 : l.stackTraces = false) {D : va_G} {cS cR cJ cI cZ : ClassId} {lo tP : Nat} (p0 p1 : Int32) {x sA rA n k : Nat} {td : Int32} {sd rd : Nat → Nat} {S : Nat → Nat → Int32} {I : Nat → Nat} {F : Nat → Nat → Int32} {X : zM} (hXI : XI x sA rA cS cR n k td sd rd S I F X) : z_P (z_G lo tP) D cls4 (zty cS cR cJ cI cZ) lo l y_RR_customer w_RR_customer zr1 [.ref x, .int p0, .int p1] X (zRe [E_IAE] (cd_customer p0 p1) (some (.int (an_customer n k td S I F p0 p1)))) := by
  refine z_ofW (by decide) ?_
  intro p e s m args below meth c s₁ B hml hout hv
  obtain ⟨rfl, hG, hK, hW0, hXl, hlo⟩ := hv
  have hx := B.exec
  have hb := B.bytes
  have hr := B.returns
  have hlk := B.notSynchronized
  have hown : s.vm.findClass R_RR = some m.cls := findClass_of_methodNamed B.named
  have hts : ∀ w9 ∈ z_tb, w9.before ([.ref x, .int p0, .int p1] : List Value).toArray s = true := hG.ts _
  have hk : ∀ {w9 : Cond}, w9 ∈ lw_tbl → z_ok w9 = true → w9.before ([.ref x, .int p0, .int p1] : List Value).toArray s = true := fun h1 h2 => hG.w h1 h2 _
  have hg : z_Gr s.heap s.heap := z_Gr.rf
  have hS := z_S.start hW0 hXl hlo
  have hl := lv_entry ([.ref x, .int p0, .int p1]) (n := 3) (Nat.le_of_ble_eq_true rfl)
  rw [lg_entry_eq]
  generalize (lg_sl ([.ref x, .int p0, .int p1]) ++ List.replicate (3 - (lg_sl ([.ref x, .int p0, .int p1])).length) Slot.unset).toArray = ls at hl ⊢
  have hl : lv_has ls 3 [(0, .ref x), (1, .int p0), (2, .int p1)] := hl
  obtain ⟨hxx, hsA, hrA, hSs, hRr, hIn, hn, hkk, hjs, hjr, hAne⟩ := id hXI
  refine lv_iload_n hx hb d_RR_customer_0 rfl (lv_at hl 1 rfl) ?_
  refine lv_iconst (v := 0) hx hb d_RR_customer_1 (by decide) ?_
  refine lv_iconst (v := 5) hx hb d_RR_customer_2 (by decide) ?_
  by_cases w_1 : z_rg p0 0 5
  · refine z_pv (n_RR_RR_requireWithin hx hown hG (by rw [hb]; exact d_RR_customer_3)) hb (hl.1.trans hml.symm) (c_RR_requireWithin l hl9 p0 0 5) (if_pos w_1) (z_Gkeeps lo tP) hG hK hS (cw_RR_requireWithin hG (by decide) (by decide)) d_RR_customer_3 (Nat.le_of_ble_eq_true rfl) (by decide) (by decide) (fun H hq hS => ?_)
    have hg := hg.tr hq
    refine lv_iload_n hx hb d_RR_customer_6 rfl (lv_at hl 2 rfl) ?_
    by_cases hw9 : z_rg p1 0 3
    · rcases z_cs3 hw9 with rfl | rfl | rfl | rfl
      · refine lv_tableIn (x := 0) (off := 29) (tgt := 36) hx hb d_RR_customer_7 (by decide) (by decide) (by decide) (by decide) ?_
        refine lv_aload_n hx hb d_RR_customer_36 rfl (lv_at hl 0 rfl) ?_
        refine lv_iload_n hx hb d_RR_customer_37 rfl (lv_at hl 1 rfl) ?_
        refine z_pi (v := an_salesTo n S p0) (n_RR_RR_salesTo hx hown hG (va_recv hK (hS.1.one hxx) (ci := 0) (q0 := 0) rfl rfl) (by rw [hb]; exact d_RR_customer_38)) hb (hl.1.trans hml.symm) (c_RR_salesTo l hl9 p0 hXI) (rfl) (z_Gkeeps lo tP) hG hK hS (cw_RR_salesTo hG (by decide) (by decide)) d_RR_customer_38 (Nat.le_of_ble_eq_true rfl) (by decide) (by decide) (fun H hq hS => ?_)
        have hg := hg.tr hq
        exact z_Piret hx hb hr rfl hlk hg ((zRe0 (by unfold cd_customer; rw [if_pos w_1]; decide)).trans (by simp [an_customer])) (by decide) (by decide) d_RR_customer_41
      · refine lv_tableIn (x := 1) (off := 35) (tgt := 42) hx hb d_RR_customer_7 (by decide) (by decide) (by decide) (by decide) ?_
        refine lv_aload_n hx hb d_RR_customer_42 rfl (lv_at hl 0 rfl) ?_
        refine lv_iconst (v := 0) hx hb d_RR_customer_43 (by decide) ?_
        refine lv_iconst (v := (-1)) hx hb d_RR_customer_44 (by decide) ?_
        refine lv_iload_n hx hb d_RR_customer_45 rfl (lv_at hl 1 rfl) ?_
        refine z_pi (v := an_sum k S I F 0 (-1) p0) (n_RR_RR_sum hx hown hG (va_recv hK (hS.1.one hxx) (ci := 0) (q0 := 0) rfl rfl) (by rw [hb]; exact d_RR_customer_46)) hb (hl.1.trans hml.symm) (c_RR_sum l hl9 (z_me 0) 0 (-1) p0 (fun row a f h => c_RE_measured_0 l hl9 row a f h) hXI) (rfl) (z_Gkeeps lo tP) hG hK hS (cw_RR_sum hG (by decide) (by decide)) d_RR_customer_46 (Nat.le_of_ble_eq_true rfl) (by decide) (by decide) (fun H hq hS => ?_)
        have hg := hg.tr hq
        exact z_Piret hx hb hr rfl hlk hg ((zRe0 (by unfold cd_customer; rw [if_pos w_1]; decide)).trans (by simp [an_customer])) (by decide) (by decide) d_RR_customer_49
      · refine lv_tableIn (x := 2) (off := 43) (tgt := 50) hx hb d_RR_customer_7 (by decide) (by decide) (by decide) (by decide) ?_
        refine lv_aload_n hx hb d_RR_customer_50 rfl (lv_at hl 0 rfl) ?_
        refine lv_iconst (v := 3) hx hb d_RR_customer_51 (by decide) ?_
        refine lv_iconst (v := (-1)) hx hb d_RR_customer_52 (by decide) ?_
        refine lv_iload_n hx hb d_RR_customer_53 rfl (lv_at hl 1 rfl) ?_
        refine z_pi (v := an_sum k S I F 3 (-1) p0) (n_RR_RR_sum hx hown hG (va_recv hK (hS.1.one hxx) (ci := 0) (q0 := 0) rfl rfl) (by rw [hb]; exact d_RR_customer_54)) hb (hl.1.trans hml.symm) (c_RR_sum l hl9 (z_me 3) 3 (-1) p0 (fun row a f h => c_RE_measured_3 l hl9 row a f h) hXI) (rfl) (z_Gkeeps lo tP) hG hK hS (cw_RR_sum hG (by decide) (by decide)) d_RR_customer_54 (Nat.le_of_ble_eq_true rfl) (by decide) (by decide) (fun H hq hS => ?_)
        have hg := hg.tr hq
        exact z_Piret hx hb hr rfl hlk hg ((zRe0 (by unfold cd_customer; rw [if_pos w_1]; decide)).trans (by simp [an_customer])) (by decide) (by decide) d_RR_customer_57
      · refine lv_tableIn (x := 3) (off := 51) (tgt := 58) hx hb d_RR_customer_7 (by decide) (by decide) (by decide) (by decide) ?_
        refine lv_aload_n hx hb d_RR_customer_58 rfl (lv_at hl 0 rfl) ?_
        refine lv_iload_n hx hb d_RR_customer_59 rfl (lv_at hl 1 rfl) ?_
        refine z_pi (v := an_marked k td S I F p0) (n_RR_RR_isMarked hx hown hG (va_recv hK (hS.1.one hxx) (ci := 0) (q0 := 0) rfl rfl) (by rw [hb]; exact d_RR_customer_60)) hb (hl.1.trans hml.symm) (c_RR_isMarked l hl9 p0 hXI) (rfl) (z_Gkeeps lo tP) hG hK hS (cw_RR_isMarked hG (by decide) (by decide)) d_RR_customer_60 (Nat.le_of_ble_eq_true rfl) (by decide) (by decide) (fun H hq hS => ?_)
        have hg := hg.tr hq
        refine lv_if_eq (tgt := 70) hx hb d_RR_customer_63 (by decide) (fun c_2 => ?_) (fun c_2 => ?_)
        · refine lv_iconst (v := 0) hx hb d_RR_customer_70 (by decide) ?_
          exact z_Piret hx hb hr rfl hlk hg ((zRe0 (by unfold cd_customer; rw [if_pos w_1]; decide)).trans (by simp only [an_customer]; rw [if_neg (by decide), if_neg (by decide), if_neg (by decide), an_marked_0 c_2])) (by decide) (by decide) d_RR_customer_71
        · refine lv_iconst (v := 1) hx hb d_RR_customer_66 (by decide) ?_
          refine lv_goto (tgt := 71) hx hb d_RR_customer_67 (by decide) ?_
          exact z_Piret hx hb hr rfl hlk hg ((zRe0 (by unfold cd_customer; rw [if_pos w_1]; decide)).trans (by simp only [an_customer]; rw [if_neg (by decide), if_neg (by decide), if_neg (by decide), an_marked_1 c_2])) (by decide) (by decide) d_RR_customer_71
    · refine lv_tableOut (x := p1) (tgt := 72) hx hb d_RR_customer_7 (z_out0 hw9 (by decide)) (by decide) ?_
      exact th_IAE hx hb hl9 hown hG (hl.1.trans hml.symm) hout hlk (is := 182) (text := "a customer has no such number") (by decide +kernel) d_RR_customer_72 d_RR_customer_75 d_RR_customer_76 d_RR_customer_78 d_RR_customer_81 (z_teP (zRe1 0 (by unfold cd_customer; rw [if_pos w_1]; rw [if_neg hw9]) rfl)) (by decide) (Nat.le_of_ble_eq_true rfl) (by decide) (by decide) (by decide) (by decide)
  · exact z_pPX (E := E_IAE) (n_RR_RR_requireWithin hx hown hG (by rw [hb]; exact d_RR_customer_3)) hb (hl.1.trans hml.symm) (c_RR_requireWithin l hl9 p0 0 5) (if_neg w_1) (z_Gkeeps lo tP) hG hK hS (cw_RR_requireWithin hG (by decide) (by decide)) d_RR_customer_3 (Nat.le_of_ble_eq_true rfl) (by decide) (by decide) hout hlk hg (zRe1 0 (by unfold cd_customer; rw [if_neg w_1]) rfl) (by decide) (by decide)
theorem an_count_no {n k : Nat} {td : Int32} {S : Nat → Nat → Int32} {I : Nat → Nat} {F : Nat → Nat → Int32} {w : Int32} (h : ¬ z_rg w 0 7) : an_count n k td S I F w = -1 := by
  unfold an_count
  rw [if_neg (fun e => h (by rw [e]; decide)), if_neg (fun e => h (by rw [e]; decide)), if_neg (fun e => h (by rw [e]; decide)), if_neg (fun e => h (by rw [e]; decide)), if_neg (fun e => h (by rw [e]; decide)), if_neg (fun e => h (by rw [e]; decide)), if_neg (fun e => h (by rw [e]; decide)), if_neg (fun e => h (by rw [e]; decide))]
set_option maxHeartbeats 4000000 in
set_option maxRecDepth 100000 in
theorem c_RR_count (l : Launch) (hl9 : l.stackTraces = false) {D : va_G} {cS cR cJ cI cZ : ClassId} {lo tP : Nat} (p0 : Int32) {x sA rA n k : Nat} {td : Int32} {sd rd : Nat → Nat} {S : Nat → Nat → Int32} {I : Nat → Nat} {F : Nat → Nat → Int32} {X : zM} (hXI : XI x sA rA cS cR n k td sd rd S I F X) : z_P (z_G lo tP) D cls4 (zty cS cR cJ cI cZ) lo l y_RR_count w_RR_count zr1 [.ref x, .int p0] X (.inl (some (.int (an_count n k td S I F p0)))) := by
  refine z_ofW (by decide) ?_
  intro p e s m args below meth c s₁ B hml hout hv
  obtain ⟨rfl, hG, hK, hW0, hXl, hlo⟩ := hv
  have hx := B.exec
  have hb := B.bytes
  have hr := B.returns
  have hlk := B.notSynchronized
  have hown : s.vm.findClass R_RR = some m.cls := findClass_of_methodNamed B.named
  have hts : ∀ w9 ∈ z_tb, w9.before ([.ref x, .int p0] : List Value).toArray s = true := hG.ts _
  have hk : ∀ {w9 : Cond}, w9 ∈ lw_tbl → z_ok w9 = true → w9.before ([.ref x, .int p0] : List Value).toArray s = true := fun h1 h2 => hG.w h1 h2 _
  have hg : z_Gr s.heap s.heap := z_Gr.rf
  have hS := z_S.start hW0 hXl hlo
  have hl := lv_entry ([.ref x, .int p0]) (n := 2) (Nat.le_of_ble_eq_true rfl)
  rw [lg_entry_eq]
  generalize (lg_sl ([.ref x, .int p0]) ++ List.replicate (2 - (lg_sl ([.ref x, .int p0])).length) Slot.unset).toArray = ls at hl ⊢
  have hl : lv_has ls 2 [(0, .ref x), (1, .int p0)] := hl
  obtain ⟨hxx, hsA, hrA, hSs, hRr, hIn, hn, hkk, hjs, hjr, hAne⟩ := id hXI
  refine lv_iload_n hx hb d_RR_count_0 rfl (lv_at hl 1 rfl) ?_
  by_cases hw9 : z_rg p0 0 7
  · rcases z_cs7 hw9 with rfl | rfl | rfl | rfl | rfl | rfl | rfl | rfl
    · refine lv_tableIn (x := 0) (off := 47) (tgt := 48) hx hb d_RR_count_1 (by decide) (by decide) (by decide) (by decide) ?_
      refine lv_aload_n hx hb d_RR_count_48 rfl (lv_at hl 0 rfl) ?_
      refine z_get (ci := 0) (C := R_RR) (T := F_RR) (N := 5) hx hb hts j_RR hown hK hS hxx rfl 2 (by decide) (hk k_45 rfl) (fun _ h9 => h9) rfl d_RR_count_49 ?_
      exact z_Piret hx hb hr rfl hlk hg (by simp [an_count]) (by decide) (by decide) d_RR_count_52
    · refine lv_tableIn (x := 1) (off := 52) (tgt := 53) hx hb d_RR_count_1 (by decide) (by decide) (by decide) (by decide) ?_
      refine lv_aload_n hx hb d_RR_count_53 rfl (lv_at hl 0 rfl) ?_
      refine z_get (ci := 0) (C := R_RR) (T := F_RR) (N := 5) hx hb hts j_RR hown hK hS hxx rfl 3 (by decide) (hk k_46 rfl) (fun _ h9 => h9) rfl d_RR_count_54 ?_
      exact z_Piret hx hb hr rfl hlk hg (by simp [an_count]) (by decide) (by decide) d_RR_count_57
    · refine lv_tableIn (x := 2) (off := 57) (tgt := 58) hx hb d_RR_count_1 (by decide) (by decide) (by decide) (by decide) ?_
      refine lv_aload_n hx hb d_RR_count_58 rfl (lv_at hl 0 rfl) ?_
      refine z_get (ci := 0) (C := R_RR) (T := F_RR) (N := 5) hx hb hts j_RR hown hK hS hxx rfl 4 (by decide) (hk k_47 rfl) (fun _ h9 => h9) rfl d_RR_count_59 ?_
      exact z_Piret hx hb hr rfl hlk hg (by simp [an_count]) (by decide) (by decide) d_RR_count_62
    · refine lv_tableIn (x := 3) (off := 62) (tgt := 63) hx hb d_RR_count_1 (by decide) (by decide) (by decide) (by decide) ?_
      refine lv_aload_n hx hb d_RR_count_63 rfl (lv_at hl 0 rfl) ?_
      refine lv_iconst (v := 4) hx hb d_RR_count_64 (by decide) ?_
      refine lv_iconst (v := (-1)) hx hb d_RR_count_65 (by decide) ?_
      refine lv_iconst (v := (-1)) hx hb d_RR_count_66 (by decide) ?_
      refine z_pi (v := an_sum k S I F 4 (-1) (-1)) (n_RR_RR_sum hx hown hG (va_recv hK (hS.1.one hxx) (ci := 0) (q0 := 0) rfl rfl) (by rw [hb]; exact d_RR_count_67)) hb (hl.1.trans hml.symm) (c_RR_sum l hl9 (z_me 4) 4 (-1) (-1) (fun row a f h => c_RE_measured_4 l hl9 row a f h) hXI) (rfl) (z_Gkeeps lo tP) hG hK hS (cw_RR_sum hG (by decide) (by decide)) d_RR_count_67 (Nat.le_of_ble_eq_true rfl) (by decide) (by decide) (fun H hq hS => ?_)
      have hg := hg.tr hq
      exact z_Piret hx hb hr rfl hlk hg (by simp [an_count]) (by decide) (by decide) d_RR_count_70
    · refine lv_tableIn (x := 4) (off := 70) (tgt := 71) hx hb d_RR_count_1 (by decide) (by decide) (by decide) (by decide) ?_
      refine lv_aload_n hx hb d_RR_count_71 rfl (lv_at hl 0 rfl) ?_
      refine lv_iconst (v := 0) hx hb d_RR_count_72 (by decide) ?_
      refine z_pi (v := an_back k F 0) (n_RR_RR_backOfClass hx hown hG (va_recv hK (hS.1.one hxx) (ci := 0) (q0 := 0) rfl rfl) (by rw [hb]; exact d_RR_count_73)) hb (hl.1.trans hml.symm) (c_RR_backOfClass l hl9 0 hXI) (rfl) (z_Gkeeps lo tP) hG hK hS (cw_RR_backOfClass hG (by decide) (by decide)) d_RR_count_73 (Nat.le_of_ble_eq_true rfl) (by decide) (by decide) (fun H hq hS => ?_)
      have hg := hg.tr hq
      exact z_Piret hx hb hr rfl hlk hg (by simp [an_count]) (by decide) (by decide) d_RR_count_76
    · refine lv_tableIn (x := 5) (off := 76) (tgt := 77) hx hb d_RR_count_1 (by decide) (by decide) (by decide) (by decide) ?_
      refine lv_aload_n hx hb d_RR_count_77 rfl (lv_at hl 0 rfl) ?_
      refine lv_iconst (v := 1) hx hb d_RR_count_78 (by decide) ?_
      refine z_pi (v := an_back k F 1) (n_RR_RR_backOfClass hx hown hG (va_recv hK (hS.1.one hxx) (ci := 0) (q0 := 0) rfl rfl) (by rw [hb]; exact d_RR_count_79)) hb (hl.1.trans hml.symm) (c_RR_backOfClass l hl9 1 hXI) (rfl) (z_Gkeeps lo tP) hG hK hS (cw_RR_backOfClass hG (by decide) (by decide)) d_RR_count_79 (Nat.le_of_ble_eq_true rfl) (by decide) (by decide) (fun H hq hS => ?_)
      have hg := hg.tr hq
      exact z_Piret hx hb hr rfl hlk hg (by simp [an_count]) (by decide) (by decide) d_RR_count_82
    · refine lv_tableIn (x := 6) (off := 82) (tgt := 83) hx hb d_RR_count_1 (by decide) (by decide) (by decide) (by decide) ?_
      refine lv_aload_n hx hb d_RR_count_83 rfl (lv_at hl 0 rfl) ?_
      refine lv_iconst (v := 2) hx hb d_RR_count_84 (by decide) ?_
      refine z_pi (v := an_back k F 2) (n_RR_RR_backOfClass hx hown hG (va_recv hK (hS.1.one hxx) (ci := 0) (q0 := 0) rfl rfl) (by rw [hb]; exact d_RR_count_85)) hb (hl.1.trans hml.symm) (c_RR_backOfClass l hl9 2 hXI) (rfl) (z_Gkeeps lo tP) hG hK hS (cw_RR_backOfClass hG (by decide) (by decide)) d_RR_count_85 (Nat.le_of_ble_eq_true rfl) (by decide) (by decide) (fun H hq hS => ?_)
      have hg := hg.tr hq
      exact z_Piret hx hb hr rfl hlk hg (by simp [an_count]) (by decide) (by decide) d_RR_count_88
    · refine lv_tableIn (x := 7) (off := 88) (tgt := 89) hx hb d_RR_count_1 (by decide) (by decide) (by decide) (by decide) ?_
      refine lv_aload_n hx hb d_RR_count_89 rfl (lv_at hl 0 rfl) ?_
      refine lv_iconst (v := 1) hx hb d_RR_count_90 (by decide) ?_
      refine lv_iconst (v := (-1)) hx hb d_RR_count_91 (by decide) ?_
      refine lv_iconst (v := (-1)) hx hb d_RR_count_92 (by decide) ?_
      refine z_pi (v := an_sum k S I F 1 (-1) (-1)) (n_RR_RR_sum hx hown hG (va_recv hK (hS.1.one hxx) (ci := 0) (q0 := 0) rfl rfl) (by rw [hb]; exact d_RR_count_93)) hb (hl.1.trans hml.symm) (c_RR_sum l hl9 (z_me 1) 1 (-1) (-1) (fun row a f h => c_RE_measured_1 l hl9 row a f h) hXI) (rfl) (z_Gkeeps lo tP) hG hK hS (cw_RR_sum hG (by decide) (by decide)) d_RR_count_93 (Nat.le_of_ble_eq_true rfl) (by decide) (by decide) (fun H hq hS => ?_)
      have hg := hg.tr hq
      exact z_Piret hx hb hr rfl hlk hg (by simp [an_count]) (by decide) (by decide) d_RR_count_96
  · refine lv_tableOut (x := p0) (tgt := 97) hx hb d_RR_count_1 (z_out0 hw9 (by decide)) (by decide) ?_
    refine lv_iconst (v := (-1)) hx hb d_RR_count_97 (by decide) ?_
    exact z_Piret hx hb hr rfl hlk hg (by rw [an_count_no hw9]) (by decide) (by decide) d_RR_count_98
