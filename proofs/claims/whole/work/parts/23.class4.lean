/-! ===== the class: what is counted ===== -/
set_option maxHeartbeats 4000000 in
set_option maxRecDepth 100000 in
theorem c_RR_backOfClass (l : Launch) (hl9 : l.stackTraces = false) {D : va_G} {cS cR cJ cI cZ : ClassId} {lo tP : Nat} (v : Int32) {x sA rA n k : Nat} {td : Int32} {sd rd : Nat → Nat} {S : Nat → Nat → Int32} {I : Nat → Nat} {F : Nat → Nat → Int32} {X : zM} (hXI : XI x sA rA cS cR n k td sd rd S I F X) : z_P (z_G lo tP) D cls4 (zty cS cR cJ cI cZ) lo l y_RR_backOfClass w_RR_backOfClass zrB [.ref x, .int v] X (.inl (some (.int (z_sm (fun j => if j < k ∧ F j 3 = 6 ∧ F j 8 = v then 1 else 0) 20)))) := by
  refine z_ofW (by decide) ?_
  intro p e s m args below meth c s₁ B hml hout hv
  obtain ⟨rfl, hG, hK, hW0, hXl, hlo⟩ := hv
  have hx := B.exec
  have hb := B.bytes
  have hr := B.returns
  have hlk := B.notSynchronized
  have hown : s.vm.findClass R_RR = some m.cls := findClass_of_methodNamed B.named
  have hts : ∀ w9 ∈ z_tb, w9.before ([.ref x, .int v] : List Value).toArray s = true := hG.ts _
  have hk : ∀ {w9 : Cond}, w9 ∈ lw_tbl → z_ok w9 = true → w9.before ([.ref x, .int v] : List Value).toArray s = true := fun h1 h2 => hG.w h1 h2 _
  have hg : z_Gr s.heap s.heap := z_Gr.rf
  have hS := z_S.start hW0 hXl hlo
  have hl := lv_entry ([.ref x, .int v]) (n := 7) (Nat.le_of_ble_eq_true rfl)
  rw [lg_entry_eq]
  generalize (lg_sl ([.ref x, .int v]) ++ List.replicate (7 - (lg_sl ([.ref x, .int v])).length) Slot.unset).toArray = ls at hl ⊢
  have hl : lv_has ls 7 [(0, .ref x), (1, .int v)] := hl
  obtain ⟨hxx, hsA, hrA, hSs, hRr, hIn, hn, hkk, hjs, hjr, hAne⟩ := id hXI
  refine lv_iconst (v := 0) hx hb d_RR_backOfClass_0 (by decide) ?_
  refine lv_istore_n (lv' := [(2, .int 0), (0, .ref x), (1, .int v)]) hx hb d_RR_backOfClass_1 rfl hl (by decide) rfl (fun ls hl => ?_)
  refine lv_aload_n hx hb d_RR_backOfClass_2 rfl (lv_at hl 1 rfl) ?_
  refine z_get (ci := 0) (C := R_RR) (T := F_RR) (N := 5) hx hb hts j_RR hown hK hS hxx rfl 1 (by decide) (hk k_44 rfl) (fun _ h9 => h9) rfl d_RR_backOfClass_3 ?_
  refine lv_astore_n (lv' := [(3, .ref rA), (2, .int 0), (0, .ref x), (1, .int v)]) hx hb d_RR_backOfClass_6 rfl hl (by decide) rfl (fun ls hl => ?_)
  refine lv_aload_n hx hb d_RR_backOfClass_7 rfl (lv_at hl 0 rfl) ?_
  refine z_alen hx hb hK hS 1 hrA rfl (v := 20) rfl d_RR_backOfClass_8 ?_
  refine lv_istore (lv' := [(4, .int 20), (3, .ref rA), (2, .int 0), (0, .ref x), (1, .int v)]) hx hb d_RR_backOfClass_9 hl (by decide) rfl (fun ls hl => ?_)
  refine lv_iconst (v := 0) hx hb d_RR_backOfClass_11 (by decide) ?_
  refine lv_istore (lv' := [(5, .int 0), (4, .int 20), (3, .ref rA), (2, .int 0), (0, .ref x), (1, .int v)]) hx hb d_RR_backOfClass_12 hl (by decide) rfl (fun ls hl => ?_)
  have hloop : ∀ (dd i : Nat) (t : Int32) (H : Heap) (ls : Array Slot), i + dd = 20 → t = z_sm (fun j => if j < k ∧ F j 3 = 6 ∧ F j 8 = v then 1 else 0) i → z_Gr s.heap H → z_S D cls4 lo X s.heap X H [] → lv_has ls 7 [(0, .ref x), (1, .int v), (2, .int t), (3, .ref rA), (4, .int 20), (5, .int (nI i))] → W p l e zrB s m ([.ref x, .int v] : List Value).toArray below meth c H [] 0 0 (z_MQ below (z_pu (.inl (some (.int (z_sm (fun j => if j < k ∧ F j 3 = 6 ∧ F j 8 = v then 1 else 0) 20))))) ([.ref x, .int v] : List Value).toArray s zrB.cells zrB.slots (fun _ => False)) (F0 m 14 ls []) := by
    intro dd
    induction dd with
    | zero =>
      intro i t H ls hi ht_t hg hS hl
      obtain rfl : i = 20 := by omega
      refine lv_iload hx hb d_RR_backOfClass_14 (lv_at hl 5 rfl) ?_
      refine lv_iload hx hb d_RR_backOfClass_16 (lv_at hl 4 rfl) ?_
      refine lv_icmp_ge (tgt := 60) hx hb d_RR_backOfClass_18 (by decide) (fun c_1 => ?_) (fun c_1 => absurd (by decide) c_1)
      refine lv_iload_n hx hb d_RR_backOfClass_60 rfl (lv_at hl 2 rfl) ?_
      exact z_Piret hx hb hr rfl hlk hg (by rw [ht_t]) (by decide) (by decide) d_RR_backOfClass_61
    | succ dd ih =>
      intro i t H ls hi ht_t hg hS hl
      have hi20 : i < 20 := by omega
      refine lv_iload hx hb d_RR_backOfClass_14 (lv_at hl 5 rfl) ?_
      refine lv_iload hx hb d_RR_backOfClass_16 (lv_at hl 4 rfl) ?_
      refine lv_icmp_ge (tgt := 60) hx hb d_RR_backOfClass_18 (by decide) (fun c_2 => absurd c_2 (nI_ge (b := 20) hi20 (by decide))) (fun c_2 => ?_)
      refine lv_aload_n hx hb d_RR_backOfClass_21 rfl (lv_at hl 3 rfl) ?_
      refine lv_iload hx hb d_RR_backOfClass_22 (lv_at hl 5 rfl) ?_
      by_cases hik : i < k
      · refine z_aald hx hb hK hS 1 hrA rfl (vp_in_nI hi20 (by decide)) d_RR_backOfClass_24 (r := some (rd i)) (by simp only [nI_clamp (show i < 2 ^ 31 by omega), if_pos hik]) ?_
        refine lv_astore (lv' := [(6, .ref (rd i)), (0, .ref x), (1, .int v), (2, .int t), (3, .ref rA), (4, .int 20), (5, .int (nI i))]) hx hb d_RR_backOfClass_25 hl (by decide) rfl (fun ls hl => ?_)
        refine lv_aload hx hb d_RR_backOfClass_27 (lv_at hl 0 rfl) ?_
        refine lv_ifnull hx hb d_RR_backOfClass_29 ?_
        refine lv_aload hx hb d_RR_backOfClass_32 (lv_at hl 0 rfl) ?_
        refine z_get (ci := 2) (C := R_RE) (T := F_RE) (N := 15) hx hb hts j_RE hown hK hS (hRr i hik) rfl 3 (by decide) (hk k_272 rfl) (fun _ h9 => h9) rfl d_RR_backOfClass_34 ?_
        refine lv_bipush (v := 6) hx hb d_RR_backOfClass_37 (by decide) ?_
        refine lv_icmp_ne (tgt := 54) hx hb d_RR_backOfClass_39 (by decide) (fun c_3 => ?_) (fun c_3 => ?_)
        · refine lv_iinc (v := (nI i) + 1) (lv' := [(5, .int ((nI i) + 1)), (6, .ref (rd i)), (0, .ref x), (1, .int v), (2, .int t), (3, .ref rA), (4, .int 20)]) hx hb d_RR_backOfClass_54 hl (k := 6) rfl rfl (by decide) rfl (fun ls hl => ?_)
          refine lv_goto (tgt := 14) hx hb d_RR_backOfClass_57 (by decide) ?_
          exact ih (i + 1) t H ls (by omega) (by rw [z_smS, ← ht_t]; simp [hik, c_3]) hg hS (by rw [nI_1] at hl; exact lv_sub hl [2, 3, 4, 5, 6, 0] rfl)
        · refine lv_aload hx hb d_RR_backOfClass_42 (lv_at hl 0 rfl) ?_
          refine z_get (ci := 2) (C := R_RE) (T := F_RE) (N := 15) hx hb hts j_RE hown hK hS (hRr i hik) rfl 8 (by decide) (hk k_281 rfl) (fun _ h9 => h9) rfl d_RR_backOfClass_44 ?_
          refine lv_iload_n hx hb d_RR_backOfClass_47 rfl (lv_at hl 2 rfl) ?_
          refine lv_icmp_ne (tgt := 54) hx hb d_RR_backOfClass_48 (by decide) (fun c_4 => ?_) (fun c_4 => ?_)
          · refine lv_iinc (v := (nI i) + 1) (lv' := [(5, .int ((nI i) + 1)), (6, .ref (rd i)), (0, .ref x), (1, .int v), (2, .int t), (3, .ref rA), (4, .int 20)]) hx hb d_RR_backOfClass_54 hl (k := 6) rfl rfl (by decide) rfl (fun ls hl => ?_)
            refine lv_goto (tgt := 14) hx hb d_RR_backOfClass_57 (by decide) ?_
            exact ih (i + 1) t H ls (by omega) (by rw [z_smS, ← ht_t]; simp [hik, c_3, c_4]) hg hS (by rw [nI_1] at hl; exact lv_sub hl [2, 3, 4, 5, 6, 0] rfl)
          · refine lv_iinc (v := t + 1) (lv' := [(2, .int (t + 1)), (6, .ref (rd i)), (0, .ref x), (1, .int v), (3, .ref rA), (4, .int 20), (5, .int (nI i))]) hx hb d_RR_backOfClass_51 hl (k := 3) rfl rfl (by decide) rfl (fun ls hl => ?_)
            refine lv_iinc (v := (nI i) + 1) (lv' := [(5, .int ((nI i) + 1)), (2, .int (t + 1)), (6, .ref (rd i)), (0, .ref x), (1, .int v), (3, .ref rA), (4, .int 20)]) hx hb d_RR_backOfClass_54 hl (k := 6) rfl rfl (by decide) rfl (fun ls hl => ?_)
            refine lv_goto (tgt := 14) hx hb d_RR_backOfClass_57 (by decide) ?_
            exact ih (i + 1) (t + 1) H ls (by omega) (by rw [z_smS, ← ht_t]; simp [hik, c_3, c_4]) hg hS (by rw [nI_1] at hl; exact lv_sub hl [3, 4, 1, 5, 6, 0] rfl)
      · refine z_aald hx hb hK hS 1 hrA rfl (vp_in_nI hi20 (by decide)) d_RR_backOfClass_24 (r := none) (by simp only [nI_clamp (show i < 2 ^ 31 by omega), if_neg hik]) ?_
        refine lv_astoreN (lv' := [(6, .null), (0, .ref x), (1, .int v), (2, .int t), (3, .ref rA), (4, .int 20), (5, .int (nI i))]) hx hb d_RR_backOfClass_25 hl (by decide) rfl (fun ls hl => ?_)
        refine lv_aloadN hx hb d_RR_backOfClass_27 (lv_at hl 0 rfl) ?_
        refine lv_ifnullN (tgt := 54) hx hb d_RR_backOfClass_29 (by decide) ?_
        refine lv_iinc (v := (nI i) + 1) (lv' := [(5, .int ((nI i) + 1)), (6, .null), (0, .ref x), (1, .int v), (2, .int t), (3, .ref rA), (4, .int 20)]) hx hb d_RR_backOfClass_54 hl (k := 6) rfl rfl (by decide) rfl (fun ls hl => ?_)
        refine lv_goto (tgt := 14) hx hb d_RR_backOfClass_57 (by decide) ?_
        exact ih (i + 1) t H ls (by omega) (by rw [z_smS, ← ht_t]; simp [hik]) hg hS (by rw [nI_1] at hl; exact lv_sub hl [2, 3, 4, 5, 6, 0] rfl)
  exact hloop 20 0 0 _ ls rfl rfl hg hS (lv_sub hl [4, 5, 3, 2, 1, 0] rfl)
set_option maxHeartbeats 4000000 in
set_option maxRecDepth 100000 in
theorem c_RR_salesTo (l : Launch) (hl9 : l.stackTraces = false) {D : va_G} {cS cR cJ cI cZ : ClassId} {lo tP : Nat} (v : Int32) {x sA rA n k : Nat} {td : Int32} {sd rd : Nat → Nat} {S : Nat → Nat → Int32} {I : Nat → Nat} {F : Nat → Nat → Int32} {X : zM} (hXI : XI x sA rA cS cR n k td sd rd S I F X) : z_P (z_G lo tP) D cls4 (zty cS cR cJ cI cZ) lo l y_RR_salesTo w_RR_salesTo zrB [.ref x, .int v] X (.inl (some (.int (z_sm (fun j => if j < n ∧ S j 1 = v then 1 else 0) 20)))) := by
  refine z_ofW (by decide) ?_
  intro p e s m args below meth c s₁ B hml hout hv
  obtain ⟨rfl, hG, hK, hW0, hXl, hlo⟩ := hv
  have hx := B.exec
  have hb := B.bytes
  have hr := B.returns
  have hlk := B.notSynchronized
  have hown : s.vm.findClass R_RR = some m.cls := findClass_of_methodNamed B.named
  have hts : ∀ w9 ∈ z_tb, w9.before ([.ref x, .int v] : List Value).toArray s = true := hG.ts _
  have hk : ∀ {w9 : Cond}, w9 ∈ lw_tbl → z_ok w9 = true → w9.before ([.ref x, .int v] : List Value).toArray s = true := fun h1 h2 => hG.w h1 h2 _
  have hg : z_Gr s.heap s.heap := z_Gr.rf
  have hS := z_S.start hW0 hXl hlo
  have hl := lv_entry ([.ref x, .int v]) (n := 7) (Nat.le_of_ble_eq_true rfl)
  rw [lg_entry_eq]
  generalize (lg_sl ([.ref x, .int v]) ++ List.replicate (7 - (lg_sl ([.ref x, .int v])).length) Slot.unset).toArray = ls at hl ⊢
  have hl : lv_has ls 7 [(0, .ref x), (1, .int v)] := hl
  obtain ⟨hxx, hsA, hrA, hSs, hRr, hIn, hn, hkk, hjs, hjr, hAne⟩ := id hXI
  refine lv_iconst (v := 0) hx hb d_RR_salesTo_0 (by decide) ?_
  refine lv_istore_n (lv' := [(2, .int 0), (0, .ref x), (1, .int v)]) hx hb d_RR_salesTo_1 rfl hl (by decide) rfl (fun ls hl => ?_)
  refine lv_aload_n hx hb d_RR_salesTo_2 rfl (lv_at hl 1 rfl) ?_
  refine z_get (ci := 0) (C := R_RR) (T := F_RR) (N := 5) hx hb hts j_RR hown hK hS hxx rfl 0 (by decide) (hk k_43 rfl) (fun _ h9 => h9) rfl d_RR_salesTo_3 ?_
  refine lv_astore_n (lv' := [(3, .ref sA), (2, .int 0), (0, .ref x), (1, .int v)]) hx hb d_RR_salesTo_6 rfl hl (by decide) rfl (fun ls hl => ?_)
  refine lv_aload_n hx hb d_RR_salesTo_7 rfl (lv_at hl 0 rfl) ?_
  refine z_alen hx hb hK hS 0 hsA rfl (v := 20) rfl d_RR_salesTo_8 ?_
  refine lv_istore (lv' := [(4, .int 20), (3, .ref sA), (2, .int 0), (0, .ref x), (1, .int v)]) hx hb d_RR_salesTo_9 hl (by decide) rfl (fun ls hl => ?_)
  refine lv_iconst (v := 0) hx hb d_RR_salesTo_11 (by decide) ?_
  refine lv_istore (lv' := [(5, .int 0), (4, .int 20), (3, .ref sA), (2, .int 0), (0, .ref x), (1, .int v)]) hx hb d_RR_salesTo_12 hl (by decide) rfl (fun ls hl => ?_)
  have hloop : ∀ (dd i : Nat) (t : Int32) (H : Heap) (ls : Array Slot), i + dd = 20 → t = z_sm (fun j => if j < n ∧ S j 1 = v then 1 else 0) i → z_Gr s.heap H → z_S D cls4 lo X s.heap X H [] → lv_has ls 7 [(0, .ref x), (1, .int v), (2, .int t), (3, .ref sA), (4, .int 20), (5, .int (nI i))] → W p l e zrB s m ([.ref x, .int v] : List Value).toArray below meth c H [] 0 0 (z_MQ below (z_pu (.inl (some (.int (z_sm (fun j => if j < n ∧ S j 1 = v then 1 else 0) 20))))) ([.ref x, .int v] : List Value).toArray s zrB.cells zrB.slots (fun _ => False)) (F0 m 14 ls []) := by
    intro dd
    induction dd with
    | zero =>
      intro i t H ls hi ht_t hg hS hl
      obtain rfl : i = 20 := by omega
      refine lv_iload hx hb d_RR_salesTo_14 (lv_at hl 5 rfl) ?_
      refine lv_iload hx hb d_RR_salesTo_16 (lv_at hl 4 rfl) ?_
      refine lv_icmp_ge (tgt := 50) hx hb d_RR_salesTo_18 (by decide) (fun c_1 => ?_) (fun c_1 => absurd (by decide) c_1)
      refine lv_iload_n hx hb d_RR_salesTo_50 rfl (lv_at hl 2 rfl) ?_
      exact z_Piret hx hb hr rfl hlk hg (by rw [ht_t]) (by decide) (by decide) d_RR_salesTo_51
    | succ dd ih =>
      intro i t H ls hi ht_t hg hS hl
      have hi20 : i < 20 := by omega
      refine lv_iload hx hb d_RR_salesTo_14 (lv_at hl 5 rfl) ?_
      refine lv_iload hx hb d_RR_salesTo_16 (lv_at hl 4 rfl) ?_
      refine lv_icmp_ge (tgt := 50) hx hb d_RR_salesTo_18 (by decide) (fun c_2 => absurd c_2 (nI_ge (b := 20) hi20 (by decide))) (fun c_2 => ?_)
      refine lv_aload_n hx hb d_RR_salesTo_21 rfl (lv_at hl 3 rfl) ?_
      refine lv_iload hx hb d_RR_salesTo_22 (lv_at hl 5 rfl) ?_
      by_cases hik : i < n
      · refine z_aald hx hb hK hS 0 hsA rfl (vp_in_nI hi20 (by decide)) d_RR_salesTo_24 (r := some (sd i)) (by simp only [nI_clamp (show i < 2 ^ 31 by omega), if_pos hik]) ?_
        refine lv_astore (lv' := [(6, .ref (sd i)), (0, .ref x), (1, .int v), (2, .int t), (3, .ref sA), (4, .int 20), (5, .int (nI i))]) hx hb d_RR_salesTo_25 hl (by decide) rfl (fun ls hl => ?_)
        refine lv_aload hx hb d_RR_salesTo_27 (lv_at hl 0 rfl) ?_
        refine lv_ifnull hx hb d_RR_salesTo_29 ?_
        refine lv_aload hx hb d_RR_salesTo_32 (lv_at hl 0 rfl) ?_
        refine z_get (ci := 1) (C := R_SA) (T := F_SA) (N := 6) hx hb hts j_SA hown hK hS (hSs i hik) rfl 1 (by decide) (hk k_193 rfl) (fun _ h9 => h9) rfl d_RR_salesTo_34 ?_
        refine lv_iload_n hx hb d_RR_salesTo_37 rfl (lv_at hl 2 rfl) ?_
        refine lv_icmp_ne (tgt := 44) hx hb d_RR_salesTo_38 (by decide) (fun c_3 => ?_) (fun c_3 => ?_)
        · refine lv_iinc (v := (nI i) + 1) (lv' := [(5, .int ((nI i) + 1)), (6, .ref (sd i)), (0, .ref x), (1, .int v), (2, .int t), (3, .ref sA), (4, .int 20)]) hx hb d_RR_salesTo_44 hl (k := 6) rfl rfl (by decide) rfl (fun ls hl => ?_)
          refine lv_goto (tgt := 14) hx hb d_RR_salesTo_47 (by decide) ?_
          exact ih (i + 1) t H ls (by omega) (by rw [z_smS, ← ht_t]; simp [hik, c_3]) hg hS (by rw [nI_1] at hl; exact lv_sub hl [2, 3, 4, 5, 6, 0] rfl)
        · refine lv_iinc (v := t + 1) (lv' := [(2, .int (t + 1)), (6, .ref (sd i)), (0, .ref x), (1, .int v), (3, .ref sA), (4, .int 20), (5, .int (nI i))]) hx hb d_RR_salesTo_41 hl (k := 3) rfl rfl (by decide) rfl (fun ls hl => ?_)
          refine lv_iinc (v := (nI i) + 1) (lv' := [(5, .int ((nI i) + 1)), (2, .int (t + 1)), (6, .ref (sd i)), (0, .ref x), (1, .int v), (3, .ref sA), (4, .int 20)]) hx hb d_RR_salesTo_44 hl (k := 6) rfl rfl (by decide) rfl (fun ls hl => ?_)
          refine lv_goto (tgt := 14) hx hb d_RR_salesTo_47 (by decide) ?_
          exact ih (i + 1) (t + 1) H ls (by omega) (by rw [z_smS, ← ht_t]; simp [hik, c_3]) hg hS (by rw [nI_1] at hl; exact lv_sub hl [3, 4, 1, 5, 6, 0] rfl)
      · refine z_aald hx hb hK hS 0 hsA rfl (vp_in_nI hi20 (by decide)) d_RR_salesTo_24 (r := none) (by simp only [nI_clamp (show i < 2 ^ 31 by omega), if_neg hik]) ?_
        refine lv_astoreN (lv' := [(6, .null), (0, .ref x), (1, .int v), (2, .int t), (3, .ref sA), (4, .int 20), (5, .int (nI i))]) hx hb d_RR_salesTo_25 hl (by decide) rfl (fun ls hl => ?_)
        refine lv_aloadN hx hb d_RR_salesTo_27 (lv_at hl 0 rfl) ?_
        refine lv_ifnullN (tgt := 44) hx hb d_RR_salesTo_29 (by decide) ?_
        refine lv_iinc (v := (nI i) + 1) (lv' := [(5, .int ((nI i) + 1)), (6, .null), (0, .ref x), (1, .int v), (2, .int t), (3, .ref sA), (4, .int 20)]) hx hb d_RR_salesTo_44 hl (k := 6) rfl rfl (by decide) rfl (fun ls hl => ?_)
        refine lv_goto (tgt := 14) hx hb d_RR_salesTo_47 (by decide) ?_
        exact ih (i + 1) t H ls (by omega) (by rw [z_smS, ← ht_t]; simp [hik]) hg hS (by rw [nI_1] at hl; exact lv_sub hl [2, 3, 4, 5, 6, 0] rfl)
  exact hloop 20 0 0 _ ls rfl rfl hg hS (lv_sub hl [4, 5, 3, 2, 1, 0] rfl)
set_option maxHeartbeats 4000000 in
set_option maxRecDepth 100000 in
theorem c_RR_recentReturnsOf (l : Launch) (hl9 : l.stackTraces = false) {D : va_G} {cS cR cJ cI cZ : ClassId} {lo tP : Nat} (v : Int32) {x sA rA n k : Nat} {td : Int32} {sd rd : Nat → Nat} {S : Nat → Nat → Int32} {I : Nat → Nat} {F : Nat → Nat → Int32} {X : zM} (hXI : XI x sA rA cS cR n k td sd rd S I F X) : z_P (z_G lo tP) D cls4 (zty cS cR cJ cI cZ) lo l y_RR_recentReturnsOf w_RR_recentReturnsOf zrB [.ref x, .int v] X (.inl (some (.int (z_sm (fun j => if j < k ∧ S (I j) 1 = v ∧ ¬ 30 < td - F j 2 then 1 else 0) 20)))) := by
  refine z_ofW (by decide) ?_
  intro p e s m args below meth c s₁ B hml hout hv
  obtain ⟨rfl, hG, hK, hW0, hXl, hlo⟩ := hv
  have hx := B.exec
  have hb := B.bytes
  have hr := B.returns
  have hlk := B.notSynchronized
  have hown : s.vm.findClass R_RR = some m.cls := findClass_of_methodNamed B.named
  have hts : ∀ w9 ∈ z_tb, w9.before ([.ref x, .int v] : List Value).toArray s = true := hG.ts _
  have hk : ∀ {w9 : Cond}, w9 ∈ lw_tbl → z_ok w9 = true → w9.before ([.ref x, .int v] : List Value).toArray s = true := fun h1 h2 => hG.w h1 h2 _
  have hg : z_Gr s.heap s.heap := z_Gr.rf
  have hS := z_S.start hW0 hXl hlo
  have hl := lv_entry ([.ref x, .int v]) (n := 7) (Nat.le_of_ble_eq_true rfl)
  rw [lg_entry_eq]
  generalize (lg_sl ([.ref x, .int v]) ++ List.replicate (7 - (lg_sl ([.ref x, .int v])).length) Slot.unset).toArray = ls at hl ⊢
  have hl : lv_has ls 7 [(0, .ref x), (1, .int v)] := hl
  obtain ⟨hxx, hsA, hrA, hSs, hRr, hIn, hn, hkk, hjs, hjr, hAne⟩ := id hXI
  refine lv_iconst (v := 0) hx hb d_RR_recentReturnsOf_0 (by decide) ?_
  refine lv_istore_n (lv' := [(2, .int 0), (0, .ref x), (1, .int v)]) hx hb d_RR_recentReturnsOf_1 rfl hl (by decide) rfl (fun ls hl => ?_)
  refine lv_aload_n hx hb d_RR_recentReturnsOf_2 rfl (lv_at hl 1 rfl) ?_
  refine z_get (ci := 0) (C := R_RR) (T := F_RR) (N := 5) hx hb hts j_RR hown hK hS hxx rfl 1 (by decide) (hk k_44 rfl) (fun _ h9 => h9) rfl d_RR_recentReturnsOf_3 ?_
  refine lv_astore_n (lv' := [(3, .ref rA), (2, .int 0), (0, .ref x), (1, .int v)]) hx hb d_RR_recentReturnsOf_6 rfl hl (by decide) rfl (fun ls hl => ?_)
  refine lv_aload_n hx hb d_RR_recentReturnsOf_7 rfl (lv_at hl 0 rfl) ?_
  refine z_alen hx hb hK hS 1 hrA rfl (v := 20) rfl d_RR_recentReturnsOf_8 ?_
  refine lv_istore (lv' := [(4, .int 20), (3, .ref rA), (2, .int 0), (0, .ref x), (1, .int v)]) hx hb d_RR_recentReturnsOf_9 hl (by decide) rfl (fun ls hl => ?_)
  refine lv_iconst (v := 0) hx hb d_RR_recentReturnsOf_11 (by decide) ?_
  refine lv_istore (lv' := [(5, .int 0), (4, .int 20), (3, .ref rA), (2, .int 0), (0, .ref x), (1, .int v)]) hx hb d_RR_recentReturnsOf_12 hl (by decide) rfl (fun ls hl => ?_)
  have hloop : ∀ (dd i : Nat) (t : Int32) (H : Heap) (ls : Array Slot), i + dd = 20 → t = z_sm (fun j => if j < k ∧ S (I j) 1 = v ∧ ¬ 30 < td - F j 2 then 1 else 0) i → z_Gr s.heap H → z_S D cls4 lo X s.heap X H [] → lv_has ls 7 [(0, .ref x), (1, .int v), (2, .int t), (3, .ref rA), (4, .int 20), (5, .int (nI i))] → W p l e zrB s m ([.ref x, .int v] : List Value).toArray below meth c H [] 0 0 (z_MQ below (z_pu (.inl (some (.int (z_sm (fun j => if j < k ∧ S (I j) 1 = v ∧ ¬ 30 < td - F j 2 then 1 else 0) 20))))) ([.ref x, .int v] : List Value).toArray s zrB.cells zrB.slots (fun _ => False)) (F0 m 14 ls []) := by
    intro dd
    induction dd with
    | zero =>
      intro i t H ls hi ht_t hg hS hl
      obtain rfl : i = 20 := by omega
      refine lv_iload hx hb d_RR_recentReturnsOf_14 (lv_at hl 5 rfl) ?_
      refine lv_iload hx hb d_RR_recentReturnsOf_16 (lv_at hl 4 rfl) ?_
      refine lv_icmp_ge (tgt := 68) hx hb d_RR_recentReturnsOf_18 (by decide) (fun c_1 => ?_) (fun c_1 => absurd (by decide) c_1)
      refine lv_iload_n hx hb d_RR_recentReturnsOf_68 rfl (lv_at hl 2 rfl) ?_
      exact z_Piret hx hb hr rfl hlk hg (by rw [ht_t]) (by decide) (by decide) d_RR_recentReturnsOf_69
    | succ dd ih =>
      intro i t H ls hi ht_t hg hS hl
      have hi20 : i < 20 := by omega
      refine lv_iload hx hb d_RR_recentReturnsOf_14 (lv_at hl 5 rfl) ?_
      refine lv_iload hx hb d_RR_recentReturnsOf_16 (lv_at hl 4 rfl) ?_
      refine lv_icmp_ge (tgt := 68) hx hb d_RR_recentReturnsOf_18 (by decide) (fun c_2 => absurd c_2 (nI_ge (b := 20) hi20 (by decide))) (fun c_2 => ?_)
      refine lv_aload_n hx hb d_RR_recentReturnsOf_21 rfl (lv_at hl 3 rfl) ?_
      refine lv_iload hx hb d_RR_recentReturnsOf_22 (lv_at hl 5 rfl) ?_
      by_cases hik : i < k
      · refine z_aald hx hb hK hS 1 hrA rfl (vp_in_nI hi20 (by decide)) d_RR_recentReturnsOf_24 (r := some (rd i)) (by simp only [nI_clamp (show i < 2 ^ 31 by omega), if_pos hik]) ?_
        refine lv_astore (lv' := [(6, .ref (rd i)), (0, .ref x), (1, .int v), (2, .int t), (3, .ref rA), (4, .int 20), (5, .int (nI i))]) hx hb d_RR_recentReturnsOf_25 hl (by decide) rfl (fun ls hl => ?_)
        refine lv_aload hx hb d_RR_recentReturnsOf_27 (lv_at hl 0 rfl) ?_
        refine lv_ifnull hx hb d_RR_recentReturnsOf_29 ?_
        refine lv_aload hx hb d_RR_recentReturnsOf_32 (lv_at hl 0 rfl) ?_
        refine z_get (ci := 2) (C := R_RE) (T := F_RE) (N := 15) hx hb hts j_RE hown hK hS (hRr i hik) rfl 0 (by decide) (hk k_266 rfl) (fun _ h9 => h9) rfl d_RR_recentReturnsOf_34 ?_
        refine z_get (ci := 1) (C := R_SA) (T := F_SA) (N := 6) hx hb hts j_SA hown hK hS (hSs (I i) (hIn i hik)) rfl 1 (by decide) (hk k_193 rfl) (fun _ h9 => h9) rfl d_RR_recentReturnsOf_37 ?_
        refine lv_iload_n hx hb d_RR_recentReturnsOf_40 rfl (lv_at hl 2 rfl) ?_
        refine lv_icmp_ne (tgt := 62) hx hb d_RR_recentReturnsOf_41 (by decide) (fun c_3 => ?_) (fun c_3 => ?_)
        · refine lv_iinc (v := (nI i) + 1) (lv' := [(5, .int ((nI i) + 1)), (6, .ref (rd i)), (0, .ref x), (1, .int v), (2, .int t), (3, .ref rA), (4, .int 20)]) hx hb d_RR_recentReturnsOf_62 hl (k := 6) rfl rfl (by decide) rfl (fun ls hl => ?_)
          refine lv_goto (tgt := 14) hx hb d_RR_recentReturnsOf_65 (by decide) ?_
          exact ih (i + 1) t H ls (by omega) (by rw [z_smS, ← ht_t]; simp [hik, c_3]) hg hS (by rw [nI_1] at hl; exact lv_sub hl [2, 3, 4, 5, 6, 0] rfl)
        · refine lv_aload_n hx hb d_RR_recentReturnsOf_44 rfl (lv_at hl 1 rfl) ?_
          refine z_get (ci := 0) (C := R_RR) (T := F_RR) (N := 5) hx hb hts j_RR hown hK hS hxx rfl 4 (by decide) (hk k_47 rfl) (fun _ h9 => h9) rfl d_RR_recentReturnsOf_45 ?_
          refine lv_aload hx hb d_RR_recentReturnsOf_48 (lv_at hl 0 rfl) ?_
          refine z_get (ci := 2) (C := R_RE) (T := F_RE) (N := 15) hx hb hts j_RE hown hK hS (hRr i hik) rfl 2 (by decide) (hk k_270 rfl) (fun _ h9 => h9) rfl d_RR_recentReturnsOf_50 ?_
          refine lv_isub hx hb d_RR_recentReturnsOf_53 ?_
          refine lv_bipush (v := 30) hx hb d_RR_recentReturnsOf_54 (by decide) ?_
          refine lv_icmp_gt (tgt := 62) hx hb d_RR_recentReturnsOf_56 (by decide) (fun c_4 => ?_) (fun c_4 => ?_)
          · refine lv_iinc (v := (nI i) + 1) (lv' := [(5, .int ((nI i) + 1)), (6, .ref (rd i)), (0, .ref x), (1, .int v), (2, .int t), (3, .ref rA), (4, .int 20)]) hx hb d_RR_recentReturnsOf_62 hl (k := 6) rfl rfl (by decide) rfl (fun ls hl => ?_)
            refine lv_goto (tgt := 14) hx hb d_RR_recentReturnsOf_65 (by decide) ?_
            exact ih (i + 1) t H ls (by omega) (by rw [z_smS, ← ht_t]; simp [hik, c_3, c_4]) hg hS (by rw [nI_1] at hl; exact lv_sub hl [2, 3, 4, 5, 6, 0] rfl)
          · refine lv_iinc (v := t + 1) (lv' := [(2, .int (t + 1)), (6, .ref (rd i)), (0, .ref x), (1, .int v), (3, .ref rA), (4, .int 20), (5, .int (nI i))]) hx hb d_RR_recentReturnsOf_59 hl (k := 3) rfl rfl (by decide) rfl (fun ls hl => ?_)
            refine lv_iinc (v := (nI i) + 1) (lv' := [(5, .int ((nI i) + 1)), (2, .int (t + 1)), (6, .ref (rd i)), (0, .ref x), (1, .int v), (3, .ref rA), (4, .int 20)]) hx hb d_RR_recentReturnsOf_62 hl (k := 6) rfl rfl (by decide) rfl (fun ls hl => ?_)
            refine lv_goto (tgt := 14) hx hb d_RR_recentReturnsOf_65 (by decide) ?_
            exact ih (i + 1) (t + 1) H ls (by omega) (by rw [z_smS, ← ht_t]; simp [hik, c_3, c_4]) hg hS (by rw [nI_1] at hl; exact lv_sub hl [3, 4, 1, 5, 6, 0] rfl)
      · refine z_aald hx hb hK hS 1 hrA rfl (vp_in_nI hi20 (by decide)) d_RR_recentReturnsOf_24 (r := none) (by simp only [nI_clamp (show i < 2 ^ 31 by omega), if_neg hik]) ?_
        refine lv_astoreN (lv' := [(6, .null), (0, .ref x), (1, .int v), (2, .int t), (3, .ref rA), (4, .int 20), (5, .int (nI i))]) hx hb d_RR_recentReturnsOf_25 hl (by decide) rfl (fun ls hl => ?_)
        refine lv_aloadN hx hb d_RR_recentReturnsOf_27 (lv_at hl 0 rfl) ?_
        refine lv_ifnullN (tgt := 62) hx hb d_RR_recentReturnsOf_29 (by decide) ?_
        refine lv_iinc (v := (nI i) + 1) (lv' := [(5, .int ((nI i) + 1)), (6, .null), (0, .ref x), (1, .int v), (2, .int t), (3, .ref rA), (4, .int 20)]) hx hb d_RR_recentReturnsOf_62 hl (k := 6) rfl rfl (by decide) rfl (fun ls hl => ?_)
        refine lv_goto (tgt := 14) hx hb d_RR_recentReturnsOf_65 (by decide) ?_
        exact ih (i + 1) t H ls (by omega) (by rw [z_smS, ← ht_t]; simp [hik]) hg hS (by rw [nI_1] at hl; exact lv_sub hl [2, 3, 4, 5, 6, 0] rfl)
  exact hloop 20 0 0 _ ls rfl rfl hg hS (lv_sub hl [4, 5, 3, 2, 1, 0] rfl)
theorem z_cu0 {b v : Int32} {k : Nat} {F : Nat → Nat → Int32} (h : (b = 1 ∧ ∃ j, j < k ∧ F j 14 = v) ∨ (b = 0 ∧ ∀ j, j < k → ¬ F j 14 = v)) (hn : ∀ j, j < k → ¬ F j 14 = v) : (.inl (some (.int b)) : zR) = .inl (some (.int 0)) := by
  rcases h with ⟨-, j, hj, hv⟩ | ⟨rfl, -⟩
  · exact absurd hv (hn j hj)
  · rfl
theorem z_cu1 {b v : Int32} {k i : Nat} {F : Nat → Nat → Int32} (h : (b = 1 ∧ ∃ j, j < k ∧ F j 14 = v) ∨ (b = 0 ∧ ∀ j, j < k → ¬ F j 14 = v)) (hi : i < k) (hv : F i 14 = v) : (.inl (some (.int b)) : zR) = .inl (some (.int 1)) := by
  rcases h with ⟨rfl, -⟩ | ⟨-, hn⟩
  · rfl
  · exact absurd hv (hn i hi)
set_option maxHeartbeats 4000000 in
set_option maxRecDepth 100000 in
theorem c_RR_isCertificateUsed (l : Launch) (hl9 : l.stackTraces = false) {D : va_G} {cS cR cJ cI cZ : ClassId} {lo tP : Nat} (v b : Int32) {x sA rA n k : Nat} {td : Int32} {sd rd : Nat → Nat} {S : Nat → Nat → Int32} {I : Nat → Nat} {F : Nat → Nat → Int32} {X : zM} (hXI : XI x sA rA cS cR n k td sd rd S I F X) (hbv : (b = 1 ∧ ∃ j, j < k ∧ F j 14 = v) ∨ (b = 0 ∧ ∀ j, j < k → ¬ F j 14 = v)) : z_P (z_G lo tP) D cls4 (zty cS cR cJ cI cZ) lo l y_RR_isCertificateUsed w_RR_isCertificateUsed zrB [.ref x, .int v] X (.inl (some (.int b))) := by
  refine z_ofW (by decide) ?_
  intro p e s m args below meth c s₁ B hml hout hv
  obtain ⟨rfl, hG, hK, hW0, hXl, hlo⟩ := hv
  have hx := B.exec
  have hb := B.bytes
  have hr := B.returns
  have hlk := B.notSynchronized
  have hown : s.vm.findClass R_RR = some m.cls := findClass_of_methodNamed B.named
  have hts : ∀ w9 ∈ z_tb, w9.before ([.ref x, .int v] : List Value).toArray s = true := hG.ts _
  have hk : ∀ {w9 : Cond}, w9 ∈ lw_tbl → z_ok w9 = true → w9.before ([.ref x, .int v] : List Value).toArray s = true := fun h1 h2 => hG.w h1 h2 _
  have hg : z_Gr s.heap s.heap := z_Gr.rf
  have hS := z_S.start hW0 hXl hlo
  have hl := lv_entry ([.ref x, .int v]) (n := 6) (Nat.le_of_ble_eq_true rfl)
  rw [lg_entry_eq]
  generalize (lg_sl ([.ref x, .int v]) ++ List.replicate (6 - (lg_sl ([.ref x, .int v])).length) Slot.unset).toArray = ls at hl ⊢
  have hl : lv_has ls 6 [(0, .ref x), (1, .int v)] := hl
  obtain ⟨hxx, hsA, hrA, hSs, hRr, hIn, hn, hkk, hjs, hjr, hAne⟩ := id hXI
  refine lv_aload_n hx hb d_RR_isCertificateUsed_0 rfl (lv_at hl 0 rfl) ?_
  refine z_get (ci := 0) (C := R_RR) (T := F_RR) (N := 5) hx hb hts j_RR hown hK hS hxx rfl 1 (by decide) (hk k_44 rfl) (fun _ h9 => h9) rfl d_RR_isCertificateUsed_1 ?_
  refine lv_astore_n (lv' := [(2, .ref rA), (0, .ref x), (1, .int v)]) hx hb d_RR_isCertificateUsed_4 rfl hl (by decide) rfl (fun ls hl => ?_)
  refine lv_aload_n hx hb d_RR_isCertificateUsed_5 rfl (lv_at hl 0 rfl) ?_
  refine z_alen hx hb hK hS 1 hrA rfl (v := 20) rfl d_RR_isCertificateUsed_6 ?_
  refine lv_istore_n (lv' := [(3, .int 20), (2, .ref rA), (0, .ref x), (1, .int v)]) hx hb d_RR_isCertificateUsed_7 rfl hl (by decide) rfl (fun ls hl => ?_)
  refine lv_iconst (v := 0) hx hb d_RR_isCertificateUsed_8 (by decide) ?_
  refine lv_istore (lv' := [(4, .int 0), (3, .int 20), (2, .ref rA), (0, .ref x), (1, .int v)]) hx hb d_RR_isCertificateUsed_9 hl (by decide) rfl (fun ls hl => ?_)
  have hloop : ∀ (dd i : Nat) (H : Heap) (ls : Array Slot), i + dd = 20 → (∀ j, j < i → j < k → ¬ F j 14 = v) → z_Gr s.heap H → z_S D cls4 lo X s.heap X H [] → lv_has ls 6 [(0, .ref x), (1, .int v), (2, .ref rA), (3, .int 20), (4, .int (nI i))] → W p l e zrB s m ([.ref x, .int v] : List Value).toArray below meth c H [] 0 0 (z_MQ below (z_pu (.inl (some (.int b)))) ([.ref x, .int v] : List Value).toArray s zrB.cells zrB.slots (fun _ => False)) (F0 m 11 ls []) := by
    intro dd
    induction dd with
    | zero =>
      intro i H ls hi hex hg hS hl
      obtain rfl : i = 20 := by omega
      refine lv_iload hx hb d_RR_isCertificateUsed_11 (lv_at hl 4 rfl) ?_
      refine lv_iload_n hx hb d_RR_isCertificateUsed_13 rfl (lv_at hl 3 rfl) ?_
      refine lv_icmp_ge (tgt := 45) hx hb d_RR_isCertificateUsed_14 (by decide) (fun c_1 => ?_) (fun c_1 => absurd (by decide) c_1)
      refine lv_iconst (v := 0) hx hb d_RR_isCertificateUsed_45 (by decide) ?_
      exact z_Piret hx hb hr rfl hlk hg (z_cu0 hbv (fun j hj => hex j (by omega) hj)) (by decide) (by decide) d_RR_isCertificateUsed_46
    | succ dd ih =>
      intro i H ls hi hex hg hS hl
      have hi20 : i < 20 := by omega
      refine lv_iload hx hb d_RR_isCertificateUsed_11 (lv_at hl 4 rfl) ?_
      refine lv_iload_n hx hb d_RR_isCertificateUsed_13 rfl (lv_at hl 3 rfl) ?_
      refine lv_icmp_ge (tgt := 45) hx hb d_RR_isCertificateUsed_14 (by decide) (fun c_2 => absurd c_2 (nI_ge (b := 20) hi20 (by decide))) (fun c_2 => ?_)
      refine lv_aload_n hx hb d_RR_isCertificateUsed_17 rfl (lv_at hl 2 rfl) ?_
      refine lv_iload hx hb d_RR_isCertificateUsed_18 (lv_at hl 4 rfl) ?_
      by_cases hik : i < k
      · refine z_aald hx hb hK hS 1 hrA rfl (vp_in_nI hi20 (by decide)) d_RR_isCertificateUsed_20 (r := some (rd i)) (by simp only [nI_clamp (show i < 2 ^ 31 by omega), if_pos hik]) ?_
        refine lv_astore (lv' := [(5, .ref (rd i)), (0, .ref x), (1, .int v), (2, .ref rA), (3, .int 20), (4, .int (nI i))]) hx hb d_RR_isCertificateUsed_21 hl (by decide) rfl (fun ls hl => ?_)
        refine lv_aload hx hb d_RR_isCertificateUsed_23 (lv_at hl 0 rfl) ?_
        refine lv_ifnull hx hb d_RR_isCertificateUsed_25 ?_
        refine lv_aload hx hb d_RR_isCertificateUsed_28 (lv_at hl 0 rfl) ?_
        refine z_get (ci := 2) (C := R_RE) (T := F_RE) (N := 15) hx hb hts j_RE hown hK hS (hRr i hik) rfl 14 (by decide) (hk k_291 rfl) (fun _ h9 => h9) rfl d_RR_isCertificateUsed_30 ?_
        refine lv_iload_n hx hb d_RR_isCertificateUsed_33 rfl (lv_at hl 2 rfl) ?_
        refine lv_icmp_ne (tgt := 39) hx hb d_RR_isCertificateUsed_34 (by decide) (fun c_3 => ?_) (fun c_3 => ?_)
        · refine lv_iinc (v := (nI i) + 1) (lv' := [(4, .int ((nI i) + 1)), (5, .ref (rd i)), (0, .ref x), (1, .int v), (2, .ref rA), (3, .int 20)]) hx hb d_RR_isCertificateUsed_39 hl (k := 5) rfl rfl (by decide) rfl (fun ls hl => ?_)
          refine lv_goto (tgt := 11) hx hb d_RR_isCertificateUsed_42 (by decide) ?_
          exact ih (i + 1) H ls (by omega) (fun j hj hjk => by rcases Nat.lt_succ_iff_lt_or_eq.mp hj with h | h; exact hex j h hjk; rw [h]; exact c_3) hg hS (by rw [nI_1] at hl; exact lv_sub hl [2, 3, 4, 5, 0] rfl)
        · refine lv_iconst (v := 1) hx hb d_RR_isCertificateUsed_37 (by decide) ?_
          exact z_Piret hx hb hr rfl hlk hg (z_cu1 hbv hik c_3) (by decide) (by decide) d_RR_isCertificateUsed_38
      · refine z_aald hx hb hK hS 1 hrA rfl (vp_in_nI hi20 (by decide)) d_RR_isCertificateUsed_20 (r := none) (by simp only [nI_clamp (show i < 2 ^ 31 by omega), if_neg hik]) ?_
        refine lv_astoreN (lv' := [(5, .null), (0, .ref x), (1, .int v), (2, .ref rA), (3, .int 20), (4, .int (nI i))]) hx hb d_RR_isCertificateUsed_21 hl (by decide) rfl (fun ls hl => ?_)
        refine lv_aloadN hx hb d_RR_isCertificateUsed_23 (lv_at hl 0 rfl) ?_
        refine lv_ifnullN (tgt := 39) hx hb d_RR_isCertificateUsed_25 (by decide) ?_
        refine lv_iinc (v := (nI i) + 1) (lv' := [(4, .int ((nI i) + 1)), (5, .null), (0, .ref x), (1, .int v), (2, .ref rA), (3, .int 20)]) hx hb d_RR_isCertificateUsed_39 hl (k := 5) rfl rfl (by decide) rfl (fun ls hl => ?_)
        refine lv_goto (tgt := 11) hx hb d_RR_isCertificateUsed_42 (by decide) ?_
        exact ih (i + 1) H ls (by omega) (fun j hj hjk => by rcases Nat.lt_succ_iff_lt_or_eq.mp hj with h | h; exact hex j h hjk; exact absurd (h ▸ hjk) hik) hg hS (by rw [nI_1] at hl; exact lv_sub hl [2, 3, 4, 5, 0] rfl)
  exact hloop 20 0 _ ls rfl (fun j hj => absurd hj (Nat.not_lt_zero j)) hg hS (lv_sub hl [3, 4, 2, 1, 0] rfl)
set_option maxHeartbeats 4000000 in
set_option maxRecDepth 100000 in
theorem c_RR_sum (l : Launch) (hl9 : l.stackTraces = false) {D : va_G} {cS cR cJ cI cZ : ClassId} {lo tP : Nat} (μ : (Nat → Int32) → Int32) (q u w : Int32) (hμ : ∀ {X : zM} (row a : Nat) (f : Nat → Int32), X row = some (.inr (2, rowR a f)) → z_P (z_G lo tP) D cls4 (zty cS cR cJ cI cZ) lo l y_RE_measured w_RE_measured zrA [.ref row, .int q] X (.inl (some (.int (μ f))))) {x sA rA n k : Nat} {td : Int32} {sd rd : Nat → Nat} {S : Nat → Nat → Int32} {I : Nat → Nat} {F : Nat → Nat → Int32} {X : zM} (hXI : XI x sA rA cS cR n k td sd rd S I F X) : z_P (z_G lo tP) D cls4 (zty cS cR cJ cI cZ) lo l y_RR_sum w_RR_sum zrB [.ref x, .int q, .int u, .int w] X (.inl (some (.int (z_sm (fun j => if j < k ∧ z_of u w (S (I j)) (F j) then μ (F j) else 0) 20)))) := by
  refine z_ofW (by decide) ?_
  intro p e s m args below meth c s₁ B hml hout hv
  obtain ⟨rfl, hG, hK, hW0, hXl, hlo⟩ := hv
  have hx := B.exec
  have hb := B.bytes
  have hr := B.returns
  have hlk := B.notSynchronized
  have hown : s.vm.findClass R_RR = some m.cls := findClass_of_methodNamed B.named
  have hts : ∀ w9 ∈ z_tb, w9.before ([.ref x, .int q, .int u, .int w] : List Value).toArray s = true := hG.ts _
  have hk : ∀ {w9 : Cond}, w9 ∈ lw_tbl → z_ok w9 = true → w9.before ([.ref x, .int q, .int u, .int w] : List Value).toArray s = true := fun h1 h2 => hG.w h1 h2 _
  have hg : z_Gr s.heap s.heap := z_Gr.rf
  have hS := z_S.start hW0 hXl hlo
  have hl := lv_entry ([.ref x, .int q, .int u, .int w]) (n := 9) (Nat.le_of_ble_eq_true rfl)
  rw [lg_entry_eq]
  generalize (lg_sl ([.ref x, .int q, .int u, .int w]) ++ List.replicate (9 - (lg_sl ([.ref x, .int q, .int u, .int w])).length) Slot.unset).toArray = ls at hl ⊢
  have hl : lv_has ls 9 [(0, .ref x), (1, .int q), (2, .int u), (3, .int w)] := hl
  obtain ⟨hxx, hsA, hrA, hSs, hRr, hIn, hn, hkk, hjs, hjr, hAne⟩ := id hXI
  refine lv_iconst (v := 0) hx hb d_RR_sum_0 (by decide) ?_
  refine lv_istore (lv' := [(4, .int 0), (0, .ref x), (1, .int q), (2, .int u), (3, .int w)]) hx hb d_RR_sum_1 hl (by decide) rfl (fun ls hl => ?_)
  refine lv_aload_n hx hb d_RR_sum_3 rfl (lv_at hl 1 rfl) ?_
  refine z_get (ci := 0) (C := R_RR) (T := F_RR) (N := 5) hx hb hts j_RR hown hK hS hxx rfl 1 (by decide) (hk k_44 rfl) (fun _ h9 => h9) rfl d_RR_sum_4 ?_
  refine lv_astore (lv' := [(5, .ref rA), (4, .int 0), (0, .ref x), (1, .int q), (2, .int u), (3, .int w)]) hx hb d_RR_sum_7 hl (by decide) rfl (fun ls hl => ?_)
  refine lv_aload hx hb d_RR_sum_9 (lv_at hl 0 rfl) ?_
  refine z_alen hx hb hK hS 1 hrA rfl (v := 20) rfl d_RR_sum_11 ?_
  refine lv_istore (lv' := [(6, .int 20), (5, .ref rA), (4, .int 0), (0, .ref x), (1, .int q), (2, .int u), (3, .int w)]) hx hb d_RR_sum_12 hl (by decide) rfl (fun ls hl => ?_)
  refine lv_iconst (v := 0) hx hb d_RR_sum_14 (by decide) ?_
  refine lv_istore (lv' := [(7, .int 0), (6, .int 20), (5, .ref rA), (4, .int 0), (0, .ref x), (1, .int q), (2, .int u), (3, .int w)]) hx hb d_RR_sum_15 hl (by decide) rfl (fun ls hl => ?_)
  have hloop : ∀ (dd i : Nat) (t : Int32) (H : Heap) (ls : Array Slot), i + dd = 20 → t = z_sm (fun j => if j < k ∧ z_of u w (S (I j)) (F j) then μ (F j) else 0) i → z_Gr s.heap H → z_S D cls4 lo X s.heap X H [] → lv_has ls 9 [(0, .ref x), (1, .int q), (2, .int u), (3, .int w), (4, .int t), (5, .ref rA), (6, .int 20), (7, .int (nI i))] → W p l e zrB s m ([.ref x, .int q, .int u, .int w] : List Value).toArray below meth c H [] 0 0 (z_MQ below (z_pu (.inl (some (.int (z_sm (fun j => if j < k ∧ z_of u w (S (I j)) (F j) then μ (F j) else 0) 20))))) ([.ref x, .int q, .int u, .int w] : List Value).toArray s zrB.cells zrB.slots (fun _ => False)) (F0 m 17 ls []) := by
    intro dd
    induction dd with
    | zero =>
      intro i t H ls hi ht_t hg hS hl
      obtain rfl : i = 20 := by omega
      refine lv_iload hx hb d_RR_sum_17 (lv_at hl 7 rfl) ?_
      refine lv_iload hx hb d_RR_sum_19 (lv_at hl 6 rfl) ?_
      refine lv_icmp_ge (tgt := 63) hx hb d_RR_sum_21 (by decide) (fun c_1 => ?_) (fun c_1 => absurd (by decide) c_1)
      refine lv_iload hx hb d_RR_sum_63 (lv_at hl 4 rfl) ?_
      exact z_Piret hx hb hr rfl hlk hg (by rw [ht_t]) (by decide) (by decide) d_RR_sum_65
    | succ dd ih =>
      intro i t H ls hi ht_t hg hS hl
      have hi20 : i < 20 := by omega
      refine lv_iload hx hb d_RR_sum_17 (lv_at hl 7 rfl) ?_
      refine lv_iload hx hb d_RR_sum_19 (lv_at hl 6 rfl) ?_
      refine lv_icmp_ge (tgt := 63) hx hb d_RR_sum_21 (by decide) (fun c_2 => absurd c_2 (nI_ge (b := 20) hi20 (by decide))) (fun c_2 => ?_)
      refine lv_aload hx hb d_RR_sum_24 (lv_at hl 5 rfl) ?_
      refine lv_iload hx hb d_RR_sum_26 (lv_at hl 7 rfl) ?_
      by_cases hik : i < k
      · refine z_aald hx hb hK hS 1 hrA rfl (vp_in_nI hi20 (by decide)) d_RR_sum_28 (r := some (rd i)) (by simp only [nI_clamp (show i < 2 ^ 31 by omega), if_pos hik]) ?_
        refine lv_astore (lv' := [(8, .ref (rd i)), (0, .ref x), (1, .int q), (2, .int u), (3, .int w), (4, .int t), (5, .ref rA), (6, .int 20), (7, .int (nI i))]) hx hb d_RR_sum_29 hl (by decide) rfl (fun ls hl => ?_)
        refine lv_aload hx hb d_RR_sum_31 (lv_at hl 0 rfl) ?_
        refine lv_ifnull hx hb d_RR_sum_33 ?_
        refine lv_aload hx hb d_RR_sum_36 (lv_at hl 0 rfl) ?_
        refine lv_iload_n hx hb d_RR_sum_38 rfl (lv_at hl 3 rfl) ?_
        refine lv_iload_n hx hb d_RR_sum_39 rfl (lv_at hl 4 rfl) ?_
        refine z_pi (n_RR_RE_isOf hx hown hG (va_recv hK (hS.1.one (hRr i hik)) (ci := 2) (q0 := 0) rfl rfl) (by rw [hb]; exact d_RR_sum_40)) hb (hl.1.trans hml.symm) (c_RE_isOf l hl9 u w (rd i) (sd (I i)) (F i) (hRr i hik) (I i) (S (I i)) (hSs (I i) (hIn i hik))) (rfl) (z_Gkeeps lo tP) hG hK hS (cw_RE_isOf hG (by decide) (by decide)) d_RR_sum_40 (Nat.le_of_ble_eq_true rfl) (by decide) (by decide) (fun H hq hS => ?_)
        have hg := hg.tr hq
        by_cases hof : z_of u w (S (I i)) (F i)
        · rw [if_pos hof]
          refine lv_if_eq (tgt := 57) hx hb d_RR_sum_43 (by decide) (fun c_3 => absurd c_3 (by decide)) (fun c_3 => ?_)
          refine lv_iload hx hb d_RR_sum_46 (lv_at hl 5 rfl) ?_
          refine lv_aload hx hb d_RR_sum_48 (lv_at hl 0 rfl) ?_
          refine lv_iload_n hx hb d_RR_sum_50 rfl (lv_at hl 2 rfl) ?_
          refine z_pi (n_RR_RE_measured hx hown hG (va_recv hK (hS.1.one (hRr i hik)) (ci := 2) (q0 := 0) rfl rfl) (by rw [hb]; exact d_RR_sum_51)) hb (hl.1.trans hml.symm) (hμ (rd i) (sd (I i)) (F i) (hRr i hik)) (rfl) (z_Gkeeps lo tP) hG hK hS (cw_RE_measured hG (by decide) (by decide)) d_RR_sum_51 (Nat.le_of_ble_eq_true rfl) (by decide) (by decide) (fun H hq hS => ?_)
          have hg := hg.tr hq
          refine lv_iadd hx hb d_RR_sum_54 ?_
          refine lv_istore (lv' := [(4, .int (t + (μ (F i)))), (8, .ref (rd i)), (0, .ref x), (1, .int q), (2, .int u), (3, .int w), (5, .ref rA), (6, .int 20), (7, .int (nI i))]) hx hb d_RR_sum_55 hl (by decide) rfl (fun ls hl => ?_)
          refine lv_iinc (v := (nI i) + 1) (lv' := [(7, .int ((nI i) + 1)), (4, .int (t + (μ (F i)))), (8, .ref (rd i)), (0, .ref x), (1, .int q), (2, .int u), (3, .int w), (5, .ref rA), (6, .int 20)]) hx hb d_RR_sum_57 hl (k := 8) rfl rfl (by decide) rfl (fun ls hl => ?_)
          refine lv_goto (tgt := 17) hx hb d_RR_sum_60 (by decide) ?_
          exact ih (i + 1) (t + (μ (F i))) H ls (by omega) (by rw [z_smS, ← ht_t]; simp [hik, hof]) hg hS (by rw [nI_1] at hl; exact lv_sub hl [3, 4, 5, 6, 1, 7, 8, 0] rfl)
        · rw [if_neg hof]
          refine lv_if_eq (tgt := 57) hx hb d_RR_sum_43 (by decide) (fun c_4 => ?_) (fun c_4 => absurd (by decide) c_4)
          refine lv_iinc (v := (nI i) + 1) (lv' := [(7, .int ((nI i) + 1)), (8, .ref (rd i)), (0, .ref x), (1, .int q), (2, .int u), (3, .int w), (4, .int t), (5, .ref rA), (6, .int 20)]) hx hb d_RR_sum_57 hl (k := 8) rfl rfl (by decide) rfl (fun ls hl => ?_)
          refine lv_goto (tgt := 17) hx hb d_RR_sum_60 (by decide) ?_
          exact ih (i + 1) t H ls (by omega) (by rw [z_smS, ← ht_t]; simp [hik, hof]) hg hS (by rw [nI_1] at hl; exact lv_sub hl [2, 3, 4, 5, 6, 7, 8, 0] rfl)
      · refine z_aald hx hb hK hS 1 hrA rfl (vp_in_nI hi20 (by decide)) d_RR_sum_28 (r := none) (by simp only [nI_clamp (show i < 2 ^ 31 by omega), if_neg hik]) ?_
        refine lv_astoreN (lv' := [(8, .null), (0, .ref x), (1, .int q), (2, .int u), (3, .int w), (4, .int t), (5, .ref rA), (6, .int 20), (7, .int (nI i))]) hx hb d_RR_sum_29 hl (by decide) rfl (fun ls hl => ?_)
        refine lv_aloadN hx hb d_RR_sum_31 (lv_at hl 0 rfl) ?_
        refine lv_ifnullN (tgt := 57) hx hb d_RR_sum_33 (by decide) ?_
        refine lv_iinc (v := (nI i) + 1) (lv' := [(7, .int ((nI i) + 1)), (8, .null), (0, .ref x), (1, .int q), (2, .int u), (3, .int w), (4, .int t), (5, .ref rA), (6, .int 20)]) hx hb d_RR_sum_57 hl (k := 8) rfl rfl (by decide) rfl (fun ls hl => ?_)
        refine lv_goto (tgt := 17) hx hb d_RR_sum_60 (by decide) ?_
        exact ih (i + 1) t H ls (by omega) (by rw [z_smS, ← ht_t]; simp [hik]) hg hS (by rw [nI_1] at hl; exact lv_sub hl [2, 3, 4, 5, 6, 7, 8, 0] rfl)
  exact hloop 20 0 0 _ ls rfl rfl hg hS (lv_sub hl [4, 5, 6, 7, 3, 2, 1, 0] rfl)
