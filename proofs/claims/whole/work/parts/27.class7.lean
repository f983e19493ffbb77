/-! ===== what a sale and a return add ===== -/
def zsl (c p l td : Int32) : Nat → Int32 := fun q => if q = 1 then c else if q = 2 then p else if q = 3 then l else if q = 4 then td else 0
def zrt (why st td : Int32) : Nat → Int32 := fun q => if q = 1 then why else if q = 2 then td else if q = 3 then st else if q = 4 then -1 else if q = 8 then -1 else if q = 9 then -1 else if q = 10 then -1 else 0
def zui (f : Nat → Nat) (j v : Nat) : Nat → Nat := fun q => if q = j then v else f q
theorem zui_at (f : Nat → Nat) (j v : Nat) : zui f j v j = v := if_pos rfl
theorem zui_ne {f : Nat → Nat} {j v q : Nat} (h : ¬ q = j) : zui f j v q = f q := if_neg h
theorem z_arr1 (n q : Nat) (d : Nat → Nat) (hn : n < 20) : va_up (fun i => if i < n then some (d i) else none) (nI n).toNatClampNeg (some q) = (fun i => if i < n + 1 then some (zui d n q i) else none) := by
  rw [nI_clamp (by omega)]
  funext i
  show (if i = n then some q else if i < n then some (d i) else none) = if i < n + 1 then some (zui d n q i) else none
  by_cases h : i = n
  · subst h
    rw [if_pos rfl, if_pos (Nat.lt_succ_self _), zui_at]
  · rw [if_neg h, zui_ne h]
    by_cases h2 : i < n
    · rw [if_pos h2, if_pos (Nat.lt_succ_of_lt h2)]
    · rw [if_neg h2, if_neg (show ¬ i < n + 1 by omega)]
section SP7
variable {x sA rA : Nat} {cS cR : ClassId} {n k : Nat} {td : Int32} {sd rd : Nat → Nat} {S : Nat → Nat → Int32} {I : Nat → Nat} {F : Nat → Nat → Int32} {X X9 : zM}
theorem XI.sale (h : XI x sA rA cS cR n k td sd rd S I F X) (hn : n < 20) {q : Nat} (hq : ∀ e, X q = some e → False) {c p l : Int32}
    (h1 : X9 x = some (.inr (0, [.ref sA, .ref rA, .int (nI (n + 1)), .int (nI k), .int td]))) (h2 : X9 sA = some (zar cS (n + 1) (zui sd n q))) (h3 : X9 q = some (.inr (1, rowS n (zsl c p l td)))) (h4 : ∀ b, b ≠ x → b ≠ sA → b ≠ q → X9 b = X b) :
    XI x sA rA cS cR (n + 1) k td (zui sd n q) rd (zfr S n (zsl c p l td)) I F X9 := by
  obtain ⟨g1, g2, g3, g4, g5, g6, g7, g8, g9, g10, g11⟩ := h
  refine ⟨h1, h2, ?_, fun i hi => ?_, fun j hj => ?_, fun j hj => Nat.lt_succ_of_lt (g6 j hj), hn, g8, fun i j hi hj he => ?_, g10, g11⟩
  · exact (h4 rA (z_ao g3 g1) (Ne.symm g11) (fun e => hq _ (e ▸ g3))).trans g3
  · by_cases he : i = n
    · subst he
      rw [zui_at, zfr_at]
      exact h3
    · rw [zui_ne he, zfr_ne he]
      have hs := g4 i (by omega)
      exact (h4 _ (z_oo hs g1 (by decide)) (z_oa hs g2) (fun e => hq _ (e ▸ hs))).trans hs
  · have hr := g5 j hj
    have hI : ¬ I j = n := Nat.ne_of_lt (g6 j hj)
    rw [zui_ne hI]
    exact (h4 _ (z_oo hr g1 (by decide)) (z_oa hr g2) (fun e => hq _ (e ▸ hr))).trans hr
  · by_cases h5 : i = n <;> by_cases h6 : j = n
    · omega
    · subst h5
      rw [zui_at, zui_ne h6] at he
      exact (hq _ (he ▸ g4 j (by omega))).elim
    · subst h6
      rw [zui_at, zui_ne h5] at he
      exact (hq _ (he ▸ g4 i (by omega))).elim
    · rw [zui_ne h5, zui_ne h6] at he
      exact g9 i j (by omega) (by omega) he
theorem XI.comes (h : XI x sA rA cS cR n k td sd rd S I F X) (hk : k < 20) {i : Nat} (hi : i < n) {q : Nat} (hq : ∀ e, X q = some e → False) {why st : Int32}
    (h1 : X9 x = some (.inr (0, [.ref sA, .ref rA, .int (nI n), .int (nI (k + 1)), .int td]))) (h2 : X9 rA = some (zar cR (k + 1) (zui rd k q))) (h3 : X9 q = some (.inr (2, rowR (sd i) (zrt why st td)))) (h5 : X9 (sd i) = some (.inr (1, rowS i (zfs (S i) 5 1)))) (h4 : ∀ b, b ≠ x → b ≠ rA → b ≠ q → b ≠ sd i → X9 b = X b) :
    XI x sA rA cS cR n (k + 1) td sd (zui rd k q) (zfr S i (zfs (S i) 5 1)) (zui I k i) (zfr F k (zrt why st td)) X9 := by
  obtain ⟨g1, g2, g3, g4, g5, g6, g7, g8, g9, g10, g11⟩ := h
  have gi := g4 i hi
  refine ⟨h1, ?_, h2, fun j hj => ?_, fun j hj => ?_, fun j hj => ?_, g7, hk, g9, fun a b ha hb he => ?_, g11⟩
  · exact (h4 sA (z_ao g2 g1) g11 (fun e => hq _ (e ▸ g2)) (z_ao g2 gi)).trans g2
  · by_cases he : j = i
    · subst he
      rw [zfr_at]
      exact h5
    · rw [zfr_ne he]
      have hs := g4 j hj
      exact (h4 _ (z_oo hs g1 (by decide)) (z_oa hs g3) (fun e => hq _ (e ▸ hs)) (fun e => he (g9 j i hj hi e))).trans hs
  · by_cases he : j = k
    · subst he
      rw [zui_at, zfr_at, zui_at]
      exact h3
    · rw [zui_ne he, zfr_ne he, zui_ne he]
      have hr := g5 j (by omega)
      exact (h4 _ (z_oo hr g1 (by decide)) (z_oa hr g3) (fun e => hq _ (e ▸ hr)) (z_oo hr gi (by decide))).trans hr
  · by_cases he : j = k
    · subst he
      rw [zui_at]
      exact hi
    · rw [zui_ne he]
      exact g6 j (by omega)
  · by_cases h5 : a = k <;> by_cases h6 : b = k
    · omega
    · subst h5
      rw [zui_at, zui_ne h6] at he
      exact (hq _ (he ▸ g5 b (by omega))).elim
    · subst h6
      rw [zui_at, zui_ne h5] at he
      exact (hq _ (he ▸ g5 a (by omega))).elim
    · rw [zui_ne h5, zui_ne h6] at he
      exact g10 a b (by omega) (by omega) he
end SP7
set_option maxHeartbeats 4000000 in
set_option maxRecDepth 100000 in
theorem c_RR_day (l : Launch) (hl9 : l.stackTraces = false) {D : va_G} {cS cR cJ cI cZ : ClassId} {lo tP : Nat} (d : Int32) {x sA rA n k : Nat} {td : Int32} {sd rd : Nat → Nat} {S : Nat → Nat → Int32} {I : Nat → Nat} {F : Nat → Nat → Int32} {X : zM} (hXI : XI x sA rA cS cR n k td sd rd S I F X) : z_C (z_G lo tP) D cls4 (zty cS cR cJ cI cZ) lo l y_RR_day w_RR_day zr1 [.ref x, .int d] X (zT [E_IAE] (cd_day td d) none X (YI x cS cR ⟨n, k, d, S, I, F⟩)) := by
  refine z_ofW (by decide) ?_
  intro p e s m args below meth c s₁ B hml hout hv
  obtain ⟨rfl, hG, hK, hW0, hXl, hlo⟩ := hv
  have hx := B.exec
  have hb := B.bytes
  have hr := B.returns
  have hlk := B.notSynchronized
  have hown : s.vm.findClass R_RR = some m.cls := findClass_of_methodNamed B.named
  have hts : ∀ w9 ∈ z_tb, w9.before ([.ref x, .int d] : List Value).toArray s = true := hG.ts _
  have hk : ∀ {w9 : Cond}, w9 ∈ lw_tbl → z_ok w9 = true → w9.before ([.ref x, .int d] : List Value).toArray s = true := fun h1 h2 => hG.w h1 h2 _
  have hg : z_Gr s.heap s.heap := z_Gr.rf
  have hS := z_S.start hW0 hXl hlo
  have hl := lv_entry ([.ref x, .int d]) (n := 2) (Nat.le_of_ble_eq_true rfl)
  rw [lg_entry_eq]
  generalize (lg_sl ([.ref x, .int d]) ++ List.replicate (2 - (lg_sl ([.ref x, .int d])).length) Slot.unset).toArray = ls at hl ⊢
  have hl : lv_has ls 2 [(0, .ref x), (1, .int d)] := hl
  obtain ⟨hxx, hsA, hrA, hSs, hRr, hIn, hn, hkk, hjs, hjr, hAne⟩ := id hXI
  refine lv_iload_n hx hb d_RR_day_0 rfl (lv_at hl 1 rfl) ?_
  refine lv_aload_n hx hb d_RR_day_1 rfl (lv_at hl 0 rfl) ?_
  refine z_get (ci := 0) (C := R_RR) (T := F_RR) (N := 5) hx hb hts j_RR hown hK hS hxx rfl 4 (by decide) (hk k_47 rfl) (fun _ h9 => h9) rfl d_RR_day_2 ?_
  refine lv_sipush (v := 1000) hx hb d_RR_day_5 (by decide) ?_
  by_cases w_1 : z_rg d td 1000
  · refine z_pv (n_RR_RR_requireWithin hx hown hG (by rw [hb]; exact d_RR_day_8)) hb (hl.1.trans hml.symm) (c_RR_requireWithin l hl9 d td 1000) (if_pos w_1) (z_Gkeeps lo tP) hG hK hS (cw_RR_requireWithin hG (by decide) (by decide)) d_RR_day_8 (Nat.le_of_ble_eq_true rfl) (by decide) (by decide) (fun H hq hS => ?_)
    refine lv_aload_n hx hb d_RR_day_11 rfl (lv_at hl 0 rfl) ?_
    refine lv_iload_n hx hb d_RR_day_12 rfl (lv_at hl 1 rfl) ?_
    refine z_put (ci := 0) (C := R_RR) (T := F_RR) (N := 5) (ty := .int) (fs' := [.ref sA, .ref rA, .int (nI n), .int (nI k), .int d]) hx hb hts j_RR t_RR t_RR_ok n_RR hown hK hS hxx rfl 4 (by decide) (hk k_47 rfl) (fun _ h9 => h9) rfl (by decide +kernel) rfl rfl (Nat.le_of_ble_eq_true rfl) d_RR_day_13 rfl (fun H locs hS => ?_)
    have e_2 : (z_up X x (.inr (0, [.ref sA, .ref rA, .int (nI n), .int (nI k), .int d]))) sA = some (.inl (cS, 20, .inr (.inr (.inr (.inr (fun i => if i < n then some (sd i) else none)))))) := (z_ne (z_ao hsA hxx)).trans hsA
    have e_3 : (z_up X x (.inr (0, [.ref sA, .ref rA, .int (nI n), .int (nI k), .int d]))) rA = some (.inl (cR, 20, .inr (.inr (.inr (.inr (fun i => if i < k then some (rd i) else none)))))) := (z_ne (z_ao hrA hxx)).trans hrA
    have e_4 : (z_up X x (.inr (0, [.ref sA, .ref rA, .int (nI n), .int (nI k), .int d]))) x = some (.inr (0, [.ref sA, .ref rA, .int (nI n), .int (nI k), .int d])) := z_eq _ _ _
    exact z_Cvret hx hb hr hlk hS (zT0 (by unfold cd_day; rw [if_pos w_1]) ⟨sA, rA, sd, rd, hXI.day d⟩ (zFr.rf.up hxx rfl)) (by decide) (by decide) d_RR_day_16
  · exact z_pCX (E := E_IAE) (n_RR_RR_requireWithin hx hown hG (by rw [hb]; exact d_RR_day_8)) hb (hl.1.trans hml.symm) (c_RR_requireWithin l hl9 d td 1000) (if_neg w_1) (z_Gkeeps lo tP) hG hK hS (cw_RR_requireWithin hG (by decide) (by decide)) d_RR_day_8 (Nat.le_of_ble_eq_true rfl) (by decide) (by decide) hout hlk (zT1 0 (by unfold cd_day; rw [if_neg w_1]) rfl) (by decide) (by decide)
set_option maxHeartbeats 4000000 in
set_option maxRecDepth 100000 in
theorem c_RR_sale (l : Launch) (hl9 : l.stackTraces = false) {D : va_G} {cS cR cJ cI cZ : ClassId} {lo tP : Nat} (c0 p0 l0 : Int32) {x sA rA n k : Nat} {td : Int32} {sd rd : Nat → Nat} {S : Nat → Nat → Int32} {I : Nat → Nat} {F : Nat → Nat → Int32} {X : zM} (hXI : XI x sA rA cS cR n k td sd rd S I F X) : z_C (z_G lo tP) D cls4 (zty cS cR cJ cI cZ) lo l y_RR_sale w_RR_sale zr1 [.ref x, .int c0, .int p0, .int l0] X (zT [E_IAE, E_UOE] (cd_sale n c0 p0 l0) (some (.int (nI n))) X (YI x cS cR ⟨n + 1, k, td, zfr S n (zsl c0 p0 l0 td), I, F⟩)) := by
  refine z_ofW (by decide) ?_
  intro p e s m args below meth c s₁ B hml hout hv
  obtain ⟨rfl, hG, hK, hW0, hXl, hlo⟩ := hv
  have hx := B.exec
  have hb := B.bytes
  have hr := B.returns
  have hlk := B.notSynchronized
  have hown : s.vm.findClass R_RR = some m.cls := findClass_of_methodNamed B.named
  have hts : ∀ w9 ∈ z_tb, w9.before ([.ref x, .int c0, .int p0, .int l0] : List Value).toArray s = true := hG.ts _
  have hk : ∀ {w9 : Cond}, w9 ∈ lw_tbl → z_ok w9 = true → w9.before ([.ref x, .int c0, .int p0, .int l0] : List Value).toArray s = true := fun h1 h2 => hG.w h1 h2 _
  have hg : z_Gr s.heap s.heap := z_Gr.rf
  have hS := z_S.start hW0 hXl hlo
  have hl := lv_entry ([.ref x, .int c0, .int p0, .int l0]) (n := 5) (Nat.le_of_ble_eq_true rfl)
  rw [lg_entry_eq]
  generalize (lg_sl ([.ref x, .int c0, .int p0, .int l0]) ++ List.replicate (5 - (lg_sl ([.ref x, .int c0, .int p0, .int l0])).length) Slot.unset).toArray = ls at hl ⊢
  have hl : lv_has ls 5 [(0, .ref x), (1, .int c0), (2, .int p0), (3, .int l0)] := hl
  obtain ⟨hxx, hsA, hrA, hSs, hRr, hIn, hn, hkk, hjs, hjr, hAne⟩ := id hXI
  refine lv_iload_n hx hb d_RR_sale_0 rfl (lv_at hl 1 rfl) ?_
  refine lv_iconst (v := 0) hx hb d_RR_sale_1 (by decide) ?_
  refine lv_iconst (v := 5) hx hb d_RR_sale_2 (by decide) ?_
  by_cases w_1 : z_rg c0 0 5
  · refine z_pv (n_RR_RR_requireWithin hx hown hG (by rw [hb]; exact d_RR_sale_3)) hb (hl.1.trans hml.symm) (c_RR_requireWithin l hl9 c0 0 5) (if_pos w_1) (z_Gkeeps lo tP) hG hK hS (cw_RR_requireWithin hG (by decide) (by decide)) d_RR_sale_3 (Nat.le_of_ble_eq_true rfl) (by decide) (by decide) (fun H hq hS => ?_)
    refine lv_iload_n hx hb d_RR_sale_6 rfl (lv_at hl 2 rfl) ?_
    refine lv_iconst (v := 1) hx hb d_RR_sale_7 (by decide) ?_
    refine lv_ldc (v := 100000) hx hb hown (hk k_167 rfl) d_RR_sale_8 ?_
    by_cases w_2 : z_rg p0 1 100000
    · refine z_pv (n_RR_RR_requireWithin hx hown hG (by rw [hb]; exact d_RR_sale_10)) hb (hl.1.trans hml.symm) (c_RR_requireWithin l hl9 p0 1 100000) (if_pos w_2) (z_Gkeeps lo tP) hG hK hS (cw_RR_requireWithin hG (by decide) (by decide)) d_RR_sale_10 (Nat.le_of_ble_eq_true rfl) (by decide) (by decide) (fun H hq hS => ?_)
      refine lv_iload_n hx hb d_RR_sale_13 rfl (lv_at hl 3 rfl) ?_
      refine lv_iconst (v := 0) hx hb d_RR_sale_14 (by decide) ?_
      refine lv_sipush (v := 1000) hx hb d_RR_sale_15 (by decide) ?_
      by_cases w_3 : z_rg l0 0 1000
      · refine z_pv (n_RR_RR_requireWithin hx hown hG (by rw [hb]; exact d_RR_sale_18)) hb (hl.1.trans hml.symm) (c_RR_requireWithin l hl9 l0 0 1000) (if_pos w_3) (z_Gkeeps lo tP) hG hK hS (cw_RR_requireWithin hG (by decide) (by decide)) d_RR_sale_18 (Nat.le_of_ble_eq_true rfl) (by decide) (by decide) (fun H hq hS => ?_)
        refine lv_aload_n hx hb d_RR_sale_21 rfl (lv_at hl 0 rfl) ?_
        refine z_get (ci := 0) (C := R_RR) (T := F_RR) (N := 5) hx hb hts j_RR hown hK hS hxx rfl 2 (by decide) (hk k_45 rfl) (fun _ h9 => h9) rfl d_RR_sale_22 ?_
        refine lv_istore (lv' := [(4, .int (nI n)), (0, .ref x), (1, .int c0), (2, .int p0), (3, .int l0)]) hx hb d_RR_sale_25 hl (by decide) rfl (fun ls hl => ?_)
        refine lv_iload hx hb d_RR_sale_27 (lv_at hl 0 rfl) ?_
        refine lv_aload_n hx hb d_RR_sale_29 rfl (lv_at hl 1 rfl) ?_
        refine z_get (ci := 0) (C := R_RR) (T := F_RR) (N := 5) hx hb hts j_RR hown hK hS hxx rfl 0 (by decide) (hk k_43 rfl) (fun _ h9 => h9) rfl d_RR_sale_30 ?_
        refine z_alen hx hb hK hS 0 hsA rfl (v := 20) rfl d_RR_sale_33 ?_
        refine lv_icmp_lt (tgt := 47) hx hb d_RR_sale_34 (by decide) (fun c_4 => ?_) (fun c_4 => ?_)
        · have hlt : n < 20 := (nI_ltI (by omega) (by decide)).mp c_4
          refine lv_aload_n hx hb d_RR_sale_47 rfl (lv_at hl 1 rfl) ?_
          refine z_get (ci := 0) (C := R_RR) (T := F_RR) (N := 5) hx hb hts j_RR hown hK hS hxx rfl 0 (by decide) (hk k_43 rfl) (fun _ h9 => h9) rfl d_RR_sale_48 ?_
          refine lv_iload hx hb d_RR_sale_51 (lv_at hl 0 rfl) ?_
          refine z_new (ci := 1) (fs := [.int 0, .int 0, .int 0, .int 0, .int 0, .int 0]) (C := R_SA) (T := F_SA) (N := 6) hx hb hts j_SA t_SA t_SA_ok hown (hk k_39 rfl) (hk k_184 rfl) (hk k_25 rfl) hK hS rfl (by decide) (by decide) (by decide) d_RR_sale_53 (fun q_5 H f_q_5 hS => ?_)
          have e_6 : (z_up X q_5 (.inr (1, [.int 0, .int 0, .int 0, .int 0, .int 0, .int 0]))) x = some (.inr (0, [.ref sA, .ref rA, .int (nI n), .int (nI k), .int td])) := (z_ne (z_nf hxx f_q_5)).trans hxx
          have e_7 : (z_up X q_5 (.inr (1, [.int 0, .int 0, .int 0, .int 0, .int 0, .int 0]))) sA = some (.inl (cS, 20, .inr (.inr (.inr (.inr (fun i => if i < n then some (sd i) else none)))))) := (z_ne (z_nf hsA f_q_5)).trans hsA
          have e_8 : (z_up X q_5 (.inr (1, [.int 0, .int 0, .int 0, .int 0, .int 0, .int 0]))) rA = some (.inl (cR, 20, .inr (.inr (.inr (.inr (fun i => if i < k then some (rd i) else none)))))) := (z_ne (z_nf hrA f_q_5)).trans hrA
          have e_9 : (z_up X q_5 (.inr (1, [.int 0, .int 0, .int 0, .int 0, .int 0, .int 0]))) q_5 = some (.inr (1, [.int 0, .int 0, .int 0, .int 0, .int 0, .int 0])) := z_eq _ _ _
          refine lv_dup hx hb d_RR_sale_56 rfl ?_
          refine lv_iload hx hb d_RR_sale_57 (lv_at hl 0 rfl) ?_
          refine lv_iload_n hx hb d_RR_sale_59 rfl (lv_at hl 2 rfl) ?_
          refine lv_iload_n hx hb d_RR_sale_60 rfl (lv_at hl 3 rfl) ?_
          refine lv_iload_n hx hb d_RR_sale_61 rfl (lv_at hl 4 rfl) ?_
          refine lv_aload_n hx hb d_RR_sale_62 rfl (lv_at hl 1 rfl) ?_
          refine z_get (ci := 0) (C := R_RR) (T := F_RR) (N := 5) hx hb hts j_RR hown hK hS e_6 rfl 4 (by decide) (hk k_47 rfl) (fun _ h9 => h9) rfl d_RR_sale_63 ?_
          have eci := c_SA_init l hl9 (D := D) (tys := zty cS cR cJ cI cZ) (lo := lo) (tP := tP) q_5 (nI n) c0 p0 l0 td (X := (z_up X q_5 (.inr (1, [.int 0, .int 0, .int 0, .int 0, .int 0, .int 0])))) e_9
          refine z_wv (n_RR_SA_init hx hown hG (by rw [hb]; exact d_RR_sale_66)) hb (hl.1.trans hml.symm) eci (fun _ _ h9 => h9) (z_Gkeeps lo tP) hG hK hS (cw_SA_init hG (by decide) (by decide)) d_RR_sale_66 (Nat.le_of_ble_eq_true rfl) (by decide) (by decide) (fun H locs hS => ?_)
          have e_10 : (z_up (z_up X q_5 (.inr (1, [.int 0, .int 0, .int 0, .int 0, .int 0, .int 0]))) q_5 (.inr (1, [.int (nI n), .int c0, .int p0, .int l0, .int td, .int 0]))) x = some (.inr (0, [.ref sA, .ref rA, .int (nI n), .int (nI k), .int td])) := (z_ne (z_oo e_6 e_9 (by decide))).trans e_6
          have e_11 : (z_up (z_up X q_5 (.inr (1, [.int 0, .int 0, .int 0, .int 0, .int 0, .int 0]))) q_5 (.inr (1, [.int (nI n), .int c0, .int p0, .int l0, .int td, .int 0]))) sA = some (.inl (cS, 20, .inr (.inr (.inr (.inr (fun i => if i < n then some (sd i) else none)))))) := (z_ne (z_ao e_7 e_9)).trans e_7
          have e_12 : (z_up (z_up X q_5 (.inr (1, [.int 0, .int 0, .int 0, .int 0, .int 0, .int 0]))) q_5 (.inr (1, [.int (nI n), .int c0, .int p0, .int l0, .int td, .int 0]))) rA = some (.inl (cR, 20, .inr (.inr (.inr (.inr (fun i => if i < k then some (rd i) else none)))))) := (z_ne (z_ao e_8 e_9)).trans e_8
          have e_13 : (z_up (z_up X q_5 (.inr (1, [.int 0, .int 0, .int 0, .int 0, .int 0, .int 0]))) q_5 (.inr (1, [.int (nI n), .int c0, .int p0, .int l0, .int td, .int 0]))) q_5 = some (.inr (1, [.int (nI n), .int c0, .int p0, .int l0, .int td, .int 0])) := z_eq _ _ _
          refine z_aast hx hb hK hS 0 1 e_11 rfl e_13 rfl (vp_in_nI hlt (by decide)) d_RR_sale_69 (fun H locs hS => ?_)
          rw [z_arr1 n q_5 sd hlt] at hS
          have e_14 : (z_up (z_up (z_up X q_5 (.inr (1, [.int 0, .int 0, .int 0, .int 0, .int 0, .int 0]))) q_5 (.inr (1, [.int (nI n), .int c0, .int p0, .int l0, .int td, .int 0]))) sA (.inl (cS, 20, .inr (.inr (.inr (.inr (fun i => if i < n + 1 then some (zui sd n q_5 i) else none))))))) x = some (.inr (0, [.ref sA, .ref rA, .int (nI n), .int (nI k), .int td])) := (z_ne (z_oa e_10 e_11)).trans e_10
          have e_15 : (z_up (z_up (z_up X q_5 (.inr (1, [.int 0, .int 0, .int 0, .int 0, .int 0, .int 0]))) q_5 (.inr (1, [.int (nI n), .int c0, .int p0, .int l0, .int td, .int 0]))) sA (.inl (cS, 20, .inr (.inr (.inr (.inr (fun i => if i < n + 1 then some (zui sd n q_5 i) else none))))))) rA = some (.inl (cR, 20, .inr (.inr (.inr (.inr (fun i => if i < k then some (rd i) else none)))))) := (z_ne (Ne.symm hAne)).trans e_12
          have e_16 : (z_up (z_up (z_up X q_5 (.inr (1, [.int 0, .int 0, .int 0, .int 0, .int 0, .int 0]))) q_5 (.inr (1, [.int (nI n), .int c0, .int p0, .int l0, .int td, .int 0]))) sA (.inl (cS, 20, .inr (.inr (.inr (.inr (fun i => if i < n + 1 then some (zui sd n q_5 i) else none))))))) q_5 = some (.inr (1, [.int (nI n), .int c0, .int p0, .int l0, .int td, .int 0])) := (z_ne (z_oa e_13 e_11)).trans e_13
          have e_17 : (z_up (z_up (z_up X q_5 (.inr (1, [.int 0, .int 0, .int 0, .int 0, .int 0, .int 0]))) q_5 (.inr (1, [.int (nI n), .int c0, .int p0, .int l0, .int td, .int 0]))) sA (.inl (cS, 20, .inr (.inr (.inr (.inr (fun i => if i < n + 1 then some (zui sd n q_5 i) else none))))))) sA = some (.inl (cS, 20, .inr (.inr (.inr (.inr (fun i => if i < n + 1 then some (zui sd n q_5 i) else none)))))) := z_eq _ _ _
          refine lv_aload_n hx hb d_RR_sale_70 rfl (lv_at hl 1 rfl) ?_
          refine lv_dup hx hb d_RR_sale_71 rfl ?_
          refine z_get (ci := 0) (C := R_RR) (T := F_RR) (N := 5) hx hb hts j_RR hown hK hS e_14 rfl 2 (by decide) (hk k_45 rfl) (fun _ h9 => h9) rfl d_RR_sale_72 ?_
          refine lv_iconst (v := 1) hx hb d_RR_sale_75 (by decide) ?_
          refine lv_iadd hx hb d_RR_sale_76 ?_
          refine z_put (ci := 0) (C := R_RR) (T := F_RR) (N := 5) (ty := .int) (fs' := [.ref sA, .ref rA, .int ((nI n) + 1), .int (nI k), .int td]) hx hb hts j_RR t_RR t_RR_ok n_RR hown hK hS e_14 rfl 2 (by decide) (hk k_45 rfl) (fun _ h9 => h9) rfl (by decide +kernel) rfl rfl (Nat.le_of_ble_eq_true rfl) d_RR_sale_77 rfl (fun H locs hS => ?_)
          have e_18 : (z_up (z_up (z_up (z_up X q_5 (.inr (1, [.int 0, .int 0, .int 0, .int 0, .int 0, .int 0]))) q_5 (.inr (1, [.int (nI n), .int c0, .int p0, .int l0, .int td, .int 0]))) sA (.inl (cS, 20, .inr (.inr (.inr (.inr (fun i => if i < n + 1 then some (zui sd n q_5 i) else none))))))) x (.inr (0, [.ref sA, .ref rA, .int ((nI n) + 1), .int (nI k), .int td]))) rA = some (.inl (cR, 20, .inr (.inr (.inr (.inr (fun i => if i < k then some (rd i) else none)))))) := (z_ne (z_ao e_15 e_14)).trans e_15
          have e_19 : (z_up (z_up (z_up (z_up X q_5 (.inr (1, [.int 0, .int 0, .int 0, .int 0, .int 0, .int 0]))) q_5 (.inr (1, [.int (nI n), .int c0, .int p0, .int l0, .int td, .int 0]))) sA (.inl (cS, 20, .inr (.inr (.inr (.inr (fun i => if i < n + 1 then some (zui sd n q_5 i) else none))))))) x (.inr (0, [.ref sA, .ref rA, .int ((nI n) + 1), .int (nI k), .int td]))) q_5 = some (.inr (1, [.int (nI n), .int c0, .int p0, .int l0, .int td, .int 0])) := (z_ne (z_oo e_16 e_14 (by decide))).trans e_16
          have e_20 : (z_up (z_up (z_up (z_up X q_5 (.inr (1, [.int 0, .int 0, .int 0, .int 0, .int 0, .int 0]))) q_5 (.inr (1, [.int (nI n), .int c0, .int p0, .int l0, .int td, .int 0]))) sA (.inl (cS, 20, .inr (.inr (.inr (.inr (fun i => if i < n + 1 then some (zui sd n q_5 i) else none))))))) x (.inr (0, [.ref sA, .ref rA, .int ((nI n) + 1), .int (nI k), .int td]))) sA = some (.inl (cS, 20, .inr (.inr (.inr (.inr (fun i => if i < n + 1 then some (zui sd n q_5 i) else none)))))) := (z_ne (z_ao e_17 e_14)).trans e_17
          have e_21 : (z_up (z_up (z_up (z_up X q_5 (.inr (1, [.int 0, .int 0, .int 0, .int 0, .int 0, .int 0]))) q_5 (.inr (1, [.int (nI n), .int c0, .int p0, .int l0, .int td, .int 0]))) sA (.inl (cS, 20, .inr (.inr (.inr (.inr (fun i => if i < n + 1 then some (zui sd n q_5 i) else none))))))) x (.inr (0, [.ref sA, .ref rA, .int ((nI n) + 1), .int (nI k), .int td]))) x = some (.inr (0, [.ref sA, .ref rA, .int ((nI n) + 1), .int (nI k), .int td])) := z_eq _ _ _
          refine lv_iload hx hb d_RR_sale_80 (lv_at hl 0 rfl) ?_
          exact z_Ciret hx hb hr rfl hlk hS (zT0 (by unfold cd_sale; rw [if_pos w_1]; rw [if_pos w_2]; rw [if_pos w_3]; exact if_neg (fun h => (z_n20 hn).mp h c_4)) ⟨sA, rA, _, rd, XI.sale (c := c0) (p := p0) (l := l0) hXI hlt f_q_5 (by rw [← nI_1]; exact e_21) e_20 e_19 (fun b h1 h2 h3 => (z_ne h1).trans ((z_ne h2).trans ((z_ne h3).trans (z_ne h3))))⟩ ((((zFr.rf.nw f_q_5).up e_9 rfl).up e_11 rfl).up e_14 rfl)) (by decide) (by decide) d_RR_sale_82
        · exact th_UOE hx hb hl9 hown hG (hl.1.trans hml.symm) hout hlk (is := 35) (text := "no room for another sale") (by decide +kernel) d_RR_sale_37 d_RR_sale_40 d_RR_sale_41 d_RR_sale_43 d_RR_sale_46 (z_teC hW0 (zT1 1 (by unfold cd_sale; rw [if_pos w_1]; rw [if_pos w_2]; rw [if_pos w_3]; exact if_pos ((z_n20 hn).mpr c_4)) rfl)) (by decide) (Nat.le_of_ble_eq_true rfl) (by decide) (by decide) (by decide) (by decide)
      · exact z_pCX (E := E_IAE) (n_RR_RR_requireWithin hx hown hG (by rw [hb]; exact d_RR_sale_18)) hb (hl.1.trans hml.symm) (c_RR_requireWithin l hl9 l0 0 1000) (if_neg w_3) (z_Gkeeps lo tP) hG hK hS (cw_RR_requireWithin hG (by decide) (by decide)) d_RR_sale_18 (Nat.le_of_ble_eq_true rfl) (by decide) (by decide) hout hlk (zT1 0 (by unfold cd_sale; rw [if_pos w_1]; rw [if_pos w_2]; rw [if_neg w_3]) rfl) (by decide) (by decide)
    · exact z_pCX (E := E_IAE) (n_RR_RR_requireWithin hx hown hG (by rw [hb]; exact d_RR_sale_10)) hb (hl.1.trans hml.symm) (c_RR_requireWithin l hl9 p0 1 100000) (if_neg w_2) (z_Gkeeps lo tP) hG hK hS (cw_RR_requireWithin hG (by decide) (by decide)) d_RR_sale_10 (Nat.le_of_ble_eq_true rfl) (by decide) (by decide) hout hlk (zT1 0 (by unfold cd_sale; rw [if_pos w_1]; rw [if_neg w_2]) rfl) (by decide) (by decide)
  · exact z_pCX (E := E_IAE) (n_RR_RR_requireWithin hx hown hG (by rw [hb]; exact d_RR_sale_3)) hb (hl.1.trans hml.symm) (c_RR_requireWithin l hl9 c0 0 5) (if_neg w_1) (z_Gkeeps lo tP) hG hK hS (cw_RR_requireWithin hG (by decide) (by decide)) d_RR_sale_3 (Nat.le_of_ble_eq_true rfl) (by decide) (by decide) hout hlk (zT1 0 (by unfold cd_sale; rw [if_neg w_1]) rfl) (by decide) (by decide)
set_option maxHeartbeats 4000000 in
set_option maxRecDepth 100000 in
theorem c_RR_comes_no (l : Launch) (hl9 : l.stackTraces = false) {D : va_G} {cS cR cJ cI cZ : ClassId} {lo tP : Nat} (v p0 p1 : Int32) (a9 : Option Value) (N9 : zM → Prop) {x sA rA n k : Nat} {td : Int32} {sd rd : Nat → Nat} {S : Nat → Nat → Int32} {I : Nat → Nat} {F : Nat → Nat → Int32} {X : zM} (hXI : XI x sA rA cS cR n k td sd rd S I F X) (hs : ¬ z_rs v n) : z_C (z_G lo tP) D cls4 (zty cS cR cJ cI cZ) lo l y_RR_comes w_RR_comes zr1 [.ref x, .int v, .int p0, .int p1] X (zT [E_NSE, E_IAE, E_ISE, E_UOE] 1 a9 X N9) := by
  refine z_ofW (by decide) ?_
  intro p e s m args below meth c s₁ B hml hout hv
  obtain ⟨rfl, hG, hK, hW0, hXl, hlo⟩ := hv
  have hx := B.exec
  have hb := B.bytes
  have hr := B.returns
  have hlk := B.notSynchronized
  have hown : s.vm.findClass R_RR = some m.cls := findClass_of_methodNamed B.named
  have hts : ∀ w9 ∈ z_tb, w9.before ([.ref x, .int v, .int p0, .int p1] : List Value).toArray s = true := hG.ts _
  have hk : ∀ {w9 : Cond}, w9 ∈ lw_tbl → z_ok w9 = true → w9.before ([.ref x, .int v, .int p0, .int p1] : List Value).toArray s = true := fun h1 h2 => hG.w h1 h2 _
  have hg : z_Gr s.heap s.heap := z_Gr.rf
  have hS := z_S.start hW0 hXl hlo
  have hl := lv_entry ([.ref x, .int v, .int p0, .int p1]) (n := 5) (Nat.le_of_ble_eq_true rfl)
  rw [lg_entry_eq]
  generalize (lg_sl ([.ref x, .int v, .int p0, .int p1]) ++ List.replicate (5 - (lg_sl ([.ref x, .int v, .int p0, .int p1])).length) Slot.unset).toArray = ls at hl ⊢
  have hl : lv_has ls 5 [(0, .ref x), (1, .int v), (2, .int p0), (3, .int p1)] := hl
  obtain ⟨hxx, hsA, hrA, hSs, hRr, hIn, hn, hkk, hjs, hjr, hAne⟩ := id hXI
  refine lv_aload_n hx hb d_RR_comes_0 rfl (lv_at hl 0 rfl) ?_
  refine lv_iload_n hx hb d_RR_comes_1 rfl (lv_at hl 1 rfl) ?_
  exact z_pCX (E := E_NSE) (n_RR_RR_saleAt hx hown hG (va_recv hK (hS.1.one hxx) (ci := 0) (q0 := 0) rfl rfl) (by rw [hb]; exact d_RR_comes_2)) hb (hl.1.trans hml.symm) (c_RR_saleAt l hl9 x sA rA n k td sd v hxx hsA hn) (if_neg hs) (z_Gkeeps lo tP) hG hK hS (cw_RR_saleAt hG (by decide) (by decide)) d_RR_comes_2 (Nat.le_of_ble_eq_true rfl) (by decide) (by decide) hout hlk (zT1 0 rfl rfl) (by decide) (by decide)
set_option maxHeartbeats 4000000 in
set_option maxRecDepth 100000 in
theorem c_RR_comes (l : Launch) (hl9 : l.stackTraces = false) {D : va_G} {cS cR cJ cI cZ : ClassId} {lo tP : Nat} {i : Nat} (p0 p1 : Int32) {x sA rA n k : Nat} {td : Int32} {sd rd : Nat → Nat} {S : Nat → Nat → Int32} {I : Nat → Nat} {F : Nat → Nat → Int32} {X : zM} (hXI : XI x sA rA cS cR n k td sd rd S I F X) (hi : i < n) : z_C (z_G lo tP) D cls4 (zty cS cR cJ cI cZ) lo l y_RR_comes w_RR_comes zr1 [.ref x, .int (nI i), .int p0, .int p1] X (zT [E_NSE, E_IAE, E_ISE, E_UOE] (cd_comes k (S i) p0) (some (.int (nI k + 1))) X (YI x cS cR ⟨n, k + 1, td, zfr S i (zfs (S i) 5 1), zui I k i, zfr F k (zrt p0 (if p1 = 0 then 1 else 0) td)⟩)) := by
  refine z_ofW (by decide) ?_
  intro p e s m args below meth c s₁ B hml hout hv
  obtain ⟨rfl, hG, hK, hW0, hXl, hlo⟩ := hv
  have hx := B.exec
  have hb := B.bytes
  have hr := B.returns
  have hlk := B.notSynchronized
  have hown : s.vm.findClass R_RR = some m.cls := findClass_of_methodNamed B.named
  have hts : ∀ w9 ∈ z_tb, w9.before ([.ref x, .int (nI i), .int p0, .int p1] : List Value).toArray s = true := hG.ts _
  have hk : ∀ {w9 : Cond}, w9 ∈ lw_tbl → z_ok w9 = true → w9.before ([.ref x, .int (nI i), .int p0, .int p1] : List Value).toArray s = true := fun h1 h2 => hG.w h1 h2 _
  have hg : z_Gr s.heap s.heap := z_Gr.rf
  have hS := z_S.start hW0 hXl hlo
  have hl := lv_entry ([.ref x, .int (nI i), .int p0, .int p1]) (n := 5) (Nat.le_of_ble_eq_true rfl)
  rw [lg_entry_eq]
  generalize (lg_sl ([.ref x, .int (nI i), .int p0, .int p1]) ++ List.replicate (5 - (lg_sl ([.ref x, .int (nI i), .int p0, .int p1])).length) Slot.unset).toArray = ls at hl ⊢
  have hl : lv_has ls 5 [(0, .ref x), (1, .int (nI i)), (2, .int p0), (3, .int p1)] := hl
  obtain ⟨hxx, hsA, hrA, hSs, hRr, hIn, hn, hkk, hjs, hjr, hAne⟩ := id hXI
  refine lv_aload_n hx hb d_RR_comes_0 rfl (lv_at hl 0 rfl) ?_
  refine lv_iload_n hx hb d_RR_comes_1 rfl (lv_at hl 1 rfl) ?_
  refine z_pa (n_RR_RR_saleAt hx hown hG (va_recv hK (hS.1.one hxx) (ci := 0) (q0 := 0) rfl rfl) (by rw [hb]; exact d_RR_comes_2)) hb (hl.1.trans hml.symm) (c_RR_saleAt l hl9 x sA rA n k td sd (nI i) hxx hsA hn) (by rw [if_pos ((z_rs1 (by omega) hn).mpr hi), nI_clamp (show i < 2 ^ 31 by omega)]) (z_Gkeeps lo tP) hG hK hS (cw_RR_saleAt hG (by decide) (by decide)) d_RR_comes_2 (Nat.le_of_ble_eq_true rfl) (by decide) (by decide) (fun H hq hS => ?_)
  refine lv_astore (lv' := [(4, .ref (sd i)), (0, .ref x), (1, .int (nI i)), (2, .int p0), (3, .int p1)]) hx hb d_RR_comes_5 hl (by decide) rfl (fun ls hl => ?_)
  refine lv_iload_n hx hb d_RR_comes_7 rfl (lv_at hl 3 rfl) ?_
  refine lv_iconst (v := 0) hx hb d_RR_comes_8 (by decide) ?_
  refine lv_bipush (v := 7) hx hb d_RR_comes_9 (by decide) ?_
  by_cases w_1 : z_rg p0 0 7
  · refine z_pv (n_RR_RR_requireWithin hx hown hG (by rw [hb]; exact d_RR_comes_11)) hb (hl.1.trans hml.symm) (c_RR_requireWithin l hl9 p0 0 7) (if_pos w_1) (z_Gkeeps lo tP) hG hK hS (cw_RR_requireWithin hG (by decide) (by decide)) d_RR_comes_11 (Nat.le_of_ble_eq_true rfl) (by decide) (by decide) (fun H hq hS => ?_)
    refine lv_aload hx hb d_RR_comes_14 (lv_at hl 0 rfl) ?_
    refine z_get (ci := 1) (C := R_SA) (T := F_SA) (N := 6) hx hb hts j_SA hown hK hS (hSs i hi) rfl 5 (by decide) (hk k_200 rfl) (fun _ h9 => h9) rfl d_RR_comes_16 ?_
    refine lv_if_eq (tgt := 32) hx hb d_RR_comes_19 (by decide) (fun c_2 => ?_) (fun c_2 => ?_)
    · refine lv_aload_n hx hb d_RR_comes_32 rfl (lv_at hl 1 rfl) ?_
      refine z_get (ci := 0) (C := R_RR) (T := F_RR) (N := 5) hx hb hts j_RR hown hK hS hxx rfl 3 (by decide) (hk k_46 rfl) (fun _ h9 => h9) rfl d_RR_comes_33 ?_
      refine lv_aload_n hx hb d_RR_comes_36 rfl (lv_at hl 1 rfl) ?_
      refine z_get (ci := 0) (C := R_RR) (T := F_RR) (N := 5) hx hb hts j_RR hown hK hS hxx rfl 1 (by decide) (hk k_44 rfl) (fun _ h9 => h9) rfl d_RR_comes_37 ?_
      refine z_alen hx hb hK hS 1 hrA rfl (v := 20) rfl d_RR_comes_40 ?_
      refine lv_icmp_lt (tgt := 54) hx hb d_RR_comes_41 (by decide) (fun c_3 => ?_) (fun c_3 => ?_)
      · have hlt : k < 20 := (nI_ltI (by omega) (by decide)).mp c_3
        refine lv_aload hx hb d_RR_comes_54 (lv_at hl 0 rfl) ?_
        refine lv_iconst (v := 1) hx hb d_RR_comes_56 (by decide) ?_
        refine z_put (ci := 1) (C := R_SA) (T := F_SA) (N := 6) (ty := .boolean) (fs' := [.int (nI i), .int (S i 1), .int (S i 2), .int (S i 3), .int (S i 4), .int 1]) hx hb hts j_SA t_SA t_SA_ok n_SA hown hK hS (hSs i hi) rfl 5 (by decide) (hk k_200 rfl) (fun _ h9 => h9) rfl (by decide +kernel) rfl rfl (Nat.le_of_ble_eq_true rfl) d_RR_comes_57 rfl (fun H locs hS => ?_)
        have e_4 : (z_up X (sd i) (.inr (1, [.int (nI i), .int (S i 1), .int (S i 2), .int (S i 3), .int (S i 4), .int 1]))) x = some (.inr (0, [.ref sA, .ref rA, .int (nI n), .int (nI k), .int td])) := (z_ne (z_oo hxx (hSs i hi) (by decide))).trans hxx
        have e_5 : (z_up X (sd i) (.inr (1, [.int (nI i), .int (S i 1), .int (S i 2), .int (S i 3), .int (S i 4), .int 1]))) sA = some (.inl (cS, 20, .inr (.inr (.inr (.inr (fun i => if i < n then some (sd i) else none)))))) := (z_ne (z_ao hsA (hSs i hi))).trans hsA
        have e_6 : (z_up X (sd i) (.inr (1, [.int (nI i), .int (S i 1), .int (S i 2), .int (S i 3), .int (S i 4), .int 1]))) rA = some (.inl (cR, 20, .inr (.inr (.inr (.inr (fun i => if i < k then some (rd i) else none)))))) := (z_ne (z_ao hrA (hSs i hi))).trans hrA
        have e_7 : (z_up X (sd i) (.inr (1, [.int (nI i), .int (S i 1), .int (S i 2), .int (S i 3), .int (S i 4), .int 1]))) (sd i) = some (.inr (1, [.int (nI i), .int (S i 1), .int (S i 2), .int (S i 3), .int (S i 4), .int 1])) := z_eq _ _ _
        refine lv_aload_n hx hb d_RR_comes_60 rfl (lv_at hl 1 rfl) ?_
        refine z_get (ci := 0) (C := R_RR) (T := F_RR) (N := 5) hx hb hts j_RR hown hK hS e_4 rfl 1 (by decide) (hk k_44 rfl) (fun _ h9 => h9) rfl d_RR_comes_61 ?_
        refine lv_aload_n hx hb d_RR_comes_64 rfl (lv_at hl 1 rfl) ?_
        refine z_get (ci := 0) (C := R_RR) (T := F_RR) (N := 5) hx hb hts j_RR hown hK hS e_4 rfl 3 (by decide) (hk k_46 rfl) (fun _ h9 => h9) rfl d_RR_comes_65 ?_
        refine z_new (ci := 2) (fs := [.null, .int 0, .int 0, .int 0, .int 0, .int 0, .int 0, .int 0, .int 0, .int 0, .int 0, .int 0, .int 0, .int 0, .int 0]) (C := R_RE) (T := F_RE) (N := 15) hx hb hts j_RE t_RE t_RE_ok hown (hk k_41 rfl) (hk k_260 rfl) (hk k_28 rfl) hK hS rfl (by decide) (by decide) (by decide) d_RR_comes_68 (fun q_8 H f_q_8 hS => ?_)
        have e_9 : (z_up (z_up X (sd i) (.inr (1, [.int (nI i), .int (S i 1), .int (S i 2), .int (S i 3), .int (S i 4), .int 1]))) q_8 (.inr (2, [.null, .int 0, .int 0, .int 0, .int 0, .int 0, .int 0, .int 0, .int 0, .int 0, .int 0, .int 0, .int 0, .int 0, .int 0]))) x = some (.inr (0, [.ref sA, .ref rA, .int (nI n), .int (nI k), .int td])) := (z_ne (z_nf e_4 f_q_8)).trans e_4
        have e_10 : (z_up (z_up X (sd i) (.inr (1, [.int (nI i), .int (S i 1), .int (S i 2), .int (S i 3), .int (S i 4), .int 1]))) q_8 (.inr (2, [.null, .int 0, .int 0, .int 0, .int 0, .int 0, .int 0, .int 0, .int 0, .int 0, .int 0, .int 0, .int 0, .int 0, .int 0]))) sA = some (.inl (cS, 20, .inr (.inr (.inr (.inr (fun i => if i < n then some (sd i) else none)))))) := (z_ne (z_nf e_5 f_q_8)).trans e_5
        have e_11 : (z_up (z_up X (sd i) (.inr (1, [.int (nI i), .int (S i 1), .int (S i 2), .int (S i 3), .int (S i 4), .int 1]))) q_8 (.inr (2, [.null, .int 0, .int 0, .int 0, .int 0, .int 0, .int 0, .int 0, .int 0, .int 0, .int 0, .int 0, .int 0, .int 0, .int 0]))) rA = some (.inl (cR, 20, .inr (.inr (.inr (.inr (fun i => if i < k then some (rd i) else none)))))) := (z_ne (z_nf e_6 f_q_8)).trans e_6
        have e_12 : (z_up (z_up X (sd i) (.inr (1, [.int (nI i), .int (S i 1), .int (S i 2), .int (S i 3), .int (S i 4), .int 1]))) q_8 (.inr (2, [.null, .int 0, .int 0, .int 0, .int 0, .int 0, .int 0, .int 0, .int 0, .int 0, .int 0, .int 0, .int 0, .int 0, .int 0]))) (sd i) = some (.inr (1, [.int (nI i), .int (S i 1), .int (S i 2), .int (S i 3), .int (S i 4), .int 1])) := (z_ne (z_nf e_7 f_q_8)).trans e_7
        have e_13 : (z_up (z_up X (sd i) (.inr (1, [.int (nI i), .int (S i 1), .int (S i 2), .int (S i 3), .int (S i 4), .int 1]))) q_8 (.inr (2, [.null, .int 0, .int 0, .int 0, .int 0, .int 0, .int 0, .int 0, .int 0, .int 0, .int 0, .int 0, .int 0, .int 0, .int 0]))) q_8 = some (.inr (2, [.null, .int 0, .int 0, .int 0, .int 0, .int 0, .int 0, .int 0, .int 0, .int 0, .int 0, .int 0, .int 0, .int 0, .int 0])) := z_eq _ _ _
        refine lv_dup hx hb d_RR_comes_71 rfl ?_
        refine lv_aload hx hb d_RR_comes_72 (lv_at hl 0 rfl) ?_
        refine lv_iload_n hx hb d_RR_comes_74 rfl (lv_at hl 3 rfl) ?_
        refine lv_iload_n hx hb d_RR_comes_75 rfl (lv_at hl 4 rfl) ?_
        refine lv_if_eq (tgt := 83) hx hb d_RR_comes_76 (by decide) (fun c_14 => ?_) (fun c_14 => ?_)
        · refine lv_iconst (v := 1) hx hb d_RR_comes_83 (by decide) ?_
          refine lv_aload_n hx hb d_RR_comes_84 rfl (lv_at hl 1 rfl) ?_
          refine z_get (ci := 0) (C := R_RR) (T := F_RR) (N := 5) hx hb hts j_RR hown hK hS e_9 rfl 4 (by decide) (hk k_47 rfl) (fun _ h9 => h9) rfl d_RR_comes_85 ?_
          have eci := c_RE_init l hl9 (D := D) (tys := zty cS cR cJ cI cZ) (lo := lo) (tP := tP) q_8 (sd i) p0 1 td (X := (z_up (z_up X (sd i) (.inr (1, [.int (nI i), .int (S i 1), .int (S i 2), .int (S i 3), .int (S i 4), .int 1]))) q_8 (.inr (2, [.null, .int 0, .int 0, .int 0, .int 0, .int 0, .int 0, .int 0, .int 0, .int 0, .int 0, .int 0, .int 0, .int 0, .int 0])))) e_13
          refine z_wv (n_RR_RE_init hx hown hG (by rw [hb]; exact d_RR_comes_88)) hb (hl.1.trans hml.symm) eci (fun _ _ h9 => h9) (z_Gkeeps lo tP) hG hK hS (cw_RE_init hG (by decide) (by decide)) d_RR_comes_88 (Nat.le_of_ble_eq_true rfl) (by decide) (by decide) (fun H locs hS => ?_)
          have e_15 : (z_up (z_up (z_up X (sd i) (.inr (1, [.int (nI i), .int (S i 1), .int (S i 2), .int (S i 3), .int (S i 4), .int 1]))) q_8 (.inr (2, [.null, .int 0, .int 0, .int 0, .int 0, .int 0, .int 0, .int 0, .int 0, .int 0, .int 0, .int 0, .int 0, .int 0, .int 0]))) q_8 (.inr (2, [.ref (sd i), .int p0, .int td, .int 1, .int (-1), .int 0, .int 0, .int 0, .int (-1), .int (-1), .int (-1), .int 0, .int 0, .int 0, .int 0]))) x = some (.inr (0, [.ref sA, .ref rA, .int (nI n), .int (nI k), .int td])) := (z_ne (z_oo e_9 e_13 (by decide))).trans e_9
          have e_16 : (z_up (z_up (z_up X (sd i) (.inr (1, [.int (nI i), .int (S i 1), .int (S i 2), .int (S i 3), .int (S i 4), .int 1]))) q_8 (.inr (2, [.null, .int 0, .int 0, .int 0, .int 0, .int 0, .int 0, .int 0, .int 0, .int 0, .int 0, .int 0, .int 0, .int 0, .int 0]))) q_8 (.inr (2, [.ref (sd i), .int p0, .int td, .int 1, .int (-1), .int 0, .int 0, .int 0, .int (-1), .int (-1), .int (-1), .int 0, .int 0, .int 0, .int 0]))) sA = some (.inl (cS, 20, .inr (.inr (.inr (.inr (fun i => if i < n then some (sd i) else none)))))) := (z_ne (z_ao e_10 e_13)).trans e_10
          have e_17 : (z_up (z_up (z_up X (sd i) (.inr (1, [.int (nI i), .int (S i 1), .int (S i 2), .int (S i 3), .int (S i 4), .int 1]))) q_8 (.inr (2, [.null, .int 0, .int 0, .int 0, .int 0, .int 0, .int 0, .int 0, .int 0, .int 0, .int 0, .int 0, .int 0, .int 0, .int 0]))) q_8 (.inr (2, [.ref (sd i), .int p0, .int td, .int 1, .int (-1), .int 0, .int 0, .int 0, .int (-1), .int (-1), .int (-1), .int 0, .int 0, .int 0, .int 0]))) rA = some (.inl (cR, 20, .inr (.inr (.inr (.inr (fun i => if i < k then some (rd i) else none)))))) := (z_ne (z_ao e_11 e_13)).trans e_11
          have e_18 : (z_up (z_up (z_up X (sd i) (.inr (1, [.int (nI i), .int (S i 1), .int (S i 2), .int (S i 3), .int (S i 4), .int 1]))) q_8 (.inr (2, [.null, .int 0, .int 0, .int 0, .int 0, .int 0, .int 0, .int 0, .int 0, .int 0, .int 0, .int 0, .int 0, .int 0, .int 0]))) q_8 (.inr (2, [.ref (sd i), .int p0, .int td, .int 1, .int (-1), .int 0, .int 0, .int 0, .int (-1), .int (-1), .int (-1), .int 0, .int 0, .int 0, .int 0]))) (sd i) = some (.inr (1, [.int (nI i), .int (S i 1), .int (S i 2), .int (S i 3), .int (S i 4), .int 1])) := (z_ne (z_oo e_12 e_13 (by decide))).trans e_12
          have e_19 : (z_up (z_up (z_up X (sd i) (.inr (1, [.int (nI i), .int (S i 1), .int (S i 2), .int (S i 3), .int (S i 4), .int 1]))) q_8 (.inr (2, [.null, .int 0, .int 0, .int 0, .int 0, .int 0, .int 0, .int 0, .int 0, .int 0, .int 0, .int 0, .int 0, .int 0, .int 0]))) q_8 (.inr (2, [.ref (sd i), .int p0, .int td, .int 1, .int (-1), .int 0, .int 0, .int 0, .int (-1), .int (-1), .int (-1), .int 0, .int 0, .int 0, .int 0]))) q_8 = some (.inr (2, [.ref (sd i), .int p0, .int td, .int 1, .int (-1), .int 0, .int 0, .int 0, .int (-1), .int (-1), .int (-1), .int 0, .int 0, .int 0, .int 0])) := z_eq _ _ _
          refine z_aast hx hb hK hS 1 2 e_17 rfl e_19 rfl (vp_in_nI hlt (by decide)) d_RR_comes_91 (fun H locs hS => ?_)
          rw [z_arr1 k q_8 rd hlt] at hS
          have e_20 : (z_up (z_up (z_up (z_up X (sd i) (.inr (1, [.int (nI i), .int (S i 1), .int (S i 2), .int (S i 3), .int (S i 4), .int 1]))) q_8 (.inr (2, [.null, .int 0, .int 0, .int 0, .int 0, .int 0, .int 0, .int 0, .int 0, .int 0, .int 0, .int 0, .int 0, .int 0, .int 0]))) q_8 (.inr (2, [.ref (sd i), .int p0, .int td, .int 1, .int (-1), .int 0, .int 0, .int 0, .int (-1), .int (-1), .int (-1), .int 0, .int 0, .int 0, .int 0]))) rA (.inl (cR, 20, .inr (.inr (.inr (.inr (fun i => if i < k + 1 then some (zui rd k q_8 i) else none))))))) x = some (.inr (0, [.ref sA, .ref rA, .int (nI n), .int (nI k), .int td])) := (z_ne (z_oa e_15 e_17)).trans e_15
          have e_21 : (z_up (z_up (z_up (z_up X (sd i) (.inr (1, [.int (nI i), .int (S i 1), .int (S i 2), .int (S i 3), .int (S i 4), .int 1]))) q_8 (.inr (2, [.null, .int 0, .int 0, .int 0, .int 0, .int 0, .int 0, .int 0, .int 0, .int 0, .int 0, .int 0, .int 0, .int 0, .int 0]))) q_8 (.inr (2, [.ref (sd i), .int p0, .int td, .int 1, .int (-1), .int 0, .int 0, .int 0, .int (-1), .int (-1), .int (-1), .int 0, .int 0, .int 0, .int 0]))) rA (.inl (cR, 20, .inr (.inr (.inr (.inr (fun i => if i < k + 1 then some (zui rd k q_8 i) else none))))))) sA = some (.inl (cS, 20, .inr (.inr (.inr (.inr (fun i => if i < n then some (sd i) else none)))))) := (z_ne hAne).trans e_16
          have e_22 : (z_up (z_up (z_up (z_up X (sd i) (.inr (1, [.int (nI i), .int (S i 1), .int (S i 2), .int (S i 3), .int (S i 4), .int 1]))) q_8 (.inr (2, [.null, .int 0, .int 0, .int 0, .int 0, .int 0, .int 0, .int 0, .int 0, .int 0, .int 0, .int 0, .int 0, .int 0, .int 0]))) q_8 (.inr (2, [.ref (sd i), .int p0, .int td, .int 1, .int (-1), .int 0, .int 0, .int 0, .int (-1), .int (-1), .int (-1), .int 0, .int 0, .int 0, .int 0]))) rA (.inl (cR, 20, .inr (.inr (.inr (.inr (fun i => if i < k + 1 then some (zui rd k q_8 i) else none))))))) (sd i) = some (.inr (1, [.int (nI i), .int (S i 1), .int (S i 2), .int (S i 3), .int (S i 4), .int 1])) := (z_ne (z_oa e_18 e_17)).trans e_18
          have e_23 : (z_up (z_up (z_up (z_up X (sd i) (.inr (1, [.int (nI i), .int (S i 1), .int (S i 2), .int (S i 3), .int (S i 4), .int 1]))) q_8 (.inr (2, [.null, .int 0, .int 0, .int 0, .int 0, .int 0, .int 0, .int 0, .int 0, .int 0, .int 0, .int 0, .int 0, .int 0, .int 0]))) q_8 (.inr (2, [.ref (sd i), .int p0, .int td, .int 1, .int (-1), .int 0, .int 0, .int 0, .int (-1), .int (-1), .int (-1), .int 0, .int 0, .int 0, .int 0]))) rA (.inl (cR, 20, .inr (.inr (.inr (.inr (fun i => if i < k + 1 then some (zui rd k q_8 i) else none))))))) q_8 = some (.inr (2, [.ref (sd i), .int p0, .int td, .int 1, .int (-1), .int 0, .int 0, .int 0, .int (-1), .int (-1), .int (-1), .int 0, .int 0, .int 0, .int 0])) := (z_ne (z_oa e_19 e_17)).trans e_19
          have e_24 : (z_up (z_up (z_up (z_up X (sd i) (.inr (1, [.int (nI i), .int (S i 1), .int (S i 2), .int (S i 3), .int (S i 4), .int 1]))) q_8 (.inr (2, [.null, .int 0, .int 0, .int 0, .int 0, .int 0, .int 0, .int 0, .int 0, .int 0, .int 0, .int 0, .int 0, .int 0, .int 0]))) q_8 (.inr (2, [.ref (sd i), .int p0, .int td, .int 1, .int (-1), .int 0, .int 0, .int 0, .int (-1), .int (-1), .int (-1), .int 0, .int 0, .int 0, .int 0]))) rA (.inl (cR, 20, .inr (.inr (.inr (.inr (fun i => if i < k + 1 then some (zui rd k q_8 i) else none))))))) rA = some (.inl (cR, 20, .inr (.inr (.inr (.inr (fun i => if i < k + 1 then some (zui rd k q_8 i) else none)))))) := z_eq _ _ _
          refine lv_aload_n hx hb d_RR_comes_92 rfl (lv_at hl 1 rfl) ?_
          refine lv_dup hx hb d_RR_comes_93 rfl ?_
          refine z_get (ci := 0) (C := R_RR) (T := F_RR) (N := 5) hx hb hts j_RR hown hK hS e_20 rfl 3 (by decide) (hk k_46 rfl) (fun _ h9 => h9) rfl d_RR_comes_94 ?_
          refine lv_iconst (v := 1) hx hb d_RR_comes_97 (by decide) ?_
          refine lv_iadd hx hb d_RR_comes_98 ?_
          refine z_put (ci := 0) (C := R_RR) (T := F_RR) (N := 5) (ty := .int) (fs' := [.ref sA, .ref rA, .int (nI n), .int ((nI k) + 1), .int td]) hx hb hts j_RR t_RR t_RR_ok n_RR hown hK hS e_20 rfl 3 (by decide) (hk k_46 rfl) (fun _ h9 => h9) rfl (by decide +kernel) rfl rfl (Nat.le_of_ble_eq_true rfl) d_RR_comes_99 rfl (fun H locs hS => ?_)
          have e_25 : (z_up (z_up (z_up (z_up (z_up X (sd i) (.inr (1, [.int (nI i), .int (S i 1), .int (S i 2), .int (S i 3), .int (S i 4), .int 1]))) q_8 (.inr (2, [.null, .int 0, .int 0, .int 0, .int 0, .int 0, .int 0, .int 0, .int 0, .int 0, .int 0, .int 0, .int 0, .int 0, .int 0]))) q_8 (.inr (2, [.ref (sd i), .int p0, .int td, .int 1, .int (-1), .int 0, .int 0, .int 0, .int (-1), .int (-1), .int (-1), .int 0, .int 0, .int 0, .int 0]))) rA (.inl (cR, 20, .inr (.inr (.inr (.inr (fun i => if i < k + 1 then some (zui rd k q_8 i) else none))))))) x (.inr (0, [.ref sA, .ref rA, .int (nI n), .int ((nI k) + 1), .int td]))) sA = some (.inl (cS, 20, .inr (.inr (.inr (.inr (fun i => if i < n then some (sd i) else none)))))) := (z_ne (z_ao e_21 e_20)).trans e_21
          have e_26 : (z_up (z_up (z_up (z_up (z_up X (sd i) (.inr (1, [.int (nI i), .int (S i 1), .int (S i 2), .int (S i 3), .int (S i 4), .int 1]))) q_8 (.inr (2, [.null, .int 0, .int 0, .int 0, .int 0, .int 0, .int 0, .int 0, .int 0, .int 0, .int 0, .int 0, .int 0, .int 0, .int 0]))) q_8 (.inr (2, [.ref (sd i), .int p0, .int td, .int 1, .int (-1), .int 0, .int 0, .int 0, .int (-1), .int (-1), .int (-1), .int 0, .int 0, .int 0, .int 0]))) rA (.inl (cR, 20, .inr (.inr (.inr (.inr (fun i => if i < k + 1 then some (zui rd k q_8 i) else none))))))) x (.inr (0, [.ref sA, .ref rA, .int (nI n), .int ((nI k) + 1), .int td]))) (sd i) = some (.inr (1, [.int (nI i), .int (S i 1), .int (S i 2), .int (S i 3), .int (S i 4), .int 1])) := (z_ne (z_oo e_22 e_20 (by decide))).trans e_22
          have e_27 : (z_up (z_up (z_up (z_up (z_up X (sd i) (.inr (1, [.int (nI i), .int (S i 1), .int (S i 2), .int (S i 3), .int (S i 4), .int 1]))) q_8 (.inr (2, [.null, .int 0, .int 0, .int 0, .int 0, .int 0, .int 0, .int 0, .int 0, .int 0, .int 0, .int 0, .int 0, .int 0, .int 0]))) q_8 (.inr (2, [.ref (sd i), .int p0, .int td, .int 1, .int (-1), .int 0, .int 0, .int 0, .int (-1), .int (-1), .int (-1), .int 0, .int 0, .int 0, .int 0]))) rA (.inl (cR, 20, .inr (.inr (.inr (.inr (fun i => if i < k + 1 then some (zui rd k q_8 i) else none))))))) x (.inr (0, [.ref sA, .ref rA, .int (nI n), .int ((nI k) + 1), .int td]))) q_8 = some (.inr (2, [.ref (sd i), .int p0, .int td, .int 1, .int (-1), .int 0, .int 0, .int 0, .int (-1), .int (-1), .int (-1), .int 0, .int 0, .int 0, .int 0])) := (z_ne (z_oo e_23 e_20 (by decide))).trans e_23
          have e_28 : (z_up (z_up (z_up (z_up (z_up X (sd i) (.inr (1, [.int (nI i), .int (S i 1), .int (S i 2), .int (S i 3), .int (S i 4), .int 1]))) q_8 (.inr (2, [.null, .int 0, .int 0, .int 0, .int 0, .int 0, .int 0, .int 0, .int 0, .int 0, .int 0, .int 0, .int 0, .int 0, .int 0]))) q_8 (.inr (2, [.ref (sd i), .int p0, .int td, .int 1, .int (-1), .int 0, .int 0, .int 0, .int (-1), .int (-1), .int (-1), .int 0, .int 0, .int 0, .int 0]))) rA (.inl (cR, 20, .inr (.inr (.inr (.inr (fun i => if i < k + 1 then some (zui rd k q_8 i) else none))))))) x (.inr (0, [.ref sA, .ref rA, .int (nI n), .int ((nI k) + 1), .int td]))) rA = some (.inl (cR, 20, .inr (.inr (.inr (.inr (fun i => if i < k + 1 then some (zui rd k q_8 i) else none)))))) := (z_ne (z_ao e_24 e_20)).trans e_24
          have e_29 : (z_up (z_up (z_up (z_up (z_up X (sd i) (.inr (1, [.int (nI i), .int (S i 1), .int (S i 2), .int (S i 3), .int (S i 4), .int 1]))) q_8 (.inr (2, [.null, .int 0, .int 0, .int 0, .int 0, .int 0, .int 0, .int 0, .int 0, .int 0, .int 0, .int 0, .int 0, .int 0, .int 0]))) q_8 (.inr (2, [.ref (sd i), .int p0, .int td, .int 1, .int (-1), .int 0, .int 0, .int 0, .int (-1), .int (-1), .int (-1), .int 0, .int 0, .int 0, .int 0]))) rA (.inl (cR, 20, .inr (.inr (.inr (.inr (fun i => if i < k + 1 then some (zui rd k q_8 i) else none))))))) x (.inr (0, [.ref sA, .ref rA, .int (nI n), .int ((nI k) + 1), .int td]))) x = some (.inr (0, [.ref sA, .ref rA, .int (nI n), .int ((nI k) + 1), .int td])) := z_eq _ _ _
          refine lv_aload_n hx hb d_RR_comes_102 rfl (lv_at hl 1 rfl) ?_
          refine z_get (ci := 0) (C := R_RR) (T := F_RR) (N := 5) hx hb hts j_RR hown hK hS e_29 rfl 3 (by decide) (hk k_46 rfl) (fun _ h9 => h9) rfl d_RR_comes_103 ?_
          exact z_Ciret hx hb hr rfl hlk hS (by simp only [if_pos c_14]; exact zT0 (by unfold cd_comes; rw [if_pos w_1]; rw [if_pos c_2]; exact if_neg (fun h => (z_n20 hkk).mp h c_3)) ⟨sA, rA, sd, _, XI.comes hXI hlt hi (fun e9 h9 => f_q_8 _ ((z_ne (fun z9 => f_q_8 _ (by rw [z9]; exact z_eq _ _ _))).trans h9)) (by rw [← nI_1]; exact e_29) e_28 e_27 e_26 (fun b h1 h2 h3 h4 => (z_ne h1).trans ((z_ne h2).trans ((z_ne h3).trans ((z_ne h3).trans (z_ne h4)))))⟩ (((((zFr.rf.up (hSs i hi) rfl).nw f_q_8).up e_13 rfl).up e_17 rfl).up e_20 rfl)) (by decide) (by decide) d_RR_comes_106
        · refine lv_iconst (v := 0) hx hb d_RR_comes_79 (by decide) ?_
          refine lv_goto (tgt := 84) hx hb d_RR_comes_80 (by decide) ?_
          refine lv_aload_n hx hb d_RR_comes_84 rfl (lv_at hl 1 rfl) ?_
          refine z_get (ci := 0) (C := R_RR) (T := F_RR) (N := 5) hx hb hts j_RR hown hK hS e_9 rfl 4 (by decide) (hk k_47 rfl) (fun _ h9 => h9) rfl d_RR_comes_85 ?_
          have eci := c_RE_init l hl9 (D := D) (tys := zty cS cR cJ cI cZ) (lo := lo) (tP := tP) q_8 (sd i) p0 0 td (X := (z_up (z_up X (sd i) (.inr (1, [.int (nI i), .int (S i 1), .int (S i 2), .int (S i 3), .int (S i 4), .int 1]))) q_8 (.inr (2, [.null, .int 0, .int 0, .int 0, .int 0, .int 0, .int 0, .int 0, .int 0, .int 0, .int 0, .int 0, .int 0, .int 0, .int 0])))) e_13
          refine z_wv (n_RR_RE_init hx hown hG (by rw [hb]; exact d_RR_comes_88)) hb (hl.1.trans hml.symm) eci (fun _ _ h9 => h9) (z_Gkeeps lo tP) hG hK hS (cw_RE_init hG (by decide) (by decide)) d_RR_comes_88 (Nat.le_of_ble_eq_true rfl) (by decide) (by decide) (fun H locs hS => ?_)
          have e_30 : (z_up (z_up (z_up X (sd i) (.inr (1, [.int (nI i), .int (S i 1), .int (S i 2), .int (S i 3), .int (S i 4), .int 1]))) q_8 (.inr (2, [.null, .int 0, .int 0, .int 0, .int 0, .int 0, .int 0, .int 0, .int 0, .int 0, .int 0, .int 0, .int 0, .int 0, .int 0]))) q_8 (.inr (2, [.ref (sd i), .int p0, .int td, .int 0, .int (-1), .int 0, .int 0, .int 0, .int (-1), .int (-1), .int (-1), .int 0, .int 0, .int 0, .int 0]))) x = some (.inr (0, [.ref sA, .ref rA, .int (nI n), .int (nI k), .int td])) := (z_ne (z_oo e_9 e_13 (by decide))).trans e_9
          have e_31 : (z_up (z_up (z_up X (sd i) (.inr (1, [.int (nI i), .int (S i 1), .int (S i 2), .int (S i 3), .int (S i 4), .int 1]))) q_8 (.inr (2, [.null, .int 0, .int 0, .int 0, .int 0, .int 0, .int 0, .int 0, .int 0, .int 0, .int 0, .int 0, .int 0, .int 0, .int 0]))) q_8 (.inr (2, [.ref (sd i), .int p0, .int td, .int 0, .int (-1), .int 0, .int 0, .int 0, .int (-1), .int (-1), .int (-1), .int 0, .int 0, .int 0, .int 0]))) sA = some (.inl (cS, 20, .inr (.inr (.inr (.inr (fun i => if i < n then some (sd i) else none)))))) := (z_ne (z_ao e_10 e_13)).trans e_10
          have e_32 : (z_up (z_up (z_up X (sd i) (.inr (1, [.int (nI i), .int (S i 1), .int (S i 2), .int (S i 3), .int (S i 4), .int 1]))) q_8 (.inr (2, [.null, .int 0, .int 0, .int 0, .int 0, .int 0, .int 0, .int 0, .int 0, .int 0, .int 0, .int 0, .int 0, .int 0, .int 0]))) q_8 (.inr (2, [.ref (sd i), .int p0, .int td, .int 0, .int (-1), .int 0, .int 0, .int 0, .int (-1), .int (-1), .int (-1), .int 0, .int 0, .int 0, .int 0]))) rA = some (.inl (cR, 20, .inr (.inr (.inr (.inr (fun i => if i < k then some (rd i) else none)))))) := (z_ne (z_ao e_11 e_13)).trans e_11
          have e_33 : (z_up (z_up (z_up X (sd i) (.inr (1, [.int (nI i), .int (S i 1), .int (S i 2), .int (S i 3), .int (S i 4), .int 1]))) q_8 (.inr (2, [.null, .int 0, .int 0, .int 0, .int 0, .int 0, .int 0, .int 0, .int 0, .int 0, .int 0, .int 0, .int 0, .int 0, .int 0]))) q_8 (.inr (2, [.ref (sd i), .int p0, .int td, .int 0, .int (-1), .int 0, .int 0, .int 0, .int (-1), .int (-1), .int (-1), .int 0, .int 0, .int 0, .int 0]))) (sd i) = some (.inr (1, [.int (nI i), .int (S i 1), .int (S i 2), .int (S i 3), .int (S i 4), .int 1])) := (z_ne (z_oo e_12 e_13 (by decide))).trans e_12
          have e_34 : (z_up (z_up (z_up X (sd i) (.inr (1, [.int (nI i), .int (S i 1), .int (S i 2), .int (S i 3), .int (S i 4), .int 1]))) q_8 (.inr (2, [.null, .int 0, .int 0, .int 0, .int 0, .int 0, .int 0, .int 0, .int 0, .int 0, .int 0, .int 0, .int 0, .int 0, .int 0]))) q_8 (.inr (2, [.ref (sd i), .int p0, .int td, .int 0, .int (-1), .int 0, .int 0, .int 0, .int (-1), .int (-1), .int (-1), .int 0, .int 0, .int 0, .int 0]))) q_8 = some (.inr (2, [.ref (sd i), .int p0, .int td, .int 0, .int (-1), .int 0, .int 0, .int 0, .int (-1), .int (-1), .int (-1), .int 0, .int 0, .int 0, .int 0])) := z_eq _ _ _
          refine z_aast hx hb hK hS 1 2 e_32 rfl e_34 rfl (vp_in_nI hlt (by decide)) d_RR_comes_91 (fun H locs hS => ?_)
          rw [z_arr1 k q_8 rd hlt] at hS
          have e_35 : (z_up (z_up (z_up (z_up X (sd i) (.inr (1, [.int (nI i), .int (S i 1), .int (S i 2), .int (S i 3), .int (S i 4), .int 1]))) q_8 (.inr (2, [.null, .int 0, .int 0, .int 0, .int 0, .int 0, .int 0, .int 0, .int 0, .int 0, .int 0, .int 0, .int 0, .int 0, .int 0]))) q_8 (.inr (2, [.ref (sd i), .int p0, .int td, .int 0, .int (-1), .int 0, .int 0, .int 0, .int (-1), .int (-1), .int (-1), .int 0, .int 0, .int 0, .int 0]))) rA (.inl (cR, 20, .inr (.inr (.inr (.inr (fun i => if i < k + 1 then some (zui rd k q_8 i) else none))))))) x = some (.inr (0, [.ref sA, .ref rA, .int (nI n), .int (nI k), .int td])) := (z_ne (z_oa e_30 e_32)).trans e_30
          have e_36 : (z_up (z_up (z_up (z_up X (sd i) (.inr (1, [.int (nI i), .int (S i 1), .int (S i 2), .int (S i 3), .int (S i 4), .int 1]))) q_8 (.inr (2, [.null, .int 0, .int 0, .int 0, .int 0, .int 0, .int 0, .int 0, .int 0, .int 0, .int 0, .int 0, .int 0, .int 0, .int 0]))) q_8 (.inr (2, [.ref (sd i), .int p0, .int td, .int 0, .int (-1), .int 0, .int 0, .int 0, .int (-1), .int (-1), .int (-1), .int 0, .int 0, .int 0, .int 0]))) rA (.inl (cR, 20, .inr (.inr (.inr (.inr (fun i => if i < k + 1 then some (zui rd k q_8 i) else none))))))) sA = some (.inl (cS, 20, .inr (.inr (.inr (.inr (fun i => if i < n then some (sd i) else none)))))) := (z_ne hAne).trans e_31
          have e_37 : (z_up (z_up (z_up (z_up X (sd i) (.inr (1, [.int (nI i), .int (S i 1), .int (S i 2), .int (S i 3), .int (S i 4), .int 1]))) q_8 (.inr (2, [.null, .int 0, .int 0, .int 0, .int 0, .int 0, .int 0, .int 0, .int 0, .int 0, .int 0, .int 0, .int 0, .int 0, .int 0]))) q_8 (.inr (2, [.ref (sd i), .int p0, .int td, .int 0, .int (-1), .int 0, .int 0, .int 0, .int (-1), .int (-1), .int (-1), .int 0, .int 0, .int 0, .int 0]))) rA (.inl (cR, 20, .inr (.inr (.inr (.inr (fun i => if i < k + 1 then some (zui rd k q_8 i) else none))))))) (sd i) = some (.inr (1, [.int (nI i), .int (S i 1), .int (S i 2), .int (S i 3), .int (S i 4), .int 1])) := (z_ne (z_oa e_33 e_32)).trans e_33
          have e_38 : (z_up (z_up (z_up (z_up X (sd i) (.inr (1, [.int (nI i), .int (S i 1), .int (S i 2), .int (S i 3), .int (S i 4), .int 1]))) q_8 (.inr (2, [.null, .int 0, .int 0, .int 0, .int 0, .int 0, .int 0, .int 0, .int 0, .int 0, .int 0, .int 0, .int 0, .int 0, .int 0]))) q_8 (.inr (2, [.ref (sd i), .int p0, .int td, .int 0, .int (-1), .int 0, .int 0, .int 0, .int (-1), .int (-1), .int (-1), .int 0, .int 0, .int 0, .int 0]))) rA (.inl (cR, 20, .inr (.inr (.inr (.inr (fun i => if i < k + 1 then some (zui rd k q_8 i) else none))))))) q_8 = some (.inr (2, [.ref (sd i), .int p0, .int td, .int 0, .int (-1), .int 0, .int 0, .int 0, .int (-1), .int (-1), .int (-1), .int 0, .int 0, .int 0, .int 0])) := (z_ne (z_oa e_34 e_32)).trans e_34
          have e_39 : (z_up (z_up (z_up (z_up X (sd i) (.inr (1, [.int (nI i), .int (S i 1), .int (S i 2), .int (S i 3), .int (S i 4), .int 1]))) q_8 (.inr (2, [.null, .int 0, .int 0, .int 0, .int 0, .int 0, .int 0, .int 0, .int 0, .int 0, .int 0, .int 0, .int 0, .int 0, .int 0]))) q_8 (.inr (2, [.ref (sd i), .int p0, .int td, .int 0, .int (-1), .int 0, .int 0, .int 0, .int (-1), .int (-1), .int (-1), .int 0, .int 0, .int 0, .int 0]))) rA (.inl (cR, 20, .inr (.inr (.inr (.inr (fun i => if i < k + 1 then some (zui rd k q_8 i) else none))))))) rA = some (.inl (cR, 20, .inr (.inr (.inr (.inr (fun i => if i < k + 1 then some (zui rd k q_8 i) else none)))))) := z_eq _ _ _
          refine lv_aload_n hx hb d_RR_comes_92 rfl (lv_at hl 1 rfl) ?_
          refine lv_dup hx hb d_RR_comes_93 rfl ?_
          refine z_get (ci := 0) (C := R_RR) (T := F_RR) (N := 5) hx hb hts j_RR hown hK hS e_35 rfl 3 (by decide) (hk k_46 rfl) (fun _ h9 => h9) rfl d_RR_comes_94 ?_
          refine lv_iconst (v := 1) hx hb d_RR_comes_97 (by decide) ?_
          refine lv_iadd hx hb d_RR_comes_98 ?_
          refine z_put (ci := 0) (C := R_RR) (T := F_RR) (N := 5) (ty := .int) (fs' := [.ref sA, .ref rA, .int (nI n), .int ((nI k) + 1), .int td]) hx hb hts j_RR t_RR t_RR_ok n_RR hown hK hS e_35 rfl 3 (by decide) (hk k_46 rfl) (fun _ h9 => h9) rfl (by decide +kernel) rfl rfl (Nat.le_of_ble_eq_true rfl) d_RR_comes_99 rfl (fun H locs hS => ?_)
          have e_40 : (z_up (z_up (z_up (z_up (z_up X (sd i) (.inr (1, [.int (nI i), .int (S i 1), .int (S i 2), .int (S i 3), .int (S i 4), .int 1]))) q_8 (.inr (2, [.null, .int 0, .int 0, .int 0, .int 0, .int 0, .int 0, .int 0, .int 0, .int 0, .int 0, .int 0, .int 0, .int 0, .int 0]))) q_8 (.inr (2, [.ref (sd i), .int p0, .int td, .int 0, .int (-1), .int 0, .int 0, .int 0, .int (-1), .int (-1), .int (-1), .int 0, .int 0, .int 0, .int 0]))) rA (.inl (cR, 20, .inr (.inr (.inr (.inr (fun i => if i < k + 1 then some (zui rd k q_8 i) else none))))))) x (.inr (0, [.ref sA, .ref rA, .int (nI n), .int ((nI k) + 1), .int td]))) sA = some (.inl (cS, 20, .inr (.inr (.inr (.inr (fun i => if i < n then some (sd i) else none)))))) := (z_ne (z_ao e_36 e_35)).trans e_36
          have e_41 : (z_up (z_up (z_up (z_up (z_up X (sd i) (.inr (1, [.int (nI i), .int (S i 1), .int (S i 2), .int (S i 3), .int (S i 4), .int 1]))) q_8 (.inr (2, [.null, .int 0, .int 0, .int 0, .int 0, .int 0, .int 0, .int 0, .int 0, .int 0, .int 0, .int 0, .int 0, .int 0, .int 0]))) q_8 (.inr (2, [.ref (sd i), .int p0, .int td, .int 0, .int (-1), .int 0, .int 0, .int 0, .int (-1), .int (-1), .int (-1), .int 0, .int 0, .int 0, .int 0]))) rA (.inl (cR, 20, .inr (.inr (.inr (.inr (fun i => if i < k + 1 then some (zui rd k q_8 i) else none))))))) x (.inr (0, [.ref sA, .ref rA, .int (nI n), .int ((nI k) + 1), .int td]))) (sd i) = some (.inr (1, [.int (nI i), .int (S i 1), .int (S i 2), .int (S i 3), .int (S i 4), .int 1])) := (z_ne (z_oo e_37 e_35 (by decide))).trans e_37
          have e_42 : (z_up (z_up (z_up (z_up (z_up X (sd i) (.inr (1, [.int (nI i), .int (S i 1), .int (S i 2), .int (S i 3), .int (S i 4), .int 1]))) q_8 (.inr (2, [.null, .int 0, .int 0, .int 0, .int 0, .int 0, .int 0, .int 0, .int 0, .int 0, .int 0, .int 0, .int 0, .int 0, .int 0]))) q_8 (.inr (2, [.ref (sd i), .int p0, .int td, .int 0, .int (-1), .int 0, .int 0, .int 0, .int (-1), .int (-1), .int (-1), .int 0, .int 0, .int 0, .int 0]))) rA (.inl (cR, 20, .inr (.inr (.inr (.inr (fun i => if i < k + 1 then some (zui rd k q_8 i) else none))))))) x (.inr (0, [.ref sA, .ref rA, .int (nI n), .int ((nI k) + 1), .int td]))) q_8 = some (.inr (2, [.ref (sd i), .int p0, .int td, .int 0, .int (-1), .int 0, .int 0, .int 0, .int (-1), .int (-1), .int (-1), .int 0, .int 0, .int 0, .int 0])) := (z_ne (z_oo e_38 e_35 (by decide))).trans e_38
          have e_43 : (z_up (z_up (z_up (z_up (z_up X (sd i) (.inr (1, [.int (nI i), .int (S i 1), .int (S i 2), .int (S i 3), .int (S i 4), .int 1]))) q_8 (.inr (2, [.null, .int 0, .int 0, .int 0, .int 0, .int 0, .int 0, .int 0, .int 0, .int 0, .int 0, .int 0, .int 0, .int 0, .int 0]))) q_8 (.inr (2, [.ref (sd i), .int p0, .int td, .int 0, .int (-1), .int 0, .int 0, .int 0, .int (-1), .int (-1), .int (-1), .int 0, .int 0, .int 0, .int 0]))) rA (.inl (cR, 20, .inr (.inr (.inr (.inr (fun i => if i < k + 1 then some (zui rd k q_8 i) else none))))))) x (.inr (0, [.ref sA, .ref rA, .int (nI n), .int ((nI k) + 1), .int td]))) rA = some (.inl (cR, 20, .inr (.inr (.inr (.inr (fun i => if i < k + 1 then some (zui rd k q_8 i) else none)))))) := (z_ne (z_ao e_39 e_35)).trans e_39
          have e_44 : (z_up (z_up (z_up (z_up (z_up X (sd i) (.inr (1, [.int (nI i), .int (S i 1), .int (S i 2), .int (S i 3), .int (S i 4), .int 1]))) q_8 (.inr (2, [.null, .int 0, .int 0, .int 0, .int 0, .int 0, .int 0, .int 0, .int 0, .int 0, .int 0, .int 0, .int 0, .int 0, .int 0]))) q_8 (.inr (2, [.ref (sd i), .int p0, .int td, .int 0, .int (-1), .int 0, .int 0, .int 0, .int (-1), .int (-1), .int (-1), .int 0, .int 0, .int 0, .int 0]))) rA (.inl (cR, 20, .inr (.inr (.inr (.inr (fun i => if i < k + 1 then some (zui rd k q_8 i) else none))))))) x (.inr (0, [.ref sA, .ref rA, .int (nI n), .int ((nI k) + 1), .int td]))) x = some (.inr (0, [.ref sA, .ref rA, .int (nI n), .int ((nI k) + 1), .int td])) := z_eq _ _ _
          refine lv_aload_n hx hb d_RR_comes_102 rfl (lv_at hl 1 rfl) ?_
          refine z_get (ci := 0) (C := R_RR) (T := F_RR) (N := 5) hx hb hts j_RR hown hK hS e_44 rfl 3 (by decide) (hk k_46 rfl) (fun _ h9 => h9) rfl d_RR_comes_103 ?_
          exact z_Ciret hx hb hr rfl hlk hS (by simp only [if_neg c_14]; exact zT0 (by unfold cd_comes; rw [if_pos w_1]; rw [if_pos c_2]; exact if_neg (fun h => (z_n20 hkk).mp h c_3)) ⟨sA, rA, sd, _, XI.comes hXI hlt hi (fun e9 h9 => f_q_8 _ ((z_ne (fun z9 => f_q_8 _ (by rw [z9]; exact z_eq _ _ _))).trans h9)) (by rw [← nI_1]; exact e_44) e_43 e_42 e_41 (fun b h1 h2 h3 h4 => (z_ne h1).trans ((z_ne h2).trans ((z_ne h3).trans ((z_ne h3).trans (z_ne h4)))))⟩ (((((zFr.rf.up (hSs i hi) rfl).nw f_q_8).up e_13 rfl).up e_32 rfl).up e_35 rfl)) (by decide) (by decide) d_RR_comes_106
      · exact th_UOE hx hb hl9 hown hG (hl.1.trans hml.symm) hout hlk (is := 59) (text := "no room for another return") (by decide +kernel) d_RR_comes_44 d_RR_comes_47 d_RR_comes_48 d_RR_comes_50 d_RR_comes_53 (z_teC hW0 (zT1 3 (by unfold cd_comes; rw [if_pos w_1]; rw [if_pos c_2]; exact if_pos ((z_n20 hkk).mpr c_3)) rfl)) (by decide) (Nat.le_of_ble_eq_true rfl) (by decide) (by decide) (by decide) (by decide)
    · exact th_ISE hx hb hl9 hown hG (hl.1.trans hml.symm) hout hlk (is := 53) (text := "there is a return of this sale") (by decide +kernel) d_RR_comes_22 d_RR_comes_25 d_RR_comes_26 d_RR_comes_28 d_RR_comes_31 (z_teC hW0 (zT1 2 (by unfold cd_comes; rw [if_pos w_1]; rw [if_neg c_2]) rfl)) (by decide) (Nat.le_of_ble_eq_true rfl) (by decide) (by decide) (by decide) (by decide)
  · exact z_pCX (E := E_IAE) (n_RR_RR_requireWithin hx hown hG (by rw [hb]; exact d_RR_comes_11)) hb (hl.1.trans hml.symm) (c_RR_requireWithin l hl9 p0 0 7) (if_neg w_1) (z_Gkeeps lo tP) hG hK hS (cw_RR_requireWithin hG (by decide) (by decide)) d_RR_comes_11 (Nat.le_of_ble_eq_true rfl) (by decide) (by decide) hout hlk (zT1 1 (by unfold cd_comes; rw [if_neg w_1]) rfl) (by decide) (by decide)
set_option maxHeartbeats 4000000 in
set_option maxRecDepth 100000 in
theorem c_RR_init (l : Launch) (hl9 : l.stackTraces = false) {D : va_G} {cS cR cJ cI cZ : ClassId} {lo tP : Nat} (q : Nat) {X : zM} (hq : X q = some (.inr (0, [.null, .null, .int 0, .int 0, .int 0]))) : z_C (z_G lo tP) D cls4 (zty cS cR cJ cI cZ) lo l y_RR_init w_RR_init zr1 [.ref q] X (fun r X9 => r = .inl none ∧ YI q cS cR ⟨0, 0, 0, fun _ _ => 0, fun _ => 0, fun _ _ => 0⟩ X9 ∧ zFr 0 X X9) := by
  refine z_ofW (by decide) ?_
  intro p e s m args below meth c s₁ B hml hout hv
  obtain ⟨rfl, hG, hK, hW0, hXl, hlo⟩ := hv
  have hx := B.exec
  have hb := B.bytes
  have hr := B.returns
  have hlk := B.notSynchronized
  have hown : s.vm.findClass R_RR = some m.cls := findClass_of_methodNamed B.named
  have hts : ∀ w9 ∈ z_tb, w9.before ([.ref q] : List Value).toArray s = true := hG.ts _
  have hk : ∀ {w9 : Cond}, w9 ∈ lw_tbl → z_ok w9 = true → w9.before ([.ref q] : List Value).toArray s = true := fun h1 h2 => hG.w h1 h2 _
  have hg : z_Gr s.heap s.heap := z_Gr.rf
  have hS := z_S.start hW0 hXl hlo
  have hl := lv_entry ([.ref q]) (n := 1) (Nat.le_of_ble_eq_true rfl)
  rw [lg_entry_eq]
  generalize (lg_sl ([.ref q]) ++ List.replicate (1 - (lg_sl ([.ref q])).length) Slot.unset).toArray = ls at hl ⊢
  have hl : lv_has ls 1 [(0, .ref q)] := hl
  have hin : meth.name = "<init>" := (name_of_methodNamed B.named B.method).1
  refine lv_aload_n hx hb d_RR_init_0 rfl (lv_at hl 0 rfl) ?_
  refine W.objInit hx hb hown (hk k_36 rfl) (hk k_37 rfl) (hk k_38 rfl) rfl (by rw [hml]; exact hl.1) rfl d_RR_init_1 (by decide) (Nat.le_of_ble_eq_true rfl) ?_
  refine W.eq (g2 := F0 m 4 ls []) rfl ?_
  refine lv_aload_n hx hb d_RR_init_4 rfl (lv_at hl 0 rfl) ?_
  refine lv_bipush (v := 20) hx hb d_RR_init_5 (by decide) ?_
  refine z_newq hx hb hown (hk k_39 rfl) (va_AO.use hG.2.1) hK (t0 := 0) rfl hS (N' := 20) (by decide) (by decide) (by decide) (by decide) (by decide) d_RR_init_7 (fun q_1 H f_q_1 hS => ?_)
  have e_2 : (z_up X q_1 (.inl (cS, 20, .inr (.inr (.inr (.inr (fun _ => none))))))) q = some (.inr (0, [.null, .null, .int 0, .int 0, .int 0])) := (z_ne (z_nf hq f_q_1)).trans hq
  have e_3 : (z_up X q_1 (.inl (cS, 20, .inr (.inr (.inr (.inr (fun _ => none))))))) q_1 = some (.inl (cS, 20, .inr (.inr (.inr (.inr (fun _ => none)))))) := z_eq _ _ _
  refine z_putF (ci := 0) (C := R_RR) (T := F_RR) (N := 5) (ty := .array (.object "ReturnRows$Sale")) (fs' := [.ref q_1, .null, .int 0, .int 0, .int 0]) hx hb hts j_RR t_RR t_RR_ok n_RR hown hK hS e_2 rfl 0 (by decide) (hk k_43 rfl) (fun _ h9 => h9) rfl hin rfl (by decide +kernel) rfl rfl (Nat.le_of_ble_eq_true rfl) d_RR_init_10 rfl (fun H locs hS => ?_)
  have e_4 : (z_up (z_up X q_1 (.inl (cS, 20, .inr (.inr (.inr (.inr (fun _ => none))))))) q (.inr (0, [.ref q_1, .null, .int 0, .int 0, .int 0]))) q_1 = some (.inl (cS, 20, .inr (.inr (.inr (.inr (fun _ => none)))))) := (z_ne (z_ao e_3 e_2)).trans e_3
  have e_5 : (z_up (z_up X q_1 (.inl (cS, 20, .inr (.inr (.inr (.inr (fun _ => none))))))) q (.inr (0, [.ref q_1, .null, .int 0, .int 0, .int 0]))) q = some (.inr (0, [.ref q_1, .null, .int 0, .int 0, .int 0])) := z_eq _ _ _
  refine lv_aload_n hx hb d_RR_init_13 rfl (lv_at hl 0 rfl) ?_
  refine lv_bipush (v := 20) hx hb d_RR_init_14 (by decide) ?_
  refine z_newq hx hb hown (hk k_41 rfl) (va_AO.use hG.2.2.1) hK (t0 := 1) rfl hS (N' := 20) (by decide) (by decide) (by decide) (by decide) (by decide) d_RR_init_16 (fun q_6 H f_q_6 hS => ?_)
  have e_7 : (z_up (z_up (z_up X q_1 (.inl (cS, 20, .inr (.inr (.inr (.inr (fun _ => none))))))) q (.inr (0, [.ref q_1, .null, .int 0, .int 0, .int 0]))) q_6 (.inl (cR, 20, .inr (.inr (.inr (.inr (fun _ => none))))))) q_1 = some (.inl (cS, 20, .inr (.inr (.inr (.inr (fun _ => none)))))) := (z_ne (z_nf e_4 f_q_6)).trans e_4
  have e_8 : (z_up (z_up (z_up X q_1 (.inl (cS, 20, .inr (.inr (.inr (.inr (fun _ => none))))))) q (.inr (0, [.ref q_1, .null, .int 0, .int 0, .int 0]))) q_6 (.inl (cR, 20, .inr (.inr (.inr (.inr (fun _ => none))))))) q = some (.inr (0, [.ref q_1, .null, .int 0, .int 0, .int 0])) := (z_ne (z_nf e_5 f_q_6)).trans e_5
  have e_9 : (z_up (z_up (z_up X q_1 (.inl (cS, 20, .inr (.inr (.inr (.inr (fun _ => none))))))) q (.inr (0, [.ref q_1, .null, .int 0, .int 0, .int 0]))) q_6 (.inl (cR, 20, .inr (.inr (.inr (.inr (fun _ => none))))))) q_6 = some (.inl (cR, 20, .inr (.inr (.inr (.inr (fun _ => none)))))) := z_eq _ _ _
  refine z_putF (ci := 0) (C := R_RR) (T := F_RR) (N := 5) (ty := .array (.object "ReturnRows$Return")) (fs' := [.ref q_1, .ref q_6, .int 0, .int 0, .int 0]) hx hb hts j_RR t_RR t_RR_ok n_RR hown hK hS e_8 rfl 1 (by decide) (hk k_44 rfl) (fun _ h9 => h9) rfl hin rfl (by decide +kernel) rfl rfl (Nat.le_of_ble_eq_true rfl) d_RR_init_19 rfl (fun H locs hS => ?_)
  have e_10 : (z_up (z_up (z_up (z_up X q_1 (.inl (cS, 20, .inr (.inr (.inr (.inr (fun _ => none))))))) q (.inr (0, [.ref q_1, .null, .int 0, .int 0, .int 0]))) q_6 (.inl (cR, 20, .inr (.inr (.inr (.inr (fun _ => none))))))) q (.inr (0, [.ref q_1, .ref q_6, .int 0, .int 0, .int 0]))) q_1 = some (.inl (cS, 20, .inr (.inr (.inr (.inr (fun _ => none)))))) := (z_ne (z_ao e_7 e_8)).trans e_7
  have e_11 : (z_up (z_up (z_up (z_up X q_1 (.inl (cS, 20, .inr (.inr (.inr (.inr (fun _ => none))))))) q (.inr (0, [.ref q_1, .null, .int 0, .int 0, .int 0]))) q_6 (.inl (cR, 20, .inr (.inr (.inr (.inr (fun _ => none))))))) q (.inr (0, [.ref q_1, .ref q_6, .int 0, .int 0, .int 0]))) q_6 = some (.inl (cR, 20, .inr (.inr (.inr (.inr (fun _ => none)))))) := (z_ne (z_ao e_9 e_8)).trans e_9
  have e_12 : (z_up (z_up (z_up (z_up X q_1 (.inl (cS, 20, .inr (.inr (.inr (.inr (fun _ => none))))))) q (.inr (0, [.ref q_1, .null, .int 0, .int 0, .int 0]))) q_6 (.inl (cR, 20, .inr (.inr (.inr (.inr (fun _ => none))))))) q (.inr (0, [.ref q_1, .ref q_6, .int 0, .int 0, .int 0]))) q = some (.inr (0, [.ref q_1, .ref q_6, .int 0, .int 0, .int 0])) := z_eq _ _ _
  exact z_Cvret hx hb hr hlk hS (⟨rfl, ⟨q_1, q_6, fun _ => 0, fun _ => 0, by rw [nI_0] ; exact e_12, e_10, e_11, fun i hi => absurd hi (Nat.not_lt_zero i), fun i hi => absurd hi (Nat.not_lt_zero i), fun i hi => absurd hi (Nat.not_lt_zero i), by decide, by decide, fun i _ hi => absurd hi (Nat.not_lt_zero i), fun i _ hi => absurd hi (Nat.not_lt_zero i), (z_nf e_4 f_q_6)⟩, (((zFr.rf.nw f_q_1).up e_2 rfl).nw f_q_6).up e_8 rfl⟩) (by decide) (by decide) d_RR_init_22
