abbrev zrM : Room := { frames := 2, cells := 24, slots := 1600, locals := 60 }
/-! ===== the reference: sale, comes, new ===== -/
section M6
variable {p : Program} {l : Launch} {e : Env} {R : Room} {s : State} {m : MethodId} {args : Array Value} {below : List Frame} {meth : Method} {c : Code} {H : Heap} {locs : List Loc} {cells slots : Nat} {Q : State → Prop}
variable {cc : ByteArray} {pc : Nat} {ls : Array Slot} {rest : List Value} {D : va_G} {lo tP : Nat} {X0 X : zM} {H0 : Heap}
variable {mo : Nat} {ad : Nat → Nat} {cS cR cJ cI cZ : ClassId} {n k : Nat} {td code0 : Int32} {S : Nat → Nat → Int32} {I : Nat → Nat} {F : Nat → Nat → Int32} {M : Nat → Nat → Int32}
theorem mw_st (hexec : p.tables.exec = Jvm.exec) (hb : c.code = cc) (hK : va_K D cls4 (zty cS cR cJ cI cZ) s) (hS : z_S D cls4 lo X0 H0 X H locs) (hW : MW mo ad cI cZ n k td code0 M X) (i q : Nat) (hi : 4 ≤ i ∧ i ≤ 22 ∧ ¬ i = 13 ∧ ¬ i = 14) (hq : q < zln i) (hq' : q < 2 ^ 31) {x : Int32} (hdg : decode cc pc = .ok (.iastore, 1))
    (kk : ∀ (H1 : Heap) (locs1 : List Loc) (X1 : zM), z_S D cls4 lo X0 H0 X1 H1 locs1 → MW mo ad cI cZ n k td code0 (zfr M i (upd (M i) q x)) X1 → zFr 1 X X1 → W p l e R s m args below meth c H1 locs1 cells slots Q (F0 m (pc + 1) ls rest)) : W p l e R s m args below meth c H locs cells slots Q (F0 m pc ls (.int x :: .int (nI q) :: .ref (ad i) :: rest)) := by
  obtain ⟨g1, g2, g3, g4⟩ := hi
  have ha := hW.2.1 i g1 g2
  have e1 : zac cI cZ i = cI := by unfold zac; rw [if_neg g3, if_neg g4]
  have hst := hW.st (i := i) g1 g2 (upd (M i) q x)
  rw [e1] at ha hst
  have hN : zln i < 2 ^ 31 := by unfold zln; split; decide; split <;> decide
  refine z_iast hexec hb hK hS 3 ha rfl (vp_in_nI hq hN) hdg (fun H1 locs1 hS1 => ?_)
  rw [nI_clamp hq'] at hS1
  exact kk H1 locs1 _ hS1 hst (zFr.rf.up ha rfl)
theorem MR.sale (h : MR n k S I F M) (hI : ∀ j, j < k → I j < n) {M' : Nat → Nat → Int32} {c0 p0 l0 : Int32} (h4 : ∀ q, M' 4 q = if q = n then c0 else M 4 q) (h5 : ∀ q, M' 5 q = if q = n then p0 else M 5 q) (h6 : ∀ q, M' 6 q = if q = n then l0 else M 6 q) (h7 : ∀ q, M' 7 q = if q = n then td else M 7 q) (hr : ∀ i, 8 ≤ i → M' i = M i) :
    MR (n + 1) k (zfr S n (zsl c0 p0 l0 td)) I F M' := by
  obtain ⟨r1, r2, r3, r4, r5⟩ := h
  refine ⟨fun i q hi hi' hq => ?_, fun j hj => ?_, fun i j hi hi' hj => ?_, fun i q hi hq => ?_, fun c hc hc' => ?_⟩
  · have hi4 : i = 4 ∨ i = 5 ∨ i = 6 ∨ i = 7 := by omega
    by_cases e : q = n
    · subst e
      rw [zfr_at]
      rcases hi4 with rfl | rfl | rfl | rfl
      · rw [h4, if_pos rfl]; rfl
      · rw [h5, if_pos rfl]; rfl
      · rw [h6, if_pos rfl]; rfl
      · rw [h7, if_pos rfl]; rfl
    · rw [zfr_ne e, ← r1 i q hi hi' (by omega)]
      rcases hi4 with rfl | rfl | rfl | rfl
      · rw [h4, if_neg e]
      · rw [h5, if_neg e]
      · rw [h6, if_neg e]
      · rw [h7, if_neg e]
  · rw [hr 8 (by omega)]; exact r2 j hj
  · rw [hr i (by omega)]; exact r3 i j hi hi' hj
  · rw [hr i (by omega)]; exact r4 i q hi hq
  · rw [hr 22 (by omega)]; exact r5 c hc hc'
theorem MR.comes (h : MR n k S I F M) {i0 : Nat} {M' : Nat → Nat → Int32} {why st : Int32} (h8 : ∀ q, M' 8 q = if q = k + 1 then nI i0 else M 8 q) (h9 : ∀ q, M' 9 q = if q = k + 1 then why else M 9 q) (h10 : ∀ q, M' 10 q = if q = k + 1 then st else M 10 q) (h11 : ∀ q, M' 11 q = if q = k + 1 then td else M 11 q) (h12 : ∀ q, M' 12 q = if q = k + 1 then -1 else M 12 q)
    (h15 : ∀ q, M' 15 q = if q = k + 1 then -1 else M 15 q) (h16 : ∀ q, M' 16 q = if q = k + 1 then -1 else M 16 q) (h17 : ∀ q, M' 17 q = if q = k + 1 then -1 else M 17 q) (hr : ∀ i, (i < 8 ∨ i = 13 ∨ i = 14 ∨ 18 ≤ i) → M' i = M i) :
    MR n (k + 1) (zfr S i0 (zfs (S i0) 5 1)) (zui I k i0) (zfr F k (zrt why st td)) M' := by
  obtain ⟨r1, r2, r3, r4, r5⟩ := h
  refine ⟨fun i q hi hi' hq => ?_, fun j hj => ?_, fun i j hi hi' hj => ?_, fun i q hi hq => ?_, fun c hc hc' => ?_⟩
  · rw [hr i (by omega), r1 i q hi hi' hq]
    by_cases e : q = i0
    · subst e
      rw [zfr_at]
      show S q (i - 3) = (if i - 3 = 5 then 1 else S q (i - 3))
      rw [if_neg (by omega)]
    · rw [zfr_ne e]
  · rw [h8]
    by_cases e : j = k
    · subst e
      rw [if_pos rfl, zui_at]
    · rw [if_neg (by omega), zui_ne e]
      exact r2 j (by omega)
  · have hi13 : i = 9 ∨ i = 10 ∨ i = 11 ∨ i = 12 ∨ i = 13 ∨ i = 14 ∨ i = 15 ∨ i = 16 ∨ i = 17 ∨ i = 18 ∨ i = 19 ∨ i = 20 ∨ i = 21 := by omega
    by_cases e : j = k
    · subst e
      rw [zfr_at]
      rcases hi13 with rfl | rfl | rfl | rfl | rfl | rfl | rfl | rfl | rfl | rfl | rfl | rfl | rfl
      · rw [h9, if_pos rfl]; rfl
      · rw [h10, if_pos rfl]; rfl
      · rw [h11, if_pos rfl]; rfl
      · rw [h12, if_pos rfl]; rfl
      · rw [hr _ (by omega), r4 _ _ (by omega) (by omega)]; rfl
      · rw [hr _ (by omega), r4 _ _ (by omega) (by omega)]; rfl
      · rw [h15, if_pos rfl]; rfl
      · rw [h16, if_pos rfl]; rfl
      · rw [h17, if_pos rfl]; rfl
      · rw [hr _ (by omega), r4 _ _ (by omega) (by omega)]; rfl
      · rw [hr _ (by omega), r4 _ _ (by omega) (by omega)]; rfl
      · rw [hr _ (by omega), r4 _ _ (by omega) (by omega)]; rfl
      · rw [hr _ (by omega), r4 _ _ (by omega) (by omega)]; rfl
    · rw [zfr_ne e, ← r3 i j hi hi' (by omega)]
      have e' : ¬ j + 1 = k + 1 := by omega
      rcases hi13 with rfl | rfl | rfl | rfl | rfl | rfl | rfl | rfl | rfl | rfl | rfl | rfl | rfl
      · rw [h9, if_neg e']
      · rw [h10, if_neg e']
      · rw [h11, if_neg e']
      · rw [h12, if_neg e']
      · rw [hr _ (by omega)]
      · rw [hr _ (by omega)]
      · rw [h15, if_neg e']
      · rw [h16, if_neg e']
      · rw [h17, if_neg e']
      · rw [hr _ (by omega)]
      · rw [hr _ (by omega)]
      · rw [hr _ (by omega)]
      · rw [hr _ (by omega)]
  · rw [hr i (by omega)]
    exact r4 i q hi (by omega)
  · rw [hr 22 (by omega), r5 c hc hc']
    constructor
    · rintro ⟨j, hj, he⟩
      exact ⟨j, by omega, by rw [zfr_ne (by omega)]; exact he⟩
    · rintro ⟨j, hj, he⟩
      by_cases e : j = k
      · subst e
        rw [zfr_at] at he
        exact absurd (show (0 : Int32) = nI c from he).symm (nI_ne0 (by omega) (by omega))
      · rw [zfr_ne e] at he
        exact ⟨j, by omega, he⟩
theorem mw_sales (hexec : p.tables.exec = Jvm.exec) (hb : c.code = cc) (hG : z_G lo tP s) (hown : s.vm.findClass R_MO = some m.cls) (hK : va_K D cls4 (zty cS cR cJ cI cZ) s) (hS : z_S D cls4 lo X0 H0 X H locs) (hW : MW mo ad cI cZ n k td code0 M X) {v : Int32} {n' : Nat} (hv : v = nI n') (hdg : decode cc pc = .ok (.putfield 72, 3))
    (kk : ∀ (H1 : Heap) (locs1 : List Loc) (X1 : zM), z_S D cls4 lo X0 H0 X1 H1 locs1 → MW mo ad cI cZ n' k td code0 M X1 → zFr 1 X X1 → W p l e R s m args below meth c H1 locs1 cells slots Q (F0 m (pc + 3) ls rest)) : W p l e R s m args below meth c H locs cells slots Q (F0 m pc ls (.int v :: .ref mo :: rest)) := by
  subst hv
  exact z_put (ci := 3) (C := R_MO) (T := F_MO) (N := 23) (ty := .int) (fs' := moF ad n' k td code0) hexec hb (hG.ts args) j_MO t_MO t_MO_ok n_MO hown hK hS hW.1 rfl 2 (by decide) (hG.w k_506 rfl args) (fun _ h9 => h9) rfl (by decide +kernel) rfl rfl (Nat.le_of_ble_eq_true rfl) hdg rfl (fun H1 locs1 hS1 => kk H1 locs1 _ hS1 (hW.put _ _ _ _) (zFr.rf.up hW.1 rfl))
theorem mw_returns (hexec : p.tables.exec = Jvm.exec) (hb : c.code = cc) (hG : z_G lo tP s) (hown : s.vm.findClass R_MO = some m.cls) (hK : va_K D cls4 (zty cS cR cJ cI cZ) s) (hS : z_S D cls4 lo X0 H0 X H locs) (hW : MW mo ad cI cZ n k td code0 M X) {v : Int32} {k' : Nat} (hv : v = nI k') (hdg : decode cc pc = .ok (.putfield 79, 3))
    (kk : ∀ (H1 : Heap) (locs1 : List Loc) (X1 : zM), z_S D cls4 lo X0 H0 X1 H1 locs1 → MW mo ad cI cZ n k' td code0 M X1 → zFr 1 X X1 → W p l e R s m args below meth c H1 locs1 cells slots Q (F0 m (pc + 3) ls rest)) : W p l e R s m args below meth c H locs cells slots Q (F0 m pc ls (.int v :: .ref mo :: rest)) := by
  subst hv
  exact z_put (ci := 3) (C := R_MO) (T := F_MO) (N := 23) (ty := .int) (fs' := moF ad n k' td code0) hexec hb (hG.ts args) j_MO t_MO t_MO_ok n_MO hown hK hS hW.1 rfl 3 (by decide) (hG.w k_511 rfl args) (fun _ h9 => h9) rfl (by decide +kernel) rfl rfl (Nat.le_of_ble_eq_true rfl) hdg rfl (fun H1 locs1 hS1 => kk H1 locs1 _ hS1 (hW.put _ _ _ _) (zFr.rf.up hW.1 rfl))
end M6
/-- a new reference, its arrays made up to the t-th -/
def msF (t : Nat) (ad : Nat → Nat) : List Value := [.int 0, .int 0, .int 0, .int 0] ++ (List.range 19).map (fun q => if q + 4 < t then .ref (ad (q + 4)) else .null)
def MS (mo : Nat) (cI cZ : ClassId) (t : Nat) (ad : Nat → Nat) (X : zM) : Prop := X mo = some (.inr (3, msF t ad)) ∧ (∀ i, 4 ≤ i → i < t → X (ad i) = some (.inl (zac cI cZ i, zln i, .inl (fun _ => 0)))) ∧ ∀ a b, 4 ≤ a → a < t → 4 ≤ b → b < t → ad a = ad b → a = b
theorem MS.next {mo : Nat} {cI cZ : ClassId} {t : Nat} {ad : Nat → Nat} {X : zM} {q : Nat} (h : MS mo cI cZ t ad X) (hq : ∀ e1, X q = some e1 → False) : MS mo cI cZ (t + 1) (zui ad t q) (z_up (z_up X q (.inl (zac cI cZ t, zln t, .inl (fun _ => 0)))) mo (.inr (3, msF (t + 1) (zui ad t q)))) := by
  obtain ⟨h1, h2, h3⟩ := h
  have hm : mo ≠ q := z_nf h1 hq
  refine ⟨z_eq _ _ _, fun i hi hi' => ?_, fun a b ha ha' hb hb' he => ?_⟩
  · by_cases e : i = t
    · subst e
      rw [zui_at]
      exact (z_ne hm.symm).trans (z_eq _ _ _)
    · rw [zui_ne e]
      have hx := h2 i hi (by omega)
      exact (z_ne (z_ao hx h1)).trans ((z_ne (z_nf hx hq)).trans hx)
  · by_cases ea : a = t <;> by_cases eb : b = t
    · omega
    · subst ea
      rw [zui_at, zui_ne eb] at he
      exact (hq _ (he ▸ h2 b hb (by omega))).elim
    · subst eb
      rw [zui_at, zui_ne ea] at he
      exact (hq _ (he ▸ h2 a ha (by omega))).elim
    · rw [zui_ne ea, zui_ne eb] at he
      exact h3 a b ha (by omega) hb (by omega) he
theorem MS.done {mo : Nat} {cI cZ : ClassId} {ad : Nat → Nat} {X : zM} (h : MS mo cI cZ 23 ad X) : MI mo ad cI cZ 0 0 0 0 (fun _ _ => 0) (fun _ => 0) (fun _ _ => 0) X := by
  obtain ⟨h1, h2, h3⟩ := h
  refine ⟨fun _ _ => 0, ⟨h1, fun i hi hi' => h2 i hi (by omega), fun a b ha ha' hb hb' => h3 a b ha (by omega) hb (by omega)⟩, ⟨fun _ _ _ _ h => absurd h (Nat.not_lt_zero _), fun _ h => absurd h (Nat.not_lt_zero _), fun _ _ _ _ h => absurd h (Nat.not_lt_zero _), fun _ _ _ _ => rfl, fun c _ _ => ⟨fun h => absurd rfl h, fun ⟨_, h, _⟩ => absurd h (Nat.not_lt_zero _)⟩⟩, by decide, by decide, fun _ h => absurd h (Nat.not_lt_zero _)⟩
set_option maxHeartbeats 4000000 in
set_option maxRecDepth 100000 in
theorem c_MO_sale (l : Launch) (hl9 : l.stackTraces = false) {D : va_G} {cS cR cJ cI cZ : ClassId} {lo tP : Nat} (c0 p0 l0 : Int32) {mo : Nat} {ad : Nat → Nat} {n k : Nat} {td code0 : Int32} {S : Nat → Nat → Int32} {I : Nat → Nat} {F : Nat → Nat → Int32} {X : zM} (hM : MI mo ad cI cZ n k td code0 S I F X) : z_C (z_G lo tP) D cls4 (zty cS cR cJ cI cZ) lo l y_MO_sale w_MO_sale zrC [.ref mo, .int c0, .int p0, .int l0] X (zV mo ad cI cZ (cd_sale n c0 p0 l0) (some (.int (nI n))) (some (.int 0)) X ⟨n + 1, k, td, zfr S n (zsl c0 p0 l0 td), I, F⟩ ⟨n, k, td, S, I, F⟩) := by
  refine z_ofW (by decide) ?_
  intro p e s m args below meth c s₁ B hml hout hv
  obtain ⟨rfl, hG, hK, hW0, hXl, hlo⟩ := hv
  have hx := B.exec
  have hb := B.bytes
  have hr := B.returns
  have hlk := B.notSynchronized
  have hown : s.vm.findClass R_MO = some m.cls := findClass_of_methodNamed B.named
  have hts : ∀ w9 ∈ z_tb, w9.before ([.ref mo, .int c0, .int p0, .int l0] : List Value).toArray s = true := hG.ts _
  have hk : ∀ {w9 : Cond}, w9 ∈ lw_tbl → z_ok w9 = true → w9.before ([.ref mo, .int c0, .int p0, .int l0] : List Value).toArray s = true := fun h1 h2 => hG.w h1 h2 _
  have hg : z_Gr s.heap s.heap := z_Gr.rf
  have hS := z_S.start hW0 hXl hlo
  have hl := lv_entry ([.ref mo, .int c0, .int p0, .int l0]) (n := 4) (Nat.le_of_ble_eq_true rfl)
  rw [lg_entry_eq]
  generalize (lg_sl ([.ref mo, .int c0, .int p0, .int l0]) ++ List.replicate (4 - (lg_sl ([.ref mo, .int c0, .int p0, .int l0])).length) Slot.unset).toArray = ls at hl ⊢
  have hl : lv_has ls 4 [(0, .ref mo), (1, .int c0), (2, .int p0), (3, .int l0)] := hl
  have hIn := hM.idx
  have hn20 := hM.n20
  have hk20 := hM.k20
  have hF : zFr 1 X X := zFr.rf
  refine lv_aload_n hx hb d_MO_sale_0 rfl (lv_at hl 0 rfl) ?_
  refine lv_iload_n hx hb d_MO_sale_1 rfl (lv_at hl 1 rfl) ?_
  refine lv_iconst (v := 0) hx hb d_MO_sale_2 (by decide) ?_
  refine lv_iconst (v := 5) hx hb d_MO_sale_3 (by decide) ?_
  by_cases w_1 : z_rg c0 0 5
  · refine z_pi (v := 1) (n_MO_MO_in hx hown hG (by rw [hb]; exact d_MO_sale_4)) hb (hl.1.trans hml.symm) (c_MO_in l hl9 c0 0 5) (by rw [if_pos w_1]) (z_Gkeeps lo tP) hG hK hS (cw_MO_in hG (by decide) (by decide)) d_MO_sale_4 (Nat.le_of_ble_eq_true rfl) (by decide) (by decide) (fun H hq hS => ?_)
    refine lv_if_eq (tgt := 31) hx hb d_MO_sale_7 (by decide) (fun c_2 => absurd c_2 (by decide)) (fun c_2 => ?_)
    refine lv_iload_n hx hb d_MO_sale_10 rfl (lv_at hl 2 rfl) ?_
    refine lv_iconst (v := 1) hx hb d_MO_sale_11 (by decide) ?_
    refine lv_ldc (v := 100000) hx hb hown (hk k_591 rfl) d_MO_sale_12 ?_
    by_cases w_3 : z_rg p0 1 100000
    · refine z_pi (v := 1) (n_MO_MO_in hx hown hG (by rw [hb]; exact d_MO_sale_14)) hb (hl.1.trans hml.symm) (c_MO_in l hl9 p0 1 100000) (by rw [if_pos w_3]) (z_Gkeeps lo tP) hG hK hS (cw_MO_in hG (by decide) (by decide)) d_MO_sale_14 (Nat.le_of_ble_eq_true rfl) (by decide) (by decide) (fun H hq hS => ?_)
      refine lv_if_eq (tgt := 31) hx hb d_MO_sale_17 (by decide) (fun c_4 => absurd c_4 (by decide)) (fun c_4 => ?_)
      refine lv_iload_n hx hb d_MO_sale_20 rfl (lv_at hl 3 rfl) ?_
      refine lv_iconst (v := 0) hx hb d_MO_sale_21 (by decide) ?_
      refine lv_sipush (v := 1000) hx hb d_MO_sale_22 (by decide) ?_
      by_cases w_5 : z_rg l0 0 1000
      · refine z_pi (v := 1) (n_MO_MO_in hx hown hG (by rw [hb]; exact d_MO_sale_25)) hb (hl.1.trans hml.symm) (c_MO_in l hl9 l0 0 1000) (by rw [if_pos w_5]) (z_Gkeeps lo tP) hG hK hS (cw_MO_in hG (by decide) (by decide)) d_MO_sale_25 (Nat.le_of_ble_eq_true rfl) (by decide) (by decide) (fun H hq hS => ?_)
        refine lv_if_ne (tgt := 35) hx hb d_MO_sale_28 (by decide) (fun c_6 => ?_) (fun c_6 => absurd c_6 (by decide))
        refine lv_aload_n hx hb d_MO_sale_35 rfl (lv_at hl 0 rfl) ?_
        refine z_get (ci := 3) (C := R_MO) (T := F_MO) (N := 23) hx hb hts j_MO hown hK hS hM.ob rfl 2 (by decide) (hk k_506 rfl) (fun _ h9 => h9) rfl d_MO_sale_36 ?_
        refine lv_bipush (v := 20) hx hb d_MO_sale_39 (by decide) ?_
        refine lv_icmp_ne (tgt := 48) hx hb d_MO_sale_41 (by decide) (fun c_7 => ?_) (fun c_7 => ?_)
        · refine lv_iconst (v := 0) hx hb d_MO_sale_48 (by decide) ?_
          refine mo_code hx hb hG hown hK hS hM (v := 0) d_MO_sale_49 (fun H locs X_8 hS hM hF_9 => ?_)
          have hF := hF.tr hF_9
          refine lv_aload_n hx hb d_MO_sale_52 rfl (lv_at hl 0 rfl) ?_
          refine z_get (ci := 3) (C := R_MO) (T := F_MO) (N := 23) hx hb hts j_MO hown hK hS hM.ob rfl 0 (by decide) (hk k_504 rfl) (fun _ h9 => h9) rfl d_MO_sale_53 ?_
          refine lv_if_le (tgt := 61) hx hb d_MO_sale_56 (by decide) (fun c_10 => ?_) (fun c_10 => absurd (by decide) c_10)
          have hlt : n < 20 := by have h9 : ¬ n = 20 := fun h9 => c_7 (by rw [h9]; rfl); omega
          obtain ⟨M, hW, hR, -, -, -⟩ := hM
          refine lv_aload_n hx hb d_MO_sale_61 rfl (lv_at hl 0 rfl) ?_
          refine z_get (ci := 3) (C := R_MO) (T := F_MO) (N := 23) hx hb hts j_MO hown hK hS hW.1 rfl 4 (by decide) (hk k_507 rfl) (fun _ h9 => h9) rfl d_MO_sale_62 ?_
          refine lv_aload_n hx hb d_MO_sale_65 rfl (lv_at hl 0 rfl) ?_
          refine z_get (ci := 3) (C := R_MO) (T := F_MO) (N := 23) hx hb hts j_MO hown hK hS hW.1 rfl 2 (by decide) (hk k_506 rfl) (fun _ h9 => h9) rfl d_MO_sale_66 ?_
          refine lv_iload_n hx hb d_MO_sale_69 rfl (lv_at hl 1 rfl) ?_
          refine mw_st (x := c0) hx hb hK hS hW 4 (n) (by decide) (by show n < 20; omega) (by omega) d_MO_sale_70 (fun H locs X_11 hS hW hF_12 => ?_)
          have hF := hF.tr hF_12
          refine lv_aload_n hx hb d_MO_sale_71 rfl (lv_at hl 0 rfl) ?_
          refine z_get (ci := 3) (C := R_MO) (T := F_MO) (N := 23) hx hb hts j_MO hown hK hS hW.1 rfl 5 (by decide) (hk k_508 rfl) (fun _ h9 => h9) rfl d_MO_sale_72 ?_
          refine lv_aload_n hx hb d_MO_sale_75 rfl (lv_at hl 0 rfl) ?_
          refine z_get (ci := 3) (C := R_MO) (T := F_MO) (N := 23) hx hb hts j_MO hown hK hS hW.1 rfl 2 (by decide) (hk k_506 rfl) (fun _ h9 => h9) rfl d_MO_sale_76 ?_
          refine lv_iload_n hx hb d_MO_sale_79 rfl (lv_at hl 2 rfl) ?_
          refine mw_st (x := p0) hx hb hK hS hW 5 (n) (by decide) (by show n < 20; omega) (by omega) d_MO_sale_80 (fun H locs X_13 hS hW hF_14 => ?_)
          have hF := hF.tr hF_14
          refine lv_aload_n hx hb d_MO_sale_81 rfl (lv_at hl 0 rfl) ?_
          refine z_get (ci := 3) (C := R_MO) (T := F_MO) (N := 23) hx hb hts j_MO hown hK hS hW.1 rfl 6 (by decide) (hk k_509 rfl) (fun _ h9 => h9) rfl d_MO_sale_82 ?_
          refine lv_aload_n hx hb d_MO_sale_85 rfl (lv_at hl 0 rfl) ?_
          refine z_get (ci := 3) (C := R_MO) (T := F_MO) (N := 23) hx hb hts j_MO hown hK hS hW.1 rfl 2 (by decide) (hk k_506 rfl) (fun _ h9 => h9) rfl d_MO_sale_86 ?_
          refine lv_iload_n hx hb d_MO_sale_89 rfl (lv_at hl 3 rfl) ?_
          refine mw_st (x := l0) hx hb hK hS hW 6 (n) (by decide) (by show n < 20; omega) (by omega) d_MO_sale_90 (fun H locs X_15 hS hW hF_16 => ?_)
          have hF := hF.tr hF_16
          refine lv_aload_n hx hb d_MO_sale_91 rfl (lv_at hl 0 rfl) ?_
          refine z_get (ci := 3) (C := R_MO) (T := F_MO) (N := 23) hx hb hts j_MO hown hK hS hW.1 rfl 7 (by decide) (hk k_510 rfl) (fun _ h9 => h9) rfl d_MO_sale_92 ?_
          refine lv_aload_n hx hb d_MO_sale_95 rfl (lv_at hl 0 rfl) ?_
          refine z_get (ci := 3) (C := R_MO) (T := F_MO) (N := 23) hx hb hts j_MO hown hK hS hW.1 rfl 2 (by decide) (hk k_506 rfl) (fun _ h9 => h9) rfl d_MO_sale_96 ?_
          refine lv_aload_n hx hb d_MO_sale_99 rfl (lv_at hl 0 rfl) ?_
          refine z_get (ci := 3) (C := R_MO) (T := F_MO) (N := 23) hx hb hts j_MO hown hK hS hW.1 rfl 1 (by decide) (hk k_505 rfl) (fun _ h9 => h9) rfl d_MO_sale_100 ?_
          refine mw_st (x := td) hx hb hK hS hW 7 (n) (by decide) (by show n < 20; omega) (by omega) d_MO_sale_103 (fun H locs X_17 hS hW hF_18 => ?_)
          have hF := hF.tr hF_18
          refine lv_aload_n hx hb d_MO_sale_104 rfl (lv_at hl 0 rfl) ?_
          refine lv_dup hx hb d_MO_sale_105 rfl ?_
          refine z_get (ci := 3) (C := R_MO) (T := F_MO) (N := 23) hx hb hts j_MO hown hK hS hW.1 rfl 2 (by decide) (hk k_506 rfl) (fun _ h9 => h9) rfl d_MO_sale_106 ?_
          refine lv_iconst (v := 1) hx hb d_MO_sale_109 (by decide) ?_
          refine lv_iadd hx hb d_MO_sale_110 ?_
          refine mw_sales (v := (nI n) + 1) hx hb hG hown hK hS hW (nI_1 n) d_MO_sale_111 (fun H locs X_19 hS hW hF_20 => ?_)
          have hF := hF.tr hF_20
          refine lv_aload_n hx hb d_MO_sale_114 rfl (lv_at hl 0 rfl) ?_
          refine z_get (ci := 3) (C := R_MO) (T := F_MO) (N := 23) hx hb hts j_MO hown hK hS hW.1 rfl 2 (by decide) (hk k_506 rfl) (fun _ h9 => h9) rfl d_MO_sale_115 ?_
          refine lv_iconst (v := 1) hx hb d_MO_sale_118 (by decide) ?_
          refine lv_isub hx hb d_MO_sale_119 ?_
          exact z_Ciret hx hb hr rfl hlk hS (z_vv (zV0 (by unfold cd_sale; rw [if_pos w_1]; rw [if_pos w_3]; rw [if_pos w_5]; exact if_neg (fun h9 => c_7 (by rw [h9]; rfl))) hF ⟨_, hW, MR.sale hR hIn (fun _ => rfl) (fun _ => rfl) (fun _ => rfl) (fun _ => rfl) (fun i hi => by rw [zfr_ne (by omega), zfr_ne (by omega), zfr_ne (by omega), zfr_ne (by omega)]), hlt, hk20, fun j hj => Nat.lt_succ_of_lt (hIn j hj)⟩) (nI_pred n).symm) (by decide) (by decide) d_MO_sale_120
        · refine lv_iconst (v := 2) hx hb d_MO_sale_44 (by decide) ?_
          refine lv_goto (tgt := 49) hx hb d_MO_sale_45 (by decide) ?_
          refine mo_code hx hb hG hown hK hS hM (v := 2) d_MO_sale_49 (fun H locs X_21 hS hM hF_22 => ?_)
          have hF := hF.tr hF_22
          refine lv_aload_n hx hb d_MO_sale_52 rfl (lv_at hl 0 rfl) ?_
          refine z_get (ci := 3) (C := R_MO) (T := F_MO) (N := 23) hx hb hts j_MO hown hK hS hM.ob rfl 0 (by decide) (hk k_504 rfl) (fun _ h9 => h9) rfl d_MO_sale_53 ?_
          refine lv_if_le (tgt := 61) hx hb d_MO_sale_56 (by decide) (fun c_23 => absurd c_23 (by decide)) (fun c_23 => ?_)
          refine lv_iconst (v := 0) hx hb d_MO_sale_59 (by decide) ?_
          exact z_Ciret hx hb hr rfl hlk hS (zV1 1 (by unfold cd_sale; rw [if_pos w_1]; rw [if_pos w_3]; rw [if_pos w_5]; exact if_pos ((nI_eq (by omega) (by decide)).mp (show nI n = nI 20 from c_7))) hF hM) (by decide) (by decide) d_MO_sale_60
      · refine z_pi (v := 0) (n_MO_MO_in hx hown hG (by rw [hb]; exact d_MO_sale_25)) hb (hl.1.trans hml.symm) (c_MO_in l hl9 l0 0 1000) (by rw [if_neg w_5]) (z_Gkeeps lo tP) hG hK hS (cw_MO_in hG (by decide) (by decide)) d_MO_sale_25 (Nat.le_of_ble_eq_true rfl) (by decide) (by decide) (fun H hq hS => ?_)
        refine lv_if_ne (tgt := 35) hx hb d_MO_sale_28 (by decide) (fun c_24 => absurd (by decide) c_24) (fun c_24 => ?_)
        refine lv_iconst (v := 1) hx hb d_MO_sale_31 (by decide) ?_
        refine lv_goto (tgt := 49) hx hb d_MO_sale_32 (by decide) ?_
        refine mo_code hx hb hG hown hK hS hM (v := 1) d_MO_sale_49 (fun H locs X_25 hS hM hF_26 => ?_)
        have hF := hF.tr hF_26
        refine lv_aload_n hx hb d_MO_sale_52 rfl (lv_at hl 0 rfl) ?_
        refine z_get (ci := 3) (C := R_MO) (T := F_MO) (N := 23) hx hb hts j_MO hown hK hS hM.ob rfl 0 (by decide) (hk k_504 rfl) (fun _ h9 => h9) rfl d_MO_sale_53 ?_
        refine lv_if_le (tgt := 61) hx hb d_MO_sale_56 (by decide) (fun c_27 => absurd c_27 (by decide)) (fun c_27 => ?_)
        refine lv_iconst (v := 0) hx hb d_MO_sale_59 (by decide) ?_
        exact z_Ciret hx hb hr rfl hlk hS (zV1 0 (by unfold cd_sale; rw [if_pos w_1]; rw [if_pos w_3]; rw [if_neg w_5]) hF hM) (by decide) (by decide) d_MO_sale_60
    · refine z_pi (v := 0) (n_MO_MO_in hx hown hG (by rw [hb]; exact d_MO_sale_14)) hb (hl.1.trans hml.symm) (c_MO_in l hl9 p0 1 100000) (by rw [if_neg w_3]) (z_Gkeeps lo tP) hG hK hS (cw_MO_in hG (by decide) (by decide)) d_MO_sale_14 (Nat.le_of_ble_eq_true rfl) (by decide) (by decide) (fun H hq hS => ?_)
      refine lv_if_eq (tgt := 31) hx hb d_MO_sale_17 (by decide) (fun c_28 => ?_) (fun c_28 => absurd (by decide) c_28)
      refine lv_iconst (v := 1) hx hb d_MO_sale_31 (by decide) ?_
      refine lv_goto (tgt := 49) hx hb d_MO_sale_32 (by decide) ?_
      refine mo_code hx hb hG hown hK hS hM (v := 1) d_MO_sale_49 (fun H locs X_29 hS hM hF_30 => ?_)
      have hF := hF.tr hF_30
      refine lv_aload_n hx hb d_MO_sale_52 rfl (lv_at hl 0 rfl) ?_
      refine z_get (ci := 3) (C := R_MO) (T := F_MO) (N := 23) hx hb hts j_MO hown hK hS hM.ob rfl 0 (by decide) (hk k_504 rfl) (fun _ h9 => h9) rfl d_MO_sale_53 ?_
      refine lv_if_le (tgt := 61) hx hb d_MO_sale_56 (by decide) (fun c_31 => absurd c_31 (by decide)) (fun c_31 => ?_)
      refine lv_iconst (v := 0) hx hb d_MO_sale_59 (by decide) ?_
      exact z_Ciret hx hb hr rfl hlk hS (zV1 0 (by unfold cd_sale; rw [if_pos w_1]; rw [if_neg w_3]) hF hM) (by decide) (by decide) d_MO_sale_60
  · refine z_pi (v := 0) (n_MO_MO_in hx hown hG (by rw [hb]; exact d_MO_sale_4)) hb (hl.1.trans hml.symm) (c_MO_in l hl9 c0 0 5) (by rw [if_neg w_1]) (z_Gkeeps lo tP) hG hK hS (cw_MO_in hG (by decide) (by decide)) d_MO_sale_4 (Nat.le_of_ble_eq_true rfl) (by decide) (by decide) (fun H hq hS => ?_)
    refine lv_if_eq (tgt := 31) hx hb d_MO_sale_7 (by decide) (fun c_32 => ?_) (fun c_32 => absurd (by decide) c_32)
    refine lv_iconst (v := 1) hx hb d_MO_sale_31 (by decide) ?_
    refine lv_goto (tgt := 49) hx hb d_MO_sale_32 (by decide) ?_
    refine mo_code hx hb hG hown hK hS hM (v := 1) d_MO_sale_49 (fun H locs X_33 hS hM hF_34 => ?_)
    have hF := hF.tr hF_34
    refine lv_aload_n hx hb d_MO_sale_52 rfl (lv_at hl 0 rfl) ?_
    refine z_get (ci := 3) (C := R_MO) (T := F_MO) (N := 23) hx hb hts j_MO hown hK hS hM.ob rfl 0 (by decide) (hk k_504 rfl) (fun _ h9 => h9) rfl d_MO_sale_53 ?_
    refine lv_if_le (tgt := 61) hx hb d_MO_sale_56 (by decide) (fun c_35 => absurd c_35 (by decide)) (fun c_35 => ?_)
    refine lv_iconst (v := 0) hx hb d_MO_sale_59 (by decide) ?_
    exact z_Ciret hx hb hr rfl hlk hS (zV1 0 (by unfold cd_sale; rw [if_neg w_1]) hF hM) (by decide) (by decide) d_MO_sale_60
set_option maxHeartbeats 4000000 in
set_option maxRecDepth 100000 in
theorem c_MO_comes_no (l : Launch) (hl9 : l.stackTraces = false) {D : va_G} {cS cR cJ cI cZ : ClassId} {lo tP : Nat} (v p0 p1 : Int32) (a9 : Option Value) (A9 : zA) {mo : Nat} {ad : Nat → Nat} {n k : Nat} {td code0 : Int32} {S : Nat → Nat → Int32} {I : Nat → Nat} {F : Nat → Nat → Int32} {X : zM} (hM : MI mo ad cI cZ n k td code0 S I F X) (hs : ¬ z_rs v n) : z_C (z_G lo tP) D cls4 (zty cS cR cJ cI cZ) lo l y_MO_comes w_MO_comes zrC [.ref mo, .int v, .int p0, .int p1] X (zV mo ad cI cZ 1 a9 (some (.int 0)) X A9 ⟨n, k, td, S, I, F⟩) := by
  refine z_ofW (by decide) ?_
  intro p e s m args below meth c s₁ B hml hout hv
  obtain ⟨rfl, hG, hK, hW0, hXl, hlo⟩ := hv
  have hx := B.exec
  have hb := B.bytes
  have hr := B.returns
  have hlk := B.notSynchronized
  have hown : s.vm.findClass R_MO = some m.cls := findClass_of_methodNamed B.named
  have hts : ∀ w9 ∈ z_tb, w9.before ([.ref mo, .int v, .int p0, .int p1] : List Value).toArray s = true := hG.ts _
  have hk : ∀ {w9 : Cond}, w9 ∈ lw_tbl → z_ok w9 = true → w9.before ([.ref mo, .int v, .int p0, .int p1] : List Value).toArray s = true := fun h1 h2 => hG.w h1 h2 _
  have hg : z_Gr s.heap s.heap := z_Gr.rf
  have hS := z_S.start hW0 hXl hlo
  have hl := lv_entry ([.ref mo, .int v, .int p0, .int p1]) (n := 4) (Nat.le_of_ble_eq_true rfl)
  rw [lg_entry_eq]
  generalize (lg_sl ([.ref mo, .int v, .int p0, .int p1]) ++ List.replicate (4 - (lg_sl ([.ref mo, .int v, .int p0, .int p1])).length) Slot.unset).toArray = ls at hl ⊢
  have hl : lv_has ls 4 [(0, .ref mo), (1, .int v), (2, .int p0), (3, .int p1)] := hl
  have hIn := hM.idx
  have hn20 := hM.n20
  have hk20 := hM.k20
  have hF : zFr 1 X X := zFr.rf
  refine lv_aload_n hx hb d_MO_comes_0 rfl (lv_at hl 0 rfl) ?_
  refine lv_aload_n hx hb d_MO_comes_1 rfl (lv_at hl 0 rfl) ?_
  refine lv_iload_n hx hb d_MO_comes_2 rfl (lv_at hl 1 rfl) ?_
  refine z_pi (v := 0) (n_MO_MO_isSale hx hown hG (va_recv hK (hS.1.one hM.ob) (ci := 3) (q0 := 0) rfl rfl) (by rw [hb]; exact d_MO_comes_3)) hb (hl.1.trans hml.symm) (c_MO_isSale l hl9 v hM) (by rw [if_neg hs]) (z_Gkeeps lo tP) hG hK hS (cw_MO_isSale hG (by decide) (by decide)) d_MO_comes_3 (Nat.le_of_ble_eq_true rfl) (by decide) (by decide) (fun H hq hS => ?_)
  refine lv_if_ne (tgt := 13) hx hb d_MO_comes_6 (by decide) (fun c_1 => absurd (by decide) c_1) (fun c_1 => ?_)
  refine lv_iconst (v := 1) hx hb d_MO_comes_9 (by decide) ?_
  refine lv_goto (tgt := 28) hx hb d_MO_comes_10 (by decide) ?_
  refine mo_code hx hb hG hown hK hS hM (v := 1) d_MO_comes_28 (fun H locs X_2 hS hM hF_3 => ?_)
  have hF := hF.tr hF_3
  refine lv_aload_n hx hb d_MO_comes_31 rfl (lv_at hl 0 rfl) ?_
  refine z_get (ci := 3) (C := R_MO) (T := F_MO) (N := 23) hx hb hts j_MO hown hK hS hM.ob rfl 0 (by decide) (hk k_504 rfl) (fun _ h9 => h9) rfl d_MO_comes_32 ?_
  refine lv_if_ne (tgt := 68) hx hb d_MO_comes_35 (by decide) (fun c_4 => ?_) (fun c_4 => absurd c_4 (by decide))
  refine lv_aload_n hx hb d_MO_comes_68 rfl (lv_at hl 0 rfl) ?_
  refine z_get (ci := 3) (C := R_MO) (T := F_MO) (N := 23) hx hb hts j_MO hown hK hS hM.ob rfl 0 (by decide) (hk k_504 rfl) (fun _ h9 => h9) rfl d_MO_comes_69 ?_
  refine lv_if_le (tgt := 77) hx hb d_MO_comes_72 (by decide) (fun c_5 => absurd c_5 (by decide)) (fun c_5 => ?_)
  refine lv_iconst (v := 0) hx hb d_MO_comes_75 (by decide) ?_
  exact z_Ciret hx hb hr rfl hlk hS (zV1 0 rfl hF hM) (by decide) (by decide) d_MO_comes_76
theorem z_icom {n k i : Nat} {I : Nat → Nat} (h : ∀ j, j < k → I j < n) (hi : i < n) : ∀ j, j < k + 1 → zui I k i j < n := by
  intro j hj
  by_cases e : j = k
  · subst e
    rw [zui_at]
    exact hi
  · rw [zui_ne e]
    exact h j (by omega)
set_option maxHeartbeats 4000000 in
set_option maxRecDepth 100000 in
theorem c_MO_comes (l : Launch) (hl9 : l.stackTraces = false) {D : va_G} {cS cR cJ cI cZ : ClassId} {lo tP : Nat} {i : Nat} (p0 p1 b9 : Int32) {mo : Nat} {ad : Nat → Nat} {n k : Nat} {td code0 : Int32} {S : Nat → Nat → Int32} {I : Nat → Nat} {F : Nat → Nat → Int32} {X : zM} (hM : MI mo ad cI cZ n k td code0 S I F X) (hi : i < n) (hb5 : b9 = 0 ↔ S i 5 = 0) (hbv : (b9 = 1 ∧ ∃ j, j < k ∧ I j = i) ∨ (b9 = 0 ∧ ∀ j, j < k → ¬ I j = i)) : z_C (z_G lo tP) D cls4 (zty cS cR cJ cI cZ) lo l y_MO_comes w_MO_comes zrC [.ref mo, .int (nI i), .int p0, .int p1] X (zV mo ad cI cZ (cd_comes k (S i) p0) (some (.int (nI k + 1))) (some (.int 0)) X ⟨n, k + 1, td, zfr S i (zfs (S i) 5 1), zui I k i, zfr F k (zrt p0 (if p1 = 0 then 1 else 0) td)⟩ ⟨n, k, td, S, I, F⟩) := by
  refine z_ofW (by decide) ?_
  intro p e s m args below meth c s₁ B hml hout hv
  obtain ⟨rfl, hG, hK, hW0, hXl, hlo⟩ := hv
  have hx := B.exec
  have hb := B.bytes
  have hr := B.returns
  have hlk := B.notSynchronized
  have hown : s.vm.findClass R_MO = some m.cls := findClass_of_methodNamed B.named
  have hts : ∀ w9 ∈ z_tb, w9.before ([.ref mo, .int (nI i), .int p0, .int p1] : List Value).toArray s = true := hG.ts _
  have hk : ∀ {w9 : Cond}, w9 ∈ lw_tbl → z_ok w9 = true → w9.before ([.ref mo, .int (nI i), .int p0, .int p1] : List Value).toArray s = true := fun h1 h2 => hG.w h1 h2 _
  have hg : z_Gr s.heap s.heap := z_Gr.rf
  have hS := z_S.start hW0 hXl hlo
  have hl := lv_entry ([.ref mo, .int (nI i), .int p0, .int p1]) (n := 4) (Nat.le_of_ble_eq_true rfl)
  rw [lg_entry_eq]
  generalize (lg_sl ([.ref mo, .int (nI i), .int p0, .int p1]) ++ List.replicate (4 - (lg_sl ([.ref mo, .int (nI i), .int p0, .int p1])).length) Slot.unset).toArray = ls at hl ⊢
  have hl : lv_has ls 4 [(0, .ref mo), (1, .int (nI i)), (2, .int p0), (3, .int p1)] := hl
  have hIn := hM.idx
  have hn20 := hM.n20
  have hk20 := hM.k20
  have hF : zFr 1 X X := zFr.rf
  refine lv_aload_n hx hb d_MO_comes_0 rfl (lv_at hl 0 rfl) ?_
  refine lv_aload_n hx hb d_MO_comes_1 rfl (lv_at hl 0 rfl) ?_
  refine lv_iload_n hx hb d_MO_comes_2 rfl (lv_at hl 1 rfl) ?_
  refine z_pi (v := 1) (n_MO_MO_isSale hx hown hG (va_recv hK (hS.1.one hM.ob) (ci := 3) (q0 := 0) rfl rfl) (by rw [hb]; exact d_MO_comes_3)) hb (hl.1.trans hml.symm) (c_MO_isSale l hl9 (nI i) hM) (by rw [if_pos ((z_rs1 (by omega) hn20).mpr hi)]) (z_Gkeeps lo tP) hG hK hS (cw_MO_isSale hG (by decide) (by decide)) d_MO_comes_3 (Nat.le_of_ble_eq_true rfl) (by decide) (by decide) (fun H hq hS => ?_)
  refine lv_if_ne (tgt := 13) hx hb d_MO_comes_6 (by decide) (fun c_1 => ?_) (fun c_1 => absurd c_1 (by decide))
  refine lv_iload_n hx hb d_MO_comes_13 rfl (lv_at hl 2 rfl) ?_
  refine lv_iconst (v := 0) hx hb d_MO_comes_14 (by decide) ?_
  refine lv_bipush (v := 7) hx hb d_MO_comes_15 (by decide) ?_
  by_cases w_2 : z_rg p0 0 7
  · refine z_pi (v := 1) (n_MO_MO_in hx hown hG (by rw [hb]; exact d_MO_comes_17)) hb (hl.1.trans hml.symm) (c_MO_in l hl9 p0 0 7) (by rw [if_pos w_2]) (z_Gkeeps lo tP) hG hK hS (cw_MO_in hG (by decide) (by decide)) d_MO_comes_17 (Nat.le_of_ble_eq_true rfl) (by decide) (by decide) (fun H hq hS => ?_)
    refine lv_if_ne (tgt := 27) hx hb d_MO_comes_20 (by decide) (fun c_3 => ?_) (fun c_3 => absurd c_3 (by decide))
    refine lv_iconst (v := 0) hx hb d_MO_comes_27 (by decide) ?_
    refine mo_code hx hb hG hown hK hS hM (v := 0) d_MO_comes_28 (fun H locs X_4 hS hM hF_5 => ?_)
    have hF := hF.tr hF_5
    refine lv_aload_n hx hb d_MO_comes_31 rfl (lv_at hl 0 rfl) ?_
    refine z_get (ci := 3) (C := R_MO) (T := F_MO) (N := 23) hx hb hts j_MO hown hK hS hM.ob rfl 0 (by decide) (hk k_504 rfl) (fun _ h9 => h9) rfl d_MO_comes_32 ?_
    refine lv_if_ne (tgt := 68) hx hb d_MO_comes_35 (by decide) (fun c_6 => absurd (by decide) c_6) (fun c_6 => ?_)
    refine lv_aload_n hx hb d_MO_comes_38 rfl (lv_at hl 0 rfl) ?_
    refine lv_aload_n hx hb d_MO_comes_39 rfl (lv_at hl 0 rfl) ?_
    refine lv_iload_n hx hb d_MO_comes_40 rfl (lv_at hl 1 rfl) ?_
    refine z_pi (v := b9) (n_MO_MO_hasReturn hx hown hG (va_recv hK (hS.1.one hM.ob) (ci := 3) (q0 := 0) rfl rfl) (by rw [hb]; exact d_MO_comes_41)) hb (hl.1.trans hml.symm) (c_MO_hasReturn l hl9 b9 hM hi hbv) (rfl) (z_Gkeeps lo tP) hG hK hS (cw_MO_hasReturn hG (by decide) (by decide)) d_MO_comes_41 (Nat.le_of_ble_eq_true rfl) (by decide) (by decide) (fun H hq hS => ?_)
    refine lv_if_eq (tgt := 51) hx hb d_MO_comes_44 (by decide) (fun c_7 => ?_) (fun c_7 => ?_)
    · refine lv_aload_n hx hb d_MO_comes_51 rfl (lv_at hl 0 rfl) ?_
      refine z_get (ci := 3) (C := R_MO) (T := F_MO) (N := 23) hx hb hts j_MO hown hK hS hM.ob rfl 3 (by decide) (hk k_511 rfl) (fun _ h9 => h9) rfl d_MO_comes_52 ?_
      refine lv_bipush (v := 20) hx hb d_MO_comes_55 (by decide) ?_
      refine lv_icmp_ne (tgt := 64) hx hb d_MO_comes_57 (by decide) (fun c_8 => ?_) (fun c_8 => ?_)
      · refine lv_iconst (v := 0) hx hb d_MO_comes_64 (by decide) ?_
        refine mo_code hx hb hG hown hK hS hM (v := 0) d_MO_comes_65 (fun H locs X_9 hS hM hF_10 => ?_)
        have hF := hF.tr hF_10
        refine lv_aload_n hx hb d_MO_comes_68 rfl (lv_at hl 0 rfl) ?_
        refine z_get (ci := 3) (C := R_MO) (T := F_MO) (N := 23) hx hb hts j_MO hown hK hS hM.ob rfl 0 (by decide) (hk k_504 rfl) (fun _ h9 => h9) rfl d_MO_comes_69 ?_
        refine lv_if_le (tgt := 77) hx hb d_MO_comes_72 (by decide) (fun c_11 => ?_) (fun c_11 => absurd (by decide) c_11)
        have hlt : k < 20 := by have h9 : ¬ k = 20 := fun h9 => c_8 (by rw [h9]; rfl); omega
        obtain ⟨M, hW, hR, -, -, -⟩ := hM
        refine lv_aload_n hx hb d_MO_comes_77 rfl (lv_at hl 0 rfl) ?_
        refine lv_dup hx hb d_MO_comes_78 rfl ?_
        refine z_get (ci := 3) (C := R_MO) (T := F_MO) (N := 23) hx hb hts j_MO hown hK hS hW.1 rfl 3 (by decide) (hk k_511 rfl) (fun _ h9 => h9) rfl d_MO_comes_79 ?_
        refine lv_iconst (v := 1) hx hb d_MO_comes_82 (by decide) ?_
        refine lv_iadd hx hb d_MO_comes_83 ?_
        refine mw_returns (v := (nI k) + 1) hx hb hG hown hK hS hW (nI_1 k) d_MO_comes_84 (fun H locs X_12 hS hW hF_13 => ?_)
        have hF := hF.tr hF_13
        refine lv_aload_n hx hb d_MO_comes_87 rfl (lv_at hl 0 rfl) ?_
        refine z_get (ci := 3) (C := R_MO) (T := F_MO) (N := 23) hx hb hts j_MO hown hK hS hW.1 rfl 8 (by decide) (hk k_512 rfl) (fun _ h9 => h9) rfl d_MO_comes_88 ?_
        refine lv_aload_n hx hb d_MO_comes_91 rfl (lv_at hl 0 rfl) ?_
        refine z_get (ci := 3) (C := R_MO) (T := F_MO) (N := 23) hx hb hts j_MO hown hK hS hW.1 rfl 3 (by decide) (hk k_511 rfl) (fun _ h9 => h9) rfl d_MO_comes_92 ?_
        refine lv_iload_n hx hb d_MO_comes_95 rfl (lv_at hl 1 rfl) ?_
        refine mw_st (x := nI i) hx hb hK hS hW 8 (k + 1) (by decide) (by show (k + 1) < 21; omega) (by omega) d_MO_comes_96 (fun H locs X_14 hS hW hF_15 => ?_)
        have hF := hF.tr hF_15
        refine lv_aload_n hx hb d_MO_comes_97 rfl (lv_at hl 0 rfl) ?_
        refine z_get (ci := 3) (C := R_MO) (T := F_MO) (N := 23) hx hb hts j_MO hown hK hS hW.1 rfl 9 (by decide) (hk k_513 rfl) (fun _ h9 => h9) rfl d_MO_comes_98 ?_
        refine lv_aload_n hx hb d_MO_comes_101 rfl (lv_at hl 0 rfl) ?_
        refine z_get (ci := 3) (C := R_MO) (T := F_MO) (N := 23) hx hb hts j_MO hown hK hS hW.1 rfl 3 (by decide) (hk k_511 rfl) (fun _ h9 => h9) rfl d_MO_comes_102 ?_
        refine lv_iload_n hx hb d_MO_comes_105 rfl (lv_at hl 2 rfl) ?_
        refine mw_st (x := p0) hx hb hK hS hW 9 (k + 1) (by decide) (by show (k + 1) < 21; omega) (by omega) d_MO_comes_106 (fun H locs X_16 hS hW hF_17 => ?_)
        have hF := hF.tr hF_17
        refine lv_aload_n hx hb d_MO_comes_107 rfl (lv_at hl 0 rfl) ?_
        refine z_get (ci := 3) (C := R_MO) (T := F_MO) (N := 23) hx hb hts j_MO hown hK hS hW.1 rfl 10 (by decide) (hk k_514 rfl) (fun _ h9 => h9) rfl d_MO_comes_108 ?_
        refine lv_aload_n hx hb d_MO_comes_111 rfl (lv_at hl 0 rfl) ?_
        refine z_get (ci := 3) (C := R_MO) (T := F_MO) (N := 23) hx hb hts j_MO hown hK hS hW.1 rfl 3 (by decide) (hk k_511 rfl) (fun _ h9 => h9) rfl d_MO_comes_112 ?_
        refine lv_iload_n hx hb d_MO_comes_115 rfl (lv_at hl 3 rfl) ?_
        refine lv_if_eq (tgt := 123) hx hb d_MO_comes_116 (by decide) (fun c_18 => ?_) (fun c_18 => ?_)
        · refine lv_iconst (v := 1) hx hb d_MO_comes_123 (by decide) ?_
          refine mw_st (x := 1) hx hb hK hS hW 10 (k + 1) (by decide) (by show (k + 1) < 21; omega) (by omega) d_MO_comes_124 (fun H locs X_19 hS hW hF_20 => ?_)
          have hF := hF.tr hF_20
          refine lv_aload_n hx hb d_MO_comes_125 rfl (lv_at hl 0 rfl) ?_
          refine z_get (ci := 3) (C := R_MO) (T := F_MO) (N := 23) hx hb hts j_MO hown hK hS hW.1 rfl 11 (by decide) (hk k_515 rfl) (fun _ h9 => h9) rfl d_MO_comes_126 ?_
          refine lv_aload_n hx hb d_MO_comes_129 rfl (lv_at hl 0 rfl) ?_
          refine z_get (ci := 3) (C := R_MO) (T := F_MO) (N := 23) hx hb hts j_MO hown hK hS hW.1 rfl 3 (by decide) (hk k_511 rfl) (fun _ h9 => h9) rfl d_MO_comes_130 ?_
          refine lv_aload_n hx hb d_MO_comes_133 rfl (lv_at hl 0 rfl) ?_
          refine z_get (ci := 3) (C := R_MO) (T := F_MO) (N := 23) hx hb hts j_MO hown hK hS hW.1 rfl 1 (by decide) (hk k_505 rfl) (fun _ h9 => h9) rfl d_MO_comes_134 ?_
          refine mw_st (x := td) hx hb hK hS hW 11 (k + 1) (by decide) (by show (k + 1) < 21; omega) (by omega) d_MO_comes_137 (fun H locs X_21 hS hW hF_22 => ?_)
          have hF := hF.tr hF_22
          refine lv_aload_n hx hb d_MO_comes_138 rfl (lv_at hl 0 rfl) ?_
          refine z_get (ci := 3) (C := R_MO) (T := F_MO) (N := 23) hx hb hts j_MO hown hK hS hW.1 rfl 12 (by decide) (hk k_516 rfl) (fun _ h9 => h9) rfl d_MO_comes_139 ?_
          refine lv_aload_n hx hb d_MO_comes_142 rfl (lv_at hl 0 rfl) ?_
          refine z_get (ci := 3) (C := R_MO) (T := F_MO) (N := 23) hx hb hts j_MO hown hK hS hW.1 rfl 3 (by decide) (hk k_511 rfl) (fun _ h9 => h9) rfl d_MO_comes_143 ?_
          refine lv_iconst (v := (-1)) hx hb d_MO_comes_146 (by decide) ?_
          refine mw_st (x := (-1)) hx hb hK hS hW 12 (k + 1) (by decide) (by show (k + 1) < 21; omega) (by omega) d_MO_comes_147 (fun H locs X_23 hS hW hF_24 => ?_)
          have hF := hF.tr hF_24
          refine lv_aload_n hx hb d_MO_comes_148 rfl (lv_at hl 0 rfl) ?_
          refine z_get (ci := 3) (C := R_MO) (T := F_MO) (N := 23) hx hb hts j_MO hown hK hS hW.1 rfl 15 (by decide) (hk k_519 rfl) (fun _ h9 => h9) rfl d_MO_comes_149 ?_
          refine lv_aload_n hx hb d_MO_comes_152 rfl (lv_at hl 0 rfl) ?_
          refine z_get (ci := 3) (C := R_MO) (T := F_MO) (N := 23) hx hb hts j_MO hown hK hS hW.1 rfl 3 (by decide) (hk k_511 rfl) (fun _ h9 => h9) rfl d_MO_comes_153 ?_
          refine lv_iconst (v := (-1)) hx hb d_MO_comes_156 (by decide) ?_
          refine mw_st (x := (-1)) hx hb hK hS hW 15 (k + 1) (by decide) (by show (k + 1) < 21; omega) (by omega) d_MO_comes_157 (fun H locs X_25 hS hW hF_26 => ?_)
          have hF := hF.tr hF_26
          refine lv_aload_n hx hb d_MO_comes_158 rfl (lv_at hl 0 rfl) ?_
          refine z_get (ci := 3) (C := R_MO) (T := F_MO) (N := 23) hx hb hts j_MO hown hK hS hW.1 rfl 16 (by decide) (hk k_520 rfl) (fun _ h9 => h9) rfl d_MO_comes_159 ?_
          refine lv_aload_n hx hb d_MO_comes_162 rfl (lv_at hl 0 rfl) ?_
          refine z_get (ci := 3) (C := R_MO) (T := F_MO) (N := 23) hx hb hts j_MO hown hK hS hW.1 rfl 3 (by decide) (hk k_511 rfl) (fun _ h9 => h9) rfl d_MO_comes_163 ?_
          refine lv_iconst (v := (-1)) hx hb d_MO_comes_166 (by decide) ?_
          refine mw_st (x := (-1)) hx hb hK hS hW 16 (k + 1) (by decide) (by show (k + 1) < 21; omega) (by omega) d_MO_comes_167 (fun H locs X_27 hS hW hF_28 => ?_)
          have hF := hF.tr hF_28
          refine lv_aload_n hx hb d_MO_comes_168 rfl (lv_at hl 0 rfl) ?_
          refine z_get (ci := 3) (C := R_MO) (T := F_MO) (N := 23) hx hb hts j_MO hown hK hS hW.1 rfl 17 (by decide) (hk k_521 rfl) (fun _ h9 => h9) rfl d_MO_comes_169 ?_
          refine lv_aload_n hx hb d_MO_comes_172 rfl (lv_at hl 0 rfl) ?_
          refine z_get (ci := 3) (C := R_MO) (T := F_MO) (N := 23) hx hb hts j_MO hown hK hS hW.1 rfl 3 (by decide) (hk k_511 rfl) (fun _ h9 => h9) rfl d_MO_comes_173 ?_
          refine lv_iconst (v := (-1)) hx hb d_MO_comes_176 (by decide) ?_
          refine mw_st (x := (-1)) hx hb hK hS hW 17 (k + 1) (by decide) (by show (k + 1) < 21; omega) (by omega) d_MO_comes_177 (fun H locs X_29 hS hW hF_30 => ?_)
          have hF := hF.tr hF_30
          refine lv_aload_n hx hb d_MO_comes_178 rfl (lv_at hl 0 rfl) ?_
          refine z_get (ci := 3) (C := R_MO) (T := F_MO) (N := 23) hx hb hts j_MO hown hK hS hW.1 rfl 3 (by decide) (hk k_511 rfl) (fun _ h9 => h9) rfl d_MO_comes_179 ?_
          exact z_Ciret hx hb hr rfl hlk hS (by simp only [if_pos c_18]; exact z_vv (zV0 (by unfold cd_comes; rw [if_pos w_2]; rw [if_pos (hb5.mp c_7)]; exact if_neg (fun h9 => c_8 (by rw [h9]; rfl))) hF ⟨_, hW, MR.comes hR (fun _ => rfl) (fun _ => rfl) (fun _ => rfl) (fun _ => rfl) (fun _ => rfl) (fun _ => rfl) (fun _ => rfl) (fun _ => rfl) (fun i hi => by rw [zfr_ne (by omega), zfr_ne (by omega), zfr_ne (by omega), zfr_ne (by omega), zfr_ne (by omega), zfr_ne (by omega), zfr_ne (by omega), zfr_ne (by omega)]), hn20, hlt, z_icom hIn hi⟩) (nI_1 k)) (by decide) (by decide) d_MO_comes_182
        · refine lv_iconst (v := 0) hx hb d_MO_comes_119 (by decide) ?_
          refine lv_goto (tgt := 124) hx hb d_MO_comes_120 (by decide) ?_
          refine mw_st (x := 0) hx hb hK hS hW 10 (k + 1) (by decide) (by show (k + 1) < 21; omega) (by omega) d_MO_comes_124 (fun H locs X_31 hS hW hF_32 => ?_)
          have hF := hF.tr hF_32
          refine lv_aload_n hx hb d_MO_comes_125 rfl (lv_at hl 0 rfl) ?_
          refine z_get (ci := 3) (C := R_MO) (T := F_MO) (N := 23) hx hb hts j_MO hown hK hS hW.1 rfl 11 (by decide) (hk k_515 rfl) (fun _ h9 => h9) rfl d_MO_comes_126 ?_
          refine lv_aload_n hx hb d_MO_comes_129 rfl (lv_at hl 0 rfl) ?_
          refine z_get (ci := 3) (C := R_MO) (T := F_MO) (N := 23) hx hb hts j_MO hown hK hS hW.1 rfl 3 (by decide) (hk k_511 rfl) (fun _ h9 => h9) rfl d_MO_comes_130 ?_
          refine lv_aload_n hx hb d_MO_comes_133 rfl (lv_at hl 0 rfl) ?_
          refine z_get (ci := 3) (C := R_MO) (T := F_MO) (N := 23) hx hb hts j_MO hown hK hS hW.1 rfl 1 (by decide) (hk k_505 rfl) (fun _ h9 => h9) rfl d_MO_comes_134 ?_
          refine mw_st (x := td) hx hb hK hS hW 11 (k + 1) (by decide) (by show (k + 1) < 21; omega) (by omega) d_MO_comes_137 (fun H locs X_33 hS hW hF_34 => ?_)
          have hF := hF.tr hF_34
          refine lv_aload_n hx hb d_MO_comes_138 rfl (lv_at hl 0 rfl) ?_
          refine z_get (ci := 3) (C := R_MO) (T := F_MO) (N := 23) hx hb hts j_MO hown hK hS hW.1 rfl 12 (by decide) (hk k_516 rfl) (fun _ h9 => h9) rfl d_MO_comes_139 ?_
          refine lv_aload_n hx hb d_MO_comes_142 rfl (lv_at hl 0 rfl) ?_
          refine z_get (ci := 3) (C := R_MO) (T := F_MO) (N := 23) hx hb hts j_MO hown hK hS hW.1 rfl 3 (by decide) (hk k_511 rfl) (fun _ h9 => h9) rfl d_MO_comes_143 ?_
          refine lv_iconst (v := (-1)) hx hb d_MO_comes_146 (by decide) ?_
          refine mw_st (x := (-1)) hx hb hK hS hW 12 (k + 1) (by decide) (by show (k + 1) < 21; omega) (by omega) d_MO_comes_147 (fun H locs X_35 hS hW hF_36 => ?_)
          have hF := hF.tr hF_36
          refine lv_aload_n hx hb d_MO_comes_148 rfl (lv_at hl 0 rfl) ?_
          refine z_get (ci := 3) (C := R_MO) (T := F_MO) (N := 23) hx hb hts j_MO hown hK hS hW.1 rfl 15 (by decide) (hk k_519 rfl) (fun _ h9 => h9) rfl d_MO_comes_149 ?_
          refine lv_aload_n hx hb d_MO_comes_152 rfl (lv_at hl 0 rfl) ?_
          refine z_get (ci := 3) (C := R_MO) (T := F_MO) (N := 23) hx hb hts j_MO hown hK hS hW.1 rfl 3 (by decide) (hk k_511 rfl) (fun _ h9 => h9) rfl d_MO_comes_153 ?_
          refine lv_iconst (v := (-1)) hx hb d_MO_comes_156 (by decide) ?_
          refine mw_st (x := (-1)) hx hb hK hS hW 15 (k + 1) (by decide) (by show (k + 1) < 21; omega) (by omega) d_MO_comes_157 (fun H locs X_37 hS hW hF_38 => ?_)
          have hF := hF.tr hF_38
          refine lv_aload_n hx hb d_MO_comes_158 rfl (lv_at hl 0 rfl) ?_
          refine z_get (ci := 3) (C := R_MO) (T := F_MO) (N := 23) hx hb hts j_MO hown hK hS hW.1 rfl 16 (by decide) (hk k_520 rfl) (fun _ h9 => h9) rfl d_MO_comes_159 ?_
          refine lv_aload_n hx hb d_MO_comes_162 rfl (lv_at hl 0 rfl) ?_
          refine z_get (ci := 3) (C := R_MO) (T := F_MO) (N := 23) hx hb hts j_MO hown hK hS hW.1 rfl 3 (by decide) (hk k_511 rfl) (fun _ h9 => h9) rfl d_MO_comes_163 ?_
          refine lv_iconst (v := (-1)) hx hb d_MO_comes_166 (by decide) ?_
          refine mw_st (x := (-1)) hx hb hK hS hW 16 (k + 1) (by decide) (by show (k + 1) < 21; omega) (by omega) d_MO_comes_167 (fun H locs X_39 hS hW hF_40 => ?_)
          have hF := hF.tr hF_40
          refine lv_aload_n hx hb d_MO_comes_168 rfl (lv_at hl 0 rfl) ?_
          refine z_get (ci := 3) (C := R_MO) (T := F_MO) (N := 23) hx hb hts j_MO hown hK hS hW.1 rfl 17 (by decide) (hk k_521 rfl) (fun _ h9 => h9) rfl d_MO_comes_169 ?_
          refine lv_aload_n hx hb d_MO_comes_172 rfl (lv_at hl 0 rfl) ?_
          refine z_get (ci := 3) (C := R_MO) (T := F_MO) (N := 23) hx hb hts j_MO hown hK hS hW.1 rfl 3 (by decide) (hk k_511 rfl) (fun _ h9 => h9) rfl d_MO_comes_173 ?_
          refine lv_iconst (v := (-1)) hx hb d_MO_comes_176 (by decide) ?_
          refine mw_st (x := (-1)) hx hb hK hS hW 17 (k + 1) (by decide) (by show (k + 1) < 21; omega) (by omega) d_MO_comes_177 (fun H locs X_41 hS hW hF_42 => ?_)
          have hF := hF.tr hF_42
          refine lv_aload_n hx hb d_MO_comes_178 rfl (lv_at hl 0 rfl) ?_
          refine z_get (ci := 3) (C := R_MO) (T := F_MO) (N := 23) hx hb hts j_MO hown hK hS hW.1 rfl 3 (by decide) (hk k_511 rfl) (fun _ h9 => h9) rfl d_MO_comes_179 ?_
          exact z_Ciret hx hb hr rfl hlk hS (by simp only [if_neg c_18]; exact z_vv (zV0 (by unfold cd_comes; rw [if_pos w_2]; rw [if_pos (hb5.mp c_7)]; exact if_neg (fun h9 => c_8 (by rw [h9]; rfl))) hF ⟨_, hW, MR.comes hR (fun _ => rfl) (fun _ => rfl) (fun _ => rfl) (fun _ => rfl) (fun _ => rfl) (fun _ => rfl) (fun _ => rfl) (fun _ => rfl) (fun i hi => by rw [zfr_ne (by omega), zfr_ne (by omega), zfr_ne (by omega), zfr_ne (by omega), zfr_ne (by omega), zfr_ne (by omega), zfr_ne (by omega), zfr_ne (by omega)]), hn20, hlt, z_icom hIn hi⟩) (nI_1 k)) (by decide) (by decide) d_MO_comes_182
      · refine lv_iconst (v := 4) hx hb d_MO_comes_60 (by decide) ?_
        refine lv_goto (tgt := 65) hx hb d_MO_comes_61 (by decide) ?_
        refine mo_code hx hb hG hown hK hS hM (v := 4) d_MO_comes_65 (fun H locs X_43 hS hM hF_44 => ?_)
        have hF := hF.tr hF_44
        refine lv_aload_n hx hb d_MO_comes_68 rfl (lv_at hl 0 rfl) ?_
        refine z_get (ci := 3) (C := R_MO) (T := F_MO) (N := 23) hx hb hts j_MO hown hK hS hM.ob rfl 0 (by decide) (hk k_504 rfl) (fun _ h9 => h9) rfl d_MO_comes_69 ?_
        refine lv_if_le (tgt := 77) hx hb d_MO_comes_72 (by decide) (fun c_45 => absurd c_45 (by decide)) (fun c_45 => ?_)
        refine lv_iconst (v := 0) hx hb d_MO_comes_75 (by decide) ?_
        exact z_Ciret hx hb hr rfl hlk hS (zV1 3 (by unfold cd_comes; rw [if_pos w_2]; rw [if_pos (hb5.mp c_7)]; exact if_pos ((nI_eq (by omega) (by decide)).mp (show nI k = nI 20 from c_8))) hF hM) (by decide) (by decide) d_MO_comes_76
    · refine lv_iconst (v := 3) hx hb d_MO_comes_47 (by decide) ?_
      refine lv_goto (tgt := 65) hx hb d_MO_comes_48 (by decide) ?_
      refine mo_code hx hb hG hown hK hS hM (v := 3) d_MO_comes_65 (fun H locs X_46 hS hM hF_47 => ?_)
      have hF := hF.tr hF_47
      refine lv_aload_n hx hb d_MO_comes_68 rfl (lv_at hl 0 rfl) ?_
      refine z_get (ci := 3) (C := R_MO) (T := F_MO) (N := 23) hx hb hts j_MO hown hK hS hM.ob rfl 0 (by decide) (hk k_504 rfl) (fun _ h9 => h9) rfl d_MO_comes_69 ?_
      refine lv_if_le (tgt := 77) hx hb d_MO_comes_72 (by decide) (fun c_48 => absurd c_48 (by decide)) (fun c_48 => ?_)
      refine lv_iconst (v := 0) hx hb d_MO_comes_75 (by decide) ?_
      exact z_Ciret hx hb hr rfl hlk hS (zV1 2 (by unfold cd_comes; rw [if_pos w_2]; rw [if_neg (fun h9 => c_7 (hb5.mpr h9))]) hF hM) (by decide) (by decide) d_MO_comes_76
  · refine z_pi (v := 0) (n_MO_MO_in hx hown hG (by rw [hb]; exact d_MO_comes_17)) hb (hl.1.trans hml.symm) (c_MO_in l hl9 p0 0 7) (by rw [if_neg w_2]) (z_Gkeeps lo tP) hG hK hS (cw_MO_in hG (by decide) (by decide)) d_MO_comes_17 (Nat.le_of_ble_eq_true rfl) (by decide) (by decide) (fun H hq hS => ?_)
    refine lv_if_ne (tgt := 27) hx hb d_MO_comes_20 (by decide) (fun c_49 => absurd (by decide) c_49) (fun c_49 => ?_)
    refine lv_iconst (v := 2) hx hb d_MO_comes_23 (by decide) ?_
    refine lv_goto (tgt := 28) hx hb d_MO_comes_24 (by decide) ?_
    refine mo_code hx hb hG hown hK hS hM (v := 2) d_MO_comes_28 (fun H locs X_50 hS hM hF_51 => ?_)
    have hF := hF.tr hF_51
    refine lv_aload_n hx hb d_MO_comes_31 rfl (lv_at hl 0 rfl) ?_
    refine z_get (ci := 3) (C := R_MO) (T := F_MO) (N := 23) hx hb hts j_MO hown hK hS hM.ob rfl 0 (by decide) (hk k_504 rfl) (fun _ h9 => h9) rfl d_MO_comes_32 ?_
    refine lv_if_ne (tgt := 68) hx hb d_MO_comes_35 (by decide) (fun c_52 => ?_) (fun c_52 => absurd c_52 (by decide))
    refine lv_aload_n hx hb d_MO_comes_68 rfl (lv_at hl 0 rfl) ?_
    refine z_get (ci := 3) (C := R_MO) (T := F_MO) (N := 23) hx hb hts j_MO hown hK hS hM.ob rfl 0 (by decide) (hk k_504 rfl) (fun _ h9 => h9) rfl d_MO_comes_69 ?_
    refine lv_if_le (tgt := 77) hx hb d_MO_comes_72 (by decide) (fun c_53 => absurd c_53 (by decide)) (fun c_53 => ?_)
    refine lv_iconst (v := 0) hx hb d_MO_comes_75 (by decide) ?_
    exact z_Ciret hx hb hr rfl hlk hS (zV1 1 (by unfold cd_comes; rw [if_neg w_2]) hF hM) (by decide) (by decide) d_MO_comes_76
set_option maxHeartbeats 4000000 in
set_option maxRecDepth 100000 in
theorem c_MO_init (l : Launch) (hl9 : l.stackTraces = false) {D : va_G} {cS cR cJ cI cZ : ClassId} {lo tP : Nat} (mo : Nat) {X : zM} (hq : X mo = some (.inr (3, msF 4 (fun _ => 0)))) : z_C (z_G lo tP) D cls4 (zty cS cR cJ cI cZ) lo l y_MO_init w_MO_init zrM [.ref mo] X (fun r X9 => r = .inl none ∧ (∃ ad, MI mo ad cI cZ 0 0 0 0 (fun _ _ => 0) (fun _ => 0) (fun _ _ => 0) X9) ∧ zFr 1 X X9) := by
  refine z_ofW (by decide) ?_
  intro p e s m args below meth c s₁ B hml hout hv
  obtain ⟨rfl, hG, hK, hW0, hXl, hlo⟩ := hv
  have hx := B.exec
  have hb := B.bytes
  have hr := B.returns
  have hlk := B.notSynchronized
  have hown : s.vm.findClass R_MO = some m.cls := findClass_of_methodNamed B.named
  have hts : ∀ w9 ∈ z_tb, w9.before ([.ref mo] : List Value).toArray s = true := hG.ts _
  have hk : ∀ {w9 : Cond}, w9 ∈ lw_tbl → z_ok w9 = true → w9.before ([.ref mo] : List Value).toArray s = true := fun h1 h2 => hG.w h1 h2 _
  have hg : z_Gr s.heap s.heap := z_Gr.rf
  have hS := z_S.start hW0 hXl hlo
  have hl := lv_entry ([.ref mo]) (n := 1) (Nat.le_of_ble_eq_true rfl)
  rw [lg_entry_eq]
  generalize (lg_sl ([.ref mo]) ++ List.replicate (1 - (lg_sl ([.ref mo])).length) Slot.unset).toArray = ls at hl ⊢
  have hl : lv_has ls 1 [(0, .ref mo)] := hl
  have hin : meth.name = "<init>" := (name_of_methodNamed B.named B.method).1
  have hF : zFr 1 X X := zFr.rf
  have hM : MS mo cI cZ 4 (fun _ => 0) X := ⟨hq, fun i h1 h2 => absurd h2 (by omega), fun a b h1 h2 => absurd h2 (by omega)⟩
  obtain ⟨ad, had⟩ : ∃ ad : Nat → Nat, ad = fun _ => 0 := ⟨_, rfl⟩
  rw [← had] at hM
  have hXc : ∃ Xc, Xc = X := ⟨_, rfl⟩
  obtain ⟨Xc, hXc⟩ := hXc
  have hS : z_S D cls4 lo X s.heap Xc s.heap [] := by rw [hXc]; exact hS
  rw [← hXc] at hM
  have hF : zFr 1 X Xc := by rw [hXc]; exact zFr.rf
  refine lv_aload_n hx hb d_MO_init_0 rfl (lv_at hl 0 rfl) ?_
  refine W.objInit hx hb hown (hk k_503 rfl) (hk k_37 rfl) (hk k_38 rfl) rfl (by rw [hml]; exact hl.1) rfl d_MO_init_1 (by decide) (Nat.le_of_ble_eq_true rfl) ?_
  refine W.eq (g2 := F0 m 4 ls []) rfl ?_
  refine lv_aload_n hx hb d_MO_init_4 rfl (lv_at hl 0 rfl) ?_
  refine lv_bipush (v := 20) hx hb d_MO_init_5 (by decide) ?_
  refine z_newa (atype := .int) (ty := .int) (N' := 20) (a0 := (20, .inl (fun _ => 0))) hx hb (hk k_574 rfl) rfl (hK.2 3 _ rfl).2 hS (fun _ => rfl) (by decide) (by decide) (by decide) (by decide) (by decide) d_MO_init_7 (fun q H f_q hS => ?_)
  refine z_putF (ci := 3) (C := R_MO) (T := F_MO) (N := 23) (ty := .array (.int)) (fs' := msF 5 (zui ad 4 q)) hx hb hts j_MO t_MO t_MO_ok n_MO hown hK hS ((z_ne (z_nf hM.1 f_q)).trans hM.1) rfl 4 (by decide) (hk k_507 rfl) (fun _ h9 => h9) rfl hin rfl (by decide +kernel) rfl rfl (Nat.le_of_ble_eq_true rfl) d_MO_init_9 rfl (fun H locs hS => ?_)
  have hF := (hF.nw (e := .inl (zac cI cZ 4, zln 4, .inl (fun _ => 0))) f_q).up (e := .inr (3, msF 5 (zui ad 4 q))) ((z_ne (z_nf hM.1 f_q)).trans hM.1) rfl
  have hM := hM.next f_q
  obtain ⟨Xc4, hXn⟩ : ∃ Xn, Xn = z_up (z_up Xc q (.inl (zac cI cZ 4, zln 4, .inl (fun _ => 0)))) mo (.inr (3, msF 5 (zui ad 4 q))) := ⟨_, rfl⟩
  have hS : z_S D cls4 lo X s.heap Xc4 H locs := by rw [hXn]; exact hS
  rw [← hXn] at hF hM
  clear hXn
  generalize zui ad 4 q = ad at hM
  refine lv_aload_n hx hb d_MO_init_12 rfl (lv_at hl 0 rfl) ?_
  refine lv_bipush (v := 20) hx hb d_MO_init_13 (by decide) ?_
  refine z_newa (atype := .int) (ty := .int) (N' := 20) (a0 := (20, .inl (fun _ => 0))) hx hb (hk k_574 rfl) rfl (hK.2 3 _ rfl).2 hS (fun _ => rfl) (by decide) (by decide) (by decide) (by decide) (by decide) d_MO_init_15 (fun q H f_q hS => ?_)
  refine z_putF (ci := 3) (C := R_MO) (T := F_MO) (N := 23) (ty := .array (.int)) (fs' := msF 6 (zui ad 5 q)) hx hb hts j_MO t_MO t_MO_ok n_MO hown hK hS ((z_ne (z_nf hM.1 f_q)).trans hM.1) rfl 5 (by decide) (hk k_508 rfl) (fun _ h9 => h9) rfl hin rfl (by decide +kernel) rfl rfl (Nat.le_of_ble_eq_true rfl) d_MO_init_17 rfl (fun H locs hS => ?_)
  have hF := (hF.nw (e := .inl (zac cI cZ 5, zln 5, .inl (fun _ => 0))) f_q).up (e := .inr (3, msF 6 (zui ad 5 q))) ((z_ne (z_nf hM.1 f_q)).trans hM.1) rfl
  have hM := hM.next f_q
  obtain ⟨Xc5, hXn⟩ : ∃ Xn, Xn = z_up (z_up Xc4 q (.inl (zac cI cZ 5, zln 5, .inl (fun _ => 0)))) mo (.inr (3, msF 6 (zui ad 5 q))) := ⟨_, rfl⟩
  have hS : z_S D cls4 lo X s.heap Xc5 H locs := by rw [hXn]; exact hS
  rw [← hXn] at hF hM
  clear hXn
  generalize zui ad 5 q = ad at hM
  refine lv_aload_n hx hb d_MO_init_20 rfl (lv_at hl 0 rfl) ?_
  refine lv_bipush (v := 20) hx hb d_MO_init_21 (by decide) ?_
  refine z_newa (atype := .int) (ty := .int) (N' := 20) (a0 := (20, .inl (fun _ => 0))) hx hb (hk k_574 rfl) rfl (hK.2 3 _ rfl).2 hS (fun _ => rfl) (by decide) (by decide) (by decide) (by decide) (by decide) d_MO_init_23 (fun q H f_q hS => ?_)
  refine z_putF (ci := 3) (C := R_MO) (T := F_MO) (N := 23) (ty := .array (.int)) (fs' := msF 7 (zui ad 6 q)) hx hb hts j_MO t_MO t_MO_ok n_MO hown hK hS ((z_ne (z_nf hM.1 f_q)).trans hM.1) rfl 6 (by decide) (hk k_509 rfl) (fun _ h9 => h9) rfl hin rfl (by decide +kernel) rfl rfl (Nat.le_of_ble_eq_true rfl) d_MO_init_25 rfl (fun H locs hS => ?_)
  have hF := (hF.nw (e := .inl (zac cI cZ 6, zln 6, .inl (fun _ => 0))) f_q).up (e := .inr (3, msF 7 (zui ad 6 q))) ((z_ne (z_nf hM.1 f_q)).trans hM.1) rfl
  have hM := hM.next f_q
  obtain ⟨Xc6, hXn⟩ : ∃ Xn, Xn = z_up (z_up Xc5 q (.inl (zac cI cZ 6, zln 6, .inl (fun _ => 0)))) mo (.inr (3, msF 7 (zui ad 6 q))) := ⟨_, rfl⟩
  have hS : z_S D cls4 lo X s.heap Xc6 H locs := by rw [hXn]; exact hS
  rw [← hXn] at hF hM
  clear hXn
  generalize zui ad 6 q = ad at hM
  refine lv_aload_n hx hb d_MO_init_28 rfl (lv_at hl 0 rfl) ?_
  refine lv_bipush (v := 20) hx hb d_MO_init_29 (by decide) ?_
  refine z_newa (atype := .int) (ty := .int) (N' := 20) (a0 := (20, .inl (fun _ => 0))) hx hb (hk k_574 rfl) rfl (hK.2 3 _ rfl).2 hS (fun _ => rfl) (by decide) (by decide) (by decide) (by decide) (by decide) d_MO_init_31 (fun q H f_q hS => ?_)
  refine z_putF (ci := 3) (C := R_MO) (T := F_MO) (N := 23) (ty := .array (.int)) (fs' := msF 8 (zui ad 7 q)) hx hb hts j_MO t_MO t_MO_ok n_MO hown hK hS ((z_ne (z_nf hM.1 f_q)).trans hM.1) rfl 7 (by decide) (hk k_510 rfl) (fun _ h9 => h9) rfl hin rfl (by decide +kernel) rfl rfl (Nat.le_of_ble_eq_true rfl) d_MO_init_33 rfl (fun H locs hS => ?_)
  have hF := (hF.nw (e := .inl (zac cI cZ 7, zln 7, .inl (fun _ => 0))) f_q).up (e := .inr (3, msF 8 (zui ad 7 q))) ((z_ne (z_nf hM.1 f_q)).trans hM.1) rfl
  have hM := hM.next f_q
  obtain ⟨Xc7, hXn⟩ : ∃ Xn, Xn = z_up (z_up Xc6 q (.inl (zac cI cZ 7, zln 7, .inl (fun _ => 0)))) mo (.inr (3, msF 8 (zui ad 7 q))) := ⟨_, rfl⟩
  have hS : z_S D cls4 lo X s.heap Xc7 H locs := by rw [hXn]; exact hS
  rw [← hXn] at hF hM
  clear hXn
  generalize zui ad 7 q = ad at hM
  refine lv_aload_n hx hb d_MO_init_36 rfl (lv_at hl 0 rfl) ?_
  refine lv_bipush (v := 21) hx hb d_MO_init_37 (by decide) ?_
  refine z_newa (atype := .int) (ty := .int) (N' := 21) (a0 := (21, .inl (fun _ => 0))) hx hb (hk k_574 rfl) rfl (hK.2 3 _ rfl).2 hS (fun _ => rfl) (by decide) (by decide) (by decide) (by decide) (by decide) d_MO_init_39 (fun q H f_q hS => ?_)
  refine z_putF (ci := 3) (C := R_MO) (T := F_MO) (N := 23) (ty := .array (.int)) (fs' := msF 9 (zui ad 8 q)) hx hb hts j_MO t_MO t_MO_ok n_MO hown hK hS ((z_ne (z_nf hM.1 f_q)).trans hM.1) rfl 8 (by decide) (hk k_512 rfl) (fun _ h9 => h9) rfl hin rfl (by decide +kernel) rfl rfl (Nat.le_of_ble_eq_true rfl) d_MO_init_41 rfl (fun H locs hS => ?_)
  have hF := (hF.nw (e := .inl (zac cI cZ 8, zln 8, .inl (fun _ => 0))) f_q).up (e := .inr (3, msF 9 (zui ad 8 q))) ((z_ne (z_nf hM.1 f_q)).trans hM.1) rfl
  have hM := hM.next f_q
  obtain ⟨Xc8, hXn⟩ : ∃ Xn, Xn = z_up (z_up Xc7 q (.inl (zac cI cZ 8, zln 8, .inl (fun _ => 0)))) mo (.inr (3, msF 9 (zui ad 8 q))) := ⟨_, rfl⟩
  have hS : z_S D cls4 lo X s.heap Xc8 H locs := by rw [hXn]; exact hS
  rw [← hXn] at hF hM
  clear hXn
  generalize zui ad 8 q = ad at hM
  refine lv_aload_n hx hb d_MO_init_44 rfl (lv_at hl 0 rfl) ?_
  refine lv_bipush (v := 21) hx hb d_MO_init_45 (by decide) ?_
  refine z_newa (atype := .int) (ty := .int) (N' := 21) (a0 := (21, .inl (fun _ => 0))) hx hb (hk k_574 rfl) rfl (hK.2 3 _ rfl).2 hS (fun _ => rfl) (by decide) (by decide) (by decide) (by decide) (by decide) d_MO_init_47 (fun q H f_q hS => ?_)
  refine z_putF (ci := 3) (C := R_MO) (T := F_MO) (N := 23) (ty := .array (.int)) (fs' := msF 10 (zui ad 9 q)) hx hb hts j_MO t_MO t_MO_ok n_MO hown hK hS ((z_ne (z_nf hM.1 f_q)).trans hM.1) rfl 9 (by decide) (hk k_513 rfl) (fun _ h9 => h9) rfl hin rfl (by decide +kernel) rfl rfl (Nat.le_of_ble_eq_true rfl) d_MO_init_49 rfl (fun H locs hS => ?_)
  have hF := (hF.nw (e := .inl (zac cI cZ 9, zln 9, .inl (fun _ => 0))) f_q).up (e := .inr (3, msF 10 (zui ad 9 q))) ((z_ne (z_nf hM.1 f_q)).trans hM.1) rfl
  have hM := hM.next f_q
  obtain ⟨Xc9, hXn⟩ : ∃ Xn, Xn = z_up (z_up Xc8 q (.inl (zac cI cZ 9, zln 9, .inl (fun _ => 0)))) mo (.inr (3, msF 10 (zui ad 9 q))) := ⟨_, rfl⟩
  have hS : z_S D cls4 lo X s.heap Xc9 H locs := by rw [hXn]; exact hS
  rw [← hXn] at hF hM
  clear hXn
  generalize zui ad 9 q = ad at hM
  refine lv_aload_n hx hb d_MO_init_52 rfl (lv_at hl 0 rfl) ?_
  refine lv_bipush (v := 21) hx hb d_MO_init_53 (by decide) ?_
  refine z_newa (atype := .int) (ty := .int) (N' := 21) (a0 := (21, .inl (fun _ => 0))) hx hb (hk k_574 rfl) rfl (hK.2 3 _ rfl).2 hS (fun _ => rfl) (by decide) (by decide) (by decide) (by decide) (by decide) d_MO_init_55 (fun q H f_q hS => ?_)
  refine z_putF (ci := 3) (C := R_MO) (T := F_MO) (N := 23) (ty := .array (.int)) (fs' := msF 11 (zui ad 10 q)) hx hb hts j_MO t_MO t_MO_ok n_MO hown hK hS ((z_ne (z_nf hM.1 f_q)).trans hM.1) rfl 10 (by decide) (hk k_514 rfl) (fun _ h9 => h9) rfl hin rfl (by decide +kernel) rfl rfl (Nat.le_of_ble_eq_true rfl) d_MO_init_57 rfl (fun H locs hS => ?_)
  have hF := (hF.nw (e := .inl (zac cI cZ 10, zln 10, .inl (fun _ => 0))) f_q).up (e := .inr (3, msF 11 (zui ad 10 q))) ((z_ne (z_nf hM.1 f_q)).trans hM.1) rfl
  have hM := hM.next f_q
  obtain ⟨Xc10, hXn⟩ : ∃ Xn, Xn = z_up (z_up Xc9 q (.inl (zac cI cZ 10, zln 10, .inl (fun _ => 0)))) mo (.inr (3, msF 11 (zui ad 10 q))) := ⟨_, rfl⟩
  have hS : z_S D cls4 lo X s.heap Xc10 H locs := by rw [hXn]; exact hS
  rw [← hXn] at hF hM
  clear hXn
  generalize zui ad 10 q = ad at hM
  refine lv_aload_n hx hb d_MO_init_60 rfl (lv_at hl 0 rfl) ?_
  refine lv_bipush (v := 21) hx hb d_MO_init_61 (by decide) ?_
  refine z_newa (atype := .int) (ty := .int) (N' := 21) (a0 := (21, .inl (fun _ => 0))) hx hb (hk k_574 rfl) rfl (hK.2 3 _ rfl).2 hS (fun _ => rfl) (by decide) (by decide) (by decide) (by decide) (by decide) d_MO_init_63 (fun q H f_q hS => ?_)
  refine z_putF (ci := 3) (C := R_MO) (T := F_MO) (N := 23) (ty := .array (.int)) (fs' := msF 12 (zui ad 11 q)) hx hb hts j_MO t_MO t_MO_ok n_MO hown hK hS ((z_ne (z_nf hM.1 f_q)).trans hM.1) rfl 11 (by decide) (hk k_515 rfl) (fun _ h9 => h9) rfl hin rfl (by decide +kernel) rfl rfl (Nat.le_of_ble_eq_true rfl) d_MO_init_65 rfl (fun H locs hS => ?_)
  have hF := (hF.nw (e := .inl (zac cI cZ 11, zln 11, .inl (fun _ => 0))) f_q).up (e := .inr (3, msF 12 (zui ad 11 q))) ((z_ne (z_nf hM.1 f_q)).trans hM.1) rfl
  have hM := hM.next f_q
  obtain ⟨Xc11, hXn⟩ : ∃ Xn, Xn = z_up (z_up Xc10 q (.inl (zac cI cZ 11, zln 11, .inl (fun _ => 0)))) mo (.inr (3, msF 12 (zui ad 11 q))) := ⟨_, rfl⟩
  have hS : z_S D cls4 lo X s.heap Xc11 H locs := by rw [hXn]; exact hS
  rw [← hXn] at hF hM
  clear hXn
  generalize zui ad 11 q = ad at hM
  refine lv_aload_n hx hb d_MO_init_68 rfl (lv_at hl 0 rfl) ?_
  refine lv_bipush (v := 21) hx hb d_MO_init_69 (by decide) ?_
  refine z_newa (atype := .int) (ty := .int) (N' := 21) (a0 := (21, .inl (fun _ => 0))) hx hb (hk k_574 rfl) rfl (hK.2 3 _ rfl).2 hS (fun _ => rfl) (by decide) (by decide) (by decide) (by decide) (by decide) d_MO_init_71 (fun q H f_q hS => ?_)
  refine z_putF (ci := 3) (C := R_MO) (T := F_MO) (N := 23) (ty := .array (.int)) (fs' := msF 13 (zui ad 12 q)) hx hb hts j_MO t_MO t_MO_ok n_MO hown hK hS ((z_ne (z_nf hM.1 f_q)).trans hM.1) rfl 12 (by decide) (hk k_516 rfl) (fun _ h9 => h9) rfl hin rfl (by decide +kernel) rfl rfl (Nat.le_of_ble_eq_true rfl) d_MO_init_73 rfl (fun H locs hS => ?_)
  have hF := (hF.nw (e := .inl (zac cI cZ 12, zln 12, .inl (fun _ => 0))) f_q).up (e := .inr (3, msF 13 (zui ad 12 q))) ((z_ne (z_nf hM.1 f_q)).trans hM.1) rfl
  have hM := hM.next f_q
  obtain ⟨Xc12, hXn⟩ : ∃ Xn, Xn = z_up (z_up Xc11 q (.inl (zac cI cZ 12, zln 12, .inl (fun _ => 0)))) mo (.inr (3, msF 13 (zui ad 12 q))) := ⟨_, rfl⟩
  have hS : z_S D cls4 lo X s.heap Xc12 H locs := by rw [hXn]; exact hS
  rw [← hXn] at hF hM
  clear hXn
  generalize zui ad 12 q = ad at hM
  refine lv_aload_n hx hb d_MO_init_76 rfl (lv_at hl 0 rfl) ?_
  refine lv_bipush (v := 21) hx hb d_MO_init_77 (by decide) ?_
  refine z_newa (atype := .boolean) (ty := .boolean) (N' := 21) (a0 := (21, .inl (fun _ => 0))) hx hb (hk k_575 rfl) rfl (hK.2 4 _ rfl).2 hS (fun _ => rfl) (by decide) (by decide) (by decide) (by decide) (by decide) d_MO_init_79 (fun q H f_q hS => ?_)
  refine z_putF (ci := 3) (C := R_MO) (T := F_MO) (N := 23) (ty := .array (.boolean)) (fs' := msF 14 (zui ad 13 q)) hx hb hts j_MO t_MO t_MO_ok n_MO hown hK hS ((z_ne (z_nf hM.1 f_q)).trans hM.1) rfl 13 (by decide) (hk k_517 rfl) (fun _ h9 => h9) rfl hin rfl (by decide +kernel) rfl rfl (Nat.le_of_ble_eq_true rfl) d_MO_init_81 rfl (fun H locs hS => ?_)
  have hF := (hF.nw (e := .inl (zac cI cZ 13, zln 13, .inl (fun _ => 0))) f_q).up (e := .inr (3, msF 14 (zui ad 13 q))) ((z_ne (z_nf hM.1 f_q)).trans hM.1) rfl
  have hM := hM.next f_q
  obtain ⟨Xc13, hXn⟩ : ∃ Xn, Xn = z_up (z_up Xc12 q (.inl (zac cI cZ 13, zln 13, .inl (fun _ => 0)))) mo (.inr (3, msF 14 (zui ad 13 q))) := ⟨_, rfl⟩
  have hS : z_S D cls4 lo X s.heap Xc13 H locs := by rw [hXn]; exact hS
  rw [← hXn] at hF hM
  clear hXn
  generalize zui ad 13 q = ad at hM
  refine lv_aload_n hx hb d_MO_init_84 rfl (lv_at hl 0 rfl) ?_
  refine lv_bipush (v := 21) hx hb d_MO_init_85 (by decide) ?_
  refine z_newa (atype := .boolean) (ty := .boolean) (N' := 21) (a0 := (21, .inl (fun _ => 0))) hx hb (hk k_575 rfl) rfl (hK.2 4 _ rfl).2 hS (fun _ => rfl) (by decide) (by decide) (by decide) (by decide) (by decide) d_MO_init_87 (fun q H f_q hS => ?_)
  refine z_putF (ci := 3) (C := R_MO) (T := F_MO) (N := 23) (ty := .array (.boolean)) (fs' := msF 15 (zui ad 14 q)) hx hb hts j_MO t_MO t_MO_ok n_MO hown hK hS ((z_ne (z_nf hM.1 f_q)).trans hM.1) rfl 14 (by decide) (hk k_518 rfl) (fun _ h9 => h9) rfl hin rfl (by decide +kernel) rfl rfl (Nat.le_of_ble_eq_true rfl) d_MO_init_89 rfl (fun H locs hS => ?_)
  have hF := (hF.nw (e := .inl (zac cI cZ 14, zln 14, .inl (fun _ => 0))) f_q).up (e := .inr (3, msF 15 (zui ad 14 q))) ((z_ne (z_nf hM.1 f_q)).trans hM.1) rfl
  have hM := hM.next f_q
  obtain ⟨Xc14, hXn⟩ : ∃ Xn, Xn = z_up (z_up Xc13 q (.inl (zac cI cZ 14, zln 14, .inl (fun _ => 0)))) mo (.inr (3, msF 15 (zui ad 14 q))) := ⟨_, rfl⟩
  have hS : z_S D cls4 lo X s.heap Xc14 H locs := by rw [hXn]; exact hS
  rw [← hXn] at hF hM
  clear hXn
  generalize zui ad 14 q = ad at hM
  refine lv_aload_n hx hb d_MO_init_92 rfl (lv_at hl 0 rfl) ?_
  refine lv_bipush (v := 21) hx hb d_MO_init_93 (by decide) ?_
  refine z_newa (atype := .int) (ty := .int) (N' := 21) (a0 := (21, .inl (fun _ => 0))) hx hb (hk k_574 rfl) rfl (hK.2 3 _ rfl).2 hS (fun _ => rfl) (by decide) (by decide) (by decide) (by decide) (by decide) d_MO_init_95 (fun q H f_q hS => ?_)
  refine z_putF (ci := 3) (C := R_MO) (T := F_MO) (N := 23) (ty := .array (.int)) (fs' := msF 16 (zui ad 15 q)) hx hb hts j_MO t_MO t_MO_ok n_MO hown hK hS ((z_ne (z_nf hM.1 f_q)).trans hM.1) rfl 15 (by decide) (hk k_519 rfl) (fun _ h9 => h9) rfl hin rfl (by decide +kernel) rfl rfl (Nat.le_of_ble_eq_true rfl) d_MO_init_97 rfl (fun H locs hS => ?_)
  have hF := (hF.nw (e := .inl (zac cI cZ 15, zln 15, .inl (fun _ => 0))) f_q).up (e := .inr (3, msF 16 (zui ad 15 q))) ((z_ne (z_nf hM.1 f_q)).trans hM.1) rfl
  have hM := hM.next f_q
  obtain ⟨Xc15, hXn⟩ : ∃ Xn, Xn = z_up (z_up Xc14 q (.inl (zac cI cZ 15, zln 15, .inl (fun _ => 0)))) mo (.inr (3, msF 16 (zui ad 15 q))) := ⟨_, rfl⟩
  have hS : z_S D cls4 lo X s.heap Xc15 H locs := by rw [hXn]; exact hS
  rw [← hXn] at hF hM
  clear hXn
  generalize zui ad 15 q = ad at hM
  refine lv_aload_n hx hb d_MO_init_100 rfl (lv_at hl 0 rfl) ?_
  refine lv_bipush (v := 21) hx hb d_MO_init_101 (by decide) ?_
  refine z_newa (atype := .int) (ty := .int) (N' := 21) (a0 := (21, .inl (fun _ => 0))) hx hb (hk k_574 rfl) rfl (hK.2 3 _ rfl).2 hS (fun _ => rfl) (by decide) (by decide) (by decide) (by decide) (by decide) d_MO_init_103 (fun q H f_q hS => ?_)
  refine z_putF (ci := 3) (C := R_MO) (T := F_MO) (N := 23) (ty := .array (.int)) (fs' := msF 17 (zui ad 16 q)) hx hb hts j_MO t_MO t_MO_ok n_MO hown hK hS ((z_ne (z_nf hM.1 f_q)).trans hM.1) rfl 16 (by decide) (hk k_520 rfl) (fun _ h9 => h9) rfl hin rfl (by decide +kernel) rfl rfl (Nat.le_of_ble_eq_true rfl) d_MO_init_105 rfl (fun H locs hS => ?_)
  have hF := (hF.nw (e := .inl (zac cI cZ 16, zln 16, .inl (fun _ => 0))) f_q).up (e := .inr (3, msF 17 (zui ad 16 q))) ((z_ne (z_nf hM.1 f_q)).trans hM.1) rfl
  have hM := hM.next f_q
  obtain ⟨Xc16, hXn⟩ : ∃ Xn, Xn = z_up (z_up Xc15 q (.inl (zac cI cZ 16, zln 16, .inl (fun _ => 0)))) mo (.inr (3, msF 17 (zui ad 16 q))) := ⟨_, rfl⟩
  have hS : z_S D cls4 lo X s.heap Xc16 H locs := by rw [hXn]; exact hS
  rw [← hXn] at hF hM
  clear hXn
  generalize zui ad 16 q = ad at hM
  refine lv_aload_n hx hb d_MO_init_108 rfl (lv_at hl 0 rfl) ?_
  refine lv_bipush (v := 21) hx hb d_MO_init_109 (by decide) ?_
  refine z_newa (atype := .int) (ty := .int) (N' := 21) (a0 := (21, .inl (fun _ => 0))) hx hb (hk k_574 rfl) rfl (hK.2 3 _ rfl).2 hS (fun _ => rfl) (by decide) (by decide) (by decide) (by decide) (by decide) d_MO_init_111 (fun q H f_q hS => ?_)
  refine z_putF (ci := 3) (C := R_MO) (T := F_MO) (N := 23) (ty := .array (.int)) (fs' := msF 18 (zui ad 17 q)) hx hb hts j_MO t_MO t_MO_ok n_MO hown hK hS ((z_ne (z_nf hM.1 f_q)).trans hM.1) rfl 17 (by decide) (hk k_521 rfl) (fun _ h9 => h9) rfl hin rfl (by decide +kernel) rfl rfl (Nat.le_of_ble_eq_true rfl) d_MO_init_113 rfl (fun H locs hS => ?_)
  have hF := (hF.nw (e := .inl (zac cI cZ 17, zln 17, .inl (fun _ => 0))) f_q).up (e := .inr (3, msF 18 (zui ad 17 q))) ((z_ne (z_nf hM.1 f_q)).trans hM.1) rfl
  have hM := hM.next f_q
  obtain ⟨Xc17, hXn⟩ : ∃ Xn, Xn = z_up (z_up Xc16 q (.inl (zac cI cZ 17, zln 17, .inl (fun _ => 0)))) mo (.inr (3, msF 18 (zui ad 17 q))) := ⟨_, rfl⟩
  have hS : z_S D cls4 lo X s.heap Xc17 H locs := by rw [hXn]; exact hS
  rw [← hXn] at hF hM
  clear hXn
  generalize zui ad 17 q = ad at hM
  refine lv_aload_n hx hb d_MO_init_116 rfl (lv_at hl 0 rfl) ?_
  refine lv_bipush (v := 21) hx hb d_MO_init_117 (by decide) ?_
  refine z_newa (atype := .int) (ty := .int) (N' := 21) (a0 := (21, .inl (fun _ => 0))) hx hb (hk k_574 rfl) rfl (hK.2 3 _ rfl).2 hS (fun _ => rfl) (by decide) (by decide) (by decide) (by decide) (by decide) d_MO_init_119 (fun q H f_q hS => ?_)
  refine z_putF (ci := 3) (C := R_MO) (T := F_MO) (N := 23) (ty := .array (.int)) (fs' := msF 19 (zui ad 18 q)) hx hb hts j_MO t_MO t_MO_ok n_MO hown hK hS ((z_ne (z_nf hM.1 f_q)).trans hM.1) rfl 18 (by decide) (hk k_522 rfl) (fun _ h9 => h9) rfl hin rfl (by decide +kernel) rfl rfl (Nat.le_of_ble_eq_true rfl) d_MO_init_121 rfl (fun H locs hS => ?_)
  have hF := (hF.nw (e := .inl (zac cI cZ 18, zln 18, .inl (fun _ => 0))) f_q).up (e := .inr (3, msF 19 (zui ad 18 q))) ((z_ne (z_nf hM.1 f_q)).trans hM.1) rfl
  have hM := hM.next f_q
  obtain ⟨Xc18, hXn⟩ : ∃ Xn, Xn = z_up (z_up Xc17 q (.inl (zac cI cZ 18, zln 18, .inl (fun _ => 0)))) mo (.inr (3, msF 19 (zui ad 18 q))) := ⟨_, rfl⟩
  have hS : z_S D cls4 lo X s.heap Xc18 H locs := by rw [hXn]; exact hS
  rw [← hXn] at hF hM
  clear hXn
  generalize zui ad 18 q = ad at hM
  refine lv_aload_n hx hb d_MO_init_124 rfl (lv_at hl 0 rfl) ?_
  refine lv_bipush (v := 21) hx hb d_MO_init_125 (by decide) ?_
  refine z_newa (atype := .int) (ty := .int) (N' := 21) (a0 := (21, .inl (fun _ => 0))) hx hb (hk k_574 rfl) rfl (hK.2 3 _ rfl).2 hS (fun _ => rfl) (by decide) (by decide) (by decide) (by decide) (by decide) d_MO_init_127 (fun q H f_q hS => ?_)
  refine z_putF (ci := 3) (C := R_MO) (T := F_MO) (N := 23) (ty := .array (.int)) (fs' := msF 20 (zui ad 19 q)) hx hb hts j_MO t_MO t_MO_ok n_MO hown hK hS ((z_ne (z_nf hM.1 f_q)).trans hM.1) rfl 19 (by decide) (hk k_523 rfl) (fun _ h9 => h9) rfl hin rfl (by decide +kernel) rfl rfl (Nat.le_of_ble_eq_true rfl) d_MO_init_129 rfl (fun H locs hS => ?_)
  have hF := (hF.nw (e := .inl (zac cI cZ 19, zln 19, .inl (fun _ => 0))) f_q).up (e := .inr (3, msF 20 (zui ad 19 q))) ((z_ne (z_nf hM.1 f_q)).trans hM.1) rfl
  have hM := hM.next f_q
  obtain ⟨Xc19, hXn⟩ : ∃ Xn, Xn = z_up (z_up Xc18 q (.inl (zac cI cZ 19, zln 19, .inl (fun _ => 0)))) mo (.inr (3, msF 20 (zui ad 19 q))) := ⟨_, rfl⟩
  have hS : z_S D cls4 lo X s.heap Xc19 H locs := by rw [hXn]; exact hS
  rw [← hXn] at hF hM
  clear hXn
  generalize zui ad 19 q = ad at hM
  refine lv_aload_n hx hb d_MO_init_132 rfl (lv_at hl 0 rfl) ?_
  refine lv_bipush (v := 21) hx hb d_MO_init_133 (by decide) ?_
  refine z_newa (atype := .int) (ty := .int) (N' := 21) (a0 := (21, .inl (fun _ => 0))) hx hb (hk k_574 rfl) rfl (hK.2 3 _ rfl).2 hS (fun _ => rfl) (by decide) (by decide) (by decide) (by decide) (by decide) d_MO_init_135 (fun q H f_q hS => ?_)
  refine z_putF (ci := 3) (C := R_MO) (T := F_MO) (N := 23) (ty := .array (.int)) (fs' := msF 21 (zui ad 20 q)) hx hb hts j_MO t_MO t_MO_ok n_MO hown hK hS ((z_ne (z_nf hM.1 f_q)).trans hM.1) rfl 20 (by decide) (hk k_524 rfl) (fun _ h9 => h9) rfl hin rfl (by decide +kernel) rfl rfl (Nat.le_of_ble_eq_true rfl) d_MO_init_137 rfl (fun H locs hS => ?_)
  have hF := (hF.nw (e := .inl (zac cI cZ 20, zln 20, .inl (fun _ => 0))) f_q).up (e := .inr (3, msF 21 (zui ad 20 q))) ((z_ne (z_nf hM.1 f_q)).trans hM.1) rfl
  have hM := hM.next f_q
  obtain ⟨Xc20, hXn⟩ : ∃ Xn, Xn = z_up (z_up Xc19 q (.inl (zac cI cZ 20, zln 20, .inl (fun _ => 0)))) mo (.inr (3, msF 21 (zui ad 20 q))) := ⟨_, rfl⟩
  have hS : z_S D cls4 lo X s.heap Xc20 H locs := by rw [hXn]; exact hS
  rw [← hXn] at hF hM
  clear hXn
  generalize zui ad 20 q = ad at hM
  refine lv_aload_n hx hb d_MO_init_140 rfl (lv_at hl 0 rfl) ?_
  refine lv_bipush (v := 21) hx hb d_MO_init_141 (by decide) ?_
  refine z_newa (atype := .int) (ty := .int) (N' := 21) (a0 := (21, .inl (fun _ => 0))) hx hb (hk k_574 rfl) rfl (hK.2 3 _ rfl).2 hS (fun _ => rfl) (by decide) (by decide) (by decide) (by decide) (by decide) d_MO_init_143 (fun q H f_q hS => ?_)
  refine z_putF (ci := 3) (C := R_MO) (T := F_MO) (N := 23) (ty := .array (.int)) (fs' := msF 22 (zui ad 21 q)) hx hb hts j_MO t_MO t_MO_ok n_MO hown hK hS ((z_ne (z_nf hM.1 f_q)).trans hM.1) rfl 21 (by decide) (hk k_525 rfl) (fun _ h9 => h9) rfl hin rfl (by decide +kernel) rfl rfl (Nat.le_of_ble_eq_true rfl) d_MO_init_145 rfl (fun H locs hS => ?_)
  have hF := (hF.nw (e := .inl (zac cI cZ 21, zln 21, .inl (fun _ => 0))) f_q).up (e := .inr (3, msF 22 (zui ad 21 q))) ((z_ne (z_nf hM.1 f_q)).trans hM.1) rfl
  have hM := hM.next f_q
  obtain ⟨Xc21, hXn⟩ : ∃ Xn, Xn = z_up (z_up Xc20 q (.inl (zac cI cZ 21, zln 21, .inl (fun _ => 0)))) mo (.inr (3, msF 22 (zui ad 21 q))) := ⟨_, rfl⟩
  have hS : z_S D cls4 lo X s.heap Xc21 H locs := by rw [hXn]; exact hS
  rw [← hXn] at hF hM
  clear hXn
  generalize zui ad 21 q = ad at hM
  refine lv_aload_n hx hb d_MO_init_148 rfl (lv_at hl 0 rfl) ?_
  refine lv_sipush (v := 1001) hx hb d_MO_init_149 (by decide) ?_
  refine z_newa (atype := .int) (ty := .int) (N' := 1001) (a0 := (1001, .inl (fun _ => 0))) hx hb (hk k_574 rfl) rfl (hK.2 3 _ rfl).2 hS (fun _ => rfl) (by decide) (by decide) (by decide) (by decide) (by decide) d_MO_init_152 (fun q H f_q hS => ?_)
  refine z_putF (ci := 3) (C := R_MO) (T := F_MO) (N := 23) (ty := .array (.int)) (fs' := msF 23 (zui ad 22 q)) hx hb hts j_MO t_MO t_MO_ok n_MO hown hK hS ((z_ne (z_nf hM.1 f_q)).trans hM.1) rfl 22 (by decide) (hk k_526 rfl) (fun _ h9 => h9) rfl hin rfl (by decide +kernel) rfl rfl (Nat.le_of_ble_eq_true rfl) d_MO_init_154 rfl (fun H locs hS => ?_)
  have hF := (hF.nw (e := .inl (zac cI cZ 22, zln 22, .inl (fun _ => 0))) f_q).up (e := .inr (3, msF 23 (zui ad 22 q))) ((z_ne (z_nf hM.1 f_q)).trans hM.1) rfl
  have hM := hM.next f_q
  obtain ⟨Xc22, hXn⟩ : ∃ Xn, Xn = z_up (z_up Xc21 q (.inl (zac cI cZ 22, zln 22, .inl (fun _ => 0)))) mo (.inr (3, msF 23 (zui ad 22 q))) := ⟨_, rfl⟩
  have hS : z_S D cls4 lo X s.heap Xc22 H locs := by rw [hXn]; exact hS
  rw [← hXn] at hF hM
  clear hXn
  generalize zui ad 22 q = ad at hM
  exact z_Cvret hx hb hr hlk hS (⟨rfl, ⟨ad, hM.done⟩, hF⟩) (by decide) (by decide) d_MO_init_157
