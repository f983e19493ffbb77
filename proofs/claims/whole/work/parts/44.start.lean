set_option maxRecDepth 100000 in
theorem z_f_str : ∀ q ∈ z_strs, Cond.stringRef R_RR q.1 q.2 ∈ lw_tbl := by decide +kernel
set_option maxRecDepth 100000 in
theorem z_f_exa : ∀ q ∈ z_strs, Cond.exactly (.string R_RR q.1) "java/lang/String" ∈ flatC (Jvm.Cond.and given_1 narrow_1) := by decide +kernel
set_option maxRecDepth 100000 in
theorem z_f_nc : ∀ q ∈ z_nc, Cond.not (.castable q.1 q.2) ∈ flatC (Jvm.Cond.and given_1 narrow_1) := by decide +kernel
set_option maxRecDepth 100000 in
theorem z_f_pc : ∀ q ∈ ([Cond.isRef (.static Bundle.tN "UNASSIGNED_STACK" Bundle.steD), Cond.isRef (.static Bundle.tN "SUPPRESSED_SENTINEL" Bundle.listD), Cond.arrayOf (.static R_RR "PERCENTS" "[I") .int, Cond.eq (.length (.static R_RR "PERCENTS" "[I")) (.int 5), Cond.eq (.elem (.static R_RR "PERCENTS" "[I") (.int 0)) (.int 100), Cond.eq (.elem (.static R_RR "PERCENTS" "[I") (.int 1)) (.int 90), Cond.eq (.elem (.static R_RR "PERCENTS" "[I") (.int 2)) (.int 70), Cond.eq (.elem (.static R_RR "PERCENTS" "[I") (.int 3)) (.int 40), Cond.eq (.elem (.static R_RR "PERCENTS" "[I") (.int 4)) (.int 0)] : List Cond), q ∈ flatC (Jvm.Cond.and given_1 narrow_1) := by decide +kernel
theorem z_Gstart {s : State} {b : Nat} (hts : ∀ w ∈ lw_tbl, w.before #[Value.ref b] s = true) (hgv : (Jvm.Cond.and given_1 narrow_1).before #[Value.ref b] s = true) : ∃ tP, zG2 s.heap.size tP s := by
  have hfl := flat_of_before _ hgv
  have hA : ∀ a : Nat, a < s.heap.size → ¬ (fun q => s.heap.size ≤ q) a := fun a h => Nat.not_le.mpr h
  have hp : ∀ (i : Nat) (q : Cond), ([Cond.isRef (.static Bundle.tN "UNASSIGNED_STACK" Bundle.steD), Cond.isRef (.static Bundle.tN "SUPPRESSED_SENTINEL" Bundle.listD), Cond.arrayOf (.static R_RR "PERCENTS" "[I") .int, Cond.eq (.length (.static R_RR "PERCENTS" "[I")) (.int 5), Cond.eq (.elem (.static R_RR "PERCENTS" "[I") (.int 0)) (.int 100), Cond.eq (.elem (.static R_RR "PERCENTS" "[I") (.int 1)) (.int 90), Cond.eq (.elem (.static R_RR "PERCENTS" "[I") (.int 2)) (.int 70), Cond.eq (.elem (.static R_RR "PERCENTS" "[I") (.int 3)) (.int 40), Cond.eq (.elem (.static R_RR "PERCENTS" "[I") (.int 4)) (.int 0)] : List Cond)[i]? = some q → q.before #[Value.ref b] s = true := fun i q h => hfl _ (z_f_pc q (List.mem_of_getElem? h))
  obtain ⟨tP, htP, hT⟩ := va_Tof (tm := .static R_RR "PERCENTS" "[I") (ty := .int) (N := 5) (f := fun j => .int (z_pc j)) (by decide) (hp 2 _ rfl) (va_eqt (hp 3 _ rfl)) (fun j hj => by
    have h5 : j = 0 ∨ j = 1 ∨ j = 2 ∨ j = 3 ∨ j = 4 := by omega
    rcases h5 with rfl | rfl | rfl | rfl | rfl
    · exact va_eqt (hp 4 _ rfl)
    · exact va_eqt (hp 5 _ rfl)
    · exact va_eqt (hp 6 _ rfl)
    · exact va_eqt (hp 7 _ rfl)
    · exact va_eqt (hp 8 _ rfl)) hA
  refine ⟨tP, ⟨fun w hw => z_ok_at (State.WarmedH.refl s) (List.mem_filter.mp hw).2 (hts w (List.mem_filter.mp hw).1), va_AO.of (hts _ k_40), va_AO.of (hts _ k_42), va_Nw.of rfl (hts _ k_449), fun q hq => ?_, ⟨va_Zqof (hts _ k_117) (hts _ k_20) (hp 0 _ rfl) hA, z_L.of (hts _ k_117) hA⟩, ⟨va_Zqof (hts _ k_119) (hts _ k_20) (hp 1 _ rfl) hA, z_L.of (hts _ k_119) hA⟩, va_Zref (hts _ k_450) (hts _ k_18) htP hA, hT⟩, fun q hq => va_Nc.of (hfl _ (z_f_nc q hq))⟩
  obtain ⟨a, c, cA, kA, q1, -⟩ := Cond.exactly_spec (hfl _ (z_f_exa q hq))
  exact ⟨a, vk_R.of (hts _ (z_f_str q hq)) q1⟩
theorem z_Kprim {s : State} {a : Array Value} {ty : FieldType} (h : (Cond.arrayClass ty).before a s = true) (hp : ∀ C, ty ≠ .object C) : ∃ cA, ArrOfT s cA ty ∧ va_RA s cA ty := by
  obtain ⟨cA, kA, comp, h1, h2, h3⟩ := Cond.arrayClass_spec h
  refine ⟨cA, fun n z => ⟨fun k h => (by cases h), kA, h2, comp, h3⟩, ?_⟩
  cases ty <;> first | exact h1 | exact absurd rfl (hp _)
theorem z_Kobj {s : State} {a : Array Value} {C : String} (h : (Cond.arrayOver (.object C)).before a s = true) : ∃ cA, ArrOfT s cA (.object C) ∧ va_RA s cA (.object C) := by
  obtain ⟨comp, c, k, h1, h2, h3, h4, h5⟩ := Cond.arrayOver_spec h
  exact ⟨c, fun n z => ⟨fun k h => (by cases h), k, h3, comp, h4⟩, k, comp, h3, h4, h1, h5⟩
theorem z_Kstart {s : State} {b : Nat} (hts : ∀ w ∈ lw_tbl, w.before #[Value.ref b] s = true) : ∃ (D : va_G) (cS cR cJ cI cZ : ClassId), va_K D cls4 (zty cS cR cJ cI cZ) s := by
  obtain ⟨c0, i0, h0⟩ := u_known (C := R_RR) (T := F_RR) (N := 5) (n := 5) hts i_RR (hts _ k_32)
  obtain ⟨c1, i1, h1⟩ := u_known (C := R_SA) (T := F_SA) (N := 6) (n := 6) hts i_SA (hts _ k_184)
  obtain ⟨c2, i2, h2⟩ := u_known (C := R_RE) (T := F_RE) (N := 15) (n := 15) hts i_RE (hts _ k_260)
  obtain ⟨c3, i3, h3⟩ := u_known (C := R_MO) (T := F_MO) (N := 23) (n := 23) hts i_MO (hts _ k_499)
  obtain ⟨cS, hS⟩ := z_Kobj (hts _ k_40)
  obtain ⟨cR, hR⟩ := z_Kobj (hts _ k_42)
  obtain ⟨cJ, hJ⟩ := z_Kprim (hts _ k_695) (fun C h => by cases h)
  obtain ⟨cI, hI⟩ := z_Kprim (hts _ k_574) (fun C h => by cases h)
  obtain ⟨cZ, hZ⟩ := z_Kprim (hts _ k_575) (fun C h => by cases h)
  refine ⟨(fun k => if k = 0 then c0 else if k = 1 then c1 else if k = 2 then c2 else c3, fun k => if k = 0 then i0 else if k = 1 then i1 else if k = 2 then i2 else i3), cS, cR, cJ, cI, cZ, fun k q hq => ?_, fun k q hq => ?_⟩
  · match k, hq with
    | 0, hq => cases hq; exact h0
    | 1, hq => cases hq; exact h1
    | 2, hq => cases hq; exact h2
    | 3, hq => cases hq; exact h3
    | k + 4, hq => simp at hq
  · match k, hq with
    | 0, hq => cases hq; exact hS
    | 1, hq => cases hq; exact hR
    | 2, hq => cases hq; exact hJ
    | 3, hq => cases hq; exact hI
    | 4, hq => cases hq; exact hZ
    | k + 5, hq => simp at hq
set_option maxHeartbeats 4000000 in
set_option maxRecDepth 100000 in
theorem whole_start {p : Program} {e : Env} {s : State} {m : MethodId} {below : List Frame} {meth : Method} {c : Code} (l : Launch) (hl9 : l.stackTraces = false) {b L : Nat} {xs : Nat → Int32} (hL : L ≤ 2048) (C0 : lw_At p s m meth c b L xs) : W p l e room_1 s m #[Value.ref b] below meth c s.heap [] 0 0 (lw_Z below #[Value.ref b] s) (entryFrame m ([Value.ref b] : List Value).toArray 7) := by
  obtain ⟨hx, hb, hr, hml, hown, hts0, hX, hbl, hlocks, hgv⟩ := id C0
  obtain ⟨tP, hG2⟩ := z_Gstart hts0 hgv
  obtain ⟨D, cS, cR, cJ, cI, cZ, hK⟩ := z_Kstart hts0
  have hG := hG2.1
  have hown : s.vm.findClass R_LA = some m.cls := hown
  have hts : ∀ w9 ∈ z_tb, w9.before ([Value.ref b] : List Value).toArray s = true := hG.ts _
  have hk : ∀ {w9 : Cond}, w9 ∈ lw_tbl → z_ok w9 = true → w9.before ([Value.ref b] : List Value).toArray s = true := fun h1 h2 => hG.w h1 h2 _
  have hS : z_S D cls4 s.heap.size (fun _ => none) s.heap (fun _ => none) s.heap [] := z_S.start (fun a e h => by cases h) (fun q h => absurd rfl h) (Nat.le_refl _)
  have hl := lv_entry ([Value.ref b]) (n := 7) (Nat.le_of_ble_eq_true rfl)
  rw [lg_entry_eq]
  generalize (lg_sl ([Value.ref b]) ++ List.replicate (7 - (lg_sl ([Value.ref b])).length) Slot.unset).toArray = ls at hl ⊢
  have hl : lv_has ls 7 [(0, .ref b)] := hl
  refine z_new (ci := 0) (fs := [.null, .null, .int 0, .int 0, .int 0]) (C := R_RR) (T := F_RR) (N := 5) hx hb hts j_RR t_RR t_RR_ok hown (hk k_31 rfl) (hk k_32 rfl) (hk k_18 rfl) hK hS rfl (by decide) (by decide) (by decide) d_LA_law_0 (fun x H f_x hS => ?_)
  refine lv_dup hx hb d_LA_law_3 rfl ?_
  refine z_wg (P9 := fun X9 => YI x cS cR ⟨0, 0, 0, fun _ _ => 0, fun _ => 0, fun _ _ => 0⟩ X9) (n_LA_RR_init hx hown hG (by rw [hb]; exact d_LA_law_4)) hb (hl.1.trans hml.symm) (c_RR_init l hl9 (cS := cS) (cR := cR) (cJ := cJ) (cI := cI) (cZ := cZ) x (z_eq _ _ _)) (fun r X9 h => ⟨h.1, h.2.1⟩) (z_Gkeeps _ _) hG hK hS (cw_RR_init hG (by decide) (by decide)) d_LA_law_4 (Nat.le_of_ble_eq_true rfl) (by decide) (by decide) (fun H locs X1 hS hY => ?_)
  refine lv_astore_n (lv' := [(1, .ref x), (0, .ref b)]) hx hb d_LA_law_7 rfl hl (by decide) rfl (fun ls hl => ?_)
  refine z_new (ci := 3) (fs := msF 4 (fun _ => 0)) (C := R_MO) (T := F_MO) (N := 23) hx hb hts j_MO t_MO t_MO_ok hown (hk k_498 rfl) (hk k_499 rfl) (hk k_19 rfl) hK hS rfl (by decide) (by decide) (by decide) d_LA_law_8 (fun mo H f_mo hS => ?_)
  have hY := hY.fr (i := 1) (by decide) ((zFr.rf).nw (e := .inr (3, msF 4 (fun _ => 0))) f_mo)
  refine lv_dup hx hb d_LA_law_11 rfl ?_
  refine z_wg (P9 := fun X9 => (∃ ad, MI mo ad cI cZ 0 0 0 0 (fun _ _ => 0) (fun _ => 0) (fun _ _ => 0) X9) ∧ zFr 1 (z_up X1 mo (.inr (3, msF 4 (fun _ => 0)))) X9) (n_LA_MO_init hx hown hG (by rw [hb]; exact d_LA_law_12)) hb (hl.1.trans hml.symm) (c_MO_init l hl9 (cS := cS) (cR := cR) (cJ := cJ) (cI := cI) (cZ := cZ) mo (z_eq _ _ _)) (fun r X9 h => h) (z_Gkeeps _ _) hG hK hS (cw_MO_init hG (by decide) (by decide)) d_LA_law_12 (Nat.le_of_ble_eq_true rfl) (by decide) (by decide) (fun H locs X2 hS hM => ?_)
  obtain ⟨⟨ad, hM⟩, hF2⟩ := hM
  have hY := hY.fr (i := 1) (by decide) hF2
  refine lv_astore_n (lv' := [(2, .ref mo), (1, .ref x), (0, .ref b)]) hx hb d_LA_law_15 rfl hl (by decide) rfl (fun ls hl => ?_)
  refine lv_iconst (v := 1) hx hb d_LA_law_16 (by decide) ?_
  refine z_newa (atype := .long) (ty := .long) (N' := 1) (a0 := (1, .inr (.inl (fun _ => 0)))) hx hb (hk k_695 rfl) rfl (hK.2 2 _ rfl).2 hS (fun _ => rfl) (by decide) (by decide) (by decide) (by decide) (by decide) d_LA_law_17 (fun ou H f_ou hS => ?_)
  have hF3 : zFr 2 X2 (z_up X2 ou (.inl (cJ, 1, .inr (.inl (fun _ => 0))))) := zFr.rf.nw f_ou
  refine lv_astore_n (lv' := [(3, .ref ou), (2, .ref mo), (1, .ref x), (0, .ref b)]) hx hb d_LA_law_19 rfl hl (by decide) rfl (fun ls hl => ?_)
  refine lv_iconst (v := 0) hx hb d_LA_law_20 (by decide) ?_
  refine lv_istore (lv' := [(4, .int 0), (3, .ref ou), (2, .ref mo), (1, .ref x), (0, .ref b)]) hx hb d_LA_law_21 hl (by decide) rfl (fun ls hl => ?_)
  refine W.widen (k := 100 + 60 * 0) (n := 2000 + 500 * 0) (by decide) (by decide) ?_
  have hM' : MJ mo ad cI cZ ⟨0, 0, 0, fun _ _ => 0, fun _ => 0, fun _ _ => 0⟩ 0 X2 := hM
  exact law_loop l hl9 ⟨hx, hb, hml, hown, hG2, hK, hX, hbl, hL⟩ hr hlocks 512 0 _ _ H locs ls (by omega) (by decide) ⟨hY.fr (by decide) hF3, ⟨ad, 0, hM'.fr (by decide) hF3⟩, ⟨_, z_eq _ _ _⟩, ⟨fun j h => absurd h (Nat.not_lt_zero j), fun i h => absurd h (Nat.not_lt_zero i), fun j h => absurd h (Nat.not_lt_zero j)⟩⟩ hS (lv_sub hl [4, 3, 2, 1, 0] rfl)
