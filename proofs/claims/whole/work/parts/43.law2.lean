/-! THE CLAIM OUT OF ONE WALK OF THE LAW'S BODY. Your part is whole_start (and what it stands on); all else here is the same for every law, but numbers. -/
def R_law : String := "ReturnRowsLaw"
def lw_P (b : Addr) (xs : List Int32) (args : Array Value) (s : State) : Prop := args = #[.ref b] ∧ s.IntsAt b xs ∧ xs.length ≤ 2048 ∧ (Jvm.Cond.and given_1 narrow_1).before args s = true
def lw_Q (_ : Array Value) (s : State) (o : Outcome) (t : State) : Prop := o = .returned (some (.int 1)) ∧ Framed s o t [] 601024 7293034
def lw_Z (below : List Frame) (a : Array Value) (s : State) : State → Prop := fun t => ∃ o, t.status = .running ∧ Ended t below o ∧ lw_Q a s o t
/-- the law's own end, with 1 on the stack, nothing written that was there before, its room as the claim has it -/
theorem lw_ret {p : Program} {l : Launch} {e : Env} {s : State} {m : MethodId} {below : List Frame} {meth : Method} {c : Code} {b : Nat} (hx : p.tables.exec = Jvm.exec) (hb : c.code = code) (hr : meth.sig.returnType = ret) (hlocks : meth.locks = false) {pc : Nat} {H : Heap} {ls : Array Slot} (hdg : decode code pc = .ok (.ireturn, 1)) : W p l e room_1 s m #[Value.ref b] below meth c H [] 601024 7293034 (lw_Z below #[Value.ref b] s) (F0 m pc ls [.int 1]) := by
  intro T hT X
  obtain ⟨fs, hret, hrun, hended, hW, hframe⟩ := X.leave (v := some (.int 1)) (hlocks := hlocks) (fun h => by rw [hr] at h; cases h)
  have hmeth' : T.vm.method? m = some meth := X.method'
  refine ⟨T.setFrames fs, ?_, .returned (some (.int 1)), hrun, hended, rfl, ⟨_, rfl⟩, hW, hframe⟩
  jvm_step X.here [X.here.top, hx, hb, hdg, hmeth', hr, ret, narrow_b1]
  (try refine ⟨rfl, ?_⟩); (try refine ⟨rfl, ?_⟩)
  first | (intro acts; rw [hret _ acts rfl rfl rfl]) | rw [hret _ _ rfl rfl rfl]
  exact Steps.refl _
/-- what holds at the law's entry: the machine, the code, the tables' words (any of lw_tbl by 'hts w (by decide +kernel)'), the script of L ints xs at the cell b, what the Statement gives of the start (any of its parts by flat_of_before) -/
def lw_At (p : Program) (s : State) (m : MethodId) (meth : Method) (c : Code) (b L : Nat) (xs : Nat → Int32) : Prop :=
  p.tables.exec = Jvm.exec ∧ c.code = code ∧ meth.sig.returnType = ret ∧ c.maxLocals = 7 ∧ s.vm.findClass R_law = some m.cls ∧ (∀ w ∈ lw_tbl, w.before #[Value.ref b] s = true) ∧ va_X b L xs s s.heap ∧ b < s.heap.size ∧ meth.locks = false ∧ (Jvm.Cond.and given_1 narrow_1).before #[Value.ref b] s = true
section L5
variable {p : Program} {l : Launch} {e : Env} {R : Room} {s : State} {m : MethodId} {args : Array Value} {below : List Frame} {meth : Method} {c : Code} {H : Heap} {locs : List Loc} {cells slots : Nat} {Q : State → Prop}
variable {cc : ByteArray} {pc : Nat} {ls : Array Slot} {rest st0 : List Value} {D : va_G} {cl : List vw_C} {lo a : Nat} {tys : List (ClassId × FieldType)} {X0 X : zM} {G : State → Prop}
variable {y : MethodName} {w : Cond} {rm : Room} {maxL : Nat} {av : List Value} {ig : Instr}
theorem z_wg {Po : zR → zM → Prop} {P9 : zM → Prop} (hI : z_In p l e R s m args below meth c H (F0 m pc ls st0) rest y av.toArray) (hb : c.code = cc) (hsize : ls.size = c.maxLocals) (hM : z_C G D cl tys lo l y w rm av X Po) (hPo : ∀ r X9, Po r X9 → r = .inl none ∧ P9 X9) (hGk : z_Gk G lo) (hG : G s) (hK : va_K D cl tys s) (hS : z_S D cl lo X0 s.heap X H locs) (cw : z_Cw R s args y w rm maxL)
    (hdg : decode cc pc = .ok (ig, 3)) (hW : (rest.map fun v => v.category).sum ≤ 8) (hc1 : cells + rm.cells ≤ R.cells) (hs1 : slots + rm.slots ≤ R.slots)
    (k1 : ∀ (H1 : Heap) (locs1 : List Loc) (X1 : zM), z_S D cl lo X0 s.heap X1 H1 locs1 → P9 X1 → W p l e R s m args below meth c H1 locs1 (cells + rm.cells) (slots + rm.slots) Q (F0 m (pc + 3) ls rest)) :
    W p l e R s m args below meth c H locs cells slots Q (F0 m pc ls st0) := by
  refine z_w hI hb hsize hM hGk hG hK hS cw hdg hW hc1 hs1 (fun v' X' H1 locs1 hP _ hS1 _ _ => ?_) (fun E x X' H1 locs1 hP _ hS1 _ _ hT => ?_)
  · obtain ⟨e1, e2⟩ := hPo _ _ hP
    cases e1
    exact k1 H1 locs1 X' hS1 e2
  · obtain ⟨e1, -⟩ := hPo _ _ hP
    cases e1
end L5
theorem z_lgt {L t : Nat} (hL : L ≤ 2048) (ht : t ≤ 512) : nI L - 4 < nI (4 * t) ↔ L < 4 * t + 4 := by
  by_cases h4 : L < 4
  · constructor
    · intro _; omega
    · intro _
      have h0 : nI L - 4 < 0 := by
        have h5 : L = 0 ∨ L = 1 ∨ L = 2 ∨ L = 3 := by omega
        rcases h5 with rfl | rfl | rfl | rfl <;> decide
      exact Int32.lt_of_lt_of_le h0 (nI_pos' (by omega))
  · obtain ⟨q, rfl⟩ : ∃ q, L = q + 4 := ⟨L - 4, by omega⟩
    have e : nI (q + 4) - 4 = nI q := by
      rw [← nI_add q 4]
      exact Int32.add_sub_cancel _ _
    rw [e, nI_ltI (by omega) (by omega)]
    omega
theorem z_cs18 {v : Int32} (h : z_rg v 0 18) : v = 0 ∨ v = 1 ∨ v = 2 ∨ v = 3 ∨ v = 4 ∨ v = 5 ∨ v = 6 ∨ v = 7 ∨ v = 8 ∨ v = 9 ∨ v = 10 ∨ v = 11 ∨ v = 12 ∨ v = 13 ∨ v = 14 ∨ v = 15 ∨ v = 16 ∨ v = 17 ∨ v = 18 := by
  obtain ⟨j, hj, rfl⟩ := nI_of2 (M := 18) (n := 18) (by decide) h.1 h.2
  have hj2 : j = 0 ∨ j = 1 ∨ j = 2 ∨ j = 3 ∨ j = 4 ∨ j = 5 ∨ j = 6 ∨ j = 7 ∨ j = 8 ∨ j = 9 ∨ j = 10 ∨ j = 11 ∨ j = 12 ∨ j = 13 ∨ j = 14 ∨ j = 15 ∨ j = 16 ∨ j = 17 ∨ j = 18 := by omega
  rcases hj2 with rfl | rfl | rfl | rfl | rfl | rfl | rfl | rfl | rfl | rfl | rfl | rfl | rfl | rfl | rfl | rfl | rfl | rfl | rfl
  · exact Or.inl rfl
  · exact Or.inr (Or.inl rfl)
  · exact Or.inr (Or.inr (Or.inl rfl))
  · exact Or.inr (Or.inr (Or.inr (Or.inl rfl)))
  · exact Or.inr (Or.inr (Or.inr (Or.inr (Or.inl rfl))))
  · exact Or.inr (Or.inr (Or.inr (Or.inr (Or.inr (Or.inl rfl)))))
  · exact Or.inr (Or.inr (Or.inr (Or.inr (Or.inr (Or.inr (Or.inl rfl))))))
  · exact Or.inr (Or.inr (Or.inr (Or.inr (Or.inr (Or.inr (Or.inr (Or.inl rfl)))))))
  · exact Or.inr (Or.inr (Or.inr (Or.inr (Or.inr (Or.inr (Or.inr (Or.inr (Or.inl rfl))))))))
  · exact Or.inr (Or.inr (Or.inr (Or.inr (Or.inr (Or.inr (Or.inr (Or.inr (Or.inr (Or.inl rfl)))))))))
  · exact Or.inr (Or.inr (Or.inr (Or.inr (Or.inr (Or.inr (Or.inr (Or.inr (Or.inr (Or.inr (Or.inl rfl))))))))))
  · exact Or.inr (Or.inr (Or.inr (Or.inr (Or.inr (Or.inr (Or.inr (Or.inr (Or.inr (Or.inr (Or.inr (Or.inl rfl)))))))))))
  · exact Or.inr (Or.inr (Or.inr (Or.inr (Or.inr (Or.inr (Or.inr (Or.inr (Or.inr (Or.inr (Or.inr (Or.inr (Or.inl rfl))))))))))))
  · exact Or.inr (Or.inr (Or.inr (Or.inr (Or.inr (Or.inr (Or.inr (Or.inr (Or.inr (Or.inr (Or.inr (Or.inr (Or.inr (Or.inl rfl)))))))))))))
  · exact Or.inr (Or.inr (Or.inr (Or.inr (Or.inr (Or.inr (Or.inr (Or.inr (Or.inr (Or.inr (Or.inr (Or.inr (Or.inr (Or.inr (Or.inl rfl))))))))))))))
  · exact Or.inr (Or.inr (Or.inr (Or.inr (Or.inr (Or.inr (Or.inr (Or.inr (Or.inr (Or.inr (Or.inr (Or.inr (Or.inr (Or.inr (Or.inr (Or.inl rfl)))))))))))))))
  · exact Or.inr (Or.inr (Or.inr (Or.inr (Or.inr (Or.inr (Or.inr (Or.inr (Or.inr (Or.inr (Or.inr (Or.inr (Or.inr (Or.inr (Or.inr (Or.inr (Or.inl rfl))))))))))))))))
  · exact Or.inr (Or.inr (Or.inr (Or.inr (Or.inr (Or.inr (Or.inr (Or.inr (Or.inr (Or.inr (Or.inr (Or.inr (Or.inr (Or.inr (Or.inr (Or.inr (Or.inr (Or.inl rfl)))))))))))))))))
  · exact Or.inr (Or.inr (Or.inr (Or.inr (Or.inr (Or.inr (Or.inr (Or.inr (Or.inr (Or.inr (Or.inr (Or.inr (Or.inr (Or.inr (Or.inr (Or.inr (Or.inr (Or.inr (rfl))))))))))))))))))
set_option maxHeartbeats 4000000 in
set_option maxRecDepth 100000 in
theorem law_loop {p : Program} {e : Env} {s : State} {m : MethodId} {below : List Frame} {meth : Method} {c : Code} {b L : Nat} {xs : Nat → Int32} {D : va_G} {cS cR cJ cI cZ : ClassId} {tP : Nat} (l : Launch) (hl9 : l.stackTraces = false) {x mo ou : Nat} (hC0 : LX p s m c b L xs D cS cR cJ cI cZ tP) (hr : meth.sig.returnType = ret) (hlocks : meth.locks = false) :
    ∀ (d t : Nat) (A : zA) (X : zM) (H : Heap) (locs : List Loc) (ls : Array Slot), L < 4 * t + 4 * d + 4 → t ≤ 512 → z_LS x mo ou cS cR cJ cI cZ A X → z_S D cls4 s.heap.size (fun _ => none) s.heap X H locs → lv_has ls 7 [(0, .ref b), (1, .ref x), (2, .ref mo), (3, .ref ou), (4, .int (nI (4 * t)))] → W p l e room_1 s m #[Value.ref b] below meth c H locs (100 + 60 * t) (2000 + 500 * t) (lw_Z below #[Value.ref b] s) (F0 m 23 ls []) := by
  obtain ⟨hx, hb, hml, hown, hG2, hK, hXs, hbl, hL⟩ := id hC0
  intro d
  induction d with
  | zero =>
    intro t A X H locs ls hd ht hLS hS hl
    refine lv_iload hx hb d_LA_law_23 (lv_at hl 4 rfl) ?_
    refine lv_aload_n hx hb d_LA_law_25 rfl (lv_at hl 0 rfl) ?_
    refine va_slen hx hb hXs hbl (Nat.not_le.mpr hbl) hS.va d_LA_law_26 ?_
    refine lv_iconst (v := 4) hx hb d_LA_law_27 (by decide) ?_
    refine lv_isub hx hb d_LA_law_28 ?_
    refine lv_icmp_gt (tgt := 1354) hx hb d_LA_law_29 (by decide) (fun c9 => ?_) (fun c9 => absurd ((z_lgt hL ht).mpr (by omega)) c9)
    refine lv_iconst (v := 1) hx hb d_LA_law_1354 (by decide) ?_
    refine va_forget (fun q hq => hS.2.2.2.1 q hq) ?_
    refine W.widen (k := 601024) (n := 7293034) (by omega) (by omega) ?_
    exact lw_ret hx hb hr hlocks d_LA_law_1355
  | succ d ih =>
    intro t A X H locs ls hd ht hLS hS hl
    refine lv_iload hx hb d_LA_law_23 (lv_at hl 4 rfl) ?_
    refine lv_aload_n hx hb d_LA_law_25 rfl (lv_at hl 0 rfl) ?_
    refine va_slen hx hb hXs hbl (Nat.not_le.mpr hbl) hS.va d_LA_law_26 ?_
    refine lv_iconst (v := 4) hx hb d_LA_law_27 (by decide) ?_
    refine lv_isub hx hb d_LA_law_28 ?_
    refine lv_icmp_gt (tgt := 1354) hx hb d_LA_law_29 (by decide) (fun c9 => ?_) (fun c9 => ?_)
    · refine lv_iconst (v := 1) hx hb d_LA_law_1354 (by decide) ?_
      refine va_forget (fun q hq => hS.2.2.2.1 q hq) ?_
      refine W.widen (k := 601024) (n := 7293034) (by omega) (by omega) ?_
      exact lw_ret hx hb hr hlocks d_LA_law_1355
    · have hi4 : 4 * t + 4 ≤ L := Nat.not_lt.mp (fun q => c9 ((z_lgt hL ht).mpr q))
      have hnext : ∀ (A9 : zA) (X9 : zM) (H9 : Heap) (locs9 : List Loc) (ls9 : Array Slot), z_LS x mo ou cS cR cJ cI cZ A9 X9 → z_S D cls4 s.heap.size (fun _ => none) s.heap X9 H9 locs9 → lv_has ls9 7 [(0, .ref b), (1, .ref x), (2, .ref mo), (3, .ref ou), (4, .int (nI (4 * t)))] → W p l e room_1 s m #[Value.ref b] below meth c H9 locs9 (100 + 60 * t + 60) (2000 + 500 * t + 500) (lw_Z below #[Value.ref b] s) (F0 m 1348 ls9 []) := by
        intro A9 X9 H9 locs9 ls9 hLS9 hS9 hl9
        refine lv_iinc (v := nI (4 * t) + 4) (lv' := [(4, .int (nI (4 * t) + 4)), (0, .ref b), (1, .ref x), (2, .ref mo), (3, .ref ou)]) hx hb d_LA_law_1348 hl9 (k := 4) rfl rfl (by decide) rfl (fun ls8 hl8 => ?_)
        refine lv_goto (tgt := 23) hx hb d_LA_law_1351 (by decide) ?_
        refine W.widen (k := 100 + 60 * (t + 1)) (n := 2000 + 500 * (t + 1)) (by omega) (by omega) ?_
        exact ih (t + 1) A9 X9 H9 locs9 ls8 (by omega) (by omega) hLS9 hS9 (by rw [show nI (4 * t) + 4 = nI (4 * (t + 1)) from nI_add (4 * t) 4] at hl8; exact lv_sub hl8 [1, 2, 3, 4, 0] rfl)
      refine lv_aload_n hx hb d_LA_law_32 rfl (lv_at hl 0 rfl) ?_
      refine lv_iload hx hb d_LA_law_33 (lv_at hl 4 rfl) ?_
      refine z_sld hx hb hXs hbl hL hS rfl (show 4 * t < L by omega) d_LA_law_35 ?_
      refine lv_bipush (v := 31) hx hb d_LA_law_36 (by decide) ?_
      refine lv_iand hx hb d_LA_law_38 ?_
      obtain ⟨v8, hv8⟩ : ∃ v8 : Int32, v8 = xs (4 * t) &&& 31 := ⟨_, rfl⟩
      rw [← hv8]
      clear hv8
      by_cases hw9 : z_rg v8 0 18
      · rcases z_cs18 hw9 with rfl | rfl | rfl | rfl | rfl | rfl | rfl | rfl | rfl | rfl | rfl | rfl | rfl | rfl | rfl | rfl | rfl | rfl | rfl
        · refine lv_tableIn (x := 0) (off := 89) (tgt := 128) hx hb d_LA_law_39 (by decide) (by decide) (by decide) (by decide) ?_
          exact law_day l hl9 hC0 hi4 (by omega) (by omega) hLS hS hl hnext
        · refine lv_tableIn (x := 1) (off := 125) (tgt := 164) hx hb d_LA_law_39 (by decide) (by decide) (by decide) (by decide) ?_
          exact law_sale l hl9 hC0 hi4 (by omega) (by omega) hLS hS hl hnext
        · refine lv_tableIn (x := 2) (off := 205) (tgt := 244) hx hb d_LA_law_39 (by decide) (by decide) (by decide) (by decide) ?_
          exact law_comes l hl9 hC0 hi4 (by omega) (by omega) hLS hS hl hnext
        · refine lv_tableIn (x := 3) (off := 301) (tgt := 340) hx hb d_LA_law_39 (by decide) (by decide) (by decide) (by decide) ?_
          exact law_arrive l hl9 hC0 hi4 (by omega) (by omega) hLS hS hl hnext
        · refine lv_tableIn (x := 4) (off := 349) (tgt := 388) hx hb d_LA_law_39 (by decide) (by decide) (by decide) (by decide) ?_
          exact law_serial l hl9 hC0 hi4 (by omega) (by omega) hLS hS hl hnext
        · refine lv_tableIn (x := 5) (off := 417) (tgt := 456) hx hb d_LA_law_39 (by decide) (by decide) (by decide) (by decide) ?_
          exact law_quarantine l hl9 hC0 hi4 (by omega) (by omega) hLS hS hl hnext
        · refine lv_tableIn (x := 6) (off := 481) (tgt := 520) hx hb d_LA_law_39 (by decide) (by decide) (by decide) (by decide) ?_
          exact law_check l hl9 hC0 hi4 (by omega) (by omega) hLS hS hl hnext
        · refine lv_tableIn (x := 7) (off := 577) (tgt := 616) hx hb d_LA_law_39 (by decide) (by decide) (by decide) (by decide) ?_
          exact law_grade l hl9 hC0 hi4 (by omega) (by omega) hLS hS hl hnext
        · refine lv_tableIn (x := 8) (off := 645) (tgt := 684) hx hb d_LA_law_39 (by decide) (by decide) (by decide) (by decide) ?_
          exact law_repair l hl9 hC0 hi4 (by omega) (by omega) hLS hS hl hnext
        · refine lv_tableIn (x := 9) (off := 693) (tgt := 732) hx hb d_LA_law_39 (by decide) (by decide) (by decide) (by decide) ?_
          exact law_step l hl9 hC0 hi4 (by omega) (by omega) hLS hS hl hnext
        · refine lv_tableIn (x := 10) (off := 777) (tgt := 816) hx hb d_LA_law_39 (by decide) (by decide) (by decide) (by decide) ?_
          exact law_scrap l hl9 hC0 hi4 (by omega) (by omega) hLS hS hl hnext
        · refine lv_tableIn (x := 11) (off := 852) (tgt := 891) hx hb d_LA_law_39 (by decide) (by decide) (by decide) (by decide) ?_
          exact law_back l hl9 hC0 hi4 (by omega) (by omega) hLS hS hl hnext
        · refine lv_tableIn (x := 12) (off := 908) (tgt := 947) hx hb d_LA_law_39 (by decide) (by decide) (by decide) (by decide) ?_
          exact law_missing l hl9 hC0 hi4 (by omega) (by omega) hLS hS hl hnext
        · refine lv_tableIn (x := 13) (off := 956) (tgt := 995) hx hb d_LA_law_39 (by decide) (by decide) (by decide) (by decide) ?_
          exact law_refund l hl9 hC0 hi4 (by omega) (by omega) hLS hS hl hnext
        · refine lv_tableIn (x := 14) (off := 1024) (tgt := 1063) hx hb d_LA_law_39 (by decide) (by decide) (by decide) (by decide) ?_
          exact law_due l hl9 hC0 hi4 (by omega) (by omega) hLS hS hl hnext
        · refine lv_tableIn (x := 15) (off := 1080) (tgt := 1119) hx hb d_LA_law_39 (by decide) (by decide) (by decide) (by decide) ?_
          exact law_reason l hl9 hC0 hi4 (by omega) (by omega) hLS hS hl hnext
        · refine lv_tableIn (x := 16) (off := 1148) (tgt := 1187) hx hb d_LA_law_39 (by decide) (by decide) (by decide) (by decide) ?_
          exact law_customer l hl9 hC0 hi4 (by omega) (by omega) hLS hS hl hnext
        · refine lv_tableIn (x := 17) (off := 1216) (tgt := 1255) hx hb d_LA_law_39 (by decide) (by decide) (by decide) (by decide) ?_
          exact law_told l hl9 hC0 hi4 (by omega) (by omega) hLS hS hl hnext
        · refine lv_tableIn (x := 18) (off := 1284) (tgt := 1323) hx hb d_LA_law_39 (by decide) (by decide) (by decide) (by decide) ?_
          exact law_count l hl9 hC0 hi4 (by omega) (by omega) hLS hS hl hnext
      · refine lv_tableOut (x := v8) (tgt := 1348) hx hb d_LA_law_39 (z_out0 hw9 (by decide)) (by decide) ?_
        refine W.widen (k := 100 + 60 * t + 60) (n := 2000 + 500 * t + 500) (by omega) (by omega) ?_
        exact hnext A X H locs ls hLS hS hl
