/-! ===== the law: its rows ===== -/
section L2
variable {x mo ou : Nat} {ad : Nat → Nat} {cS cR cJ cI cZ : ClassId} {A A9 : zA} {X X1 : zM} {code0 : Int32} {f : Nat → Int64} {cd9 : Nat} {v9 : Int32}
theorem XI.fr {sA rA n k : Nat} {td : Int32} {sd rd : Nat → Nat} {S : Nat → Nat → Int32} {I : Nat → Nat} {F : Nat → Nat → Int32} {i : Nat} (h : XI x sA rA cS cR n k td sd rd S I F X) (hi : ¬ 0 = i) (hF : zFr i X X1) : XI x sA rA cS cR n k td sd rd S I F X1 := by
  obtain ⟨h1, h2, h3, h4, h5, h6⟩ := h
  exact ⟨hF _ _ h1 hi, hF _ _ h2 hi, hF _ _ h3 hi, fun i h => hF _ _ (h4 i h) hi, fun j h => hF _ _ (h5 j h) hi, h6⟩
theorem YI.fr {i : Nat} (h : YI x cS cR A X) (hi : ¬ 0 = i) (hF : zFr i X X1) : YI x cS cR A X1 := by
  obtain ⟨sA, rA, sd, rd, h⟩ := h
  exact ⟨sA, rA, sd, rd, h.fr hi hF⟩
theorem YI.ob (h : YI x cS cR A X) : ∃ fs0, X x = some (.inr (0, fs0)) := by
  obtain ⟨sA, rA, sd, rd, h⟩ := h
  exact ⟨_, h.1⟩
theorem MJ.fr {i : Nat} (h : MJ mo ad cI cZ A code0 X) (hi : ¬ 1 = i) (hF : zFr i X X1) : MJ mo ad cI cZ A code0 X1 := by
  obtain ⟨M, ⟨h1, h2, h3⟩, h4⟩ := h
  exact ⟨M, ⟨hF _ _ h1 hi, fun j a b => hF _ _ (h2 j a b) hi, h3⟩, h4⟩
theorem z_ouF {i : Nat} (hi : ¬ 2 = i) (hF : zFr i X X1) {cJ : ClassId} {n : Nat} {f : Nat → Int64} (hou : X ou = some (.inl (cJ, n, .inr (.inl f)))) : X1 ou = some (.inl (cJ, n, .inr (.inl f))) := hF ou _ hou hi
theorem ls_v (hY : YI x cS cR A X) (hM : MJ mo ad cI cZ A code0 X) (hou : X ou = some (.inl (cJ, 1, .inr (.inl f)))) (h0 : cd9 = 0 → YI x cS cR A9 X1 ∧ zFr 0 X X1) (h1 : ¬ cd9 = 0 → X1 = X) : YI x cS cR (if cd9 = 0 then A9 else A) X1 ∧ MJ mo ad cI cZ A code0 X1 ∧ X1 ou = some (.inl (cJ, 1, .inr (.inl f))) := by
  by_cases h : cd9 = 0
  · obtain ⟨a, b⟩ := h0 h
    rw [if_pos h]
    exact ⟨a, hM.fr (by decide) b, z_ouF (by decide) b hou⟩
  · rw [h1 h, if_neg h]
    exact ⟨hY, hM, hou⟩
theorem ls_o (hY : YI x cS cR A X) (hM : MJ mo ad cI cZ A code0 X) (hou : X ou = some (.inl (cJ, 1, .inr (.inl f)))) (h0 : cd9 = 0 → zHo ou cJ f v9 X (YI x cS cR A9) X1) (h1 : ¬ cd9 = 0 → X1 = X) : YI x cS cR (if cd9 = 0 then A9 else A) X1 ∧ MJ mo ad cI cZ A code0 X1 ∧ ∃ f1, X1 ou = some (.inl (cJ, 1, .inr (.inl f1))) ∧ (cd9 = 0 → f1 0 = v9.toInt64) := by
  by_cases h : cd9 = 0
  · obtain ⟨X8, a, b, rfl⟩ := h0 h
    rw [if_pos h]
    have hF : zFr 2 X8 (z_up X8 ou (.inl (cJ, 1, .inr (.inl (vp_updL f 0 v9.toInt64))))) := zFr.rf.up (z_ouF (by decide) b hou) rfl
    exact ⟨a.fr (by decide) hF, (hM.fr (by decide) b).fr (by decide) hF, _, z_eq _ _ _, fun _ => rfl⟩
  · rw [h1 h, if_neg h]
    exact ⟨hY, hM, f, hou, fun q => absurd q h⟩
theorem jv_if (h9 : cd9 = 0 → JV A9) (h : JV A) : JV (if cd9 = 0 then A9 else A) := by
  by_cases h0 : cd9 = 0
  · rw [if_pos h0]; exact h9 h0
  · rw [if_neg h0]; exact h
end L2
/-- the state of the law's loop -/
def z_LS (x mo ou : Nat) (cS cR cJ cI cZ : ClassId) (A : zA) (X : zM) : Prop := YI x cS cR A X ∧ (∃ ad code0, MJ mo ad cI cZ A code0 X) ∧ (∃ f, X ou = some (.inl (cJ, 1, .inr (.inl f)))) ∧ JV A
section L3
variable {p : Program} {l : Launch} {e : Env} {R : Room} {s : State} {m : MethodId} {args : Array Value} {below : List Frame} {meth : Method} {c : Code} {H : Heap} {locs : List Loc} {cells slots : Nat} {Q : State → Prop}
variable {cc : ByteArray} {pc : Nat} {ls : Array Slot} {rest st0 : List Value} {D : va_G} {cl : List vw_C} {lo a : Nat} {tys : List (ClassId × FieldType)} {X0 X : zM} {G : State → Prop}
variable {y : MethodName} {w : Cond} {rm : Room} {maxL : Nat} {av : List Value} {ig : Instr}
theorem z_wh {cd : Nat} {N : zM → Prop} (hI : z_In p l e R s m args below meth c H (F0 m pc ls st0) rest y av.toArray) (hb : c.code = cc) (hsize : ls.size = c.maxLocals) (hM : z_C G D cl tys lo l y w rm av X (zH cd X N)) (hGk : z_Gk G lo) (hG : G s) (hK : va_K D cl tys s) (hS : z_S D cl lo X0 s.heap X H locs) (cw : z_Cw R s args y w rm maxL)
    (hdg : decode cc pc = .ok (ig, 3)) (hW : (rest.map fun v => v.category).sum ≤ 8) (hc1 : cells + rm.cells ≤ R.cells) (hs1 : slots + rm.slots ≤ R.slots)
    (k1 : ∀ (H1 : Heap) (locs1 : List Loc) (X1 : zM), z_S D cl lo X0 s.heap X1 H1 locs1 → (cd = 0 → N X1) → (¬ cd = 0 → X1 = X) → W p l e R s m args below meth c H1 locs1 (cells + rm.cells) (slots + rm.slots) Q (F0 m (pc + 3) ls (.int (nI cd) :: rest))) :
    W p l e R s m args below meth c H locs cells slots Q (F0 m pc ls st0) := by
  refine z_w hI hb hsize hM hGk hG hK hS cw hdg hW hc1 hs1 (fun v' X' H1 locs1 hP _ hS1 _ _ => ?_) (fun E x X' H1 locs1 hP _ hS1 _ _ hT => ?_)
  · obtain ⟨e1, e2, e3⟩ := hP
    cases e1
    exact k1 H1 locs1 X' hS1 e2 e3
  · obtain ⟨e1, -⟩ := hP
    cases e1
theorem z_wMi {mo : Nat} {ad : Nat → Nat} {cI cZ : ClassId} {cd : Nat} {v : Int32} {A9 A : zA} (hI : z_In p l e R s m args below meth c H (F0 m pc ls st0) rest y av.toArray) (hb : c.code = cc) (hsize : ls.size = c.maxLocals) (hM : z_C G D cl tys lo l y w rm av X (zV mo ad cI cZ cd (some (.int v)) (some (.int 0)) X A9 A)) (hGk : z_Gk G lo) (hG : G s) (hK : va_K D cl tys s) (hS : z_S D cl lo X0 s.heap X H locs) (cw : z_Cw R s args y w rm maxL)
    (hdg : decode cc pc = .ok (ig, 3)) (hW : (rest.map fun v => v.category).sum ≤ 8) (hc1 : cells + rm.cells ≤ R.cells) (hs1 : slots + rm.slots ≤ R.slots)
    (k1 : ∀ (H1 : Heap) (locs1 : List Loc) (X1 : zM) (b9 : Int32), z_S D cl lo X0 s.heap X1 H1 locs1 → zFr 1 X X1 → MJ mo ad cI cZ (if cd = 0 then A9 else A) (nI cd) X1 → (cd = 0 → b9 = v) → W p l e R s m args below meth c H1 locs1 (cells + rm.cells) (slots + rm.slots) Q (F0 m (pc + 3) ls (.int b9 :: rest))) :
    W p l e R s m args below meth c H locs cells slots Q (F0 m pc ls st0) := by
  refine z_w hI hb hsize hM hGk hG hK hS cw hdg hW hc1 hs1 (fun v' X' H1 locs1 hP _ hS1 _ _ => ?_) (fun E x X' H1 locs1 hP _ hS1 _ _ hT => ?_)
  · obtain ⟨e1, e2, e3⟩ := hP
    by_cases h0 : cd = 0
    · obtain ⟨g1, g2⟩ := e2 h0
      cases g1
      subst h0
      exact k1 H1 locs1 X' v hS1 e1 g2 (fun _ => rfl)
    · obtain ⟨g1, g2⟩ := e3 h0
      cases g1
      exact k1 H1 locs1 X' 0 hS1 e1 (by rw [if_neg h0]; exact g2) (fun q => absurd q h0)
  · obtain ⟨e1, e2, e3⟩ := hP
    by_cases h0 : cd = 0
    · obtain ⟨g1, -⟩ := e2 h0
      cases g1
    · obtain ⟨g1, -⟩ := e3 h0
      cases g1
theorem z_wMv {mo : Nat} {ad : Nat → Nat} {cI cZ : ClassId} {cd : Nat} {A9 A : zA} (hI : z_In p l e R s m args below meth c H (F0 m pc ls st0) rest y av.toArray) (hb : c.code = cc) (hsize : ls.size = c.maxLocals) (hM : z_C G D cl tys lo l y w rm av X (zV mo ad cI cZ cd none none X A9 A)) (hGk : z_Gk G lo) (hG : G s) (hK : va_K D cl tys s) (hS : z_S D cl lo X0 s.heap X H locs) (cw : z_Cw R s args y w rm maxL)
    (hdg : decode cc pc = .ok (ig, 3)) (hW : (rest.map fun v => v.category).sum ≤ 8) (hc1 : cells + rm.cells ≤ R.cells) (hs1 : slots + rm.slots ≤ R.slots)
    (k1 : ∀ (H1 : Heap) (locs1 : List Loc) (X1 : zM), z_S D cl lo X0 s.heap X1 H1 locs1 → zFr 1 X X1 → MJ mo ad cI cZ (if cd = 0 then A9 else A) (nI cd) X1 → W p l e R s m args below meth c H1 locs1 (cells + rm.cells) (slots + rm.slots) Q (F0 m (pc + 3) ls rest)) :
    W p l e R s m args below meth c H locs cells slots Q (F0 m pc ls st0) := by
  refine z_w hI hb hsize hM hGk hG hK hS cw hdg hW hc1 hs1 (fun v' X' H1 locs1 hP _ hS1 _ _ => ?_) (fun E x X' H1 locs1 hP _ hS1 _ _ hT => ?_)
  · obtain ⟨e1, e2, e3⟩ := hP
    by_cases h0 : cd = 0
    · obtain ⟨g1, g2⟩ := e2 h0
      cases g1
      subst h0
      exact k1 H1 locs1 X' hS1 e1 g2
    · obtain ⟨g1, g2⟩ := e3 h0
      cases g1
      exact k1 H1 locs1 X' hS1 e1 (by rw [if_neg h0]; exact g2)
  · obtain ⟨e1, e2, e3⟩ := hP
    by_cases h0 : cd = 0
    · obtain ⟨g1, -⟩ := e2 h0
      cases g1
    · obtain ⟨g1, -⟩ := e3 h0
      cases g1
theorem z_sld {b L : Nat} {xs : Nat → Int32} (hexec : p.tables.exec = Jvm.exec) (hb : c.code = cc) (hX : va_X b L xs s s.heap) (hbl : b < s.heap.size) (hL : L ≤ 2048) (hS : z_S D cl s.heap.size X0 s.heap X H locs) {q : Nat} {v : Int32} (hv : v = nI q) (hq : q < L) (hdg : decode cc pc = .ok (.iaload, 1))
    (kk : W p l e R s m args below meth c H locs cells slots Q (F0 m (pc + 1) ls (.int (xs q) :: rest))) : W p l e R s m args below meth c H locs cells slots Q (F0 m pc ls (.int v :: .ref b :: rest)) := by
  subst hv
  refine va_sld hexec hb hX hbl (Nat.not_le.mpr hbl) hS.va (vp_in_nI hq (by omega)) hdg ?_
  rw [nI_clamp (by omega)]
  exact kk
theorem z_cmp_eq {x y : Int64} (h : x = y) : lg_cmp x y = 0 := by
  subst h
  simp [lg_cmp]
end L3
theorem z_lb {v9 b9 : Int32} (h : v9 = 0 ∨ v9 = 1) (hb : b9 = v9) : (b9 = 0 → v9.toInt64 = 0) ∧ (¬ b9 = 0 → v9.toInt64 = 1) := by
  subst hb
  rcases h with rfl | rfl
  · exact ⟨fun _ => rfl, fun h => absurd rfl h⟩
  · exact ⟨fun h => absurd h (by decide), fun _ => rfl⟩
/-- what holds all through the law -/
def LX (p : Program) (s : State) (m : MethodId) (c : Code) (b L : Nat) (xs : Nat → Int32) (D : va_G) (cS cR cJ cI cZ : ClassId) (tP : Nat) : Prop := p.tables.exec = Jvm.exec ∧ c.code = code ∧ c.maxLocals = 7 ∧ s.vm.findClass R_LA = some m.cls ∧ zG2 s.heap.size tP s ∧ va_K D cls4 (zty cS cR cJ cI cZ) s ∧ va_X b L xs s s.heap ∧ b < s.heap.size ∧ L ≤ 2048
set_option maxHeartbeats 4000000 in
set_option maxRecDepth 100000 in
theorem law_day {p : Program} {e : Env} {s : State} {m : MethodId} {below : List Frame} {meth : Method} {c : Code} {b L : Nat} {xs : Nat → Int32} {D : va_G} {cS cR cJ cI cZ : ClassId} {tP : Nat} (l : Launch) (hl9 : l.stackTraces = false) {x mo ou i4 cells slots : Nat} {A : zA} {X : zM} {H : Heap} {locs : List Loc} {ls : Array Slot} {Q : State → Prop} (hC0 : LX p s m c b L xs D cS cR cJ cI cZ tP) (hi4 : i4 + 4 ≤ L) (hcl : cells + 60 ≤ 601024) (hsl : slots + 500 ≤ 7293034) (hLS : z_LS x mo ou cS cR cJ cI cZ A X) (hS : z_S D cls4 s.heap.size (fun _ => none) s.heap X H locs) (hl : lv_has ls 7 [(0, .ref b), (1, .ref x), (2, .ref mo), (3, .ref ou), (4, .int (nI i4))])
    (hnext : ∀ (A9 : zA) (X9 : zM) (H9 : Heap) (locs9 : List Loc) (ls9 : Array Slot), z_LS x mo ou cS cR cJ cI cZ A9 X9 → z_S D cls4 s.heap.size (fun _ => none) s.heap X9 H9 locs9 → lv_has ls9 7 [(0, .ref b), (1, .ref x), (2, .ref mo), (3, .ref ou), (4, .int (nI i4))] → W p l e room_1 s m #[Value.ref b] below meth c H9 locs9 (cells + 60) (slots + 500) Q (F0 m 1348 ls9 [])) : W p l e room_1 s m #[Value.ref b] below meth c H locs cells slots Q (F0 m 128 ls []) := by
  obtain ⟨hx, hb, hml, hown, hG2, hK, hXs, hbl, hL⟩ := hC0
  have hG := hG2.1
  obtain ⟨hY, ⟨ad, code0, hMo⟩, ⟨f, hou⟩, hV⟩ := hLS
  refine lv_aload_n hx hb d_LA_law_128 rfl (lv_at hl 1 rfl) ?_
  refine lv_aload_n hx hb d_LA_law_129 rfl (lv_at hl 0 rfl) ?_
  refine lv_iload hx hb d_LA_law_130 (lv_at hl 4 rfl) ?_
  refine lv_iconst (v := 1) hx hb d_LA_law_132 (by decide) ?_
  refine lv_iadd hx hb d_LA_law_133 ?_
  refine z_sld hx hb hXs hbl hL hS (nI_add i4 1) (show i4 + 1 < L by omega) d_LA_law_134 ?_
  obtain ⟨cd9, v9, A9, hcl9, hV9, hC9, hM9⟩ := j_day l hl9 (D := D) (cJ := cJ) (cI := cI) (cZ := cZ) (lo := s.heap.size) (tP := tP) (mo := mo) (xs (i4 + 1)) hY hV
  obtain ⟨fs0, hx0⟩ := hY.ob
  refine z_wh (n_LA_LA_day hx hown hG (by rw [hb]; exact d_LA_law_135)) hb (hl.1.trans hml.symm) (c_LA_day l hl9 (xs (i4 + 1)) hx0 hcl9 hC9) (zG2keeps _ _) hG2 hK hS (cw_LA_day hG (by decide) (by decide)) d_LA_law_135 (Nat.le_of_ble_eq_true rfl) (by show cells + 40 ≤ 601024; omega) (by show slots + 300 ≤ 7293034; omega) (fun H locs X1 hS hN1 hE1 => ?_)
  obtain ⟨hY1, hM1, hou⟩ := ls_v hY hMo hou hN1 hE1
  refine lv_istore (lv' := [(5, .int (nI cd9)), (0, .ref b), (1, .ref x), (2, .ref mo), (3, .ref ou), (4, .int (nI i4))]) hx hb d_LA_law_138 hl (by decide) rfl (fun ls hl => ?_)
  refine lv_aload_n hx hb d_LA_law_140 rfl (lv_at hl 3 rfl) ?_
  refine lv_aload_n hx hb d_LA_law_141 rfl (lv_at hl 1 rfl) ?_
  refine lv_iload hx hb d_LA_law_142 (lv_at hl 5 rfl) ?_
  refine lv_iconst (v := 1) hx hb d_LA_law_144 (by decide) ?_
  refine lv_iadd hx hb d_LA_law_145 ?_
  refine z_sld hx hb hXs hbl hL hS (nI_add i4 1) (show i4 + 1 < L by omega) d_LA_law_146 ?_
  refine z_wMv (n_LA_MO_day hx hown hG (va_recv hK (hS.1.one (MI.ob hM1)) (ci := 3) (q0 := 0) rfl rfl) (by rw [hb]; exact d_LA_law_147)) hb (hl.1.trans hml.symm) (hM9 _ _ _ hM1) (z_Gkeeps _ _) hG hK hS (cw_MO_day hG (by decide) (by decide)) d_LA_law_147 (Nat.le_of_ble_eq_true rfl) (by show cells + 40 ≤ 601024; omega) (by show slots + 300 ≤ 7293034; omega) (fun H locs X2 hS hF2 hM2 => ?_)
  have hY2 := hY1.fr (by decide) hF2
  have hou := z_ouF (by decide) hF2 hou
  refine lv_aload_n hx hb d_LA_law_150 rfl (lv_at hl 3 rfl) ?_
  refine z_pi (v := nI cd9) (n_LA_MO_thrown hx hown hG (va_recv hK (hS.1.one (MI.ob hM2)) (ci := 3) (q0 := 0) rfl rfl) (by rw [hb]; exact d_LA_law_151)) hb (hl.1.trans hml.symm) (c_MO_thrown l hl9 hM2) rfl (z_Gkeeps _ _) hG hK hS (cw_MO_thrown hG (by decide) (by decide)) d_LA_law_151 (Nat.le_of_ble_eq_true rfl) (by show cells + 40 ≤ 601024; omega) (by show slots + 300 ≤ 7293034; omega) (fun H hq hS => ?_)
  refine lv_iload hx hb d_LA_law_154 (lv_at hl 0 rfl) ?_
  refine lv_icmp_eq (tgt := 161) hx hb d_LA_law_156 (by decide) (fun c_1 => ?_) (fun c_1 => absurd (rfl) c_1)
  refine lv_goto (tgt := 1348) hx hb d_LA_law_161 (by decide) ?_
  refine W.widen (k := cells + 60) (n := slots + 500) (by show cells + 40 ≤ cells + 60; omega) (by show slots + 300 ≤ slots + 500; omega) ?_
  exact hnext _ _ H locs ls ⟨hY2, ⟨_, _, hM2⟩, ⟨_, hou⟩, (jv_if hV9 hV)⟩ hS (lv_sub hl [1, 2, 3, 4, 5] rfl)
set_option maxHeartbeats 4000000 in
set_option maxRecDepth 100000 in
theorem law_sale {p : Program} {e : Env} {s : State} {m : MethodId} {below : List Frame} {meth : Method} {c : Code} {b L : Nat} {xs : Nat → Int32} {D : va_G} {cS cR cJ cI cZ : ClassId} {tP : Nat} (l : Launch) (hl9 : l.stackTraces = false) {x mo ou i4 cells slots : Nat} {A : zA} {X : zM} {H : Heap} {locs : List Loc} {ls : Array Slot} {Q : State → Prop} (hC0 : LX p s m c b L xs D cS cR cJ cI cZ tP) (hi4 : i4 + 4 ≤ L) (hcl : cells + 60 ≤ 601024) (hsl : slots + 500 ≤ 7293034) (hLS : z_LS x mo ou cS cR cJ cI cZ A X) (hS : z_S D cls4 s.heap.size (fun _ => none) s.heap X H locs) (hl : lv_has ls 7 [(0, .ref b), (1, .ref x), (2, .ref mo), (3, .ref ou), (4, .int (nI i4))])
    (hnext : ∀ (A9 : zA) (X9 : zM) (H9 : Heap) (locs9 : List Loc) (ls9 : Array Slot), z_LS x mo ou cS cR cJ cI cZ A9 X9 → z_S D cls4 s.heap.size (fun _ => none) s.heap X9 H9 locs9 → lv_has ls9 7 [(0, .ref b), (1, .ref x), (2, .ref mo), (3, .ref ou), (4, .int (nI i4))] → W p l e room_1 s m #[Value.ref b] below meth c H9 locs9 (cells + 60) (slots + 500) Q (F0 m 1348 ls9 [])) : W p l e room_1 s m #[Value.ref b] below meth c H locs cells slots Q (F0 m 164 ls []) := by
  obtain ⟨hx, hb, hml, hown, hG2, hK, hXs, hbl, hL⟩ := hC0
  have hG := hG2.1
  obtain ⟨hY, ⟨ad, code0, hMo⟩, ⟨f, hou⟩, hV⟩ := hLS
  refine lv_aload_n hx hb d_LA_law_164 rfl (lv_at hl 1 rfl) ?_
  refine lv_aload_n hx hb d_LA_law_165 rfl (lv_at hl 0 rfl) ?_
  refine lv_iload hx hb d_LA_law_166 (lv_at hl 4 rfl) ?_
  refine lv_iconst (v := 1) hx hb d_LA_law_168 (by decide) ?_
  refine lv_iadd hx hb d_LA_law_169 ?_
  refine z_sld hx hb hXs hbl hL hS (nI_add i4 1) (show i4 + 1 < L by omega) d_LA_law_170 ?_
  refine lv_aload_n hx hb d_LA_law_171 rfl (lv_at hl 0 rfl) ?_
  refine lv_iload hx hb d_LA_law_172 (lv_at hl 4 rfl) ?_
  refine lv_iconst (v := 2) hx hb d_LA_law_174 (by decide) ?_
  refine lv_iadd hx hb d_LA_law_175 ?_
  refine z_sld hx hb hXs hbl hL hS (nI_add i4 2) (show i4 + 2 < L by omega) d_LA_law_176 ?_
  refine lv_aload_n hx hb d_LA_law_177 rfl (lv_at hl 0 rfl) ?_
  refine lv_iload hx hb d_LA_law_178 (lv_at hl 4 rfl) ?_
  refine lv_iconst (v := 3) hx hb d_LA_law_180 (by decide) ?_
  refine lv_iadd hx hb d_LA_law_181 ?_
  refine z_sld hx hb hXs hbl hL hS (nI_add i4 3) (show i4 + 3 < L by omega) d_LA_law_182 ?_
  refine lv_aload_n hx hb d_LA_law_183 rfl (lv_at hl 3 rfl) ?_
  obtain ⟨cd9, v9, A9, hcl9, hV9, hC9, hM9⟩ := j_sale l hl9 (D := D) (cJ := cJ) (cI := cI) (cZ := cZ) (lo := s.heap.size) (tP := tP) (mo := mo) (xs (i4 + 1)) (xs (i4 + 2)) (xs (i4 + 3)) hY hV
  obtain ⟨fs0, hx0⟩ := hY.ob
  refine z_wh (n_LA_LA_sale hx hown hG (by rw [hb]; exact d_LA_law_184)) hb (hl.1.trans hml.symm) (c_LA_sale l hl9 (xs (i4 + 1)) (xs (i4 + 2)) (xs (i4 + 3)) hx0 hou hcl9 hC9) (zG2keeps _ _) hG2 hK hS (cw_LA_sale hG (by decide) (by decide)) d_LA_law_184 (Nat.le_of_ble_eq_true rfl) (by show cells + 40 ≤ 601024; omega) (by show slots + 300 ≤ 7293034; omega) (fun H locs X1 hS hN1 hE1 => ?_)
  obtain ⟨hY1, hM1, f1, hou, hf1⟩ := ls_o hY hMo hou hN1 hE1
  refine lv_istore (lv' := [(5, .int (nI cd9)), (0, .ref b), (1, .ref x), (2, .ref mo), (3, .ref ou), (4, .int (nI i4))]) hx hb d_LA_law_187 hl (by decide) rfl (fun ls hl => ?_)
  refine lv_aload_n hx hb d_LA_law_189 rfl (lv_at hl 3 rfl) ?_
  refine lv_aload_n hx hb d_LA_law_190 rfl (lv_at hl 1 rfl) ?_
  refine lv_iload hx hb d_LA_law_191 (lv_at hl 5 rfl) ?_
  refine lv_iconst (v := 1) hx hb d_LA_law_193 (by decide) ?_
  refine lv_iadd hx hb d_LA_law_194 ?_
  refine z_sld hx hb hXs hbl hL hS (nI_add i4 1) (show i4 + 1 < L by omega) d_LA_law_195 ?_
  refine lv_aload_n hx hb d_LA_law_196 rfl (lv_at hl 1 rfl) ?_
  refine lv_iload hx hb d_LA_law_197 (lv_at hl 5 rfl) ?_
  refine lv_iconst (v := 2) hx hb d_LA_law_199 (by decide) ?_
  refine lv_iadd hx hb d_LA_law_200 ?_
  refine z_sld hx hb hXs hbl hL hS (nI_add i4 2) (show i4 + 2 < L by omega) d_LA_law_201 ?_
  refine lv_aload_n hx hb d_LA_law_202 rfl (lv_at hl 1 rfl) ?_
  refine lv_iload hx hb d_LA_law_203 (lv_at hl 5 rfl) ?_
  refine lv_iconst (v := 3) hx hb d_LA_law_205 (by decide) ?_
  refine lv_iadd hx hb d_LA_law_206 ?_
  refine z_sld hx hb hXs hbl hL hS (nI_add i4 3) (show i4 + 3 < L by omega) d_LA_law_207 ?_
  refine z_wMi (n_LA_MO_sale hx hown hG (va_recv hK (hS.1.one (MI.ob hM1)) (ci := 3) (q0 := 0) rfl rfl) (by rw [hb]; exact d_LA_law_208)) hb (hl.1.trans hml.symm) (hM9 _ _ _ hM1) (z_Gkeeps _ _) hG hK hS (cw_MO_sale hG (by decide) (by decide)) d_LA_law_208 (Nat.le_of_ble_eq_true rfl) (by show cells + 40 ≤ 601024; omega) (by show slots + 300 ≤ 7293034; omega) (fun H locs X2 b9 hS hF2 hM2 hb9 => ?_)
  have hY2 := hY1.fr (by decide) hF2
  have hou := z_ouF (by decide) hF2 hou
  refine lv_istore (lv' := [(6, .int b9), (5, .int (nI cd9)), (0, .ref b), (1, .ref x), (2, .ref mo), (3, .ref ou), (4, .int (nI i4))]) hx hb d_LA_law_211 hl (by decide) rfl (fun ls hl => ?_)
  refine lv_aload_n hx hb d_LA_law_213 rfl (lv_at hl 4 rfl) ?_
  refine z_pi (v := nI cd9) (n_LA_MO_thrown hx hown hG (va_recv hK (hS.1.one (MI.ob hM2)) (ci := 3) (q0 := 0) rfl rfl) (by rw [hb]; exact d_LA_law_214)) hb (hl.1.trans hml.symm) (c_MO_thrown l hl9 hM2) rfl (z_Gkeeps _ _) hG hK hS (cw_MO_thrown hG (by decide) (by decide)) d_LA_law_214 (Nat.le_of_ble_eq_true rfl) (by show cells + 40 ≤ 601024; omega) (by show slots + 300 ≤ 7293034; omega) (fun H hq hS => ?_)
  refine lv_iload hx hb d_LA_law_217 (lv_at hl 1 rfl) ?_
  refine lv_icmp_eq (tgt := 224) hx hb d_LA_law_219 (by decide) (fun c_1 => ?_) (fun c_1 => absurd (rfl) c_1)
  refine lv_iload hx hb d_LA_law_224 (lv_at hl 1 rfl) ?_
  by_cases h0 : cd9 = 0
  · subst h0
    refine lv_if_ne (tgt := 241) hx hb d_LA_law_226 (by decide) (fun c9 => absurd rfl c9) (fun c9 => ?_)
    refine lv_aload_n hx hb d_LA_law_229 rfl (lv_at hl 5 rfl) ?_
    refine lv_iconst (v := 0) hx hb d_LA_law_230 (by decide) ?_
    refine z_lald hx hb hK hS 2 hou rfl z_in01 d_LA_law_231 ?_
    refine lv_iload hx hb d_LA_law_232 (lv_at hl 0 rfl) ?_
    refine lv_i2l (v := b9.toInt64) hx hb d_LA_law_234 rfl ?_
    refine W.lcmp hx hb d_LA_law_235 ?_
    rw [z_cmp_eq (show f1 (0 : Int32).toNatClampNeg = b9.toInt64 from (hf1 rfl).trans (congrArg Int32.toInt64 (hb9 rfl).symm))]
    refine lv_if_eq (tgt := 241) hx hb d_LA_law_236 (by decide) (fun c_2 => ?_) (fun c_2 => absurd (rfl) c_2)
    refine lv_goto (tgt := 1348) hx hb d_LA_law_241 (by decide) ?_
    refine W.widen (k := cells + 60) (n := slots + 500) (by show cells + 40 ≤ cells + 60; omega) (by show slots + 300 ≤ slots + 500; omega) ?_
    exact hnext _ _ H locs ls ⟨hY2, ⟨_, _, hM2⟩, ⟨_, hou⟩, (jv_if hV9 hV)⟩ hS (lv_sub hl [2, 3, 4, 5, 6] rfl)
  · refine lv_if_ne (tgt := 241) hx hb d_LA_law_226 (by decide) (fun c9 => ?_) (fun c9 => absurd c9 (nI_ne0 (by omega) (by omega)))
    refine lv_goto (tgt := 1348) hx hb d_LA_law_241 (by decide) ?_
    refine W.widen (k := cells + 60) (n := slots + 500) (by show cells + 40 ≤ cells + 60; omega) (by show slots + 300 ≤ slots + 500; omega) ?_
    exact hnext _ _ H locs ls ⟨hY2, ⟨_, _, hM2⟩, ⟨_, hou⟩, (jv_if hV9 hV)⟩ hS (lv_sub hl [2, 3, 4, 5, 6] rfl)
set_option maxHeartbeats 4000000 in
set_option maxRecDepth 100000 in
theorem law_comes {p : Program} {e : Env} {s : State} {m : MethodId} {below : List Frame} {meth : Method} {c : Code} {b L : Nat} {xs : Nat → Int32} {D : va_G} {cS cR cJ cI cZ : ClassId} {tP : Nat} (l : Launch) (hl9 : l.stackTraces = false) {x mo ou i4 cells slots : Nat} {A : zA} {X : zM} {H : Heap} {locs : List Loc} {ls : Array Slot} {Q : State → Prop} (hC0 : LX p s m c b L xs D cS cR cJ cI cZ tP) (hi4 : i4 + 4 ≤ L) (hcl : cells + 60 ≤ 601024) (hsl : slots + 500 ≤ 7293034) (hLS : z_LS x mo ou cS cR cJ cI cZ A X) (hS : z_S D cls4 s.heap.size (fun _ => none) s.heap X H locs) (hl : lv_has ls 7 [(0, .ref b), (1, .ref x), (2, .ref mo), (3, .ref ou), (4, .int (nI i4))])
    (hnext : ∀ (A9 : zA) (X9 : zM) (H9 : Heap) (locs9 : List Loc) (ls9 : Array Slot), z_LS x mo ou cS cR cJ cI cZ A9 X9 → z_S D cls4 s.heap.size (fun _ => none) s.heap X9 H9 locs9 → lv_has ls9 7 [(0, .ref b), (1, .ref x), (2, .ref mo), (3, .ref ou), (4, .int (nI i4))] → W p l e room_1 s m #[Value.ref b] below meth c H9 locs9 (cells + 60) (slots + 500) Q (F0 m 1348 ls9 [])) : W p l e room_1 s m #[Value.ref b] below meth c H locs cells slots Q (F0 m 244 ls []) := by
  obtain ⟨hx, hb, hml, hown, hG2, hK, hXs, hbl, hL⟩ := hC0
  have hG := hG2.1
  obtain ⟨hY, ⟨ad, code0, hMo⟩, ⟨f, hou⟩, hV⟩ := hLS
  refine lv_aload_n hx hb d_LA_law_244 rfl (lv_at hl 1 rfl) ?_
  refine lv_aload_n hx hb d_LA_law_245 rfl (lv_at hl 0 rfl) ?_
  refine lv_iload hx hb d_LA_law_246 (lv_at hl 4 rfl) ?_
  refine lv_iconst (v := 1) hx hb d_LA_law_248 (by decide) ?_
  refine lv_iadd hx hb d_LA_law_249 ?_
  refine z_sld hx hb hXs hbl hL hS (nI_add i4 1) (show i4 + 1 < L by omega) d_LA_law_250 ?_
  refine lv_aload_n hx hb d_LA_law_251 rfl (lv_at hl 0 rfl) ?_
  refine lv_iload hx hb d_LA_law_252 (lv_at hl 4 rfl) ?_
  refine lv_iconst (v := 2) hx hb d_LA_law_254 (by decide) ?_
  refine lv_iadd hx hb d_LA_law_255 ?_
  refine z_sld hx hb hXs hbl hL hS (nI_add i4 2) (show i4 + 2 < L by omega) d_LA_law_256 ?_
  refine lv_aload_n hx hb d_LA_law_257 rfl (lv_at hl 0 rfl) ?_
  refine lv_iload hx hb d_LA_law_258 (lv_at hl 4 rfl) ?_
  refine lv_iconst (v := 3) hx hb d_LA_law_260 (by decide) ?_
  refine lv_iadd hx hb d_LA_law_261 ?_
  refine z_sld hx hb hXs hbl hL hS (nI_add i4 3) (show i4 + 3 < L by omega) d_LA_law_262 ?_
  refine lv_if_eq (tgt := 270) hx hb d_LA_law_263 (by decide) (fun c_1 => ?_) (fun c_1 => ?_)
  · refine lv_iconst (v := 0) hx hb d_LA_law_270 (by decide) ?_
    refine lv_aload_n hx hb d_LA_law_271 rfl (lv_at hl 3 rfl) ?_
    obtain ⟨cd9, v9, A9, hcl9, hV9, hC9, hM9⟩ := j_comes l hl9 (D := D) (cJ := cJ) (cI := cI) (cZ := cZ) (lo := s.heap.size) (tP := tP) (mo := mo) (xs (i4 + 1)) (xs (i4 + 2)) 0 hY hV
    obtain ⟨fs0, hx0⟩ := hY.ob
    refine z_wh (n_LA_LA_comes hx hown hG (by rw [hb]; exact d_LA_law_272)) hb (hl.1.trans hml.symm) (c_LA_comes l hl9 (xs (i4 + 1)) (xs (i4 + 2)) 0 hx0 hou hcl9 hC9) (zG2keeps _ _) hG2 hK hS (cw_LA_comes hG (by decide) (by decide)) d_LA_law_272 (Nat.le_of_ble_eq_true rfl) (by show cells + 40 ≤ 601024; omega) (by show slots + 300 ≤ 7293034; omega) (fun H locs X1 hS hN1 hE1 => ?_)
    obtain ⟨hY1, hM1, f1, hou, hf1⟩ := ls_o hY hMo hou hN1 hE1
    refine lv_istore (lv' := [(5, .int (nI cd9)), (0, .ref b), (1, .ref x), (2, .ref mo), (3, .ref ou), (4, .int (nI i4))]) hx hb d_LA_law_275 hl (by decide) rfl (fun ls hl => ?_)
    refine lv_aload_n hx hb d_LA_law_277 rfl (lv_at hl 3 rfl) ?_
    refine lv_aload_n hx hb d_LA_law_278 rfl (lv_at hl 1 rfl) ?_
    refine lv_iload hx hb d_LA_law_279 (lv_at hl 5 rfl) ?_
    refine lv_iconst (v := 1) hx hb d_LA_law_281 (by decide) ?_
    refine lv_iadd hx hb d_LA_law_282 ?_
    refine z_sld hx hb hXs hbl hL hS (nI_add i4 1) (show i4 + 1 < L by omega) d_LA_law_283 ?_
    refine lv_aload_n hx hb d_LA_law_284 rfl (lv_at hl 1 rfl) ?_
    refine lv_iload hx hb d_LA_law_285 (lv_at hl 5 rfl) ?_
    refine lv_iconst (v := 2) hx hb d_LA_law_287 (by decide) ?_
    refine lv_iadd hx hb d_LA_law_288 ?_
    refine z_sld hx hb hXs hbl hL hS (nI_add i4 2) (show i4 + 2 < L by omega) d_LA_law_289 ?_
    refine lv_aload_n hx hb d_LA_law_290 rfl (lv_at hl 1 rfl) ?_
    refine lv_iload hx hb d_LA_law_291 (lv_at hl 5 rfl) ?_
    refine lv_iconst (v := 3) hx hb d_LA_law_293 (by decide) ?_
    refine lv_iadd hx hb d_LA_law_294 ?_
    refine z_sld hx hb hXs hbl hL hS (nI_add i4 3) (show i4 + 3 < L by omega) d_LA_law_295 ?_
    refine lv_if_eq (tgt := 303) hx hb d_LA_law_296 (by decide) (fun c_2 => ?_) (fun c_2 => absurd (c_1) c_2)
    refine lv_iconst (v := 0) hx hb d_LA_law_303 (by decide) ?_
    refine z_wMi (n_LA_MO_comes hx hown hG (va_recv hK (hS.1.one (MI.ob hM1)) (ci := 3) (q0 := 0) rfl rfl) (by rw [hb]; exact d_LA_law_304)) hb (hl.1.trans hml.symm) (hM9 _ _ _ hM1) (z_Gkeeps _ _) hG hK hS (cw_MO_comes hG (by decide) (by decide)) d_LA_law_304 (Nat.le_of_ble_eq_true rfl) (by show cells + 40 ≤ 601024; omega) (by show slots + 300 ≤ 7293034; omega) (fun H locs X2 b9 hS hF2 hM2 hb9 => ?_)
    have hY2 := hY1.fr (by decide) hF2
    have hou := z_ouF (by decide) hF2 hou
    refine lv_istore (lv' := [(6, .int b9), (5, .int (nI cd9)), (0, .ref b), (1, .ref x), (2, .ref mo), (3, .ref ou), (4, .int (nI i4))]) hx hb d_LA_law_307 hl (by decide) rfl (fun ls hl => ?_)
    refine lv_aload_n hx hb d_LA_law_309 rfl (lv_at hl 4 rfl) ?_
    refine z_pi (v := nI cd9) (n_LA_MO_thrown hx hown hG (va_recv hK (hS.1.one (MI.ob hM2)) (ci := 3) (q0 := 0) rfl rfl) (by rw [hb]; exact d_LA_law_310)) hb (hl.1.trans hml.symm) (c_MO_thrown l hl9 hM2) rfl (z_Gkeeps _ _) hG hK hS (cw_MO_thrown hG (by decide) (by decide)) d_LA_law_310 (Nat.le_of_ble_eq_true rfl) (by show cells + 40 ≤ 601024; omega) (by show slots + 300 ≤ 7293034; omega) (fun H hq hS => ?_)
    refine lv_iload hx hb d_LA_law_313 (lv_at hl 1 rfl) ?_
    refine lv_icmp_eq (tgt := 320) hx hb d_LA_law_315 (by decide) (fun c_3 => ?_) (fun c_3 => absurd (rfl) c_3)
    refine lv_iload hx hb d_LA_law_320 (lv_at hl 1 rfl) ?_
    by_cases h0 : cd9 = 0
    · subst h0
      refine lv_if_ne (tgt := 337) hx hb d_LA_law_322 (by decide) (fun c9 => absurd rfl c9) (fun c9 => ?_)
      refine lv_aload_n hx hb d_LA_law_325 rfl (lv_at hl 5 rfl) ?_
      refine lv_iconst (v := 0) hx hb d_LA_law_326 (by decide) ?_
      refine z_lald hx hb hK hS 2 hou rfl z_in01 d_LA_law_327 ?_
      refine lv_iload hx hb d_LA_law_328 (lv_at hl 0 rfl) ?_
      refine lv_i2l (v := b9.toInt64) hx hb d_LA_law_330 rfl ?_
      refine W.lcmp hx hb d_LA_law_331 ?_
      rw [z_cmp_eq (show f1 (0 : Int32).toNatClampNeg = b9.toInt64 from (hf1 rfl).trans (congrArg Int32.toInt64 (hb9 rfl).symm))]
      refine lv_if_eq (tgt := 337) hx hb d_LA_law_332 (by decide) (fun c_4 => ?_) (fun c_4 => absurd (rfl) c_4)
      refine lv_goto (tgt := 1348) hx hb d_LA_law_337 (by decide) ?_
      refine W.widen (k := cells + 60) (n := slots + 500) (by show cells + 40 ≤ cells + 60; omega) (by show slots + 300 ≤ slots + 500; omega) ?_
      exact hnext _ _ H locs ls ⟨hY2, ⟨_, _, hM2⟩, ⟨_, hou⟩, (jv_if hV9 hV)⟩ hS (lv_sub hl [2, 3, 4, 5, 6] rfl)
    · refine lv_if_ne (tgt := 337) hx hb d_LA_law_322 (by decide) (fun c9 => ?_) (fun c9 => absurd c9 (nI_ne0 (by omega) (by omega)))
      refine lv_goto (tgt := 1348) hx hb d_LA_law_337 (by decide) ?_
      refine W.widen (k := cells + 60) (n := slots + 500) (by show cells + 40 ≤ cells + 60; omega) (by show slots + 300 ≤ slots + 500; omega) ?_
      exact hnext _ _ H locs ls ⟨hY2, ⟨_, _, hM2⟩, ⟨_, hou⟩, (jv_if hV9 hV)⟩ hS (lv_sub hl [2, 3, 4, 5, 6] rfl)
  · refine lv_iconst (v := 1) hx hb d_LA_law_266 (by decide) ?_
    refine lv_goto (tgt := 271) hx hb d_LA_law_267 (by decide) ?_
    refine lv_aload_n hx hb d_LA_law_271 rfl (lv_at hl 3 rfl) ?_
    obtain ⟨cd9, v9, A9, hcl9, hV9, hC9, hM9⟩ := j_comes l hl9 (D := D) (cJ := cJ) (cI := cI) (cZ := cZ) (lo := s.heap.size) (tP := tP) (mo := mo) (xs (i4 + 1)) (xs (i4 + 2)) 1 hY hV
    obtain ⟨fs0, hx0⟩ := hY.ob
    refine z_wh (n_LA_LA_comes hx hown hG (by rw [hb]; exact d_LA_law_272)) hb (hl.1.trans hml.symm) (c_LA_comes l hl9 (xs (i4 + 1)) (xs (i4 + 2)) 1 hx0 hou hcl9 hC9) (zG2keeps _ _) hG2 hK hS (cw_LA_comes hG (by decide) (by decide)) d_LA_law_272 (Nat.le_of_ble_eq_true rfl) (by show cells + 40 ≤ 601024; omega) (by show slots + 300 ≤ 7293034; omega) (fun H locs X1 hS hN1 hE1 => ?_)
    obtain ⟨hY1, hM1, f1, hou, hf1⟩ := ls_o hY hMo hou hN1 hE1
    refine lv_istore (lv' := [(5, .int (nI cd9)), (0, .ref b), (1, .ref x), (2, .ref mo), (3, .ref ou), (4, .int (nI i4))]) hx hb d_LA_law_275 hl (by decide) rfl (fun ls hl => ?_)
    refine lv_aload_n hx hb d_LA_law_277 rfl (lv_at hl 3 rfl) ?_
    refine lv_aload_n hx hb d_LA_law_278 rfl (lv_at hl 1 rfl) ?_
    refine lv_iload hx hb d_LA_law_279 (lv_at hl 5 rfl) ?_
    refine lv_iconst (v := 1) hx hb d_LA_law_281 (by decide) ?_
    refine lv_iadd hx hb d_LA_law_282 ?_
    refine z_sld hx hb hXs hbl hL hS (nI_add i4 1) (show i4 + 1 < L by omega) d_LA_law_283 ?_
    refine lv_aload_n hx hb d_LA_law_284 rfl (lv_at hl 1 rfl) ?_
    refine lv_iload hx hb d_LA_law_285 (lv_at hl 5 rfl) ?_
    refine lv_iconst (v := 2) hx hb d_LA_law_287 (by decide) ?_
    refine lv_iadd hx hb d_LA_law_288 ?_
    refine z_sld hx hb hXs hbl hL hS (nI_add i4 2) (show i4 + 2 < L by omega) d_LA_law_289 ?_
    refine lv_aload_n hx hb d_LA_law_290 rfl (lv_at hl 1 rfl) ?_
    refine lv_iload hx hb d_LA_law_291 (lv_at hl 5 rfl) ?_
    refine lv_iconst (v := 3) hx hb d_LA_law_293 (by decide) ?_
    refine lv_iadd hx hb d_LA_law_294 ?_
    refine z_sld hx hb hXs hbl hL hS (nI_add i4 3) (show i4 + 3 < L by omega) d_LA_law_295 ?_
    refine lv_if_eq (tgt := 303) hx hb d_LA_law_296 (by decide) (fun c_5 => absurd c_5 (c_1)) (fun c_5 => ?_)
    refine lv_iconst (v := 1) hx hb d_LA_law_299 (by decide) ?_
    refine lv_goto (tgt := 304) hx hb d_LA_law_300 (by decide) ?_
    refine z_wMi (n_LA_MO_comes hx hown hG (va_recv hK (hS.1.one (MI.ob hM1)) (ci := 3) (q0 := 0) rfl rfl) (by rw [hb]; exact d_LA_law_304)) hb (hl.1.trans hml.symm) (hM9 _ _ _ hM1) (z_Gkeeps _ _) hG hK hS (cw_MO_comes hG (by decide) (by decide)) d_LA_law_304 (Nat.le_of_ble_eq_true rfl) (by show cells + 40 ≤ 601024; omega) (by show slots + 300 ≤ 7293034; omega) (fun H locs X2 b9 hS hF2 hM2 hb9 => ?_)
    have hY2 := hY1.fr (by decide) hF2
    have hou := z_ouF (by decide) hF2 hou
    refine lv_istore (lv' := [(6, .int b9), (5, .int (nI cd9)), (0, .ref b), (1, .ref x), (2, .ref mo), (3, .ref ou), (4, .int (nI i4))]) hx hb d_LA_law_307 hl (by decide) rfl (fun ls hl => ?_)
    refine lv_aload_n hx hb d_LA_law_309 rfl (lv_at hl 4 rfl) ?_
    refine z_pi (v := nI cd9) (n_LA_MO_thrown hx hown hG (va_recv hK (hS.1.one (MI.ob hM2)) (ci := 3) (q0 := 0) rfl rfl) (by rw [hb]; exact d_LA_law_310)) hb (hl.1.trans hml.symm) (c_MO_thrown l hl9 hM2) rfl (z_Gkeeps _ _) hG hK hS (cw_MO_thrown hG (by decide) (by decide)) d_LA_law_310 (Nat.le_of_ble_eq_true rfl) (by show cells + 40 ≤ 601024; omega) (by show slots + 300 ≤ 7293034; omega) (fun H hq hS => ?_)
    refine lv_iload hx hb d_LA_law_313 (lv_at hl 1 rfl) ?_
    refine lv_icmp_eq (tgt := 320) hx hb d_LA_law_315 (by decide) (fun c_6 => ?_) (fun c_6 => absurd (rfl) c_6)
    refine lv_iload hx hb d_LA_law_320 (lv_at hl 1 rfl) ?_
    by_cases h0 : cd9 = 0
    · subst h0
      refine lv_if_ne (tgt := 337) hx hb d_LA_law_322 (by decide) (fun c9 => absurd rfl c9) (fun c9 => ?_)
      refine lv_aload_n hx hb d_LA_law_325 rfl (lv_at hl 5 rfl) ?_
      refine lv_iconst (v := 0) hx hb d_LA_law_326 (by decide) ?_
      refine z_lald hx hb hK hS 2 hou rfl z_in01 d_LA_law_327 ?_
      refine lv_iload hx hb d_LA_law_328 (lv_at hl 0 rfl) ?_
      refine lv_i2l (v := b9.toInt64) hx hb d_LA_law_330 rfl ?_
      refine W.lcmp hx hb d_LA_law_331 ?_
      rw [z_cmp_eq (show f1 (0 : Int32).toNatClampNeg = b9.toInt64 from (hf1 rfl).trans (congrArg Int32.toInt64 (hb9 rfl).symm))]
      refine lv_if_eq (tgt := 337) hx hb d_LA_law_332 (by decide) (fun c_7 => ?_) (fun c_7 => absurd (rfl) c_7)
      refine lv_goto (tgt := 1348) hx hb d_LA_law_337 (by decide) ?_
      refine W.widen (k := cells + 60) (n := slots + 500) (by show cells + 40 ≤ cells + 60; omega) (by show slots + 300 ≤ slots + 500; omega) ?_
      exact hnext _ _ H locs ls ⟨hY2, ⟨_, _, hM2⟩, ⟨_, hou⟩, (jv_if hV9 hV)⟩ hS (lv_sub hl [2, 3, 4, 5, 6] rfl)
    · refine lv_if_ne (tgt := 337) hx hb d_LA_law_322 (by decide) (fun c9 => ?_) (fun c9 => absurd c9 (nI_ne0 (by omega) (by omega)))
      refine lv_goto (tgt := 1348) hx hb d_LA_law_337 (by decide) ?_
      refine W.widen (k := cells + 60) (n := slots + 500) (by show cells + 40 ≤ cells + 60; omega) (by show slots + 300 ≤ slots + 500; omega) ?_
      exact hnext _ _ H locs ls ⟨hY2, ⟨_, _, hM2⟩, ⟨_, hou⟩, (jv_if hV9 hV)⟩ hS (lv_sub hl [2, 3, 4, 5, 6] rfl)
set_option maxHeartbeats 4000000 in
set_option maxRecDepth 100000 in
theorem law_arrive {p : Program} {e : Env} {s : State} {m : MethodId} {below : List Frame} {meth : Method} {c : Code} {b L : Nat} {xs : Nat → Int32} {D : va_G} {cS cR cJ cI cZ : ClassId} {tP : Nat} (l : Launch) (hl9 : l.stackTraces = false) {x mo ou i4 cells slots : Nat} {A : zA} {X : zM} {H : Heap} {locs : List Loc} {ls : Array Slot} {Q : State → Prop} (hC0 : LX p s m c b L xs D cS cR cJ cI cZ tP) (hi4 : i4 + 4 ≤ L) (hcl : cells + 60 ≤ 601024) (hsl : slots + 500 ≤ 7293034) (hLS : z_LS x mo ou cS cR cJ cI cZ A X) (hS : z_S D cls4 s.heap.size (fun _ => none) s.heap X H locs) (hl : lv_has ls 7 [(0, .ref b), (1, .ref x), (2, .ref mo), (3, .ref ou), (4, .int (nI i4))])
    (hnext : ∀ (A9 : zA) (X9 : zM) (H9 : Heap) (locs9 : List Loc) (ls9 : Array Slot), z_LS x mo ou cS cR cJ cI cZ A9 X9 → z_S D cls4 s.heap.size (fun _ => none) s.heap X9 H9 locs9 → lv_has ls9 7 [(0, .ref b), (1, .ref x), (2, .ref mo), (3, .ref ou), (4, .int (nI i4))] → W p l e room_1 s m #[Value.ref b] below meth c H9 locs9 (cells + 60) (slots + 500) Q (F0 m 1348 ls9 [])) : W p l e room_1 s m #[Value.ref b] below meth c H locs cells slots Q (F0 m 340 ls []) := by
  obtain ⟨hx, hb, hml, hown, hG2, hK, hXs, hbl, hL⟩ := hC0
  have hG := hG2.1
  obtain ⟨hY, ⟨ad, code0, hMo⟩, ⟨f, hou⟩, hV⟩ := hLS
  refine lv_aload_n hx hb d_LA_law_340 rfl (lv_at hl 1 rfl) ?_
  refine lv_aload_n hx hb d_LA_law_341 rfl (lv_at hl 0 rfl) ?_
  refine lv_iload hx hb d_LA_law_342 (lv_at hl 4 rfl) ?_
  refine lv_iconst (v := 1) hx hb d_LA_law_344 (by decide) ?_
  refine lv_iadd hx hb d_LA_law_345 ?_
  refine z_sld hx hb hXs hbl hL hS (nI_add i4 1) (show i4 + 1 < L by omega) d_LA_law_346 ?_
  refine lv_aload_n hx hb d_LA_law_347 rfl (lv_at hl 0 rfl) ?_
  refine lv_iload hx hb d_LA_law_348 (lv_at hl 4 rfl) ?_
  refine lv_iconst (v := 2) hx hb d_LA_law_350 (by decide) ?_
  refine lv_iadd hx hb d_LA_law_351 ?_
  refine z_sld hx hb hXs hbl hL hS (nI_add i4 2) (show i4 + 2 < L by omega) d_LA_law_352 ?_
  obtain ⟨cd9, v9, A9, hcl9, hV9, hC9, hM9⟩ := j_arrive l hl9 (D := D) (cJ := cJ) (cI := cI) (cZ := cZ) (lo := s.heap.size) (tP := tP) (mo := mo) (xs (i4 + 1)) (xs (i4 + 2)) hY hV
  obtain ⟨fs0, hx0⟩ := hY.ob
  refine z_wh (n_LA_LA_arrive hx hown hG (by rw [hb]; exact d_LA_law_353)) hb (hl.1.trans hml.symm) (c_LA_arrive l hl9 (xs (i4 + 1)) (xs (i4 + 2)) hx0 hcl9 hC9) (zG2keeps _ _) hG2 hK hS (cw_LA_arrive hG (by decide) (by decide)) d_LA_law_353 (Nat.le_of_ble_eq_true rfl) (by show cells + 40 ≤ 601024; omega) (by show slots + 300 ≤ 7293034; omega) (fun H locs X1 hS hN1 hE1 => ?_)
  obtain ⟨hY1, hM1, hou⟩ := ls_v hY hMo hou hN1 hE1
  refine lv_istore (lv' := [(5, .int (nI cd9)), (0, .ref b), (1, .ref x), (2, .ref mo), (3, .ref ou), (4, .int (nI i4))]) hx hb d_LA_law_356 hl (by decide) rfl (fun ls hl => ?_)
  refine lv_aload_n hx hb d_LA_law_358 rfl (lv_at hl 3 rfl) ?_
  refine lv_aload_n hx hb d_LA_law_359 rfl (lv_at hl 1 rfl) ?_
  refine lv_iload hx hb d_LA_law_360 (lv_at hl 5 rfl) ?_
  refine lv_iconst (v := 1) hx hb d_LA_law_362 (by decide) ?_
  refine lv_iadd hx hb d_LA_law_363 ?_
  refine z_sld hx hb hXs hbl hL hS (nI_add i4 1) (show i4 + 1 < L by omega) d_LA_law_364 ?_
  refine lv_aload_n hx hb d_LA_law_365 rfl (lv_at hl 1 rfl) ?_
  refine lv_iload hx hb d_LA_law_366 (lv_at hl 5 rfl) ?_
  refine lv_iconst (v := 2) hx hb d_LA_law_368 (by decide) ?_
  refine lv_iadd hx hb d_LA_law_369 ?_
  refine z_sld hx hb hXs hbl hL hS (nI_add i4 2) (show i4 + 2 < L by omega) d_LA_law_370 ?_
  refine z_wMv (n_LA_MO_arrive hx hown hG (va_recv hK (hS.1.one (MI.ob hM1)) (ci := 3) (q0 := 0) rfl rfl) (by rw [hb]; exact d_LA_law_371)) hb (hl.1.trans hml.symm) (hM9 _ _ _ hM1) (z_Gkeeps _ _) hG hK hS (cw_MO_arrive hG (by decide) (by decide)) d_LA_law_371 (Nat.le_of_ble_eq_true rfl) (by show cells + 40 ≤ 601024; omega) (by show slots + 300 ≤ 7293034; omega) (fun H locs X2 hS hF2 hM2 => ?_)
  have hY2 := hY1.fr (by decide) hF2
  have hou := z_ouF (by decide) hF2 hou
  refine lv_aload_n hx hb d_LA_law_374 rfl (lv_at hl 3 rfl) ?_
  refine z_pi (v := nI cd9) (n_LA_MO_thrown hx hown hG (va_recv hK (hS.1.one (MI.ob hM2)) (ci := 3) (q0 := 0) rfl rfl) (by rw [hb]; exact d_LA_law_375)) hb (hl.1.trans hml.symm) (c_MO_thrown l hl9 hM2) rfl (z_Gkeeps _ _) hG hK hS (cw_MO_thrown hG (by decide) (by decide)) d_LA_law_375 (Nat.le_of_ble_eq_true rfl) (by show cells + 40 ≤ 601024; omega) (by show slots + 300 ≤ 7293034; omega) (fun H hq hS => ?_)
  refine lv_iload hx hb d_LA_law_378 (lv_at hl 0 rfl) ?_
  refine lv_icmp_eq (tgt := 385) hx hb d_LA_law_380 (by decide) (fun c_1 => ?_) (fun c_1 => absurd (rfl) c_1)
  refine lv_goto (tgt := 1348) hx hb d_LA_law_385 (by decide) ?_
  refine W.widen (k := cells + 60) (n := slots + 500) (by show cells + 40 ≤ cells + 60; omega) (by show slots + 300 ≤ slots + 500; omega) ?_
  exact hnext _ _ H locs ls ⟨hY2, ⟨_, _, hM2⟩, ⟨_, hou⟩, (jv_if hV9 hV)⟩ hS (lv_sub hl [1, 2, 3, 4, 5] rfl)
set_option maxHeartbeats 4000000 in
set_option maxRecDepth 100000 in
theorem law_serial {p : Program} {e : Env} {s : State} {m : MethodId} {below : List Frame} {meth : Method} {c : Code} {b L : Nat} {xs : Nat → Int32} {D : va_G} {cS cR cJ cI cZ : ClassId} {tP : Nat} (l : Launch) (hl9 : l.stackTraces = false) {x mo ou i4 cells slots : Nat} {A : zA} {X : zM} {H : Heap} {locs : List Loc} {ls : Array Slot} {Q : State → Prop} (hC0 : LX p s m c b L xs D cS cR cJ cI cZ tP) (hi4 : i4 + 4 ≤ L) (hcl : cells + 60 ≤ 601024) (hsl : slots + 500 ≤ 7293034) (hLS : z_LS x mo ou cS cR cJ cI cZ A X) (hS : z_S D cls4 s.heap.size (fun _ => none) s.heap X H locs) (hl : lv_has ls 7 [(0, .ref b), (1, .ref x), (2, .ref mo), (3, .ref ou), (4, .int (nI i4))])
    (hnext : ∀ (A9 : zA) (X9 : zM) (H9 : Heap) (locs9 : List Loc) (ls9 : Array Slot), z_LS x mo ou cS cR cJ cI cZ A9 X9 → z_S D cls4 s.heap.size (fun _ => none) s.heap X9 H9 locs9 → lv_has ls9 7 [(0, .ref b), (1, .ref x), (2, .ref mo), (3, .ref ou), (4, .int (nI i4))] → W p l e room_1 s m #[Value.ref b] below meth c H9 locs9 (cells + 60) (slots + 500) Q (F0 m 1348 ls9 [])) : W p l e room_1 s m #[Value.ref b] below meth c H locs cells slots Q (F0 m 388 ls []) := by
  obtain ⟨hx, hb, hml, hown, hG2, hK, hXs, hbl, hL⟩ := hC0
  have hG := hG2.1
  obtain ⟨hY, ⟨ad, code0, hMo⟩, ⟨f, hou⟩, hV⟩ := hLS
  refine lv_aload_n hx hb d_LA_law_388 rfl (lv_at hl 1 rfl) ?_
  refine lv_aload_n hx hb d_LA_law_389 rfl (lv_at hl 0 rfl) ?_
  refine lv_iload hx hb d_LA_law_390 (lv_at hl 4 rfl) ?_
  refine lv_iconst (v := 1) hx hb d_LA_law_392 (by decide) ?_
  refine lv_iadd hx hb d_LA_law_393 ?_
  refine z_sld hx hb hXs hbl hL hS (nI_add i4 1) (show i4 + 1 < L by omega) d_LA_law_394 ?_
  refine lv_aload_n hx hb d_LA_law_395 rfl (lv_at hl 0 rfl) ?_
  refine lv_iload hx hb d_LA_law_396 (lv_at hl 4 rfl) ?_
  refine lv_iconst (v := 2) hx hb d_LA_law_398 (by decide) ?_
  refine lv_iadd hx hb d_LA_law_399 ?_
  refine z_sld hx hb hXs hbl hL hS (nI_add i4 2) (show i4 + 2 < L by omega) d_LA_law_400 ?_
  refine lv_aload_n hx hb d_LA_law_401 rfl (lv_at hl 3 rfl) ?_
  obtain ⟨cd9, v9, A9, hcl9, hV9, hC9, hM9⟩ := j_serial l hl9 (D := D) (cJ := cJ) (cI := cI) (cZ := cZ) (lo := s.heap.size) (tP := tP) (mo := mo) (xs (i4 + 1)) (xs (i4 + 2)) hY hV
  obtain ⟨fs0, hx0⟩ := hY.ob
  refine z_wh (n_LA_LA_serial hx hown hG (by rw [hb]; exact d_LA_law_402)) hb (hl.1.trans hml.symm) (c_LA_serial l hl9 (xs (i4 + 1)) (xs (i4 + 2)) hx0 hou hcl9 hC9) (zG2keeps _ _) hG2 hK hS (cw_LA_serial hG (by decide) (by decide)) d_LA_law_402 (Nat.le_of_ble_eq_true rfl) (by show cells + 40 ≤ 601024; omega) (by show slots + 300 ≤ 7293034; omega) (fun H locs X1 hS hN1 hE1 => ?_)
  obtain ⟨hY1, hM1, f1, hou, hf1⟩ := ls_o hY hMo hou hN1 hE1
  refine lv_istore (lv' := [(5, .int (nI cd9)), (0, .ref b), (1, .ref x), (2, .ref mo), (3, .ref ou), (4, .int (nI i4))]) hx hb d_LA_law_405 hl (by decide) rfl (fun ls hl => ?_)
  refine lv_aload_n hx hb d_LA_law_407 rfl (lv_at hl 3 rfl) ?_
  refine lv_aload_n hx hb d_LA_law_408 rfl (lv_at hl 1 rfl) ?_
  refine lv_iload hx hb d_LA_law_409 (lv_at hl 5 rfl) ?_
  refine lv_iconst (v := 1) hx hb d_LA_law_411 (by decide) ?_
  refine lv_iadd hx hb d_LA_law_412 ?_
  refine z_sld hx hb hXs hbl hL hS (nI_add i4 1) (show i4 + 1 < L by omega) d_LA_law_413 ?_
  refine lv_aload_n hx hb d_LA_law_414 rfl (lv_at hl 1 rfl) ?_
  refine lv_iload hx hb d_LA_law_415 (lv_at hl 5 rfl) ?_
  refine lv_iconst (v := 2) hx hb d_LA_law_417 (by decide) ?_
  refine lv_iadd hx hb d_LA_law_418 ?_
  refine z_sld hx hb hXs hbl hL hS (nI_add i4 2) (show i4 + 2 < L by omega) d_LA_law_419 ?_
  refine z_wMi (n_LA_MO_serial hx hown hG (va_recv hK (hS.1.one (MI.ob hM1)) (ci := 3) (q0 := 0) rfl rfl) (by rw [hb]; exact d_LA_law_420)) hb (hl.1.trans hml.symm) (hM9 _ _ _ hM1) (z_Gkeeps _ _) hG hK hS (cw_MO_serial hG (by decide) (by decide)) d_LA_law_420 (Nat.le_of_ble_eq_true rfl) (by show cells + 40 ≤ 601024; omega) (by show slots + 300 ≤ 7293034; omega) (fun H locs X2 b9 hS hF2 hM2 hb9 => ?_)
  have hY2 := hY1.fr (by decide) hF2
  have hou := z_ouF (by decide) hF2 hou
  refine lv_istore (lv' := [(6, .int b9), (5, .int (nI cd9)), (0, .ref b), (1, .ref x), (2, .ref mo), (3, .ref ou), (4, .int (nI i4))]) hx hb d_LA_law_423 hl (by decide) rfl (fun ls hl => ?_)
  refine lv_aload_n hx hb d_LA_law_425 rfl (lv_at hl 4 rfl) ?_
  refine z_pi (v := nI cd9) (n_LA_MO_thrown hx hown hG (va_recv hK (hS.1.one (MI.ob hM2)) (ci := 3) (q0 := 0) rfl rfl) (by rw [hb]; exact d_LA_law_426)) hb (hl.1.trans hml.symm) (c_MO_thrown l hl9 hM2) rfl (z_Gkeeps _ _) hG hK hS (cw_MO_thrown hG (by decide) (by decide)) d_LA_law_426 (Nat.le_of_ble_eq_true rfl) (by show cells + 40 ≤ 601024; omega) (by show slots + 300 ≤ 7293034; omega) (fun H hq hS => ?_)
  refine lv_iload hx hb d_LA_law_429 (lv_at hl 1 rfl) ?_
  refine lv_icmp_eq (tgt := 436) hx hb d_LA_law_431 (by decide) (fun c_1 => ?_) (fun c_1 => absurd (rfl) c_1)
  refine lv_iload hx hb d_LA_law_436 (lv_at hl 1 rfl) ?_
  by_cases h0 : cd9 = 0
  · subst h0
    refine lv_if_ne (tgt := 453) hx hb d_LA_law_438 (by decide) (fun c9 => absurd rfl c9) (fun c9 => ?_)
    refine lv_aload_n hx hb d_LA_law_441 rfl (lv_at hl 5 rfl) ?_
    refine lv_iconst (v := 0) hx hb d_LA_law_442 (by decide) ?_
    refine z_lald hx hb hK hS 2 hou rfl z_in01 d_LA_law_443 ?_
    refine lv_iload hx hb d_LA_law_444 (lv_at hl 0 rfl) ?_
    refine lv_i2l (v := b9.toInt64) hx hb d_LA_law_446 rfl ?_
    refine W.lcmp hx hb d_LA_law_447 ?_
    rw [z_cmp_eq (show f1 (0 : Int32).toNatClampNeg = b9.toInt64 from (hf1 rfl).trans (congrArg Int32.toInt64 (hb9 rfl).symm))]
    refine lv_if_eq (tgt := 453) hx hb d_LA_law_448 (by decide) (fun c_2 => ?_) (fun c_2 => absurd (rfl) c_2)
    refine lv_goto (tgt := 1348) hx hb d_LA_law_453 (by decide) ?_
    refine W.widen (k := cells + 60) (n := slots + 500) (by show cells + 40 ≤ cells + 60; omega) (by show slots + 300 ≤ slots + 500; omega) ?_
    exact hnext _ _ H locs ls ⟨hY2, ⟨_, _, hM2⟩, ⟨_, hou⟩, (jv_if hV9 hV)⟩ hS (lv_sub hl [2, 3, 4, 5, 6] rfl)
  · refine lv_if_ne (tgt := 453) hx hb d_LA_law_438 (by decide) (fun c9 => ?_) (fun c9 => absurd c9 (nI_ne0 (by omega) (by omega)))
    refine lv_goto (tgt := 1348) hx hb d_LA_law_453 (by decide) ?_
    refine W.widen (k := cells + 60) (n := slots + 500) (by show cells + 40 ≤ cells + 60; omega) (by show slots + 300 ≤ slots + 500; omega) ?_
    exact hnext _ _ H locs ls ⟨hY2, ⟨_, _, hM2⟩, ⟨_, hou⟩, (jv_if hV9 hV)⟩ hS (lv_sub hl [2, 3, 4, 5, 6] rfl)
set_option maxHeartbeats 4000000 in
set_option maxRecDepth 100000 in
theorem law_quarantine {p : Program} {e : Env} {s : State} {m : MethodId} {below : List Frame} {meth : Method} {c : Code} {b L : Nat} {xs : Nat → Int32} {D : va_G} {cS cR cJ cI cZ : ClassId} {tP : Nat} (l : Launch) (hl9 : l.stackTraces = false) {x mo ou i4 cells slots : Nat} {A : zA} {X : zM} {H : Heap} {locs : List Loc} {ls : Array Slot} {Q : State → Prop} (hC0 : LX p s m c b L xs D cS cR cJ cI cZ tP) (hi4 : i4 + 4 ≤ L) (hcl : cells + 60 ≤ 601024) (hsl : slots + 500 ≤ 7293034) (hLS : z_LS x mo ou cS cR cJ cI cZ A X) (hS : z_S D cls4 s.heap.size (fun _ => none) s.heap X H locs) (hl : lv_has ls 7 [(0, .ref b), (1, .ref x), (2, .ref mo), (3, .ref ou), (4, .int (nI i4))])
    (hnext : ∀ (A9 : zA) (X9 : zM) (H9 : Heap) (locs9 : List Loc) (ls9 : Array Slot), z_LS x mo ou cS cR cJ cI cZ A9 X9 → z_S D cls4 s.heap.size (fun _ => none) s.heap X9 H9 locs9 → lv_has ls9 7 [(0, .ref b), (1, .ref x), (2, .ref mo), (3, .ref ou), (4, .int (nI i4))] → W p l e room_1 s m #[Value.ref b] below meth c H9 locs9 (cells + 60) (slots + 500) Q (F0 m 1348 ls9 [])) : W p l e room_1 s m #[Value.ref b] below meth c H locs cells slots Q (F0 m 456 ls []) := by
  obtain ⟨hx, hb, hml, hown, hG2, hK, hXs, hbl, hL⟩ := hC0
  have hG := hG2.1
  obtain ⟨hY, ⟨ad, code0, hMo⟩, ⟨f, hou⟩, hV⟩ := hLS
  refine lv_aload_n hx hb d_LA_law_456 rfl (lv_at hl 1 rfl) ?_
  refine lv_aload_n hx hb d_LA_law_457 rfl (lv_at hl 0 rfl) ?_
  refine lv_iload hx hb d_LA_law_458 (lv_at hl 4 rfl) ?_
  refine lv_iconst (v := 1) hx hb d_LA_law_460 (by decide) ?_
  refine lv_iadd hx hb d_LA_law_461 ?_
  refine z_sld hx hb hXs hbl hL hS (nI_add i4 1) (show i4 + 1 < L by omega) d_LA_law_462 ?_
  refine lv_aload_n hx hb d_LA_law_463 rfl (lv_at hl 0 rfl) ?_
  refine lv_iload hx hb d_LA_law_464 (lv_at hl 4 rfl) ?_
  refine lv_iconst (v := 2) hx hb d_LA_law_466 (by decide) ?_
  refine lv_iadd hx hb d_LA_law_467 ?_
  refine z_sld hx hb hXs hbl hL hS (nI_add i4 2) (show i4 + 2 < L by omega) d_LA_law_468 ?_
  refine lv_if_eq (tgt := 476) hx hb d_LA_law_469 (by decide) (fun c_1 => ?_) (fun c_1 => ?_)
  · refine lv_iconst (v := 0) hx hb d_LA_law_476 (by decide) ?_
    obtain ⟨cd9, v9, A9, hcl9, hV9, hC9, hM9⟩ := j_quarantine l hl9 (D := D) (cJ := cJ) (cI := cI) (cZ := cZ) (lo := s.heap.size) (tP := tP) (mo := mo) (xs (i4 + 1)) 0 (Or.inl rfl) hY hV
    obtain ⟨fs0, hx0⟩ := hY.ob
    refine z_wh (n_LA_LA_quarantine hx hown hG (by rw [hb]; exact d_LA_law_477)) hb (hl.1.trans hml.symm) (c_LA_quarantine l hl9 (xs (i4 + 1)) 0 hx0 hcl9 hC9) (zG2keeps _ _) hG2 hK hS (cw_LA_quarantine hG (by decide) (by decide)) d_LA_law_477 (Nat.le_of_ble_eq_true rfl) (by show cells + 40 ≤ 601024; omega) (by show slots + 300 ≤ 7293034; omega) (fun H locs X1 hS hN1 hE1 => ?_)
    obtain ⟨hY1, hM1, hou⟩ := ls_v hY hMo hou hN1 hE1
    refine lv_istore (lv' := [(5, .int (nI cd9)), (0, .ref b), (1, .ref x), (2, .ref mo), (3, .ref ou), (4, .int (nI i4))]) hx hb d_LA_law_480 hl (by decide) rfl (fun ls hl => ?_)
    refine lv_aload_n hx hb d_LA_law_482 rfl (lv_at hl 3 rfl) ?_
    refine lv_aload_n hx hb d_LA_law_483 rfl (lv_at hl 1 rfl) ?_
    refine lv_iload hx hb d_LA_law_484 (lv_at hl 5 rfl) ?_
    refine lv_iconst (v := 1) hx hb d_LA_law_486 (by decide) ?_
    refine lv_iadd hx hb d_LA_law_487 ?_
    refine z_sld hx hb hXs hbl hL hS (nI_add i4 1) (show i4 + 1 < L by omega) d_LA_law_488 ?_
    refine lv_aload_n hx hb d_LA_law_489 rfl (lv_at hl 1 rfl) ?_
    refine lv_iload hx hb d_LA_law_490 (lv_at hl 5 rfl) ?_
    refine lv_iconst (v := 2) hx hb d_LA_law_492 (by decide) ?_
    refine lv_iadd hx hb d_LA_law_493 ?_
    refine z_sld hx hb hXs hbl hL hS (nI_add i4 2) (show i4 + 2 < L by omega) d_LA_law_494 ?_
    refine lv_if_eq (tgt := 502) hx hb d_LA_law_495 (by decide) (fun c_2 => ?_) (fun c_2 => absurd (c_1) c_2)
    refine lv_iconst (v := 0) hx hb d_LA_law_502 (by decide) ?_
    refine z_wMv (n_LA_MO_quarantine hx hown hG (va_recv hK (hS.1.one (MI.ob hM1)) (ci := 3) (q0 := 0) rfl rfl) (by rw [hb]; exact d_LA_law_503)) hb (hl.1.trans hml.symm) (hM9 _ _ _ hM1) (z_Gkeeps _ _) hG hK hS (cw_MO_quarantine hG (by decide) (by decide)) d_LA_law_503 (Nat.le_of_ble_eq_true rfl) (by show cells + 40 ≤ 601024; omega) (by show slots + 300 ≤ 7293034; omega) (fun H locs X2 hS hF2 hM2 => ?_)
    have hY2 := hY1.fr (by decide) hF2
    have hou := z_ouF (by decide) hF2 hou
    refine lv_aload_n hx hb d_LA_law_506 rfl (lv_at hl 3 rfl) ?_
    refine z_pi (v := nI cd9) (n_LA_MO_thrown hx hown hG (va_recv hK (hS.1.one (MI.ob hM2)) (ci := 3) (q0 := 0) rfl rfl) (by rw [hb]; exact d_LA_law_507)) hb (hl.1.trans hml.symm) (c_MO_thrown l hl9 hM2) rfl (z_Gkeeps _ _) hG hK hS (cw_MO_thrown hG (by decide) (by decide)) d_LA_law_507 (Nat.le_of_ble_eq_true rfl) (by show cells + 40 ≤ 601024; omega) (by show slots + 300 ≤ 7293034; omega) (fun H hq hS => ?_)
    refine lv_iload hx hb d_LA_law_510 (lv_at hl 0 rfl) ?_
    refine lv_icmp_eq (tgt := 517) hx hb d_LA_law_512 (by decide) (fun c_3 => ?_) (fun c_3 => absurd (rfl) c_3)
    refine lv_goto (tgt := 1348) hx hb d_LA_law_517 (by decide) ?_
    refine W.widen (k := cells + 60) (n := slots + 500) (by show cells + 40 ≤ cells + 60; omega) (by show slots + 300 ≤ slots + 500; omega) ?_
    exact hnext _ _ H locs ls ⟨hY2, ⟨_, _, hM2⟩, ⟨_, hou⟩, (jv_if hV9 hV)⟩ hS (lv_sub hl [1, 2, 3, 4, 5] rfl)
  · refine lv_iconst (v := 1) hx hb d_LA_law_472 (by decide) ?_
    refine lv_goto (tgt := 477) hx hb d_LA_law_473 (by decide) ?_
    obtain ⟨cd9, v9, A9, hcl9, hV9, hC9, hM9⟩ := j_quarantine l hl9 (D := D) (cJ := cJ) (cI := cI) (cZ := cZ) (lo := s.heap.size) (tP := tP) (mo := mo) (xs (i4 + 1)) 1 (Or.inr rfl) hY hV
    obtain ⟨fs0, hx0⟩ := hY.ob
    refine z_wh (n_LA_LA_quarantine hx hown hG (by rw [hb]; exact d_LA_law_477)) hb (hl.1.trans hml.symm) (c_LA_quarantine l hl9 (xs (i4 + 1)) 1 hx0 hcl9 hC9) (zG2keeps _ _) hG2 hK hS (cw_LA_quarantine hG (by decide) (by decide)) d_LA_law_477 (Nat.le_of_ble_eq_true rfl) (by show cells + 40 ≤ 601024; omega) (by show slots + 300 ≤ 7293034; omega) (fun H locs X1 hS hN1 hE1 => ?_)
    obtain ⟨hY1, hM1, hou⟩ := ls_v hY hMo hou hN1 hE1
    refine lv_istore (lv' := [(5, .int (nI cd9)), (0, .ref b), (1, .ref x), (2, .ref mo), (3, .ref ou), (4, .int (nI i4))]) hx hb d_LA_law_480 hl (by decide) rfl (fun ls hl => ?_)
    refine lv_aload_n hx hb d_LA_law_482 rfl (lv_at hl 3 rfl) ?_
    refine lv_aload_n hx hb d_LA_law_483 rfl (lv_at hl 1 rfl) ?_
    refine lv_iload hx hb d_LA_law_484 (lv_at hl 5 rfl) ?_
    refine lv_iconst (v := 1) hx hb d_LA_law_486 (by decide) ?_
    refine lv_iadd hx hb d_LA_law_487 ?_
    refine z_sld hx hb hXs hbl hL hS (nI_add i4 1) (show i4 + 1 < L by omega) d_LA_law_488 ?_
    refine lv_aload_n hx hb d_LA_law_489 rfl (lv_at hl 1 rfl) ?_
    refine lv_iload hx hb d_LA_law_490 (lv_at hl 5 rfl) ?_
    refine lv_iconst (v := 2) hx hb d_LA_law_492 (by decide) ?_
    refine lv_iadd hx hb d_LA_law_493 ?_
    refine z_sld hx hb hXs hbl hL hS (nI_add i4 2) (show i4 + 2 < L by omega) d_LA_law_494 ?_
    refine lv_if_eq (tgt := 502) hx hb d_LA_law_495 (by decide) (fun c_4 => absurd c_4 (c_1)) (fun c_4 => ?_)
    refine lv_iconst (v := 1) hx hb d_LA_law_498 (by decide) ?_
    refine lv_goto (tgt := 503) hx hb d_LA_law_499 (by decide) ?_
    refine z_wMv (n_LA_MO_quarantine hx hown hG (va_recv hK (hS.1.one (MI.ob hM1)) (ci := 3) (q0 := 0) rfl rfl) (by rw [hb]; exact d_LA_law_503)) hb (hl.1.trans hml.symm) (hM9 _ _ _ hM1) (z_Gkeeps _ _) hG hK hS (cw_MO_quarantine hG (by decide) (by decide)) d_LA_law_503 (Nat.le_of_ble_eq_true rfl) (by show cells + 40 ≤ 601024; omega) (by show slots + 300 ≤ 7293034; omega) (fun H locs X2 hS hF2 hM2 => ?_)
    have hY2 := hY1.fr (by decide) hF2
    have hou := z_ouF (by decide) hF2 hou
    refine lv_aload_n hx hb d_LA_law_506 rfl (lv_at hl 3 rfl) ?_
    refine z_pi (v := nI cd9) (n_LA_MO_thrown hx hown hG (va_recv hK (hS.1.one (MI.ob hM2)) (ci := 3) (q0 := 0) rfl rfl) (by rw [hb]; exact d_LA_law_507)) hb (hl.1.trans hml.symm) (c_MO_thrown l hl9 hM2) rfl (z_Gkeeps _ _) hG hK hS (cw_MO_thrown hG (by decide) (by decide)) d_LA_law_507 (Nat.le_of_ble_eq_true rfl) (by show cells + 40 ≤ 601024; omega) (by show slots + 300 ≤ 7293034; omega) (fun H hq hS => ?_)
    refine lv_iload hx hb d_LA_law_510 (lv_at hl 0 rfl) ?_
    refine lv_icmp_eq (tgt := 517) hx hb d_LA_law_512 (by decide) (fun c_5 => ?_) (fun c_5 => absurd (rfl) c_5)
    refine lv_goto (tgt := 1348) hx hb d_LA_law_517 (by decide) ?_
    refine W.widen (k := cells + 60) (n := slots + 500) (by show cells + 40 ≤ cells + 60; omega) (by show slots + 300 ≤ slots + 500; omega) ?_
    exact hnext _ _ H locs ls ⟨hY2, ⟨_, _, hM2⟩, ⟨_, hou⟩, (jv_if hV9 hV)⟩ hS (lv_sub hl [1, 2, 3, 4, 5] rfl)
set_option maxHeartbeats 4000000 in
set_option maxRecDepth 100000 in
theorem law_check {p : Program} {e : Env} {s : State} {m : MethodId} {below : List Frame} {meth : Method} {c : Code} {b L : Nat} {xs : Nat → Int32} {D : va_G} {cS cR cJ cI cZ : ClassId} {tP : Nat} (l : Launch) (hl9 : l.stackTraces = false) {x mo ou i4 cells slots : Nat} {A : zA} {X : zM} {H : Heap} {locs : List Loc} {ls : Array Slot} {Q : State → Prop} (hC0 : LX p s m c b L xs D cS cR cJ cI cZ tP) (hi4 : i4 + 4 ≤ L) (hcl : cells + 60 ≤ 601024) (hsl : slots + 500 ≤ 7293034) (hLS : z_LS x mo ou cS cR cJ cI cZ A X) (hS : z_S D cls4 s.heap.size (fun _ => none) s.heap X H locs) (hl : lv_has ls 7 [(0, .ref b), (1, .ref x), (2, .ref mo), (3, .ref ou), (4, .int (nI i4))])
    (hnext : ∀ (A9 : zA) (X9 : zM) (H9 : Heap) (locs9 : List Loc) (ls9 : Array Slot), z_LS x mo ou cS cR cJ cI cZ A9 X9 → z_S D cls4 s.heap.size (fun _ => none) s.heap X9 H9 locs9 → lv_has ls9 7 [(0, .ref b), (1, .ref x), (2, .ref mo), (3, .ref ou), (4, .int (nI i4))] → W p l e room_1 s m #[Value.ref b] below meth c H9 locs9 (cells + 60) (slots + 500) Q (F0 m 1348 ls9 [])) : W p l e room_1 s m #[Value.ref b] below meth c H locs cells slots Q (F0 m 520 ls []) := by
  obtain ⟨hx, hb, hml, hown, hG2, hK, hXs, hbl, hL⟩ := hC0
  have hG := hG2.1
  obtain ⟨hY, ⟨ad, code0, hMo⟩, ⟨f, hou⟩, hV⟩ := hLS
  refine lv_aload_n hx hb d_LA_law_520 rfl (lv_at hl 1 rfl) ?_
  refine lv_aload_n hx hb d_LA_law_521 rfl (lv_at hl 0 rfl) ?_
  refine lv_iload hx hb d_LA_law_522 (lv_at hl 4 rfl) ?_
  refine lv_iconst (v := 1) hx hb d_LA_law_524 (by decide) ?_
  refine lv_iadd hx hb d_LA_law_525 ?_
  refine z_sld hx hb hXs hbl hL hS (nI_add i4 1) (show i4 + 1 < L by omega) d_LA_law_526 ?_
  refine lv_aload_n hx hb d_LA_law_527 rfl (lv_at hl 0 rfl) ?_
  refine lv_iload hx hb d_LA_law_528 (lv_at hl 4 rfl) ?_
  refine lv_iconst (v := 2) hx hb d_LA_law_530 (by decide) ?_
  refine lv_iadd hx hb d_LA_law_531 ?_
  refine z_sld hx hb hXs hbl hL hS (nI_add i4 2) (show i4 + 2 < L by omega) d_LA_law_532 ?_
  refine lv_aload_n hx hb d_LA_law_533 rfl (lv_at hl 0 rfl) ?_
  refine lv_iload hx hb d_LA_law_534 (lv_at hl 4 rfl) ?_
  refine lv_iconst (v := 3) hx hb d_LA_law_536 (by decide) ?_
  refine lv_iadd hx hb d_LA_law_537 ?_
  refine z_sld hx hb hXs hbl hL hS (nI_add i4 3) (show i4 + 3 < L by omega) d_LA_law_538 ?_
  refine lv_if_eq (tgt := 546) hx hb d_LA_law_539 (by decide) (fun c_1 => ?_) (fun c_1 => ?_)
  · refine lv_iconst (v := 0) hx hb d_LA_law_546 (by decide) ?_
    refine lv_aload_n hx hb d_LA_law_547 rfl (lv_at hl 3 rfl) ?_
    obtain ⟨cd9, v9, A9, hcl9, hV9, hC9, hM9⟩ := j_check l hl9 (D := D) (cJ := cJ) (cI := cI) (cZ := cZ) (lo := s.heap.size) (tP := tP) (mo := mo) (xs (i4 + 1)) (xs (i4 + 2)) 0 hY hV
    obtain ⟨fs0, hx0⟩ := hY.ob
    refine z_wh (n_LA_LA_check hx hown hG (by rw [hb]; exact d_LA_law_548)) hb (hl.1.trans hml.symm) (c_LA_check l hl9 (xs (i4 + 1)) (xs (i4 + 2)) 0 hx0 hou hcl9 hC9) (zG2keeps _ _) hG2 hK hS (cw_LA_check hG (by decide) (by decide)) d_LA_law_548 (Nat.le_of_ble_eq_true rfl) (by show cells + 40 ≤ 601024; omega) (by show slots + 300 ≤ 7293034; omega) (fun H locs X1 hS hN1 hE1 => ?_)
    obtain ⟨hY1, hM1, f1, hou, hf1⟩ := ls_o hY hMo hou hN1 hE1
    refine lv_istore (lv' := [(5, .int (nI cd9)), (0, .ref b), (1, .ref x), (2, .ref mo), (3, .ref ou), (4, .int (nI i4))]) hx hb d_LA_law_551 hl (by decide) rfl (fun ls hl => ?_)
    refine lv_aload_n hx hb d_LA_law_553 rfl (lv_at hl 3 rfl) ?_
    refine lv_aload_n hx hb d_LA_law_554 rfl (lv_at hl 1 rfl) ?_
    refine lv_iload hx hb d_LA_law_555 (lv_at hl 5 rfl) ?_
    refine lv_iconst (v := 1) hx hb d_LA_law_557 (by decide) ?_
    refine lv_iadd hx hb d_LA_law_558 ?_
    refine z_sld hx hb hXs hbl hL hS (nI_add i4 1) (show i4 + 1 < L by omega) d_LA_law_559 ?_
    refine lv_aload_n hx hb d_LA_law_560 rfl (lv_at hl 1 rfl) ?_
    refine lv_iload hx hb d_LA_law_561 (lv_at hl 5 rfl) ?_
    refine lv_iconst (v := 2) hx hb d_LA_law_563 (by decide) ?_
    refine lv_iadd hx hb d_LA_law_564 ?_
    refine z_sld hx hb hXs hbl hL hS (nI_add i4 2) (show i4 + 2 < L by omega) d_LA_law_565 ?_
    refine lv_aload_n hx hb d_LA_law_566 rfl (lv_at hl 1 rfl) ?_
    refine lv_iload hx hb d_LA_law_567 (lv_at hl 5 rfl) ?_
    refine lv_iconst (v := 3) hx hb d_LA_law_569 (by decide) ?_
    refine lv_iadd hx hb d_LA_law_570 ?_
    refine z_sld hx hb hXs hbl hL hS (nI_add i4 3) (show i4 + 3 < L by omega) d_LA_law_571 ?_
    refine lv_if_eq (tgt := 579) hx hb d_LA_law_572 (by decide) (fun c_2 => ?_) (fun c_2 => absurd (c_1) c_2)
    refine lv_iconst (v := 0) hx hb d_LA_law_579 (by decide) ?_
    refine z_wMi (n_LA_MO_check hx hown hG (va_recv hK (hS.1.one (MI.ob hM1)) (ci := 3) (q0 := 0) rfl rfl) (by rw [hb]; exact d_LA_law_580)) hb (hl.1.trans hml.symm) (hM9 _ _ _ hM1) (z_Gkeeps _ _) hG hK hS (cw_MO_check hG (by decide) (by decide)) d_LA_law_580 (Nat.le_of_ble_eq_true rfl) (by show cells + 40 ≤ 601024; omega) (by show slots + 300 ≤ 7293034; omega) (fun H locs X2 b9 hS hF2 hM2 hb9 => ?_)
    have hY2 := hY1.fr (by decide) hF2
    have hou := z_ouF (by decide) hF2 hou
    refine lv_istore (lv' := [(6, .int b9), (5, .int (nI cd9)), (0, .ref b), (1, .ref x), (2, .ref mo), (3, .ref ou), (4, .int (nI i4))]) hx hb d_LA_law_583 hl (by decide) rfl (fun ls hl => ?_)
    refine lv_aload_n hx hb d_LA_law_585 rfl (lv_at hl 4 rfl) ?_
    refine z_pi (v := nI cd9) (n_LA_MO_thrown hx hown hG (va_recv hK (hS.1.one (MI.ob hM2)) (ci := 3) (q0 := 0) rfl rfl) (by rw [hb]; exact d_LA_law_586)) hb (hl.1.trans hml.symm) (c_MO_thrown l hl9 hM2) rfl (z_Gkeeps _ _) hG hK hS (cw_MO_thrown hG (by decide) (by decide)) d_LA_law_586 (Nat.le_of_ble_eq_true rfl) (by show cells + 40 ≤ 601024; omega) (by show slots + 300 ≤ 7293034; omega) (fun H hq hS => ?_)
    refine lv_iload hx hb d_LA_law_589 (lv_at hl 1 rfl) ?_
    refine lv_icmp_eq (tgt := 596) hx hb d_LA_law_591 (by decide) (fun c_3 => ?_) (fun c_3 => absurd (rfl) c_3)
    refine lv_iload hx hb d_LA_law_596 (lv_at hl 1 rfl) ?_
    by_cases h0 : cd9 = 0
    · subst h0
      refine lv_if_ne (tgt := 613) hx hb d_LA_law_598 (by decide) (fun c9 => absurd rfl c9) (fun c9 => ?_)
      refine lv_aload_n hx hb d_LA_law_601 rfl (lv_at hl 5 rfl) ?_
      refine lv_iconst (v := 0) hx hb d_LA_law_602 (by decide) ?_
      refine z_lald hx hb hK hS 2 hou rfl z_in01 d_LA_law_603 ?_
      refine lv_iload hx hb d_LA_law_604 (lv_at hl 0 rfl) ?_
      refine lv_i2l (v := b9.toInt64) hx hb d_LA_law_606 rfl ?_
      refine W.lcmp hx hb d_LA_law_607 ?_
      rw [z_cmp_eq (show f1 (0 : Int32).toNatClampNeg = b9.toInt64 from (hf1 rfl).trans (congrArg Int32.toInt64 (hb9 rfl).symm))]
      refine lv_if_eq (tgt := 613) hx hb d_LA_law_608 (by decide) (fun c_4 => ?_) (fun c_4 => absurd (rfl) c_4)
      refine lv_goto (tgt := 1348) hx hb d_LA_law_613 (by decide) ?_
      refine W.widen (k := cells + 60) (n := slots + 500) (by show cells + 40 ≤ cells + 60; omega) (by show slots + 300 ≤ slots + 500; omega) ?_
      exact hnext _ _ H locs ls ⟨hY2, ⟨_, _, hM2⟩, ⟨_, hou⟩, (jv_if hV9 hV)⟩ hS (lv_sub hl [2, 3, 4, 5, 6] rfl)
    · refine lv_if_ne (tgt := 613) hx hb d_LA_law_598 (by decide) (fun c9 => ?_) (fun c9 => absurd c9 (nI_ne0 (by omega) (by omega)))
      refine lv_goto (tgt := 1348) hx hb d_LA_law_613 (by decide) ?_
      refine W.widen (k := cells + 60) (n := slots + 500) (by show cells + 40 ≤ cells + 60; omega) (by show slots + 300 ≤ slots + 500; omega) ?_
      exact hnext _ _ H locs ls ⟨hY2, ⟨_, _, hM2⟩, ⟨_, hou⟩, (jv_if hV9 hV)⟩ hS (lv_sub hl [2, 3, 4, 5, 6] rfl)
  · refine lv_iconst (v := 1) hx hb d_LA_law_542 (by decide) ?_
    refine lv_goto (tgt := 547) hx hb d_LA_law_543 (by decide) ?_
    refine lv_aload_n hx hb d_LA_law_547 rfl (lv_at hl 3 rfl) ?_
    obtain ⟨cd9, v9, A9, hcl9, hV9, hC9, hM9⟩ := j_check l hl9 (D := D) (cJ := cJ) (cI := cI) (cZ := cZ) (lo := s.heap.size) (tP := tP) (mo := mo) (xs (i4 + 1)) (xs (i4 + 2)) 1 hY hV
    obtain ⟨fs0, hx0⟩ := hY.ob
    refine z_wh (n_LA_LA_check hx hown hG (by rw [hb]; exact d_LA_law_548)) hb (hl.1.trans hml.symm) (c_LA_check l hl9 (xs (i4 + 1)) (xs (i4 + 2)) 1 hx0 hou hcl9 hC9) (zG2keeps _ _) hG2 hK hS (cw_LA_check hG (by decide) (by decide)) d_LA_law_548 (Nat.le_of_ble_eq_true rfl) (by show cells + 40 ≤ 601024; omega) (by show slots + 300 ≤ 7293034; omega) (fun H locs X1 hS hN1 hE1 => ?_)
    obtain ⟨hY1, hM1, f1, hou, hf1⟩ := ls_o hY hMo hou hN1 hE1
    refine lv_istore (lv' := [(5, .int (nI cd9)), (0, .ref b), (1, .ref x), (2, .ref mo), (3, .ref ou), (4, .int (nI i4))]) hx hb d_LA_law_551 hl (by decide) rfl (fun ls hl => ?_)
    refine lv_aload_n hx hb d_LA_law_553 rfl (lv_at hl 3 rfl) ?_
    refine lv_aload_n hx hb d_LA_law_554 rfl (lv_at hl 1 rfl) ?_
    refine lv_iload hx hb d_LA_law_555 (lv_at hl 5 rfl) ?_
    refine lv_iconst (v := 1) hx hb d_LA_law_557 (by decide) ?_
    refine lv_iadd hx hb d_LA_law_558 ?_
    refine z_sld hx hb hXs hbl hL hS (nI_add i4 1) (show i4 + 1 < L by omega) d_LA_law_559 ?_
    refine lv_aload_n hx hb d_LA_law_560 rfl (lv_at hl 1 rfl) ?_
    refine lv_iload hx hb d_LA_law_561 (lv_at hl 5 rfl) ?_
    refine lv_iconst (v := 2) hx hb d_LA_law_563 (by decide) ?_
    refine lv_iadd hx hb d_LA_law_564 ?_
    refine z_sld hx hb hXs hbl hL hS (nI_add i4 2) (show i4 + 2 < L by omega) d_LA_law_565 ?_
    refine lv_aload_n hx hb d_LA_law_566 rfl (lv_at hl 1 rfl) ?_
    refine lv_iload hx hb d_LA_law_567 (lv_at hl 5 rfl) ?_
    refine lv_iconst (v := 3) hx hb d_LA_law_569 (by decide) ?_
    refine lv_iadd hx hb d_LA_law_570 ?_
    refine z_sld hx hb hXs hbl hL hS (nI_add i4 3) (show i4 + 3 < L by omega) d_LA_law_571 ?_
    refine lv_if_eq (tgt := 579) hx hb d_LA_law_572 (by decide) (fun c_5 => absurd c_5 (c_1)) (fun c_5 => ?_)
    refine lv_iconst (v := 1) hx hb d_LA_law_575 (by decide) ?_
    refine lv_goto (tgt := 580) hx hb d_LA_law_576 (by decide) ?_
    refine z_wMi (n_LA_MO_check hx hown hG (va_recv hK (hS.1.one (MI.ob hM1)) (ci := 3) (q0 := 0) rfl rfl) (by rw [hb]; exact d_LA_law_580)) hb (hl.1.trans hml.symm) (hM9 _ _ _ hM1) (z_Gkeeps _ _) hG hK hS (cw_MO_check hG (by decide) (by decide)) d_LA_law_580 (Nat.le_of_ble_eq_true rfl) (by show cells + 40 ≤ 601024; omega) (by show slots + 300 ≤ 7293034; omega) (fun H locs X2 b9 hS hF2 hM2 hb9 => ?_)
    have hY2 := hY1.fr (by decide) hF2
    have hou := z_ouF (by decide) hF2 hou
    refine lv_istore (lv' := [(6, .int b9), (5, .int (nI cd9)), (0, .ref b), (1, .ref x), (2, .ref mo), (3, .ref ou), (4, .int (nI i4))]) hx hb d_LA_law_583 hl (by decide) rfl (fun ls hl => ?_)
    refine lv_aload_n hx hb d_LA_law_585 rfl (lv_at hl 4 rfl) ?_
    refine z_pi (v := nI cd9) (n_LA_MO_thrown hx hown hG (va_recv hK (hS.1.one (MI.ob hM2)) (ci := 3) (q0 := 0) rfl rfl) (by rw [hb]; exact d_LA_law_586)) hb (hl.1.trans hml.symm) (c_MO_thrown l hl9 hM2) rfl (z_Gkeeps _ _) hG hK hS (cw_MO_thrown hG (by decide) (by decide)) d_LA_law_586 (Nat.le_of_ble_eq_true rfl) (by show cells + 40 ≤ 601024; omega) (by show slots + 300 ≤ 7293034; omega) (fun H hq hS => ?_)
    refine lv_iload hx hb d_LA_law_589 (lv_at hl 1 rfl) ?_
    refine lv_icmp_eq (tgt := 596) hx hb d_LA_law_591 (by decide) (fun c_6 => ?_) (fun c_6 => absurd (rfl) c_6)
    refine lv_iload hx hb d_LA_law_596 (lv_at hl 1 rfl) ?_
    by_cases h0 : cd9 = 0
    · subst h0
      refine lv_if_ne (tgt := 613) hx hb d_LA_law_598 (by decide) (fun c9 => absurd rfl c9) (fun c9 => ?_)
      refine lv_aload_n hx hb d_LA_law_601 rfl (lv_at hl 5 rfl) ?_
      refine lv_iconst (v := 0) hx hb d_LA_law_602 (by decide) ?_
      refine z_lald hx hb hK hS 2 hou rfl z_in01 d_LA_law_603 ?_
      refine lv_iload hx hb d_LA_law_604 (lv_at hl 0 rfl) ?_
      refine lv_i2l (v := b9.toInt64) hx hb d_LA_law_606 rfl ?_
      refine W.lcmp hx hb d_LA_law_607 ?_
      rw [z_cmp_eq (show f1 (0 : Int32).toNatClampNeg = b9.toInt64 from (hf1 rfl).trans (congrArg Int32.toInt64 (hb9 rfl).symm))]
      refine lv_if_eq (tgt := 613) hx hb d_LA_law_608 (by decide) (fun c_7 => ?_) (fun c_7 => absurd (rfl) c_7)
      refine lv_goto (tgt := 1348) hx hb d_LA_law_613 (by decide) ?_
      refine W.widen (k := cells + 60) (n := slots + 500) (by show cells + 40 ≤ cells + 60; omega) (by show slots + 300 ≤ slots + 500; omega) ?_
      exact hnext _ _ H locs ls ⟨hY2, ⟨_, _, hM2⟩, ⟨_, hou⟩, (jv_if hV9 hV)⟩ hS (lv_sub hl [2, 3, 4, 5, 6] rfl)
    · refine lv_if_ne (tgt := 613) hx hb d_LA_law_598 (by decide) (fun c9 => ?_) (fun c9 => absurd c9 (nI_ne0 (by omega) (by omega)))
      refine lv_goto (tgt := 1348) hx hb d_LA_law_613 (by decide) ?_
      refine W.widen (k := cells + 60) (n := slots + 500) (by show cells + 40 ≤ cells + 60; omega) (by show slots + 300 ≤ slots + 500; omega) ?_
      exact hnext _ _ H locs ls ⟨hY2, ⟨_, _, hM2⟩, ⟨_, hou⟩, (jv_if hV9 hV)⟩ hS (lv_sub hl [2, 3, 4, 5, 6] rfl)
set_option maxHeartbeats 4000000 in
set_option maxRecDepth 100000 in
theorem law_grade {p : Program} {e : Env} {s : State} {m : MethodId} {below : List Frame} {meth : Method} {c : Code} {b L : Nat} {xs : Nat → Int32} {D : va_G} {cS cR cJ cI cZ : ClassId} {tP : Nat} (l : Launch) (hl9 : l.stackTraces = false) {x mo ou i4 cells slots : Nat} {A : zA} {X : zM} {H : Heap} {locs : List Loc} {ls : Array Slot} {Q : State → Prop} (hC0 : LX p s m c b L xs D cS cR cJ cI cZ tP) (hi4 : i4 + 4 ≤ L) (hcl : cells + 60 ≤ 601024) (hsl : slots + 500 ≤ 7293034) (hLS : z_LS x mo ou cS cR cJ cI cZ A X) (hS : z_S D cls4 s.heap.size (fun _ => none) s.heap X H locs) (hl : lv_has ls 7 [(0, .ref b), (1, .ref x), (2, .ref mo), (3, .ref ou), (4, .int (nI i4))])
    (hnext : ∀ (A9 : zA) (X9 : zM) (H9 : Heap) (locs9 : List Loc) (ls9 : Array Slot), z_LS x mo ou cS cR cJ cI cZ A9 X9 → z_S D cls4 s.heap.size (fun _ => none) s.heap X9 H9 locs9 → lv_has ls9 7 [(0, .ref b), (1, .ref x), (2, .ref mo), (3, .ref ou), (4, .int (nI i4))] → W p l e room_1 s m #[Value.ref b] below meth c H9 locs9 (cells + 60) (slots + 500) Q (F0 m 1348 ls9 [])) : W p l e room_1 s m #[Value.ref b] below meth c H locs cells slots Q (F0 m 616 ls []) := by
  obtain ⟨hx, hb, hml, hown, hG2, hK, hXs, hbl, hL⟩ := hC0
  have hG := hG2.1
  obtain ⟨hY, ⟨ad, code0, hMo⟩, ⟨f, hou⟩, hV⟩ := hLS
  refine lv_aload_n hx hb d_LA_law_616 rfl (lv_at hl 1 rfl) ?_
  refine lv_aload_n hx hb d_LA_law_617 rfl (lv_at hl 0 rfl) ?_
  refine lv_iload hx hb d_LA_law_618 (lv_at hl 4 rfl) ?_
  refine lv_iconst (v := 1) hx hb d_LA_law_620 (by decide) ?_
  refine lv_iadd hx hb d_LA_law_621 ?_
  refine z_sld hx hb hXs hbl hL hS (nI_add i4 1) (show i4 + 1 < L by omega) d_LA_law_622 ?_
  refine lv_aload_n hx hb d_LA_law_623 rfl (lv_at hl 0 rfl) ?_
  refine lv_iload hx hb d_LA_law_624 (lv_at hl 4 rfl) ?_
  refine lv_iconst (v := 2) hx hb d_LA_law_626 (by decide) ?_
  refine lv_iadd hx hb d_LA_law_627 ?_
  refine z_sld hx hb hXs hbl hL hS (nI_add i4 2) (show i4 + 2 < L by omega) d_LA_law_628 ?_
  refine lv_aload_n hx hb d_LA_law_629 rfl (lv_at hl 3 rfl) ?_
  obtain ⟨cd9, v9, A9, hcl9, hV9, hC9, hM9⟩ := j_grade l hl9 (D := D) (cJ := cJ) (cI := cI) (cZ := cZ) (lo := s.heap.size) (tP := tP) (mo := mo) (xs (i4 + 1)) (xs (i4 + 2)) hY hV
  obtain ⟨fs0, hx0⟩ := hY.ob
  refine z_wh (n_LA_LA_grade hx hown hG (by rw [hb]; exact d_LA_law_630)) hb (hl.1.trans hml.symm) (c_LA_grade l hl9 (xs (i4 + 1)) (xs (i4 + 2)) hx0 hou hcl9 hC9) (zG2keeps _ _) hG2 hK hS (cw_LA_grade hG (by decide) (by decide)) d_LA_law_630 (Nat.le_of_ble_eq_true rfl) (by show cells + 40 ≤ 601024; omega) (by show slots + 300 ≤ 7293034; omega) (fun H locs X1 hS hN1 hE1 => ?_)
  obtain ⟨hY1, hM1, f1, hou, hf1⟩ := ls_o hY hMo hou hN1 hE1
  refine lv_istore (lv' := [(5, .int (nI cd9)), (0, .ref b), (1, .ref x), (2, .ref mo), (3, .ref ou), (4, .int (nI i4))]) hx hb d_LA_law_633 hl (by decide) rfl (fun ls hl => ?_)
  refine lv_aload_n hx hb d_LA_law_635 rfl (lv_at hl 3 rfl) ?_
  refine lv_aload_n hx hb d_LA_law_636 rfl (lv_at hl 1 rfl) ?_
  refine lv_iload hx hb d_LA_law_637 (lv_at hl 5 rfl) ?_
  refine lv_iconst (v := 1) hx hb d_LA_law_639 (by decide) ?_
  refine lv_iadd hx hb d_LA_law_640 ?_
  refine z_sld hx hb hXs hbl hL hS (nI_add i4 1) (show i4 + 1 < L by omega) d_LA_law_641 ?_
  refine lv_aload_n hx hb d_LA_law_642 rfl (lv_at hl 1 rfl) ?_
  refine lv_iload hx hb d_LA_law_643 (lv_at hl 5 rfl) ?_
  refine lv_iconst (v := 2) hx hb d_LA_law_645 (by decide) ?_
  refine lv_iadd hx hb d_LA_law_646 ?_
  refine z_sld hx hb hXs hbl hL hS (nI_add i4 2) (show i4 + 2 < L by omega) d_LA_law_647 ?_
  refine z_wMi (n_LA_MO_grade hx hown hG (va_recv hK (hS.1.one (MI.ob hM1)) (ci := 3) (q0 := 0) rfl rfl) (by rw [hb]; exact d_LA_law_648)) hb (hl.1.trans hml.symm) (hM9 _ _ _ hM1) (z_Gkeeps _ _) hG hK hS (cw_MO_grade hG (by decide) (by decide)) d_LA_law_648 (Nat.le_of_ble_eq_true rfl) (by show cells + 40 ≤ 601024; omega) (by show slots + 300 ≤ 7293034; omega) (fun H locs X2 b9 hS hF2 hM2 hb9 => ?_)
  have hY2 := hY1.fr (by decide) hF2
  have hou := z_ouF (by decide) hF2 hou
  refine lv_istore (lv' := [(6, .int b9), (5, .int (nI cd9)), (0, .ref b), (1, .ref x), (2, .ref mo), (3, .ref ou), (4, .int (nI i4))]) hx hb d_LA_law_651 hl (by decide) rfl (fun ls hl => ?_)
  refine lv_aload_n hx hb d_LA_law_653 rfl (lv_at hl 4 rfl) ?_
  refine z_pi (v := nI cd9) (n_LA_MO_thrown hx hown hG (va_recv hK (hS.1.one (MI.ob hM2)) (ci := 3) (q0 := 0) rfl rfl) (by rw [hb]; exact d_LA_law_654)) hb (hl.1.trans hml.symm) (c_MO_thrown l hl9 hM2) rfl (z_Gkeeps _ _) hG hK hS (cw_MO_thrown hG (by decide) (by decide)) d_LA_law_654 (Nat.le_of_ble_eq_true rfl) (by show cells + 40 ≤ 601024; omega) (by show slots + 300 ≤ 7293034; omega) (fun H hq hS => ?_)
  refine lv_iload hx hb d_LA_law_657 (lv_at hl 1 rfl) ?_
  refine lv_icmp_eq (tgt := 664) hx hb d_LA_law_659 (by decide) (fun c_1 => ?_) (fun c_1 => absurd (rfl) c_1)
  refine lv_iload hx hb d_LA_law_664 (lv_at hl 1 rfl) ?_
  by_cases h0 : cd9 = 0
  · subst h0
    refine lv_if_ne (tgt := 681) hx hb d_LA_law_666 (by decide) (fun c9 => absurd rfl c9) (fun c9 => ?_)
    refine lv_aload_n hx hb d_LA_law_669 rfl (lv_at hl 5 rfl) ?_
    refine lv_iconst (v := 0) hx hb d_LA_law_670 (by decide) ?_
    refine z_lald hx hb hK hS 2 hou rfl z_in01 d_LA_law_671 ?_
    refine lv_iload hx hb d_LA_law_672 (lv_at hl 0 rfl) ?_
    refine lv_i2l (v := b9.toInt64) hx hb d_LA_law_674 rfl ?_
    refine W.lcmp hx hb d_LA_law_675 ?_
    rw [z_cmp_eq (show f1 (0 : Int32).toNatClampNeg = b9.toInt64 from (hf1 rfl).trans (congrArg Int32.toInt64 (hb9 rfl).symm))]
    refine lv_if_eq (tgt := 681) hx hb d_LA_law_676 (by decide) (fun c_2 => ?_) (fun c_2 => absurd (rfl) c_2)
    refine lv_goto (tgt := 1348) hx hb d_LA_law_681 (by decide) ?_
    refine W.widen (k := cells + 60) (n := slots + 500) (by show cells + 40 ≤ cells + 60; omega) (by show slots + 300 ≤ slots + 500; omega) ?_
    exact hnext _ _ H locs ls ⟨hY2, ⟨_, _, hM2⟩, ⟨_, hou⟩, (jv_if hV9 hV)⟩ hS (lv_sub hl [2, 3, 4, 5, 6] rfl)
  · refine lv_if_ne (tgt := 681) hx hb d_LA_law_666 (by decide) (fun c9 => ?_) (fun c9 => absurd c9 (nI_ne0 (by omega) (by omega)))
    refine lv_goto (tgt := 1348) hx hb d_LA_law_681 (by decide) ?_
    refine W.widen (k := cells + 60) (n := slots + 500) (by show cells + 40 ≤ cells + 60; omega) (by show slots + 300 ≤ slots + 500; omega) ?_
    exact hnext _ _ H locs ls ⟨hY2, ⟨_, _, hM2⟩, ⟨_, hou⟩, (jv_if hV9 hV)⟩ hS (lv_sub hl [2, 3, 4, 5, 6] rfl)
set_option maxHeartbeats 4000000 in
set_option maxRecDepth 100000 in
theorem law_repair {p : Program} {e : Env} {s : State} {m : MethodId} {below : List Frame} {meth : Method} {c : Code} {b L : Nat} {xs : Nat → Int32} {D : va_G} {cS cR cJ cI cZ : ClassId} {tP : Nat} (l : Launch) (hl9 : l.stackTraces = false) {x mo ou i4 cells slots : Nat} {A : zA} {X : zM} {H : Heap} {locs : List Loc} {ls : Array Slot} {Q : State → Prop} (hC0 : LX p s m c b L xs D cS cR cJ cI cZ tP) (hi4 : i4 + 4 ≤ L) (hcl : cells + 60 ≤ 601024) (hsl : slots + 500 ≤ 7293034) (hLS : z_LS x mo ou cS cR cJ cI cZ A X) (hS : z_S D cls4 s.heap.size (fun _ => none) s.heap X H locs) (hl : lv_has ls 7 [(0, .ref b), (1, .ref x), (2, .ref mo), (3, .ref ou), (4, .int (nI i4))])
    (hnext : ∀ (A9 : zA) (X9 : zM) (H9 : Heap) (locs9 : List Loc) (ls9 : Array Slot), z_LS x mo ou cS cR cJ cI cZ A9 X9 → z_S D cls4 s.heap.size (fun _ => none) s.heap X9 H9 locs9 → lv_has ls9 7 [(0, .ref b), (1, .ref x), (2, .ref mo), (3, .ref ou), (4, .int (nI i4))] → W p l e room_1 s m #[Value.ref b] below meth c H9 locs9 (cells + 60) (slots + 500) Q (F0 m 1348 ls9 [])) : W p l e room_1 s m #[Value.ref b] below meth c H locs cells slots Q (F0 m 684 ls []) := by
  obtain ⟨hx, hb, hml, hown, hG2, hK, hXs, hbl, hL⟩ := hC0
  have hG := hG2.1
  obtain ⟨hY, ⟨ad, code0, hMo⟩, ⟨f, hou⟩, hV⟩ := hLS
  refine lv_aload_n hx hb d_LA_law_684 rfl (lv_at hl 1 rfl) ?_
  refine lv_aload_n hx hb d_LA_law_685 rfl (lv_at hl 0 rfl) ?_
  refine lv_iload hx hb d_LA_law_686 (lv_at hl 4 rfl) ?_
  refine lv_iconst (v := 1) hx hb d_LA_law_688 (by decide) ?_
  refine lv_iadd hx hb d_LA_law_689 ?_
  refine z_sld hx hb hXs hbl hL hS (nI_add i4 1) (show i4 + 1 < L by omega) d_LA_law_690 ?_
  refine lv_aload_n hx hb d_LA_law_691 rfl (lv_at hl 0 rfl) ?_
  refine lv_iload hx hb d_LA_law_692 (lv_at hl 4 rfl) ?_
  refine lv_iconst (v := 2) hx hb d_LA_law_694 (by decide) ?_
  refine lv_iadd hx hb d_LA_law_695 ?_
  refine z_sld hx hb hXs hbl hL hS (nI_add i4 2) (show i4 + 2 < L by omega) d_LA_law_696 ?_
  obtain ⟨cd9, v9, A9, hcl9, hV9, hC9, hM9⟩ := j_repair l hl9 (D := D) (cJ := cJ) (cI := cI) (cZ := cZ) (lo := s.heap.size) (tP := tP) (mo := mo) (xs (i4 + 1)) (xs (i4 + 2)) hY hV
  obtain ⟨fs0, hx0⟩ := hY.ob
  refine z_wh (n_LA_LA_repair hx hown hG (by rw [hb]; exact d_LA_law_697)) hb (hl.1.trans hml.symm) (c_LA_repair l hl9 (xs (i4 + 1)) (xs (i4 + 2)) hx0 hcl9 hC9) (zG2keeps _ _) hG2 hK hS (cw_LA_repair hG (by decide) (by decide)) d_LA_law_697 (Nat.le_of_ble_eq_true rfl) (by show cells + 40 ≤ 601024; omega) (by show slots + 300 ≤ 7293034; omega) (fun H locs X1 hS hN1 hE1 => ?_)
  obtain ⟨hY1, hM1, hou⟩ := ls_v hY hMo hou hN1 hE1
  refine lv_istore (lv' := [(5, .int (nI cd9)), (0, .ref b), (1, .ref x), (2, .ref mo), (3, .ref ou), (4, .int (nI i4))]) hx hb d_LA_law_700 hl (by decide) rfl (fun ls hl => ?_)
  refine lv_aload_n hx hb d_LA_law_702 rfl (lv_at hl 3 rfl) ?_
  refine lv_aload_n hx hb d_LA_law_703 rfl (lv_at hl 1 rfl) ?_
  refine lv_iload hx hb d_LA_law_704 (lv_at hl 5 rfl) ?_
  refine lv_iconst (v := 1) hx hb d_LA_law_706 (by decide) ?_
  refine lv_iadd hx hb d_LA_law_707 ?_
  refine z_sld hx hb hXs hbl hL hS (nI_add i4 1) (show i4 + 1 < L by omega) d_LA_law_708 ?_
  refine lv_aload_n hx hb d_LA_law_709 rfl (lv_at hl 1 rfl) ?_
  refine lv_iload hx hb d_LA_law_710 (lv_at hl 5 rfl) ?_
  refine lv_iconst (v := 2) hx hb d_LA_law_712 (by decide) ?_
  refine lv_iadd hx hb d_LA_law_713 ?_
  refine z_sld hx hb hXs hbl hL hS (nI_add i4 2) (show i4 + 2 < L by omega) d_LA_law_714 ?_
  refine z_wMv (n_LA_MO_repair hx hown hG (va_recv hK (hS.1.one (MI.ob hM1)) (ci := 3) (q0 := 0) rfl rfl) (by rw [hb]; exact d_LA_law_715)) hb (hl.1.trans hml.symm) (hM9 _ _ _ hM1) (z_Gkeeps _ _) hG hK hS (cw_MO_repair hG (by decide) (by decide)) d_LA_law_715 (Nat.le_of_ble_eq_true rfl) (by show cells + 40 ≤ 601024; omega) (by show slots + 300 ≤ 7293034; omega) (fun H locs X2 hS hF2 hM2 => ?_)
  have hY2 := hY1.fr (by decide) hF2
  have hou := z_ouF (by decide) hF2 hou
  refine lv_aload_n hx hb d_LA_law_718 rfl (lv_at hl 3 rfl) ?_
  refine z_pi (v := nI cd9) (n_LA_MO_thrown hx hown hG (va_recv hK (hS.1.one (MI.ob hM2)) (ci := 3) (q0 := 0) rfl rfl) (by rw [hb]; exact d_LA_law_719)) hb (hl.1.trans hml.symm) (c_MO_thrown l hl9 hM2) rfl (z_Gkeeps _ _) hG hK hS (cw_MO_thrown hG (by decide) (by decide)) d_LA_law_719 (Nat.le_of_ble_eq_true rfl) (by show cells + 40 ≤ 601024; omega) (by show slots + 300 ≤ 7293034; omega) (fun H hq hS => ?_)
  refine lv_iload hx hb d_LA_law_722 (lv_at hl 0 rfl) ?_
  refine lv_icmp_eq (tgt := 729) hx hb d_LA_law_724 (by decide) (fun c_1 => ?_) (fun c_1 => absurd (rfl) c_1)
  refine lv_goto (tgt := 1348) hx hb d_LA_law_729 (by decide) ?_
  refine W.widen (k := cells + 60) (n := slots + 500) (by show cells + 40 ≤ cells + 60; omega) (by show slots + 300 ≤ slots + 500; omega) ?_
  exact hnext _ _ H locs ls ⟨hY2, ⟨_, _, hM2⟩, ⟨_, hou⟩, (jv_if hV9 hV)⟩ hS (lv_sub hl [1, 2, 3, 4, 5] rfl)
set_option maxHeartbeats 4000000 in
set_option maxRecDepth 100000 in
theorem law_step {p : Program} {e : Env} {s : State} {m : MethodId} {below : List Frame} {meth : Method} {c : Code} {b L : Nat} {xs : Nat → Int32} {D : va_G} {cS cR cJ cI cZ : ClassId} {tP : Nat} (l : Launch) (hl9 : l.stackTraces = false) {x mo ou i4 cells slots : Nat} {A : zA} {X : zM} {H : Heap} {locs : List Loc} {ls : Array Slot} {Q : State → Prop} (hC0 : LX p s m c b L xs D cS cR cJ cI cZ tP) (hi4 : i4 + 4 ≤ L) (hcl : cells + 60 ≤ 601024) (hsl : slots + 500 ≤ 7293034) (hLS : z_LS x mo ou cS cR cJ cI cZ A X) (hS : z_S D cls4 s.heap.size (fun _ => none) s.heap X H locs) (hl : lv_has ls 7 [(0, .ref b), (1, .ref x), (2, .ref mo), (3, .ref ou), (4, .int (nI i4))])
    (hnext : ∀ (A9 : zA) (X9 : zM) (H9 : Heap) (locs9 : List Loc) (ls9 : Array Slot), z_LS x mo ou cS cR cJ cI cZ A9 X9 → z_S D cls4 s.heap.size (fun _ => none) s.heap X9 H9 locs9 → lv_has ls9 7 [(0, .ref b), (1, .ref x), (2, .ref mo), (3, .ref ou), (4, .int (nI i4))] → W p l e room_1 s m #[Value.ref b] below meth c H9 locs9 (cells + 60) (slots + 500) Q (F0 m 1348 ls9 [])) : W p l e room_1 s m #[Value.ref b] below meth c H locs cells slots Q (F0 m 732 ls []) := by
  obtain ⟨hx, hb, hml, hown, hG2, hK, hXs, hbl, hL⟩ := hC0
  have hG := hG2.1
  obtain ⟨hY, ⟨ad, code0, hMo⟩, ⟨f, hou⟩, hV⟩ := hLS
  refine lv_aload_n hx hb d_LA_law_732 rfl (lv_at hl 1 rfl) ?_
  refine lv_aload_n hx hb d_LA_law_733 rfl (lv_at hl 0 rfl) ?_
  refine lv_iload hx hb d_LA_law_734 (lv_at hl 4 rfl) ?_
  refine lv_iconst (v := 1) hx hb d_LA_law_736 (by decide) ?_
  refine lv_iadd hx hb d_LA_law_737 ?_
  refine z_sld hx hb hXs hbl hL hS (nI_add i4 1) (show i4 + 1 < L by omega) d_LA_law_738 ?_
  refine lv_aload_n hx hb d_LA_law_739 rfl (lv_at hl 0 rfl) ?_
  refine lv_iload hx hb d_LA_law_740 (lv_at hl 4 rfl) ?_
  refine lv_iconst (v := 2) hx hb d_LA_law_742 (by decide) ?_
  refine lv_iadd hx hb d_LA_law_743 ?_
  refine z_sld hx hb hXs hbl hL hS (nI_add i4 2) (show i4 + 2 < L by omega) d_LA_law_744 ?_
  refine lv_if_eq (tgt := 752) hx hb d_LA_law_745 (by decide) (fun c_1 => ?_) (fun c_1 => ?_)
  · refine lv_iconst (v := 0) hx hb d_LA_law_752 (by decide) ?_
    refine lv_aload_n hx hb d_LA_law_753 rfl (lv_at hl 3 rfl) ?_
    obtain ⟨cd9, v9, A9, hcl9, hV9, hC9, hM9⟩ := j_step l hl9 (D := D) (cJ := cJ) (cI := cI) (cZ := cZ) (lo := s.heap.size) (tP := tP) (mo := mo) (xs (i4 + 1)) 0 hY hV
    obtain ⟨fs0, hx0⟩ := hY.ob
    refine z_wh (n_LA_LA_step hx hown hG (by rw [hb]; exact d_LA_law_754)) hb (hl.1.trans hml.symm) (c_LA_step l hl9 (xs (i4 + 1)) 0 hx0 hou hcl9 hC9) (zG2keeps _ _) hG2 hK hS (cw_LA_step hG (by decide) (by decide)) d_LA_law_754 (Nat.le_of_ble_eq_true rfl) (by show cells + 40 ≤ 601024; omega) (by show slots + 300 ≤ 7293034; omega) (fun H locs X1 hS hN1 hE1 => ?_)
    obtain ⟨hY1, hM1, f1, hou, hf1⟩ := ls_o hY hMo hou hN1 hE1
    refine lv_istore (lv' := [(5, .int (nI cd9)), (0, .ref b), (1, .ref x), (2, .ref mo), (3, .ref ou), (4, .int (nI i4))]) hx hb d_LA_law_757 hl (by decide) rfl (fun ls hl => ?_)
    refine lv_aload_n hx hb d_LA_law_759 rfl (lv_at hl 3 rfl) ?_
    refine lv_aload_n hx hb d_LA_law_760 rfl (lv_at hl 1 rfl) ?_
    refine lv_iload hx hb d_LA_law_761 (lv_at hl 5 rfl) ?_
    refine lv_iconst (v := 1) hx hb d_LA_law_763 (by decide) ?_
    refine lv_iadd hx hb d_LA_law_764 ?_
    refine z_sld hx hb hXs hbl hL hS (nI_add i4 1) (show i4 + 1 < L by omega) d_LA_law_765 ?_
    refine lv_aload_n hx hb d_LA_law_766 rfl (lv_at hl 1 rfl) ?_
    refine lv_iload hx hb d_LA_law_767 (lv_at hl 5 rfl) ?_
    refine lv_iconst (v := 2) hx hb d_LA_law_769 (by decide) ?_
    refine lv_iadd hx hb d_LA_law_770 ?_
    refine z_sld hx hb hXs hbl hL hS (nI_add i4 2) (show i4 + 2 < L by omega) d_LA_law_771 ?_
    refine lv_if_eq (tgt := 779) hx hb d_LA_law_772 (by decide) (fun c_2 => ?_) (fun c_2 => absurd (c_1) c_2)
    refine lv_iconst (v := 0) hx hb d_LA_law_779 (by decide) ?_
    refine z_wMi (n_LA_MO_step hx hown hG (va_recv hK (hS.1.one (MI.ob hM1)) (ci := 3) (q0 := 0) rfl rfl) (by rw [hb]; exact d_LA_law_780)) hb (hl.1.trans hml.symm) (hM9 _ _ _ hM1) (z_Gkeeps _ _) hG hK hS (cw_MO_step hG (by decide) (by decide)) d_LA_law_780 (Nat.le_of_ble_eq_true rfl) (by show cells + 40 ≤ 601024; omega) (by show slots + 300 ≤ 7293034; omega) (fun H locs X2 b9 hS hF2 hM2 hb9 => ?_)
    have hY2 := hY1.fr (by decide) hF2
    have hou := z_ouF (by decide) hF2 hou
    refine lv_istore (lv' := [(6, .int b9), (5, .int (nI cd9)), (0, .ref b), (1, .ref x), (2, .ref mo), (3, .ref ou), (4, .int (nI i4))]) hx hb d_LA_law_783 hl (by decide) rfl (fun ls hl => ?_)
    refine lv_aload_n hx hb d_LA_law_785 rfl (lv_at hl 4 rfl) ?_
    refine z_pi (v := nI cd9) (n_LA_MO_thrown hx hown hG (va_recv hK (hS.1.one (MI.ob hM2)) (ci := 3) (q0 := 0) rfl rfl) (by rw [hb]; exact d_LA_law_786)) hb (hl.1.trans hml.symm) (c_MO_thrown l hl9 hM2) rfl (z_Gkeeps _ _) hG hK hS (cw_MO_thrown hG (by decide) (by decide)) d_LA_law_786 (Nat.le_of_ble_eq_true rfl) (by show cells + 40 ≤ 601024; omega) (by show slots + 300 ≤ 7293034; omega) (fun H hq hS => ?_)
    refine lv_iload hx hb d_LA_law_789 (lv_at hl 1 rfl) ?_
    refine lv_icmp_eq (tgt := 796) hx hb d_LA_law_791 (by decide) (fun c_3 => ?_) (fun c_3 => absurd (rfl) c_3)
    refine lv_iload hx hb d_LA_law_796 (lv_at hl 1 rfl) ?_
    by_cases h0 : cd9 = 0
    · subst h0
      refine lv_if_ne (tgt := 813) hx hb d_LA_law_798 (by decide) (fun c9 => absurd rfl c9) (fun c9 => ?_)
      refine lv_aload_n hx hb d_LA_law_801 rfl (lv_at hl 5 rfl) ?_
      refine lv_iconst (v := 0) hx hb d_LA_law_802 (by decide) ?_
      refine z_lald hx hb hK hS 2 hou rfl z_in01 d_LA_law_803 ?_
      refine lv_iload hx hb d_LA_law_804 (lv_at hl 0 rfl) ?_
      refine lv_i2l (v := b9.toInt64) hx hb d_LA_law_806 rfl ?_
      refine W.lcmp hx hb d_LA_law_807 ?_
      rw [z_cmp_eq (show f1 (0 : Int32).toNatClampNeg = b9.toInt64 from (hf1 rfl).trans (congrArg Int32.toInt64 (hb9 rfl).symm))]
      refine lv_if_eq (tgt := 813) hx hb d_LA_law_808 (by decide) (fun c_4 => ?_) (fun c_4 => absurd (rfl) c_4)
      refine lv_goto (tgt := 1348) hx hb d_LA_law_813 (by decide) ?_
      refine W.widen (k := cells + 60) (n := slots + 500) (by show cells + 40 ≤ cells + 60; omega) (by show slots + 300 ≤ slots + 500; omega) ?_
      exact hnext _ _ H locs ls ⟨hY2, ⟨_, _, hM2⟩, ⟨_, hou⟩, (jv_if hV9 hV)⟩ hS (lv_sub hl [2, 3, 4, 5, 6] rfl)
    · refine lv_if_ne (tgt := 813) hx hb d_LA_law_798 (by decide) (fun c9 => ?_) (fun c9 => absurd c9 (nI_ne0 (by omega) (by omega)))
      refine lv_goto (tgt := 1348) hx hb d_LA_law_813 (by decide) ?_
      refine W.widen (k := cells + 60) (n := slots + 500) (by show cells + 40 ≤ cells + 60; omega) (by show slots + 300 ≤ slots + 500; omega) ?_
      exact hnext _ _ H locs ls ⟨hY2, ⟨_, _, hM2⟩, ⟨_, hou⟩, (jv_if hV9 hV)⟩ hS (lv_sub hl [2, 3, 4, 5, 6] rfl)
  · refine lv_iconst (v := 1) hx hb d_LA_law_748 (by decide) ?_
    refine lv_goto (tgt := 753) hx hb d_LA_law_749 (by decide) ?_
    refine lv_aload_n hx hb d_LA_law_753 rfl (lv_at hl 3 rfl) ?_
    obtain ⟨cd9, v9, A9, hcl9, hV9, hC9, hM9⟩ := j_step l hl9 (D := D) (cJ := cJ) (cI := cI) (cZ := cZ) (lo := s.heap.size) (tP := tP) (mo := mo) (xs (i4 + 1)) 1 hY hV
    obtain ⟨fs0, hx0⟩ := hY.ob
    refine z_wh (n_LA_LA_step hx hown hG (by rw [hb]; exact d_LA_law_754)) hb (hl.1.trans hml.symm) (c_LA_step l hl9 (xs (i4 + 1)) 1 hx0 hou hcl9 hC9) (zG2keeps _ _) hG2 hK hS (cw_LA_step hG (by decide) (by decide)) d_LA_law_754 (Nat.le_of_ble_eq_true rfl) (by show cells + 40 ≤ 601024; omega) (by show slots + 300 ≤ 7293034; omega) (fun H locs X1 hS hN1 hE1 => ?_)
    obtain ⟨hY1, hM1, f1, hou, hf1⟩ := ls_o hY hMo hou hN1 hE1
    refine lv_istore (lv' := [(5, .int (nI cd9)), (0, .ref b), (1, .ref x), (2, .ref mo), (3, .ref ou), (4, .int (nI i4))]) hx hb d_LA_law_757 hl (by decide) rfl (fun ls hl => ?_)
    refine lv_aload_n hx hb d_LA_law_759 rfl (lv_at hl 3 rfl) ?_
    refine lv_aload_n hx hb d_LA_law_760 rfl (lv_at hl 1 rfl) ?_
    refine lv_iload hx hb d_LA_law_761 (lv_at hl 5 rfl) ?_
    refine lv_iconst (v := 1) hx hb d_LA_law_763 (by decide) ?_
    refine lv_iadd hx hb d_LA_law_764 ?_
    refine z_sld hx hb hXs hbl hL hS (nI_add i4 1) (show i4 + 1 < L by omega) d_LA_law_765 ?_
    refine lv_aload_n hx hb d_LA_law_766 rfl (lv_at hl 1 rfl) ?_
    refine lv_iload hx hb d_LA_law_767 (lv_at hl 5 rfl) ?_
    refine lv_iconst (v := 2) hx hb d_LA_law_769 (by decide) ?_
    refine lv_iadd hx hb d_LA_law_770 ?_
    refine z_sld hx hb hXs hbl hL hS (nI_add i4 2) (show i4 + 2 < L by omega) d_LA_law_771 ?_
    refine lv_if_eq (tgt := 779) hx hb d_LA_law_772 (by decide) (fun c_5 => absurd c_5 (c_1)) (fun c_5 => ?_)
    refine lv_iconst (v := 1) hx hb d_LA_law_775 (by decide) ?_
    refine lv_goto (tgt := 780) hx hb d_LA_law_776 (by decide) ?_
    refine z_wMi (n_LA_MO_step hx hown hG (va_recv hK (hS.1.one (MI.ob hM1)) (ci := 3) (q0 := 0) rfl rfl) (by rw [hb]; exact d_LA_law_780)) hb (hl.1.trans hml.symm) (hM9 _ _ _ hM1) (z_Gkeeps _ _) hG hK hS (cw_MO_step hG (by decide) (by decide)) d_LA_law_780 (Nat.le_of_ble_eq_true rfl) (by show cells + 40 ≤ 601024; omega) (by show slots + 300 ≤ 7293034; omega) (fun H locs X2 b9 hS hF2 hM2 hb9 => ?_)
    have hY2 := hY1.fr (by decide) hF2
    have hou := z_ouF (by decide) hF2 hou
    refine lv_istore (lv' := [(6, .int b9), (5, .int (nI cd9)), (0, .ref b), (1, .ref x), (2, .ref mo), (3, .ref ou), (4, .int (nI i4))]) hx hb d_LA_law_783 hl (by decide) rfl (fun ls hl => ?_)
    refine lv_aload_n hx hb d_LA_law_785 rfl (lv_at hl 4 rfl) ?_
    refine z_pi (v := nI cd9) (n_LA_MO_thrown hx hown hG (va_recv hK (hS.1.one (MI.ob hM2)) (ci := 3) (q0 := 0) rfl rfl) (by rw [hb]; exact d_LA_law_786)) hb (hl.1.trans hml.symm) (c_MO_thrown l hl9 hM2) rfl (z_Gkeeps _ _) hG hK hS (cw_MO_thrown hG (by decide) (by decide)) d_LA_law_786 (Nat.le_of_ble_eq_true rfl) (by show cells + 40 ≤ 601024; omega) (by show slots + 300 ≤ 7293034; omega) (fun H hq hS => ?_)
    refine lv_iload hx hb d_LA_law_789 (lv_at hl 1 rfl) ?_
    refine lv_icmp_eq (tgt := 796) hx hb d_LA_law_791 (by decide) (fun c_6 => ?_) (fun c_6 => absurd (rfl) c_6)
    refine lv_iload hx hb d_LA_law_796 (lv_at hl 1 rfl) ?_
    by_cases h0 : cd9 = 0
    · subst h0
      refine lv_if_ne (tgt := 813) hx hb d_LA_law_798 (by decide) (fun c9 => absurd rfl c9) (fun c9 => ?_)
      refine lv_aload_n hx hb d_LA_law_801 rfl (lv_at hl 5 rfl) ?_
      refine lv_iconst (v := 0) hx hb d_LA_law_802 (by decide) ?_
      refine z_lald hx hb hK hS 2 hou rfl z_in01 d_LA_law_803 ?_
      refine lv_iload hx hb d_LA_law_804 (lv_at hl 0 rfl) ?_
      refine lv_i2l (v := b9.toInt64) hx hb d_LA_law_806 rfl ?_
      refine W.lcmp hx hb d_LA_law_807 ?_
      rw [z_cmp_eq (show f1 (0 : Int32).toNatClampNeg = b9.toInt64 from (hf1 rfl).trans (congrArg Int32.toInt64 (hb9 rfl).symm))]
      refine lv_if_eq (tgt := 813) hx hb d_LA_law_808 (by decide) (fun c_7 => ?_) (fun c_7 => absurd (rfl) c_7)
      refine lv_goto (tgt := 1348) hx hb d_LA_law_813 (by decide) ?_
      refine W.widen (k := cells + 60) (n := slots + 500) (by show cells + 40 ≤ cells + 60; omega) (by show slots + 300 ≤ slots + 500; omega) ?_
      exact hnext _ _ H locs ls ⟨hY2, ⟨_, _, hM2⟩, ⟨_, hou⟩, (jv_if hV9 hV)⟩ hS (lv_sub hl [2, 3, 4, 5, 6] rfl)
    · refine lv_if_ne (tgt := 813) hx hb d_LA_law_798 (by decide) (fun c9 => ?_) (fun c9 => absurd c9 (nI_ne0 (by omega) (by omega)))
      refine lv_goto (tgt := 1348) hx hb d_LA_law_813 (by decide) ?_
      refine W.widen (k := cells + 60) (n := slots + 500) (by show cells + 40 ≤ cells + 60; omega) (by show slots + 300 ≤ slots + 500; omega) ?_
      exact hnext _ _ H locs ls ⟨hY2, ⟨_, _, hM2⟩, ⟨_, hou⟩, (jv_if hV9 hV)⟩ hS (lv_sub hl [2, 3, 4, 5, 6] rfl)
set_option maxHeartbeats 4000000 in
set_option maxRecDepth 100000 in
theorem law_scrap {p : Program} {e : Env} {s : State} {m : MethodId} {below : List Frame} {meth : Method} {c : Code} {b L : Nat} {xs : Nat → Int32} {D : va_G} {cS cR cJ cI cZ : ClassId} {tP : Nat} (l : Launch) (hl9 : l.stackTraces = false) {x mo ou i4 cells slots : Nat} {A : zA} {X : zM} {H : Heap} {locs : List Loc} {ls : Array Slot} {Q : State → Prop} (hC0 : LX p s m c b L xs D cS cR cJ cI cZ tP) (hi4 : i4 + 4 ≤ L) (hcl : cells + 60 ≤ 601024) (hsl : slots + 500 ≤ 7293034) (hLS : z_LS x mo ou cS cR cJ cI cZ A X) (hS : z_S D cls4 s.heap.size (fun _ => none) s.heap X H locs) (hl : lv_has ls 7 [(0, .ref b), (1, .ref x), (2, .ref mo), (3, .ref ou), (4, .int (nI i4))])
    (hnext : ∀ (A9 : zA) (X9 : zM) (H9 : Heap) (locs9 : List Loc) (ls9 : Array Slot), z_LS x mo ou cS cR cJ cI cZ A9 X9 → z_S D cls4 s.heap.size (fun _ => none) s.heap X9 H9 locs9 → lv_has ls9 7 [(0, .ref b), (1, .ref x), (2, .ref mo), (3, .ref ou), (4, .int (nI i4))] → W p l e room_1 s m #[Value.ref b] below meth c H9 locs9 (cells + 60) (slots + 500) Q (F0 m 1348 ls9 [])) : W p l e room_1 s m #[Value.ref b] below meth c H locs cells slots Q (F0 m 816 ls []) := by
  obtain ⟨hx, hb, hml, hown, hG2, hK, hXs, hbl, hL⟩ := hC0
  have hG := hG2.1
  obtain ⟨hY, ⟨ad, code0, hMo⟩, ⟨f, hou⟩, hV⟩ := hLS
  refine lv_aload_n hx hb d_LA_law_816 rfl (lv_at hl 1 rfl) ?_
  refine lv_aload_n hx hb d_LA_law_817 rfl (lv_at hl 0 rfl) ?_
  refine lv_iload hx hb d_LA_law_818 (lv_at hl 4 rfl) ?_
  refine lv_iconst (v := 1) hx hb d_LA_law_820 (by decide) ?_
  refine lv_iadd hx hb d_LA_law_821 ?_
  refine z_sld hx hb hXs hbl hL hS (nI_add i4 1) (show i4 + 1 < L by omega) d_LA_law_822 ?_
  refine lv_aload_n hx hb d_LA_law_823 rfl (lv_at hl 0 rfl) ?_
  refine lv_iload hx hb d_LA_law_824 (lv_at hl 4 rfl) ?_
  refine lv_iconst (v := 2) hx hb d_LA_law_826 (by decide) ?_
  refine lv_iadd hx hb d_LA_law_827 ?_
  refine z_sld hx hb hXs hbl hL hS (nI_add i4 2) (show i4 + 2 < L by omega) d_LA_law_828 ?_
  refine lv_aload_n hx hb d_LA_law_829 rfl (lv_at hl 3 rfl) ?_
  obtain ⟨cd9, v9, A9, hcl9, hV9, hv01, hC9, hM9⟩ := j_scrap l hl9 (D := D) (cJ := cJ) (cI := cI) (cZ := cZ) (lo := s.heap.size) (tP := tP) (mo := mo) (xs (i4 + 1)) (xs (i4 + 2)) hY hV
  obtain ⟨fs0, hx0⟩ := hY.ob
  refine z_wh (n_LA_LA_scrap hx hown hG (by rw [hb]; exact d_LA_law_830)) hb (hl.1.trans hml.symm) (c_LA_scrap l hl9 (xs (i4 + 1)) (xs (i4 + 2)) hx0 hou hcl9 hC9 hv01) (zG2keeps _ _) hG2 hK hS (cw_LA_scrap hG (by decide) (by decide)) d_LA_law_830 (Nat.le_of_ble_eq_true rfl) (by show cells + 40 ≤ 601024; omega) (by show slots + 300 ≤ 7293034; omega) (fun H locs X1 hS hN1 hE1 => ?_)
  obtain ⟨hY1, hM1, f1, hou, hf1⟩ := ls_o hY hMo hou hN1 hE1
  refine lv_istore (lv' := [(5, .int (nI cd9)), (0, .ref b), (1, .ref x), (2, .ref mo), (3, .ref ou), (4, .int (nI i4))]) hx hb d_LA_law_833 hl (by decide) rfl (fun ls hl => ?_)
  refine lv_aload_n hx hb d_LA_law_835 rfl (lv_at hl 3 rfl) ?_
  refine lv_aload_n hx hb d_LA_law_836 rfl (lv_at hl 1 rfl) ?_
  refine lv_iload hx hb d_LA_law_837 (lv_at hl 5 rfl) ?_
  refine lv_iconst (v := 1) hx hb d_LA_law_839 (by decide) ?_
  refine lv_iadd hx hb d_LA_law_840 ?_
  refine z_sld hx hb hXs hbl hL hS (nI_add i4 1) (show i4 + 1 < L by omega) d_LA_law_841 ?_
  refine lv_aload_n hx hb d_LA_law_842 rfl (lv_at hl 1 rfl) ?_
  refine lv_iload hx hb d_LA_law_843 (lv_at hl 5 rfl) ?_
  refine lv_iconst (v := 2) hx hb d_LA_law_845 (by decide) ?_
  refine lv_iadd hx hb d_LA_law_846 ?_
  refine z_sld hx hb hXs hbl hL hS (nI_add i4 2) (show i4 + 2 < L by omega) d_LA_law_847 ?_
  refine z_wMi (n_LA_MO_scrap hx hown hG (va_recv hK (hS.1.one (MI.ob hM1)) (ci := 3) (q0 := 0) rfl rfl) (by rw [hb]; exact d_LA_law_848)) hb (hl.1.trans hml.symm) (hM9 _ _ _ hM1) (z_Gkeeps _ _) hG hK hS (cw_MO_scrap hG (by decide) (by decide)) d_LA_law_848 (Nat.le_of_ble_eq_true rfl) (by show cells + 40 ≤ 601024; omega) (by show slots + 300 ≤ 7293034; omega) (fun H locs X2 b9 hS hF2 hM2 hb9 => ?_)
  have hY2 := hY1.fr (by decide) hF2
  have hou := z_ouF (by decide) hF2 hou
  refine lv_istore (lv' := [(6, .int b9), (5, .int (nI cd9)), (0, .ref b), (1, .ref x), (2, .ref mo), (3, .ref ou), (4, .int (nI i4))]) hx hb d_LA_law_851 hl (by decide) rfl (fun ls hl => ?_)
  refine lv_aload_n hx hb d_LA_law_853 rfl (lv_at hl 4 rfl) ?_
  refine z_pi (v := nI cd9) (n_LA_MO_thrown hx hown hG (va_recv hK (hS.1.one (MI.ob hM2)) (ci := 3) (q0 := 0) rfl rfl) (by rw [hb]; exact d_LA_law_854)) hb (hl.1.trans hml.symm) (c_MO_thrown l hl9 hM2) rfl (z_Gkeeps _ _) hG hK hS (cw_MO_thrown hG (by decide) (by decide)) d_LA_law_854 (Nat.le_of_ble_eq_true rfl) (by show cells + 40 ≤ 601024; omega) (by show slots + 300 ≤ 7293034; omega) (fun H hq hS => ?_)
  refine lv_iload hx hb d_LA_law_857 (lv_at hl 1 rfl) ?_
  refine lv_icmp_eq (tgt := 864) hx hb d_LA_law_859 (by decide) (fun c_1 => ?_) (fun c_1 => absurd (rfl) c_1)
  refine lv_iload hx hb d_LA_law_864 (lv_at hl 1 rfl) ?_
  by_cases h0 : cd9 = 0
  · subst h0
    refine lv_if_ne (tgt := 888) hx hb d_LA_law_866 (by decide) (fun c9 => absurd rfl c9) (fun c9 => ?_)
    refine lv_aload_n hx hb d_LA_law_869 rfl (lv_at hl 5 rfl) ?_
    refine lv_iconst (v := 0) hx hb d_LA_law_870 (by decide) ?_
    refine z_lald hx hb hK hS 2 hou rfl z_in01 d_LA_law_871 ?_
    refine lv_iload hx hb d_LA_law_872 (lv_at hl 0 rfl) ?_
    refine lv_if_eq (tgt := 881) hx hb d_LA_law_874 (by decide) (fun c_2 => ?_) (fun c_2 => ?_)
    · refine lv_lconst (v := 0) hx hb d_LA_law_881 (by decide) ?_
      refine W.lcmp hx hb d_LA_law_882 ?_
      rw [z_cmp_eq (show f1 (0 : Int32).toNatClampNeg = 0 from (hf1 rfl).trans ((z_lb hv01 (hb9 rfl)).1 c_2))]
      refine lv_if_eq (tgt := 888) hx hb d_LA_law_883 (by decide) (fun c_3 => ?_) (fun c_3 => absurd (rfl) c_3)
      refine lv_goto (tgt := 1348) hx hb d_LA_law_888 (by decide) ?_
      refine W.widen (k := cells + 60) (n := slots + 500) (by show cells + 40 ≤ cells + 60; omega) (by show slots + 300 ≤ slots + 500; omega) ?_
      exact hnext _ _ H locs ls ⟨hY2, ⟨_, _, hM2⟩, ⟨_, hou⟩, (jv_if hV9 hV)⟩ hS (lv_sub hl [2, 3, 4, 5, 6] rfl)
    · refine lv_lconst (v := 1) hx hb d_LA_law_877 (by decide) ?_
      refine lv_goto (tgt := 882) hx hb d_LA_law_878 (by decide) ?_
      refine W.lcmp hx hb d_LA_law_882 ?_
      rw [z_cmp_eq (show f1 (0 : Int32).toNatClampNeg = 1 from (hf1 rfl).trans ((z_lb hv01 (hb9 rfl)).2 c_2))]
      refine lv_if_eq (tgt := 888) hx hb d_LA_law_883 (by decide) (fun c_4 => ?_) (fun c_4 => absurd (rfl) c_4)
      refine lv_goto (tgt := 1348) hx hb d_LA_law_888 (by decide) ?_
      refine W.widen (k := cells + 60) (n := slots + 500) (by show cells + 40 ≤ cells + 60; omega) (by show slots + 300 ≤ slots + 500; omega) ?_
      exact hnext _ _ H locs ls ⟨hY2, ⟨_, _, hM2⟩, ⟨_, hou⟩, (jv_if hV9 hV)⟩ hS (lv_sub hl [2, 3, 4, 5, 6] rfl)
  · refine lv_if_ne (tgt := 888) hx hb d_LA_law_866 (by decide) (fun c9 => ?_) (fun c9 => absurd c9 (nI_ne0 (by omega) (by omega)))
    refine lv_goto (tgt := 1348) hx hb d_LA_law_888 (by decide) ?_
    refine W.widen (k := cells + 60) (n := slots + 500) (by show cells + 40 ≤ cells + 60; omega) (by show slots + 300 ≤ slots + 500; omega) ?_
    exact hnext _ _ H locs ls ⟨hY2, ⟨_, _, hM2⟩, ⟨_, hou⟩, (jv_if hV9 hV)⟩ hS (lv_sub hl [2, 3, 4, 5, 6] rfl)
set_option maxHeartbeats 4000000 in
set_option maxRecDepth 100000 in
theorem law_back {p : Program} {e : Env} {s : State} {m : MethodId} {below : List Frame} {meth : Method} {c : Code} {b L : Nat} {xs : Nat → Int32} {D : va_G} {cS cR cJ cI cZ : ClassId} {tP : Nat} (l : Launch) (hl9 : l.stackTraces = false) {x mo ou i4 cells slots : Nat} {A : zA} {X : zM} {H : Heap} {locs : List Loc} {ls : Array Slot} {Q : State → Prop} (hC0 : LX p s m c b L xs D cS cR cJ cI cZ tP) (hi4 : i4 + 4 ≤ L) (hcl : cells + 60 ≤ 601024) (hsl : slots + 500 ≤ 7293034) (hLS : z_LS x mo ou cS cR cJ cI cZ A X) (hS : z_S D cls4 s.heap.size (fun _ => none) s.heap X H locs) (hl : lv_has ls 7 [(0, .ref b), (1, .ref x), (2, .ref mo), (3, .ref ou), (4, .int (nI i4))])
    (hnext : ∀ (A9 : zA) (X9 : zM) (H9 : Heap) (locs9 : List Loc) (ls9 : Array Slot), z_LS x mo ou cS cR cJ cI cZ A9 X9 → z_S D cls4 s.heap.size (fun _ => none) s.heap X9 H9 locs9 → lv_has ls9 7 [(0, .ref b), (1, .ref x), (2, .ref mo), (3, .ref ou), (4, .int (nI i4))] → W p l e room_1 s m #[Value.ref b] below meth c H9 locs9 (cells + 60) (slots + 500) Q (F0 m 1348 ls9 [])) : W p l e room_1 s m #[Value.ref b] below meth c H locs cells slots Q (F0 m 891 ls []) := by
  obtain ⟨hx, hb, hml, hown, hG2, hK, hXs, hbl, hL⟩ := hC0
  have hG := hG2.1
  obtain ⟨hY, ⟨ad, code0, hMo⟩, ⟨f, hou⟩, hV⟩ := hLS
  refine lv_aload_n hx hb d_LA_law_891 rfl (lv_at hl 1 rfl) ?_
  refine lv_aload_n hx hb d_LA_law_892 rfl (lv_at hl 0 rfl) ?_
  refine lv_iload hx hb d_LA_law_893 (lv_at hl 4 rfl) ?_
  refine lv_iconst (v := 1) hx hb d_LA_law_895 (by decide) ?_
  refine lv_iadd hx hb d_LA_law_896 ?_
  refine z_sld hx hb hXs hbl hL hS (nI_add i4 1) (show i4 + 1 < L by omega) d_LA_law_897 ?_
  refine lv_aload_n hx hb d_LA_law_898 rfl (lv_at hl 3 rfl) ?_
  obtain ⟨cd9, v9, A9, hcl9, hV9, hC9, hM9⟩ := j_back l hl9 (D := D) (cJ := cJ) (cI := cI) (cZ := cZ) (lo := s.heap.size) (tP := tP) (mo := mo) (xs (i4 + 1)) hY hV
  obtain ⟨fs0, hx0⟩ := hY.ob
  refine z_wh (n_LA_LA_back hx hown hG (by rw [hb]; exact d_LA_law_899)) hb (hl.1.trans hml.symm) (c_LA_back l hl9 (xs (i4 + 1)) hx0 hou hcl9 hC9) (zG2keeps _ _) hG2 hK hS (cw_LA_back hG (by decide) (by decide)) d_LA_law_899 (Nat.le_of_ble_eq_true rfl) (by show cells + 40 ≤ 601024; omega) (by show slots + 300 ≤ 7293034; omega) (fun H locs X1 hS hN1 hE1 => ?_)
  obtain ⟨hY1, hM1, f1, hou, hf1⟩ := ls_o hY hMo hou hN1 hE1
  refine lv_istore (lv' := [(5, .int (nI cd9)), (0, .ref b), (1, .ref x), (2, .ref mo), (3, .ref ou), (4, .int (nI i4))]) hx hb d_LA_law_902 hl (by decide) rfl (fun ls hl => ?_)
  refine lv_aload_n hx hb d_LA_law_904 rfl (lv_at hl 3 rfl) ?_
  refine lv_aload_n hx hb d_LA_law_905 rfl (lv_at hl 1 rfl) ?_
  refine lv_iload hx hb d_LA_law_906 (lv_at hl 5 rfl) ?_
  refine lv_iconst (v := 1) hx hb d_LA_law_908 (by decide) ?_
  refine lv_iadd hx hb d_LA_law_909 ?_
  refine z_sld hx hb hXs hbl hL hS (nI_add i4 1) (show i4 + 1 < L by omega) d_LA_law_910 ?_
  refine z_wMi (n_LA_MO_back hx hown hG (va_recv hK (hS.1.one (MI.ob hM1)) (ci := 3) (q0 := 0) rfl rfl) (by rw [hb]; exact d_LA_law_911)) hb (hl.1.trans hml.symm) (hM9 _ _ _ hM1) (z_Gkeeps _ _) hG hK hS (cw_MO_back hG (by decide) (by decide)) d_LA_law_911 (Nat.le_of_ble_eq_true rfl) (by show cells + 40 ≤ 601024; omega) (by show slots + 300 ≤ 7293034; omega) (fun H locs X2 b9 hS hF2 hM2 hb9 => ?_)
  have hY2 := hY1.fr (by decide) hF2
  have hou := z_ouF (by decide) hF2 hou
  refine lv_istore (lv' := [(6, .int b9), (5, .int (nI cd9)), (0, .ref b), (1, .ref x), (2, .ref mo), (3, .ref ou), (4, .int (nI i4))]) hx hb d_LA_law_914 hl (by decide) rfl (fun ls hl => ?_)
  refine lv_aload_n hx hb d_LA_law_916 rfl (lv_at hl 4 rfl) ?_
  refine z_pi (v := nI cd9) (n_LA_MO_thrown hx hown hG (va_recv hK (hS.1.one (MI.ob hM2)) (ci := 3) (q0 := 0) rfl rfl) (by rw [hb]; exact d_LA_law_917)) hb (hl.1.trans hml.symm) (c_MO_thrown l hl9 hM2) rfl (z_Gkeeps _ _) hG hK hS (cw_MO_thrown hG (by decide) (by decide)) d_LA_law_917 (Nat.le_of_ble_eq_true rfl) (by show cells + 40 ≤ 601024; omega) (by show slots + 300 ≤ 7293034; omega) (fun H hq hS => ?_)
  refine lv_iload hx hb d_LA_law_920 (lv_at hl 1 rfl) ?_
  refine lv_icmp_eq (tgt := 927) hx hb d_LA_law_922 (by decide) (fun c_1 => ?_) (fun c_1 => absurd (rfl) c_1)
  refine lv_iload hx hb d_LA_law_927 (lv_at hl 1 rfl) ?_
  by_cases h0 : cd9 = 0
  · subst h0
    refine lv_if_ne (tgt := 944) hx hb d_LA_law_929 (by decide) (fun c9 => absurd rfl c9) (fun c9 => ?_)
    refine lv_aload_n hx hb d_LA_law_932 rfl (lv_at hl 5 rfl) ?_
    refine lv_iconst (v := 0) hx hb d_LA_law_933 (by decide) ?_
    refine z_lald hx hb hK hS 2 hou rfl z_in01 d_LA_law_934 ?_
    refine lv_iload hx hb d_LA_law_935 (lv_at hl 0 rfl) ?_
    refine lv_i2l (v := b9.toInt64) hx hb d_LA_law_937 rfl ?_
    refine W.lcmp hx hb d_LA_law_938 ?_
    rw [z_cmp_eq (show f1 (0 : Int32).toNatClampNeg = b9.toInt64 from (hf1 rfl).trans (congrArg Int32.toInt64 (hb9 rfl).symm))]
    refine lv_if_eq (tgt := 944) hx hb d_LA_law_939 (by decide) (fun c_2 => ?_) (fun c_2 => absurd (rfl) c_2)
    refine lv_goto (tgt := 1348) hx hb d_LA_law_944 (by decide) ?_
    refine W.widen (k := cells + 60) (n := slots + 500) (by show cells + 40 ≤ cells + 60; omega) (by show slots + 300 ≤ slots + 500; omega) ?_
    exact hnext _ _ H locs ls ⟨hY2, ⟨_, _, hM2⟩, ⟨_, hou⟩, (jv_if hV9 hV)⟩ hS (lv_sub hl [2, 3, 4, 5, 6] rfl)
  · refine lv_if_ne (tgt := 944) hx hb d_LA_law_929 (by decide) (fun c9 => ?_) (fun c9 => absurd c9 (nI_ne0 (by omega) (by omega)))
    refine lv_goto (tgt := 1348) hx hb d_LA_law_944 (by decide) ?_
    refine W.widen (k := cells + 60) (n := slots + 500) (by show cells + 40 ≤ cells + 60; omega) (by show slots + 300 ≤ slots + 500; omega) ?_
    exact hnext _ _ H locs ls ⟨hY2, ⟨_, _, hM2⟩, ⟨_, hou⟩, (jv_if hV9 hV)⟩ hS (lv_sub hl [2, 3, 4, 5, 6] rfl)
set_option maxHeartbeats 4000000 in
set_option maxRecDepth 100000 in
theorem law_missing {p : Program} {e : Env} {s : State} {m : MethodId} {below : List Frame} {meth : Method} {c : Code} {b L : Nat} {xs : Nat → Int32} {D : va_G} {cS cR cJ cI cZ : ClassId} {tP : Nat} (l : Launch) (hl9 : l.stackTraces = false) {x mo ou i4 cells slots : Nat} {A : zA} {X : zM} {H : Heap} {locs : List Loc} {ls : Array Slot} {Q : State → Prop} (hC0 : LX p s m c b L xs D cS cR cJ cI cZ tP) (hi4 : i4 + 4 ≤ L) (hcl : cells + 60 ≤ 601024) (hsl : slots + 500 ≤ 7293034) (hLS : z_LS x mo ou cS cR cJ cI cZ A X) (hS : z_S D cls4 s.heap.size (fun _ => none) s.heap X H locs) (hl : lv_has ls 7 [(0, .ref b), (1, .ref x), (2, .ref mo), (3, .ref ou), (4, .int (nI i4))])
    (hnext : ∀ (A9 : zA) (X9 : zM) (H9 : Heap) (locs9 : List Loc) (ls9 : Array Slot), z_LS x mo ou cS cR cJ cI cZ A9 X9 → z_S D cls4 s.heap.size (fun _ => none) s.heap X9 H9 locs9 → lv_has ls9 7 [(0, .ref b), (1, .ref x), (2, .ref mo), (3, .ref ou), (4, .int (nI i4))] → W p l e room_1 s m #[Value.ref b] below meth c H9 locs9 (cells + 60) (slots + 500) Q (F0 m 1348 ls9 [])) : W p l e room_1 s m #[Value.ref b] below meth c H locs cells slots Q (F0 m 947 ls []) := by
  obtain ⟨hx, hb, hml, hown, hG2, hK, hXs, hbl, hL⟩ := hC0
  have hG := hG2.1
  obtain ⟨hY, ⟨ad, code0, hMo⟩, ⟨f, hou⟩, hV⟩ := hLS
  refine lv_aload_n hx hb d_LA_law_947 rfl (lv_at hl 1 rfl) ?_
  refine lv_aload_n hx hb d_LA_law_948 rfl (lv_at hl 0 rfl) ?_
  refine lv_iload hx hb d_LA_law_949 (lv_at hl 4 rfl) ?_
  refine lv_iconst (v := 1) hx hb d_LA_law_951 (by decide) ?_
  refine lv_iadd hx hb d_LA_law_952 ?_
  refine z_sld hx hb hXs hbl hL hS (nI_add i4 1) (show i4 + 1 < L by omega) d_LA_law_953 ?_
  refine lv_aload_n hx hb d_LA_law_954 rfl (lv_at hl 0 rfl) ?_
  refine lv_iload hx hb d_LA_law_955 (lv_at hl 4 rfl) ?_
  refine lv_iconst (v := 2) hx hb d_LA_law_957 (by decide) ?_
  refine lv_iadd hx hb d_LA_law_958 ?_
  refine z_sld hx hb hXs hbl hL hS (nI_add i4 2) (show i4 + 2 < L by omega) d_LA_law_959 ?_
  obtain ⟨cd9, v9, A9, hcl9, hV9, hC9, hM9⟩ := j_missing l hl9 (D := D) (cJ := cJ) (cI := cI) (cZ := cZ) (lo := s.heap.size) (tP := tP) (mo := mo) (xs (i4 + 1)) (xs (i4 + 2)) hY hV
  obtain ⟨fs0, hx0⟩ := hY.ob
  refine z_wh (n_LA_LA_missing hx hown hG (by rw [hb]; exact d_LA_law_960)) hb (hl.1.trans hml.symm) (c_LA_missing l hl9 (xs (i4 + 1)) (xs (i4 + 2)) hx0 hcl9 hC9) (zG2keeps _ _) hG2 hK hS (cw_LA_missing hG (by decide) (by decide)) d_LA_law_960 (Nat.le_of_ble_eq_true rfl) (by show cells + 40 ≤ 601024; omega) (by show slots + 300 ≤ 7293034; omega) (fun H locs X1 hS hN1 hE1 => ?_)
  obtain ⟨hY1, hM1, hou⟩ := ls_v hY hMo hou hN1 hE1
  refine lv_istore (lv' := [(5, .int (nI cd9)), (0, .ref b), (1, .ref x), (2, .ref mo), (3, .ref ou), (4, .int (nI i4))]) hx hb d_LA_law_963 hl (by decide) rfl (fun ls hl => ?_)
  refine lv_aload_n hx hb d_LA_law_965 rfl (lv_at hl 3 rfl) ?_
  refine lv_aload_n hx hb d_LA_law_966 rfl (lv_at hl 1 rfl) ?_
  refine lv_iload hx hb d_LA_law_967 (lv_at hl 5 rfl) ?_
  refine lv_iconst (v := 1) hx hb d_LA_law_969 (by decide) ?_
  refine lv_iadd hx hb d_LA_law_970 ?_
  refine z_sld hx hb hXs hbl hL hS (nI_add i4 1) (show i4 + 1 < L by omega) d_LA_law_971 ?_
  refine lv_aload_n hx hb d_LA_law_972 rfl (lv_at hl 1 rfl) ?_
  refine lv_iload hx hb d_LA_law_973 (lv_at hl 5 rfl) ?_
  refine lv_iconst (v := 2) hx hb d_LA_law_975 (by decide) ?_
  refine lv_iadd hx hb d_LA_law_976 ?_
  refine z_sld hx hb hXs hbl hL hS (nI_add i4 2) (show i4 + 2 < L by omega) d_LA_law_977 ?_
  refine z_wMv (n_LA_MO_missing hx hown hG (va_recv hK (hS.1.one (MI.ob hM1)) (ci := 3) (q0 := 0) rfl rfl) (by rw [hb]; exact d_LA_law_978)) hb (hl.1.trans hml.symm) (hM9 _ _ _ hM1) (z_Gkeeps _ _) hG hK hS (cw_MO_missing hG (by decide) (by decide)) d_LA_law_978 (Nat.le_of_ble_eq_true rfl) (by show cells + 40 ≤ 601024; omega) (by show slots + 300 ≤ 7293034; omega) (fun H locs X2 hS hF2 hM2 => ?_)
  have hY2 := hY1.fr (by decide) hF2
  have hou := z_ouF (by decide) hF2 hou
  refine lv_aload_n hx hb d_LA_law_981 rfl (lv_at hl 3 rfl) ?_
  refine z_pi (v := nI cd9) (n_LA_MO_thrown hx hown hG (va_recv hK (hS.1.one (MI.ob hM2)) (ci := 3) (q0 := 0) rfl rfl) (by rw [hb]; exact d_LA_law_982)) hb (hl.1.trans hml.symm) (c_MO_thrown l hl9 hM2) rfl (z_Gkeeps _ _) hG hK hS (cw_MO_thrown hG (by decide) (by decide)) d_LA_law_982 (Nat.le_of_ble_eq_true rfl) (by show cells + 40 ≤ 601024; omega) (by show slots + 300 ≤ 7293034; omega) (fun H hq hS => ?_)
  refine lv_iload hx hb d_LA_law_985 (lv_at hl 0 rfl) ?_
  refine lv_icmp_eq (tgt := 992) hx hb d_LA_law_987 (by decide) (fun c_1 => ?_) (fun c_1 => absurd (rfl) c_1)
  refine lv_goto (tgt := 1348) hx hb d_LA_law_992 (by decide) ?_
  refine W.widen (k := cells + 60) (n := slots + 500) (by show cells + 40 ≤ cells + 60; omega) (by show slots + 300 ≤ slots + 500; omega) ?_
  exact hnext _ _ H locs ls ⟨hY2, ⟨_, _, hM2⟩, ⟨_, hou⟩, (jv_if hV9 hV)⟩ hS (lv_sub hl [1, 2, 3, 4, 5] rfl)
set_option maxHeartbeats 4000000 in
set_option maxRecDepth 100000 in
theorem law_refund {p : Program} {e : Env} {s : State} {m : MethodId} {below : List Frame} {meth : Method} {c : Code} {b L : Nat} {xs : Nat → Int32} {D : va_G} {cS cR cJ cI cZ : ClassId} {tP : Nat} (l : Launch) (hl9 : l.stackTraces = false) {x mo ou i4 cells slots : Nat} {A : zA} {X : zM} {H : Heap} {locs : List Loc} {ls : Array Slot} {Q : State → Prop} (hC0 : LX p s m c b L xs D cS cR cJ cI cZ tP) (hi4 : i4 + 4 ≤ L) (hcl : cells + 60 ≤ 601024) (hsl : slots + 500 ≤ 7293034) (hLS : z_LS x mo ou cS cR cJ cI cZ A X) (hS : z_S D cls4 s.heap.size (fun _ => none) s.heap X H locs) (hl : lv_has ls 7 [(0, .ref b), (1, .ref x), (2, .ref mo), (3, .ref ou), (4, .int (nI i4))])
    (hnext : ∀ (A9 : zA) (X9 : zM) (H9 : Heap) (locs9 : List Loc) (ls9 : Array Slot), z_LS x mo ou cS cR cJ cI cZ A9 X9 → z_S D cls4 s.heap.size (fun _ => none) s.heap X9 H9 locs9 → lv_has ls9 7 [(0, .ref b), (1, .ref x), (2, .ref mo), (3, .ref ou), (4, .int (nI i4))] → W p l e room_1 s m #[Value.ref b] below meth c H9 locs9 (cells + 60) (slots + 500) Q (F0 m 1348 ls9 [])) : W p l e room_1 s m #[Value.ref b] below meth c H locs cells slots Q (F0 m 995 ls []) := by
  obtain ⟨hx, hb, hml, hown, hG2, hK, hXs, hbl, hL⟩ := hC0
  have hG := hG2.1
  obtain ⟨hY, ⟨ad, code0, hMo⟩, ⟨f, hou⟩, hV⟩ := hLS
  refine lv_aload_n hx hb d_LA_law_995 rfl (lv_at hl 1 rfl) ?_
  refine lv_aload_n hx hb d_LA_law_996 rfl (lv_at hl 0 rfl) ?_
  refine lv_iload hx hb d_LA_law_997 (lv_at hl 4 rfl) ?_
  refine lv_iconst (v := 1) hx hb d_LA_law_999 (by decide) ?_
  refine lv_iadd hx hb d_LA_law_1000 ?_
  refine z_sld hx hb hXs hbl hL hS (nI_add i4 1) (show i4 + 1 < L by omega) d_LA_law_1001 ?_
  refine lv_aload_n hx hb d_LA_law_1002 rfl (lv_at hl 0 rfl) ?_
  refine lv_iload hx hb d_LA_law_1003 (lv_at hl 4 rfl) ?_
  refine lv_iconst (v := 2) hx hb d_LA_law_1005 (by decide) ?_
  refine lv_iadd hx hb d_LA_law_1006 ?_
  refine z_sld hx hb hXs hbl hL hS (nI_add i4 2) (show i4 + 2 < L by omega) d_LA_law_1007 ?_
  refine lv_aload_n hx hb d_LA_law_1008 rfl (lv_at hl 3 rfl) ?_
  obtain ⟨cd9, v9, A9, hcl9, hV9, hC9, hM9⟩ := j_refund l hl9 (D := D) (cJ := cJ) (cI := cI) (cZ := cZ) (lo := s.heap.size) (tP := tP) (mo := mo) (xs (i4 + 1)) (xs (i4 + 2)) hY hV
  obtain ⟨fs0, hx0⟩ := hY.ob
  refine z_wh (n_LA_LA_refund hx hown hG (by rw [hb]; exact d_LA_law_1009)) hb (hl.1.trans hml.symm) (c_LA_refund l hl9 (xs (i4 + 1)) (xs (i4 + 2)) hx0 hou hcl9 hC9) (zG2keeps _ _) hG2 hK hS (cw_LA_refund hG (by decide) (by decide)) d_LA_law_1009 (Nat.le_of_ble_eq_true rfl) (by show cells + 40 ≤ 601024; omega) (by show slots + 300 ≤ 7293034; omega) (fun H locs X1 hS hN1 hE1 => ?_)
  obtain ⟨hY1, hM1, f1, hou, hf1⟩ := ls_o hY hMo hou hN1 hE1
  refine lv_istore (lv' := [(5, .int (nI cd9)), (0, .ref b), (1, .ref x), (2, .ref mo), (3, .ref ou), (4, .int (nI i4))]) hx hb d_LA_law_1012 hl (by decide) rfl (fun ls hl => ?_)
  refine lv_aload_n hx hb d_LA_law_1014 rfl (lv_at hl 3 rfl) ?_
  refine lv_aload_n hx hb d_LA_law_1015 rfl (lv_at hl 1 rfl) ?_
  refine lv_iload hx hb d_LA_law_1016 (lv_at hl 5 rfl) ?_
  refine lv_iconst (v := 1) hx hb d_LA_law_1018 (by decide) ?_
  refine lv_iadd hx hb d_LA_law_1019 ?_
  refine z_sld hx hb hXs hbl hL hS (nI_add i4 1) (show i4 + 1 < L by omega) d_LA_law_1020 ?_
  refine lv_aload_n hx hb d_LA_law_1021 rfl (lv_at hl 1 rfl) ?_
  refine lv_iload hx hb d_LA_law_1022 (lv_at hl 5 rfl) ?_
  refine lv_iconst (v := 2) hx hb d_LA_law_1024 (by decide) ?_
  refine lv_iadd hx hb d_LA_law_1025 ?_
  refine z_sld hx hb hXs hbl hL hS (nI_add i4 2) (show i4 + 2 < L by omega) d_LA_law_1026 ?_
  refine z_wMi (n_LA_MO_refund hx hown hG (va_recv hK (hS.1.one (MI.ob hM1)) (ci := 3) (q0 := 0) rfl rfl) (by rw [hb]; exact d_LA_law_1027)) hb (hl.1.trans hml.symm) (hM9 _ _ _ hM1) (z_Gkeeps _ _) hG hK hS (cw_MO_refund hG (by decide) (by decide)) d_LA_law_1027 (Nat.le_of_ble_eq_true rfl) (by show cells + 40 ≤ 601024; omega) (by show slots + 300 ≤ 7293034; omega) (fun H locs X2 b9 hS hF2 hM2 hb9 => ?_)
  have hY2 := hY1.fr (by decide) hF2
  have hou := z_ouF (by decide) hF2 hou
  refine lv_istore (lv' := [(6, .int b9), (5, .int (nI cd9)), (0, .ref b), (1, .ref x), (2, .ref mo), (3, .ref ou), (4, .int (nI i4))]) hx hb d_LA_law_1030 hl (by decide) rfl (fun ls hl => ?_)
  refine lv_aload_n hx hb d_LA_law_1032 rfl (lv_at hl 4 rfl) ?_
  refine z_pi (v := nI cd9) (n_LA_MO_thrown hx hown hG (va_recv hK (hS.1.one (MI.ob hM2)) (ci := 3) (q0 := 0) rfl rfl) (by rw [hb]; exact d_LA_law_1033)) hb (hl.1.trans hml.symm) (c_MO_thrown l hl9 hM2) rfl (z_Gkeeps _ _) hG hK hS (cw_MO_thrown hG (by decide) (by decide)) d_LA_law_1033 (Nat.le_of_ble_eq_true rfl) (by show cells + 40 ≤ 601024; omega) (by show slots + 300 ≤ 7293034; omega) (fun H hq hS => ?_)
  refine lv_iload hx hb d_LA_law_1036 (lv_at hl 1 rfl) ?_
  refine lv_icmp_eq (tgt := 1043) hx hb d_LA_law_1038 (by decide) (fun c_1 => ?_) (fun c_1 => absurd (rfl) c_1)
  refine lv_iload hx hb d_LA_law_1043 (lv_at hl 1 rfl) ?_
  by_cases h0 : cd9 = 0
  · subst h0
    refine lv_if_ne (tgt := 1060) hx hb d_LA_law_1045 (by decide) (fun c9 => absurd rfl c9) (fun c9 => ?_)
    refine lv_aload_n hx hb d_LA_law_1048 rfl (lv_at hl 5 rfl) ?_
    refine lv_iconst (v := 0) hx hb d_LA_law_1049 (by decide) ?_
    refine z_lald hx hb hK hS 2 hou rfl z_in01 d_LA_law_1050 ?_
    refine lv_iload hx hb d_LA_law_1051 (lv_at hl 0 rfl) ?_
    refine lv_i2l (v := b9.toInt64) hx hb d_LA_law_1053 rfl ?_
    refine W.lcmp hx hb d_LA_law_1054 ?_
    rw [z_cmp_eq (show f1 (0 : Int32).toNatClampNeg = b9.toInt64 from (hf1 rfl).trans (congrArg Int32.toInt64 (hb9 rfl).symm))]
    refine lv_if_eq (tgt := 1060) hx hb d_LA_law_1055 (by decide) (fun c_2 => ?_) (fun c_2 => absurd (rfl) c_2)
    refine lv_goto (tgt := 1348) hx hb d_LA_law_1060 (by decide) ?_
    refine W.widen (k := cells + 60) (n := slots + 500) (by show cells + 40 ≤ cells + 60; omega) (by show slots + 300 ≤ slots + 500; omega) ?_
    exact hnext _ _ H locs ls ⟨hY2, ⟨_, _, hM2⟩, ⟨_, hou⟩, (jv_if hV9 hV)⟩ hS (lv_sub hl [2, 3, 4, 5, 6] rfl)
  · refine lv_if_ne (tgt := 1060) hx hb d_LA_law_1045 (by decide) (fun c9 => ?_) (fun c9 => absurd c9 (nI_ne0 (by omega) (by omega)))
    refine lv_goto (tgt := 1348) hx hb d_LA_law_1060 (by decide) ?_
    refine W.widen (k := cells + 60) (n := slots + 500) (by show cells + 40 ≤ cells + 60; omega) (by show slots + 300 ≤ slots + 500; omega) ?_
    exact hnext _ _ H locs ls ⟨hY2, ⟨_, _, hM2⟩, ⟨_, hou⟩, (jv_if hV9 hV)⟩ hS (lv_sub hl [2, 3, 4, 5, 6] rfl)
set_option maxHeartbeats 4000000 in
set_option maxRecDepth 100000 in
theorem law_due {p : Program} {e : Env} {s : State} {m : MethodId} {below : List Frame} {meth : Method} {c : Code} {b L : Nat} {xs : Nat → Int32} {D : va_G} {cS cR cJ cI cZ : ClassId} {tP : Nat} (l : Launch) (hl9 : l.stackTraces = false) {x mo ou i4 cells slots : Nat} {A : zA} {X : zM} {H : Heap} {locs : List Loc} {ls : Array Slot} {Q : State → Prop} (hC0 : LX p s m c b L xs D cS cR cJ cI cZ tP) (hi4 : i4 + 4 ≤ L) (hcl : cells + 60 ≤ 601024) (hsl : slots + 500 ≤ 7293034) (hLS : z_LS x mo ou cS cR cJ cI cZ A X) (hS : z_S D cls4 s.heap.size (fun _ => none) s.heap X H locs) (hl : lv_has ls 7 [(0, .ref b), (1, .ref x), (2, .ref mo), (3, .ref ou), (4, .int (nI i4))])
    (hnext : ∀ (A9 : zA) (X9 : zM) (H9 : Heap) (locs9 : List Loc) (ls9 : Array Slot), z_LS x mo ou cS cR cJ cI cZ A9 X9 → z_S D cls4 s.heap.size (fun _ => none) s.heap X9 H9 locs9 → lv_has ls9 7 [(0, .ref b), (1, .ref x), (2, .ref mo), (3, .ref ou), (4, .int (nI i4))] → W p l e room_1 s m #[Value.ref b] below meth c H9 locs9 (cells + 60) (slots + 500) Q (F0 m 1348 ls9 [])) : W p l e room_1 s m #[Value.ref b] below meth c H locs cells slots Q (F0 m 1063 ls []) := by
  obtain ⟨hx, hb, hml, hown, hG2, hK, hXs, hbl, hL⟩ := hC0
  have hG := hG2.1
  obtain ⟨hY, ⟨ad, code0, hMo⟩, ⟨f, hou⟩, hV⟩ := hLS
  refine lv_aload_n hx hb d_LA_law_1063 rfl (lv_at hl 1 rfl) ?_
  refine lv_aload_n hx hb d_LA_law_1064 rfl (lv_at hl 0 rfl) ?_
  refine lv_iload hx hb d_LA_law_1065 (lv_at hl 4 rfl) ?_
  refine lv_iconst (v := 1) hx hb d_LA_law_1067 (by decide) ?_
  refine lv_iadd hx hb d_LA_law_1068 ?_
  refine z_sld hx hb hXs hbl hL hS (nI_add i4 1) (show i4 + 1 < L by omega) d_LA_law_1069 ?_
  refine lv_aload_n hx hb d_LA_law_1070 rfl (lv_at hl 3 rfl) ?_
  obtain ⟨cd9, v9, A9, hcl9, hV9, hC9, hM9⟩ := j_due l hl9 (D := D) (cJ := cJ) (cI := cI) (cZ := cZ) (lo := s.heap.size) (tP := tP) (mo := mo) (xs (i4 + 1)) hY hV
  obtain ⟨fs0, hx0⟩ := hY.ob
  refine z_wh (n_LA_LA_due hx hown hG (by rw [hb]; exact d_LA_law_1071)) hb (hl.1.trans hml.symm) (c_LA_due l hl9 (xs (i4 + 1)) hx0 hou hcl9 hC9) (zG2keeps _ _) hG2 hK hS (cw_LA_due hG (by decide) (by decide)) d_LA_law_1071 (Nat.le_of_ble_eq_true rfl) (by show cells + 40 ≤ 601024; omega) (by show slots + 300 ≤ 7293034; omega) (fun H locs X1 hS hN1 hE1 => ?_)
  obtain ⟨hY1, hM1, f1, hou, hf1⟩ := ls_o hY hMo hou hN1 hE1
  refine lv_istore (lv' := [(5, .int (nI cd9)), (0, .ref b), (1, .ref x), (2, .ref mo), (3, .ref ou), (4, .int (nI i4))]) hx hb d_LA_law_1074 hl (by decide) rfl (fun ls hl => ?_)
  refine lv_aload_n hx hb d_LA_law_1076 rfl (lv_at hl 3 rfl) ?_
  refine lv_aload_n hx hb d_LA_law_1077 rfl (lv_at hl 1 rfl) ?_
  refine lv_iload hx hb d_LA_law_1078 (lv_at hl 5 rfl) ?_
  refine lv_iconst (v := 1) hx hb d_LA_law_1080 (by decide) ?_
  refine lv_iadd hx hb d_LA_law_1081 ?_
  refine z_sld hx hb hXs hbl hL hS (nI_add i4 1) (show i4 + 1 < L by omega) d_LA_law_1082 ?_
  refine z_wMi (n_LA_MO_due hx hown hG (va_recv hK (hS.1.one (MI.ob hM1)) (ci := 3) (q0 := 0) rfl rfl) (by rw [hb]; exact d_LA_law_1083)) hb (hl.1.trans hml.symm) (hM9 _ _ _ hM1) (z_Gkeeps _ _) hG hK hS (cw_MO_due hG (by decide) (by decide)) d_LA_law_1083 (Nat.le_of_ble_eq_true rfl) (by show cells + 40 ≤ 601024; omega) (by show slots + 300 ≤ 7293034; omega) (fun H locs X2 b9 hS hF2 hM2 hb9 => ?_)
  have hY2 := hY1.fr (by decide) hF2
  have hou := z_ouF (by decide) hF2 hou
  refine lv_istore (lv' := [(6, .int b9), (5, .int (nI cd9)), (0, .ref b), (1, .ref x), (2, .ref mo), (3, .ref ou), (4, .int (nI i4))]) hx hb d_LA_law_1086 hl (by decide) rfl (fun ls hl => ?_)
  refine lv_aload_n hx hb d_LA_law_1088 rfl (lv_at hl 4 rfl) ?_
  refine z_pi (v := nI cd9) (n_LA_MO_thrown hx hown hG (va_recv hK (hS.1.one (MI.ob hM2)) (ci := 3) (q0 := 0) rfl rfl) (by rw [hb]; exact d_LA_law_1089)) hb (hl.1.trans hml.symm) (c_MO_thrown l hl9 hM2) rfl (z_Gkeeps _ _) hG hK hS (cw_MO_thrown hG (by decide) (by decide)) d_LA_law_1089 (Nat.le_of_ble_eq_true rfl) (by show cells + 40 ≤ 601024; omega) (by show slots + 300 ≤ 7293034; omega) (fun H hq hS => ?_)
  refine lv_iload hx hb d_LA_law_1092 (lv_at hl 1 rfl) ?_
  refine lv_icmp_eq (tgt := 1099) hx hb d_LA_law_1094 (by decide) (fun c_1 => ?_) (fun c_1 => absurd (rfl) c_1)
  refine lv_iload hx hb d_LA_law_1099 (lv_at hl 1 rfl) ?_
  by_cases h0 : cd9 = 0
  · subst h0
    refine lv_if_ne (tgt := 1116) hx hb d_LA_law_1101 (by decide) (fun c9 => absurd rfl c9) (fun c9 => ?_)
    refine lv_aload_n hx hb d_LA_law_1104 rfl (lv_at hl 5 rfl) ?_
    refine lv_iconst (v := 0) hx hb d_LA_law_1105 (by decide) ?_
    refine z_lald hx hb hK hS 2 hou rfl z_in01 d_LA_law_1106 ?_
    refine lv_iload hx hb d_LA_law_1107 (lv_at hl 0 rfl) ?_
    refine lv_i2l (v := b9.toInt64) hx hb d_LA_law_1109 rfl ?_
    refine W.lcmp hx hb d_LA_law_1110 ?_
    rw [z_cmp_eq (show f1 (0 : Int32).toNatClampNeg = b9.toInt64 from (hf1 rfl).trans (congrArg Int32.toInt64 (hb9 rfl).symm))]
    refine lv_if_eq (tgt := 1116) hx hb d_LA_law_1111 (by decide) (fun c_2 => ?_) (fun c_2 => absurd (rfl) c_2)
    refine lv_goto (tgt := 1348) hx hb d_LA_law_1116 (by decide) ?_
    refine W.widen (k := cells + 60) (n := slots + 500) (by show cells + 40 ≤ cells + 60; omega) (by show slots + 300 ≤ slots + 500; omega) ?_
    exact hnext _ _ H locs ls ⟨hY2, ⟨_, _, hM2⟩, ⟨_, hou⟩, (jv_if hV9 hV)⟩ hS (lv_sub hl [2, 3, 4, 5, 6] rfl)
  · refine lv_if_ne (tgt := 1116) hx hb d_LA_law_1101 (by decide) (fun c9 => ?_) (fun c9 => absurd c9 (nI_ne0 (by omega) (by omega)))
    refine lv_goto (tgt := 1348) hx hb d_LA_law_1116 (by decide) ?_
    refine W.widen (k := cells + 60) (n := slots + 500) (by show cells + 40 ≤ cells + 60; omega) (by show slots + 300 ≤ slots + 500; omega) ?_
    exact hnext _ _ H locs ls ⟨hY2, ⟨_, _, hM2⟩, ⟨_, hou⟩, (jv_if hV9 hV)⟩ hS (lv_sub hl [2, 3, 4, 5, 6] rfl)
set_option maxHeartbeats 4000000 in
set_option maxRecDepth 100000 in
theorem law_reason {p : Program} {e : Env} {s : State} {m : MethodId} {below : List Frame} {meth : Method} {c : Code} {b L : Nat} {xs : Nat → Int32} {D : va_G} {cS cR cJ cI cZ : ClassId} {tP : Nat} (l : Launch) (hl9 : l.stackTraces = false) {x mo ou i4 cells slots : Nat} {A : zA} {X : zM} {H : Heap} {locs : List Loc} {ls : Array Slot} {Q : State → Prop} (hC0 : LX p s m c b L xs D cS cR cJ cI cZ tP) (hi4 : i4 + 4 ≤ L) (hcl : cells + 60 ≤ 601024) (hsl : slots + 500 ≤ 7293034) (hLS : z_LS x mo ou cS cR cJ cI cZ A X) (hS : z_S D cls4 s.heap.size (fun _ => none) s.heap X H locs) (hl : lv_has ls 7 [(0, .ref b), (1, .ref x), (2, .ref mo), (3, .ref ou), (4, .int (nI i4))])
    (hnext : ∀ (A9 : zA) (X9 : zM) (H9 : Heap) (locs9 : List Loc) (ls9 : Array Slot), z_LS x mo ou cS cR cJ cI cZ A9 X9 → z_S D cls4 s.heap.size (fun _ => none) s.heap X9 H9 locs9 → lv_has ls9 7 [(0, .ref b), (1, .ref x), (2, .ref mo), (3, .ref ou), (4, .int (nI i4))] → W p l e room_1 s m #[Value.ref b] below meth c H9 locs9 (cells + 60) (slots + 500) Q (F0 m 1348 ls9 [])) : W p l e room_1 s m #[Value.ref b] below meth c H locs cells slots Q (F0 m 1119 ls []) := by
  obtain ⟨hx, hb, hml, hown, hG2, hK, hXs, hbl, hL⟩ := hC0
  have hG := hG2.1
  obtain ⟨hY, ⟨ad, code0, hMo⟩, ⟨f, hou⟩, hV⟩ := hLS
  refine lv_aload_n hx hb d_LA_law_1119 rfl (lv_at hl 1 rfl) ?_
  refine lv_aload_n hx hb d_LA_law_1120 rfl (lv_at hl 0 rfl) ?_
  refine lv_iload hx hb d_LA_law_1121 (lv_at hl 4 rfl) ?_
  refine lv_iconst (v := 1) hx hb d_LA_law_1123 (by decide) ?_
  refine lv_iadd hx hb d_LA_law_1124 ?_
  refine z_sld hx hb hXs hbl hL hS (nI_add i4 1) (show i4 + 1 < L by omega) d_LA_law_1125 ?_
  refine lv_aload_n hx hb d_LA_law_1126 rfl (lv_at hl 0 rfl) ?_
  refine lv_iload hx hb d_LA_law_1127 (lv_at hl 4 rfl) ?_
  refine lv_iconst (v := 2) hx hb d_LA_law_1129 (by decide) ?_
  refine lv_iadd hx hb d_LA_law_1130 ?_
  refine z_sld hx hb hXs hbl hL hS (nI_add i4 2) (show i4 + 2 < L by omega) d_LA_law_1131 ?_
  refine lv_aload_n hx hb d_LA_law_1132 rfl (lv_at hl 3 rfl) ?_
  obtain ⟨cd9, v9, A9, hcl9, hV9, hC9, hM9⟩ := j_reason l hl9 (D := D) (cJ := cJ) (cI := cI) (cZ := cZ) (lo := s.heap.size) (tP := tP) (mo := mo) (xs (i4 + 1)) (xs (i4 + 2)) hY hV
  obtain ⟨fs0, hx0⟩ := hY.ob
  refine z_wh (n_LA_LA_reason hx hown hG (by rw [hb]; exact d_LA_law_1133)) hb (hl.1.trans hml.symm) (c_LA_reason l hl9 (xs (i4 + 1)) (xs (i4 + 2)) hx0 hou hcl9 hC9) (zG2keeps _ _) hG2 hK hS (cw_LA_reason hG (by decide) (by decide)) d_LA_law_1133 (Nat.le_of_ble_eq_true rfl) (by show cells + 40 ≤ 601024; omega) (by show slots + 300 ≤ 7293034; omega) (fun H locs X1 hS hN1 hE1 => ?_)
  obtain ⟨hY1, hM1, f1, hou, hf1⟩ := ls_o hY hMo hou hN1 hE1
  refine lv_istore (lv' := [(5, .int (nI cd9)), (0, .ref b), (1, .ref x), (2, .ref mo), (3, .ref ou), (4, .int (nI i4))]) hx hb d_LA_law_1136 hl (by decide) rfl (fun ls hl => ?_)
  refine lv_aload_n hx hb d_LA_law_1138 rfl (lv_at hl 3 rfl) ?_
  refine lv_aload_n hx hb d_LA_law_1139 rfl (lv_at hl 1 rfl) ?_
  refine lv_iload hx hb d_LA_law_1140 (lv_at hl 5 rfl) ?_
  refine lv_iconst (v := 1) hx hb d_LA_law_1142 (by decide) ?_
  refine lv_iadd hx hb d_LA_law_1143 ?_
  refine z_sld hx hb hXs hbl hL hS (nI_add i4 1) (show i4 + 1 < L by omega) d_LA_law_1144 ?_
  refine lv_aload_n hx hb d_LA_law_1145 rfl (lv_at hl 1 rfl) ?_
  refine lv_iload hx hb d_LA_law_1146 (lv_at hl 5 rfl) ?_
  refine lv_iconst (v := 2) hx hb d_LA_law_1148 (by decide) ?_
  refine lv_iadd hx hb d_LA_law_1149 ?_
  refine z_sld hx hb hXs hbl hL hS (nI_add i4 2) (show i4 + 2 < L by omega) d_LA_law_1150 ?_
  refine z_wMi (n_LA_MO_reason hx hown hG (va_recv hK (hS.1.one (MI.ob hM1)) (ci := 3) (q0 := 0) rfl rfl) (by rw [hb]; exact d_LA_law_1151)) hb (hl.1.trans hml.symm) (hM9 _ _ _ hM1) (z_Gkeeps _ _) hG hK hS (cw_MO_reason hG (by decide) (by decide)) d_LA_law_1151 (Nat.le_of_ble_eq_true rfl) (by show cells + 40 ≤ 601024; omega) (by show slots + 300 ≤ 7293034; omega) (fun H locs X2 b9 hS hF2 hM2 hb9 => ?_)
  have hY2 := hY1.fr (by decide) hF2
  have hou := z_ouF (by decide) hF2 hou
  refine lv_istore (lv' := [(6, .int b9), (5, .int (nI cd9)), (0, .ref b), (1, .ref x), (2, .ref mo), (3, .ref ou), (4, .int (nI i4))]) hx hb d_LA_law_1154 hl (by decide) rfl (fun ls hl => ?_)
  refine lv_aload_n hx hb d_LA_law_1156 rfl (lv_at hl 4 rfl) ?_
  refine z_pi (v := nI cd9) (n_LA_MO_thrown hx hown hG (va_recv hK (hS.1.one (MI.ob hM2)) (ci := 3) (q0 := 0) rfl rfl) (by rw [hb]; exact d_LA_law_1157)) hb (hl.1.trans hml.symm) (c_MO_thrown l hl9 hM2) rfl (z_Gkeeps _ _) hG hK hS (cw_MO_thrown hG (by decide) (by decide)) d_LA_law_1157 (Nat.le_of_ble_eq_true rfl) (by show cells + 40 ≤ 601024; omega) (by show slots + 300 ≤ 7293034; omega) (fun H hq hS => ?_)
  refine lv_iload hx hb d_LA_law_1160 (lv_at hl 1 rfl) ?_
  refine lv_icmp_eq (tgt := 1167) hx hb d_LA_law_1162 (by decide) (fun c_1 => ?_) (fun c_1 => absurd (rfl) c_1)
  refine lv_iload hx hb d_LA_law_1167 (lv_at hl 1 rfl) ?_
  by_cases h0 : cd9 = 0
  · subst h0
    refine lv_if_ne (tgt := 1184) hx hb d_LA_law_1169 (by decide) (fun c9 => absurd rfl c9) (fun c9 => ?_)
    refine lv_aload_n hx hb d_LA_law_1172 rfl (lv_at hl 5 rfl) ?_
    refine lv_iconst (v := 0) hx hb d_LA_law_1173 (by decide) ?_
    refine z_lald hx hb hK hS 2 hou rfl z_in01 d_LA_law_1174 ?_
    refine lv_iload hx hb d_LA_law_1175 (lv_at hl 0 rfl) ?_
    refine lv_i2l (v := b9.toInt64) hx hb d_LA_law_1177 rfl ?_
    refine W.lcmp hx hb d_LA_law_1178 ?_
    rw [z_cmp_eq (show f1 (0 : Int32).toNatClampNeg = b9.toInt64 from (hf1 rfl).trans (congrArg Int32.toInt64 (hb9 rfl).symm))]
    refine lv_if_eq (tgt := 1184) hx hb d_LA_law_1179 (by decide) (fun c_2 => ?_) (fun c_2 => absurd (rfl) c_2)
    refine lv_goto (tgt := 1348) hx hb d_LA_law_1184 (by decide) ?_
    refine W.widen (k := cells + 60) (n := slots + 500) (by show cells + 40 ≤ cells + 60; omega) (by show slots + 300 ≤ slots + 500; omega) ?_
    exact hnext _ _ H locs ls ⟨hY2, ⟨_, _, hM2⟩, ⟨_, hou⟩, (jv_if hV9 hV)⟩ hS (lv_sub hl [2, 3, 4, 5, 6] rfl)
  · refine lv_if_ne (tgt := 1184) hx hb d_LA_law_1169 (by decide) (fun c9 => ?_) (fun c9 => absurd c9 (nI_ne0 (by omega) (by omega)))
    refine lv_goto (tgt := 1348) hx hb d_LA_law_1184 (by decide) ?_
    refine W.widen (k := cells + 60) (n := slots + 500) (by show cells + 40 ≤ cells + 60; omega) (by show slots + 300 ≤ slots + 500; omega) ?_
    exact hnext _ _ H locs ls ⟨hY2, ⟨_, _, hM2⟩, ⟨_, hou⟩, (jv_if hV9 hV)⟩ hS (lv_sub hl [2, 3, 4, 5, 6] rfl)
set_option maxHeartbeats 4000000 in
set_option maxRecDepth 100000 in
theorem law_customer {p : Program} {e : Env} {s : State} {m : MethodId} {below : List Frame} {meth : Method} {c : Code} {b L : Nat} {xs : Nat → Int32} {D : va_G} {cS cR cJ cI cZ : ClassId} {tP : Nat} (l : Launch) (hl9 : l.stackTraces = false) {x mo ou i4 cells slots : Nat} {A : zA} {X : zM} {H : Heap} {locs : List Loc} {ls : Array Slot} {Q : State → Prop} (hC0 : LX p s m c b L xs D cS cR cJ cI cZ tP) (hi4 : i4 + 4 ≤ L) (hcl : cells + 60 ≤ 601024) (hsl : slots + 500 ≤ 7293034) (hLS : z_LS x mo ou cS cR cJ cI cZ A X) (hS : z_S D cls4 s.heap.size (fun _ => none) s.heap X H locs) (hl : lv_has ls 7 [(0, .ref b), (1, .ref x), (2, .ref mo), (3, .ref ou), (4, .int (nI i4))])
    (hnext : ∀ (A9 : zA) (X9 : zM) (H9 : Heap) (locs9 : List Loc) (ls9 : Array Slot), z_LS x mo ou cS cR cJ cI cZ A9 X9 → z_S D cls4 s.heap.size (fun _ => none) s.heap X9 H9 locs9 → lv_has ls9 7 [(0, .ref b), (1, .ref x), (2, .ref mo), (3, .ref ou), (4, .int (nI i4))] → W p l e room_1 s m #[Value.ref b] below meth c H9 locs9 (cells + 60) (slots + 500) Q (F0 m 1348 ls9 [])) : W p l e room_1 s m #[Value.ref b] below meth c H locs cells slots Q (F0 m 1187 ls []) := by
  obtain ⟨hx, hb, hml, hown, hG2, hK, hXs, hbl, hL⟩ := hC0
  have hG := hG2.1
  obtain ⟨hY, ⟨ad, code0, hMo⟩, ⟨f, hou⟩, hV⟩ := hLS
  refine lv_aload_n hx hb d_LA_law_1187 rfl (lv_at hl 1 rfl) ?_
  refine lv_aload_n hx hb d_LA_law_1188 rfl (lv_at hl 0 rfl) ?_
  refine lv_iload hx hb d_LA_law_1189 (lv_at hl 4 rfl) ?_
  refine lv_iconst (v := 1) hx hb d_LA_law_1191 (by decide) ?_
  refine lv_iadd hx hb d_LA_law_1192 ?_
  refine z_sld hx hb hXs hbl hL hS (nI_add i4 1) (show i4 + 1 < L by omega) d_LA_law_1193 ?_
  refine lv_aload_n hx hb d_LA_law_1194 rfl (lv_at hl 0 rfl) ?_
  refine lv_iload hx hb d_LA_law_1195 (lv_at hl 4 rfl) ?_
  refine lv_iconst (v := 2) hx hb d_LA_law_1197 (by decide) ?_
  refine lv_iadd hx hb d_LA_law_1198 ?_
  refine z_sld hx hb hXs hbl hL hS (nI_add i4 2) (show i4 + 2 < L by omega) d_LA_law_1199 ?_
  refine lv_aload_n hx hb d_LA_law_1200 rfl (lv_at hl 3 rfl) ?_
  obtain ⟨cd9, v9, A9, hcl9, hV9, hC9, hM9⟩ := j_customer l hl9 (D := D) (cJ := cJ) (cI := cI) (cZ := cZ) (lo := s.heap.size) (tP := tP) (mo := mo) (xs (i4 + 1)) (xs (i4 + 2)) hY hV
  obtain ⟨fs0, hx0⟩ := hY.ob
  refine z_wh (n_LA_LA_customer hx hown hG (by rw [hb]; exact d_LA_law_1201)) hb (hl.1.trans hml.symm) (c_LA_customer l hl9 (xs (i4 + 1)) (xs (i4 + 2)) hx0 hou hcl9 hC9) (zG2keeps _ _) hG2 hK hS (cw_LA_customer hG (by decide) (by decide)) d_LA_law_1201 (Nat.le_of_ble_eq_true rfl) (by show cells + 40 ≤ 601024; omega) (by show slots + 300 ≤ 7293034; omega) (fun H locs X1 hS hN1 hE1 => ?_)
  obtain ⟨hY1, hM1, f1, hou, hf1⟩ := ls_o hY hMo hou hN1 hE1
  refine lv_istore (lv' := [(5, .int (nI cd9)), (0, .ref b), (1, .ref x), (2, .ref mo), (3, .ref ou), (4, .int (nI i4))]) hx hb d_LA_law_1204 hl (by decide) rfl (fun ls hl => ?_)
  refine lv_aload_n hx hb d_LA_law_1206 rfl (lv_at hl 3 rfl) ?_
  refine lv_aload_n hx hb d_LA_law_1207 rfl (lv_at hl 1 rfl) ?_
  refine lv_iload hx hb d_LA_law_1208 (lv_at hl 5 rfl) ?_
  refine lv_iconst (v := 1) hx hb d_LA_law_1210 (by decide) ?_
  refine lv_iadd hx hb d_LA_law_1211 ?_
  refine z_sld hx hb hXs hbl hL hS (nI_add i4 1) (show i4 + 1 < L by omega) d_LA_law_1212 ?_
  refine lv_aload_n hx hb d_LA_law_1213 rfl (lv_at hl 1 rfl) ?_
  refine lv_iload hx hb d_LA_law_1214 (lv_at hl 5 rfl) ?_
  refine lv_iconst (v := 2) hx hb d_LA_law_1216 (by decide) ?_
  refine lv_iadd hx hb d_LA_law_1217 ?_
  refine z_sld hx hb hXs hbl hL hS (nI_add i4 2) (show i4 + 2 < L by omega) d_LA_law_1218 ?_
  refine z_wMi (n_LA_MO_customer hx hown hG (va_recv hK (hS.1.one (MI.ob hM1)) (ci := 3) (q0 := 0) rfl rfl) (by rw [hb]; exact d_LA_law_1219)) hb (hl.1.trans hml.symm) (hM9 _ _ _ hM1) (z_Gkeeps _ _) hG hK hS (cw_MO_customer hG (by decide) (by decide)) d_LA_law_1219 (Nat.le_of_ble_eq_true rfl) (by show cells + 40 ≤ 601024; omega) (by show slots + 300 ≤ 7293034; omega) (fun H locs X2 b9 hS hF2 hM2 hb9 => ?_)
  have hY2 := hY1.fr (by decide) hF2
  have hou := z_ouF (by decide) hF2 hou
  refine lv_istore (lv' := [(6, .int b9), (5, .int (nI cd9)), (0, .ref b), (1, .ref x), (2, .ref mo), (3, .ref ou), (4, .int (nI i4))]) hx hb d_LA_law_1222 hl (by decide) rfl (fun ls hl => ?_)
  refine lv_aload_n hx hb d_LA_law_1224 rfl (lv_at hl 4 rfl) ?_
  refine z_pi (v := nI cd9) (n_LA_MO_thrown hx hown hG (va_recv hK (hS.1.one (MI.ob hM2)) (ci := 3) (q0 := 0) rfl rfl) (by rw [hb]; exact d_LA_law_1225)) hb (hl.1.trans hml.symm) (c_MO_thrown l hl9 hM2) rfl (z_Gkeeps _ _) hG hK hS (cw_MO_thrown hG (by decide) (by decide)) d_LA_law_1225 (Nat.le_of_ble_eq_true rfl) (by show cells + 40 ≤ 601024; omega) (by show slots + 300 ≤ 7293034; omega) (fun H hq hS => ?_)
  refine lv_iload hx hb d_LA_law_1228 (lv_at hl 1 rfl) ?_
  refine lv_icmp_eq (tgt := 1235) hx hb d_LA_law_1230 (by decide) (fun c_1 => ?_) (fun c_1 => absurd (rfl) c_1)
  refine lv_iload hx hb d_LA_law_1235 (lv_at hl 1 rfl) ?_
  by_cases h0 : cd9 = 0
  · subst h0
    refine lv_if_ne (tgt := 1252) hx hb d_LA_law_1237 (by decide) (fun c9 => absurd rfl c9) (fun c9 => ?_)
    refine lv_aload_n hx hb d_LA_law_1240 rfl (lv_at hl 5 rfl) ?_
    refine lv_iconst (v := 0) hx hb d_LA_law_1241 (by decide) ?_
    refine z_lald hx hb hK hS 2 hou rfl z_in01 d_LA_law_1242 ?_
    refine lv_iload hx hb d_LA_law_1243 (lv_at hl 0 rfl) ?_
    refine lv_i2l (v := b9.toInt64) hx hb d_LA_law_1245 rfl ?_
    refine W.lcmp hx hb d_LA_law_1246 ?_
    rw [z_cmp_eq (show f1 (0 : Int32).toNatClampNeg = b9.toInt64 from (hf1 rfl).trans (congrArg Int32.toInt64 (hb9 rfl).symm))]
    refine lv_if_eq (tgt := 1252) hx hb d_LA_law_1247 (by decide) (fun c_2 => ?_) (fun c_2 => absurd (rfl) c_2)
    refine lv_goto (tgt := 1348) hx hb d_LA_law_1252 (by decide) ?_
    refine W.widen (k := cells + 60) (n := slots + 500) (by show cells + 40 ≤ cells + 60; omega) (by show slots + 300 ≤ slots + 500; omega) ?_
    exact hnext _ _ H locs ls ⟨hY2, ⟨_, _, hM2⟩, ⟨_, hou⟩, (jv_if hV9 hV)⟩ hS (lv_sub hl [2, 3, 4, 5, 6] rfl)
  · refine lv_if_ne (tgt := 1252) hx hb d_LA_law_1237 (by decide) (fun c9 => ?_) (fun c9 => absurd c9 (nI_ne0 (by omega) (by omega)))
    refine lv_goto (tgt := 1348) hx hb d_LA_law_1252 (by decide) ?_
    refine W.widen (k := cells + 60) (n := slots + 500) (by show cells + 40 ≤ cells + 60; omega) (by show slots + 300 ≤ slots + 500; omega) ?_
    exact hnext _ _ H locs ls ⟨hY2, ⟨_, _, hM2⟩, ⟨_, hou⟩, (jv_if hV9 hV)⟩ hS (lv_sub hl [2, 3, 4, 5, 6] rfl)
set_option maxHeartbeats 4000000 in
set_option maxRecDepth 100000 in
theorem law_told {p : Program} {e : Env} {s : State} {m : MethodId} {below : List Frame} {meth : Method} {c : Code} {b L : Nat} {xs : Nat → Int32} {D : va_G} {cS cR cJ cI cZ : ClassId} {tP : Nat} (l : Launch) (hl9 : l.stackTraces = false) {x mo ou i4 cells slots : Nat} {A : zA} {X : zM} {H : Heap} {locs : List Loc} {ls : Array Slot} {Q : State → Prop} (hC0 : LX p s m c b L xs D cS cR cJ cI cZ tP) (hi4 : i4 + 4 ≤ L) (hcl : cells + 60 ≤ 601024) (hsl : slots + 500 ≤ 7293034) (hLS : z_LS x mo ou cS cR cJ cI cZ A X) (hS : z_S D cls4 s.heap.size (fun _ => none) s.heap X H locs) (hl : lv_has ls 7 [(0, .ref b), (1, .ref x), (2, .ref mo), (3, .ref ou), (4, .int (nI i4))])
    (hnext : ∀ (A9 : zA) (X9 : zM) (H9 : Heap) (locs9 : List Loc) (ls9 : Array Slot), z_LS x mo ou cS cR cJ cI cZ A9 X9 → z_S D cls4 s.heap.size (fun _ => none) s.heap X9 H9 locs9 → lv_has ls9 7 [(0, .ref b), (1, .ref x), (2, .ref mo), (3, .ref ou), (4, .int (nI i4))] → W p l e room_1 s m #[Value.ref b] below meth c H9 locs9 (cells + 60) (slots + 500) Q (F0 m 1348 ls9 [])) : W p l e room_1 s m #[Value.ref b] below meth c H locs cells slots Q (F0 m 1255 ls []) := by
  obtain ⟨hx, hb, hml, hown, hG2, hK, hXs, hbl, hL⟩ := hC0
  have hG := hG2.1
  obtain ⟨hY, ⟨ad, code0, hMo⟩, ⟨f, hou⟩, hV⟩ := hLS
  refine lv_aload_n hx hb d_LA_law_1255 rfl (lv_at hl 1 rfl) ?_
  refine lv_aload_n hx hb d_LA_law_1256 rfl (lv_at hl 0 rfl) ?_
  refine lv_iload hx hb d_LA_law_1257 (lv_at hl 4 rfl) ?_
  refine lv_iconst (v := 1) hx hb d_LA_law_1259 (by decide) ?_
  refine lv_iadd hx hb d_LA_law_1260 ?_
  refine z_sld hx hb hXs hbl hL hS (nI_add i4 1) (show i4 + 1 < L by omega) d_LA_law_1261 ?_
  refine lv_aload_n hx hb d_LA_law_1262 rfl (lv_at hl 0 rfl) ?_
  refine lv_iload hx hb d_LA_law_1263 (lv_at hl 4 rfl) ?_
  refine lv_iconst (v := 2) hx hb d_LA_law_1265 (by decide) ?_
  refine lv_iadd hx hb d_LA_law_1266 ?_
  refine z_sld hx hb hXs hbl hL hS (nI_add i4 2) (show i4 + 2 < L by omega) d_LA_law_1267 ?_
  refine lv_aload_n hx hb d_LA_law_1268 rfl (lv_at hl 3 rfl) ?_
  obtain ⟨cd9, v9, A9, hcl9, hV9, hC9, hM9⟩ := j_told l hl9 (D := D) (cJ := cJ) (cI := cI) (cZ := cZ) (lo := s.heap.size) (tP := tP) (mo := mo) (xs (i4 + 1)) (xs (i4 + 2)) hY hV
  obtain ⟨fs0, hx0⟩ := hY.ob
  refine z_wh (n_LA_LA_told hx hown hG (by rw [hb]; exact d_LA_law_1269)) hb (hl.1.trans hml.symm) (c_LA_told l hl9 (xs (i4 + 1)) (xs (i4 + 2)) hx0 hou hcl9 hC9) (zG2keeps _ _) hG2 hK hS (cw_LA_told hG (by decide) (by decide)) d_LA_law_1269 (Nat.le_of_ble_eq_true rfl) (by show cells + 40 ≤ 601024; omega) (by show slots + 300 ≤ 7293034; omega) (fun H locs X1 hS hN1 hE1 => ?_)
  obtain ⟨hY1, hM1, f1, hou, hf1⟩ := ls_o hY hMo hou hN1 hE1
  refine lv_istore (lv' := [(5, .int (nI cd9)), (0, .ref b), (1, .ref x), (2, .ref mo), (3, .ref ou), (4, .int (nI i4))]) hx hb d_LA_law_1272 hl (by decide) rfl (fun ls hl => ?_)
  refine lv_aload_n hx hb d_LA_law_1274 rfl (lv_at hl 3 rfl) ?_
  refine lv_aload_n hx hb d_LA_law_1275 rfl (lv_at hl 1 rfl) ?_
  refine lv_iload hx hb d_LA_law_1276 (lv_at hl 5 rfl) ?_
  refine lv_iconst (v := 1) hx hb d_LA_law_1278 (by decide) ?_
  refine lv_iadd hx hb d_LA_law_1279 ?_
  refine z_sld hx hb hXs hbl hL hS (nI_add i4 1) (show i4 + 1 < L by omega) d_LA_law_1280 ?_
  refine lv_aload_n hx hb d_LA_law_1281 rfl (lv_at hl 1 rfl) ?_
  refine lv_iload hx hb d_LA_law_1282 (lv_at hl 5 rfl) ?_
  refine lv_iconst (v := 2) hx hb d_LA_law_1284 (by decide) ?_
  refine lv_iadd hx hb d_LA_law_1285 ?_
  refine z_sld hx hb hXs hbl hL hS (nI_add i4 2) (show i4 + 2 < L by omega) d_LA_law_1286 ?_
  refine z_wMi (n_LA_MO_told hx hown hG (va_recv hK (hS.1.one (MI.ob hM1)) (ci := 3) (q0 := 0) rfl rfl) (by rw [hb]; exact d_LA_law_1287)) hb (hl.1.trans hml.symm) (hM9 _ _ _ hM1) (z_Gkeeps _ _) hG hK hS (cw_MO_told hG (by decide) (by decide)) d_LA_law_1287 (Nat.le_of_ble_eq_true rfl) (by show cells + 40 ≤ 601024; omega) (by show slots + 300 ≤ 7293034; omega) (fun H locs X2 b9 hS hF2 hM2 hb9 => ?_)
  have hY2 := hY1.fr (by decide) hF2
  have hou := z_ouF (by decide) hF2 hou
  refine lv_istore (lv' := [(6, .int b9), (5, .int (nI cd9)), (0, .ref b), (1, .ref x), (2, .ref mo), (3, .ref ou), (4, .int (nI i4))]) hx hb d_LA_law_1290 hl (by decide) rfl (fun ls hl => ?_)
  refine lv_aload_n hx hb d_LA_law_1292 rfl (lv_at hl 4 rfl) ?_
  refine z_pi (v := nI cd9) (n_LA_MO_thrown hx hown hG (va_recv hK (hS.1.one (MI.ob hM2)) (ci := 3) (q0 := 0) rfl rfl) (by rw [hb]; exact d_LA_law_1293)) hb (hl.1.trans hml.symm) (c_MO_thrown l hl9 hM2) rfl (z_Gkeeps _ _) hG hK hS (cw_MO_thrown hG (by decide) (by decide)) d_LA_law_1293 (Nat.le_of_ble_eq_true rfl) (by show cells + 40 ≤ 601024; omega) (by show slots + 300 ≤ 7293034; omega) (fun H hq hS => ?_)
  refine lv_iload hx hb d_LA_law_1296 (lv_at hl 1 rfl) ?_
  refine lv_icmp_eq (tgt := 1303) hx hb d_LA_law_1298 (by decide) (fun c_1 => ?_) (fun c_1 => absurd (rfl) c_1)
  refine lv_iload hx hb d_LA_law_1303 (lv_at hl 1 rfl) ?_
  by_cases h0 : cd9 = 0
  · subst h0
    refine lv_if_ne (tgt := 1320) hx hb d_LA_law_1305 (by decide) (fun c9 => absurd rfl c9) (fun c9 => ?_)
    refine lv_aload_n hx hb d_LA_law_1308 rfl (lv_at hl 5 rfl) ?_
    refine lv_iconst (v := 0) hx hb d_LA_law_1309 (by decide) ?_
    refine z_lald hx hb hK hS 2 hou rfl z_in01 d_LA_law_1310 ?_
    refine lv_iload hx hb d_LA_law_1311 (lv_at hl 0 rfl) ?_
    refine lv_i2l (v := b9.toInt64) hx hb d_LA_law_1313 rfl ?_
    refine W.lcmp hx hb d_LA_law_1314 ?_
    rw [z_cmp_eq (show f1 (0 : Int32).toNatClampNeg = b9.toInt64 from (hf1 rfl).trans (congrArg Int32.toInt64 (hb9 rfl).symm))]
    refine lv_if_eq (tgt := 1320) hx hb d_LA_law_1315 (by decide) (fun c_2 => ?_) (fun c_2 => absurd (rfl) c_2)
    refine lv_goto (tgt := 1348) hx hb d_LA_law_1320 (by decide) ?_
    refine W.widen (k := cells + 60) (n := slots + 500) (by show cells + 40 ≤ cells + 60; omega) (by show slots + 300 ≤ slots + 500; omega) ?_
    exact hnext _ _ H locs ls ⟨hY2, ⟨_, _, hM2⟩, ⟨_, hou⟩, (jv_if hV9 hV)⟩ hS (lv_sub hl [2, 3, 4, 5, 6] rfl)
  · refine lv_if_ne (tgt := 1320) hx hb d_LA_law_1305 (by decide) (fun c9 => ?_) (fun c9 => absurd c9 (nI_ne0 (by omega) (by omega)))
    refine lv_goto (tgt := 1348) hx hb d_LA_law_1320 (by decide) ?_
    refine W.widen (k := cells + 60) (n := slots + 500) (by show cells + 40 ≤ cells + 60; omega) (by show slots + 300 ≤ slots + 500; omega) ?_
    exact hnext _ _ H locs ls ⟨hY2, ⟨_, _, hM2⟩, ⟨_, hou⟩, (jv_if hV9 hV)⟩ hS (lv_sub hl [2, 3, 4, 5, 6] rfl)
set_option maxHeartbeats 4000000 in
set_option maxRecDepth 100000 in
theorem law_count {p : Program} {e : Env} {s : State} {m : MethodId} {below : List Frame} {meth : Method} {c : Code} {b L : Nat} {xs : Nat → Int32} {D : va_G} {cS cR cJ cI cZ : ClassId} {tP : Nat} (l : Launch) (hl9 : l.stackTraces = false) {x mo ou i4 cells slots : Nat} {A : zA} {X : zM} {H : Heap} {locs : List Loc} {ls : Array Slot} {Q : State → Prop} (hC0 : LX p s m c b L xs D cS cR cJ cI cZ tP) (hi4 : i4 + 4 ≤ L) (hcl : cells + 60 ≤ 601024) (hsl : slots + 500 ≤ 7293034) (hLS : z_LS x mo ou cS cR cJ cI cZ A X) (hS : z_S D cls4 s.heap.size (fun _ => none) s.heap X H locs) (hl : lv_has ls 7 [(0, .ref b), (1, .ref x), (2, .ref mo), (3, .ref ou), (4, .int (nI i4))])
    (hnext : ∀ (A9 : zA) (X9 : zM) (H9 : Heap) (locs9 : List Loc) (ls9 : Array Slot), z_LS x mo ou cS cR cJ cI cZ A9 X9 → z_S D cls4 s.heap.size (fun _ => none) s.heap X9 H9 locs9 → lv_has ls9 7 [(0, .ref b), (1, .ref x), (2, .ref mo), (3, .ref ou), (4, .int (nI i4))] → W p l e room_1 s m #[Value.ref b] below meth c H9 locs9 (cells + 60) (slots + 500) Q (F0 m 1348 ls9 [])) : W p l e room_1 s m #[Value.ref b] below meth c H locs cells slots Q (F0 m 1323 ls []) := by
  obtain ⟨hx, hb, hml, hown, hG2, hK, hXs, hbl, hL⟩ := hC0
  have hG := hG2.1
  obtain ⟨hY, ⟨ad, code0, hMo⟩, ⟨f, hou⟩, hV⟩ := hLS
  refine lv_aload_n hx hb d_LA_law_1323 rfl (lv_at hl 1 rfl) ?_
  refine lv_aload_n hx hb d_LA_law_1324 rfl (lv_at hl 0 rfl) ?_
  refine lv_iload hx hb d_LA_law_1325 (lv_at hl 4 rfl) ?_
  refine lv_iconst (v := 1) hx hb d_LA_law_1327 (by decide) ?_
  refine lv_iadd hx hb d_LA_law_1328 ?_
  refine z_sld hx hb hXs hbl hL hS (nI_add i4 1) (show i4 + 1 < L by omega) d_LA_law_1329 ?_
  obtain ⟨sA, rA, sd, rd, hXI⟩ := id hY
  refine z_pi (v := an_count A.1 A.2.1 A.2.2.1 A.2.2.2.1 A.2.2.2.2.1 A.2.2.2.2.2 (xs (i4 + 1))) (n_LA_RR_count hx hown hG (va_recv hK (hS.1.one hXI.1) (ci := 0) (q0 := 0) rfl rfl) (by rw [hb]; exact d_LA_law_1330)) hb (hl.1.trans hml.symm) (c_RR_count l hl9 (xs (i4 + 1)) hXI) rfl (z_Gkeeps _ _) hG hK hS (cw_RR_count hG (by decide) (by decide)) d_LA_law_1330 (Nat.le_of_ble_eq_true rfl) (by show cells + 12 ≤ 601024; omega) (by show slots + 100 ≤ 7293034; omega) (fun H hq hS => ?_)
  refine lv_aload_n hx hb d_LA_law_1333 rfl (lv_at hl 2 rfl) ?_
  refine lv_aload_n hx hb d_LA_law_1334 rfl (lv_at hl 0 rfl) ?_
  refine lv_iload hx hb d_LA_law_1335 (lv_at hl 4 rfl) ?_
  refine lv_iconst (v := 1) hx hb d_LA_law_1337 (by decide) ?_
  refine lv_iadd hx hb d_LA_law_1338 ?_
  refine z_sld hx hb hXs hbl hL hS (nI_add i4 1) (show i4 + 1 < L by omega) d_LA_law_1339 ?_
  refine z_wMi (cd := 0) (n_LA_MO_count hx hown hG (va_recv hK (hS.1.one (MI.ob hMo)) (ci := 3) (q0 := 0) rfl rfl) (by rw [hb]; exact d_LA_law_1340)) hb (hl.1.trans hml.symm) (c_MO_count l hl9 (xs (i4 + 1)) hMo) (z_Gkeeps _ _) hG hK hS (cw_MO_count hG (by decide) (by decide)) d_LA_law_1340 (Nat.le_of_ble_eq_true rfl) (by show cells + 12 ≤ 601024; omega) (by show slots + 100 ≤ 7293034; omega) (fun H locs X2 b9 hS hF2 hM2 hb9 => ?_)
  have hY2 := hY.fr (by decide) hF2
  have hou := z_ouF (by decide) hF2 hou
  rw [hb9 rfl]
  refine lv_icmp_eq (tgt := 1348) hx hb d_LA_law_1343 (by decide) (fun c_1 => ?_) (fun c_1 => absurd (rfl) c_1)
  refine W.widen (k := cells + 60) (n := slots + 500) (by show cells + 12 ≤ cells + 60; omega) (by show slots + 100 ≤ slots + 500; omega) ?_
  exact hnext _ _ H locs ls ⟨hY2, ⟨_, _, hM2⟩, ⟨_, hou⟩, hV⟩ hS (lv_sub hl [0, 1, 2, 3, 4] rfl)
