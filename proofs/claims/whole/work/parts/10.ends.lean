/-! ===== ends that may be a throw: contracts, calls, unwinding ===== -/
/-- nothing has moved but the frames, the slots L, and at the most k new cells of n slots -/
def z_FE (first t : State) (L : List Loc) (k n : Nat) : Prop := first.WarmedH t.vm ∧ first.sameButNew ({ t with vm := first.vm } : State) L k n
/-- a method's contract, whichever way it ends -/
def z_Met (l : Launch) (y : MethodName) (w : Cond) (rm : Room) (Pc : Array Value → State → Prop) (Qc : Array Value → State → Outcome → State → Prop) (mc ms : Nat) (free : Addr → Prop) : Prop :=
  MetFree l y (headSpec [w] rm) Pc (fun _ _ _ _ _ => True) (fun a st o t => Qc a st o t ∧ ∃ L, z_FE st t L mc ms ∧ ∀ q ∈ L, free q.base)
def z_MQ (below : List Frame) (Qc : Array Value → State → Outcome → State → Prop) (a : Array Value) (s : State) (mc ms : Nat) (free : Addr → Prop) : State → Prop := fun t =>
  ∃ o, t.status = .running ∧ Ended t below o ∧ Qc a s o t ∧ ∃ L, z_FE s t L mc ms ∧ ∀ q ∈ L, free q.base
theorem z_MQ.of {below : List Frame} {Qc : Array Value → State → Outcome → State → Prop} {a : Array Value} {s : State} {mc ms : Nat} {free : Addr → Prop} {t : State} (h : MQ below Qc a s mc ms free t) : z_MQ below Qc a s mc ms free t := by
  obtain ⟨o, h1, h2, h3, L, h4, h5⟩ := h
  exact ⟨o, h1, h2, h3, L, h4.2, h5⟩
section Z1
variable {p : Program} {l : Launch} {e : Env} {R : Room} {s : State} {m : MethodId} {args : Array Value} {below : List Frame} {meth : Method} {c : Code} {H : Heap} {locs : List Loc} {cells slots : Nat} {Q : State → Prop}
theorem z_mono {Q' : State → Prop} {g : JFrame} (h : ∀ t, Q t → Q' t) (k : W p l e R s m args below meth c H locs cells slots Q g) : W p l e R s m args below meth c H locs cells slots Q' g := fun T hT X => by
  obtain ⟨t, a, b⟩ := k T hT X
  exact ⟨t, a, h t b⟩
/-- the walk, where a is being thrown over the frame g -/
def z_T (p : Program) (l : Launch) (e : Env) (R : Room) (s : State) (m : MethodId) (args : Array Value) (below : List Frame) (meth : Method) (c : Code) (H : Heap) (locs : List Loc) (cells slots : Nat) (Q : State → Prop) (g : JFrame) (a : Addr) : Prop :=
  ∀ T : State, T.heap = H → Stand p l e R s m args below meth c T locs cells slots → ∃ t, Steps p.tables e below ((T.setTop g).pushFrame (.throwing a)) t ∧ Q t
theorem z_Twiden {g : JFrame} {a : Addr} {k n : Nat} (h1 : cells ≤ k) (h2 : slots ≤ n) (kk : z_T p l e R s m args below meth c H locs k n Q g a) : z_T p l e R s m args below meth c H locs cells slots Q g a := fun T hT X => kk T hT (stand_widen X h1 h2)
/-- no handler: the method ends by the throw -/
theorem z_out {Qc : Array Value → State → Outcome → State → Prop} {free : Addr → Prop} {a : Addr} {pc : Nat} {ls : Array Slot} {rest : List Value}
    (hq : ∀ t : State, t.heap = H → s.WarmedH t.vm → Qc args s (.threw a) t) (hf : ∀ q ∈ locs, free q.base) (hout : ∀ x ∈ c.exceptionTable.toList, covers x pc = false) (hlocks : meth.locks = false) :
    z_T p l e R s m args below meth c H locs cells slots (z_MQ below Qc args s cells slots free) (F0 m pc ls rest) a := by
  intro T hT X
  obtain ⟨hwalk, hrun, hended, hW, hsame⟩ := X.leaveThrown a (g := F0 m pc ls rest) rfl rfl rfl hout hlocks
  exact ⟨_, hwalk, .threw a, hrun, hended, hq _ hT hW, locs, ⟨hW, hsame⟩, hf⟩
end Z1
section Z2
variable {l : Launch}
theorem z_ofW {y : MethodName} {rm : Room} {Pc : Array Value → State → Prop} {Qc : Array Value → State → Outcome → State → Prop} {mc ms : Nat} {free : Addr → Prop} {cc : ByteArray} {maxL : Nat} {ret : Option FieldType}
    (hy : plainName y.cls = true)
    (body : ∀ p e s m args below meth c s₁, BodyLoose p l y (headSpec [Cond.code y cc maxL ret] rm) cc maxL ret e s m args below meth c s₁ → c.maxLocals = maxL → (∀ x ∈ c.exceptionTable.toList, ∀ pc, covers x pc = false) → Pc args s →
      W p l e rm s m args below meth c s.heap [] 0 0 (z_MQ below Qc args s mc ms free) (entryFrame m args maxL)) : z_Met l y (Cond.code y cc maxL ret) rm Pc Qc mc ms free := by
  refine MetFree.of_bodyS (code := cc) (maxLocals := maxL) (ret := ret) hy ?_ ?_
  · intro args s m h hn
    obtain ⟨meth, c, h1, h2, h3, h4, h5, h6, -, -⟩ := Cond.code_spec hn (atoms_spec (ws := [Cond.code y cc maxL ret]) h _ List.mem_cons_self)
    exact ⟨meth, c, h1, h2, h3, h4, h5, h6⟩
  · intro p e s m args below meth c s₁ B hml hP _
    have hh0 : s₁.heap = s.heap := by rw [B.state]; rfl
    have hemp := B.noHandlers (atoms_spec (ws := [Cond.code y cc maxL ret]) B.pre _ List.mem_cons_self)
    have hout : ∀ x ∈ c.exceptionTable.toList, ∀ pc, covers x pc = false := by
      have h0 : c.exceptionTable.size = 0 := by simpa [Array.isEmpty] using hemp
      have h1 : c.exceptionTable.toList = [] := List.eq_nil_of_length_eq_zero (by simpa using h0)
      intro x hx
      rw [h1] at hx
      cases hx
    obtain ⟨t, a1, o, b1, b2, b3⟩ := body p e s m args below meth c s₁ B hml hout hP s₁ hh0 (Stand.of_body B)
    exact ⟨t, o, a1, b1, b2, ⟨b3.1, b3.2⟩⟩
theorem z_ofWW {y : MethodName} {rm : Room} {Pc : Array Value → State → Prop} {Qc : Array Value → State → Outcome → State → Prop} {mc ms : Nat} {free : Addr → Prop} {cc : ByteArray} {maxL : Nat} {ret : Option FieldType} {hh : List (Nat × Nat × Nat × Nat)}
    (hy : plainName y.cls = true)
    (body : ∀ p e s m args below meth c s₁, BodyLoose p l y (headSpec [Cond.codeWith y cc maxL ret hh] rm) cc maxL ret e s m args below meth c s₁ → c.maxLocals = maxL → c.exceptionTable.toList.map (fun h => (h.startPc, h.endPc, h.handlerPc, h.catchType)) = hh → Pc args s →
      W p l e rm s m args below meth c s.heap [] 0 0 (z_MQ below Qc args s mc ms free) (entryFrame m args maxL)) : z_Met l y (Cond.codeWith y cc maxL ret hh) rm Pc Qc mc ms free := by
  refine MetFree.of_bodyS (code := cc) (maxLocals := maxL) (ret := ret) hy ?_ ?_
  · intro args s m h hn
    obtain ⟨m9, meth, c, hn9, h1, h2, h3, h4, -, h5, h6, -⟩ := Cond.codeWith_spec (atoms_spec (ws := [Cond.codeWith y cc maxL ret hh]) h _ List.mem_cons_self)
    cases hn.symm.trans hn9
    exact ⟨meth, c, h1, h2, h3, h4, h5, h6⟩
  · intro p e s m args below meth c s₁ B hml hP _
    have hh0 : s₁.heap = s.heap := by rw [B.state]; rfl
    obtain ⟨m9, meth9, c9, hn9, g1, g2, -, -, g5, -⟩ := Cond.codeWith_spec (atoms_spec (ws := [Cond.codeWith y cc maxL ret hh]) B.pre _ List.mem_cons_self)
    cases B.named.symm.trans hn9
    cases B.method.symm.trans g1
    cases (Stand.of_body B).code.symm.trans g2
    obtain ⟨t, a1, o, b1, b2, b3⟩ := body p e s m args below meth c s₁ B hml g5 hP s₁ hh0 (Stand.of_body B)
    exact ⟨t, o, a1, b1, b2, ⟨b3.1, b3.2⟩⟩
end Z2
/-- the word that names a method's code gives its locals -/
def z_wk (w : Cond) (y : MethodName) (maxL : Nat) : Prop := ∀ (a : Array Value) (U : State) (mk : MethodId), w.before a U = true → U.methodNamed? y = some mk → ∃ methY cY, U.vm.method? mk = some methY ∧ methY.code = some cY ∧ cY.maxLocals = maxL
theorem z_wk0 {y : MethodName} {cc : ByteArray} {maxL : Nat} {ret : Option FieldType} : z_wk (Cond.code y cc maxL ret) y maxL := fun a U mk h hn => by
  obtain ⟨methY, cY, hmY, hcY, -, hlY, -, -, -, -⟩ := Cond.code_spec hn h
  exact ⟨methY, cY, hmY, hcY, hlY⟩
theorem z_wkW {y : MethodName} {cc : ByteArray} {maxL : Nat} {ret : Option FieldType} {hh : List (Nat × Nat × Nat × Nat)} : z_wk (Cond.codeWith y cc maxL ret hh) y maxL := fun a U mk h hn => by
  obtain ⟨m9, methY, cY, hn9, hmY, hcY, -, hlY, -⟩ := Cond.codeWith_spec h
  cases hn.symm.trans hn9
  exact ⟨methY, cY, hmY, hcY, hlY⟩
section Z3
variable {p : Program} {l : Launch} {e : Env} {R : Room} {s : State} {m : MethodId} {args : Array Value} {below : List Frame} {meth : Method} {c : Code} {H : Heap} {locs : List Loc} {cells slots : Nat} {Q : State → Prop}
/-- a callee by its contract, at a point where the walk stands -/
theorem z_back {y : MethodName} {w : Cond} {rm : Room} {Pc : Array Value → State → Prop} {Qc : Array Value → State → Outcome → State → Prop} {mc ms maxL len : Nat} {free : Addr → Prop}
    (hM : z_Met l y w rm Pc Qc mc ms free) (hblind : FrameBlind Pc) (hrc : rm.cells = mc) (hrs : rm.slots = ms) (hframes : rm.frames + 1 ≤ R.frames) (hlocals : 8 + (maxL + 11) + rm.locals ≤ R.locals)
    (hw : ∀ (a' : Array Value) (U : State), s.WarmedH U.vm → w.before a' U = true) (hwc : z_wk w y maxL) (hinit : ∀ (a' : Array Value) (U : State), s.WarmedH U.vm → (Cond.initialized y.cls).before a' U = true)
    {U : State} (X : Stand p l e R s m args below meth c U locs cells slots) {g : JFrame} (hg : g.method = m) (hsize : g.locals.size = c.maxLocals) {ig : Instr} (hdg : decode c.code g.pc = .ok (ig, len))
    (hW : 2 * g.monitorRoom + (g.stack.map fun v => v.category).sum ≤ 8) {mk : MethodId} (hn : U.methodNamed? y = some mk) {a : Array Value} (hc1 : cells + mc ≤ R.cells) (hs1 : slots + ms ≤ R.slots) (hp : Pc a U) :
    ∃ (o : Outcome) (t B : State) (L : List Loc), Stand p l e R s m args below meth c B (locs ++ L) (cells + mc) (slots + ms) ∧ B.heap = t.heap ∧ B.vm = t.vm ∧ Qc a (U.calling g mk a) o t ∧ (∀ q ∈ L, free q.base) ∧
      (∀ v, o = .returned v → Steps p.tables e below (doInvoke e (U.setTop g) [] mk a).1 (B.setTop { g with pc := g.pc + len, stack := v.toList ++ g.stack })) ∧
      (∀ x, o = .threw x → Steps p.tables e below (doInvoke e (U.setTop g) [] mk a).1 ((B.setTop g).pushFrame (.throwing x))) := by
  obtain ⟨methY, cY, hmY, hcY, hlY⟩ := hwc a U mk (hw a U X.warmed) hn
  obtain ⟨kY, hkY, -⟩ := className_of_methodNamed hn
  have hinitY : kY.init = .initialized := Cond.initialized_spec (findClass_of_methodNamed hn) hkY (hinit a U X.warmed)
  have h : At U g.method c below := by rw [hg]; exact X.here
  have hpre : (headSpec [w] rm).pre.before a U = true := atoms_intro fun w' hw' => by rw [List.mem_singleton.mp hw']; exact hw a U X.warmed
  have hlocals' : 8 + (cY.maxLocals + 11) + (headSpec [w] rm).room.locals ≤ R.locals := by rw [hlY]; exact hlocals
  have happ : (headSpec [w] rm).appliesLoose y e.platform (U.calling g mk a) = true :=
    Spec.appliesLoose_calling (g := g) h hdg hn hkY hinitY
      (X.room_calling (g := g) (R' := (headSpec [w] rm).room) hsize hmY hcY hframes (by omega) (by rw [show (headSpec [w] rm).room.cells = mc from hrc]; exact hc1) (by rw [show (headSpec [w] rm).room.slots = ms from hrs]; exact hs1)) hpre
  obtain ⟨mid, hmid⟩ := h.above
  have hfr : (U.setTop g).frames = (.java g :: mid) ++ below := by rw [State.frames_setTop' g h.top, hmid]; rfl
  obtain ⟨o, s₂, hsteps, -, hend, hq⟩ := Steps.callFree hM p X.admits X.cas X.clock (acts := []) hfr happ (hblind _ _ _ _ hp) trivial
  have hq' : Qc a (U.calling g mk a) o s₂ ∧ ∃ L, z_FE (U.calling g mk a) s₂ L mc ms ∧ ∀ q ∈ L, free q.base := hq
  rw [State.frames_setTop' g h.top, X.tail] at hend
  obtain ⟨hQ, L, hfe, hL⟩ := hq'
  cases o with
  | returned v =>
    obtain ⟨T', X', -, -, ht⟩ := X.outOf hg hdg hend hfe.1 hfe.2
    refine ⟨.returned v, s₂, T', L, X', ?_, ?_, hQ, hL, fun v' hv => ?_, fun x hx => by cases hx⟩
    · rw [ht]; rfl
    · rw [ht]; rfl
    · cases hv
      rw [← ht]
      exact hsteps
  | threw x =>
    obtain ⟨T', X', -, -, ht⟩ := X.outOfThrown hg hend hfe.1 hfe.2
    refine ⟨.threw x, s₂, T', L, X', ?_, ?_, hQ, hL, fun v hv => (by cases hv), fun x' hx => ?_⟩
    · rw [ht, Stand.throwing_heap]
    · rw [ht, Stand.throwing_vm]
    · cases hx
      rw [← ht]
      exact hsteps
/-- the invoking instruction at g, over 'rest', comes to the method y with the arguments a -/
def z_In (p : Program) (l : Launch) (e : Env) (R : Room) (s : State) (m : MethodId) (args : Array Value) (below : List Frame) (meth : Method) (c : Code) (H : Heap) (g : JFrame) (rest : List Value) (y : MethodName) (a : Array Value) : Prop :=
  ∀ (T : State) (locs : List Loc) (cells slots : Nat), T.heap = H → Stand p l e R s m args below meth c T locs cells slots → ∃ (mk : MethodId) (vm₁ : Vm), s.methodNamed? y = some mk ∧ Stand p l e R s m args below meth c (T.setVm vm₁) locs cells slots ∧
    ∀ target, (∀ acts, Steps p.tables e below (doInvoke e ((T.setVm vm₁).setTop { g with stack := rest }) acts mk a).1 target) → Steps p.tables e below (T.setTop g) target
/-- A CALL: it returns, or it throws -/
theorem z_call {y : MethodName} {w : Cond} {rm : Room} {Pc : Array Value → State → Prop} {Qc : Array Value → State → Outcome → State → Prop} {mc ms maxL : Nat} {free : Addr → Prop} {cc : ByteArray} {pc : Nat} {ls : Array Slot} {st0 rest : List Value} {a : Array Value} {ig : Instr}
    (hI : z_In p l e R s m args below meth c H (F0 m pc ls st0) rest y a) (hb : c.code = cc) (hsize : ls.size = c.maxLocals)
    (hM : z_Met l y w rm Pc Qc mc ms free) (hblind : FrameBlind Pc) (hrc : rm.cells = mc) (hrs : rm.slots = ms) (hframes : rm.frames + 1 ≤ R.frames) (hlocals : 8 + (maxL + 11) + rm.locals ≤ R.locals)
    (hw : ∀ (a' : Array Value) (U : State), s.WarmedH U.vm → w.before a' U = true) (hwc : z_wk w y maxL) (hinit : (Cond.initialized y.cls).before args s = true)
    (hdg : decode cc pc = .ok (ig, 3)) (hW : (rest.map fun v => v.category).sum ≤ 8) (hc1 : cells + mc ≤ R.cells) (hs1 : slots + ms ≤ R.slots)
    (hp : ∀ U : State, U.heap = H → s.WarmedH U.vm → Pc a U)
    (k1 : ∀ (v : Option Value) (st t : State) (L : List Loc), st.heap = H → s.WarmedH t.vm → Qc a st (.returned v) t → (∀ q ∈ L, free q.base) → W p l e R s m args below meth c t.heap (locs ++ L) (cells + mc) (slots + ms) Q (F0 m (pc + 3) ls (v.toList ++ rest)))
    (k2 : ∀ (x : Addr) (st t : State) (L : List Loc), st.heap = H → s.WarmedH t.vm → Qc a st (.threw x) t → (∀ q ∈ L, free q.base) → z_T p l e R s m args below meth c t.heap (locs ++ L) (cells + mc) (slots + ms) Q (F0 m pc ls rest) x) :
    W p l e R s m args below meth c H locs cells slots Q (F0 m pc ls st0) := by
  intro T hT X
  obtain ⟨mk, vm₁, hnm, X₁, hst⟩ := hI T locs cells slots hT X
  obtain ⟨o, t, B, L, XB, e1, e2, hQ, hL, hv, hx⟩ := z_back hM hblind hrc hrs hframes hlocals hw hwc (fun a' U hW => word_at hW (Or.inl (by first | rfl | simp [Cond.onTables, Cond.keeps, Cond.steady])) hinit) X₁ (g := F0 m pc ls rest) rfl hsize (by rw [hb]; exact hdg) (lv_room hW) (X₁.named hnm) hc1 hs1 (hp (T.setVm vm₁) hT X₁.warmed)
  have hWt : s.WarmedH t.vm := by rw [← e2]; exact XB.warmed
  cases o with
  | returned v =>
    obtain ⟨t2, a1, b1⟩ := k1 v _ t L (by exact hT) hWt hQ hL B e1 XB
    exact ⟨t2, hst _ fun acts => by rw [doInvoke_state]; exact (hv v rfl).trans a1, b1⟩
  | threw x =>
    obtain ⟨t2, a1, b1⟩ := k2 x _ t L (by exact hT) hWt hQ hL B e1 XB
    exact ⟨t2, hst _ fun acts => by rw [doInvoke_state]; exact (hx x rfl).trans a1, b1⟩
end Z3
