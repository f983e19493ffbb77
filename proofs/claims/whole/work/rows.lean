section
-- ===== PART A: goes FIRST, ahead of the names: the tables' words, and 'selects' of the private methods out of them =====
/-- a private method of a class that the tables say can be made, by its rows of tables_1 -/
def lw_okq (q : MethodName × Nat) : Prop := (q.1.cls ≠ "java/lang/invoke/MethodHandle" ∧ q.1.cls ≠ "java/lang/invoke/VarHandle") ∧ Cond.instantiable q.1.cls q.2 ∈ tables_1 ∧ Cond.privateMethod q.1 ∈ tables_1 ∧ Cond.instanceMethod q.1 ∈ tables_1
theorem lw_p0 : lw_okq (⟨"ReturnRows", "sum", "(III)I"⟩, 5) := ⟨⟨by decide +kernel, by decide +kernel⟩, List.mem_of_getElem? (i := 15) (by decide +kernel), List.mem_of_getElem? (i := 47) (by decide +kernel), List.mem_of_getElem? (i := 48) (by decide +kernel)⟩
theorem lw_p1 : lw_okq (⟨"ReturnRows", "backOfClass", "(I)I"⟩, 5) := ⟨⟨by decide +kernel, by decide +kernel⟩, List.mem_of_getElem? (i := 15) (by decide +kernel), List.mem_of_getElem? (i := 59) (by decide +kernel), List.mem_of_getElem? (i := 60) (by decide +kernel)⟩
theorem lw_p2 : lw_okq (⟨"java/lang/Throwable", "fillInStackTrace", "(I)Ljava/lang/Throwable;"⟩, 6) := ⟨⟨by decide +kernel, by decide +kernel⟩, List.mem_of_getElem? (i := 113) (by decide +kernel), List.mem_of_getElem? (i := 111) (by decide +kernel), List.mem_of_getElem? (i := 112) (by decide +kernel)⟩
theorem lw_p3 : lw_okq (⟨"ReturnRows", "saleAt", "(I)LReturnRows$Sale;"⟩, 5) := ⟨⟨by decide +kernel, by decide +kernel⟩, List.mem_of_getElem? (i := 15) (by decide +kernel), List.mem_of_getElem? (i := 207) (by decide +kernel), List.mem_of_getElem? (i := 208) (by decide +kernel)⟩
theorem lw_p4 : lw_okq (⟨"ReturnRows", "returnAt", "(I)LReturnRows$Return;"⟩, 5) := ⟨⟨by decide +kernel, by decide +kernel⟩, List.mem_of_getElem? (i := 15) (by decide +kernel), List.mem_of_getElem? (i := 314) (by decide +kernel), List.mem_of_getElem? (i := 315) (by decide +kernel)⟩
theorem lw_p5 : lw_okq (⟨"ReturnRows", "isCertificateUsed", "(I)Z"⟩, 5) := ⟨⟨by decide +kernel, by decide +kernel⟩, List.mem_of_getElem? (i := 15) (by decide +kernel), List.mem_of_getElem? (i := 401) (by decide +kernel), List.mem_of_getElem? (i := 402) (by decide +kernel)⟩
theorem lw_p6 : lw_okq (⟨"ReturnRows", "salesTo", "(I)I"⟩, 5) := ⟨⟨by decide +kernel, by decide +kernel⟩, List.mem_of_getElem? (i := 15) (by decide +kernel), List.mem_of_getElem? (i := 461) (by decide +kernel), List.mem_of_getElem? (i := 462) (by decide +kernel)⟩
theorem lw_p7 : lw_okq (⟨"ReturnRows", "isMarked", "(I)Z"⟩, 5) := ⟨⟨by decide +kernel, by decide +kernel⟩, List.mem_of_getElem? (i := 15) (by decide +kernel), List.mem_of_getElem? (i := 465) (by decide +kernel), List.mem_of_getElem? (i := 466) (by decide +kernel)⟩
theorem lw_p8 : lw_okq (⟨"ReturnRows", "recentReturnsOf", "(I)I"⟩, 5) := ⟨⟨by decide +kernel, by decide +kernel⟩, List.mem_of_getElem? (i := 15) (by decide +kernel), List.mem_of_getElem? (i := 469) (by decide +kernel), List.mem_of_getElem? (i := 470) (by decide +kernel)⟩
theorem lw_p9 : lw_okq (⟨"ReturnRowsModel", "isSale", "(I)Z"⟩, 23) := ⟨⟨by decide +kernel, by decide +kernel⟩, List.mem_of_getElem? (i := 482) (by decide +kernel), List.mem_of_getElem? (i := 580) (by decide +kernel), List.mem_of_getElem? (i := 581) (by decide +kernel)⟩
theorem lw_p10 : lw_okq (⟨"ReturnRowsModel", "hasReturn", "(I)Z"⟩, 23) := ⟨⟨by decide +kernel, by decide +kernel⟩, List.mem_of_getElem? (i := 482) (by decide +kernel), List.mem_of_getElem? (i := 584) (by decide +kernel), List.mem_of_getElem? (i := 585) (by decide +kernel)⟩
theorem lw_p11 : lw_okq (⟨"ReturnRowsModel", "isReturn", "(I)Z"⟩, 23) := ⟨⟨by decide +kernel, by decide +kernel⟩, List.mem_of_getElem? (i := 482) (by decide +kernel), List.mem_of_getElem? (i := 592) (by decide +kernel), List.mem_of_getElem? (i := 593) (by decide +kernel)⟩
theorem lw_p12 : lw_okq (⟨"ReturnRowsModel", "isSeen", "(I)Z"⟩, 23) := ⟨⟨by decide +kernel, by decide +kernel⟩, List.mem_of_getElem? (i := 482) (by decide +kernel), List.mem_of_getElem? (i := 604) (by decide +kernel), List.mem_of_getElem? (i := 605) (by decide +kernel)⟩
theorem lw_p13 : lw_okq (⟨"ReturnRowsModel", "regrade", "(II)V"⟩, 23) := ⟨⟨by decide +kernel, by decide +kernel⟩, List.mem_of_getElem? (i := 482) (by decide +kernel), List.mem_of_getElem? (i := 616) (by decide +kernel), List.mem_of_getElem? (i := 617) (by decide +kernel)⟩
theorem lw_p14 : lw_okq (⟨"ReturnRowsModel", "backs", "(I)I"⟩, 23) := ⟨⟨by decide +kernel, by decide +kernel⟩, List.mem_of_getElem? (i := 482) (by decide +kernel), List.mem_of_getElem? (i := 636) (by decide +kernel), List.mem_of_getElem? (i := 637) (by decide +kernel)⟩
theorem lw_p15 : lw_okq (⟨"ReturnRowsModel", "dueOf", "(I)I"⟩, 23) := ⟨⟨by decide +kernel, by decide +kernel⟩, List.mem_of_getElem? (i := 482) (by decide +kernel), List.mem_of_getElem? (i := 648) (by decide +kernel), List.mem_of_getElem? (i := 649) (by decide +kernel)⟩
def lw_privs_1 : List (MethodName × Nat) := [(⟨"ReturnRows", "sum", "(III)I"⟩, 5), (⟨"ReturnRows", "backOfClass", "(I)I"⟩, 5), (⟨"java/lang/Throwable", "fillInStackTrace", "(I)Ljava/lang/Throwable;"⟩, 6), (⟨"ReturnRows", "saleAt", "(I)LReturnRows$Sale;"⟩, 5), (⟨"ReturnRows", "returnAt", "(I)LReturnRows$Return;"⟩, 5), (⟨"ReturnRows", "isCertificateUsed", "(I)Z"⟩, 5), (⟨"ReturnRows", "salesTo", "(I)I"⟩, 5), (⟨"ReturnRows", "isMarked", "(I)Z"⟩, 5), (⟨"ReturnRows", "recentReturnsOf", "(I)I"⟩, 5), (⟨"ReturnRowsModel", "isSale", "(I)Z"⟩, 23), (⟨"ReturnRowsModel", "hasReturn", "(I)Z"⟩, 23), (⟨"ReturnRowsModel", "isReturn", "(I)Z"⟩, 23), (⟨"ReturnRowsModel", "isSeen", "(I)Z"⟩, 23), (⟨"ReturnRowsModel", "regrade", "(II)V"⟩, 23), (⟨"ReturnRowsModel", "backs", "(I)I"⟩, 23), (⟨"ReturnRowsModel", "dueOf", "(I)I"⟩, 23)]
theorem lw_r1 : ∀ q ∈ lw_privs_1, lw_okq q := List.forall_mem_cons.mpr ⟨lw_p0, List.forall_mem_cons.mpr ⟨lw_p1, List.forall_mem_cons.mpr ⟨lw_p2, List.forall_mem_cons.mpr ⟨lw_p3, List.forall_mem_cons.mpr ⟨lw_p4, List.forall_mem_cons.mpr ⟨lw_p5, List.forall_mem_cons.mpr ⟨lw_p6, List.forall_mem_cons.mpr ⟨lw_p7, List.forall_mem_cons.mpr ⟨lw_p8, List.forall_mem_cons.mpr ⟨lw_p9, List.forall_mem_cons.mpr ⟨lw_p10, List.forall_mem_cons.mpr ⟨lw_p11, List.forall_mem_cons.mpr ⟨lw_p12, List.forall_mem_cons.mpr ⟨lw_p13, List.forall_mem_cons.mpr ⟨lw_p14, List.forall_mem_cons.mpr ⟨lw_p15, fun _ h => absurd h List.not_mem_nil⟩⟩⟩⟩⟩⟩⟩⟩⟩⟩⟩⟩⟩⟩⟩⟩
theorem lw_p16 : lw_okq (⟨"ReturnRowsModel", "returnsOf", "(IZ)I"⟩, 23) := ⟨⟨by decide +kernel, by decide +kernel⟩, List.mem_of_getElem? (i := 482) (by decide +kernel), List.mem_of_getElem? (i := 667) (by decide +kernel), List.mem_of_getElem? (i := 668) (by decide +kernel)⟩
def lw_privs_2 : List (MethodName × Nat) := [(⟨"ReturnRowsModel", "returnsOf", "(IZ)I"⟩, 23)]
theorem lw_r2 : ∀ q ∈ lw_privs_2, lw_okq q := List.forall_mem_cons.mpr ⟨lw_p16, fun _ h => absurd h List.not_mem_nil⟩
def lw_privs : List (MethodName × Nat) := lw_privs_1 ++ (lw_privs_2)
def lw_tbl : List Cond := k2_sels lw_privs ++ tables_1
theorem lw_privs_ok : ∀ q ∈ lw_privs, lw_okq q := by
  show ∀ q ∈ lw_privs_1 ++ (lw_privs_2), lw_okq q
  exact List.forall_mem_append.mpr ⟨lw_r1, lw_r2⟩
end
section
/-! ===== ends that may be a throw: contracts, calls, unwinding ===== -/
/-- nothing has moved but the frames, the slots L, and at the most k new cells of n slots -/
def z_FE (first t : State) (L : List Loc) (k n : Nat) : Prop := first.WarmedH t.vm ∧ first.sameButNew ({ t with vm := first.vm } : State) L k n
/-- a method's contract, whichever way it ends -/
def z_Met (l : Launch) (y : MethodName) (w : Cond) (rm : Room) (Pc : Array Value → State → Prop) (Qc : Array Value → State → Outcome → State → Prop) (mc ms : Nat) (free : Addr → Prop) : Prop :=
  MetFree l y (headSpec [w] rm) Pc (fun _ _ _ _ _ => True) (fun a st o t => Qc a st o t ∧ ∃ L, z_FE st t L mc ms ∧ ∀ q ∈ L, free q.base)
def z_MQ (below : List Frame) (Qc : Array Value → State → Outcome → State → Prop) (a : Array Value) (s : State) (mc ms : Nat) (free : Addr → Prop) : State → Prop := fun t =>
  ∃ o, t.status = .running ∧ Ended t below o ∧ Qc a s o t ∧ ∃ L, z_FE s t L mc ms ∧ ∀ q ∈ L, free q.base
theorem z_MQ.of {below : List Frame} {Qc : Array Value → State → Outcome → State → Prop} {a : Array Value} {s : State} {mc ms : Nat} {free : Addr → Prop} {t : State} (h : MQ below Qc a s mc ms free t) : z_MQ below Qc a s mc ms free t := by
  obtain ⟨o, h1, h2, h3, L, h4, h5⟩ := h
  exact ⟨o, h1, h2, h3, L, h4.2, h5⟩
section Z1
variable {p : Program} {l : Launch} {e : Env} {R : Room} {s : State} {m : MethodId} {args : Array Value} {below : List Frame} {meth : Method} {c : Code} {H : Heap} {locs : List Loc} {cells slots : Nat} {Q : State → Prop}
theorem z_mono {Q' : State → Prop} {g : JFrame} (h : ∀ t, Q t → Q' t) (k : W p l e R s m args below meth c H locs cells slots Q g) : W p l e R s m args below meth c H locs cells slots Q' g := fun T hT X => by
  obtain ⟨t, a, b⟩ := k T hT X
  exact ⟨t, a, h t b⟩
/-- the walk, where a is being thrown over the frame g -/
def z_T (p : Program) (l : Launch) (e : Env) (R : Room) (s : State) (m : MethodId) (args : Array Value) (below : List Frame) (meth : Method) (c : Code) (H : Heap) (locs : List Loc) (cells slots : Nat) (Q : State → Prop) (g : JFrame) (a : Addr) : Prop :=
  ∀ T : State, T.heap = H → Stand p l e R s m args below meth c T locs cells slots → ∃ t, Steps p.tables e below ((T.setTop g).pushFrame (.throwing a)) t ∧ Q t
theorem z_Twiden {g : JFrame} {a : Addr} {k n : Nat} (h1 : cells ≤ k) (h2 : slots ≤ n) (kk : z_T p l e R s m args below meth c H locs k n Q g a) : z_T p l e R s m args below meth c H locs cells slots Q g a := fun T hT X => kk T hT (stand_widen X h1 h2)
/-- no handler: the method ends by the throw -/
theorem z_out {Qc : Array Value → State → Outcome → State → Prop} {free : Addr → Prop} {a : Addr} {pc : Nat} {ls : Array Slot} {rest : List Value}
    (hq : ∀ t : State, t.heap = H → s.WarmedH t.vm → Qc args s (.threw a) t) (hf : ∀ q ∈ locs, free q.base) (hout : ∀ x ∈ c.exceptionTable.toList, covers x pc = false) (hlocks : meth.locks = false) :
    z_T p l e R s m args below meth c H locs cells slots (z_MQ below Qc args s cells slots free) (F0 m pc ls rest) a := by
  intro T hT X
  obtain ⟨hwalk, hrun, hended, hW, hsame⟩ := X.leaveThrown a (g := F0 m pc ls rest) rfl rfl rfl hout hlocks
  exact ⟨_, hwalk, .threw a, hrun, hended, hq _ hT hW, locs, ⟨hW, hsame⟩, hf⟩
end Z1
section Z2
variable {l : Launch}
theorem z_ofW {y : MethodName} {rm : Room} {Pc : Array Value → State → Prop} {Qc : Array Value → State → Outcome → State → Prop} {mc ms : Nat} {free : Addr → Prop} {cc : ByteArray} {maxL : Nat} {ret : Option FieldType}
    (hy : plainName y.cls = true)
    (body : ∀ p e s m args below meth c s₁, BodyLoose p l y (headSpec [Cond.code y cc maxL ret] rm) cc maxL ret e s m args below meth c s₁ → c.maxLocals = maxL → (∀ x ∈ c.exceptionTable.toList, ∀ pc, covers x pc = false) → Pc args s →
      W p l e rm s m args below meth c s.heap [] 0 0 (z_MQ below Qc args s mc ms free) (entryFrame m args maxL)) : z_Met l y (Cond.code y cc maxL ret) rm Pc Qc mc ms free := by
  refine MetFree.of_bodyS (code := cc) (maxLocals := maxL) (ret := ret) hy ?_ ?_
  · intro args s m h hn
    obtain ⟨meth, c, h1, h2, h3, h4, h5, h6, -, -⟩ := Cond.code_spec hn (atoms_spec (ws := [Cond.code y cc maxL ret]) h _ List.mem_cons_self)
    exact ⟨meth, c, h1, h2, h3, h4, h5, h6⟩
  · intro p e s m args below meth c s₁ B hml hP _
    have hh0 : s₁.heap = s.heap := by rw [B.state]; rfl
    have hemp := B.noHandlers (atoms_spec (ws := [Cond.code y cc maxL ret]) B.pre _ List.mem_cons_self)
    have hout : ∀ x ∈ c.exceptionTable.toList, ∀ pc, covers x pc = false := by
      have h0 : c.exceptionTable.size = 0 := by simpa [Array.isEmpty] using hemp
      have h1 : c.exceptionTable.toList = [] := List.eq_nil_of_length_eq_zero (by simpa using h0)
      intro x hx
      rw [h1] at hx
      cases hx
    obtain ⟨t, a1, o, b1, b2, b3⟩ := body p e s m args below meth c s₁ B hml hout hP s₁ hh0 (Stand.of_body B)
    exact ⟨t, o, a1, b1, b2, ⟨b3.1, b3.2⟩⟩
theorem z_ofWW {y : MethodName} {rm : Room} {Pc : Array Value → State → Prop} {Qc : Array Value → State → Outcome → State → Prop} {mc ms : Nat} {free : Addr → Prop} {cc : ByteArray} {maxL : Nat} {ret : Option FieldType} {hh : List (Nat × Nat × Nat × Nat)}
    (hy : plainName y.cls = true)
    (body : ∀ p e s m args below meth c s₁, BodyLoose p l y (headSpec [Cond.codeWith y cc maxL ret hh] rm) cc maxL ret e s m args below meth c s₁ → c.maxLocals = maxL → c.exceptionTable.toList.map (fun h => (h.startPc, h.endPc, h.handlerPc, h.catchType)) = hh → Pc args s →
      W p l e rm s m args below meth c s.heap [] 0 0 (z_MQ below Qc args s mc ms free) (entryFrame m args maxL)) : z_Met l y (Cond.codeWith y cc maxL ret hh) rm Pc Qc mc ms free := by
  refine MetFree.of_bodyS (code := cc) (maxLocals := maxL) (ret := ret) hy ?_ ?_
  · intro args s m h hn
    obtain ⟨m9, meth, c, hn9, h1, h2, h3, h4, -, h5, h6, -⟩ := Cond.codeWith_spec (atoms_spec (ws := [Cond.codeWith y cc maxL ret hh]) h _ List.mem_cons_self)
    cases hn.symm.trans hn9
    exact ⟨meth, c, h1, h2, h3, h4, h5, h6⟩
  · intro p e s m args below meth c s₁ B hml hP _
    have hh0 : s₁.heap = s.heap := by rw [B.state]; rfl
    obtain ⟨m9, meth9, c9, hn9, g1, g2, -, -, g5, -⟩ := Cond.codeWith_spec (atoms_spec (ws := [Cond.codeWith y cc maxL ret hh]) B.pre _ List.mem_cons_self)
    cases B.named.symm.trans hn9
    cases B.method.symm.trans g1
    cases (Stand.of_body B).code.symm.trans g2
    obtain ⟨t, a1, o, b1, b2, b3⟩ := body p e s m args below meth c s₁ B hml g5 hP s₁ hh0 (Stand.of_body B)
    exact ⟨t, o, a1, b1, b2, ⟨b3.1, b3.2⟩⟩
end Z2
/-- the word that names a method's code gives its locals -/
def z_wk (w : Cond) (y : MethodName) (maxL : Nat) : Prop := ∀ (a : Array Value) (U : State) (mk : MethodId), w.before a U = true → U.methodNamed? y = some mk → ∃ methY cY, U.vm.method? mk = some methY ∧ methY.code = some cY ∧ cY.maxLocals = maxL
theorem z_wk0 {y : MethodName} {cc : ByteArray} {maxL : Nat} {ret : Option FieldType} : z_wk (Cond.code y cc maxL ret) y maxL := fun a U mk h hn => by
  obtain ⟨methY, cY, hmY, hcY, -, hlY, -, -, -, -⟩ := Cond.code_spec hn h
  exact ⟨methY, cY, hmY, hcY, hlY⟩
theorem z_wkW {y : MethodName} {cc : ByteArray} {maxL : Nat} {ret : Option FieldType} {hh : List (Nat × Nat × Nat × Nat)} : z_wk (Cond.codeWith y cc maxL ret hh) y maxL := fun a U mk h hn => by
  obtain ⟨m9, methY, cY, hn9, hmY, hcY, -, hlY, -⟩ := Cond.codeWith_spec h
  cases hn.symm.trans hn9
  exact ⟨methY, cY, hmY, hcY, hlY⟩
section Z3
variable {p : Program} {l : Launch} {e : Env} {R : Room} {s : State} {m : MethodId} {args : Array Value} {below : List Frame} {meth : Method} {c : Code} {H : Heap} {locs : List Loc} {cells slots : Nat} {Q : State → Prop}
/-- a callee by its contract, at a point where the walk stands -/
theorem z_back {y : MethodName} {w : Cond} {rm : Room} {Pc : Array Value → State → Prop} {Qc : Array Value → State → Outcome → State → Prop} {mc ms maxL len : Nat} {free : Addr → Prop}
    (hM : z_Met l y w rm Pc Qc mc ms free) (hblind : FrameBlind Pc) (hrc : rm.cells = mc) (hrs : rm.slots = ms) (hframes : rm.frames + 1 ≤ R.frames) (hlocals : 8 + (maxL + 11) + rm.locals ≤ R.locals)
    (hw : ∀ (a' : Array Value) (U : State), s.WarmedH U.vm → w.before a' U = true) (hwc : z_wk w y maxL) (hinit : ∀ (a' : Array Value) (U : State), s.WarmedH U.vm → (Cond.initialized y.cls).before a' U = true)
    {U : State} (X : Stand p l e R s m args below meth c U locs cells slots) {g : JFrame} (hg : g.method = m) (hsize : g.locals.size = c.maxLocals) {ig : Instr} (hdg : decode c.code g.pc = .ok (ig, len))
    (hW : 2 * g.monitorRoom + (g.stack.map fun v => v.category).sum ≤ 8) {mk : MethodId} (hn : U.methodNamed? y = some mk) {a : Array Value} (hc1 : cells + mc ≤ R.cells) (hs1 : slots + ms ≤ R.slots) (hp : Pc a U) :
    ∃ (o : Outcome) (t B : State) (L : List Loc), Stand p l e R s m args below meth c B (locs ++ L) (cells + mc) (slots + ms) ∧ B.heap = t.heap ∧ B.vm = t.vm ∧ Qc a (U.calling g mk a) o t ∧ (∀ q ∈ L, free q.base) ∧
      (∀ v, o = .returned v → Steps p.tables e below (doInvoke e (U.setTop g) [] mk a).1 (B.setTop { g with pc := g.pc + len, stack := v.toList ++ g.stack })) ∧
      (∀ x, o = .threw x → Steps p.tables e below (doInvoke e (U.setTop g) [] mk a).1 ((B.setTop g).pushFrame (.throwing x))) := by
  obtain ⟨methY, cY, hmY, hcY, hlY⟩ := hwc a U mk (hw a U X.warmed) hn
  obtain ⟨kY, hkY, -⟩ := className_of_methodNamed hn
  have hinitY : kY.init = .initialized := Cond.initialized_spec (findClass_of_methodNamed hn) hkY (hinit a U X.warmed)
  have h : At U g.method c below := by rw [hg]; exact X.here
  have hpre : (headSpec [w] rm).pre.before a U = true := atoms_intro fun w' hw' => by rw [List.mem_singleton.mp hw']; exact hw a U X.warmed
  have hlocals' : 8 + (cY.maxLocals + 11) + (headSpec [w] rm).room.locals ≤ R.locals := by rw [hlY]; exact hlocals
  have happ : (headSpec [w] rm).appliesLoose y e.platform (U.calling g mk a) = true :=
    Spec.appliesLoose_calling (g := g) h hdg hn hkY hinitY
      (X.room_calling (g := g) (R' := (headSpec [w] rm).room) hsize hmY hcY hframes (by omega) (by rw [show (headSpec [w] rm).room.cells = mc from hrc]; exact hc1) (by rw [show (headSpec [w] rm).room.slots = ms from hrs]; exact hs1)) hpre
  obtain ⟨mid, hmid⟩ := h.above
  have hfr : (U.setTop g).frames = (.java g :: mid) ++ below := by rw [State.frames_setTop' g h.top, hmid]; rfl
  obtain ⟨o, s₂, hsteps, -, hend, hq⟩ := Steps.callFree hM p X.admits X.cas X.clock (acts := []) hfr happ (hblind _ _ _ _ hp) trivial
  have hq' : Qc a (U.calling g mk a) o s₂ ∧ ∃ L, z_FE (U.calling g mk a) s₂ L mc ms ∧ ∀ q ∈ L, free q.base := hq
  rw [State.frames_setTop' g h.top, X.tail] at hend
  obtain ⟨hQ, L, hfe, hL⟩ := hq'
  cases o with
  | returned v =>
    obtain ⟨T', X', -, -, ht⟩ := X.outOf hg hdg hend hfe.1 hfe.2
    refine ⟨.returned v, s₂, T', L, X', ?_, ?_, hQ, hL, fun v' hv => ?_, fun x hx => by cases hx⟩
    · rw [ht]; rfl
    · rw [ht]; rfl
    · cases hv
      rw [← ht]
      exact hsteps
  | threw x =>
    obtain ⟨T', X', -, -, ht⟩ := X.outOfThrown hg hend hfe.1 hfe.2
    refine ⟨.threw x, s₂, T', L, X', ?_, ?_, hQ, hL, fun v hv => (by cases hv), fun x' hx => ?_⟩
    · rw [ht, Stand.throwing_heap]
    · rw [ht, Stand.throwing_vm]
    · cases hx
      rw [← ht]
      exact hsteps
/-- the invoking instruction at g, over 'rest', comes to the method y with the arguments a -/
def z_In (p : Program) (l : Launch) (e : Env) (R : Room) (s : State) (m : MethodId) (args : Array Value) (below : List Frame) (meth : Method) (c : Code) (H : Heap) (g : JFrame) (rest : List Value) (y : MethodName) (a : Array Value) : Prop :=
  ∀ (T : State) (locs : List Loc) (cells slots : Nat), T.heap = H → Stand p l e R s m args below meth c T locs cells slots → ∃ (mk : MethodId) (vm₁ : Vm), s.methodNamed? y = some mk ∧ Stand p l e R s m args below meth c (T.setVm vm₁) locs cells slots ∧
    ∀ target, (∀ acts, Steps p.tables e below (doInvoke e ((T.setVm vm₁).setTop { g with stack := rest }) acts mk a).1 target) → Steps p.tables e below (T.setTop g) target
/-- A CALL: it returns, or it throws -/
theorem z_call {y : MethodName} {w : Cond} {rm : Room} {Pc : Array Value → State → Prop} {Qc : Array Value → State → Outcome → State → Prop} {mc ms maxL : Nat} {free : Addr → Prop} {cc : ByteArray} {pc : Nat} {ls : Array Slot} {st0 rest : List Value} {a : Array Value} {ig : Instr}
    (hI : z_In p l e R s m args below meth c H (F0 m pc ls st0) rest y a) (hb : c.code = cc) (hsize : ls.size = c.maxLocals)
    (hM : z_Met l y w rm Pc Qc mc ms free) (hblind : FrameBlind Pc) (hrc : rm.cells = mc) (hrs : rm.slots = ms) (hframes : rm.frames + 1 ≤ R.frames) (hlocals : 8 + (maxL + 11) + rm.locals ≤ R.locals)
    (hw : ∀ (a' : Array Value) (U : State), s.WarmedH U.vm → w.before a' U = true) (hwc : z_wk w y maxL) (hinit : (Cond.initialized y.cls).before args s = true)
    (hdg : decode cc pc = .ok (ig, 3)) (hW : (rest.map fun v => v.category).sum ≤ 8) (hc1 : cells + mc ≤ R.cells) (hs1 : slots + ms ≤ R.slots)
    (hp : ∀ U : State, U.heap = H → s.WarmedH U.vm → Pc a U)
    (k1 : ∀ (v : Option Value) (st t : State) (L : List Loc), st.heap = H → s.WarmedH t.vm → Qc a st (.returned v) t → (∀ q ∈ L, free q.base) → W p l e R s m args below meth c t.heap (locs ++ L) (cells + mc) (slots + ms) Q (F0 m (pc + 3) ls (v.toList ++ rest)))
    (k2 : ∀ (x : Addr) (st t : State) (L : List Loc), st.heap = H → s.WarmedH t.vm → Qc a st (.threw x) t → (∀ q ∈ L, free q.base) → z_T p l e R s m args below meth c t.heap (locs ++ L) (cells + mc) (slots + ms) Q (F0 m pc ls rest) x) :
    W p l e R s m args below meth c H locs cells slots Q (F0 m pc ls st0) := by
  intro T hT X
  obtain ⟨mk, vm₁, hnm, X₁, hst⟩ := hI T locs cells slots hT X
  obtain ⟨o, t, B, L, XB, e1, e2, hQ, hL, hv, hx⟩ := z_back hM hblind hrc hrs hframes hlocals hw hwc (fun a' U hW => word_at hW (Or.inl (by first | rfl | simp [Cond.onTables, Cond.keeps, Cond.steady])) hinit) X₁ (g := F0 m pc ls rest) rfl hsize (by rw [hb]; exact hdg) (lv_room hW) (X₁.named hnm) hc1 hs1 (hp (T.setVm vm₁) hT X₁.warmed)
  have hWt : s.WarmedH t.vm := by rw [← e2]; exact XB.warmed
  cases o with
  | returned v =>
    obtain ⟨t2, a1, b1⟩ := k1 v _ t L (by exact hT) hWt hQ hL B e1 XB
    exact ⟨t2, hst _ fun acts => by rw [doInvoke_state]; exact (hv v rfl).trans a1, b1⟩
  | threw x =>
    obtain ⟨t2, a1, b1⟩ := k2 x _ t L (by exact hT) hWt hQ hL B e1 XB
    exact ⟨t2, hst _ fun acts => by rw [doInvoke_state]; exact (hx x rfl).trans a1, b1⟩
end Z3
end
section
/-! ===== worlds as maps from addresses to what lies there ===== -/
abbrev zM : Type := Nat → Option va_E
def z_up (X : zM) (a : Nat) (e : va_E) : zM := fun q => if q = a then some e else X q
theorem z_eq (X : zM) (a : Nat) (e : va_E) : z_up X a e a = some e := if_pos rfl
theorem z_ne {X : zM} {a q : Nat} {e : va_E} (h : q ≠ a) : z_up X a e q = X q := if_neg h
theorem z_upup (X : zM) (a : Nat) (e e' : va_E) : z_up (z_up X a e) a e' = z_up X a e' := by
  funext q
  unfold z_up
  by_cases h : q = a <;> simp [h]
/-- two entries of other kinds lie apart -/
theorem z_oo {X : zM} {a b ci cj : Nat} {fs gs : List Value} (ha : X a = some (.inr (ci, fs))) (hb : X b = some (.inr (cj, gs))) (h : ci ≠ cj) : a ≠ b := fun q => by
  subst q
  rw [ha] at hb
  cases hb
  exact h rfl
theorem z_oa {X : zM} {a b ci : Nat} {fs : List Value} {z : ClassId × vp_A} (ha : X a = some (.inr (ci, fs))) (hb : X b = some (.inl z)) : a ≠ b := fun q => by
  subst q
  rw [ha] at hb
  cases hb
theorem z_ao {X : zM} {a b ci : Nat} {fs : List Value} {z : ClassId × vp_A} (ha : X a = some (.inl z)) (hb : X b = some (.inr (ci, fs))) : a ≠ b := fun q => (z_oa hb ha) q.symm
def z_W (D : va_G) (cl : List vw_C) (X : zM) (H : Heap) : Prop := ∀ (a : Nat) (e : va_E), X a = some e → va_at D cl (a, e) H
section Z4
variable {D : va_G} {cl : List vw_C} {X : zM} {H H1 : Heap} {a : Nat} {e : va_E}
theorem z_W.one (h : z_W D cl X H) (ha : X a = some e) : va_P D cl [(a, e)] H := by
  intro k q hk
  match k, hk with
  | 0, hk => cases hk; exact h a e ha
  | k + 1, hk => simp at hk
theorem z_W.lt (h : z_W D cl X H) (ha : X a = some e) : a < H.size := (h a e ha).lt
theorem z_W.set (h : z_W D cl X H) (he : va_at D cl (a, e) H1) (oq : ∀ q : Nat, q ≠ a → H1[q]? = H[q]?) : z_W D cl (z_up X a e) H1 := by
  intro b e' hb
  unfold z_up at hb
  by_cases hq : b = a
  · rw [if_pos hq] at hb
    cases hb
    subst hq
    exact he
  · rw [if_neg hq] at hb
    exact (h b e' hb).kept (oq b hq)
theorem z_W.grow (h : z_W D cl X H) (oq : ∀ q : Nat, q < H.size → H1[q]? = H[q]?) : z_W D cl X H1 := fun b e' hb => (h b e' hb).kept (oq b (h.lt hb))
theorem z_W.push (h : z_W D cl X H) (he : va_at D cl (H.size, e) H1) (oq : ∀ q : Nat, q < H.size → H1[q]? = H[q]?) : z_W D cl (z_up X H.size e) H1 := by
  intro b e' hb
  unfold z_up at hb
  by_cases hq : b = H.size
  · rw [if_pos hq] at hb
    cases hb
    subst hq
    exact he
  · rw [if_neg hq] at hb
    exact (h b e' hb).kept (oq b (h.lt hb))
end Z4
/-- a walk so far, in a method that began with the world X0 over the heap H0: the world is X now; what is not in X0 has not changed; nothing below lo is written -/
def z_S (D : va_G) (cl : List vw_C) (lo : Nat) (X0 : zM) (H0 : Heap) (X : zM) (H : Heap) (locs : List Loc) : Prop :=
  z_W D cl X H ∧ H0.size ≤ H.size ∧ (∀ q : Nat, q < H0.size → X0 q = none → H[q]? = H0[q]?) ∧ (∀ z ∈ locs, lo ≤ z.base) ∧ (∀ q, X q ≠ none → X0 q ≠ none ∨ H0.size ≤ q) ∧ (∀ q, X0 q ≠ none → lo ≤ q) ∧ lo ≤ H0.size
theorem z_S.start {D : va_G} {cl : List vw_C} {lo : Nat} {X : zM} {H : Heap} (h : z_W D cl X H) (h1 : ∀ q, X q ≠ none → lo ≤ q) (h2 : lo ≤ H.size) : z_S D cl lo X H X H [] :=
  ⟨h, Nat.le_refl _, fun _ _ _ => rfl, (fun _ h => nomatch h), fun _ h => Or.inl h, h1, h2⟩
section ZS
variable {D : va_G} {cl : List vw_C} {lo : Nat} {X0 X : zM} {H0 H H1 : Heap} {locs : List Loc} {a : Nat}
theorem z_S.low (h : z_S D cl lo X0 H0 X H locs) {q : Nat} (hq : X q ≠ none) : lo ≤ q := (h.2.2.2.2.1 q hq).elim (h.2.2.2.2.2.1 q) (fun z => Nat.le_trans h.2.2.2.2.2.2 z)
theorem z_S.under (h : z_S D cl lo X0 H0 X H locs) {q : Nat} (hq : q < lo) : H[q]? = H0[q]? := h.2.2.1 q (Nat.lt_of_lt_of_le hq h.2.2.2.2.2.2) (by
  cases hx : X0 q with
  | none => rfl
  | some e => exact absurd (h.2.2.2.2.2.1 q (by rw [hx]; exact fun z => by cases z)) (Nat.not_le.mpr hq))
theorem z_S.va (h : z_S D cl lo X0 H0 X H locs) : va_S (fun q => lo ≤ q) H0 H locs := ⟨h.2.1, fun q _ h2 => h.under (Nat.not_le.mp h2), h.2.2.2.1⟩
/-- a store at a -/
theorem z_S.set {e0 e1 : va_E} {i : Nat} (hS : z_S D cl lo X0 H0 X H locs) (ha : X a = some e0) (he : va_at D cl (a, e1) H1) (z : H1.size = H.size) (oq : ∀ q : Nat, q ≠ a → H1[q]? = H[q]?) : z_S D cl lo X0 H0 (z_up X a e1) H1 (locs ++ [⟨a, i⟩]) := by
  have hne : X a ≠ none := by rw [ha]; exact fun h => by cases h
  refine ⟨hS.1.set he oq, by rw [z]; exact hS.2.1, fun q h1 h2 => ?_, fun q hq => ?_, fun q hq => ?_, hS.2.2.2.2.2⟩
  · have hqa : q ≠ a := fun h => by
      subst h
      rcases hS.2.2.2.2.1 q hne with h3 | h3
      · exact h3 h2
      · omega
    rw [oq q hqa]
    exact hS.2.2.1 q h1 h2
  · rcases List.mem_append.mp hq with h | h
    · exact hS.2.2.2.1 q h
    · rw [List.mem_singleton.mp h]
      exact hS.low hne
  · unfold z_up at hq
    by_cases hqa : q = a
    · subst hqa; exact hS.2.2.2.2.1 q hne
    · rw [if_neg hqa] at hq; exact hS.2.2.2.2.1 q hq
/-- a new cell -/
theorem z_S.push {e0 : va_E} (hS : z_S D cl lo X0 H0 X H locs) (he : va_at D cl (H.size, e0) H1) (z1 : H1.size = H.size + 1) (o1 : ∀ q : Nat, q < H.size → H1[q]? = H[q]?) : z_S D cl lo X0 H0 (z_up X H.size e0) H1 locs := by
  refine ⟨hS.1.push he o1, by rw [z1]; exact Nat.le_succ_of_le hS.2.1, fun q h1 h2 => (o1 q (Nat.lt_of_lt_of_le h1 hS.2.1)).trans (hS.2.2.1 q h1 h2), hS.2.2.2.1, fun q hq => ?_, hS.2.2.2.2.2⟩
  unfold z_up at hq
  by_cases hqa : q = H.size
  · subst hqa; exact Or.inr hS.2.1
  · rw [if_neg hqa] at hq; exact hS.2.2.2.2.1 q hq
/-- .. that is nobody's -/
theorem z_S.grow (hS : z_S D cl lo X0 H0 X H locs) (z1 : H.size ≤ H1.size) (o1 : ∀ q : Nat, q < H.size → H1[q]? = H[q]?) : z_S D cl lo X0 H0 X H1 locs :=
  ⟨hS.1.grow o1, Nat.le_trans hS.2.1 z1, fun q h1 h2 => (o1 q (Nat.lt_of_lt_of_le h1 hS.2.1)).trans (hS.2.2.1 q h1 h2), hS.2.2.2⟩
end ZS
section Z5
variable {p : Program} {l : Launch} {e : Env} {R : Room} {s : State} {m : MethodId} {args : Array Value} {below : List Frame} {meth : Method} {c : Code} {H : Heap} {locs : List Loc} {cells slots : Nat} {Q : State → Prop}
variable {cc : ByteArray} {pc : Nat} {ls : Array Slot} {rest : List Value} {D : va_G} {cl : List vw_C} {lo a : Nat} {tys : List (ClassId × FieldType)} {X0 X : zM} {H0 : Heap}
theorem z_get (hexec : p.tables.exec = Jvm.exec) (hb : c.code = cc) {own ref C : String} {T : u_T} {N ci index : Nat} {Ts : List Cond} (hts : ∀ w ∈ Ts, w.before args s = true) (hin : ∀ w ∈ u_ws C T N, w ∈ Ts) (hown : s.vm.findClass own = some m.cls) (hK : va_K D cl tys s) (hS : z_S D cl lo X0 H0 X H locs) {fs : List Value} (he : X a = some (.inr (ci, fs))) (hc : cl[ci]? = some (C, T, N)) (k : Nat) (hk : k < N) (hlink : (Cond.fieldLink own index ref (T k).2.1 (T k).2.2.1).before args s = true) (hsame : ∀ x, s.fieldFound? (T k).1 (T k).2.1 (T k).2.2.1 = some x → s.fieldFound? ref (T k).2.1 (T k).2.2.1 = some x) {v : Value} (hv : fs[k]? = some v) (hdg : decode cc pc = .ok (.getfield index, 3))
    (kk : W p l e R s m args below meth c H locs cells slots Q (F0 m (pc + 3) ls (v :: rest))) : W p l e R s m args below meth c H locs cells slots Q (F0 m pc ls (.ref a :: rest)) :=
  va_get hexec hb hts hin hown hK (hS.1.one he) 0 rfl hc k hk hlink hsame hv hdg kk
theorem z_put (hexec : p.tables.exec = Jvm.exec) (hb : c.code = cc) {own ref C : String} {T : u_T} {N ci index : Nat} {Ts : List Cond} (hts : ∀ w ∈ Ts, w.before args s = true) (hin : ∀ w ∈ u_ws C T N, w ∈ Ts) (ty0 : Nat → FieldType) (hty : ∀ k, k < N → parseFieldDescriptor (T k).2.2.1 = some (ty0 k)) (hnm : ∀ a, a < N → ∀ b, b < N → a ≠ b → (T a).2.1 ≠ (T b).2.1) (hown : s.vm.findClass own = some m.cls) (hK : va_K D cl tys s) (hS : z_S D cl lo X0 H0 X H locs) {fs : List Value} (he : X a = some (.inr (ci, fs))) (hc : cl[ci]? = some (C, T, N)) (k : Nat) (hk : k < N) (hlink : (Cond.fieldLink own index ref (T k).2.1 (T k).2.2.1).before args s = true) (hsame : ∀ x, s.fieldFound? (T k).1 (T k).2.1 (T k).2.2.1 = some x → s.fieldFound? ref (T k).2.1 (T k).2.2.1 = some x) (hfin : (T k).2.2.2 = false) {ty : FieldType} {v : Value} (hd : parseFieldDescriptor (T k).2.2.1 = some ty) (hn : narrow ty v = v) (hfit : fits ty v = true) (hl : k < fs.length)
    (hdg : decode cc pc = .ok (.putfield index, 3)) {fs' : List Value} (hfs : fs.set k v = fs') (kk : ∀ (H1 : Heap) (locs1 : List Loc), z_S D cl lo X0 H0 (z_up X a (.inr (ci, fs'))) H1 locs1 → W p l e R s m args below meth c H1 locs1 cells slots Q (F0 m (pc + 3) ls rest)) : W p l e R s m args below meth c H locs cells slots Q (F0 m pc ls (v :: .ref a :: rest)) := by
  subst hfs
  have hap := va_apart (own := own) hts hin ty0 hty hnm hK hc
  obtain ⟨r, h1, cell, q1, q2, q3, q4⟩ := hS.1 a _ he
  have hr : r = (C, T, N) := Option.some.inj (h1.symm.trans hc)
  subst hr
  obtain ⟨hSl, hfc, kC, hkC, hkind⟩ := hK.1 ci _ hc
  obtain ⟨cf, kf, fi, f, hi, hsl⟩ := hSl k hk
  have hlay := hts _ (hin _ (u_in_lay hk))
  unfold u_lay at hlay
  rw [if_neg (by rw [hfin]; decide)] at hlay
  have hst := (u_facts hfc hkC (u_lays hts hin hk) hi).1
  have h6 := u_store hfc hkC hkind hlay hi hd hn hfit
  refine W.putK hexec hb (f := f) ⟨hown, hlink, ⟨_, _, _, hsame _ hi⟩, hst⟩ (by rw [q2]; exact h6) q1 q3 (by rw [hsl]; exact k2_hasslot (q4 k hk)) rfl rfl hdg fun H' e1 e2 e3 => ?_
  rw [hsl] at e1 ⊢
  exact kk H' _ (hS.set he ⟨_, hc, t_OB.to (V := updV (vp_V fs) k v) ⟨_, e1, q2, q3, t_set q4 hap hk v⟩ (fun j _ => vp_updV_set hl v j)⟩ e2 e3)
theorem z_putF (hexec : p.tables.exec = Jvm.exec) (hb : c.code = cc) {own ref C : String} {T : u_T} {N ci index : Nat} {Ts : List Cond} (hts : ∀ w ∈ Ts, w.before args s = true) (hin : ∀ w ∈ u_ws C T N, w ∈ Ts) (ty0 : Nat → FieldType) (hty : ∀ k, k < N → parseFieldDescriptor (T k).2.2.1 = some (ty0 k)) (hnm : ∀ a, a < N → ∀ b, b < N → a ≠ b → (T a).2.1 ≠ (T b).2.1) (hown : s.vm.findClass own = some m.cls) (hK : va_K D cl tys s) (hS : z_S D cl lo X0 H0 X H locs) {fs : List Value} (he : X a = some (.inr (ci, fs))) (hc : cl[ci]? = some (C, T, N)) (k : Nat) (hk : k < N) (hlink : (Cond.fieldLink own index ref (T k).2.1 (T k).2.2.1).before args s = true) (hsame : ∀ x, s.fieldFound? (T k).1 (T k).2.1 (T k).2.2.1 = some x → s.fieldFound? ref (T k).2.1 (T k).2.2.1 = some x) (hfin : (T k).2.2.2 = true) (hin2 : meth.name = "<init>") (hdecl : (T k).1 = own) {ty : FieldType} {v : Value} (hd : parseFieldDescriptor (T k).2.2.1 = some ty) (hn : narrow ty v = v) (hfit : fits ty v = true) (hl : k < fs.length)
    (hdg : decode cc pc = .ok (.putfield index, 3)) {fs' : List Value} (hfs : fs.set k v = fs') (kk : ∀ (H1 : Heap) (locs1 : List Loc), z_S D cl lo X0 H0 (z_up X a (.inr (ci, fs'))) H1 locs1 → W p l e R s m args below meth c H1 locs1 cells slots Q (F0 m (pc + 3) ls rest)) : W p l e R s m args below meth c H locs cells slots Q (F0 m pc ls (v :: .ref a :: rest)) := by
  subst hfs
  have hap := va_apart (own := own) hts hin ty0 hty hnm hK hc
  obtain ⟨r, h1, cell, q1, q2, q3, q4⟩ := hS.1 a _ he
  have hr : r = (C, T, N) := Option.some.inj (h1.symm.trans hc)
  subst hr
  obtain ⟨hSl, hfc, kC, hkC, hkind⟩ := hK.1 ci _ hc
  obtain ⟨cf, kf, fi, f, hi, hsl⟩ := hSl k hk
  have hlay := hts _ (hin _ (u_in_lay hk))
  unfold u_lay at hlay
  rw [if_pos hfin] at hlay
  have hst := (u_facts hfc hkC (u_lays hts hin hk) hi).1
  have hcf : m.cls = cf := by
    obtain ⟨_, _, c', _, _, _, -, -, hf', -, -, -, hown2, -⟩ := Cond.laysFinal_spec hlay
    have e1 : c' = cf := by have := hi.symm.trans hf'; simp at this; exact this.1.symm
    rw [hdecl] at hown2
    rw [← e1]; exact Option.some.inj (hown.symm.trans hown2)
  have h6 := u_fits hfc hkC hkind (Or.inr hlay) hi hd hn hfit
  refine W.putFinK hexec hb hown hlink (hsame _ hi) hst hcf hin2 (by rw [q2]; exact h6) q1 q3 (by rw [hsl]; exact k2_hasslot (q4 k hk)) rfl rfl hdg fun H' e1 e2 e3 => ?_
  rw [hsl] at e1 ⊢
  exact kk H' _ (hS.set he ⟨_, hc, t_OB.to (V := updV (vp_V fs) k v) ⟨_, e1, q2, q3, t_set q4 hap hk v⟩ (fun j _ => vp_updV_set hl v j)⟩ e2 e3)
theorem z_new (hexec : p.tables.exec = Jvm.exec) (hb : c.code = cc) {own C : String} {T : u_T} {N ci index : Nat} {Ts : List Cond} (hts : ∀ w ∈ Ts, w.before args s = true) (hin : ∀ w ∈ u_ws C T N, w ∈ Ts) (ty : Nat → FieldType) (hty : ∀ k, k < N → parseFieldDescriptor (T k).2.2.1 = some (ty k)) (hown : s.vm.findClass own = some m.cls) (hcl : (Cond.classLink own index C).before args s = true) (hinst : (Cond.instantiable C N).before args s = true) (hini : (Cond.initialized C).before args s = true)
    (hK : va_K D cl tys s) (hS : z_S D cl lo X0 H0 X H locs) (hc : cl[ci]? = some (C, T, N)) {fs : List Value} (hfs : ∀ j, j < N → defaultValue (ty j) = vp_V fs j) (hcells : cells + 1 ≤ R.cells) (hslots : slots + N ≤ R.slots) (hdg : decode cc pc = .ok (.new index, 3))
    (kk : ∀ (q : Nat) (H1 : Heap), (∀ e1, X q = some e1 → False) → z_S D cl lo X0 H0 (z_up X q (.inr (ci, fs))) H1 locs → W p l e R s m args below meth c H1 locs (cells + 1) (slots + N) Q (F0 m (pc + 3) ls (.ref q :: rest))) : W p l e R s m args below meth c H locs cells slots Q (F0 m pc ls rest) := by
  have hKn := hK.1 ci _ hc
  refine W.newcK hexec hb hown hcl hinst hini rfl hdg hcells hslots hKn.2.1 rfl fun H1 kC hkC e1 z1 o1 => ?_
  exact kk H.size H1 (fun e1 h => Nat.lt_irrefl _ (hS.1.lt h)) (hS.push ⟨_, hc, (u_born ty hts hin hKn hkC e1 hty).to hfs⟩ z1 o1)
theorem z_newq (hexec : p.tables.exec = Jvm.exec) (hb : c.code = cc) {own C : String} {index t0 : Nat} {cA : ClassId} (hown : s.vm.findClass own = some m.cls) (hclink : (Cond.classLink own index C).before args s = true) (hover : (Cond.arrayOver (.object C)).before args s = true) (hK : va_K D cl tys s) (ht : tys[t0]? = some (cA, .object C)) (hS : z_S D cl lo X0 H0 X H locs)
    {n : Int32} {N' : Nat} (hn : ¬ n < 0) (hN : n.toNatClampNeg = N') (hbytes : N' * 4 ≤ 536870912) (hcells : cells + 1 ≤ R.cells) (hslots : slots + N' ≤ R.slots) (hdg : decode cc pc = .ok (.anewarray index, 3))
    (kk : ∀ (q : Nat) (H1 : Heap), (∀ e1, X q = some e1 → False) → z_S D cl lo X0 H0 (z_up X q (.inl (cA, N', .inr (.inr (.inr (.inr (fun _ => none))))))) H1 locs → W p l e R s m args below meth c H1 locs (cells + 1) (slots + N') Q (F0 m (pc + 3) ls (.ref q :: rest))) : W p l e R s m args below meth c H locs cells slots Q (F0 m pc ls (.int n :: rest)) := by
  subst hN
  refine W.anew hexec hb hown hclink hover rfl hdg rfl hn hbytes hcells hslots fun cA' kA comp f1 f2 f3 f4 => ?_
  obtain ⟨kA2, comp2, k1, k2, k3, k4⟩ := (hK.2 t0 _ ht).2
  have hcA : cA' = cA := Option.some.inj (f1.symm.trans k4)
  subst hcA
  generalize hH1 : H.push ({ cls := cA', slots := Array.replicate n.toNatClampNeg .null, vm := .none } : Cell) = H1
  have z1 : H1.size = H.size + 1 := by rw [← hH1, Array.size_push]
  have e1 : H1[H.size]? = some (arrV cA' n.toNatClampNeg (fun _ => .null)) := by rw [← hH1, Array.getElem?_push_size, ← arrV_new]
  have o1 : ∀ q : Nat, q < H.size → H1[q]? = H[q]? := fun q hq => by rw [← hH1, Array.getElem?_push, if_neg (Nat.ne_of_lt hq)]
  refine kk H.size H1 (fun e1 h => Nat.lt_irrefl _ (hS.1.lt h)) (hS.push ?_ z1 o1)
  show H1[H.size]? = some (vp_cell _ _)
  rw [vp_cell_q]
  exact e1
theorem z_aald (hexec : p.tables.exec = Jvm.exec) (hb : c.code = cc) (hK : va_K D cl tys s) (hS : z_S D cl lo X0 H0 X H locs) (t0 : Nat) {cA : ClassId} {C : String} {n : Nat} {f : Nat → Option Nat} (ha : X a = some (.inl (cA, n, .inr (.inr (.inr (.inr f)))))) (ht : tys[t0]? = some (cA, .object C)) {i : Int32} (hin : vp_in i n) (hdg : decode cc pc = .ok (.aaload, 1)) {r : Option Nat} (hr : f i.toNatClampNeg = r)
    (kk : W p l e R s m args below meth c H locs cells slots Q (F0 m (pc + 1) ls (va_rf r :: rest))) : W p l e R s m args below meth c H locs cells slots Q (F0 m pc ls (.int i :: .ref a :: rest)) := by
  subst hr
  exact va_aldq hexec hb hK (hS.1.one ha) 0 t0 rfl ht hin hdg kk
theorem z_alen (hexec : p.tables.exec = Jvm.exec) (hb : c.code = cc) (hK : va_K D cl tys s) (hS : z_S D cl lo X0 H0 X H locs) (t0 : Nat) {cA : ClassId} {x : vp_A} (ha : X a = some (.inl (cA, x))) {ty : FieldType} (ht : tys[t0]? = some (cA, ty)) {v : Int32} (hv : Int32.ofNat x.1 = v) (hdg : decode cc pc = .ok (.arraylength, 1))
    (kk : W p l e R s m args below meth c H locs cells slots Q (F0 m (pc + 1) ls (.int v :: rest))) : W p l e R s m args below meth c H locs cells slots Q (F0 m pc ls (.ref a :: rest)) :=
  va_alen hexec hb hK (hS.1.one ha) 0 t0 rfl ht hv hdg kk
theorem z_aast (hexec : p.tables.exec = Jvm.exec) (hb : c.code = cc) (hK : va_K D cl tys s) (hS : z_S D cl lo X0 H0 X H locs) (t0 ci : Nat) {cA : ClassId} {r : vw_C} {n v : Nat} {vs : List Value} {f : Nat → Option Nat} (ha : X a = some (.inl (cA, n, .inr (.inr (.inr (.inr f)))))) (ht : tys[t0]? = some (cA, .object r.1)) (hv : X v = some (.inr (ci, vs))) (hc : cl[ci]? = some r) {i : Int32} (hin : vp_in i n) (hdg : decode cc pc = .ok (.aastore, 1))
    (kk : ∀ (H1 : Heap) (locs1 : List Loc), z_S D cl lo X0 H0 (z_up X a (.inl (cA, n, .inr (.inr (.inr (.inr (va_up f i.toNatClampNeg (some v)))))))) H1 locs1 → W p l e R s m args below meth c H1 locs1 cells slots Q (F0 m (pc + 1) ls rest)) : W p l e R s m args below meth c H locs cells slots Q (F0 m pc ls (.ref v :: .int i :: .ref a :: rest)) := by
  have hlt : i.toNatClampNeg < n := Nat.not_le.mp fun q => hin (Or.inr q)
  have h0 : ¬ i < 0 := fun q => hin (Or.inl q)
  obtain ⟨r', hr', cellV, g1, g2, g3, -⟩ := hS.1 v _ hv
  have hcls := (hK.1 ci r hc).2
  obtain ⟨kA, comp, k1, k2, k3, -⟩ := (hK.2 t0 _ ht).2
  have hcomp : comp = D.1 ci := Option.some.inj (k3.symm.trans hcls.1)
  subst hcomp
  obtain ⟨kC, hkC, -⟩ := hcls.2
  refine W.aast hexec hb (hS.1 a _ ha) (fun q h => by cases h) (fun h => by cases h) k1 k2 rfl hkC ⟨h0, by show _ < (arrV _ _ _).slots.size; rw [arrV_size]; exact hlt⟩ g1 (fun q h => by rw [g3] at h; cases h) (by rw [g2]; exact hkC) (by rw [g2]; exact va_assign hcls) rfl rfl hdg fun H1 e z oq => ?_
  refine kk H1 _ (hS.set ha ?_ z oq)
  show H1[a]? = some (vp_cell _ _)
  rw [e]
  rw [vp_cell_q, vp_cell_q, arrV_store]
  congr 2
  funext q
  by_cases hq : q = i.toNatClampNeg
  · subst hq
    simp [updV, va_up, va_rf]
  · simp [updV, va_up, hq]
theorem z_last (hexec : p.tables.exec = Jvm.exec) (hb : c.code = cc) (hK : va_K D cl tys s) (hS : z_S D cl lo X0 H0 X H locs) (t0 : Nat) {cA : ClassId} {n : Nat} {f : Nat → Int64} (ha : X a = some (.inl (cA, n, .inr (.inl f)))) (ht : tys[t0]? = some (cA, .long)) {i : Int32} {x : Int64} (hin : vp_in i n) (hdg : decode cc pc = .ok (.lastore, 1))
    (kk : ∀ (H1 : Heap) (locs1 : List Loc), z_S D cl lo X0 H0 (z_up X a (.inl (cA, n, .inr (.inl (vp_updL f i.toNatClampNeg x))))) H1 locs1 → W p l e R s m args below meth c H1 locs1 cells slots Q (F0 m (pc + 1) ls rest)) : W p l e R s m args below meth c H locs cells slots Q (F0 m pc ls (.long x :: .int i :: .ref a :: rest)) := by
  refine W.last hexec hb (hS.1 a _ ha) ((hK.2 t0 _ ht).1 n (fun j => .long (f j))) (fun q => by cases q) (by show ¬ (i < 0 ∨ (arrV _ _ _).slots.size ≤ _); rw [arrV_size]; exact hin) rfl rfl hdg fun H1 e z oq => ?_
  refine kk H1 _ (hS.set ha ?_ z oq)
  show H1[a]? = some (vp_cell _ _)
  rw [e]
  rw [vp_cell_l, vp_cell_l, arrV_store]
  congr 2
  funext q
  by_cases hq : q = i.toNatClampNeg
  · subst hq
    simp [updV, vp_updL]
  · simp [updV, vp_updL, hq]
theorem z_lald (hexec : p.tables.exec = Jvm.exec) (hb : c.code = cc) (hK : va_K D cl tys s) (hS : z_S D cl lo X0 H0 X H locs) (t0 : Nat) {cA : ClassId} {n : Nat} {f : Nat → Int64} (ha : X a = some (.inl (cA, n, .inr (.inl f)))) (ht : tys[t0]? = some (cA, .long)) {i : Int32} (hin : vp_in i n) (hdg : decode cc pc = .ok (.laload, 1))
    (kk : W p l e R s m args below meth c H locs cells slots Q (F0 m (pc + 1) ls (.long (f i.toNatClampNeg) :: rest))) : W p l e R s m args below meth c H locs cells slots Q (F0 m pc ls (.int i :: .ref a :: rest)) :=
  va_lald hexec hb hK (hS.1.one ha) 0 t0 rfl ht hin hdg kk
theorem z_iald (hexec : p.tables.exec = Jvm.exec) (hb : c.code = cc) (hK : va_K D cl tys s) (hS : z_S D cl lo X0 H0 X H locs) (t0 : Nat) {cA : ClassId} {n : Nat} {f : Nat → Int32} (ha : X a = some (.inl (cA, n, .inl f))) (ht : tys[t0]? = some (cA, .int)) {i : Int32} (hin : vp_in i n) (hdg : decode cc pc = .ok (.iaload, 1))
    (kk : W p l e R s m args below meth c H locs cells slots Q (F0 m (pc + 1) ls (.int (f i.toNatClampNeg) :: rest))) : W p l e R s m args below meth c H locs cells slots Q (F0 m pc ls (.int i :: .ref a :: rest)) :=
  va_iald hexec hb hK (hS.1.one ha) 0 t0 rfl ht hin hdg kk
theorem z_iast (hexec : p.tables.exec = Jvm.exec) (hb : c.code = cc) (hK : va_K D cl tys s) (hS : z_S D cl lo X0 H0 X H locs) (t0 : Nat) {cA : ClassId} {n : Nat} {f : Nat → Int32} (ha : X a = some (.inl (cA, n, .inl f))) (ht : tys[t0]? = some (cA, .int)) {i x : Int32} (hin : vp_in i n) (hdg : decode cc pc = .ok (.iastore, 1))
    (kk : ∀ (H1 : Heap) (locs1 : List Loc), z_S D cl lo X0 H0 (z_up X a (.inl (cA, n, .inl (upd f i.toNatClampNeg x)))) H1 locs1 → W p l e R s m args below meth c H1 locs1 cells slots Q (F0 m (pc + 1) ls rest)) : W p l e R s m args below meth c H locs cells slots Q (F0 m pc ls (.int x :: .int i :: .ref a :: rest)) := by
  refine W.iast hexec hb (hS.1 a _ ha) ((hK.2 t0 _ ht).1 n (fun j => .int (f j))) (fun q => by cases q) (by show ¬ (i < 0 ∨ (arrV _ _ _).slots.size ≤ _); rw [arrV_size]; exact hin) rfl rfl hdg fun H1 e z oq => ?_
  refine kk H1 _ (hS.set ha ?_ z oq)
  show H1[a]? = some (vp_cell _ _)
  rw [e]
  rw [vp_cell_i, vp_cell_i, arrV_store]
  congr 2
  funext q
  by_cases hq : q = i.toNatClampNeg
  · subst hq
    simp [updV, upd]
  · simp [updV, upd, hq]
end Z5
end
section
/-! ===== entering a callee ===== -/
section Z6
variable {p : Program} {l : Launch} {e : Env} {R : Room} {s : State} {m : MethodId} {args : Array Value} {below : List Frame} {meth : Method} {c : Code} {H : Heap}
/-- the descriptor of y, in the tables -/
def z_sg (s : State) (y : MethodName) : Prop := ∀ (mk : MethodId) (methM : Method), s.methodNamed? y = some mk → s.vm.method? mk = some methM → parseMethodDescriptor y.desc = some methM.sig
theorem z_sg0 {y : MethodName} {cc : ByteArray} {maxL : Nat} {ret : Option FieldType} (h : (Cond.code y cc maxL ret).before args s = true) : z_sg s y := fun mk methM hn hm => by
  obtain ⟨m2, c2, h1, -, -, -, -, -, -, h2⟩ := Cond.code_spec hn h
  cases hm.symm.trans h1
  exact h2
theorem z_sgW {y : MethodName} {cc : ByteArray} {maxL : Nat} {ret : Option FieldType} {hh : List (Nat × Nat × Nat × Nat)} (h : (Cond.codeWith y cc maxL ret hh).before args s = true) : z_sg s y := fun mk methM hn hm => by
  obtain ⟨m9, m2, c2, hn9, h1, -, -, -, -, -, -, h2⟩ := Cond.codeWith_spec h
  cases hn.symm.trans hn9
  cases hm.symm.trans h1
  exact h2
theorem z_len {y : MethodName} {n : Nat} (hd : (parseMethodDescriptor y.desc).map (fun d => d.parameters.length) = some n) {sig : MethodDescriptor} (h : parseMethodDescriptor y.desc = some sig) : n = sig.parameters.length := by
  rw [h] at hd
  exact (Option.some.inj hd).symm
theorem z_inV (hexec : p.tables.exec = Jvm.exec) {own C : String} {index n : Nat} {y : MethodName} (hown : s.vm.findClass own = some m.cls) (hlink : (Cond.methodLink own index y).before args s = true) (hinst : (Cond.instanceMethod y).before args s = true) (hsel : (Cond.selects C y y).before args s = true)
    (hsg : z_sg s y) (hd : y.cls ≠ "java/lang/invoke/MethodHandle" ∧ y.cls ≠ "java/lang/invoke/VarHandle" ∧ (parseMethodDescriptor y.desc).map (fun d => d.parameters.length) = some n)
    {b : Addr} (hr : ∃ cell : Cell, H[b]? = some cell ∧ cell.vm.isStatics = false ∧ s.vm.findClass C = some cell.cls)
    {pc : Nat} {ls : Array Slot} {As rest : List Value} (hlen : As.length = n) (hdg : decode c.code pc = .ok (.invokevirtual index, 3)) :
    z_In p l e R s m args below meth c H (F0 m pc ls (As.reverse ++ .ref b :: rest)) rest y (Value.ref b :: As).toArray := by
  intro T locs cells slots hT X
  obtain ⟨cellB, hcell, hobj, hcls⟩ := hr
  obtain ⟨mk, methM, hnamed, hmethM, hstM, habM⟩ := Cond.instanceMethod_spec hinst
  obtain ⟨c2, r2, m2, q1, q2, q3, q4, kP, hkP, hkPi⟩ := Cond.selects_spec hsel
  cases hcls.symm.trans q1
  cases (State.methodFound?_of_named hnamed ⟨hd.1, hd.2.1⟩).symm.trans q2
  cases hnamed.symm.trans q3
  have hselP : selectMethod e.platform s.vm cellB.cls mk = .method mk := by rw [Launch.admits_selectMethod X.admits]; exact q4
  obtain ⟨vm₁, X₁, hstep₁⟩ := X.invokevirtual hexec hown hlink hnamed hmethM hstM hkP hkPi ⟨hd.1, hd.2.1⟩ (a := b) (cell := cellB) (by rw [hT]; exact hcell)
    (fun z h => by rw [h] at hobj; cases hobj) hselP hmethM habM hkP hkPi (g := F0 m pc ls (As.reverse ++ .ref b :: rest)) rfl (argsL := As) (rest := rest) (hlen.trans (z_len hd.2.2 (hsg _ _ hnamed hmethM))) rfl hdg
  exact ⟨mk, vm₁, hnamed, X₁, hstep₁⟩
theorem z_inS (hexec : p.tables.exec = Jvm.exec) {own : String} {index n : Nat} {y : MethodName} (hown : s.vm.findClass own = some m.cls) (hlink : (Cond.methodLink own index y).before args s = true) (hstat : (Cond.static y).before args s = true) (hini : (Cond.initialized y.cls).before args s = true)
    {mk : MethodId} (hnamed : s.methodNamed? y = some mk) {methM : Method} (hmethM : s.vm.method? mk = some methM)
    (hsg : z_sg s y) (hd : y.cls ≠ "java/lang/invoke/MethodHandle" ∧ y.cls ≠ "java/lang/invoke/VarHandle" ∧ (parseMethodDescriptor y.desc).map (fun d => d.parameters.length) = some n)
    {pc : Nat} {ls : Array Slot} {As rest : List Value} (hlen : As.length = n) (hdg : decode c.code pc = .ok (.invokestatic index, 3)) :
    z_In p l e R s m args below meth c H (F0 m pc ls (As.reverse ++ rest)) rest y As.toArray := by
  intro T locs cells slots hT X
  have hstatic : methM.isStatic = true := Cond.static_spec hnamed hmethM hstat
  obtain ⟨kP, hkP, -⟩ := className_of_methodNamed hnamed
  have hinitP : kP.init = .initialized := Cond.initialized_spec (findClass_of_methodNamed hnamed) hkP hini
  obtain ⟨vm₁, X₁, hstep₁⟩ := X.invokestatic hexec hown hlink hnamed hmethM hstatic hkP hinitP ⟨hd.1, hd.2.1⟩ (g := F0 m pc ls (As.reverse ++ rest)) rfl (argsL := As) (rest := rest) (hlen.trans (z_len hd.2.2 (hsg _ _ hnamed hmethM))) rfl hdg
  exact ⟨mk, vm₁, hnamed, X₁, hstep₁⟩
theorem z_inI (hexec : p.tables.exec = Jvm.exec) {own : String} {index n : Nat} {y : MethodName} {bytes : ByteArray} {maxL : Nat} (hown : s.vm.findClass own = some m.cls) (hy1 : y.name = "<init>") (hlink : (Cond.methodLink own index y).before args s = true) (hinst : (Cond.instanceMethod y).before args s = true)
    (hcode : (Cond.code y bytes maxL none).before args s = true) (hd : y.cls ≠ "java/lang/invoke/MethodHandle" ∧ y.cls ≠ "java/lang/invoke/VarHandle" ∧ (parseMethodDescriptor y.desc).map (fun d => d.parameters.length) = some n)
    {b : Addr} {pc : Nat} {ls : Array Slot} {As rest : List Value} (hlen : As.length = n) (hdg : decode c.code pc = .ok (.invokespecial index, 3)) :
    z_In p l e R s m args below meth c H (F0 m pc ls (As.reverse ++ .ref b :: rest)) rest y (Value.ref b :: As).toArray := by
  intro T locs cells slots hT X
  have hpl : e.platform.magicAccessors = ({} : Platform).magicAccessors := by rw [X.admits.platform]
  obtain ⟨mk, methM, cM, kP, vm₁, hnamed, hmethM, hcodeM, -, hlocalsM, -, hkP, -, hW₁, hstep₁⟩ := Steps.initColdArgs (e := e) X.here hexec X.warmed hpl hown hy1 ⟨hd.1, hd.2.1⟩ hlink hinst hcode (f := F0 m pc ls (As.reverse ++ .ref b :: rest)) rfl (argsL := As) (rest := rest) (a := b) (fun sig h => hlen.trans (z_len hd.2.2 h)) rfl hdg
  exact ⟨mk, vm₁, hnamed, X.noted hW₁, hstep₁⟩
end Z6
/-! ===== what a throw leaves ===== -/
/-- an exception of the class called E lies at a -/
def z_Th (E : String) (a : Nat) (U : State) (H : Heap) : Prop := ∃ ce : Cell, H[a]? = some ce ∧ ce.vm = .none ∧ U.vm.findClass E = some ce.cls
theorem z_Th.moved {E : String} {a : Nat} {u U : State} {H : Heap} (hvm : u.vm.Alike U.vm) (h : z_Th E a u H) : z_Th E a U H := by
  obtain ⟨ce, h1, h2, h3⟩ := h
  exact ⟨ce, h1, h2, by rw [hvm.findClass]; exact h3⟩
theorem z_frame {s U : State} {k n : Nat} (h : s.sameButNew ({ U with vm := s.vm } : State) [] k n) : s.heap.size ≤ U.heap.size ∧ ∀ q : Nat, q < s.heap.size → U.heap[q]? = s.heap[q]? := by
  obtain ⟨-, h2, -, -, -, h6⟩ := h
  refine ⟨h2, fun q hq => ?_⟩
  have hc := Array.getElem?_eq_getElem hq
  obtain ⟨c9, e1, e2, e3, e4⟩ := h6 q _ hc
  have hs : c9.slots = (s.heap[q]).slots := Array.ext_getElem? fun i => e4 i fun hm => by cases hm
  rw [hs] at e2
  have e5 : U.heap[q]? = some c9 := e1
  rw [e5, hc]
  exact congrArg some e2
section Z7
variable {p : Program} {l : Launch} {e : Env} {R : Room} {s : State} {m : MethodId} {args : Array Value} {below : List Frame} {meth : Method} {c : Code} {H : Heap} {cells slots : Nat}
/-- throw new E("text"), where the method has written nothing yet -/
theorem z_throw {Qc : Array Value → State → Outcome → State → Prop} {free : Addr → Prop} {cc : ByteArray} {pc : Nat} {ls : Array Slot} {rest : List Value} (hexec : p.tables.exec = Jvm.exec) (hb : c.code = cc) (hl : l.stackTraces = false) {own cls text : String} {names : List String} {ik is ic mc ms sa : Nat}
    (hown : s.vm.findClass own = some m.cls) (hcls : Bundle.fit cls = true) (hnames : ∀ n ∈ names, Bundle.fit n = true)
    (hk : (Cond.classLink own ik cls).before args s = true) (hini : (Cond.initialized cls).before args s = true) (hstr : vk_R own is text sa s) (hat : ∀ w ∈ Bundle.ownAtoms own ic cls names, w.before args s = true) (hsize : ls.size = c.maxLocals)
    (d0 : decode cc pc = .ok (.new ik, 3)) (d3 : decode cc (pc + 3) = .ok (.dup, 1)) (d4 : decode cc (pc + 4) = .ok (.ldc is, 2)) (d6 : decode cc (pc + 6) = .ok (.invokespecial ic, 3)) (d9 : decode cc (pc + 9) = .ok (.athrow, 1))
    (hout : ∀ x ∈ c.exceptionTable.toList, covers x (pc + 9) = false)
    (hRframes : names.length + 3 < R.frames) (hRlocals : (rest.map fun v => v.category).sum + (13 * (names.length + 1) + 43) ≤ R.locals) (hRcells : cells + 1 ≤ R.cells) (hRslots : slots + 6 ≤ R.slots) (hlocks : meth.locks = false)
    (hx : ∀ (a : Addr) (t : State), s.WarmedH t.vm → s.heap.size ≤ t.heap.size → (∀ q : Nat, q < s.heap.size → t.heap[q]? = s.heap[q]?) → z_Th cls a t t.heap → Qc args s (.threw a) t) (hc : cells + 1 ≤ mc) (hs : slots + 6 ≤ ms) :
    W p l e R s m args below meth c H [] cells slots (z_MQ below Qc args s mc ms free) (F0 m pc ls rest) := by
  intro T hT X
  have htr : e.platform.stackTraces = false := (show e.platform.stackTraces = l.stackTraces by rw [X.admits.platform]).trans hl
  have hins : (Cond.instantiable cls 6).before args s = true := hat _ (by simp [Bundle.ownAtoms])
  obtain ⟨vm₁, cX, kX, hfX, hkX, -, -, X₁, st1⟩ := X.newCold hexec (own := own) (C := cls) (index := ik) (n := 6) hown hk hins hini (g := F0 m pc ls rest) rfl (by rw [hb]; exact d0) hRcells hRslots
  generalize hT1 : (T.setVm vm₁).pushCell { cls := cX, slots := kX.instanceTypes.map defaultValue, vm := .none } = T1 at X₁ st1
  have hcat : (Value.ref T.heap.size).category = 1 := rfl
  have hcellA : T1.heap[T.heap.size]? = some (freshCell cX kX) := by rw [← hT1]; exact State.heap_pushCell_size _ _
  have hnew : s.heap.size ≤ T.heap.size := X.same.2.1
  have d3' : decode c.code (pc + 3) = .ok (.dup, 1) := by rw [hb]; exact d3
  have d4' : decode c.code (pc + 4) = .ok (.ldc is, 2) := by rw [hb]; exact d4
  obtain ⟨U, hsteps, hrun, hend, hW, hsame, ce, hce, hO⟩ := X₁.ctorThrowS hexec htr (own := own) (cls := cls) (names := names) (ic := ic) hown hcls hnames hat (fun x hx => nomatch hx) hfX hkX hcellA hnew (msg := .ref sa) rfl
    (g := { method := m, pc := pc + 6, locals := ls, stack := .ref sa :: .ref T.heap.size :: .ref T.heap.size :: rest, locked := none }) rfl hsize rfl rfl (rest := rest) rfl
    (by rw [hb]; exact d6) (by rw [hb]; exact d9) hout hRframes (by simp only [List.map_cons, List.sum_cons, hcat]; omega) hlocks
  obtain ⟨f1, f2⟩ := z_frame hsame
  refine ⟨U, ?_, .threw T.heap.size, hrun, hend, hx _ U hW f1 f2 ⟨ce, hce, hO.vm, by rw [hW.alike.findClass]; exact hO.cls⟩, [], ⟨hW, hsame.mono hc hs⟩, fun q hq => nomatch hq⟩
  refine st1 _ ?_
  show Steps p.tables e below (T1.setTop { method := m, pc := pc + 3, locals := ls, stack := .ref T.heap.size :: rest, locked := none }) _
  jvm_step X₁.here [X₁.here.top, hexec, d3', Value.category]
  exact X₁.ldcString hexec (own := own) (text := text) (index := is) (a := sa) hown hstr.1 hstr.2
    (g := { method := m, pc := pc + 4, locals := ls, stack := .ref T.heap.size :: .ref T.heap.size :: rest, locked := none }) rfl d4' _ hsteps
end Z7
/-! ===== catching ===== -/
section Z8
/-- the search goes through the table: the tables grow warmer, and it ends at the row of the handler h -/
def z_Fi (e : Env) (S : State) (f : JFrame) (a : Addr) (rows : List ExceptionTableEntry) (h : Nat) (vm' : Vm) : Prop := ∀ (Q : Handler → Pre) (E : CtlPost) (d : Bool) (acts : List Action), wp (findHandler.go f a rows) Q E e d acts S ↔ Q (.found h) d acts (S.setVm vm')
variable {e : Env} {s₀ : State} {f : JFrame} {a : Addr} {cell : Cell}
theorem z_fi1 {own name E : String} {args : Array Value} (hpl : e.platform.magicAccessors = ({} : Platform).magicAccessors) (hown : s₀.vm.findClass own = some f.method.cls) {x : ExceptionTableEntry} {t : List ExceptionTableEntry} (hx : covers x f.pc = true) (h0 : x.catchType ≠ 0)
    (hlink : (Cond.classLink own x.catchType name).before args s₀ = true) (hcast : (Cond.castable E name).before args s₀ = true) (hE : s₀.vm.findClass E = some cell.cls) (hobj : cell.vm = .none) {S : State} (hW : s₀.WarmedH S.vm) (hcell : S.heap[a]? = some cell) :
    ∃ vm', s₀.WarmedH vm' ∧ z_Fi e S f a (x :: t) x.handlerPc vm' := by
  obtain ⟨c3, c4, hc3, hc4, hasg⟩ := Cond.castable_spec hcast
  cases Option.some.inj (hc3.symm.trans hE)
  obtain ⟨c5, hc5, hl⟩ := Cond.classLink_spec hown hlink e.platform hpl
  cases Option.some.inj (hc4.symm.trans hc5)
  obtain ⟨k0, hk0, -⟩ := Vm.findClass_spec hE
  obtain ⟨k0', hk0', -⟩ := hW.alike.2.2 _ _ hk0
  obtain ⟨dk, _, _, kt, hd, _, _, _, _, hkt, _, hopen⟩ := hl.here
  have hl' := hW.classLinks hl
  have hW' := hW.noted hd hopen (State.rightAt_cls hl)
  refine ⟨_, hW', fun Q E d acts => ?_⟩
  simp only [covers] at hx
  obtain ⟨ha, ht⟩ := (resolveClass_links e.toSetting hl').op (op := VmOp.resolveClass f.method.cls x.catchType) rfl
  obtain ⟨k1', hk1', -⟩ := hW'.alike.2.2 _ _ hk0
  obtain ⟨k2', hk2', -⟩ := hW'.alike.2.2 _ _ hkt
  have hfit' : (S.vm.noted f.method.cls x.catchType (.cls c4)).assignable cell.cls c4 = true := by rw [hW'.alike.assignable]; exact hasg
  have hst : ∀ k, cell.vm ≠ .statics k := fun k h => by rw [hobj] at h; cases h
  simp [findHandler.go, hx, h0, ha, ht, hcell, hst, hk1', hk2', hfit', VmOp.dirties, VmOp.acts]
theorem z_fiP {own name E : String} {args : Array Value} (hpl : e.platform.magicAccessors = ({} : Platform).magicAccessors) (hown : s₀.vm.findClass own = some f.method.cls) {x : ExceptionTableEntry} {t : List ExceptionTableEntry} (hx : covers x f.pc = true) (h0 : x.catchType ≠ 0)
    (hlink : (Cond.classLink own x.catchType name).before args s₀ = true) (hno : va_Nc E name s₀) (hE : s₀.vm.findClass E = some cell.cls) (hobj : cell.vm = .none) {S : State} (hW : s₀.WarmedH S.vm) (hcell : S.heap[a]? = some cell) {h : Nat}
    (ih : ∀ S' : State, s₀.WarmedH S'.vm → S'.heap[a]? = some cell → ∃ vm', s₀.WarmedH vm' ∧ z_Fi e S' f a t h vm') :
    ∃ vm', s₀.WarmedH vm' ∧ z_Fi e S f a (x :: t) h vm' := by
  obtain ⟨a8, b8, g1, g2, g3⟩ := hno
  cases Option.some.inj (g1.symm.trans hE)
  obtain ⟨c5, hc5, hl⟩ := Cond.classLink_spec hown hlink e.platform hpl
  cases Option.some.inj (g2.symm.trans hc5)
  obtain ⟨k0, hk0, -⟩ := Vm.findClass_spec hE
  obtain ⟨dk, _, _, kt, hd, _, _, _, _, hkt, _, hopen⟩ := hl.here
  have hl' := hW.classLinks hl
  have hW' := hW.noted hd hopen (State.rightAt_cls hl)
  obtain ⟨vm', hV, hF⟩ := ih (S.setVm (S.vm.noted f.method.cls x.catchType (.cls b8))) hW' hcell
  refine ⟨vm', hV, fun Q E d acts => ?_⟩
  simp only [covers] at hx
  obtain ⟨ha, ht⟩ := (resolveClass_links e.toSetting hl').op (op := VmOp.resolveClass f.method.cls x.catchType) rfl
  obtain ⟨k1', hk1', -⟩ := hW'.alike.2.2 _ _ hk0
  obtain ⟨k2', hk2', -⟩ := hW'.alike.2.2 _ _ hkt
  have hfit' : (S.vm.noted f.method.cls x.catchType (.cls b8)).assignable cell.cls b8 = false := by rw [hW'.alike.assignable]; exact g3
  have hst : ∀ k, cell.vm ≠ .statics k := fun k h => by rw [hobj] at h; cases h
  have h1 : wp (findHandler.go f a (x :: t)) Q E e d acts S ↔ wp (findHandler.go f a t) Q E e d acts (S.setVm (S.vm.noted f.method.cls x.catchType (.cls b8))) := by
    simp [findHandler.go, hx, h0, ha, ht, hcell, hst, hk1', hk2', hfit', VmOp.dirties, VmOp.acts]
  exact h1.trans (hF Q E d acts)
end Z8
section Z9
variable {p : Program} {l : Launch} {e : Env} {R : Room} {s : State} {m : MethodId} {args : Array Value} {below : List Frame} {meth : Method} {c : Code} {H : Heap} {locs : List Loc} {cells slots : Nat} {Q : State → Prop}
theorem z_stepTo {e : Env} {s : State} {a : Addr} {f : JFrame} {r : List Frame} {pc : Nat} {vm' : Vm} (hfind : ∀ (Q : Handler → Pre) (E : CtlPost) (d : Bool) (acts : List Action), wp (findHandler f a) Q E e d acts s ↔ Q (.found pc) d acts (s.setVm vm')) :
    (stepThrowing e s a (.java f :: r)).Is ((s.setVm vm').setFrames (.java { f with pc := pc, stack := [.ref a] } :: r)) [] := by
  simp only [stepThrowing, searchFrame, vmDo]
  generalize hr : Sem.go _ e false [] s = res
  obtain ⟨as, rfl, ha⟩ := Sem.eq_ok_of hr (a := Handler.found pc) (s' := s.setVm vm') (acts' := []) (by simp [hfind _ _ _ _])
  exact ⟨rfl, ha⟩
/-- caught in this method, at the handler tgt -/
theorem z_catch {pc tgt : Nat} {ls : Array Slot} {rest : List Value} {a : Addr}
    (hfi : ∀ T : State, T.heap = H → s.WarmedH T.vm → e.platform.magicAccessors = ({} : Platform).magicAccessors → ∃ vm', s.WarmedH vm' ∧ z_Fi e ((T.setTop (F0 m pc ls rest)).pushFrame (.throwing a)) (F0 m pc ls rest) a c.exceptionTable.toList tgt vm')
    (k : W p l e R s m args below meth c H locs cells slots Q (F0 m tgt ls [.ref a])) : z_T p l e R s m args below meth c H locs cells slots Q (F0 m pc ls rest) a := by
  intro T hT X
  have hpl : e.platform.magicAccessors = ({} : Platform).magicAccessors := by rw [X.admits.platform]
  obtain ⟨vm', hW', hF⟩ := hfi T hT X.warmed hpl
  have X' := X.noted hW'
  obtain ⟨t, a1, b1⟩ := k (T.setVm vm') hT X'
  refine ⟨t, ?_, b1⟩
  have h : At T (F0 m pc ls rest).method c below := X.here
  obtain ⟨hgo, hw⟩ := h.throwing a
  refine Steps.head hgo hw ?_
  have hm : ((T.setTop (F0 m pc ls rest)).pushFrame (.throwing a)).vm.method? (F0 m pc ls rest).method = some meth := by
    rw [Stand.throwing_vm]; exact X.method'
  rw [stepThread_throwing (frames_entered h.top _), (z_stepTo (s := (T.setTop (F0 m pc ls rest)).pushFrame (.throwing a)) (vm' := vm') (pc := tgt) (fun Q E d acts => by rw [W.findHandler_eq hm X.code]; exact hF Q E d acts)).1]
  obtain ⟨g₀, hg⟩ := Option.isSome_iff_exists.mp h.top
  obtain ⟨r, hr⟩ := State.topJava?_eq_some.mp hg
  have hr' : (T.setVm vm').frames = .java g₀ :: r := hr
  rw [State.setTop_of_frames _ hr'] at a1
  rw [State.pushFrame, State.setTop_of_frames _ hr, State.setFrames_setFrames]
  have e1 : (T.setFrames (.throwing a :: (T.setFrames (.java (F0 m pc ls rest) :: r)).frames)).setVm vm' = (T.setVm vm').setFrames (.throwing a :: (T.setFrames (.java (F0 m pc ls rest) :: r)).frames) := rfl
  rw [e1, State.setFrames_setFrames, hr]
  exact a1
end Z9
end
section
/-! ===== contracts over worlds as maps ===== -/
/-- what a method answers: nothing or a value; or the name of the class that it throws -/
abbrev zR : Type := Option Value ⊕ String
def z_Oc (r : zR) (o : Outcome) (t : State) : Prop := match r with
  | .inl v => o = .returned v
  | .inr E => ∃ a, o = .threw a ∧ z_Th E a t t.heap
/-- the heap has only grown -/
def z_Gr (H H1 : Heap) : Prop := H.size ≤ H1.size ∧ ∀ q : Nat, q < H.size → H1[q]? = H[q]?
theorem z_Gr.rf {H : Heap} : z_Gr H H := ⟨Nat.le_refl _, fun _ _ => rfl⟩
theorem z_Gr.tr {H H1 H2 : Heap} (h : z_Gr H H1) (k : z_Gr H1 H2) : z_Gr H H2 := ⟨Nat.le_trans h.1 k.1, fun q hq => (k.2 q (Nat.lt_of_lt_of_le hq h.1)).trans (h.2 q hq)⟩
/-- what stays true of a state while the tables grow warmer and nothing below lo changes -/
def z_Gk (G : State → Prop) (lo : Nat) : Prop := ∀ u U : State, G u → u.WarmedH U.vm → (∀ q : Nat, q < lo → U.heap[q]? = u.heap[q]?) → G U
/-- a method's start -/
def z_St (G : State → Prop) (D : va_G) (cl : List vw_C) (tys : List (ClassId × FieldType)) (lo : Nat) (X : zM) (U : State) : Prop := G U ∧ va_K D cl tys U ∧ z_W D cl X U.heap ∧ (∀ q, X q ≠ none → lo ≤ q) ∧ lo ≤ U.heap.size
/-- a method that only reads: its answer is r -/
def z_P (G : State → Prop) (D : va_G) (cl : List vw_C) (tys : List (ClassId × FieldType)) (lo : Nat) (l : Launch) (y : MethodName) (w : Cond) (rm : Room) (av : List Value) (X : zM) (r : zR) : Prop :=
  z_Met l y w rm (va_Pc av (z_St G D cl tys lo X)) (fun _ st o t => z_Oc r o t ∧ z_Gr st.heap t.heap) rm.cells rm.slots (fun _ => False)
/-- the end of a method that writes -/
def z_Q (D : va_G) (cl : List vw_C) (X : zM) (Po : zR → zM → Prop) : Array Value → State → Outcome → State → Prop := fun _ st o t =>
  ∃ (r : zR) (X' : zM), Po r X' ∧ z_Oc r o t ∧ z_W D cl X' t.heap ∧ st.heap.size ≤ t.heap.size ∧ (∀ q : Nat, q < st.heap.size → X q = none → t.heap[q]? = st.heap[q]?) ∧ ∀ q, X' q ≠ none → X q ≠ none ∨ st.heap.size ≤ q
/-- a method that may write: its answer and the world behind it satisfy Po -/
def z_C (G : State → Prop) (D : va_G) (cl : List vw_C) (tys : List (ClassId × FieldType)) (lo : Nat) (l : Launch) (y : MethodName) (w : Cond) (rm : Room) (av : List Value) (X : zM) (Po : zR → zM → Prop) : Prop :=
  z_Met l y w rm (va_Pc av (z_St G D cl tys lo X)) (z_Q D cl X Po) rm.cells rm.slots (fun q => lo ≤ q)
theorem z_blind {G : State → Prop} {D : va_G} {cl : List vw_C} {tys : List (ClassId × FieldType)} {lo : Nat} {X : zM} {av : List Value} (hGk : z_Gk G lo) : FrameBlind (va_Pc av (z_St G D cl tys lo X)) := fun a U g mk ⟨h1, hG, hK, hW, hX, hl⟩ =>
  ⟨h1, hGk U _ hG (State.WarmedH.refl U) (fun _ _ => rfl), va_K.moved (u := U) (U := U.calling g mk a) (Vm.Alike.refl U.vm) hK, hW, hX, hl⟩
section Z10
variable {p : Program} {l : Launch} {e : Env} {R : Room} {s : State} {m : MethodId} {args : Array Value} {below : List Frame} {meth : Method} {c : Code} {H : Heap} {locs : List Loc} {cells slots : Nat} {Q : State → Prop}
variable {cc : ByteArray} {pc : Nat} {ls : Array Slot} {rest st0 : List Value} {D : va_G} {cl : List vw_C} {lo a : Nat} {tys : List (ClassId × FieldType)} {X0 X : zM} {G : State → Prop}
variable {y : MethodName} {w : Cond} {rm : Room} {maxL : Nat} {av : List Value} {ig : Instr}
/-- what every call needs: the word of the callee's code, its class, its room -/
abbrev z_Cw (R : Room) (s : State) (args : Array Value) (y : MethodName) (w : Cond) (rm : Room) (maxL : Nat) : Prop :=
  (∀ (a' : Array Value) (U : State), s.WarmedH U.vm → w.before a' U = true) ∧ z_wk w y maxL ∧ (Cond.initialized y.cls).before args s = true ∧ rm.frames + 1 ≤ R.frames ∧ 8 + (maxL + 11) + rm.locals ≤ R.locals
theorem z_start (hGk : z_Gk G lo) (hG : G s) (hK : va_K D cl tys s) (hS : z_S D cl lo X0 s.heap X H locs) {U : State} (hU : U.heap = H) (hW : s.WarmedH U.vm) : z_St G D cl tys lo X U :=
  ⟨hGk s U hG hW (fun q hq => by rw [hU]; exact hS.under hq), va_K.moved hW.alike hK, by rw [hU]; exact hS.1, fun q hq => hS.low hq, by rw [hU]; exact Nat.le_trans hS.2.2.2.2.2.2 hS.2.1⟩
theorem z_nil {L : List Loc} (h : ∀ q ∈ L, False) : L = [] := List.eq_nil_iff_forall_not_mem.mpr h
/-- a call of a method that only reads, and returns -/
theorem z_pR {r : zR} {v : Option Value} (hI : z_In p l e R s m args below meth c H (F0 m pc ls st0) rest y av.toArray) (hb : c.code = cc) (hsize : ls.size = c.maxLocals) (hM : z_P G D cl tys lo l y w rm av X r) (hr : r = .inl v) (hGk : z_Gk G lo) (hG : G s) (hK : va_K D cl tys s) (hS : z_S D cl lo X0 s.heap X H locs) (cw : z_Cw R s args y w rm maxL)
    (hdg : decode cc pc = .ok (ig, 3)) (hW : (rest.map fun v => v.category).sum ≤ 8) (hc1 : cells + rm.cells ≤ R.cells) (hs1 : slots + rm.slots ≤ R.slots)
    (k : ∀ H1 : Heap, z_Gr H H1 → z_S D cl lo X0 s.heap X H1 locs → W p l e R s m args below meth c H1 locs (cells + rm.cells) (slots + rm.slots) Q (F0 m (pc + 3) ls (v.toList ++ rest))) :
    W p l e R s m args below meth c H locs cells slots Q (F0 m pc ls st0) := by
  refine z_call hI hb hsize hM (z_blind hGk) rfl rfl cw.2.2.2.1 cw.2.2.2.2 cw.1 cw.2.1 cw.2.2.1 hdg hW hc1 hs1 (fun U hU hWU => ⟨rfl, z_start hGk hG hK hS hU hWU⟩) (fun v' st t L h0 hWt hQ hL => ?_) (fun x st t L h0 hWt hQ hL => ?_)
  · obtain ⟨hO, hGr⟩ := hQ
    rw [hr] at hO
    have hv : v' = v := by cases (show Outcome.returned v' = .returned v from hO); rfl
    subst hv
    rw [h0] at hGr
    rw [z_nil hL, List.append_nil]
    exact k t.heap hGr (hS.grow hGr.1 hGr.2)
  · obtain ⟨hO, -⟩ := hQ
    rw [hr] at hO
    exact absurd (show Outcome.threw x = .returned v from hO) (fun h => by cases h)
/-- .. and throws -/
theorem z_pT {r : zR} {E : String} (hI : z_In p l e R s m args below meth c H (F0 m pc ls st0) rest y av.toArray) (hb : c.code = cc) (hsize : ls.size = c.maxLocals) (hM : z_P G D cl tys lo l y w rm av X r) (hr : r = .inr E) (hGk : z_Gk G lo) (hG : G s) (hK : va_K D cl tys s) (hS : z_S D cl lo X0 s.heap X H locs) (cw : z_Cw R s args y w rm maxL)
    (hdg : decode cc pc = .ok (ig, 3)) (hW : (rest.map fun v => v.category).sum ≤ 8) (hc1 : cells + rm.cells ≤ R.cells) (hs1 : slots + rm.slots ≤ R.slots)
    (k : ∀ (x : Addr) (H1 : Heap), z_Gr H H1 → z_S D cl lo X0 s.heap X H1 locs → z_Th E x s H1 → z_T p l e R s m args below meth c H1 locs (cells + rm.cells) (slots + rm.slots) Q (F0 m pc ls rest) x) :
    W p l e R s m args below meth c H locs cells slots Q (F0 m pc ls st0) := by
  refine z_call hI hb hsize hM (z_blind hGk) rfl rfl cw.2.2.2.1 cw.2.2.2.2 cw.1 cw.2.1 cw.2.2.1 hdg hW hc1 hs1 (fun U hU hWU => ⟨rfl, z_start hGk hG hK hS hU hWU⟩) (fun v' st t L h0 hWt hQ hL => ?_) (fun x st t L h0 hWt hQ hL => ?_)
  · obtain ⟨hO, -⟩ := hQ
    rw [hr] at hO
    obtain ⟨a9, h9, -⟩ := (show ∃ a9, Outcome.returned v' = .threw a9 ∧ z_Th E a9 t t.heap from hO)
    cases h9
  · obtain ⟨hO, hGr⟩ := hQ
    rw [hr] at hO
    obtain ⟨a9, h9, hT⟩ := (show ∃ a9, Outcome.threw x = .threw a9 ∧ z_Th E a9 t t.heap from hO)
    cases h9
    rw [h0] at hGr
    rw [z_nil hL, List.append_nil]
    exact k x t.heap hGr (hS.grow hGr.1 hGr.2) (hT.moved hWt.alike.symm)
/-- what a call that may write leaves -/
theorem z_after {st t : State} {L : List Loc} {X' : zM} (hS : z_S D cl lo X0 s.heap X H locs) (h0 : st.heap = H) (hL : ∀ q ∈ L, lo ≤ q.base) (g1 : z_W D cl X' t.heap) (g2 : st.heap.size ≤ t.heap.size) (g3 : ∀ q : Nat, q < st.heap.size → X q = none → t.heap[q]? = st.heap[q]?) (g4 : ∀ q, X' q ≠ none → X q ≠ none ∨ st.heap.size ≤ q) :
    z_S D cl lo X0 s.heap X' t.heap (locs ++ L) := by
  rw [h0] at g2 g3 g4
  refine ⟨g1, Nat.le_trans hS.2.1 g2, fun q h1 h2 => ?_, fun q hq => ?_, fun q hq => ?_, hS.2.2.2.2.2⟩
  · have hX : X q = none := by
      cases hx : X q with
      | none => rfl
      | some e => exact ((hS.2.2.2.2.1 q (by rw [hx]; exact fun z => by cases z)).elim (fun z => absurd h2 z) (fun z => absurd h1 (Nat.not_lt.mpr z)))
    rw [g3 q (Nat.lt_of_lt_of_le h1 hS.2.1) hX]
    exact hS.2.2.1 q h1 h2
  · rcases List.mem_append.mp hq with h | h
    · exact hS.2.2.2.1 q h
    · exact hL q h
  · rcases g4 q hq with h | h
    · exact hS.2.2.2.2.1 q h
    · exact Or.inr (Nat.le_trans hS.2.1 h)
/-- a call of a method that may write -/
theorem z_w {Po : zR → zM → Prop} (hI : z_In p l e R s m args below meth c H (F0 m pc ls st0) rest y av.toArray) (hb : c.code = cc) (hsize : ls.size = c.maxLocals) (hM : z_C G D cl tys lo l y w rm av X Po) (hGk : z_Gk G lo) (hG : G s) (hK : va_K D cl tys s) (hS : z_S D cl lo X0 s.heap X H locs) (cw : z_Cw R s args y w rm maxL)
    (hdg : decode cc pc = .ok (ig, 3)) (hW : (rest.map fun v => v.category).sum ≤ 8) (hc1 : cells + rm.cells ≤ R.cells) (hs1 : slots + rm.slots ≤ R.slots)
    (k1 : ∀ (v : Option Value) (X' : zM) (H1 : Heap) (locs1 : List Loc), Po (.inl v) X' → (∀ q, X' q ≠ none → X q ≠ none ∨ H.size ≤ q) → z_S D cl lo X0 s.heap X' H1 locs1 → (∀ q : Nat, q < H.size → X q = none → H1[q]? = H[q]?) → H.size ≤ H1.size → W p l e R s m args below meth c H1 locs1 (cells + rm.cells) (slots + rm.slots) Q (F0 m (pc + 3) ls (v.toList ++ rest)))
    (k2 : ∀ (E : String) (x : Addr) (X' : zM) (H1 : Heap) (locs1 : List Loc), Po (.inr E) X' → (∀ q, X' q ≠ none → X q ≠ none ∨ H.size ≤ q) → z_S D cl lo X0 s.heap X' H1 locs1 → (∀ q : Nat, q < H.size → X q = none → H1[q]? = H[q]?) → H.size ≤ H1.size → z_Th E x s H1 → z_T p l e R s m args below meth c H1 locs1 (cells + rm.cells) (slots + rm.slots) Q (F0 m pc ls rest) x) :
    W p l e R s m args below meth c H locs cells slots Q (F0 m pc ls st0) := by
  refine z_call hI hb hsize hM (z_blind hGk) rfl rfl cw.2.2.2.1 cw.2.2.2.2 cw.1 cw.2.1 cw.2.2.1 hdg hW hc1 hs1 (fun U hU hWU => ⟨rfl, z_start hGk hG hK hS hU hWU⟩) (fun v' st t L h0 hWt hQ hL => ?_) (fun x st t L h0 hWt hQ hL => ?_)
  · obtain ⟨r, X', hP, hO, g1, g2, g3, g4⟩ := hQ
    have hz := z_after hS h0 hL g1 g2 g3 g4
    rw [h0] at g2 g3 g4
    cases r with
    | inl v =>
      have hv : v' = v := by cases (show Outcome.returned v' = .returned v from hO); rfl
      subst hv
      exact k1 v' X' t.heap _ hP g4 hz g3 g2
    | inr E =>
      obtain ⟨a9, h9, -⟩ := (show ∃ a9, Outcome.returned v' = .threw a9 ∧ z_Th E a9 t t.heap from hO)
      cases h9
  · obtain ⟨r, X', hP, hO, g1, g2, g3, g4⟩ := hQ
    have hz := z_after hS h0 hL g1 g2 g3 g4
    rw [h0] at g2 g3 g4
    cases r with
    | inl v => exact absurd (show Outcome.threw x = .returned v from hO) (fun h => by cases h)
    | inr E =>
      obtain ⟨a9, h9, hT⟩ := (show ∃ a9, Outcome.threw x = .threw a9 ∧ z_Th E a9 t t.heap from hO)
      cases h9
      exact k2 E x X' t.heap _ hP g4 hz g3 g2 (hT.moved hWt.alike.symm)
end Z10
/-! ===== the ends ===== -/
section Z11
variable {p : Program} {l : Launch} {e : Env} {R : Room} {s : State} {m : MethodId} {args : Array Value} {below : List Frame} {meth : Method} {c : Code} {H : Heap} {locs : List Loc} {cells slots mc ms : Nat}
variable {cc : ByteArray} {pc : Nat} {ls : Array Slot} {rest : List Value} {D : va_G} {cl : List vw_C} {lo : Nat} {X0 X : zM}
/-- a walk that has only read so far -/
def z_pu (r : zR) : Array Value → State → Outcome → State → Prop := fun _ st o t => z_Oc r o t ∧ z_Gr st.heap t.heap
theorem z_Piret {r : zR} {v : Int32} (hexec : p.tables.exec = Jvm.exec) (hb : c.code = cc) {ty : FieldType} (hr : meth.sig.returnType = some ty) (hn : narrow ty (.int v) = .int v) (hlocks : meth.locks = false) (hg : z_Gr s.heap H) (he : r = .inl (some (.int v))) (h1 : cells ≤ mc) (h2 : slots ≤ ms) (hdg : decode cc pc = .ok (.ireturn, 1)) :
    W p l e R s m args below meth c H [] cells slots (z_MQ below (z_pu r) args s mc ms (fun _ => False)) (F0 m pc ls [.int v]) :=
  W.widen h1 h2 (z_mono (fun _ => z_MQ.of) (W.zret hexec hb hr hn (fun t ht _ => ⟨by rw [he]; rfl, by rw [ht]; exact hg⟩) (fun q hq => nomatch hq) hdg hlocks))
theorem z_Pvret {r : zR} (hexec : p.tables.exec = Jvm.exec) (hb : c.code = cc) (hr : meth.sig.returnType = none) (hlocks : meth.locks = false) (hg : z_Gr s.heap H) (he : r = .inl none) (h1 : cells ≤ mc) (h2 : slots ≤ ms) (hdg : decode cc pc = .ok (.return_, 1)) :
    W p l e R s m args below meth c H [] cells slots (z_MQ below (z_pu r) args s mc ms (fun _ => False)) (F0 m pc ls []) :=
  W.widen h1 h2 (z_mono (fun _ => z_MQ.of) (W.vret hexec hb hr (fun t ht _ => ⟨by rw [he]; rfl, by rw [ht]; exact hg⟩) (fun q hq => nomatch hq) hdg hlocks))
theorem z_Paret {r : zR} {v : Nat} {C : String} (hexec : p.tables.exec = Jvm.exec) (hb : c.code = cc) (hr : meth.sig.returnType = some (.object C)) (hlocks : meth.locks = false) (hg : z_Gr s.heap H) (he : r = .inl (some (.ref v))) (h1 : cells ≤ mc) (h2 : slots ≤ ms) (hdg : decode cc pc = .ok (.areturn, 1)) :
    W p l e R s m args below meth c H [] cells slots (z_MQ below (z_pu r) args s mc ms (fun _ => False)) (F0 m pc ls [.ref v]) :=
  W.widen h1 h2 (z_mono (fun _ => z_MQ.of) (W.aret hexec hb hr (Or.inl ⟨C, rfl⟩) (Or.inr ⟨v, rfl⟩) (fun t ht _ => ⟨by rw [he]; rfl, by rw [ht]; exact hg⟩) (fun q hq => nomatch hq) hdg hlocks))
/-- a callee has thrown, and nobody catches it here -/
theorem z_Pout {r : zR} {E : String} {x : Addr} (hout : ∀ z ∈ c.exceptionTable.toList, ∀ pc, covers z pc = false) (hlocks : meth.locks = false) (hg : z_Gr s.heap H) (hT : z_Th E x s H) (he : r = .inr E) (h1 : cells ≤ mc) (h2 : slots ≤ ms) :
    z_T p l e R s m args below meth c H [] cells slots (z_MQ below (z_pu r) args s mc ms (fun _ => False)) (F0 m pc ls rest) x :=
  z_Twiden h1 h2 (z_out (fun t ht hW => ⟨by rw [he]; exact ⟨x, rfl, by rw [ht]; exact hT.moved hW.alike⟩, by rw [ht]; exact hg⟩) (fun q hq => nomatch hq) (fun z hz => hout z hz pc) hlocks)
theorem z_Qend {Po : zR → zM → Prop} {r : zR} {o : Outcome} {t : State} {a9 : Array Value} (hS : z_S D cl lo X0 s.heap X H locs) (hP : Po r X) (ht : t.heap = H) (hO : z_Oc r o t) : z_Q D cl X0 Po a9 s o t :=
  ⟨r, X, hP, hO, by rw [ht]; exact hS.1, by rw [ht]; exact hS.2.1, fun q h1 h2 => by rw [ht]; exact hS.2.2.1 q h1 h2, hS.2.2.2.2.1⟩
theorem z_Ciret {Po : zR → zM → Prop} {v : Int32} (hexec : p.tables.exec = Jvm.exec) (hb : c.code = cc) {ty : FieldType} (hr : meth.sig.returnType = some ty) (hn : narrow ty (.int v) = .int v) (hlocks : meth.locks = false) (hS : z_S D cl lo X0 s.heap X H locs) (hP : Po (.inl (some (.int v))) X) (h1 : cells ≤ mc) (h2 : slots ≤ ms) (hdg : decode cc pc = .ok (.ireturn, 1)) :
    W p l e R s m args below meth c H locs cells slots (z_MQ below (z_Q D cl X0 Po) args s mc ms (fun q => lo ≤ q)) (F0 m pc ls [.int v]) :=
  W.widen h1 h2 (z_mono (fun _ => z_MQ.of) (W.zret hexec hb hr hn (fun t ht _ => z_Qend hS hP ht rfl) hS.2.2.2.1 hdg hlocks))
theorem z_Cvret {Po : zR → zM → Prop} (hexec : p.tables.exec = Jvm.exec) (hb : c.code = cc) (hr : meth.sig.returnType = none) (hlocks : meth.locks = false) (hS : z_S D cl lo X0 s.heap X H locs) (hP : Po (.inl none) X) (h1 : cells ≤ mc) (h2 : slots ≤ ms) (hdg : decode cc pc = .ok (.return_, 1)) :
    W p l e R s m args below meth c H locs cells slots (z_MQ below (z_Q D cl X0 Po) args s mc ms (fun q => lo ≤ q)) (F0 m pc ls []) :=
  W.widen h1 h2 (z_mono (fun _ => z_MQ.of) (W.vret hexec hb hr (fun t ht _ => z_Qend hS hP ht rfl) hS.2.2.2.1 hdg hlocks))
theorem z_Cout {Po : zR → zM → Prop} {E : String} {x : Addr} (hout : ∀ z ∈ c.exceptionTable.toList, ∀ pc, covers z pc = false) (hlocks : meth.locks = false) (hS : z_S D cl lo X0 s.heap X H locs) (hT : z_Th E x s H) (hP : Po (.inr E) X) (h1 : cells ≤ mc) (h2 : slots ≤ ms) :
    z_T p l e R s m args below meth c H locs cells slots (z_MQ below (z_Q D cl X0 Po) args s mc ms (fun q => lo ≤ q)) (F0 m pc ls rest) x :=
  z_Twiden h1 h2 (z_out (fun t ht hW => z_Qend hS hP ht ⟨x, rfl, by rw [ht]; exact hT.moved hW.alike⟩) hS.2.2.2.1 (fun z hz => hout z hz pc) hlocks)
end Z11
end
