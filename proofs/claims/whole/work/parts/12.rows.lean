/-! ===== entering a callee ===== -/
section Z6
variable {p : Program} {l : Launch} {e : Env} {R : Room} {s : State} {m : MethodId} {args : Array Value} {below : List Frame} {meth : Method} {c : Code} {H : Heap}
/-- the descriptor of y, in the tables -/
def z_sg (s : State) (y : MethodName) : Prop := ∀ (mk : MethodId) (methM : Method), s.methodNamed? y = some mk → s.vm.method? mk = some methM → parseMethodDescriptor y.desc = some methM.sig
theorem z_sg0 {y : MethodName} {cc : ByteArray} {maxL : Nat} {ret : Option FieldType} (h : (Cond.code y cc maxL ret).before args s = true) : z_sg s y := fun mk methM hn hm => by
  obtain ⟨m2, c2, h1, -, -, -, -, -, -, h2⟩ := Cond.code_spec hn h
  cases hm.symm.trans h1
  exact h2
theorem z_sgW {y : MethodName} {cc : ByteArray} {maxL : Nat} {ret : Option FieldType} {hh : List (Nat × Nat × Nat × Nat)} (h : (Cond.codeWith y cc maxL ret hh).before args s = true) : z_sg s y := fun mk methM hn hm => by
  obtain ⟨m9, m2, c2, hn9, h1, -, -, -, -, -, -, h2⟩ := Cond.codeWith_spec h
  cases hn.symm.trans hn9
  cases hm.symm.trans h1
  exact h2
theorem z_len {y : MethodName} {n : Nat} (hd : (parseMethodDescriptor y.desc).map (fun d => d.parameters.length) = some n) {sig : MethodDescriptor} (h : parseMethodDescriptor y.desc = some sig) : n = sig.parameters.length := by
  rw [h] at hd
  exact (Option.some.inj hd).symm
theorem z_inV (hexec : p.tables.exec = Jvm.exec) {own C : String} {index n : Nat} {y : MethodName} (hown : s.vm.findClass own = some m.cls) (hlink : (Cond.methodLink own index y).before args s = true) (hinst : (Cond.instanceMethod y).before args s = true) (hsel : (Cond.selects C y y).before args s = true)
    (hsg : z_sg s y) (hd : y.cls ≠ "java/lang/invoke/MethodHandle" ∧ y.cls ≠ "java/lang/invoke/VarHandle" ∧ (parseMethodDescriptor y.desc).map (fun d => d.parameters.length) = some n)
    {b : Addr} (hr : ∃ cell : Cell, H[b]? = some cell ∧ cell.vm.isStatics = false ∧ s.vm.findClass C = some cell.cls)
    {pc : Nat} {ls : Array Slot} {As rest : List Value} (hlen : As.length = n) (hdg : decode c.code pc = .ok (.invokevirtual index, 3)) :
    z_In p l e R s m args below meth c H (F0 m pc ls (As.reverse ++ .ref b :: rest)) rest y (Value.ref b :: As).toArray := by
  intro T locs cells slots hT X
  obtain ⟨cellB, hcell, hobj, hcls⟩ := hr
  obtain ⟨mk, methM, hnamed, hmethM, hstM, habM⟩ := Cond.instanceMethod_spec hinst
  obtain ⟨c2, r2, m2, q1, q2, q3, q4, kP, hkP, hkPi⟩ := Cond.selects_spec hsel
  cases hcls.symm.trans q1
  cases (State.methodFound?_of_named hnamed ⟨hd.1, hd.2.1⟩).symm.trans q2
  cases hnamed.symm.trans q3
  have hselP : selectMethod e.platform s.vm cellB.cls mk = .method mk := by rw [Launch.admits_selectMethod X.admits]; exact q4
  obtain ⟨vm₁, X₁, hstep₁⟩ := X.invokevirtual hexec hown hlink hnamed hmethM hstM hkP hkPi ⟨hd.1, hd.2.1⟩ (a := b) (cell := cellB) (by rw [hT]; exact hcell)
    (fun z h => by rw [h] at hobj; cases hobj) hselP hmethM habM hkP hkPi (g := F0 m pc ls (As.reverse ++ .ref b :: rest)) rfl (argsL := As) (rest := rest) (hlen.trans (z_len hd.2.2 (hsg _ _ hnamed hmethM))) rfl hdg
  exact ⟨mk, vm₁, hnamed, X₁, hstep₁⟩
theorem z_inS (hexec : p.tables.exec = Jvm.exec) {own : String} {index n : Nat} {y : MethodName} (hown : s.vm.findClass own = some m.cls) (hlink : (Cond.methodLink own index y).before args s = true) (hstat : (Cond.static y).before args s = true) (hini : (Cond.initialized y.cls).before args s = true)
    {mk : MethodId} (hnamed : s.methodNamed? y = some mk) {methM : Method} (hmethM : s.vm.method? mk = some methM)
    (hsg : z_sg s y) (hd : y.cls ≠ "java/lang/invoke/MethodHandle" ∧ y.cls ≠ "java/lang/invoke/VarHandle" ∧ (parseMethodDescriptor y.desc).map (fun d => d.parameters.length) = some n)
    {pc : Nat} {ls : Array Slot} {As rest : List Value} (hlen : As.length = n) (hdg : decode c.code pc = .ok (.invokestatic index, 3)) :
    z_In p l e R s m args below meth c H (F0 m pc ls (As.reverse ++ rest)) rest y As.toArray := by
  intro T locs cells slots hT X
  have hstatic : methM.isStatic = true := Cond.static_spec hnamed hmethM hstat
  obtain ⟨kP, hkP, -⟩ := className_of_methodNamed hnamed
  have hinitP : kP.init = .initialized := Cond.initialized_spec (findClass_of_methodNamed hnamed) hkP hini
  obtain ⟨vm₁, X₁, hstep₁⟩ := X.invokestatic hexec hown hlink hnamed hmethM hstatic hkP hinitP ⟨hd.1, hd.2.1⟩ (g := F0 m pc ls (As.reverse ++ rest)) rfl (argsL := As) (rest := rest) (hlen.trans (z_len hd.2.2 (hsg _ _ hnamed hmethM))) rfl hdg
  exact ⟨mk, vm₁, hnamed, X₁, hstep₁⟩
theorem z_inS0 (hexec : p.tables.exec = Jvm.exec) {own : String} {index n : Nat} {y : MethodName} {cc : ByteArray} {maxL : Nat} {ret : Option FieldType} (hown : s.vm.findClass own = some m.cls) (hlink : (Cond.methodLink own index y).before args s = true) (hstat : (Cond.static y).before args s = true) (hini : (Cond.initialized y.cls).before args s = true) (hcode : (Cond.code y cc maxL ret).before args s = true)
    (hd : y.cls ≠ "java/lang/invoke/MethodHandle" ∧ y.cls ≠ "java/lang/invoke/VarHandle" ∧ (parseMethodDescriptor y.desc).map (fun d => d.parameters.length) = some n)
    {pc : Nat} {ls : Array Slot} {As rest : List Value} (hlen : As.length = n) (hdg : decode c.code pc = .ok (.invokestatic index, 3)) :
    z_In p l e R s m args below meth c H (F0 m pc ls (As.reverse ++ rest)) rest y As.toArray := by
  obtain ⟨mk, hnamed⟩ := Cond.code_named hcode
  obtain ⟨methM, cM, hmethM, -, -, -, -, -, -, -⟩ := Cond.code_spec hnamed hcode
  exact z_inS hexec hown hlink hstat hini hnamed hmethM (z_sg0 hcode) hd hlen hdg
theorem z_inSW (hexec : p.tables.exec = Jvm.exec) {own : String} {index n : Nat} {y : MethodName} {cc : ByteArray} {maxL : Nat} {ret : Option FieldType} {hh : List (Nat × Nat × Nat × Nat)} (hown : s.vm.findClass own = some m.cls) (hlink : (Cond.methodLink own index y).before args s = true) (hstat : (Cond.static y).before args s = true) (hini : (Cond.initialized y.cls).before args s = true) (hcode : (Cond.codeWith y cc maxL ret hh).before args s = true)
    (hd : y.cls ≠ "java/lang/invoke/MethodHandle" ∧ y.cls ≠ "java/lang/invoke/VarHandle" ∧ (parseMethodDescriptor y.desc).map (fun d => d.parameters.length) = some n)
    {pc : Nat} {ls : Array Slot} {As rest : List Value} (hlen : As.length = n) (hdg : decode c.code pc = .ok (.invokestatic index, 3)) :
    z_In p l e R s m args below meth c H (F0 m pc ls (As.reverse ++ rest)) rest y As.toArray := by
  obtain ⟨mk, methM, cM, hnamed, hmethM, -⟩ := Cond.codeWith_spec hcode
  exact z_inS hexec hown hlink hstat hini hnamed hmethM (z_sgW hcode) hd hlen hdg
theorem z_inI (hexec : p.tables.exec = Jvm.exec) {own : String} {index n : Nat} {y : MethodName} {bytes : ByteArray} {maxL : Nat} (hown : s.vm.findClass own = some m.cls) (hy1 : y.name = "<init>") (hlink : (Cond.methodLink own index y).before args s = true) (hinst : (Cond.instanceMethod y).before args s = true)
    (hcode : (Cond.code y bytes maxL none).before args s = true) (hd : y.cls ≠ "java/lang/invoke/MethodHandle" ∧ y.cls ≠ "java/lang/invoke/VarHandle" ∧ (parseMethodDescriptor y.desc).map (fun d => d.parameters.length) = some n)
    {b : Addr} {pc : Nat} {ls : Array Slot} {As rest : List Value} (hlen : As.length = n) (hdg : decode c.code pc = .ok (.invokespecial index, 3)) :
    z_In p l e R s m args below meth c H (F0 m pc ls (As.reverse ++ .ref b :: rest)) rest y (Value.ref b :: As).toArray := by
  intro T locs cells slots hT X
  have hpl : e.platform.magicAccessors = ({} : Platform).magicAccessors := by rw [X.admits.platform]
  obtain ⟨mk, methM, cM, kP, vm₁, hnamed, hmethM, hcodeM, -, hlocalsM, -, hkP, -, hW₁, hstep₁⟩ := Steps.initColdArgs (e := e) X.here hexec X.warmed hpl hown hy1 ⟨hd.1, hd.2.1⟩ hlink hinst hcode (f := F0 m pc ls (As.reverse ++ .ref b :: rest)) rfl (argsL := As) (rest := rest) (a := b) (fun sig h => hlen.trans (z_len hd.2.2 h)) rfl hdg
  exact ⟨mk, vm₁, hnamed, X.noted hW₁, hstep₁⟩
end Z6
/-! ===== what a throw leaves ===== -/
/-- an exception of the class called E lies at a -/
def z_Th (E : String) (a : Nat) (U : State) (H : Heap) : Prop := ∃ ce : Cell, H[a]? = some ce ∧ ce.vm = .none ∧ U.vm.findClass E = some ce.cls
theorem z_Th.moved {E : String} {a : Nat} {u U : State} {H : Heap} (hvm : u.vm.Alike U.vm) (h : z_Th E a u H) : z_Th E a U H := by
  obtain ⟨ce, h1, h2, h3⟩ := h
  exact ⟨ce, h1, h2, by rw [hvm.findClass]; exact h3⟩
theorem z_frame {s U : State} {k n : Nat} (h : s.sameButNew ({ U with vm := s.vm } : State) [] k n) : s.heap.size ≤ U.heap.size ∧ ∀ q : Nat, q < s.heap.size → U.heap[q]? = s.heap[q]? := by
  obtain ⟨-, h2, -, -, -, h6⟩ := h
  refine ⟨h2, fun q hq => ?_⟩
  have hc := Array.getElem?_eq_getElem hq
  obtain ⟨c9, e1, e2, e3, e4⟩ := h6 q _ hc
  have hs : c9.slots = (s.heap[q]).slots := Array.ext_getElem? fun i => e4 i fun hm => by cases hm
  rw [hs] at e2
  have e5 : U.heap[q]? = some c9 := e1
  rw [e5, hc]
  exact congrArg some e2
section Z7
variable {p : Program} {l : Launch} {e : Env} {R : Room} {s : State} {m : MethodId} {args : Array Value} {below : List Frame} {meth : Method} {c : Code} {H : Heap} {cells slots : Nat}
/-- throw new E("text"), where the method has written nothing yet -/
theorem z_throw {Qc : Array Value → State → Outcome → State → Prop} {free : Addr → Prop} {cc : ByteArray} {pc : Nat} {ls : Array Slot} {rest : List Value} (hexec : p.tables.exec = Jvm.exec) (hb : c.code = cc) (hl : l.stackTraces = false) {own cls text : String} {names : List String} {ik is ic mc ms sa : Nat}
    (hown : s.vm.findClass own = some m.cls) (hcls : Bundle.fit cls = true) (hnames : ∀ n ∈ names, Bundle.fit n = true)
    (hk : (Cond.classLink own ik cls).before args s = true) (hini : (Cond.initialized cls).before args s = true) (hstr : vk_R own is text sa s) (hat : ∀ w ∈ Bundle.ownAtoms own ic cls names, w.before args s = true) (hsize : ls.size = c.maxLocals)
    (d0 : decode cc pc = .ok (.new ik, 3)) (d3 : decode cc (pc + 3) = .ok (.dup, 1)) (d4 : decode cc (pc + 4) = .ok (.ldc is, 2)) (d6 : decode cc (pc + 6) = .ok (.invokespecial ic, 3)) (d9 : decode cc (pc + 9) = .ok (.athrow, 1))
    (hout : ∀ x ∈ c.exceptionTable.toList, covers x (pc + 9) = false)
    (hRframes : names.length + 3 < R.frames) (hRlocals : (rest.map fun v => v.category).sum + (13 * (names.length + 1) + 43) ≤ R.locals) (hRcells : cells + 1 ≤ R.cells) (hRslots : slots + 6 ≤ R.slots) (hlocks : meth.locks = false)
    (hx : ∀ (a : Addr) (t : State), s.WarmedH t.vm → s.heap.size ≤ t.heap.size → (∀ q : Nat, q < s.heap.size → t.heap[q]? = s.heap[q]?) → z_Th cls a t t.heap → Qc args s (.threw a) t) (hc : cells + 1 ≤ mc) (hs : slots + 6 ≤ ms) :
    W p l e R s m args below meth c H [] cells slots (z_MQ below Qc args s mc ms free) (F0 m pc ls rest) := by
  intro T hT X
  have htr : e.platform.stackTraces = false := (show e.platform.stackTraces = l.stackTraces by rw [X.admits.platform]).trans hl
  have hins : (Cond.instantiable cls 6).before args s = true := hat _ (by simp [Bundle.ownAtoms])
  obtain ⟨vm₁, cX, kX, hfX, hkX, -, -, X₁, st1⟩ := X.newCold hexec (own := own) (C := cls) (index := ik) (n := 6) hown hk hins hini (g := F0 m pc ls rest) rfl (by rw [hb]; exact d0) hRcells hRslots
  generalize hT1 : (T.setVm vm₁).pushCell { cls := cX, slots := kX.instanceTypes.map defaultValue, vm := .none } = T1 at X₁ st1
  have hcat : (Value.ref T.heap.size).category = 1 := rfl
  have hcellA : T1.heap[T.heap.size]? = some (freshCell cX kX) := by rw [← hT1]; exact State.heap_pushCell_size _ _
  have hnew : s.heap.size ≤ T.heap.size := X.same.2.1
  have d3' : decode c.code (pc + 3) = .ok (.dup, 1) := by rw [hb]; exact d3
  have d4' : decode c.code (pc + 4) = .ok (.ldc is, 2) := by rw [hb]; exact d4
  obtain ⟨U, hsteps, hrun, hend, hW, hsame, ce, hce, hO⟩ := X₁.ctorThrowS hexec htr (own := own) (cls := cls) (names := names) (ic := ic) hown hcls hnames hat (fun x hx => nomatch hx) hfX hkX hcellA hnew (msg := .ref sa) rfl
    (g := { method := m, pc := pc + 6, locals := ls, stack := .ref sa :: .ref T.heap.size :: .ref T.heap.size :: rest, locked := none }) rfl hsize rfl rfl (rest := rest) rfl
    (by rw [hb]; exact d6) (by rw [hb]; exact d9) hout hRframes (by simp only [List.map_cons, List.sum_cons, hcat]; omega) hlocks
  obtain ⟨f1, f2⟩ := z_frame hsame
  refine ⟨U, ?_, .threw T.heap.size, hrun, hend, hx _ U hW f1 f2 ⟨ce, hce, hO.vm, by rw [hW.alike.findClass]; exact hO.cls⟩, [], ⟨hW, hsame.mono hc hs⟩, fun q hq => nomatch hq⟩
  refine st1 _ ?_
  show Steps p.tables e below (T1.setTop { method := m, pc := pc + 3, locals := ls, stack := .ref T.heap.size :: rest, locked := none }) _
  jvm_step X₁.here [X₁.here.top, hexec, d3', Value.category]
  exact X₁.ldcString hexec (own := own) (text := text) (index := is) (a := sa) hown hstr.1 hstr.2
    (g := { method := m, pc := pc + 4, locals := ls, stack := .ref T.heap.size :: .ref T.heap.size :: rest, locked := none }) rfl d4' _ hsteps
end Z7
/-! ===== catching ===== -/
section Z8
/-- the search goes through the table: the tables grow warmer, and it ends at the row of the handler h -/
def z_Fi (e : Env) (S : State) (f : JFrame) (a : Addr) (rows : List ExceptionTableEntry) (h : Nat) (vm' : Vm) : Prop := ∀ (Q : Handler → Pre) (E : CtlPost) (d : Bool) (acts : List Action), wp (findHandler.go f a rows) Q E e d acts S ↔ Q (.found h) d acts (S.setVm vm')
variable {e : Env} {s₀ : State} {f : JFrame} {a : Addr} {cell : Cell}
theorem z_fi1 {own name E : String} {args : Array Value} (hpl : e.platform.magicAccessors = ({} : Platform).magicAccessors) (hown : s₀.vm.findClass own = some f.method.cls) {x : ExceptionTableEntry} {t : List ExceptionTableEntry} (hx : covers x f.pc = true) (h0 : x.catchType ≠ 0)
    (hlink : (Cond.classLink own x.catchType name).before args s₀ = true) (hcast : (Cond.castable E name).before args s₀ = true) (hE : s₀.vm.findClass E = some cell.cls) (hobj : cell.vm = .none) {S : State} (hW : s₀.WarmedH S.vm) (hcell : S.heap[a]? = some cell) :
    ∃ vm', s₀.WarmedH vm' ∧ z_Fi e S f a (x :: t) x.handlerPc vm' := by
  obtain ⟨c3, c4, hc3, hc4, hasg⟩ := Cond.castable_spec hcast
  cases Option.some.inj (hc3.symm.trans hE)
  obtain ⟨c5, hc5, hl⟩ := Cond.classLink_spec hown hlink e.platform hpl
  cases Option.some.inj (hc4.symm.trans hc5)
  obtain ⟨k0, hk0, -⟩ := Vm.findClass_spec hE
  obtain ⟨k0', hk0', -⟩ := hW.alike.2.2 _ _ hk0
  obtain ⟨dk, _, _, kt, hd, _, _, _, _, hkt, _, hopen⟩ := hl.here
  have hl' := hW.classLinks hl
  have hW' := hW.noted hd hopen (State.rightAt_cls hl)
  refine ⟨_, hW', fun Q E d acts => ?_⟩
  simp only [covers] at hx
  obtain ⟨ha, ht⟩ := (resolveClass_links e.toSetting hl').op (op := VmOp.resolveClass f.method.cls x.catchType) rfl
  obtain ⟨k1', hk1', -⟩ := hW'.alike.2.2 _ _ hk0
  obtain ⟨k2', hk2', -⟩ := hW'.alike.2.2 _ _ hkt
  have hfit' : (S.vm.noted f.method.cls x.catchType (.cls c4)).assignable cell.cls c4 = true := by rw [hW'.alike.assignable]; exact hasg
  have hst : ∀ k, cell.vm ≠ .statics k := fun k h => by rw [hobj] at h; cases h
  simp [findHandler.go, hx, h0, ha, ht, hcell, hst, hk1', hk2', hfit', VmOp.dirties, VmOp.acts]
theorem z_fiP {own name E : String} {args : Array Value} (hpl : e.platform.magicAccessors = ({} : Platform).magicAccessors) (hown : s₀.vm.findClass own = some f.method.cls) {x : ExceptionTableEntry} {t : List ExceptionTableEntry} (hx : covers x f.pc = true) (h0 : x.catchType ≠ 0)
    (hlink : (Cond.classLink own x.catchType name).before args s₀ = true) (hno : va_Nc E name s₀) (hE : s₀.vm.findClass E = some cell.cls) (hobj : cell.vm = .none) {S : State} (hW : s₀.WarmedH S.vm) (hcell : S.heap[a]? = some cell) {h : Nat}
    (ih : ∀ S' : State, s₀.WarmedH S'.vm → S'.heap[a]? = some cell → ∃ vm', s₀.WarmedH vm' ∧ z_Fi e S' f a t h vm') :
    ∃ vm', s₀.WarmedH vm' ∧ z_Fi e S f a (x :: t) h vm' := by
  obtain ⟨a8, b8, g1, g2, g3⟩ := hno
  cases Option.some.inj (g1.symm.trans hE)
  obtain ⟨c5, hc5, hl⟩ := Cond.classLink_spec hown hlink e.platform hpl
  cases Option.some.inj (g2.symm.trans hc5)
  obtain ⟨k0, hk0, -⟩ := Vm.findClass_spec hE
  obtain ⟨dk, _, _, kt, hd, _, _, _, _, hkt, _, hopen⟩ := hl.here
  have hl' := hW.classLinks hl
  have hW' := hW.noted hd hopen (State.rightAt_cls hl)
  obtain ⟨vm', hV, hF⟩ := ih (S.setVm (S.vm.noted f.method.cls x.catchType (.cls b8))) hW' hcell
  refine ⟨vm', hV, fun Q E d acts => ?_⟩
  simp only [covers] at hx
  obtain ⟨ha, ht⟩ := (resolveClass_links e.toSetting hl').op (op := VmOp.resolveClass f.method.cls x.catchType) rfl
  obtain ⟨k1', hk1', -⟩ := hW'.alike.2.2 _ _ hk0
  obtain ⟨k2', hk2', -⟩ := hW'.alike.2.2 _ _ hkt
  have hfit' : (S.vm.noted f.method.cls x.catchType (.cls b8)).assignable cell.cls b8 = false := by rw [hW'.alike.assignable]; exact g3
  have hst : ∀ k, cell.vm ≠ .statics k := fun k h => by rw [hobj] at h; cases h
  have h1 : wp (findHandler.go f a (x :: t)) Q E e d acts S ↔ wp (findHandler.go f a t) Q E e d acts (S.setVm (S.vm.noted f.method.cls x.catchType (.cls b8))) := by
    simp [findHandler.go, hx, h0, ha, ht, hcell, hst, hk1', hk2', hfit', VmOp.dirties, VmOp.acts]
  exact h1.trans (hF Q E d acts)
end Z8
section Z9
variable {p : Program} {l : Launch} {e : Env} {R : Room} {s : State} {m : MethodId} {args : Array Value} {below : List Frame} {meth : Method} {c : Code} {H : Heap} {locs : List Loc} {cells slots : Nat} {Q : State → Prop}
theorem z_stepTo {e : Env} {s : State} {a : Addr} {f : JFrame} {r : List Frame} {pc : Nat} {vm' : Vm} (hfind : ∀ (Q : Handler → Pre) (E : CtlPost) (d : Bool) (acts : List Action), wp (findHandler f a) Q E e d acts s ↔ Q (.found pc) d acts (s.setVm vm')) :
    (stepThrowing e s a (.java f :: r)).Is ((s.setVm vm').setFrames (.java { f with pc := pc, stack := [.ref a] } :: r)) [] := by
  simp only [stepThrowing, searchFrame, vmDo]
  generalize hr : Sem.go _ e false [] s = res
  obtain ⟨as, rfl, ha⟩ := Sem.eq_ok_of hr (a := Handler.found pc) (s' := s.setVm vm') (acts' := []) (by simp [hfind _ _ _ _])
  exact ⟨rfl, ha⟩
/-- caught in this method, at the handler tgt -/
theorem z_catch {pc tgt : Nat} {ls : Array Slot} {rest : List Value} {a : Addr}
    (hfi : ∀ T : State, T.heap = H → s.WarmedH T.vm → e.platform.magicAccessors = ({} : Platform).magicAccessors → ∃ vm', s.WarmedH vm' ∧ z_Fi e ((T.setTop (F0 m pc ls rest)).pushFrame (.throwing a)) (F0 m pc ls rest) a c.exceptionTable.toList tgt vm')
    (k : W p l e R s m args below meth c H locs cells slots Q (F0 m tgt ls [.ref a])) : z_T p l e R s m args below meth c H locs cells slots Q (F0 m pc ls rest) a := by
  intro T hT X
  have hpl : e.platform.magicAccessors = ({} : Platform).magicAccessors := by rw [X.admits.platform]
  obtain ⟨vm', hW', hF⟩ := hfi T hT X.warmed hpl
  have X' := X.noted hW'
  obtain ⟨t, a1, b1⟩ := k (T.setVm vm') hT X'
  refine ⟨t, ?_, b1⟩
  have h : At T (F0 m pc ls rest).method c below := X.here
  obtain ⟨hgo, hw⟩ := h.throwing a
  refine Steps.head hgo hw ?_
  have hm : ((T.setTop (F0 m pc ls rest)).pushFrame (.throwing a)).vm.method? (F0 m pc ls rest).method = some meth := by
    rw [Stand.throwing_vm]; exact X.method'
  rw [stepThread_throwing (frames_entered h.top _), (z_stepTo (s := (T.setTop (F0 m pc ls rest)).pushFrame (.throwing a)) (vm' := vm') (pc := tgt) (fun Q E d acts => by rw [W.findHandler_eq hm X.code]; exact hF Q E d acts)).1]
  obtain ⟨g₀, hg⟩ := Option.isSome_iff_exists.mp h.top
  obtain ⟨r, hr⟩ := State.topJava?_eq_some.mp hg
  have hr' : (T.setVm vm').frames = .java g₀ :: r := hr
  rw [State.setTop_of_frames _ hr'] at a1
  rw [State.pushFrame, State.setTop_of_frames _ hr, State.setFrames_setFrames]
  have e1 : (T.setFrames (.throwing a :: (T.setFrames (.java (F0 m pc ls rest) :: r)).frames)).setVm vm' = (T.setVm vm').setFrames (.throwing a :: (T.setFrames (.java (F0 m pc ls rest) :: r)).frames) := rfl
  rw [e1, State.setFrames_setFrames, hr]
  exact a1
end Z9
