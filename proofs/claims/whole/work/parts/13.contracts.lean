/-! ===== contracts over worlds as maps ===== -/
/-- what a method answers: nothing or a value; or the name of the class that it throws -/
abbrev zR : Type := Option Value ⊕ String
def z_Oc (r : zR) (o : Outcome) (t : State) : Prop := match r with
  | .inl v => o = .returned v
  | .inr E => ∃ a, o = .threw a ∧ z_Th E a t t.heap
/-- the heap has only grown -/
def z_Gr (H H1 : Heap) : Prop := H.size ≤ H1.size ∧ ∀ q : Nat, q < H.size → H1[q]? = H[q]?
theorem z_Gr.rf {H : Heap} : z_Gr H H := ⟨Nat.le_refl _, fun _ _ => rfl⟩
theorem z_Gr.tr {H H1 H2 : Heap} (h : z_Gr H H1) (k : z_Gr H1 H2) : z_Gr H H2 := ⟨Nat.le_trans h.1 k.1, fun q hq => (k.2 q (Nat.lt_of_lt_of_le hq h.1)).trans (h.2 q hq)⟩
/-- what stays true of a state while the tables grow warmer and nothing below lo changes -/
def z_Gk (G : State → Prop) (lo : Nat) : Prop := ∀ u U : State, G u → u.WarmedH U.vm → (∀ q : Nat, q < lo → U.heap[q]? = u.heap[q]?) → G U
/-- a method's start -/
def z_St (G : State → Prop) (D : va_G) (cl : List vw_C) (tys : List (ClassId × FieldType)) (lo : Nat) (X : zM) (U : State) : Prop := G U ∧ va_K D cl tys U ∧ z_W D cl X U.heap ∧ (∀ q, X q ≠ none → lo ≤ q) ∧ lo ≤ U.heap.size
/-- the end of a method that only reads -/
def z_pu (r : zR) : Array Value → State → Outcome → State → Prop := fun _ st o t => z_Oc r o t ∧ z_Gr st.heap t.heap
/-- a method that only reads: its answer is r -/
def z_P (G : State → Prop) (D : va_G) (cl : List vw_C) (tys : List (ClassId × FieldType)) (lo : Nat) (l : Launch) (y : MethodName) (w : Cond) (rm : Room) (av : List Value) (X : zM) (r : zR) : Prop :=
  z_Met l y w rm (va_Pc av (z_St G D cl tys lo X)) (z_pu r) rm.cells rm.slots (fun _ => False)
/-- the end of a method that writes -/
def z_Q (D : va_G) (cl : List vw_C) (X : zM) (Po : zR → zM → Prop) : Array Value → State → Outcome → State → Prop := fun _ st o t =>
  ∃ (r : zR) (X' : zM), Po r X' ∧ z_Oc r o t ∧ z_W D cl X' t.heap ∧ st.heap.size ≤ t.heap.size ∧ (∀ q : Nat, q < st.heap.size → X q = none → t.heap[q]? = st.heap[q]?) ∧ ∀ q, X' q ≠ none → X q ≠ none ∨ st.heap.size ≤ q
/-- a method that may write: its answer and the world behind it satisfy Po -/
def z_C (G : State → Prop) (D : va_G) (cl : List vw_C) (tys : List (ClassId × FieldType)) (lo : Nat) (l : Launch) (y : MethodName) (w : Cond) (rm : Room) (av : List Value) (X : zM) (Po : zR → zM → Prop) : Prop :=
  z_Met l y w rm (va_Pc av (z_St G D cl tys lo X)) (z_Q D cl X Po) rm.cells rm.slots (fun q => lo ≤ q)
theorem z_blind {G : State → Prop} {D : va_G} {cl : List vw_C} {tys : List (ClassId × FieldType)} {lo : Nat} {X : zM} {av : List Value} (hGk : z_Gk G lo) : FrameBlind (va_Pc av (z_St G D cl tys lo X)) := fun a U g mk ⟨h1, hG, hK, hW, hX, hl⟩ =>
  ⟨h1, hGk U _ hG (State.WarmedH.refl U) (fun _ _ => rfl), va_K.moved (u := U) (U := U.calling g mk a) (Vm.Alike.refl U.vm) hK, hW, hX, hl⟩
section Z10
variable {p : Program} {l : Launch} {e : Env} {R : Room} {s : State} {m : MethodId} {args : Array Value} {below : List Frame} {meth : Method} {c : Code} {H : Heap} {locs : List Loc} {cells slots : Nat} {Q : State → Prop}
variable {cc : ByteArray} {pc : Nat} {ls : Array Slot} {rest st0 : List Value} {D : va_G} {cl : List vw_C} {lo a : Nat} {tys : List (ClassId × FieldType)} {X0 X : zM} {G : State → Prop}
variable {y : MethodName} {w : Cond} {rm : Room} {maxL : Nat} {av : List Value} {ig : Instr}
/-- what every call needs: the word of the callee's code, its class, its room -/
abbrev z_Cw (R : Room) (s : State) (args : Array Value) (y : MethodName) (w : Cond) (rm : Room) (maxL : Nat) : Prop :=
  (∀ (a' : Array Value) (U : State), s.WarmedH U.vm → w.before a' U = true) ∧ z_wk w y maxL ∧ (Cond.initialized y.cls).before args s = true ∧ rm.frames + 1 ≤ R.frames ∧ 8 + (maxL + 11) + rm.locals ≤ R.locals
theorem z_start (hGk : z_Gk G lo) (hG : G s) (hK : va_K D cl tys s) (hS : z_S D cl lo X0 s.heap X H locs) {U : State} (hU : U.heap = H) (hW : s.WarmedH U.vm) : z_St G D cl tys lo X U :=
  ⟨hGk s U hG hW (fun q hq => by rw [hU]; exact hS.under hq), va_K.moved hW.alike hK, by rw [hU]; exact hS.1, fun q hq => hS.low hq, by rw [hU]; exact Nat.le_trans hS.2.2.2.2.2.2 hS.2.1⟩
theorem z_nil {L : List Loc} (h : ∀ q ∈ L, False) : L = [] := List.eq_nil_iff_forall_not_mem.mpr h
/-- a call of a method that only reads, and returns -/
theorem z_pR {r : zR} {v : Option Value} (hI : z_In p l e R s m args below meth c H (F0 m pc ls st0) rest y av.toArray) (hb : c.code = cc) (hsize : ls.size = c.maxLocals) (hM : z_P G D cl tys lo l y w rm av X r) (hr : r = .inl v) (hGk : z_Gk G lo) (hG : G s) (hK : va_K D cl tys s) (hS : z_S D cl lo X0 s.heap X H locs) (cw : z_Cw R s args y w rm maxL)
    (hdg : decode cc pc = .ok (ig, 3)) (hW : (rest.map fun v => v.category).sum ≤ 8) (hc1 : cells + rm.cells ≤ R.cells) (hs1 : slots + rm.slots ≤ R.slots)
    (k : ∀ H1 : Heap, z_Gr H H1 → z_S D cl lo X0 s.heap X H1 locs → W p l e R s m args below meth c H1 locs (cells + rm.cells) (slots + rm.slots) Q (F0 m (pc + 3) ls (v.toList ++ rest))) :
    W p l e R s m args below meth c H locs cells slots Q (F0 m pc ls st0) := by
  refine z_call hI hb hsize hM (z_blind hGk) rfl rfl cw.2.2.2.1 cw.2.2.2.2 cw.1 cw.2.1 cw.2.2.1 hdg hW hc1 hs1 (fun U hU hWU => ⟨rfl, z_start hGk hG hK hS hU hWU⟩) (fun v' st t L h0 hWt hQ hL => ?_) (fun x st t L h0 hWt hQ hL => ?_)
  · obtain ⟨hO, hGr⟩ := hQ
    rw [hr] at hO
    have hv : v' = v := by cases (show Outcome.returned v' = .returned v from hO); rfl
    subst hv
    rw [h0] at hGr
    rw [z_nil hL, List.append_nil]
    exact k t.heap hGr (hS.grow hGr.1 hGr.2)
  · obtain ⟨hO, -⟩ := hQ
    rw [hr] at hO
    exact absurd (show Outcome.threw x = .returned v from hO) (fun h => by cases h)
/-- .. and throws -/
theorem z_pT {r : zR} {E : String} (hI : z_In p l e R s m args below meth c H (F0 m pc ls st0) rest y av.toArray) (hb : c.code = cc) (hsize : ls.size = c.maxLocals) (hM : z_P G D cl tys lo l y w rm av X r) (hr : r = .inr E) (hGk : z_Gk G lo) (hG : G s) (hK : va_K D cl tys s) (hS : z_S D cl lo X0 s.heap X H locs) (cw : z_Cw R s args y w rm maxL)
    (hdg : decode cc pc = .ok (ig, 3)) (hW : (rest.map fun v => v.category).sum ≤ 8) (hc1 : cells + rm.cells ≤ R.cells) (hs1 : slots + rm.slots ≤ R.slots)
    (k : ∀ (x : Addr) (H1 : Heap), z_Gr H H1 → z_S D cl lo X0 s.heap X H1 locs → z_Th E x s H1 → z_T p l e R s m args below meth c H1 locs (cells + rm.cells) (slots + rm.slots) Q (F0 m pc ls rest) x) :
    W p l e R s m args below meth c H locs cells slots Q (F0 m pc ls st0) := by
  refine z_call hI hb hsize hM (z_blind hGk) rfl rfl cw.2.2.2.1 cw.2.2.2.2 cw.1 cw.2.1 cw.2.2.1 hdg hW hc1 hs1 (fun U hU hWU => ⟨rfl, z_start hGk hG hK hS hU hWU⟩) (fun v' st t L h0 hWt hQ hL => ?_) (fun x st t L h0 hWt hQ hL => ?_)
  · obtain ⟨hO, -⟩ := hQ
    rw [hr] at hO
    obtain ⟨a9, h9, -⟩ := (show ∃ a9, Outcome.returned v' = .threw a9 ∧ z_Th E a9 t t.heap from hO)
    cases h9
  · obtain ⟨hO, hGr⟩ := hQ
    rw [hr] at hO
    obtain ⟨a9, h9, hT⟩ := (show ∃ a9, Outcome.threw x = .threw a9 ∧ z_Th E a9 t t.heap from hO)
    cases h9
    rw [h0] at hGr
    rw [z_nil hL, List.append_nil]
    exact k x t.heap hGr (hS.grow hGr.1 hGr.2) (hT.moved hWt.alike.symm)
/-- what a call that may write leaves -/
theorem z_after {st t : State} {L : List Loc} {X' : zM} (hS : z_S D cl lo X0 s.heap X H locs) (h0 : st.heap = H) (hL : ∀ q ∈ L, lo ≤ q.base) (g1 : z_W D cl X' t.heap) (g2 : st.heap.size ≤ t.heap.size) (g3 : ∀ q : Nat, q < st.heap.size → X q = none → t.heap[q]? = st.heap[q]?) (g4 : ∀ q, X' q ≠ none → X q ≠ none ∨ st.heap.size ≤ q) :
    z_S D cl lo X0 s.heap X' t.heap (locs ++ L) := by
  rw [h0] at g2 g3 g4
  refine ⟨g1, Nat.le_trans hS.2.1 g2, fun q h1 h2 => ?_, fun q hq => ?_, fun q hq => ?_, hS.2.2.2.2.2⟩
  · have hX : X q = none := by
      cases hx : X q with
      | none => rfl
      | some e => exact ((hS.2.2.2.2.1 q (by rw [hx]; exact fun z => by cases z)).elim (fun z => absurd h2 z) (fun z => absurd h1 (Nat.not_lt.mpr z)))
    rw [g3 q (Nat.lt_of_lt_of_le h1 hS.2.1) hX]
    exact hS.2.2.1 q h1 h2
  · rcases List.mem_append.mp hq with h | h
    · exact hS.2.2.2.1 q h
    · exact hL q h
  · rcases g4 q hq with h | h
    · exact hS.2.2.2.2.1 q h
    · exact Or.inr (Nat.le_trans hS.2.1 h)
/-- a call of a method that may write -/
theorem z_w {Po : zR → zM → Prop} (hI : z_In p l e R s m args below meth c H (F0 m pc ls st0) rest y av.toArray) (hb : c.code = cc) (hsize : ls.size = c.maxLocals) (hM : z_C G D cl tys lo l y w rm av X Po) (hGk : z_Gk G lo) (hG : G s) (hK : va_K D cl tys s) (hS : z_S D cl lo X0 s.heap X H locs) (cw : z_Cw R s args y w rm maxL)
    (hdg : decode cc pc = .ok (ig, 3)) (hW : (rest.map fun v => v.category).sum ≤ 8) (hc1 : cells + rm.cells ≤ R.cells) (hs1 : slots + rm.slots ≤ R.slots)
    (k1 : ∀ (v : Option Value) (X' : zM) (H1 : Heap) (locs1 : List Loc), Po (.inl v) X' → (∀ q, X' q ≠ none → X q ≠ none ∨ H.size ≤ q) → z_S D cl lo X0 s.heap X' H1 locs1 → (∀ q : Nat, q < H.size → X q = none → H1[q]? = H[q]?) → H.size ≤ H1.size → W p l e R s m args below meth c H1 locs1 (cells + rm.cells) (slots + rm.slots) Q (F0 m (pc + 3) ls (v.toList ++ rest)))
    (k2 : ∀ (E : String) (x : Addr) (X' : zM) (H1 : Heap) (locs1 : List Loc), Po (.inr E) X' → (∀ q, X' q ≠ none → X q ≠ none ∨ H.size ≤ q) → z_S D cl lo X0 s.heap X' H1 locs1 → (∀ q : Nat, q < H.size → X q = none → H1[q]? = H[q]?) → H.size ≤ H1.size → z_Th E x s H1 → z_T p l e R s m args below meth c H1 locs1 (cells + rm.cells) (slots + rm.slots) Q (F0 m pc ls rest) x) :
    W p l e R s m args below meth c H locs cells slots Q (F0 m pc ls st0) := by
  refine z_call hI hb hsize hM (z_blind hGk) rfl rfl cw.2.2.2.1 cw.2.2.2.2 cw.1 cw.2.1 cw.2.2.1 hdg hW hc1 hs1 (fun U hU hWU => ⟨rfl, z_start hGk hG hK hS hU hWU⟩) (fun v' st t L h0 hWt hQ hL => ?_) (fun x st t L h0 hWt hQ hL => ?_)
  · obtain ⟨r, X', hP, hO, g1, g2, g3, g4⟩ := hQ
    have hz := z_after hS h0 hL g1 g2 g3 g4
    rw [h0] at g2 g3 g4
    cases r with
    | inl v =>
      have hv : v' = v := by cases (show Outcome.returned v' = .returned v from hO); rfl
      subst hv
      exact k1 v' X' t.heap _ hP g4 hz g3 g2
    | inr E =>
      obtain ⟨a9, h9, -⟩ := (show ∃ a9, Outcome.returned v' = .threw a9 ∧ z_Th E a9 t t.heap from hO)
      cases h9
  · obtain ⟨r, X', hP, hO, g1, g2, g3, g4⟩ := hQ
    have hz := z_after hS h0 hL g1 g2 g3 g4
    rw [h0] at g2 g3 g4
    cases r with
    | inl v => exact absurd (show Outcome.threw x = .returned v from hO) (fun h => by cases h)
    | inr E =>
      obtain ⟨a9, h9, hT⟩ := (show ∃ a9, Outcome.threw x = .threw a9 ∧ z_Th E a9 t t.heap from hO)
      cases h9
      exact k2 E x X' t.heap _ hP g4 hz g3 g2 (hT.moved hWt.alike.symm)
end Z10
/-! ===== the ends ===== -/
section Z11
variable {p : Program} {l : Launch} {e : Env} {R : Room} {s : State} {m : MethodId} {args : Array Value} {below : List Frame} {meth : Method} {c : Code} {H : Heap} {locs : List Loc} {cells slots mc ms : Nat}
variable {cc : ByteArray} {pc : Nat} {ls : Array Slot} {rest : List Value} {D : va_G} {cl : List vw_C} {lo : Nat} {X0 X : zM}
theorem z_Piret {r : zR} {v : Int32} (hexec : p.tables.exec = Jvm.exec) (hb : c.code = cc) {ty : FieldType} (hr : meth.sig.returnType = some ty) (hn : narrow ty (.int v) = .int v) (hlocks : meth.locks = false) (hg : z_Gr s.heap H) (he : r = .inl (some (.int v))) (h1 : cells ≤ mc) (h2 : slots ≤ ms) (hdg : decode cc pc = .ok (.ireturn, 1)) :
    W p l e R s m args below meth c H [] cells slots (z_MQ below (z_pu r) args s mc ms (fun _ => False)) (F0 m pc ls [.int v]) :=
  W.widen h1 h2 (z_mono (fun _ => z_MQ.of) (W.zret hexec hb hr hn (fun t ht _ => ⟨by rw [he]; rfl, by rw [ht]; exact hg⟩) (fun q hq => nomatch hq) hdg hlocks))
theorem z_Pvret {r : zR} (hexec : p.tables.exec = Jvm.exec) (hb : c.code = cc) (hr : meth.sig.returnType = none) (hlocks : meth.locks = false) (hg : z_Gr s.heap H) (he : r = .inl none) (h1 : cells ≤ mc) (h2 : slots ≤ ms) (hdg : decode cc pc = .ok (.return_, 1)) :
    W p l e R s m args below meth c H [] cells slots (z_MQ below (z_pu r) args s mc ms (fun _ => False)) (F0 m pc ls []) :=
  W.widen h1 h2 (z_mono (fun _ => z_MQ.of) (W.vret hexec hb hr (fun t ht _ => ⟨by rw [he]; rfl, by rw [ht]; exact hg⟩) (fun q hq => nomatch hq) hdg hlocks))
theorem z_Paret {r : zR} {v : Nat} {C : String} (hexec : p.tables.exec = Jvm.exec) (hb : c.code = cc) (hr : meth.sig.returnType = some (.object C)) (hlocks : meth.locks = false) (hg : z_Gr s.heap H) (he : r = .inl (some (.ref v))) (h1 : cells ≤ mc) (h2 : slots ≤ ms) (hdg : decode cc pc = .ok (.areturn, 1)) :
    W p l e R s m args below meth c H [] cells slots (z_MQ below (z_pu r) args s mc ms (fun _ => False)) (F0 m pc ls [.ref v]) :=
  W.widen h1 h2 (z_mono (fun _ => z_MQ.of) (W.aret hexec hb hr (Or.inl ⟨C, rfl⟩) (Or.inr ⟨v, rfl⟩) (fun t ht _ => ⟨by rw [he]; rfl, by rw [ht]; exact hg⟩) (fun q hq => nomatch hq) hdg hlocks))
/-- a callee has thrown, and nobody catches it here -/
theorem z_Pout {r : zR} {E : String} {x : Addr} (hout : ∀ z ∈ c.exceptionTable.toList, ∀ pc, covers z pc = false) (hlocks : meth.locks = false) (hg : z_Gr s.heap H) (hT : z_Th E x s H) (he : r = .inr E) (h1 : cells ≤ mc) (h2 : slots ≤ ms) :
    z_T p l e R s m args below meth c H [] cells slots (z_MQ below (z_pu r) args s mc ms (fun _ => False)) (F0 m pc ls rest) x :=
  z_Twiden h1 h2 (z_out (fun t ht hW => ⟨by rw [he]; exact ⟨x, rfl, by rw [ht]; exact hT.moved hW.alike⟩, by rw [ht]; exact hg⟩) (fun q hq => nomatch hq) (fun z hz => hout z hz pc) hlocks)
theorem z_Qend {Po : zR → zM → Prop} {r : zR} {o : Outcome} {t : State} {a9 : Array Value} (hS : z_S D cl lo X0 s.heap X H locs) (hP : Po r X) (ht : t.heap = H) (hO : z_Oc r o t) : z_Q D cl X0 Po a9 s o t :=
  ⟨r, X, hP, hO, by rw [ht]; exact hS.1, by rw [ht]; exact hS.2.1, fun q h1 h2 => by rw [ht]; exact hS.2.2.1 q h1 h2, hS.2.2.2.2.1⟩
theorem z_Ciret {Po : zR → zM → Prop} {v : Int32} (hexec : p.tables.exec = Jvm.exec) (hb : c.code = cc) {ty : FieldType} (hr : meth.sig.returnType = some ty) (hn : narrow ty (.int v) = .int v) (hlocks : meth.locks = false) (hS : z_S D cl lo X0 s.heap X H locs) (hP : Po (.inl (some (.int v))) X) (h1 : cells ≤ mc) (h2 : slots ≤ ms) (hdg : decode cc pc = .ok (.ireturn, 1)) :
    W p l e R s m args below meth c H locs cells slots (z_MQ below (z_Q D cl X0 Po) args s mc ms (fun q => lo ≤ q)) (F0 m pc ls [.int v]) :=
  W.widen h1 h2 (z_mono (fun _ => z_MQ.of) (W.zret hexec hb hr hn (fun t ht _ => z_Qend hS hP ht rfl) hS.2.2.2.1 hdg hlocks))
theorem z_Cvret {Po : zR → zM → Prop} (hexec : p.tables.exec = Jvm.exec) (hb : c.code = cc) (hr : meth.sig.returnType = none) (hlocks : meth.locks = false) (hS : z_S D cl lo X0 s.heap X H locs) (hP : Po (.inl none) X) (h1 : cells ≤ mc) (h2 : slots ≤ ms) (hdg : decode cc pc = .ok (.return_, 1)) :
    W p l e R s m args below meth c H locs cells slots (z_MQ below (z_Q D cl X0 Po) args s mc ms (fun q => lo ≤ q)) (F0 m pc ls []) :=
  W.widen h1 h2 (z_mono (fun _ => z_MQ.of) (W.vret hexec hb hr (fun t ht _ => z_Qend hS hP ht rfl) hS.2.2.2.1 hdg hlocks))
theorem z_Cout {Po : zR → zM → Prop} {E : String} {x : Addr} (hout : ∀ z ∈ c.exceptionTable.toList, ∀ pc, covers z pc = false) (hlocks : meth.locks = false) (hS : z_S D cl lo X0 s.heap X H locs) (hT : z_Th E x s H) (hP : Po (.inr E) X) (h1 : cells ≤ mc) (h2 : slots ≤ ms) :
    z_T p l e R s m args below meth c H locs cells slots (z_MQ below (z_Q D cl X0 Po) args s mc ms (fun q => lo ≤ q)) (F0 m pc ls rest) x :=
  z_Twiden h1 h2 (z_out (fun t ht hW => z_Qend hS hP ht ⟨x, rfl, by rw [ht]; exact hT.moved hW.alike⟩) hS.2.2.2.1 (fun z hz => hout z hz pc) hlocks)
end Z11
