/-! ===== calls by the kind of their answer ===== -/
section Z19
variable {p : Program} {l : Launch} {e : Env} {R : Room} {s : State} {m : MethodId} {args : Array Value} {below : List Frame} {meth : Method} {c : Code} {H : Heap} {locs : List Loc} {cells slots : Nat} {Q : State → Prop}
variable {cc : ByteArray} {pc : Nat} {ls : Array Slot} {rest st0 : List Value} {D : va_G} {cl : List vw_C} {lo a : Nat} {tys : List (ClassId × FieldType)} {X0 X : zM} {G : State → Prop}
variable {y : MethodName} {w : Cond} {rm : Room} {maxL : Nat} {av : List Value} {ig : Instr}
theorem z_pi {r : zR} {v : Int32} (hI : z_In p l e R s m args below meth c H (F0 m pc ls st0) rest y av.toArray) (hb : c.code = cc) (hsize : ls.size = c.maxLocals) (hM : z_P G D cl tys lo l y w rm av X r) (hr : r = .inl (some (.int v))) (hGk : z_Gk G lo) (hG : G s) (hK : va_K D cl tys s) (hS : z_S D cl lo X0 s.heap X H locs) (cw : z_Cw R s args y w rm maxL)
    (hdg : decode cc pc = .ok (ig, 3)) (hW : (rest.map fun v => v.category).sum ≤ 8) (hc1 : cells + rm.cells ≤ R.cells) (hs1 : slots + rm.slots ≤ R.slots)
    (k : ∀ H1 : Heap, z_Gr H H1 → z_S D cl lo X0 s.heap X H1 locs → W p l e R s m args below meth c H1 locs (cells + rm.cells) (slots + rm.slots) Q (F0 m (pc + 3) ls (.int v :: rest))) :
    W p l e R s m args below meth c H locs cells slots Q (F0 m pc ls st0) := z_pR hI hb hsize hM hr hGk hG hK hS cw hdg hW hc1 hs1 k
theorem z_pa {r : zR} {v : Nat} (hI : z_In p l e R s m args below meth c H (F0 m pc ls st0) rest y av.toArray) (hb : c.code = cc) (hsize : ls.size = c.maxLocals) (hM : z_P G D cl tys lo l y w rm av X r) (hr : r = .inl (some (.ref v))) (hGk : z_Gk G lo) (hG : G s) (hK : va_K D cl tys s) (hS : z_S D cl lo X0 s.heap X H locs) (cw : z_Cw R s args y w rm maxL)
    (hdg : decode cc pc = .ok (ig, 3)) (hW : (rest.map fun v => v.category).sum ≤ 8) (hc1 : cells + rm.cells ≤ R.cells) (hs1 : slots + rm.slots ≤ R.slots)
    (k : ∀ H1 : Heap, z_Gr H H1 → z_S D cl lo X0 s.heap X H1 locs → W p l e R s m args below meth c H1 locs (cells + rm.cells) (slots + rm.slots) Q (F0 m (pc + 3) ls (.ref v :: rest))) :
    W p l e R s m args below meth c H locs cells slots Q (F0 m pc ls st0) := z_pR hI hb hsize hM hr hGk hG hK hS cw hdg hW hc1 hs1 k
theorem z_pv {r : zR}  (hI : z_In p l e R s m args below meth c H (F0 m pc ls st0) rest y av.toArray) (hb : c.code = cc) (hsize : ls.size = c.maxLocals) (hM : z_P G D cl tys lo l y w rm av X r) (hr : r = .inl (none)) (hGk : z_Gk G lo) (hG : G s) (hK : va_K D cl tys s) (hS : z_S D cl lo X0 s.heap X H locs) (cw : z_Cw R s args y w rm maxL)
    (hdg : decode cc pc = .ok (ig, 3)) (hW : (rest.map fun v => v.category).sum ≤ 8) (hc1 : cells + rm.cells ≤ R.cells) (hs1 : slots + rm.slots ≤ R.slots)
    (k : ∀ H1 : Heap, z_Gr H H1 → z_S D cl lo X0 s.heap X H1 locs → W p l e R s m args below meth c H1 locs (cells + rm.cells) (slots + rm.slots) Q (F0 m (pc + 3) ls (rest))) :
    W p l e R s m args below meth c H locs cells slots Q (F0 m pc ls st0) := z_pR hI hb hsize hM hr hGk hG hK hS cw hdg hW hc1 hs1 k
/-- a callee that only reads throws, and so does this method, which only reads -/
theorem z_pPX {r r0 : zR} {E : String} {mc ms : Nat} (hI : z_In p l e R s m args below meth c H (F0 m pc ls st0) rest y av.toArray) (hb : c.code = cc) (hsize : ls.size = c.maxLocals) (hM : z_P G D cl tys lo l y w rm av X r) (hr : r = .inr E) (hGk : z_Gk G lo) (hG : G s) (hK : va_K D cl tys s) (hS : z_S D cl lo X0 s.heap X H []) (cw : z_Cw R s args y w rm maxL)
    (hdg : decode cc pc = .ok (ig, 3)) (hW : (rest.map fun v => v.category).sum ≤ 8) (hc1 : cells + rm.cells ≤ R.cells) (hs1 : slots + rm.slots ≤ R.slots) (hout : ∀ z ∈ c.exceptionTable.toList, ∀ pc, covers z pc = false) (hlocks : meth.locks = false) (hg : z_Gr s.heap H) (he : r0 = .inr E) (h1 : cells + rm.cells ≤ mc) (h2 : slots + rm.slots ≤ ms) :
    W p l e R s m args below meth c H [] cells slots (z_MQ below (z_pu r0) args s mc ms (fun _ => False)) (F0 m pc ls st0) :=
  z_pT hI hb hsize hM hr hGk hG hK hS cw hdg hW hc1 hs1 (fun x H1 hq hS1 hT => z_Pout hout hlocks (hg.tr hq) hT he h1 h2)
/-- .. which may write -/
theorem z_pCX {r : zR} {Po : zR → zM → Prop} {E : String} {mc ms : Nat} (hI : z_In p l e R s m args below meth c H (F0 m pc ls st0) rest y av.toArray) (hb : c.code = cc) (hsize : ls.size = c.maxLocals) (hM : z_P G D cl tys lo l y w rm av X r) (hr : r = .inr E) (hGk : z_Gk G lo) (hG : G s) (hK : va_K D cl tys s) (hS : z_S D cl lo X0 s.heap X H locs) (cw : z_Cw R s args y w rm maxL)
    (hdg : decode cc pc = .ok (ig, 3)) (hW : (rest.map fun v => v.category).sum ≤ 8) (hc1 : cells + rm.cells ≤ R.cells) (hs1 : slots + rm.slots ≤ R.slots) (hout : ∀ z ∈ c.exceptionTable.toList, ∀ pc, covers z pc = false) (hlocks : meth.locks = false) (hP : Po (.inr E) X) (h1 : cells + rm.cells ≤ mc) (h2 : slots + rm.slots ≤ ms) :
    W p l e R s m args below meth c H locs cells slots (z_MQ below (z_Q D cl X0 Po) args s mc ms (fun q => lo ≤ q)) (F0 m pc ls st0) :=
  z_pT hI hb hsize hM hr hGk hG hK hS cw hdg hW hc1 hs1 (fun x H1 hq hS1 hT => z_Cout hout hlocks hS1 hT hP h1 h2)
/-- a call that writes and surely returns nothing, the world behind it known -/
theorem z_wv {Po : zR → zM → Prop} {X2 : zM} (hI : z_In p l e R s m args below meth c H (F0 m pc ls st0) rest y av.toArray) (hb : c.code = cc) (hsize : ls.size = c.maxLocals) (hM : z_C G D cl tys lo l y w rm av X Po) (hPo : ∀ r X9, Po r X9 → r = .inl none ∧ X9 = X2) (hGk : z_Gk G lo) (hG : G s) (hK : va_K D cl tys s) (hS : z_S D cl lo X0 s.heap X H locs) (cw : z_Cw R s args y w rm maxL)
    (hdg : decode cc pc = .ok (ig, 3)) (hW : (rest.map fun v => v.category).sum ≤ 8) (hc1 : cells + rm.cells ≤ R.cells) (hs1 : slots + rm.slots ≤ R.slots)
    (k1 : ∀ (H1 : Heap) (locs1 : List Loc), z_S D cl lo X0 s.heap X2 H1 locs1 → W p l e R s m args below meth c H1 locs1 (cells + rm.cells) (slots + rm.slots) Q (F0 m (pc + 3) ls rest)) :
    W p l e R s m args below meth c H locs cells slots Q (F0 m pc ls st0) := by
  refine z_w hI hb hsize hM hGk hG hK hS cw hdg hW hc1 hs1 (fun v X' H1 locs1 hP _ hS1 _ _ => ?_) (fun E x X' H1 locs1 hP _ _ _ _ _ => ?_)
  · obtain ⟨e1, e2⟩ := hPo _ _ hP
    cases e1
    subst e2
    exact k1 H1 locs1 hS1
  · obtain ⟨e1, -⟩ := hPo _ _ hP
    cases e1
end Z19
/-! ===== the class's world ===== -/
def z_sm (g : Nat → Int32) : Nat → Int32
  | 0 => 0
  | i + 1 => z_sm g i + g i
theorem z_smS (g : Nat → Int32) (i : Nat) : z_sm g (i + 1) = z_sm g i + g i := rfl
def XI (x sA rA : Nat) (cS cR : ClassId) (n k : Nat) (td : Int32) (sd rd : Nat → Nat) (S : Nat → Nat → Int32) (I : Nat → Nat) (F : Nat → Nat → Int32) (X : zM) : Prop :=
  X x = some (.inr (0, [.ref sA, .ref rA, .int (nI n), .int (nI k), .int td])) ∧ X sA = some (zar cS n sd) ∧ X rA = some (zar cR k rd) ∧ (∀ i, i < n → X (sd i) = some (.inr (1, rowS i (S i)))) ∧ (∀ j, j < k → X (rd j) = some (.inr (2, rowR (sd (I j)) (F j)))) ∧ (∀ j, j < k → I j < n) ∧ n ≤ 20 ∧ k ≤ 20 ∧ (∀ i j, i < n → j < n → sd i = sd j → i = j) ∧ (∀ i j, i < k → j < k → rd i = rd j → i = j) ∧ sA ≠ rA
