/-! ===== worlds as maps from addresses to what lies there ===== -/
abbrev zM : Type := Nat → Option va_E
def z_up (X : zM) (a : Nat) (e : va_E) : zM := fun q => if q = a then some e else X q
theorem z_eq (X : zM) (a : Nat) (e : va_E) : z_up X a e a = some e := if_pos rfl
theorem z_ne {X : zM} {a q : Nat} {e : va_E} (h : q ≠ a) : z_up X a e q = X q := if_neg h
theorem z_upup (X : zM) (a : Nat) (e e' : va_E) : z_up (z_up X a e) a e' = z_up X a e' := by
  funext q
  unfold z_up
  by_cases h : q = a <;> simp [h]
/-- two entries of other kinds lie apart -/
theorem z_oo {X : zM} {a b ci cj : Nat} {fs gs : List Value} (ha : X a = some (.inr (ci, fs))) (hb : X b = some (.inr (cj, gs))) (h : ci ≠ cj) : a ≠ b := fun q => by
  subst q
  rw [ha] at hb
  cases hb
  exact h rfl
theorem z_oa {X : zM} {a b ci : Nat} {fs : List Value} {z : ClassId × vp_A} (ha : X a = some (.inr (ci, fs))) (hb : X b = some (.inl z)) : a ≠ b := fun q => by
  subst q
  rw [ha] at hb
  cases hb
theorem z_ao {X : zM} {a b ci : Nat} {fs : List Value} {z : ClassId × vp_A} (ha : X a = some (.inl z)) (hb : X b = some (.inr (ci, fs))) : a ≠ b := fun q => (z_oa hb ha) q.symm
def z_W (D : va_G) (cl : List vw_C) (X : zM) (H : Heap) : Prop := ∀ (a : Nat) (e : va_E), X a = some e → va_at D cl (a, e) H
section Z4
variable {D : va_G} {cl : List vw_C} {X : zM} {H H1 : Heap} {a : Nat} {e : va_E}
theorem z_W.one (h : z_W D cl X H) (ha : X a = some e) : va_P D cl [(a, e)] H := by
  intro k q hk
  match k, hk with
  | 0, hk => cases hk; exact h a e ha
  | k + 1, hk => simp at hk
theorem z_W.lt (h : z_W D cl X H) (ha : X a = some e) : a < H.size := (h a e ha).lt
theorem z_W.set (h : z_W D cl X H) (he : va_at D cl (a, e) H1) (oq : ∀ q : Nat, q ≠ a → H1[q]? = H[q]?) : z_W D cl (z_up X a e) H1 := by
  intro b e' hb
  unfold z_up at hb
  by_cases hq : b = a
  · rw [if_pos hq] at hb
    cases hb
    subst hq
    exact he
  · rw [if_neg hq] at hb
    exact (h b e' hb).kept (oq b hq)
theorem z_W.grow (h : z_W D cl X H) (oq : ∀ q : Nat, q < H.size → H1[q]? = H[q]?) : z_W D cl X H1 := fun b e' hb => (h b e' hb).kept (oq b (h.lt hb))
theorem z_W.push (h : z_W D cl X H) (he : va_at D cl (H.size, e) H1) (oq : ∀ q : Nat, q < H.size → H1[q]? = H[q]?) : z_W D cl (z_up X H.size e) H1 := by
  intro b e' hb
  unfold z_up at hb
  by_cases hq : b = H.size
  · rw [if_pos hq] at hb
    cases hb
    subst hq
    exact he
  · rw [if_neg hq] at hb
    exact (h b e' hb).kept (oq b (h.lt hb))
end Z4
/-- a walk so far, in a method that began with the world X0 over the heap H0: the world is X now; what is not in X0 has not changed; nothing below lo is written -/
def z_S (D : va_G) (cl : List vw_C) (lo : Nat) (X0 : zM) (H0 : Heap) (X : zM) (H : Heap) (locs : List Loc) : Prop :=
  z_W D cl X H ∧ H0.size ≤ H.size ∧ (∀ q : Nat, q < H0.size → X0 q = none → H[q]? = H0[q]?) ∧ (∀ z ∈ locs, lo ≤ z.base) ∧ (∀ q, X q ≠ none → X0 q ≠ none ∨ H0.size ≤ q) ∧ (∀ q, X0 q ≠ none → lo ≤ q) ∧ lo ≤ H0.size
theorem z_S.start {D : va_G} {cl : List vw_C} {lo : Nat} {X : zM} {H : Heap} (h : z_W D cl X H) (h1 : ∀ q, X q ≠ none → lo ≤ q) (h2 : lo ≤ H.size) : z_S D cl lo X H X H [] :=
  ⟨h, Nat.le_refl _, fun _ _ _ => rfl, (fun _ h => nomatch h), fun _ h => Or.inl h, h1, h2⟩
section ZS
variable {D : va_G} {cl : List vw_C} {lo : Nat} {X0 X : zM} {H0 H H1 : Heap} {locs : List Loc} {a : Nat}
theorem z_S.low (h : z_S D cl lo X0 H0 X H locs) {q : Nat} (hq : X q ≠ none) : lo ≤ q := (h.2.2.2.2.1 q hq).elim (h.2.2.2.2.2.1 q) (fun z => Nat.le_trans h.2.2.2.2.2.2 z)
theorem z_S.under (h : z_S D cl lo X0 H0 X H locs) {q : Nat} (hq : q < lo) : H[q]? = H0[q]? := h.2.2.1 q (Nat.lt_of_lt_of_le hq h.2.2.2.2.2.2) (by
  cases hx : X0 q with
  | none => rfl
  | some e => exact absurd (h.2.2.2.2.2.1 q (by rw [hx]; exact fun z => by cases z)) (Nat.not_le.mpr hq))
theorem z_S.va (h : z_S D cl lo X0 H0 X H locs) : va_S (fun q => lo ≤ q) H0 H locs := ⟨h.2.1, fun q _ h2 => h.under (Nat.not_le.mp h2), h.2.2.2.1⟩
/-- a store at a -/
theorem z_S.set {e0 e1 : va_E} {i : Nat} (hS : z_S D cl lo X0 H0 X H locs) (ha : X a = some e0) (he : va_at D cl (a, e1) H1) (z : H1.size = H.size) (oq : ∀ q : Nat, q ≠ a → H1[q]? = H[q]?) : z_S D cl lo X0 H0 (z_up X a e1) H1 (locs ++ [⟨a, i⟩]) := by
  have hne : X a ≠ none := by rw [ha]; exact fun h => by cases h
  refine ⟨hS.1.set he oq, by rw [z]; exact hS.2.1, fun q h1 h2 => ?_, fun q hq => ?_, fun q hq => ?_, hS.2.2.2.2.2⟩
  · have hqa : q ≠ a := fun h => by
      subst h
      rcases hS.2.2.2.2.1 q hne with h3 | h3
      · exact h3 h2
      · omega
    rw [oq q hqa]
    exact hS.2.2.1 q h1 h2
  · rcases List.mem_append.mp hq with h | h
    · exact hS.2.2.2.1 q h
    · rw [List.mem_singleton.mp h]
      exact hS.low hne
  · unfold z_up at hq
    by_cases hqa : q = a
    · subst hqa; exact hS.2.2.2.2.1 q hne
    · rw [if_neg hqa] at hq; exact hS.2.2.2.2.1 q hq
/-- a new cell -/
theorem z_S.push {e0 : va_E} (hS : z_S D cl lo X0 H0 X H locs) (he : va_at D cl (H.size, e0) H1) (z1 : H1.size = H.size + 1) (o1 : ∀ q : Nat, q < H.size → H1[q]? = H[q]?) : z_S D cl lo X0 H0 (z_up X H.size e0) H1 locs := by
  refine ⟨hS.1.push he o1, by rw [z1]; exact Nat.le_succ_of_le hS.2.1, fun q h1 h2 => (o1 q (Nat.lt_of_lt_of_le h1 hS.2.1)).trans (hS.2.2.1 q h1 h2), hS.2.2.2.1, fun q hq => ?_, hS.2.2.2.2.2⟩
  unfold z_up at hq
  by_cases hqa : q = H.size
  · subst hqa; exact Or.inr hS.2.1
  · rw [if_neg hqa] at hq; exact hS.2.2.2.2.1 q hq
/-- .. that is nobody's -/
theorem z_S.grow (hS : z_S D cl lo X0 H0 X H locs) (z1 : H.size ≤ H1.size) (o1 : ∀ q : Nat, q < H.size → H1[q]? = H[q]?) : z_S D cl lo X0 H0 X H1 locs :=
  ⟨hS.1.grow o1, Nat.le_trans hS.2.1 z1, fun q h1 h2 => (o1 q (Nat.lt_of_lt_of_le h1 hS.2.1)).trans (hS.2.2.1 q h1 h2), hS.2.2.2⟩
end ZS
section Z5
variable {p : Program} {l : Launch} {e : Env} {R : Room} {s : State} {m : MethodId} {args : Array Value} {below : List Frame} {meth : Method} {c : Code} {H : Heap} {locs : List Loc} {cells slots : Nat} {Q : State → Prop}
variable {cc : ByteArray} {pc : Nat} {ls : Array Slot} {rest : List Value} {D : va_G} {cl : List vw_C} {lo a : Nat} {tys : List (ClassId × FieldType)} {X0 X : zM} {H0 : Heap}
theorem z_get (hexec : p.tables.exec = Jvm.exec) (hb : c.code = cc) {own ref C : String} {T : u_T} {N ci index : Nat} {Ts : List Cond} (hts : ∀ w ∈ Ts, w.before args s = true) (hin : ∀ w ∈ u_ws C T N, w ∈ Ts) (hown : s.vm.findClass own = some m.cls) (hK : va_K D cl tys s) (hS : z_S D cl lo X0 H0 X H locs) {fs : List Value} (he : X a = some (.inr (ci, fs))) (hc : cl[ci]? = some (C, T, N)) (k : Nat) (hk : k < N) (hlink : (Cond.fieldLink own index ref (T k).2.1 (T k).2.2.1).before args s = true) (hsame : ∀ x, s.fieldFound? (T k).1 (T k).2.1 (T k).2.2.1 = some x → s.fieldFound? ref (T k).2.1 (T k).2.2.1 = some x) {v : Value} (hv : fs[k]? = some v) (hdg : decode cc pc = .ok (.getfield index, 3))
    (kk : W p l e R s m args below meth c H locs cells slots Q (F0 m (pc + 3) ls (v :: rest))) : W p l e R s m args below meth c H locs cells slots Q (F0 m pc ls (.ref a :: rest)) :=
  va_get hexec hb hts hin hown hK (hS.1.one he) 0 rfl hc k hk hlink hsame hv hdg kk
theorem z_put (hexec : p.tables.exec = Jvm.exec) (hb : c.code = cc) {own ref C : String} {T : u_T} {N ci index : Nat} {Ts : List Cond} (hts : ∀ w ∈ Ts, w.before args s = true) (hin : ∀ w ∈ u_ws C T N, w ∈ Ts) (ty0 : Nat → FieldType) (hty : ∀ k, k < N → parseFieldDescriptor (T k).2.2.1 = some (ty0 k)) (hnm : ∀ a, a < N → ∀ b, b < N → a ≠ b → (T a).2.1 ≠ (T b).2.1) (hown : s.vm.findClass own = some m.cls) (hK : va_K D cl tys s) (hS : z_S D cl lo X0 H0 X H locs) {fs : List Value} (he : X a = some (.inr (ci, fs))) (hc : cl[ci]? = some (C, T, N)) (k : Nat) (hk : k < N) (hlink : (Cond.fieldLink own index ref (T k).2.1 (T k).2.2.1).before args s = true) (hsame : ∀ x, s.fieldFound? (T k).1 (T k).2.1 (T k).2.2.1 = some x → s.fieldFound? ref (T k).2.1 (T k).2.2.1 = some x) (hfin : (T k).2.2.2 = false) {ty : FieldType} {v : Value} (hd : parseFieldDescriptor (T k).2.2.1 = some ty) (hn : narrow ty v = v) (hfit : fits ty v = true) (hl : k < fs.length)
    (hdg : decode cc pc = .ok (.putfield index, 3)) {fs' : List Value} (hfs : fs.set k v = fs') (kk : ∀ (H1 : Heap) (locs1 : List Loc), z_S D cl lo X0 H0 (z_up X a (.inr (ci, fs'))) H1 locs1 → W p l e R s m args below meth c H1 locs1 cells slots Q (F0 m (pc + 3) ls rest)) : W p l e R s m args below meth c H locs cells slots Q (F0 m pc ls (v :: .ref a :: rest)) := by
  subst hfs
  have hap := va_apart (own := own) hts hin ty0 hty hnm hK hc
  obtain ⟨r, h1, cell, q1, q2, q3, q4⟩ := hS.1 a _ he
  have hr : r = (C, T, N) := Option.some.inj (h1.symm.trans hc)
  subst hr
  obtain ⟨hSl, hfc, kC, hkC, hkind⟩ := hK.1 ci _ hc
  obtain ⟨cf, kf, fi, f, hi, hsl⟩ := hSl k hk
  have hlay := hts _ (hin _ (u_in_lay hk))
  unfold u_lay at hlay
  rw [if_neg (by rw [hfin]; decide)] at hlay
  have hst := (u_facts hfc hkC (u_lays hts hin hk) hi).1
  have h6 := u_store hfc hkC hkind hlay hi hd hn hfit
  refine W.putK hexec hb (f := f) ⟨hown, hlink, ⟨_, _, _, hsame _ hi⟩, hst⟩ (by rw [q2]; exact h6) q1 q3 (by rw [hsl]; exact k2_hasslot (q4 k hk)) rfl rfl hdg fun H' e1 e2 e3 => ?_
  rw [hsl] at e1 ⊢
  exact kk H' _ (hS.set he ⟨_, hc, t_OB.to (V := updV (vp_V fs) k v) ⟨_, e1, q2, q3, t_set q4 hap hk v⟩ (fun j _ => vp_updV_set hl v j)⟩ e2 e3)
theorem z_putF (hexec : p.tables.exec = Jvm.exec) (hb : c.code = cc) {own ref C : String} {T : u_T} {N ci index : Nat} {Ts : List Cond} (hts : ∀ w ∈ Ts, w.before args s = true) (hin : ∀ w ∈ u_ws C T N, w ∈ Ts) (ty0 : Nat → FieldType) (hty : ∀ k, k < N → parseFieldDescriptor (T k).2.2.1 = some (ty0 k)) (hnm : ∀ a, a < N → ∀ b, b < N → a ≠ b → (T a).2.1 ≠ (T b).2.1) (hown : s.vm.findClass own = some m.cls) (hK : va_K D cl tys s) (hS : z_S D cl lo X0 H0 X H locs) {fs : List Value} (he : X a = some (.inr (ci, fs))) (hc : cl[ci]? = some (C, T, N)) (k : Nat) (hk : k < N) (hlink : (Cond.fieldLink own index ref (T k).2.1 (T k).2.2.1).before args s = true) (hsame : ∀ x, s.fieldFound? (T k).1 (T k).2.1 (T k).2.2.1 = some x → s.fieldFound? ref (T k).2.1 (T k).2.2.1 = some x) (hfin : (T k).2.2.2 = true) (hin2 : meth.name = "<init>") (hdecl : (T k).1 = own) {ty : FieldType} {v : Value} (hd : parseFieldDescriptor (T k).2.2.1 = some ty) (hn : narrow ty v = v) (hfit : fits ty v = true) (hl : k < fs.length)
    (hdg : decode cc pc = .ok (.putfield index, 3)) {fs' : List Value} (hfs : fs.set k v = fs') (kk : ∀ (H1 : Heap) (locs1 : List Loc), z_S D cl lo X0 H0 (z_up X a (.inr (ci, fs'))) H1 locs1 → W p l e R s m args below meth c H1 locs1 cells slots Q (F0 m (pc + 3) ls rest)) : W p l e R s m args below meth c H locs cells slots Q (F0 m pc ls (v :: .ref a :: rest)) := by
  subst hfs
  have hap := va_apart (own := own) hts hin ty0 hty hnm hK hc
  obtain ⟨r, h1, cell, q1, q2, q3, q4⟩ := hS.1 a _ he
  have hr : r = (C, T, N) := Option.some.inj (h1.symm.trans hc)
  subst hr
  obtain ⟨hSl, hfc, kC, hkC, hkind⟩ := hK.1 ci _ hc
  obtain ⟨cf, kf, fi, f, hi, hsl⟩ := hSl k hk
  have hlay := hts _ (hin _ (u_in_lay hk))
  unfold u_lay at hlay
  rw [if_pos hfin] at hlay
  have hst := (u_facts hfc hkC (u_lays hts hin hk) hi).1
  have hcf : m.cls = cf := by
    obtain ⟨_, _, c', _, _, _, -, -, hf', -, -, -, hown2, -⟩ := Cond.laysFinal_spec hlay
    have e1 : c' = cf := by have := hi.symm.trans hf'; simp at this; exact this.1.symm
    rw [hdecl] at hown2
    rw [← e1]; exact Option.some.inj (hown.symm.trans hown2)
  have h6 := u_fits hfc hkC hkind (Or.inr hlay) hi hd hn hfit
  refine W.putFinK hexec hb hown hlink (hsame _ hi) hst hcf hin2 (by rw [q2]; exact h6) q1 q3 (by rw [hsl]; exact k2_hasslot (q4 k hk)) rfl rfl hdg fun H' e1 e2 e3 => ?_
  rw [hsl] at e1 ⊢
  exact kk H' _ (hS.set he ⟨_, hc, t_OB.to (V := updV (vp_V fs) k v) ⟨_, e1, q2, q3, t_set q4 hap hk v⟩ (fun j _ => vp_updV_set hl v j)⟩ e2 e3)
theorem z_new (hexec : p.tables.exec = Jvm.exec) (hb : c.code = cc) {own C : String} {T : u_T} {N ci index : Nat} {Ts : List Cond} (hts : ∀ w ∈ Ts, w.before args s = true) (hin : ∀ w ∈ u_ws C T N, w ∈ Ts) (ty : Nat → FieldType) (hty : ∀ k, k < N → parseFieldDescriptor (T k).2.2.1 = some (ty k)) (hown : s.vm.findClass own = some m.cls) (hcl : (Cond.classLink own index C).before args s = true) (hinst : (Cond.instantiable C N).before args s = true) (hini : (Cond.initialized C).before args s = true)
    (hK : va_K D cl tys s) (hS : z_S D cl lo X0 H0 X H locs) (hc : cl[ci]? = some (C, T, N)) {fs : List Value} (hfs : ∀ j, j < N → defaultValue (ty j) = vp_V fs j) (hcells : cells + 1 ≤ R.cells) (hslots : slots + N ≤ R.slots) (hdg : decode cc pc = .ok (.new index, 3))
    (kk : ∀ (q : Nat) (H1 : Heap), (∀ e1, X q = some e1 → False) → z_S D cl lo X0 H0 (z_up X q (.inr (ci, fs))) H1 locs → W p l e R s m args below meth c H1 locs (cells + 1) (slots + N) Q (F0 m (pc + 3) ls (.ref q :: rest))) : W p l e R s m args below meth c H locs cells slots Q (F0 m pc ls rest) := by
  have hKn := hK.1 ci _ hc
  refine W.newcK hexec hb hown hcl hinst hini rfl hdg hcells hslots hKn.2.1 rfl fun H1 kC hkC e1 z1 o1 => ?_
  exact kk H.size H1 (fun e1 h => Nat.lt_irrefl _ (hS.1.lt h)) (hS.push ⟨_, hc, (u_born ty hts hin hKn hkC e1 hty).to hfs⟩ z1 o1)
theorem z_newq (hexec : p.tables.exec = Jvm.exec) (hb : c.code = cc) {own C : String} {index t0 : Nat} {cA : ClassId} (hown : s.vm.findClass own = some m.cls) (hclink : (Cond.classLink own index C).before args s = true) (hover : (Cond.arrayOver (.object C)).before args s = true) (hK : va_K D cl tys s) (ht : tys[t0]? = some (cA, .object C)) (hS : z_S D cl lo X0 H0 X H locs)
    {n : Int32} {N' : Nat} (hn : ¬ n < 0) (hN : n.toNatClampNeg = N') (hbytes : N' * 4 ≤ 536870912) (hcells : cells + 1 ≤ R.cells) (hslots : slots + N' ≤ R.slots) (hdg : decode cc pc = .ok (.anewarray index, 3))
    (kk : ∀ (q : Nat) (H1 : Heap), (∀ e1, X q = some e1 → False) → z_S D cl lo X0 H0 (z_up X q (.inl (cA, N', .inr (.inr (.inr (.inr (fun _ => none))))))) H1 locs → W p l e R s m args below meth c H1 locs (cells + 1) (slots + N') Q (F0 m (pc + 3) ls (.ref q :: rest))) : W p l e R s m args below meth c H locs cells slots Q (F0 m pc ls (.int n :: rest)) := by
  subst hN
  refine W.anew hexec hb hown hclink hover rfl hdg rfl hn hbytes hcells hslots fun cA' kA comp f1 f2 f3 f4 => ?_
  obtain ⟨kA2, comp2, k1, k2, k3, k4⟩ := (hK.2 t0 _ ht).2
  have hcA : cA' = cA := Option.some.inj (f1.symm.trans k4)
  subst hcA
  generalize hH1 : H.push ({ cls := cA', slots := Array.replicate n.toNatClampNeg .null, vm := .none } : Cell) = H1
  have z1 : H1.size = H.size + 1 := by rw [← hH1, Array.size_push]
  have e1 : H1[H.size]? = some (arrV cA' n.toNatClampNeg (fun _ => .null)) := by rw [← hH1, Array.getElem?_push_size, ← arrV_new]
  have o1 : ∀ q : Nat, q < H.size → H1[q]? = H[q]? := fun q hq => by rw [← hH1, Array.getElem?_push, if_neg (Nat.ne_of_lt hq)]
  refine kk H.size H1 (fun e1 h => Nat.lt_irrefl _ (hS.1.lt h)) (hS.push ?_ z1 o1)
  show H1[H.size]? = some (vp_cell _ _)
  rw [vp_cell_q]
  exact e1
theorem z_aald (hexec : p.tables.exec = Jvm.exec) (hb : c.code = cc) (hK : va_K D cl tys s) (hS : z_S D cl lo X0 H0 X H locs) (t0 : Nat) {cA : ClassId} {C : String} {n : Nat} {f : Nat → Option Nat} (ha : X a = some (.inl (cA, n, .inr (.inr (.inr (.inr f)))))) (ht : tys[t0]? = some (cA, .object C)) {i : Int32} (hin : vp_in i n) (hdg : decode cc pc = .ok (.aaload, 1)) {r : Option Nat} (hr : f i.toNatClampNeg = r)
    (kk : W p l e R s m args below meth c H locs cells slots Q (F0 m (pc + 1) ls (va_rf r :: rest))) : W p l e R s m args below meth c H locs cells slots Q (F0 m pc ls (.int i :: .ref a :: rest)) := by
  subst hr
  exact va_aldq hexec hb hK (hS.1.one ha) 0 t0 rfl ht hin hdg kk
theorem z_alen (hexec : p.tables.exec = Jvm.exec) (hb : c.code = cc) (hK : va_K D cl tys s) (hS : z_S D cl lo X0 H0 X H locs) (t0 : Nat) {cA : ClassId} {x : vp_A} (ha : X a = some (.inl (cA, x))) {ty : FieldType} (ht : tys[t0]? = some (cA, ty)) {v : Int32} (hv : Int32.ofNat x.1 = v) (hdg : decode cc pc = .ok (.arraylength, 1))
    (kk : W p l e R s m args below meth c H locs cells slots Q (F0 m (pc + 1) ls (.int v :: rest))) : W p l e R s m args below meth c H locs cells slots Q (F0 m pc ls (.ref a :: rest)) :=
  va_alen hexec hb hK (hS.1.one ha) 0 t0 rfl ht hv hdg kk
theorem z_aast (hexec : p.tables.exec = Jvm.exec) (hb : c.code = cc) (hK : va_K D cl tys s) (hS : z_S D cl lo X0 H0 X H locs) (t0 ci : Nat) {cA : ClassId} {r : vw_C} {n v : Nat} {vs : List Value} {f : Nat → Option Nat} (ha : X a = some (.inl (cA, n, .inr (.inr (.inr (.inr f)))))) (ht : tys[t0]? = some (cA, .object r.1)) (hv : X v = some (.inr (ci, vs))) (hc : cl[ci]? = some r) {i : Int32} (hin : vp_in i n) (hdg : decode cc pc = .ok (.aastore, 1))
    (kk : ∀ (H1 : Heap) (locs1 : List Loc), z_S D cl lo X0 H0 (z_up X a (.inl (cA, n, .inr (.inr (.inr (.inr (va_up f i.toNatClampNeg (some v)))))))) H1 locs1 → W p l e R s m args below meth c H1 locs1 cells slots Q (F0 m (pc + 1) ls rest)) : W p l e R s m args below meth c H locs cells slots Q (F0 m pc ls (.ref v :: .int i :: .ref a :: rest)) := by
  have hlt : i.toNatClampNeg < n := Nat.not_le.mp fun q => hin (Or.inr q)
  have h0 : ¬ i < 0 := fun q => hin (Or.inl q)
  obtain ⟨r', hr', cellV, g1, g2, g3, -⟩ := hS.1 v _ hv
  have hcls := (hK.1 ci r hc).2
  obtain ⟨kA, comp, k1, k2, k3, -⟩ := (hK.2 t0 _ ht).2
  have hcomp : comp = D.1 ci := Option.some.inj (k3.symm.trans hcls.1)
  subst hcomp
  obtain ⟨kC, hkC, -⟩ := hcls.2
  refine W.aast hexec hb (hS.1 a _ ha) (fun q h => by cases h) (fun h => by cases h) k1 k2 rfl hkC ⟨h0, by show _ < (arrV _ _ _).slots.size; rw [arrV_size]; exact hlt⟩ g1 (fun q h => by rw [g3] at h; cases h) (by rw [g2]; exact hkC) (by rw [g2]; exact va_assign hcls) rfl rfl hdg fun H1 e z oq => ?_
  refine kk H1 _ (hS.set ha ?_ z oq)
  show H1[a]? = some (vp_cell _ _)
  rw [e]
  rw [vp_cell_q, vp_cell_q, arrV_store]
  congr 2
  funext q
  by_cases hq : q = i.toNatClampNeg
  · subst hq
    simp [updV, va_up, va_rf]
  · simp [updV, va_up, hq]
theorem z_last (hexec : p.tables.exec = Jvm.exec) (hb : c.code = cc) (hK : va_K D cl tys s) (hS : z_S D cl lo X0 H0 X H locs) (t0 : Nat) {cA : ClassId} {n : Nat} {f : Nat → Int64} (ha : X a = some (.inl (cA, n, .inr (.inl f)))) (ht : tys[t0]? = some (cA, .long)) {i : Int32} {x : Int64} (hin : vp_in i n) (hdg : decode cc pc = .ok (.lastore, 1))
    (kk : ∀ (H1 : Heap) (locs1 : List Loc), z_S D cl lo X0 H0 (z_up X a (.inl (cA, n, .inr (.inl (vp_updL f i.toNatClampNeg x))))) H1 locs1 → W p l e R s m args below meth c H1 locs1 cells slots Q (F0 m (pc + 1) ls rest)) : W p l e R s m args below meth c H locs cells slots Q (F0 m pc ls (.long x :: .int i :: .ref a :: rest)) := by
  refine W.last hexec hb (hS.1 a _ ha) ((hK.2 t0 _ ht).1 n (fun j => .long (f j))) (fun q => by cases q) (by show ¬ (i < 0 ∨ (arrV _ _ _).slots.size ≤ _); rw [arrV_size]; exact hin) rfl rfl hdg fun H1 e z oq => ?_
  refine kk H1 _ (hS.set ha ?_ z oq)
  show H1[a]? = some (vp_cell _ _)
  rw [e]
  rw [vp_cell_l, vp_cell_l, arrV_store]
  congr 2
  funext q
  by_cases hq : q = i.toNatClampNeg
  · subst hq
    simp [updV, vp_updL]
  · simp [updV, vp_updL, hq]
theorem z_lald (hexec : p.tables.exec = Jvm.exec) (hb : c.code = cc) (hK : va_K D cl tys s) (hS : z_S D cl lo X0 H0 X H locs) (t0 : Nat) {cA : ClassId} {n : Nat} {f : Nat → Int64} (ha : X a = some (.inl (cA, n, .inr (.inl f)))) (ht : tys[t0]? = some (cA, .long)) {i : Int32} (hin : vp_in i n) (hdg : decode cc pc = .ok (.laload, 1))
    (kk : W p l e R s m args below meth c H locs cells slots Q (F0 m (pc + 1) ls (.long (f i.toNatClampNeg) :: rest))) : W p l e R s m args below meth c H locs cells slots Q (F0 m pc ls (.int i :: .ref a :: rest)) :=
  va_lald hexec hb hK (hS.1.one ha) 0 t0 rfl ht hin hdg kk
theorem z_iald (hexec : p.tables.exec = Jvm.exec) (hb : c.code = cc) (hK : va_K D cl tys s) (hS : z_S D cl lo X0 H0 X H locs) (t0 : Nat) {cA : ClassId} {n : Nat} {f : Nat → Int32} (ha : X a = some (.inl (cA, n, .inl f))) (ht : tys[t0]? = some (cA, .int)) {i : Int32} (hin : vp_in i n) (hdg : decode cc pc = .ok (.iaload, 1))
    (kk : W p l e R s m args below meth c H locs cells slots Q (F0 m (pc + 1) ls (.int (f i.toNatClampNeg) :: rest))) : W p l e R s m args below meth c H locs cells slots Q (F0 m pc ls (.int i :: .ref a :: rest)) :=
  va_iald hexec hb hK (hS.1.one ha) 0 t0 rfl ht hin hdg kk
theorem z_iast (hexec : p.tables.exec = Jvm.exec) (hb : c.code = cc) (hK : va_K D cl tys s) (hS : z_S D cl lo X0 H0 X H locs) (t0 : Nat) {cA : ClassId} {n : Nat} {f : Nat → Int32} (ha : X a = some (.inl (cA, n, .inl f))) (ht : tys[t0]? = some (cA, .int)) {i x : Int32} (hin : vp_in i n) (hdg : decode cc pc = .ok (.iastore, 1))
    (kk : ∀ (H1 : Heap) (locs1 : List Loc), z_S D cl lo X0 H0 (z_up X a (.inl (cA, n, .inl (upd f i.toNatClampNeg x)))) H1 locs1 → W p l e R s m args below meth c H1 locs1 cells slots Q (F0 m (pc + 1) ls rest)) : W p l e R s m args below meth c H locs cells slots Q (F0 m pc ls (.int x :: .int i :: .ref a :: rest)) := by
  refine W.iast hexec hb (hS.1 a _ ha) ((hK.2 t0 _ ht).1 n (fun j => .int (f j))) (fun q => by cases q) (by show ¬ (i < 0 ∨ (arrV _ _ _).slots.size ≤ _); rw [arrV_size]; exact hin) rfl rfl hdg fun H1 e z oq => ?_
  refine kk H1 _ (hS.set ha ?_ z oq)
  show H1[a]? = some (vp_cell _ _)
  rw [e]
  rw [vp_cell_i, vp_cell_i, arrV_store]
  congr 2
  funext q
  by_cases hq : q = i.toNatClampNeg
  · subst hq
    simp [updV, upd]
  · simp [updV, upd, hq]
end Z5
