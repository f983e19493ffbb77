/-! ===== the reference: its world ===== -/
section M0
variable {p : Program} {l : Launch} {e : Env} {R : Room} {s : State} {m : MethodId} {args : Array Value} {below : List Frame} {meth : Method} {c : Code} {H : Heap} {locs : List Loc} {cells slots : Nat} {Q : State → Prop}
variable {cc : ByteArray} {pc : Nat} {ls : Array Slot} {rest : List Value} {D : va_G} {lo tP : Nat} {X0 X : zM} {H0 : Heap}
variable {cl : List vw_C} {tys : List (ClassId × FieldType)} {a : Nat}
theorem z_zald (hexec : p.tables.exec = Jvm.exec) (hb : c.code = cc) (hK : va_K D cl tys s) (hS : z_S D cl lo X0 H0 X H locs) (t0 : Nat) {cA : ClassId} {n : Nat} {f : Nat → Int32} (ha : X a = some (.inl (cA, n, .inl f))) (ht : tys[t0]? = some (cA, .boolean)) {i : Int32} (hin : vp_in i n) (hdg : decode cc pc = .ok (.baload, 1))
    (kk : W p l e R s m args below meth c H locs cells slots Q (F0 m (pc + 1) ls (.int (f i.toNatClampNeg) :: rest))) : W p l e R s m args below meth c H locs cells slots Q (F0 m pc ls (.int i :: .ref a :: rest)) :=
  va_zald hexec hb hK (hS.1.one ha) 0 t0 rfl ht hin hdg kk
theorem z_zast (hexec : p.tables.exec = Jvm.exec) (hb : c.code = cc) (hK : va_K D cl tys s) (hS : z_S D cl lo X0 H0 X H locs) (t0 : Nat) {cA : ClassId} {n : Nat} {f : Nat → Int32} (ha : X a = some (.inl (cA, n, .inl f))) (ht : tys[t0]? = some (cA, .boolean)) {i x : Int32} (hx01 : x = 0 ∨ x = 1) (hin : vp_in i n) (hdg : decode cc pc = .ok (.bastore, 1))
    (kk : ∀ (H1 : Heap) (locs1 : List Loc), z_S D cl lo X0 H0 (z_up X a (.inl (cA, n, .inl (upd f i.toNatClampNeg x)))) H1 locs1 → W p l e R s m args below meth c H1 locs1 cells slots Q (F0 m (pc + 1) ls rest)) : W p l e R s m args below meth c H locs cells slots Q (F0 m pc ls (.int x :: .int i :: .ref a :: rest)) := by
  refine W.zast hexec hb (hS.1 a _ ha) ((hK.2 t0 _ ht).1 n (fun j => .int (f j))) (fun q => by cases q) (by show ¬ (i < 0 ∨ (arrV _ _ _).slots.size ≤ _); rw [arrV_size]; exact hin) rfl rfl hdg fun H1 e z oq => ?_
  refine kk H1 _ (hS.set ha ?_ z oq)
  show H1[a]? = some (vp_cell _ _)
  rw [e, z_bn hx01]
  rw [vp_cell_i, vp_cell_i, arrV_store]
  congr 2
  funext q
  by_cases hq : q = i.toNatClampNeg
  · subst hq
    simp [updV, upd]
  · simp [updV, upd, hq]
theorem z_newa (hexec : p.tables.exec = Jvm.exec) (hb : c.code = cc) {atype : ArrayType} (harr : (Cond.arrayClass (newarray.typeOf atype)).before args s = true) {ty : FieldType} (hty : newarray.typeOf atype = ty) {cA : ClassId} (hra : s.vm.findClass ("[" ++ ty.toString) = some cA) (hS : z_S D cl lo X0 H0 X H locs)
    {n : Int32} {N' : Nat} {a0 : vp_A} (ha : ∀ cA : ClassId, vp_cell cA a0 = arrV cA N' (fun _ => defaultValue ty)) (hn : ¬ n < 0) (hN : n.toNatClampNeg = N') (hbytes : N' * componentBytes ty ≤ 536870912) (hcells : cells + 1 ≤ R.cells) (hslots : slots + N' ≤ R.slots) (hdg : decode cc pc = .ok (.newarray atype, 2))
    (kk : ∀ (q : Nat) (H1 : Heap), (∀ e1, X q = some e1 → False) → z_S D cl lo X0 H0 (z_up X q (.inl (cA, a0))) H1 locs → W p l e R s m args below meth c H1 locs (cells + 1) (slots + N') Q (F0 m (pc + 2) ls (.ref q :: rest))) : W p l e R s m args below meth c H locs cells slots Q (F0 m pc ls (.int n :: rest)) := by
  subst hty
  refine va_newaK hexec hb harr rfl hdg rfl hn hN hbytes hcells hslots rfl fun H1 cA' e1 z1 o1 hAr hNm => ?_
  have hcA : cA' = cA := Option.some.inj (hNm.symm.trans hra)
  subst hcA
  refine kk H.size H1 (fun e1 h => Nat.lt_irrefl _ (hS.1.lt h)) (hS.push ?_ z1 o1)
  show H1[H.size]? = some (vp_cell _ _)
  rw [ha]
  exact e1
end M0
def zln (i : Nat) : Nat := if i < 8 then 20 else if i = 22 then 1001 else 21
def zac (cI cZ : ClassId) (i : Nat) : ClassId := if i = 13 then cZ else if i = 14 then cZ else cI
abbrev moF (ad : Nat → Nat) (n k : Nat) (td code : Int32) : List Value := [.int code, .int td, .int (nI n), .int (nI k), .ref (ad 4), .ref (ad 5), .ref (ad 6), .ref (ad 7), .ref (ad 8), .ref (ad 9), .ref (ad 10), .ref (ad 11), .ref (ad 12), .ref (ad 13), .ref (ad 14), .ref (ad 15), .ref (ad 16), .ref (ad 17), .ref (ad 18), .ref (ad 19), .ref (ad 20), .ref (ad 21), .ref (ad 22)]
/-- the reference's object and its arrays -/
def MW (mo : Nat) (ad : Nat → Nat) (cI cZ : ClassId) (n k : Nat) (td code : Int32) (M : Nat → Nat → Int32) (X : zM) : Prop :=
  X mo = some (.inr (3, moF ad n k td code)) ∧ (∀ i, 4 ≤ i → i ≤ 22 → X (ad i) = some (.inl (zac cI cZ i, zln i, .inl (M i)))) ∧ (∀ a b, 4 ≤ a → a ≤ 22 → 4 ≤ b → b ≤ 22 → ad a = ad b → a = b)
/-- which column of a row an array holds -/
def ztm (i : Nat) : Nat := if i = 9 then 1 else if i = 10 then 3 else if i = 11 then 2 else if i = 12 then 4 else if i = 13 then 5 else if i = 14 then 6 else if i = 15 then 8 else if i = 16 then 9 else if i = 17 then 10 else if i = 18 then 7 else if i = 19 then 11 else if i = 20 then 12 else if i = 21 then 13 else 0
def MR (n k : Nat) (S : Nat → Nat → Int32) (I : Nat → Nat) (F : Nat → Nat → Int32) (M : Nat → Nat → Int32) : Prop :=
  (∀ i q, 4 ≤ i → i < 8 → q < n → M i q = S q (i - 3)) ∧ (∀ j, j < k → M 8 (j + 1) = nI (I j)) ∧ (∀ i j, 9 ≤ i → i ≤ 21 → j < k → M i (j + 1) = F j (ztm i)) ∧ (∀ i q, (i = 13 ∨ i = 14 ∨ i = 18 ∨ i = 19 ∨ i = 20 ∨ i = 21) → k < q → M i q = 0) ∧ (∀ c, 1 ≤ c → c ≤ 1000 → (¬ M 22 c = 0 ↔ ∃ j, j < k ∧ F j 14 = nI c))
def MI (mo : Nat) (ad : Nat → Nat) (cI cZ : ClassId) (n k : Nat) (td code : Int32) (S : Nat → Nat → Int32) (I : Nat → Nat) (F : Nat → Nat → Int32) (X : zM) : Prop :=
  ∃ M, MW mo ad cI cZ n k td code M X ∧ MR n k S I F M ∧ n ≤ 20 ∧ k ≤ 20 ∧ ∀ j, j < k → I j < n
section M1
variable {p : Program} {l : Launch} {e : Env} {R : Room} {s : State} {m : MethodId} {args : Array Value} {below : List Frame} {meth : Method} {c : Code} {H : Heap} {locs : List Loc} {cells slots : Nat} {Q : State → Prop}
variable {cc : ByteArray} {pc : Nat} {ls : Array Slot} {rest : List Value} {D : va_G} {lo tP : Nat} {X0 X : zM} {H0 : Heap}
variable {mo : Nat} {ad : Nat → Nat} {cS cR cJ cI cZ : ClassId} {n k : Nat} {td code : Int32} {S : Nat → Nat → Int32} {I : Nat → Nat} {F : Nat → Nat → Int32}
theorem z_c1000 {v : Int32} (h : z_rg v 1 1000) : ∃ q : Nat, 1 ≤ q ∧ q ≤ 1000 ∧ v = nI q := by
  have h0 : ¬ v < 0 := fun h9 => h.1 (by
    rw [Int32.lt_iff_toInt_lt] at h9 ⊢
    have e0 : (0 : Int32).toInt = 0 := by decide
    have e1 : (1 : Int32).toInt = 1 := by decide
    omega)
  obtain ⟨q, hq, rfl⟩ := nI_of2 (M := 1000) (n := 1000) (by decide) h0 h.2
  refine ⟨q, ?_, hq, rfl⟩
  have h5 : ¬ nI q < nI 1 := h.1
  rw [nI_ltI (by omega) (by decide)] at h5
  omega
theorem MI.ob (h : MI mo ad cI cZ n k td code S I F X) : X mo = some (.inr (3, moF ad n k td code)) := by
  obtain ⟨M, h1, -⟩ := h
  exact h1.1
/-- the object is told something new -/
theorem MW.put {M : Nat → Nat → Int32} (h : MW mo ad cI cZ n k td code M X) (n' k' : Nat) (td' code' : Int32) : MW mo ad cI cZ n' k' td' code' M (z_up X mo (.inr (3, moF ad n' k' td' code'))) := by
  obtain ⟨h1, h2, h3⟩ := h
  exact ⟨z_eq _ _ _, fun i hi hi' => (z_ne (z_ao (h2 i hi hi') h1)).trans (h2 i hi hi'), h3⟩
theorem MI.cod (h : MI mo ad cI cZ n k td code S I F X) (v : Int32) : MI mo ad cI cZ n k td v S I F (z_up X mo (.inr (3, moF ad n k td v))) := by
  obtain ⟨M, h1, h2⟩ := h
  exact ⟨M, h1.put n k td v, h2⟩
theorem MI.today (h : MI mo ad cI cZ n k td code S I F X) (v : Int32) : MI mo ad cI cZ n k v code S I F (z_up X mo (.inr (3, moF ad n k v code))) := by
  obtain ⟨M, h1, h2⟩ := h
  exact ⟨M, h1.put n k v code, h2⟩
/-- an array is told something new -/
theorem MW.st {M : Nat → Nat → Int32} (h : MW mo ad cI cZ n k td code M X) {i : Nat} (hi : 4 ≤ i) (hi' : i ≤ 22) (g : Nat → Int32) : MW mo ad cI cZ n k td code (zfr M i g) (z_up X (ad i) (.inl (zac cI cZ i, zln i, .inl g))) := by
  obtain ⟨h1, h2, h3⟩ := h
  refine ⟨(z_ne (z_oa h1 (h2 i hi hi'))).trans h1, fun b hb hb' => ?_, h3⟩
  by_cases he : b = i
  · subst he
    rw [zfr_at]
    exact z_eq _ _ _
  · rw [zfr_ne he]
    exact (z_ne (fun q => he (h3 b i hb hb' hi hi' q))).trans (h2 b hb hb')
theorem ztm_inj : ∀ a, a < 22 → 9 ≤ a → ∀ b, b < 22 → 9 ≤ b → ztm a = ztm b → a = b := by decide
theorem ztm_14 : ∀ a, a < 22 → ¬ ztm a = 14 := by decide
theorem zfr_zfr (F : Nat → Nat → Int32) (j : Nat) (f g : Nat → Int32) : zfr (zfr F j f) j g = zfr F j g := by
  funext q
  unfold zfr
  by_cases h : q = j
  · rw [if_pos h, if_pos h]
  · rw [if_neg h, if_neg h, if_neg h]
theorem MR.st {M : Nat → Nat → Int32} {f : Nat → Int32} {j : Nat} (h : MR n k S I (zfr F j f) M) (hj : j < k) {i : Nat} (hi : 9 ≤ i) (hi' : i ≤ 21) (v : Int32) : MR n k S I (zfr F j (zfs f (ztm i) v)) (zfr M i (upd (M i) (j + 1) v)) := by
  obtain ⟨h1, h2, h3, h4, h5⟩ := h
  refine ⟨fun a q ha ha' hq => ?_, fun b hb => ?_, fun a b ha ha' hb => ?_, fun a q ha hq => ?_, fun c hc hc' => ?_⟩
  · rw [zfr_ne (by omega)]
    exact h1 a q ha ha' hq
  · rw [zfr_ne (by omega)]
    exact h2 b hb
  · have hab := h3 a b ha ha' hb
    by_cases ea : a = i
    · subst ea
      rw [zfr_at]
      by_cases eb : b = j
      · subst eb
        rw [zfr_at]
        show (if b + 1 = b + 1 then v else _) = (if ztm a = ztm a then v else _)
        rw [if_pos rfl, if_pos rfl]
      · rw [zfr_ne eb] at hab ⊢
        show (if b + 1 = j + 1 then v else M a (b + 1)) = F b (ztm a)
        rw [if_neg (by omega)]
        exact hab
    · rw [zfr_ne ea]
      by_cases eb : b = j
      · subst eb
        rw [zfr_at] at hab ⊢
        show M a (b + 1) = (if ztm a = ztm i then v else f (ztm a))
        rw [if_neg (fun q => ea (ztm_inj a (by omega) ha i (by omega) hi q))]
        exact hab
      · rw [zfr_ne eb] at hab ⊢
        exact hab
  · have hq0 := h4 a q ha hq
    by_cases ea : a = i
    · subst ea
      rw [zfr_at]
      show (if q = j + 1 then v else M a q) = 0
      rw [if_neg (by omega)]
      exact hq0
    · rw [zfr_ne ea]
      exact hq0
  · rw [zfr_ne (by omega), h5 c hc hc']
    constructor
    · rintro ⟨b, hb, he⟩
      refine ⟨b, hb, ?_⟩
      by_cases eb : b = j
      · subst eb
        rw [zfr_at] at he ⊢
        show (if 14 = ztm i then v else f 14) = nI c
        rw [if_neg (fun q => ztm_14 i (by omega) q.symm)]
        exact he
      · rw [zfr_ne eb] at he ⊢
        exact he
    · rintro ⟨b, hb, he⟩
      refine ⟨b, hb, ?_⟩
      by_cases eb : b = j
      · subst eb
        rw [zfr_at] at he ⊢
        have he' : (if 14 = ztm i then v else f 14) = nI c := he
        rw [if_neg (fun q => ztm_14 i (by omega) q.symm)] at he'
        exact he'
      · rw [zfr_ne eb] at he ⊢
        exact he
theorem z_in21 {j : Nat} (hj : j < 20) : vp_in (nI (j + 1)) 21 := vp_in_nI (by omega) (by decide)
/-! reading -/
theorem mo_ld (hexec : p.tables.exec = Jvm.exec) (hb : c.code = cc) (hK : va_K D cls4 (zty cS cR cJ cI cZ) s) (hS : z_S D cls4 lo X0 H0 X H locs) (hM : MI mo ad cI cZ n k td code S I F X) (i : Nat) {j : Nat} (hj : j < k) (hi : 9 ≤ i ∧ i ≤ 21 ∧ ¬ i = 13 ∧ ¬ i = 14) {v : Int32} (hv : F j (ztm i) = v) (hdg : decode cc pc = .ok (.iaload, 1))
    (kk : W p l e R s m args below meth c H locs cells slots Q (F0 m (pc + 1) ls (.int v :: rest))) : W p l e R s m args below meth c H locs cells slots Q (F0 m pc ls (.int (nI (j + 1)) :: .ref (ad i) :: rest)) := by
  obtain ⟨M, h1, h2, -, hk, -⟩ := hM
  obtain ⟨g1, g2, g3, g4⟩ := hi
  have ha := h1.2.1 i (by omega) (by omega)
  have e1 : zac cI cZ i = cI := by unfold zac; rw [if_neg g3, if_neg g4]
  have e2 : zln i = 21 := by unfold zln; rw [if_neg (by omega), if_neg (by omega)]
  rw [e1, e2] at ha
  refine z_iald hexec hb hK hS 3 ha rfl (z_in21 (by omega)) hdg ?_
  rw [nI_clamp (by omega), h2.2.2.1 i j g1 g2 hj, hv]
  exact kk
theorem mo_ldb (hexec : p.tables.exec = Jvm.exec) (hb : c.code = cc) (hK : va_K D cls4 (zty cS cR cJ cI cZ) s) (hS : z_S D cls4 lo X0 H0 X H locs) (hM : MI mo ad cI cZ n k td code S I F X) (i : Nat) {j : Nat} (hj : j < k) (hi : i = 13 ∨ i = 14) {v : Int32} (hv : F j (ztm i) = v) (hdg : decode cc pc = .ok (.baload, 1))
    (kk : W p l e R s m args below meth c H locs cells slots Q (F0 m (pc + 1) ls (.int v :: rest))) : W p l e R s m args below meth c H locs cells slots Q (F0 m pc ls (.int (nI (j + 1)) :: .ref (ad i) :: rest)) := by
  obtain ⟨M, h1, h2, -, hk, -⟩ := hM
  have ha := h1.2.1 i (by omega) (by omega)
  have e1 : zac cI cZ i = cZ := by unfold zac; rcases hi with rfl | rfl <;> rfl
  have e2 : zln i = 21 := by unfold zln; rw [if_neg (by omega), if_neg (by omega)]
  rw [e1, e2] at ha
  refine z_zald hexec hb hK hS 4 ha rfl (z_in21 (by omega)) hdg ?_
  rw [nI_clamp (by omega), h2.2.2.1 i j (by omega) (by omega) hj, hv]
  exact kk
theorem mo_lds (hexec : p.tables.exec = Jvm.exec) (hb : c.code = cc) (hK : va_K D cls4 (zty cS cR cJ cI cZ) s) (hS : z_S D cls4 lo X0 H0 X H locs) (hM : MI mo ad cI cZ n k td code S I F X) (i : Nat) {j : Nat} (hj : j < n) (hi : 4 ≤ i ∧ i < 8) {v : Int32} (hv : S j (i - 3) = v) (hdg : decode cc pc = .ok (.iaload, 1))
    (kk : W p l e R s m args below meth c H locs cells slots Q (F0 m (pc + 1) ls (.int v :: rest))) : W p l e R s m args below meth c H locs cells slots Q (F0 m pc ls (.int (nI j) :: .ref (ad i) :: rest)) := by
  obtain ⟨M, h1, h2, hn, -, -⟩ := hM
  have ha := h1.2.1 i (by omega) (by omega)
  have e1 : zac cI cZ i = cI := by unfold zac; rw [if_neg (by omega), if_neg (by omega)]
  have e2 : zln i = 20 := by unfold zln; rw [if_pos hi.2]
  rw [e1, e2] at ha
  refine z_iald hexec hb hK hS 3 ha rfl (vp_in_nI (by omega) (by decide)) hdg ?_
  rw [nI_clamp (by omega), h2.1 i j hi.1 hi.2 hj, hv]
  exact kk
theorem mo_ldI (hexec : p.tables.exec = Jvm.exec) (hb : c.code = cc) (hK : va_K D cls4 (zty cS cR cJ cI cZ) s) (hS : z_S D cls4 lo X0 H0 X H locs) (hM : MI mo ad cI cZ n k td code S I F X) {j : Nat} (hj : j < k) (hdg : decode cc pc = .ok (.iaload, 1))
    (kk : W p l e R s m args below meth c H locs cells slots Q (F0 m (pc + 1) ls (.int (nI (I j)) :: rest))) : W p l e R s m args below meth c H locs cells slots Q (F0 m pc ls (.int (nI (j + 1)) :: .ref (ad 8) :: rest)) := by
  obtain ⟨M, h1, h2, -, hk, -⟩ := hM
  refine z_iald hexec hb hK hS 3 (h1.2.1 8 (by omega) (by omega)) rfl (z_in21 (by omega)) hdg ?_
  rw [nI_clamp (by omega), h2.2.1 j hj]
  exact kk
theorem mo_ldc (hexec : p.tables.exec = Jvm.exec) (hb : c.code = cc) (hK : va_K D cls4 (zty cS cR cJ cI cZ) s) (hS : z_S D cls4 lo X0 H0 X H locs) (hM : MI mo ad cI cZ n k td code S I F X) {v : Int32} (hv : z_rg v 1 1000) (hdg : decode cc pc = .ok (.iaload, 1))
    (kk : ∀ z : Int32, (¬ z = 0 ↔ ∃ j, j < k ∧ F j 14 = v) → W p l e R s m args below meth c H locs cells slots Q (F0 m (pc + 1) ls (.int z :: rest))) : W p l e R s m args below meth c H locs cells slots Q (F0 m pc ls (.int v :: .ref (ad 22) :: rest)) := by
  obtain ⟨M, h1, h2, -, hk, -⟩ := hM
  obtain ⟨q, hq1, hq2, rfl⟩ := z_c1000 hv
  refine z_iald hexec hb hK hS 3 (h1.2.1 22 (by omega) (by omega)) rfl (vp_in_nI (show q < 1001 by omega) (by decide)) hdg ?_
  rw [nI_clamp (by omega)]
  exact kk _ (h2.2.2.2.2 q hq1 hq2)
/-! writing -/
theorem mo_st (hexec : p.tables.exec = Jvm.exec) (hb : c.code = cc) (hK : va_K D cls4 (zty cS cR cJ cI cZ) s) (hS : z_S D cls4 lo X0 H0 X H locs) {j : Nat} {f : Nat → Int32} (hM : MI mo ad cI cZ n k td code S I (zfr F j f) X) (i : Nat) (hj : j < k) (hi : 9 ≤ i ∧ i ≤ 21 ∧ ¬ i = 13 ∧ ¬ i = 14) {x : Int32} {t : Nat} (ht : ztm i = t) (hdg : decode cc pc = .ok (.iastore, 1))
    (kk : ∀ (H1 : Heap) (locs1 : List Loc) (X1 : zM), z_S D cls4 lo X0 H0 X1 H1 locs1 → MI mo ad cI cZ n k td code S I (zfr F j (zfs f t x)) X1 → zFr 1 X X1 → W p l e R s m args below meth c H1 locs1 cells slots Q (F0 m (pc + 1) ls rest)) : W p l e R s m args below meth c H locs cells slots Q (F0 m pc ls (.int x :: .int (nI (j + 1)) :: .ref (ad i) :: rest)) := by
  subst ht
  obtain ⟨M, h1, h2, hn, hk, hI⟩ := hM
  obtain ⟨g1, g2, g3, g4⟩ := hi
  have ha := h1.2.1 i (by omega) (by omega)
  have e1 : zac cI cZ i = cI := by unfold zac; rw [if_neg g3, if_neg g4]
  have e2 : zln i = 21 := by unfold zln; rw [if_neg (by omega), if_neg (by omega)]
  have hst := h1.st (i := i) (by omega) (by omega) (upd (M i) (j + 1) x)
  rw [e1, e2] at ha hst
  refine z_iast hexec hb hK hS 3 ha rfl (z_in21 (by omega)) hdg (fun H1 locs1 hS1 => ?_)
  rw [nI_clamp (by omega)] at hS1
  exact kk H1 locs1 _ hS1 ⟨_, hst, h2.st hj g1 g2 x, hn, hk, hI⟩ (zFr.rf.up ha rfl)
theorem mo_stb (hexec : p.tables.exec = Jvm.exec) (hb : c.code = cc) (hK : va_K D cls4 (zty cS cR cJ cI cZ) s) (hS : z_S D cls4 lo X0 H0 X H locs) {j : Nat} {f : Nat → Int32} (hM : MI mo ad cI cZ n k td code S I (zfr F j f) X) (i : Nat) (hj : j < k) (hi : i = 13 ∨ i = 14) {x : Int32} (hx01 : x = 0 ∨ x = 1) {t : Nat} (ht : ztm i = t) (hdg : decode cc pc = .ok (.bastore, 1))
    (kk : ∀ (H1 : Heap) (locs1 : List Loc) (X1 : zM), z_S D cls4 lo X0 H0 X1 H1 locs1 → MI mo ad cI cZ n k td code S I (zfr F j (zfs f t x)) X1 → zFr 1 X X1 → W p l e R s m args below meth c H1 locs1 cells slots Q (F0 m (pc + 1) ls rest)) : W p l e R s m args below meth c H locs cells slots Q (F0 m pc ls (.int x :: .int (nI (j + 1)) :: .ref (ad i) :: rest)) := by
  subst ht
  obtain ⟨M, h1, h2, hn, hk, hI⟩ := hM
  have ha := h1.2.1 i (by omega) (by omega)
  have e1 : zac cI cZ i = cZ := by unfold zac; rcases hi with rfl | rfl <;> rfl
  have e2 : zln i = 21 := by unfold zln; rw [if_neg (by omega), if_neg (by omega)]
  have hst := h1.st (i := i) (by omega) (by omega) (upd (M i) (j + 1) x)
  rw [e1, e2] at ha hst
  refine z_zast hexec hb hK hS 4 ha rfl hx01 (z_in21 (by omega)) hdg (fun H1 locs1 hS1 => ?_)
  rw [nI_clamp (by omega)] at hS1
  exact kk H1 locs1 _ hS1 ⟨_, hst, h2.st hj (by omega) (by omega) x, hn, hk, hI⟩ (zFr.rf.up ha rfl)
/-- the certificate of a row that has none -/
theorem mo_stc (hexec : p.tables.exec = Jvm.exec) (hb : c.code = cc) (hK : va_K D cls4 (zty cS cR cJ cI cZ) s) (hS : z_S D cls4 lo X0 H0 X H locs) {j : Nat} (hM : MI mo ad cI cZ n k td code S I F X) (hj : j < k) {v : Int32} (hv : z_rg v 1 1000) (h0 : F j 14 = 0) (hdg : decode cc pc = .ok (.iastore, 1))
    (kk : ∀ (H1 : Heap) (locs1 : List Loc) (X1 : zM), z_S D cls4 lo X0 H0 X1 H1 locs1 → MI mo ad cI cZ n k td code S I (zfr F j (zfs (F j) 14 v)) X1 → zFr 1 X X1 → W p l e R s m args below meth c H1 locs1 cells slots Q (F0 m (pc + 1) ls rest)) : W p l e R s m args below meth c H locs cells slots Q (F0 m pc ls (.int (nI (j + 1)) :: .int v :: .ref (ad 22) :: rest)) := by
  obtain ⟨M, h1, ⟨r1, r2, r3, r4, r5⟩, hn, hk, hI⟩ := hM
  obtain ⟨q, hq1, hq2, rfl⟩ := z_c1000 hv
  have ha := h1.2.1 22 (by omega) (by omega)
  refine z_iast hexec hb hK hS 3 ha rfl (vp_in_nI (show q < 1001 by omega) (by decide)) hdg (fun H1 locs1 hS1 => ?_)
  rw [nI_clamp (by omega)] at hS1
  refine kk H1 locs1 _ hS1 ⟨_, h1.st (i := 22) (by omega) (by omega) (upd (M 22) q (nI (j + 1))), ⟨fun a b ha ha' hb => ?_, fun b hb => ?_, fun a b ha ha' hb => ?_, fun a b ha hb => ?_, fun c hc hc' => ?_⟩, hn, hk, hI⟩ (zFr.rf.up ha rfl)
  · rw [zfr_ne (by omega)]
    exact r1 a b ha ha' hb
  · rw [zfr_ne (by omega)]
    exact r2 b hb
  · rw [zfr_ne (by omega)]
    by_cases eb : b = j
    · subst eb
      rw [zfr_at]
      show M a (b + 1) = (if ztm a = 14 then nI q else F b (ztm a))
      rw [if_neg (ztm_14 a (by omega))]
      exact r3 a b ha ha' hb
    · rw [zfr_ne eb]
      exact r3 a b ha ha' hb
  · rw [zfr_ne (by omega)]
    exact r4 a b ha hb
  · rw [zfr_at]
    show ¬ (if c = q then nI (j + 1) else M 22 c) = 0 ↔ _
    by_cases ec : c = q
    · subst ec
      rw [if_pos rfl]
      exact ⟨fun _ => ⟨j, hj, by rw [zfr_at]; rfl⟩, fun _ => nI_ne0 (by omega) (by omega)⟩
    · rw [if_neg ec, r5 c hc hc']
      constructor
      · rintro ⟨b, hb, he⟩
        have hbj : ¬ b = j := fun e => by
          subst e
          rw [h0] at he
          exact nI_ne0 (by omega) (by omega) he.symm
        exact ⟨b, hb, by rw [zfr_ne hbj]; exact he⟩
      · rintro ⟨b, hb, he⟩
        by_cases hbj : b = j
        · subst hbj
          rw [zfr_at] at he
          exact absurd ((nI_eq (by omega) (by omega)).mp (show nI q = nI c from he)).symm ec
        · rw [zfr_ne hbj] at he
          exact ⟨b, hb, he⟩
theorem mo_code (hexec : p.tables.exec = Jvm.exec) (hb : c.code = cc) (hG : z_G lo tP s) (hown : s.vm.findClass R_MO = some m.cls) (hK : va_K D cls4 (zty cS cR cJ cI cZ) s) (hS : z_S D cls4 lo X0 H0 X H locs) (hM : MI mo ad cI cZ n k td code S I F X) {v : Int32} (hdg : decode cc pc = .ok (.putfield 68, 3))
    (kk : ∀ (H1 : Heap) (locs1 : List Loc) (X1 : zM), z_S D cls4 lo X0 H0 X1 H1 locs1 → MI mo ad cI cZ n k td v S I F X1 → zFr 1 X X1 → W p l e R s m args below meth c H1 locs1 cells slots Q (F0 m (pc + 3) ls rest)) : W p l e R s m args below meth c H locs cells slots Q (F0 m pc ls (.int v :: .ref mo :: rest)) :=
  z_put (ci := 3) (C := R_MO) (T := F_MO) (N := 23) (ty := .int) (fs' := moF ad n k td v) hexec hb (hG.ts args) j_MO t_MO t_MO_ok n_MO hown hK hS hM.ob rfl 0 (by decide) (hG.w k_504 rfl args) (fun _ h9 => h9) rfl (by decide +kernel) rfl rfl (Nat.le_of_ble_eq_true rfl) hdg rfl (fun H1 locs1 hS1 => kk H1 locs1 _ hS1 (hM.cod v) (zFr.rf.up hM.ob rfl))
theorem mo_today (hexec : p.tables.exec = Jvm.exec) (hb : c.code = cc) (hG : z_G lo tP s) (hown : s.vm.findClass R_MO = some m.cls) (hK : va_K D cls4 (zty cS cR cJ cI cZ) s) (hS : z_S D cls4 lo X0 H0 X H locs) (hM : MI mo ad cI cZ n k td code S I F X) {v : Int32} (hdg : decode cc pc = .ok (.putfield 82, 3))
    (kk : ∀ (H1 : Heap) (locs1 : List Loc) (X1 : zM), z_S D cls4 lo X0 H0 X1 H1 locs1 → MI mo ad cI cZ n k v code S I F X1 → zFr 1 X X1 → W p l e R s m args below meth c H1 locs1 cells slots Q (F0 m (pc + 3) ls rest)) : W p l e R s m args below meth c H locs cells slots Q (F0 m pc ls (.int v :: .ref mo :: rest)) :=
  z_put (ci := 3) (C := R_MO) (T := F_MO) (N := 23) (ty := .int) (fs' := moF ad n k v code) hexec hb (hG.ts args) j_MO t_MO t_MO_ok n_MO hown hK hS hM.ob rfl 1 (by decide) (hG.w k_505 rfl args) (fun _ h9 => h9) rfl (by decide +kernel) rfl rfl (Nat.le_of_ble_eq_true rfl) hdg rfl (fun H1 locs1 hS1 => kk H1 locs1 _ hS1 (hM.today v) (zFr.rf.up hM.ob rfl))
end M1
