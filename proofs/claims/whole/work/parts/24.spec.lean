/-! ===== what each call does, in numbers ===== -/
def zfs (f : Nat → Int32) (i : Nat) (v : Int32) : Nat → Int32 := fun q => if q = i then v else f q
def zfr (F : Nat → Nat → Int32) (j : Nat) (f : Nat → Int32) : Nat → Nat → Int32 := fun q => if q = j then f else F q
theorem zfr_id (F : Nat → Nat → Int32) (j : Nat) : zfr F j (F j) = F := by
  funext q
  unfold zfr
  by_cases h : q = j
  · rw [if_pos h, h]
  · rw [if_neg h]
theorem zfr_at (F : Nat → Nat → Int32) (j : Nat) (f : Nat → Int32) : zfr F j f j = f := if_pos rfl
theorem zfr_ne {F : Nat → Nat → Int32} {i j : Nat} {f : Nat → Int32} (h : ¬ i = j) : zfr F j f i = F i := if_neg h
theorem z_nf {X : zM} {b q : Nat} {e : va_E} (hb : X b = some e) (hq : ∀ e1, X q = some e1 → False) : b ≠ q := fun h => by
  subst h
  exact hq _ hb
/-- whose an entry is: the class's, the reference's, the law's own -/
def zk : va_E → Nat
  | .inr (c, _) => if c = 3 then 1 else 0
  | .inl (_, _, .inl _) => 1
  | .inl (_, _, .inr (.inl _)) => 2
  | .inl (_, _, .inr (.inr _)) => 0
/-- what is not of the kind i has stayed -/
def zFr (i : Nat) (X X9 : zM) : Prop := ∀ q e, X q = some e → ¬ zk e = i → X9 q = some e
theorem zFr.rf {i : Nat} {X : zM} : zFr i X X := fun _ _ h _ => h
theorem zFr.tr {i : Nat} {X X8 X9 : zM} (h : zFr i X X8) (h' : zFr i X8 X9) : zFr i X X9 := fun q e hq hk => h' q e (h q e hq hk) hk
theorem zFr.up {i a : Nat} {X X9 : zM} {e0 e : va_E} (h : zFr i X X9) (ha : X9 a = some e0) (he : zk e0 = i) : zFr i X (z_up X9 a e) := fun q e1 hq hk => by
  have h1 := h q e1 hq hk
  have hne : q ≠ a := fun h2 => by
    subst h2
    rw [h1] at ha
    cases ha
    exact hk he
  rw [z_ne hne]
  exact h1
theorem zFr.nw {i a : Nat} {X X9 : zM} {e : va_E} (h : zFr i X X9) (hn : ∀ e1, X9 a = some e1 → False) : zFr i X (z_up X9 a e) := fun q e1 hq hk => by
  have h1 := h q e1 hq hk
  have hne : q ≠ a := fun h2 => by
    subst h2
    exact hn _ h1
  rw [z_ne hne]
  exact h1
/-- the end of a call of the class: c = 0, and the answer is a, or the c-th of its exceptions -/
def zT (E : List String) (c : Nat) (a : Option Value) (X : zM) (N : zM → Prop) (r : zR) (X9 : zM) : Prop :=
  (c = 0 → r = .inl a ∧ N X9 ∧ zFr 0 X X9) ∧ (¬ c = 0 → r = .inr (E.getD (c - 1) "") ∧ X9 = X)
theorem zT0 {E : List String} {c : Nat} {a : Option Value} {X X9 : zM} {N : zM → Prop} (hc : c = 0) (hN : N X9) (hf : zFr 0 X X9) : zT E c a X N (.inl a) X9 := ⟨fun _ => ⟨rfl, hN, hf⟩, fun h => absurd hc h⟩
theorem zT1 {E : List String} {c : Nat} {a : Option Value} {X : zM} {N : zM → Prop} {e : String} (i : Nat) (hc : c = i + 1) (he : E.getD i "" = e) : zT E c a X N (.inr e) X := ⟨fun h => by omega, fun _ => ⟨by rw [hc, Nat.add_sub_cancel, he], rfl⟩⟩
/-- the answer of a call that only reads -/
def zRe (E : List String) (c : Nat) (a : Option Value) : zR := if c = 0 then .inl a else .inr (E.getD (c - 1) "")
theorem zRe0 {E : List String} {c : Nat} {a : Option Value} (hc : c = 0) : zRe E c a = .inl a := if_pos hc
theorem zRe1 {E : List String} {c : Nat} {a : Option Value} {e : String} (i : Nat) (hc : c = i + 1) (he : E.getD i "" = e) : zRe E c a = .inr e := by
  unfold zRe
  rw [if_neg (by omega), hc, Nat.add_sub_cancel, he]
theorem z_PC {G : State → Prop} {D : va_G} {cl : List vw_C} {tys : List (ClassId × FieldType)} {lo : Nat} {l : Launch} {y : MethodName} {w : Cond} {rm : Room} {av : List Value} {X : zM} {E : List String} {c : Nat} {a : Option Value} {N : zM → Prop} (h : z_P G D cl tys lo l y w rm av X (zRe E c a)) (hN : N X) : z_C G D cl tys lo l y w rm av X (zT E c a X N) := by
  intro p e ha hc1 hc2 s m args below hf hs hP hK
  obtain ⟨n, o, h1, h2, h3, ⟨hO, hGr⟩, L, hfe, hL⟩ := h p e ha hc1 hc2 s m args below hf hs hP hK
  obtain ⟨-, -, -, hW, -, -⟩ := hP
  refine ⟨n, o, h1, h2, h3, ⟨zRe E c a, X, ?_, hO, hW.grow hGr.2, hGr.1, fun q hq _ => hGr.2 q hq, fun q hq => Or.inl hq⟩, L, hfe, fun q hq => (hL q hq).elim⟩
  unfold zRe
  by_cases h0 : c = 0
  · rw [if_pos h0]
    exact zT0 h0 hN zFr.rf
  · rw [if_neg h0]
    exact ⟨fun h => absurd h h0, fun _ => ⟨rfl, rfl⟩⟩
/-- the whole state of the returns -/
abbrev zA : Type := Nat × Nat × Int32 × (Nat → Nat → Int32) × (Nat → Nat) × (Nat → Nat → Int32)
def YI (x : Nat) (cS cR : ClassId) (A : zA) (X : zM) : Prop := ∃ (sA rA : Nat) (sd rd : Nat → Nat), XI x sA rA cS cR A.1 A.2.1 A.2.2.1 sd rd A.2.2.2.1 A.2.2.2.2.1 A.2.2.2.2.2 X
section SP
variable {x sA rA : Nat} {cS cR : ClassId} {n k : Nat} {td : Int32} {sd rd : Nat → Nat} {S : Nat → Nat → Int32} {I : Nat → Nat} {F : Nat → Nat → Int32} {X : zM}
theorem XI.row (h : XI x sA rA cS cR n k td sd rd S I F X) {j : Nat} (hj : j < k) (f : Nat → Int32) : XI x sA rA cS cR n k td sd rd S I (zfr F j f) (z_up X (rd j) (.inr (2, rowR (sd (I j)) f))) := by
  obtain ⟨h1, h2, h3, h4, h5, h6, h7, h8, h9, h10, h11⟩ := h
  have hr := h5 j hj
  refine ⟨(z_ne (z_oo h1 hr (by decide))).trans h1, (z_ne (z_ao h2 hr)).trans h2, (z_ne (z_ao h3 hr)).trans h3, fun i hi => (z_ne (z_oo (h4 i hi) hr (by decide))).trans (h4 i hi), fun i hi => ?_, h6, h7, h8, h9, h10, h11⟩
  by_cases he : i = j
  · subst he
    rw [zfr_at]
    exact z_eq _ _ _
  · rw [zfr_ne he]
    exact (z_ne (fun q => he (h10 i j hi hj q))).trans (h5 i hi)
theorem zT0r {E : List String} {c : Nat} {a : Option Value} {X9 : zM} {f : Nat → Int32} {j : Nat} (h : XI x sA rA cS cR n k td sd rd S I F X) (hj : j < k) (hc : c = 0) (hX : X9 = z_up X (rd j) (.inr (2, rowR (sd (I j)) f))) : zT E c a X (YI x cS cR ⟨n, k, td, S, I, zfr F j f⟩) (.inl a) X9 := by
  subst hX
  exact zT0 hc ⟨sA, rA, sd, rd, h.row hj f⟩ (zFr.rf.up (h.2.2.2.2.1 j hj) rfl)
theorem XI.day (h : XI x sA rA cS cR n k td sd rd S I F X) (d : Int32) : XI x sA rA cS cR n k d sd rd S I F (z_up X x (.inr (0, [.ref sA, .ref rA, .int (nI n), .int (nI k), .int d]))) := by
  obtain ⟨h1, h2, h3, h4, h5, h6⟩ := h
  exact ⟨z_eq _ _ _, (z_ne (z_ao h2 h1)).trans h2, (z_ne (z_ao h3 h1)).trans h3, fun i hi => (z_ne (z_oo (h4 i hi) h1 (by decide))).trans (h4 i hi), fun i hi => (z_ne (z_oo (h5 i hi) h1 (by decide))).trans (h5 i hi), h6⟩
end SP
/-! the calls' codes -/
def cd_day (td d : Int32) : Nat := if z_rg d td 1000 then 0 else 1
def cd_sale (n : Nat) (c p l : Int32) : Nat := if z_rg c 0 5 then (if z_rg p 1 100000 then (if z_rg l 0 1000 then (if n = 20 then 2 else 0) else 1) else 1) else 1
def cd_comes (k : Nat) (g : Nat → Int32) (why : Int32) : Nat := if z_rg why 0 7 then (if g 5 = 0 then (if k = 20 then 4 else 0) else 3) else 2
def cd_arrive (f : Nat → Int32) (p : Int32) : Nat := if z_rg p (-1) 9 then (if (f 3 = 0 ∧ p = -1) ∨ (f 3 = 1 ∧ ¬ p = -1) then 0 else 3) else 2
def cd_serial (f : Nat → Int32) : Nat := if f 3 = 2 then 0 else 2
def cd_quarantine (f : Nat → Int32) (on : Int32) : Nat := if f 5 = on ∨ (¬ on = 0 ∧ ¬ (f 3 = 2 ∨ f 3 = 3)) then 2 else 0
def cd_check (f : Nat → Int32) (what : Int32) : Nat := if z_rg what 0 4 then (if f 3 = 2 then 0 else 3) else 2
def cd_grade (f : Nat → Int32) (g : Int32) : Nat := if z_rg g 0 4 then (if (f 3 = 2 ∨ f 3 = 3) ∧ f 5 = 0 ∧ (f 7 = 0 ∨ 3 ≤ g) then 0 else 3) else 2
def cd_repair (f : Nat → Int32) (n : Int32) : Nat := if z_rg n 1 5 then (if f 3 = 3 ∧ f 5 = 0 ∧ ¬ f 8 = 0 then 0 else 3) else 2
def cd_step (f : Nat → Int32) : Nat := if f 3 = 4 then 0 else 2
def cd_scrap (f : Nat → Int32) (c : Int32) : Nat := if z_rg c 1 1000 then (if f 3 = 3 ∧ 3 ≤ f 8 then 0 else 3) else 2
def cd_back (td : Int32) (g f : Nat → Int32) : Nat := if f 3 = 3 ∧ f 5 = 0 ∧ f 6 = 0 ∧ f 8 ≤ 2 ∧ td ≤ g 3 then 0 else 2
def cd_missing (f : Nat → Int32) (n : Int32) : Nat := if z_rg n 0 10 then (if f 3 = 2 ∨ f 3 = 3 then 0 else 3) else 2
def cd_refund (g f : Nat → Int32) (c : Int32) : Nat := if z_rg c 1 100000 then (if c ≤ z_due g f - f 13 then 0 else 3) else 2
def cd_reason (why what : Int32) : Nat := if z_rg why 0 7 then (if z_rg what 0 2 then 0 else 1) else 1
def cd_customer (c what : Int32) : Nat := if z_rg c 0 5 then (if z_rg what 0 3 then 0 else 1) else 1
def cd_told (what : Int32) : Nat := if z_rg what 0 11 then 0 else 2
