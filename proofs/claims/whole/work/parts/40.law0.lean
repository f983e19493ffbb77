/-! ===== the law's helpers: what they catch ===== -/
def z_nc : List (String × String) := [(E_IAE, E_ISE), (E_IAE, E_UOE), (E_IAE, E_NSE), (E_ISE, E_IAE), (E_ISE, E_UOE), (E_ISE, E_NSE), (E_UOE, E_IAE), (E_UOE, E_ISE), (E_UOE, E_NSE), (E_NSE, E_IAE), (E_NSE, E_ISE), (E_NSE, E_UOE)]
def zG2 (lo tP : Nat) (U : State) : Prop := z_G lo tP U ∧ ∀ q ∈ z_nc, va_Nc q.1 q.2 U
theorem zG2keeps (lo tP : Nat) : z_Gk (zG2 lo tP) lo := fun u U h hW hq => ⟨z_Gkeeps lo tP u U h.1 hW hq, fun q hq2 => va_Nc.moved hW.alike (h.2 q hq2)⟩
section L0
variable {e : Env} {s₀ : State} {f : JFrame} {a : Addr}
theorem z_find {own : String} {args : Array Value} (hpl : e.platform.magicAccessors = ({} : Platform).magicAccessors) (hown : s₀.vm.findClass own = some f.method.cls) {s0 e0 : Nat} (hs : s0 ≤ f.pc) (he : f.pc < e0) {E : String} {H : Heap} (hT : z_Th E a s₀ H) (hcast : (Cond.castable E E).before args s₀ = true) :
    ∀ (pre : List (Nat × Nat × String)) (rows : List ExceptionTableEntry) (h ct : Nat) (post : List (Nat × Nat × Nat × Nat)), rows.map (fun x => (x.startPc, x.endPc, x.handlerPc, x.catchType)) = pre.map (fun q => (s0, e0, q.1, q.2.1)) ++ (s0, e0, h, ct) :: post → ct ≠ 0 → (Cond.classLink own ct E).before args s₀ = true → (∀ q ∈ pre, q.2.1 ≠ 0 ∧ (Cond.classLink own q.2.1 q.2.2).before args s₀ = true ∧ va_Nc E q.2.2 s₀) → ∀ S : State, s₀.WarmedH S.vm → S.heap[a]? = H[a]? → ∃ vm', s₀.WarmedH vm' ∧ z_Fi e S f a rows h vm' := by
  obtain ⟨ce, c1, c2, c3⟩ := hT
  intro pre
  induction pre with
  | nil =>
    intro rows h ct post hrows hct hlink hpre S hW hcell
    cases rows with
    | nil => simp at hrows
    | cons x t =>
      simp only [List.map_cons, List.map_nil, List.nil_append, List.cons.injEq, Prod.mk.injEq] at hrows
      obtain ⟨⟨e1, e2, e3, e4⟩, -⟩ := hrows
      subst e3
      subst e4
      exact z_fi1 hpl hown (by simp only [covers, e1, e2, Bool.and_eq_true, decide_eq_true_eq]; exact ⟨hs, he⟩) hct hlink hcast c3 c2 hW (hcell.trans c1)
  | cons q pre ih =>
    intro rows h ct post hrows hct hlink hpre S hW hcell
    cases rows with
    | nil => simp at hrows
    | cons x t =>
      simp only [List.map_cons, List.cons_append, List.cons.injEq, Prod.mk.injEq] at hrows
      obtain ⟨⟨e1, e2, e3, e4⟩, ht⟩ := hrows
      obtain ⟨g1, g2, g3⟩ := hpre q List.mem_cons_self
      rw [← e4] at g1 g2
      exact z_fiP hpl hown (by simp only [covers, e1, e2, Bool.and_eq_true, decide_eq_true_eq]; exact ⟨hs, he⟩) g1 g2 g3 c3 c2 hW (hcell.trans c1) (fun S' hW' hc' => ih t h ct post ht hct hlink (fun q' hq' => hpre q' (List.mem_cons_of_mem _ hq')) S' hW' (hc'.trans c1.symm))
end L0
section L1
variable {p : Program} {l : Launch} {e : Env} {R : Room} {s : State} {m : MethodId} {args : Array Value} {below : List Frame} {meth : Method} {c : Code} {H : Heap} {locs : List Loc} {cells slots : Nat} {Q : State → Prop}
variable {cc : ByteArray} {pc : Nat} {ls : Array Slot} {rest st0 : List Value} {D : va_G} {cl : List vw_C} {lo a : Nat} {tys : List (ClassId × FieldType)} {X0 X : zM} {G : State → Prop}
variable {y : MethodName} {w : Cond} {rm : Room} {maxL : Nat} {av : List Value} {ig : Instr}
/-- a call of the tested code -/
theorem z_hc {Es : List String} {cd : Nat} {v : Option Value} {N : zM → Prop} (hI : z_In p l e R s m args below meth c H (F0 m pc ls st0) rest y av.toArray) (hb : c.code = cc) (hsize : ls.size = c.maxLocals) (hM : z_C G D cl tys lo l y w rm av X (zT Es cd v X N)) (hGk : z_Gk G lo) (hG : G s) (hK : va_K D cl tys s) (hS : z_S D cl lo X0 s.heap X H locs) (cw : z_Cw R s args y w rm maxL)
    (hdg : decode cc pc = .ok (ig, 3)) (hW : (rest.map fun v => v.category).sum ≤ 8) (hc1 : cells + rm.cells ≤ R.cells) (hs1 : slots + rm.slots ≤ R.slots)
    (k1 : cd = 0 → ∀ (H1 : Heap) (locs1 : List Loc) (X1 : zM), z_S D cl lo X0 s.heap X1 H1 locs1 → N X1 → zFr 0 X X1 → W p l e R s m args below meth c H1 locs1 (cells + rm.cells) (slots + rm.slots) Q (F0 m (pc + 3) ls (v.toList ++ rest)))
    (k2 : ¬ cd = 0 → ∀ (x : Addr) (H1 : Heap) (locs1 : List Loc), z_S D cl lo X0 s.heap X H1 locs1 → z_Th (Es.getD (cd - 1) "") x s H1 → z_T p l e R s m args below meth c H1 locs1 (cells + rm.cells) (slots + rm.slots) Q (F0 m pc ls rest) x) :
    W p l e R s m args below meth c H locs cells slots Q (F0 m pc ls st0) := by
  refine z_w hI hb hsize hM hGk hG hK hS cw hdg hW hc1 hs1 (fun v' X' H1 locs1 hP _ hS1 _ _ => ?_) (fun E x X' H1 locs1 hP _ hS1 _ _ hT => ?_)
  · by_cases h0 : cd = 0
    · obtain ⟨e1, e2, e3⟩ := hP.1 h0
      cases e1
      exact k1 h0 H1 locs1 X' hS1 e2 e3
    · obtain ⟨e1, -⟩ := hP.2 h0
      cases e1
  · by_cases h0 : cd = 0
    · obtain ⟨e1, -⟩ := hP.1 h0
      cases e1
    · obtain ⟨e1, e2⟩ := hP.2 h0
      cases e1
      subst e2
      exact k2 h0 x H1 locs1 hS1 hT
end L1
/-- a helper's end: the code; the new world, or the old one -/
def zH (cd : Nat) (X : zM) (N : zM → Prop) (r : zR) (X9 : zM) : Prop := r = .inl (some (.int (nI cd))) ∧ (cd = 0 → N X9) ∧ (¬ cd = 0 → X9 = X)
/-- what a helper that tells an answer leaves -/
def zHo (ou : Nat) (cJ : ClassId) (f : Nat → Int64) (v : Int32) (X : zM) (N : zM → Prop) (X9 : zM) : Prop := ∃ X8, N X8 ∧ zFr 0 X X8 ∧ X9 = z_up X8 ou (.inl (cJ, 1, .inr (.inl (vp_updL f 0 v.toInt64))))
theorem z_in01 : vp_in 0 1 := vp_in_nI (n := 0) (N := 1) (by decide) (by decide)
theorem z_ou0 {X X1 : zM} {ou : Nat} {cJ : ClassId} {n : Nat} {f : Nat → Int64} (hF : zFr 0 X X1) (hou : X ou = some (.inl (cJ, n, .inr (.inl f)))) : X1 ou = some (.inl (cJ, n, .inr (.inl f))) := hF ou _ hou (fun h => by cases h)
set_option maxHeartbeats 4000000 in
set_option maxRecDepth 100000 in
theorem c_LA_day (l : Launch) (hl9 : l.stackTraces = false) {D : va_G} {cS cR cJ cI cZ : ClassId} {lo tP : Nat} (p0 : Int32) {x cd9 : Nat} {X : zM} {N : zM → Prop} {fs0 : List Value} (hx0 : X x = some (.inr (0, fs0))) (hcl : cd9 ≤ 1) (hC : z_C (z_G lo tP) D cls4 (zty cS cR cJ cI cZ) lo l y_RR_day w_RR_day zr1 [.ref x, .int p0] X (zT [E_IAE] cd9 none X N)) : z_C (zG2 lo tP) D cls4 (zty cS cR cJ cI cZ) lo l y_LA_day w_LA_day zr2 [.ref x, .int p0] X (zH cd9 X (fun X9 => N X9 ∧ zFr 0 X X9)) := by
  refine z_ofWW (by decide) ?_
  intro p e s m args below meth c s₁ B hml htab hv
  obtain ⟨rfl, hG2, hK, hW0, hXl, hlo⟩ := hv
  have hG := hG2.1
  have hx := B.exec
  have hb := B.bytes
  have hr := B.returns
  have hlk := B.notSynchronized
  have hown : s.vm.findClass R_LA = some m.cls := findClass_of_methodNamed B.named
  have hk : ∀ {w9 : Cond}, w9 ∈ lw_tbl → z_ok w9 = true → w9.before ([.ref x, .int p0] : List Value).toArray s = true := fun h1 h2 => hG.w h1 h2 _
  have hS := z_S.start hW0 hXl hlo
  have hl := lv_entry ([.ref x, .int p0]) (n := 3) (Nat.le_of_ble_eq_true rfl)
  rw [lg_entry_eq]
  generalize (lg_sl ([.ref x, .int p0]) ++ List.replicate (3 - (lg_sl ([.ref x, .int p0])).length) Slot.unset).toArray = ls at hl ⊢
  have hl : lv_has ls 3 [(0, .ref x), (1, .int p0)] := hl
  refine lv_aload_n hx hb d_LA_day_0 rfl (lv_at hl 0 rfl) ?_
  refine lv_iload_n hx hb d_LA_day_1 rfl (lv_at hl 1 rfl) ?_
  refine z_hc (n_LA_RR_day hx hown hG (va_recv hK (hS.1.one hx0) (ci := 0) (q0 := 0) rfl rfl) (by rw [hb]; exact d_LA_day_2)) hb (hl.1.trans hml.symm) hC (z_Gkeeps lo tP) hG hK hS (cw_RR_day hG (by decide) (by decide)) d_LA_day_2 (Nat.le_of_ble_eq_true rfl) (by decide) (by decide) (fun hc0 H locs X1 hS hN1 hF1 => ?_) (fun hc0 x9 H locs hS hT9 => ?_)
  · refine lv_goto (tgt := 11) hx hb d_LA_day_5 (by decide) ?_
    refine lv_iconst (v := 0) hx hb d_LA_day_11 (by decide) ?_
    exact z_Ciret hx hb hr rfl hlk hS (⟨by rw [hc0]; rfl, fun _ => ⟨hN1, hF1⟩, fun h => absurd hc0 h⟩) (by decide) (by decide) d_LA_day_12
  · have hc9 : cd9 = 1 := by omega
    rcases hc9 with rfl
    · refine z_catch (tgt := 8) (fun T hT0 hWT hpl => z_find (s0 := 0) (e0 := 5) (E := E_IAE) hpl hown (Nat.zero_le _) (Nat.le_of_ble_eq_true rfl) hT9 (hk k_92 rfl) [] _ 8 13 [] htab (by decide) (hk k_82 rfl) (fun q hq => nomatch hq) _ (by rw [Stand.throwing_vm]; exact hWT) (by rw [Stand.throwing_heap, hT0])) ?_
      refine lv_astore_n (lv' := [(2, .ref x9), (0, .ref x), (1, .int p0)]) hx hb d_LA_day_8 rfl hl (by decide) rfl (fun ls hl => ?_)
      refine lv_iconst (v := 1) hx hb d_LA_day_9 (by decide) ?_
      exact z_Ciret hx hb hr rfl hlk hS (⟨rfl, fun h => absurd h (by decide), fun _ => rfl⟩) (by decide) (by decide) d_LA_day_10
set_option maxHeartbeats 4000000 in
set_option maxRecDepth 100000 in
theorem c_LA_sale (l : Launch) (hl9 : l.stackTraces = false) {D : va_G} {cS cR cJ cI cZ : ClassId} {lo tP : Nat} (p0 : Int32) (p1 : Int32) (p2 : Int32) {x ou cd9 : Nat} {v9 : Int32} {f : Nat → Int64} {X : zM} {N : zM → Prop} {fs0 : List Value} (hx0 : X x = some (.inr (0, fs0))) (hou : X ou = some (.inl (cJ, 1, .inr (.inl f)))) (hcl : cd9 ≤ 2) (hC : z_C (z_G lo tP) D cls4 (zty cS cR cJ cI cZ) lo l y_RR_sale w_RR_sale zr1 [.ref x, .int p0, .int p1, .int p2] X (zT [E_IAE, E_UOE] cd9 (some (.int v9)) X N)) : z_C (zG2 lo tP) D cls4 (zty cS cR cJ cI cZ) lo l y_LA_sale w_LA_sale zr2 [.ref x, .int p0, .int p1, .int p2, .ref ou] X (zH cd9 X (zHo ou cJ f v9 X N)) := by
  refine z_ofWW (by decide) ?_
  intro p e s m args below meth c s₁ B hml htab hv
  obtain ⟨rfl, hG2, hK, hW0, hXl, hlo⟩ := hv
  have hG := hG2.1
  have hx := B.exec
  have hb := B.bytes
  have hr := B.returns
  have hlk := B.notSynchronized
  have hown : s.vm.findClass R_LA = some m.cls := findClass_of_methodNamed B.named
  have hk : ∀ {w9 : Cond}, w9 ∈ lw_tbl → z_ok w9 = true → w9.before ([.ref x, .int p0, .int p1, .int p2, .ref ou] : List Value).toArray s = true := fun h1 h2 => hG.w h1 h2 _
  have hS := z_S.start hW0 hXl hlo
  have hl := lv_entry ([.ref x, .int p0, .int p1, .int p2, .ref ou]) (n := 6) (Nat.le_of_ble_eq_true rfl)
  rw [lg_entry_eq]
  generalize (lg_sl ([.ref x, .int p0, .int p1, .int p2, .ref ou]) ++ List.replicate (6 - (lg_sl ([.ref x, .int p0, .int p1, .int p2, .ref ou])).length) Slot.unset).toArray = ls at hl ⊢
  have hl : lv_has ls 6 [(0, .ref x), (1, .int p0), (2, .int p1), (3, .int p2), (4, .ref ou)] := hl
  refine lv_aload hx hb d_LA_sale_0 (lv_at hl 4 rfl) ?_
  refine lv_iconst (v := 0) hx hb d_LA_sale_2 (by decide) ?_
  refine lv_aload_n hx hb d_LA_sale_3 rfl (lv_at hl 0 rfl) ?_
  refine lv_iload_n hx hb d_LA_sale_4 rfl (lv_at hl 1 rfl) ?_
  refine lv_iload_n hx hb d_LA_sale_5 rfl (lv_at hl 2 rfl) ?_
  refine lv_iload_n hx hb d_LA_sale_6 rfl (lv_at hl 3 rfl) ?_
  refine z_hc (n_LA_RR_sale hx hown hG (va_recv hK (hS.1.one hx0) (ci := 0) (q0 := 0) rfl rfl) (by rw [hb]; exact d_LA_sale_7)) hb (hl.1.trans hml.symm) hC (z_Gkeeps lo tP) hG hK hS (cw_RR_sale hG (by decide) (by decide)) d_LA_sale_7 (Nat.le_of_ble_eq_true rfl) (by decide) (by decide) (fun hc0 H locs X1 hS hN1 hF1 => ?_) (fun hc0 x9 H locs hS hT9 => ?_)
  · refine lv_i2l (v := v9.toInt64) hx hb d_LA_sale_10 rfl ?_
    refine z_last hx hb hK hS 2 (z_ou0 hF1 hou) rfl z_in01 d_LA_sale_11 (fun H locs hS => ?_)
    refine lv_goto (tgt := 23) hx hb d_LA_sale_12 (by decide) ?_
    refine lv_iconst (v := 0) hx hb d_LA_sale_23 (by decide) ?_
    exact z_Ciret hx hb hr rfl hlk hS (⟨by rw [hc0]; rfl, fun _ => ⟨X1, hN1, hF1, rfl⟩, fun h => absurd hc0 h⟩) (by decide) (by decide) d_LA_sale_24
  · have hc9 : cd9 = 1 ∨ cd9 = 2 := by omega
    rcases hc9 with rfl | rfl
    · refine z_catch (tgt := 15) (fun T hT0 hWT hpl => z_find (s0 := 0) (e0 := 12) (E := E_IAE) hpl hown (Nat.zero_le _) (Nat.le_of_ble_eq_true rfl) hT9 (hk k_92 rfl) [] _ 15 13 [(0, 12, 19, 19)] htab (by decide) (hk k_82 rfl) (fun q hq => nomatch hq) _ (by rw [Stand.throwing_vm]; exact hWT) (by rw [Stand.throwing_heap, hT0])) ?_
      refine lv_astore (lv' := [(5, .ref x9), (0, .ref x), (1, .int p0), (2, .int p1), (3, .int p2), (4, .ref ou)]) hx hb d_LA_sale_15 hl (by decide) rfl (fun ls hl => ?_)
      refine lv_iconst (v := 1) hx hb d_LA_sale_17 (by decide) ?_
      exact z_Ciret hx hb hr rfl hlk hS (⟨rfl, fun h => absurd h (by decide), fun _ => rfl⟩) (by decide) (by decide) d_LA_sale_18
    · refine z_catch (tgt := 19) (fun T hT0 hWT hpl => z_find (s0 := 0) (e0 := 12) (E := E_UOE) hpl hown (Nat.zero_le _) (Nat.le_of_ble_eq_true rfl) hT9 (hk k_170 rfl) [(15, 13, E_IAE)] _ 19 19 [] htab (by decide) (hk k_162 rfl) (List.forall_mem_cons.mpr ⟨⟨by decide, hk k_82 rfl, hG2.2 (E_UOE, E_IAE) (by decide +kernel)⟩, (fun q hq => nomatch hq)⟩) _ (by rw [Stand.throwing_vm]; exact hWT) (by rw [Stand.throwing_heap, hT0])) ?_
      refine lv_astore (lv' := [(5, .ref x9), (0, .ref x), (1, .int p0), (2, .int p1), (3, .int p2), (4, .ref ou)]) hx hb d_LA_sale_19 hl (by decide) rfl (fun ls hl => ?_)
      refine lv_iconst (v := 2) hx hb d_LA_sale_21 (by decide) ?_
      exact z_Ciret hx hb hr rfl hlk hS (⟨rfl, fun h => absurd h (by decide), fun _ => rfl⟩) (by decide) (by decide) d_LA_sale_22
set_option maxHeartbeats 4000000 in
set_option maxRecDepth 100000 in
theorem c_LA_comes (l : Launch) (hl9 : l.stackTraces = false) {D : va_G} {cS cR cJ cI cZ : ClassId} {lo tP : Nat} (p0 : Int32) (p1 : Int32) (p2 : Int32) {x ou cd9 : Nat} {v9 : Int32} {f : Nat → Int64} {X : zM} {N : zM → Prop} {fs0 : List Value} (hx0 : X x = some (.inr (0, fs0))) (hou : X ou = some (.inl (cJ, 1, .inr (.inl f)))) (hcl : cd9 ≤ 4) (hC : z_C (z_G lo tP) D cls4 (zty cS cR cJ cI cZ) lo l y_RR_comes w_RR_comes zr1 [.ref x, .int p0, .int p1, .int p2] X (zT [E_NSE, E_IAE, E_ISE, E_UOE] cd9 (some (.int v9)) X N)) : z_C (zG2 lo tP) D cls4 (zty cS cR cJ cI cZ) lo l y_LA_comes w_LA_comes zr2 [.ref x, .int p0, .int p1, .int p2, .ref ou] X (zH cd9 X (zHo ou cJ f v9 X N)) := by
  refine z_ofWW (by decide) ?_
  intro p e s m args below meth c s₁ B hml htab hv
  obtain ⟨rfl, hG2, hK, hW0, hXl, hlo⟩ := hv
  have hG := hG2.1
  have hx := B.exec
  have hb := B.bytes
  have hr := B.returns
  have hlk := B.notSynchronized
  have hown : s.vm.findClass R_LA = some m.cls := findClass_of_methodNamed B.named
  have hk : ∀ {w9 : Cond}, w9 ∈ lw_tbl → z_ok w9 = true → w9.before ([.ref x, .int p0, .int p1, .int p2, .ref ou] : List Value).toArray s = true := fun h1 h2 => hG.w h1 h2 _
  have hS := z_S.start hW0 hXl hlo
  have hl := lv_entry ([.ref x, .int p0, .int p1, .int p2, .ref ou]) (n := 6) (Nat.le_of_ble_eq_true rfl)
  rw [lg_entry_eq]
  generalize (lg_sl ([.ref x, .int p0, .int p1, .int p2, .ref ou]) ++ List.replicate (6 - (lg_sl ([.ref x, .int p0, .int p1, .int p2, .ref ou])).length) Slot.unset).toArray = ls at hl ⊢
  have hl : lv_has ls 6 [(0, .ref x), (1, .int p0), (2, .int p1), (3, .int p2), (4, .ref ou)] := hl
  refine lv_aload hx hb d_LA_comes_0 (lv_at hl 4 rfl) ?_
  refine lv_iconst (v := 0) hx hb d_LA_comes_2 (by decide) ?_
  refine lv_aload_n hx hb d_LA_comes_3 rfl (lv_at hl 0 rfl) ?_
  refine lv_iload_n hx hb d_LA_comes_4 rfl (lv_at hl 1 rfl) ?_
  refine lv_iload_n hx hb d_LA_comes_5 rfl (lv_at hl 2 rfl) ?_
  refine lv_iload_n hx hb d_LA_comes_6 rfl (lv_at hl 3 rfl) ?_
  refine z_hc (n_LA_RR_comes hx hown hG (va_recv hK (hS.1.one hx0) (ci := 0) (q0 := 0) rfl rfl) (by rw [hb]; exact d_LA_comes_7)) hb (hl.1.trans hml.symm) hC (z_Gkeeps lo tP) hG hK hS (cw_RR_comes hG (by decide) (by decide)) d_LA_comes_7 (Nat.le_of_ble_eq_true rfl) (by decide) (by decide) (fun hc0 H locs X1 hS hN1 hF1 => ?_) (fun hc0 x9 H locs hS hT9 => ?_)
  · refine lv_i2l (v := v9.toInt64) hx hb d_LA_comes_10 rfl ?_
    refine z_last hx hb hK hS 2 (z_ou0 hF1 hou) rfl z_in01 d_LA_comes_11 (fun H locs hS => ?_)
    refine lv_goto (tgt := 31) hx hb d_LA_comes_12 (by decide) ?_
    refine lv_iconst (v := 0) hx hb d_LA_comes_31 (by decide) ?_
    exact z_Ciret hx hb hr rfl hlk hS (⟨by rw [hc0]; rfl, fun _ => ⟨X1, hN1, hF1, rfl⟩, fun h => absurd hc0 h⟩) (by decide) (by decide) d_LA_comes_32
  · have hc9 : cd9 = 1 ∨ cd9 = 2 ∨ cd9 = 3 ∨ cd9 = 4 := by omega
    rcases hc9 with rfl | rfl | rfl | rfl
    · refine z_catch (tgt := 15) (fun T hT0 hWT hpl => z_find (s0 := 0) (e0 := 12) (E := E_NSE) hpl hown (Nat.zero_le _) (Nat.le_of_ble_eq_true rfl) hT9 (hk k_229 rfl) [] _ 15 25 [(0, 12, 19, 13), (0, 12, 23, 27), (0, 12, 27, 19)] htab (by decide) (hk k_217 rfl) (fun q hq => nomatch hq) _ (by rw [Stand.throwing_vm]; exact hWT) (by rw [Stand.throwing_heap, hT0])) ?_
      refine lv_astore (lv' := [(5, .ref x9), (0, .ref x), (1, .int p0), (2, .int p1), (3, .int p2), (4, .ref ou)]) hx hb d_LA_comes_15 hl (by decide) rfl (fun ls hl => ?_)
      refine lv_iconst (v := 1) hx hb d_LA_comes_17 (by decide) ?_
      exact z_Ciret hx hb hr rfl hlk hS (⟨rfl, fun h => absurd h (by decide), fun _ => rfl⟩) (by decide) (by decide) d_LA_comes_18
    · refine z_catch (tgt := 19) (fun T hT0 hWT hpl => z_find (s0 := 0) (e0 := 12) (E := E_IAE) hpl hown (Nat.zero_le _) (Nat.le_of_ble_eq_true rfl) hT9 (hk k_92 rfl) [(15, 25, E_NSE)] _ 19 13 [(0, 12, 23, 27), (0, 12, 27, 19)] htab (by decide) (hk k_82 rfl) (List.forall_mem_cons.mpr ⟨⟨by decide, hk k_217 rfl, hG2.2 (E_IAE, E_NSE) (by decide +kernel)⟩, (fun q hq => nomatch hq)⟩) _ (by rw [Stand.throwing_vm]; exact hWT) (by rw [Stand.throwing_heap, hT0])) ?_
      refine lv_astore (lv' := [(5, .ref x9), (0, .ref x), (1, .int p0), (2, .int p1), (3, .int p2), (4, .ref ou)]) hx hb d_LA_comes_19 hl (by decide) rfl (fun ls hl => ?_)
      refine lv_iconst (v := 2) hx hb d_LA_comes_21 (by decide) ?_
      exact z_Ciret hx hb hr rfl hlk hS (⟨rfl, fun h => absurd h (by decide), fun _ => rfl⟩) (by decide) (by decide) d_LA_comes_22
    · refine z_catch (tgt := 23) (fun T hT0 hWT hpl => z_find (s0 := 0) (e0 := 12) (E := E_ISE) hpl hown (Nat.zero_le _) (Nat.le_of_ble_eq_true rfl) hT9 (hk k_245 rfl) [(15, 25, E_NSE), (19, 13, E_IAE)] _ 23 27 [(0, 12, 27, 19)] htab (by decide) (hk k_218 rfl) (List.forall_mem_cons.mpr ⟨⟨by decide, hk k_217 rfl, hG2.2 (E_ISE, E_NSE) (by decide +kernel)⟩, (List.forall_mem_cons.mpr ⟨⟨by decide, hk k_82 rfl, hG2.2 (E_ISE, E_IAE) (by decide +kernel)⟩, (fun q hq => nomatch hq)⟩)⟩) _ (by rw [Stand.throwing_vm]; exact hWT) (by rw [Stand.throwing_heap, hT0])) ?_
      refine lv_astore (lv' := [(5, .ref x9), (0, .ref x), (1, .int p0), (2, .int p1), (3, .int p2), (4, .ref ou)]) hx hb d_LA_comes_23 hl (by decide) rfl (fun ls hl => ?_)
      refine lv_iconst (v := 3) hx hb d_LA_comes_25 (by decide) ?_
      exact z_Ciret hx hb hr rfl hlk hS (⟨rfl, fun h => absurd h (by decide), fun _ => rfl⟩) (by decide) (by decide) d_LA_comes_26
    · refine z_catch (tgt := 27) (fun T hT0 hWT hpl => z_find (s0 := 0) (e0 := 12) (E := E_UOE) hpl hown (Nat.zero_le _) (Nat.le_of_ble_eq_true rfl) hT9 (hk k_170 rfl) [(15, 25, E_NSE), (19, 13, E_IAE), (23, 27, E_ISE)] _ 27 19 [] htab (by decide) (hk k_162 rfl) (List.forall_mem_cons.mpr ⟨⟨by decide, hk k_217 rfl, hG2.2 (E_UOE, E_NSE) (by decide +kernel)⟩, (List.forall_mem_cons.mpr ⟨⟨by decide, hk k_82 rfl, hG2.2 (E_UOE, E_IAE) (by decide +kernel)⟩, (List.forall_mem_cons.mpr ⟨⟨by decide, hk k_218 rfl, hG2.2 (E_UOE, E_ISE) (by decide +kernel)⟩, (fun q hq => nomatch hq)⟩)⟩)⟩) _ (by rw [Stand.throwing_vm]; exact hWT) (by rw [Stand.throwing_heap, hT0])) ?_
      refine lv_astore (lv' := [(5, .ref x9), (0, .ref x), (1, .int p0), (2, .int p1), (3, .int p2), (4, .ref ou)]) hx hb d_LA_comes_27 hl (by decide) rfl (fun ls hl => ?_)
      refine lv_iconst (v := 4) hx hb d_LA_comes_29 (by decide) ?_
      exact z_Ciret hx hb hr rfl hlk hS (⟨rfl, fun h => absurd h (by decide), fun _ => rfl⟩) (by decide) (by decide) d_LA_comes_30
set_option maxHeartbeats 4000000 in
set_option maxRecDepth 100000 in
theorem c_LA_arrive (l : Launch) (hl9 : l.stackTraces = false) {D : va_G} {cS cR cJ cI cZ : ClassId} {lo tP : Nat} (p0 : Int32) (p1 : Int32) {x cd9 : Nat} {X : zM} {N : zM → Prop} {fs0 : List Value} (hx0 : X x = some (.inr (0, fs0))) (hcl : cd9 ≤ 3) (hC : z_C (z_G lo tP) D cls4 (zty cS cR cJ cI cZ) lo l y_RR_arrive w_RR_arrive zr1 [.ref x, .int p0, .int p1] X (zT [E_NSE, E_IAE, E_ISE] cd9 none X N)) : z_C (zG2 lo tP) D cls4 (zty cS cR cJ cI cZ) lo l y_LA_arrive w_LA_arrive zr2 [.ref x, .int p0, .int p1] X (zH cd9 X (fun X9 => N X9 ∧ zFr 0 X X9)) := by
  refine z_ofWW (by decide) ?_
  intro p e s m args below meth c s₁ B hml htab hv
  obtain ⟨rfl, hG2, hK, hW0, hXl, hlo⟩ := hv
  have hG := hG2.1
  have hx := B.exec
  have hb := B.bytes
  have hr := B.returns
  have hlk := B.notSynchronized
  have hown : s.vm.findClass R_LA = some m.cls := findClass_of_methodNamed B.named
  have hk : ∀ {w9 : Cond}, w9 ∈ lw_tbl → z_ok w9 = true → w9.before ([.ref x, .int p0, .int p1] : List Value).toArray s = true := fun h1 h2 => hG.w h1 h2 _
  have hS := z_S.start hW0 hXl hlo
  have hl := lv_entry ([.ref x, .int p0, .int p1]) (n := 4) (Nat.le_of_ble_eq_true rfl)
  rw [lg_entry_eq]
  generalize (lg_sl ([.ref x, .int p0, .int p1]) ++ List.replicate (4 - (lg_sl ([.ref x, .int p0, .int p1])).length) Slot.unset).toArray = ls at hl ⊢
  have hl : lv_has ls 4 [(0, .ref x), (1, .int p0), (2, .int p1)] := hl
  refine lv_aload_n hx hb d_LA_arrive_0 rfl (lv_at hl 0 rfl) ?_
  refine lv_iload_n hx hb d_LA_arrive_1 rfl (lv_at hl 1 rfl) ?_
  refine lv_iload_n hx hb d_LA_arrive_2 rfl (lv_at hl 2 rfl) ?_
  refine z_hc (n_LA_RR_arrive hx hown hG (va_recv hK (hS.1.one hx0) (ci := 0) (q0 := 0) rfl rfl) (by rw [hb]; exact d_LA_arrive_3)) hb (hl.1.trans hml.symm) hC (z_Gkeeps lo tP) hG hK hS (cw_RR_arrive hG (by decide) (by decide)) d_LA_arrive_3 (Nat.le_of_ble_eq_true rfl) (by decide) (by decide) (fun hc0 H locs X1 hS hN1 hF1 => ?_) (fun hc0 x9 H locs hS hT9 => ?_)
  · refine lv_goto (tgt := 18) hx hb d_LA_arrive_6 (by decide) ?_
    refine lv_iconst (v := 0) hx hb d_LA_arrive_18 (by decide) ?_
    exact z_Ciret hx hb hr rfl hlk hS (⟨by rw [hc0]; rfl, fun _ => ⟨hN1, hF1⟩, fun h => absurd hc0 h⟩) (by decide) (by decide) d_LA_arrive_19
  · have hc9 : cd9 = 1 ∨ cd9 = 2 ∨ cd9 = 3 := by omega
    rcases hc9 with rfl | rfl | rfl
    · refine z_catch (tgt := 9) (fun T hT0 hWT hpl => z_find (s0 := 0) (e0 := 6) (E := E_NSE) hpl hown (Nat.zero_le _) (Nat.le_of_ble_eq_true rfl) hT9 (hk k_229 rfl) [] _ 9 25 [(0, 6, 12, 13), (0, 6, 15, 27)] htab (by decide) (hk k_217 rfl) (fun q hq => nomatch hq) _ (by rw [Stand.throwing_vm]; exact hWT) (by rw [Stand.throwing_heap, hT0])) ?_
      refine lv_astore_n (lv' := [(3, .ref x9), (0, .ref x), (1, .int p0), (2, .int p1)]) hx hb d_LA_arrive_9 rfl hl (by decide) rfl (fun ls hl => ?_)
      refine lv_iconst (v := 1) hx hb d_LA_arrive_10 (by decide) ?_
      exact z_Ciret hx hb hr rfl hlk hS (⟨rfl, fun h => absurd h (by decide), fun _ => rfl⟩) (by decide) (by decide) d_LA_arrive_11
    · refine z_catch (tgt := 12) (fun T hT0 hWT hpl => z_find (s0 := 0) (e0 := 6) (E := E_IAE) hpl hown (Nat.zero_le _) (Nat.le_of_ble_eq_true rfl) hT9 (hk k_92 rfl) [(9, 25, E_NSE)] _ 12 13 [(0, 6, 15, 27)] htab (by decide) (hk k_82 rfl) (List.forall_mem_cons.mpr ⟨⟨by decide, hk k_217 rfl, hG2.2 (E_IAE, E_NSE) (by decide +kernel)⟩, (fun q hq => nomatch hq)⟩) _ (by rw [Stand.throwing_vm]; exact hWT) (by rw [Stand.throwing_heap, hT0])) ?_
      refine lv_astore_n (lv' := [(3, .ref x9), (0, .ref x), (1, .int p0), (2, .int p1)]) hx hb d_LA_arrive_12 rfl hl (by decide) rfl (fun ls hl => ?_)
      refine lv_iconst (v := 2) hx hb d_LA_arrive_13 (by decide) ?_
      exact z_Ciret hx hb hr rfl hlk hS (⟨rfl, fun h => absurd h (by decide), fun _ => rfl⟩) (by decide) (by decide) d_LA_arrive_14
    · refine z_catch (tgt := 15) (fun T hT0 hWT hpl => z_find (s0 := 0) (e0 := 6) (E := E_ISE) hpl hown (Nat.zero_le _) (Nat.le_of_ble_eq_true rfl) hT9 (hk k_245 rfl) [(9, 25, E_NSE), (12, 13, E_IAE)] _ 15 27 [] htab (by decide) (hk k_218 rfl) (List.forall_mem_cons.mpr ⟨⟨by decide, hk k_217 rfl, hG2.2 (E_ISE, E_NSE) (by decide +kernel)⟩, (List.forall_mem_cons.mpr ⟨⟨by decide, hk k_82 rfl, hG2.2 (E_ISE, E_IAE) (by decide +kernel)⟩, (fun q hq => nomatch hq)⟩)⟩) _ (by rw [Stand.throwing_vm]; exact hWT) (by rw [Stand.throwing_heap, hT0])) ?_
      refine lv_astore_n (lv' := [(3, .ref x9), (0, .ref x), (1, .int p0), (2, .int p1)]) hx hb d_LA_arrive_15 rfl hl (by decide) rfl (fun ls hl => ?_)
      refine lv_iconst (v := 3) hx hb d_LA_arrive_16 (by decide) ?_
      exact z_Ciret hx hb hr rfl hlk hS (⟨rfl, fun h => absurd h (by decide), fun _ => rfl⟩) (by decide) (by decide) d_LA_arrive_17
set_option maxHeartbeats 4000000 in
set_option maxRecDepth 100000 in
theorem c_LA_serial (l : Launch) (hl9 : l.stackTraces = false) {D : va_G} {cS cR cJ cI cZ : ClassId} {lo tP : Nat} (p0 : Int32) (p1 : Int32) {x ou cd9 : Nat} {v9 : Int32} {f : Nat → Int64} {X : zM} {N : zM → Prop} {fs0 : List Value} (hx0 : X x = some (.inr (0, fs0))) (hou : X ou = some (.inl (cJ, 1, .inr (.inl f)))) (hcl : cd9 ≤ 2) (hC : z_C (z_G lo tP) D cls4 (zty cS cR cJ cI cZ) lo l y_RR_serial w_RR_serial zr1 [.ref x, .int p0, .int p1] X (zT [E_NSE, E_ISE] cd9 (some (.int v9)) X N)) : z_C (zG2 lo tP) D cls4 (zty cS cR cJ cI cZ) lo l y_LA_serial w_LA_serial zr2 [.ref x, .int p0, .int p1, .ref ou] X (zH cd9 X (zHo ou cJ f v9 X N)) := by
  refine z_ofWW (by decide) ?_
  intro p e s m args below meth c s₁ B hml htab hv
  obtain ⟨rfl, hG2, hK, hW0, hXl, hlo⟩ := hv
  have hG := hG2.1
  have hx := B.exec
  have hb := B.bytes
  have hr := B.returns
  have hlk := B.notSynchronized
  have hown : s.vm.findClass R_LA = some m.cls := findClass_of_methodNamed B.named
  have hk : ∀ {w9 : Cond}, w9 ∈ lw_tbl → z_ok w9 = true → w9.before ([.ref x, .int p0, .int p1, .ref ou] : List Value).toArray s = true := fun h1 h2 => hG.w h1 h2 _
  have hS := z_S.start hW0 hXl hlo
  have hl := lv_entry ([.ref x, .int p0, .int p1, .ref ou]) (n := 5) (Nat.le_of_ble_eq_true rfl)
  rw [lg_entry_eq]
  generalize (lg_sl ([.ref x, .int p0, .int p1, .ref ou]) ++ List.replicate (5 - (lg_sl ([.ref x, .int p0, .int p1, .ref ou])).length) Slot.unset).toArray = ls at hl ⊢
  have hl : lv_has ls 5 [(0, .ref x), (1, .int p0), (2, .int p1), (3, .ref ou)] := hl
  refine lv_aload_n hx hb d_LA_serial_0 rfl (lv_at hl 3 rfl) ?_
  refine lv_iconst (v := 0) hx hb d_LA_serial_1 (by decide) ?_
  refine lv_aload_n hx hb d_LA_serial_2 rfl (lv_at hl 0 rfl) ?_
  refine lv_iload_n hx hb d_LA_serial_3 rfl (lv_at hl 1 rfl) ?_
  refine lv_iload_n hx hb d_LA_serial_4 rfl (lv_at hl 2 rfl) ?_
  refine z_hc (n_LA_RR_serial hx hown hG (va_recv hK (hS.1.one hx0) (ci := 0) (q0 := 0) rfl rfl) (by rw [hb]; exact d_LA_serial_5)) hb (hl.1.trans hml.symm) hC (z_Gkeeps lo tP) hG hK hS (cw_RR_serial hG (by decide) (by decide)) d_LA_serial_5 (Nat.le_of_ble_eq_true rfl) (by decide) (by decide) (fun hc0 H locs X1 hS hN1 hF1 => ?_) (fun hc0 x9 H locs hS hT9 => ?_)
  · refine lv_i2l (v := v9.toInt64) hx hb d_LA_serial_8 rfl ?_
    refine z_last hx hb hK hS 2 (z_ou0 hF1 hou) rfl z_in01 d_LA_serial_9 (fun H locs hS => ?_)
    refine lv_goto (tgt := 21) hx hb d_LA_serial_10 (by decide) ?_
    refine lv_iconst (v := 0) hx hb d_LA_serial_21 (by decide) ?_
    exact z_Ciret hx hb hr rfl hlk hS (⟨by rw [hc0]; rfl, fun _ => ⟨X1, hN1, hF1, rfl⟩, fun h => absurd hc0 h⟩) (by decide) (by decide) d_LA_serial_22
  · have hc9 : cd9 = 1 ∨ cd9 = 2 := by omega
    rcases hc9 with rfl | rfl
    · refine z_catch (tgt := 13) (fun T hT0 hWT hpl => z_find (s0 := 0) (e0 := 10) (E := E_NSE) hpl hown (Nat.zero_le _) (Nat.le_of_ble_eq_true rfl) hT9 (hk k_229 rfl) [] _ 13 25 [(0, 10, 17, 27)] htab (by decide) (hk k_217 rfl) (fun q hq => nomatch hq) _ (by rw [Stand.throwing_vm]; exact hWT) (by rw [Stand.throwing_heap, hT0])) ?_
      refine lv_astore (lv' := [(4, .ref x9), (0, .ref x), (1, .int p0), (2, .int p1), (3, .ref ou)]) hx hb d_LA_serial_13 hl (by decide) rfl (fun ls hl => ?_)
      refine lv_iconst (v := 1) hx hb d_LA_serial_15 (by decide) ?_
      exact z_Ciret hx hb hr rfl hlk hS (⟨rfl, fun h => absurd h (by decide), fun _ => rfl⟩) (by decide) (by decide) d_LA_serial_16
    · refine z_catch (tgt := 17) (fun T hT0 hWT hpl => z_find (s0 := 0) (e0 := 10) (E := E_ISE) hpl hown (Nat.zero_le _) (Nat.le_of_ble_eq_true rfl) hT9 (hk k_245 rfl) [(13, 25, E_NSE)] _ 17 27 [] htab (by decide) (hk k_218 rfl) (List.forall_mem_cons.mpr ⟨⟨by decide, hk k_217 rfl, hG2.2 (E_ISE, E_NSE) (by decide +kernel)⟩, (fun q hq => nomatch hq)⟩) _ (by rw [Stand.throwing_vm]; exact hWT) (by rw [Stand.throwing_heap, hT0])) ?_
      refine lv_astore (lv' := [(4, .ref x9), (0, .ref x), (1, .int p0), (2, .int p1), (3, .ref ou)]) hx hb d_LA_serial_17 hl (by decide) rfl (fun ls hl => ?_)
      refine lv_iconst (v := 2) hx hb d_LA_serial_19 (by decide) ?_
      exact z_Ciret hx hb hr rfl hlk hS (⟨rfl, fun h => absurd h (by decide), fun _ => rfl⟩) (by decide) (by decide) d_LA_serial_20
set_option maxHeartbeats 4000000 in
set_option maxRecDepth 100000 in
theorem c_LA_quarantine (l : Launch) (hl9 : l.stackTraces = false) {D : va_G} {cS cR cJ cI cZ : ClassId} {lo tP : Nat} (p0 : Int32) (p1 : Int32) {x cd9 : Nat} {X : zM} {N : zM → Prop} {fs0 : List Value} (hx0 : X x = some (.inr (0, fs0))) (hcl : cd9 ≤ 2) (hC : z_C (z_G lo tP) D cls4 (zty cS cR cJ cI cZ) lo l y_RR_quarantine w_RR_quarantine zr1 [.ref x, .int p0, .int p1] X (zT [E_NSE, E_ISE] cd9 none X N)) : z_C (zG2 lo tP) D cls4 (zty cS cR cJ cI cZ) lo l y_LA_quarantine w_LA_quarantine zr2 [.ref x, .int p0, .int p1] X (zH cd9 X (fun X9 => N X9 ∧ zFr 0 X X9)) := by
  refine z_ofWW (by decide) ?_
  intro p e s m args below meth c s₁ B hml htab hv
  obtain ⟨rfl, hG2, hK, hW0, hXl, hlo⟩ := hv
  have hG := hG2.1
  have hx := B.exec
  have hb := B.bytes
  have hr := B.returns
  have hlk := B.notSynchronized
  have hown : s.vm.findClass R_LA = some m.cls := findClass_of_methodNamed B.named
  have hk : ∀ {w9 : Cond}, w9 ∈ lw_tbl → z_ok w9 = true → w9.before ([.ref x, .int p0, .int p1] : List Value).toArray s = true := fun h1 h2 => hG.w h1 h2 _
  have hS := z_S.start hW0 hXl hlo
  have hl := lv_entry ([.ref x, .int p0, .int p1]) (n := 4) (Nat.le_of_ble_eq_true rfl)
  rw [lg_entry_eq]
  generalize (lg_sl ([.ref x, .int p0, .int p1]) ++ List.replicate (4 - (lg_sl ([.ref x, .int p0, .int p1])).length) Slot.unset).toArray = ls at hl ⊢
  have hl : lv_has ls 4 [(0, .ref x), (1, .int p0), (2, .int p1)] := hl
  refine lv_aload_n hx hb d_LA_quarantine_0 rfl (lv_at hl 0 rfl) ?_
  refine lv_iload_n hx hb d_LA_quarantine_1 rfl (lv_at hl 1 rfl) ?_
  refine lv_iload_n hx hb d_LA_quarantine_2 rfl (lv_at hl 2 rfl) ?_
  refine z_hc (n_LA_RR_quarantine hx hown hG (va_recv hK (hS.1.one hx0) (ci := 0) (q0 := 0) rfl rfl) (by rw [hb]; exact d_LA_quarantine_3)) hb (hl.1.trans hml.symm) hC (z_Gkeeps lo tP) hG hK hS (cw_RR_quarantine hG (by decide) (by decide)) d_LA_quarantine_3 (Nat.le_of_ble_eq_true rfl) (by decide) (by decide) (fun hc0 H locs X1 hS hN1 hF1 => ?_) (fun hc0 x9 H locs hS hT9 => ?_)
  · refine lv_goto (tgt := 15) hx hb d_LA_quarantine_6 (by decide) ?_
    refine lv_iconst (v := 0) hx hb d_LA_quarantine_15 (by decide) ?_
    exact z_Ciret hx hb hr rfl hlk hS (⟨by rw [hc0]; rfl, fun _ => ⟨hN1, hF1⟩, fun h => absurd hc0 h⟩) (by decide) (by decide) d_LA_quarantine_16
  · have hc9 : cd9 = 1 ∨ cd9 = 2 := by omega
    rcases hc9 with rfl | rfl
    · refine z_catch (tgt := 9) (fun T hT0 hWT hpl => z_find (s0 := 0) (e0 := 6) (E := E_NSE) hpl hown (Nat.zero_le _) (Nat.le_of_ble_eq_true rfl) hT9 (hk k_229 rfl) [] _ 9 25 [(0, 6, 12, 27)] htab (by decide) (hk k_217 rfl) (fun q hq => nomatch hq) _ (by rw [Stand.throwing_vm]; exact hWT) (by rw [Stand.throwing_heap, hT0])) ?_
      refine lv_astore_n (lv' := [(3, .ref x9), (0, .ref x), (1, .int p0), (2, .int p1)]) hx hb d_LA_quarantine_9 rfl hl (by decide) rfl (fun ls hl => ?_)
      refine lv_iconst (v := 1) hx hb d_LA_quarantine_10 (by decide) ?_
      exact z_Ciret hx hb hr rfl hlk hS (⟨rfl, fun h => absurd h (by decide), fun _ => rfl⟩) (by decide) (by decide) d_LA_quarantine_11
    · refine z_catch (tgt := 12) (fun T hT0 hWT hpl => z_find (s0 := 0) (e0 := 6) (E := E_ISE) hpl hown (Nat.zero_le _) (Nat.le_of_ble_eq_true rfl) hT9 (hk k_245 rfl) [(9, 25, E_NSE)] _ 12 27 [] htab (by decide) (hk k_218 rfl) (List.forall_mem_cons.mpr ⟨⟨by decide, hk k_217 rfl, hG2.2 (E_ISE, E_NSE) (by decide +kernel)⟩, (fun q hq => nomatch hq)⟩) _ (by rw [Stand.throwing_vm]; exact hWT) (by rw [Stand.throwing_heap, hT0])) ?_
      refine lv_astore_n (lv' := [(3, .ref x9), (0, .ref x), (1, .int p0), (2, .int p1)]) hx hb d_LA_quarantine_12 rfl hl (by decide) rfl (fun ls hl => ?_)
      refine lv_iconst (v := 2) hx hb d_LA_quarantine_13 (by decide) ?_
      exact z_Ciret hx hb hr rfl hlk hS (⟨rfl, fun h => absurd h (by decide), fun _ => rfl⟩) (by decide) (by decide) d_LA_quarantine_14
set_option maxHeartbeats 4000000 in
set_option maxRecDepth 100000 in
theorem c_LA_check (l : Launch) (hl9 : l.stackTraces = false) {D : va_G} {cS cR cJ cI cZ : ClassId} {lo tP : Nat} (p0 : Int32) (p1 : Int32) (p2 : Int32) {x ou cd9 : Nat} {v9 : Int32} {f : Nat → Int64} {X : zM} {N : zM → Prop} {fs0 : List Value} (hx0 : X x = some (.inr (0, fs0))) (hou : X ou = some (.inl (cJ, 1, .inr (.inl f)))) (hcl : cd9 ≤ 3) (hC : z_C (z_G lo tP) D cls4 (zty cS cR cJ cI cZ) lo l y_RR_check w_RR_check zr1 [.ref x, .int p0, .int p1, .int p2] X (zT [E_NSE, E_IAE, E_ISE] cd9 (some (.int v9)) X N)) : z_C (zG2 lo tP) D cls4 (zty cS cR cJ cI cZ) lo l y_LA_check w_LA_check zr2 [.ref x, .int p0, .int p1, .int p2, .ref ou] X (zH cd9 X (zHo ou cJ f v9 X N)) := by
  refine z_ofWW (by decide) ?_
  intro p e s m args below meth c s₁ B hml htab hv
  obtain ⟨rfl, hG2, hK, hW0, hXl, hlo⟩ := hv
  have hG := hG2.1
  have hx := B.exec
  have hb := B.bytes
  have hr := B.returns
  have hlk := B.notSynchronized
  have hown : s.vm.findClass R_LA = some m.cls := findClass_of_methodNamed B.named
  have hk : ∀ {w9 : Cond}, w9 ∈ lw_tbl → z_ok w9 = true → w9.before ([.ref x, .int p0, .int p1, .int p2, .ref ou] : List Value).toArray s = true := fun h1 h2 => hG.w h1 h2 _
  have hS := z_S.start hW0 hXl hlo
  have hl := lv_entry ([.ref x, .int p0, .int p1, .int p2, .ref ou]) (n := 6) (Nat.le_of_ble_eq_true rfl)
  rw [lg_entry_eq]
  generalize (lg_sl ([.ref x, .int p0, .int p1, .int p2, .ref ou]) ++ List.replicate (6 - (lg_sl ([.ref x, .int p0, .int p1, .int p2, .ref ou])).length) Slot.unset).toArray = ls at hl ⊢
  have hl : lv_has ls 6 [(0, .ref x), (1, .int p0), (2, .int p1), (3, .int p2), (4, .ref ou)] := hl
  refine lv_aload hx hb d_LA_check_0 (lv_at hl 4 rfl) ?_
  refine lv_iconst (v := 0) hx hb d_LA_check_2 (by decide) ?_
  refine lv_aload_n hx hb d_LA_check_3 rfl (lv_at hl 0 rfl) ?_
  refine lv_iload_n hx hb d_LA_check_4 rfl (lv_at hl 1 rfl) ?_
  refine lv_iload_n hx hb d_LA_check_5 rfl (lv_at hl 2 rfl) ?_
  refine lv_iload_n hx hb d_LA_check_6 rfl (lv_at hl 3 rfl) ?_
  refine z_hc (n_LA_RR_check hx hown hG (va_recv hK (hS.1.one hx0) (ci := 0) (q0 := 0) rfl rfl) (by rw [hb]; exact d_LA_check_7)) hb (hl.1.trans hml.symm) hC (z_Gkeeps lo tP) hG hK hS (cw_RR_check hG (by decide) (by decide)) d_LA_check_7 (Nat.le_of_ble_eq_true rfl) (by decide) (by decide) (fun hc0 H locs X1 hS hN1 hF1 => ?_) (fun hc0 x9 H locs hS hT9 => ?_)
  · refine lv_i2l (v := v9.toInt64) hx hb d_LA_check_10 rfl ?_
    refine z_last hx hb hK hS 2 (z_ou0 hF1 hou) rfl z_in01 d_LA_check_11 (fun H locs hS => ?_)
    refine lv_goto (tgt := 27) hx hb d_LA_check_12 (by decide) ?_
    refine lv_iconst (v := 0) hx hb d_LA_check_27 (by decide) ?_
    exact z_Ciret hx hb hr rfl hlk hS (⟨by rw [hc0]; rfl, fun _ => ⟨X1, hN1, hF1, rfl⟩, fun h => absurd hc0 h⟩) (by decide) (by decide) d_LA_check_28
  · have hc9 : cd9 = 1 ∨ cd9 = 2 ∨ cd9 = 3 := by omega
    rcases hc9 with rfl | rfl | rfl
    · refine z_catch (tgt := 15) (fun T hT0 hWT hpl => z_find (s0 := 0) (e0 := 12) (E := E_NSE) hpl hown (Nat.zero_le _) (Nat.le_of_ble_eq_true rfl) hT9 (hk k_229 rfl) [] _ 15 25 [(0, 12, 19, 13), (0, 12, 23, 27)] htab (by decide) (hk k_217 rfl) (fun q hq => nomatch hq) _ (by rw [Stand.throwing_vm]; exact hWT) (by rw [Stand.throwing_heap, hT0])) ?_
      refine lv_astore (lv' := [(5, .ref x9), (0, .ref x), (1, .int p0), (2, .int p1), (3, .int p2), (4, .ref ou)]) hx hb d_LA_check_15 hl (by decide) rfl (fun ls hl => ?_)
      refine lv_iconst (v := 1) hx hb d_LA_check_17 (by decide) ?_
      exact z_Ciret hx hb hr rfl hlk hS (⟨rfl, fun h => absurd h (by decide), fun _ => rfl⟩) (by decide) (by decide) d_LA_check_18
    · refine z_catch (tgt := 19) (fun T hT0 hWT hpl => z_find (s0 := 0) (e0 := 12) (E := E_IAE) hpl hown (Nat.zero_le _) (Nat.le_of_ble_eq_true rfl) hT9 (hk k_92 rfl) [(15, 25, E_NSE)] _ 19 13 [(0, 12, 23, 27)] htab (by decide) (hk k_82 rfl) (List.forall_mem_cons.mpr ⟨⟨by decide, hk k_217 rfl, hG2.2 (E_IAE, E_NSE) (by decide +kernel)⟩, (fun q hq => nomatch hq)⟩) _ (by rw [Stand.throwing_vm]; exact hWT) (by rw [Stand.throwing_heap, hT0])) ?_
      refine lv_astore (lv' := [(5, .ref x9), (0, .ref x), (1, .int p0), (2, .int p1), (3, .int p2), (4, .ref ou)]) hx hb d_LA_check_19 hl (by decide) rfl (fun ls hl => ?_)
      refine lv_iconst (v := 2) hx hb d_LA_check_21 (by decide) ?_
      exact z_Ciret hx hb hr rfl hlk hS (⟨rfl, fun h => absurd h (by decide), fun _ => rfl⟩) (by decide) (by decide) d_LA_check_22
    · refine z_catch (tgt := 23) (fun T hT0 hWT hpl => z_find (s0 := 0) (e0 := 12) (E := E_ISE) hpl hown (Nat.zero_le _) (Nat.le_of_ble_eq_true rfl) hT9 (hk k_245 rfl) [(15, 25, E_NSE), (19, 13, E_IAE)] _ 23 27 [] htab (by decide) (hk k_218 rfl) (List.forall_mem_cons.mpr ⟨⟨by decide, hk k_217 rfl, hG2.2 (E_ISE, E_NSE) (by decide +kernel)⟩, (List.forall_mem_cons.mpr ⟨⟨by decide, hk k_82 rfl, hG2.2 (E_ISE, E_IAE) (by decide +kernel)⟩, (fun q hq => nomatch hq)⟩)⟩) _ (by rw [Stand.throwing_vm]; exact hWT) (by rw [Stand.throwing_heap, hT0])) ?_
      refine lv_astore (lv' := [(5, .ref x9), (0, .ref x), (1, .int p0), (2, .int p1), (3, .int p2), (4, .ref ou)]) hx hb d_LA_check_23 hl (by decide) rfl (fun ls hl => ?_)
      refine lv_iconst (v := 3) hx hb d_LA_check_25 (by decide) ?_
      exact z_Ciret hx hb hr rfl hlk hS (⟨rfl, fun h => absurd h (by decide), fun _ => rfl⟩) (by decide) (by decide) d_LA_check_26
set_option maxHeartbeats 4000000 in
set_option maxRecDepth 100000 in
theorem c_LA_grade (l : Launch) (hl9 : l.stackTraces = false) {D : va_G} {cS cR cJ cI cZ : ClassId} {lo tP : Nat} (p0 : Int32) (p1 : Int32) {x ou cd9 : Nat} {v9 : Int32} {f : Nat → Int64} {X : zM} {N : zM → Prop} {fs0 : List Value} (hx0 : X x = some (.inr (0, fs0))) (hou : X ou = some (.inl (cJ, 1, .inr (.inl f)))) (hcl : cd9 ≤ 3) (hC : z_C (z_G lo tP) D cls4 (zty cS cR cJ cI cZ) lo l y_RR_grade w_RR_grade zr1 [.ref x, .int p0, .int p1] X (zT [E_NSE, E_IAE, E_ISE] cd9 (some (.int v9)) X N)) : z_C (zG2 lo tP) D cls4 (zty cS cR cJ cI cZ) lo l y_LA_grade w_LA_grade zr2 [.ref x, .int p0, .int p1, .ref ou] X (zH cd9 X (zHo ou cJ f v9 X N)) := by
  refine z_ofWW (by decide) ?_
  intro p e s m args below meth c s₁ B hml htab hv
  obtain ⟨rfl, hG2, hK, hW0, hXl, hlo⟩ := hv
  have hG := hG2.1
  have hx := B.exec
  have hb := B.bytes
  have hr := B.returns
  have hlk := B.notSynchronized
  have hown : s.vm.findClass R_LA = some m.cls := findClass_of_methodNamed B.named
  have hk : ∀ {w9 : Cond}, w9 ∈ lw_tbl → z_ok w9 = true → w9.before ([.ref x, .int p0, .int p1, .ref ou] : List Value).toArray s = true := fun h1 h2 => hG.w h1 h2 _
  have hS := z_S.start hW0 hXl hlo
  have hl := lv_entry ([.ref x, .int p0, .int p1, .ref ou]) (n := 5) (Nat.le_of_ble_eq_true rfl)
  rw [lg_entry_eq]
  generalize (lg_sl ([.ref x, .int p0, .int p1, .ref ou]) ++ List.replicate (5 - (lg_sl ([.ref x, .int p0, .int p1, .ref ou])).length) Slot.unset).toArray = ls at hl ⊢
  have hl : lv_has ls 5 [(0, .ref x), (1, .int p0), (2, .int p1), (3, .ref ou)] := hl
  refine lv_aload_n hx hb d_LA_grade_0 rfl (lv_at hl 3 rfl) ?_
  refine lv_iconst (v := 0) hx hb d_LA_grade_1 (by decide) ?_
  refine lv_aload_n hx hb d_LA_grade_2 rfl (lv_at hl 0 rfl) ?_
  refine lv_iload_n hx hb d_LA_grade_3 rfl (lv_at hl 1 rfl) ?_
  refine lv_iload_n hx hb d_LA_grade_4 rfl (lv_at hl 2 rfl) ?_
  refine z_hc (n_LA_RR_grade hx hown hG (va_recv hK (hS.1.one hx0) (ci := 0) (q0 := 0) rfl rfl) (by rw [hb]; exact d_LA_grade_5)) hb (hl.1.trans hml.symm) hC (z_Gkeeps lo tP) hG hK hS (cw_RR_grade hG (by decide) (by decide)) d_LA_grade_5 (Nat.le_of_ble_eq_true rfl) (by decide) (by decide) (fun hc0 H locs X1 hS hN1 hF1 => ?_) (fun hc0 x9 H locs hS hT9 => ?_)
  · refine lv_i2l (v := v9.toInt64) hx hb d_LA_grade_8 rfl ?_
    refine z_last hx hb hK hS 2 (z_ou0 hF1 hou) rfl z_in01 d_LA_grade_9 (fun H locs hS => ?_)
    refine lv_goto (tgt := 25) hx hb d_LA_grade_10 (by decide) ?_
    refine lv_iconst (v := 0) hx hb d_LA_grade_25 (by decide) ?_
    exact z_Ciret hx hb hr rfl hlk hS (⟨by rw [hc0]; rfl, fun _ => ⟨X1, hN1, hF1, rfl⟩, fun h => absurd hc0 h⟩) (by decide) (by decide) d_LA_grade_26
  · have hc9 : cd9 = 1 ∨ cd9 = 2 ∨ cd9 = 3 := by omega
    rcases hc9 with rfl | rfl | rfl
    · refine z_catch (tgt := 13) (fun T hT0 hWT hpl => z_find (s0 := 0) (e0 := 10) (E := E_NSE) hpl hown (Nat.zero_le _) (Nat.le_of_ble_eq_true rfl) hT9 (hk k_229 rfl) [] _ 13 25 [(0, 10, 17, 13), (0, 10, 21, 27)] htab (by decide) (hk k_217 rfl) (fun q hq => nomatch hq) _ (by rw [Stand.throwing_vm]; exact hWT) (by rw [Stand.throwing_heap, hT0])) ?_
      refine lv_astore (lv' := [(4, .ref x9), (0, .ref x), (1, .int p0), (2, .int p1), (3, .ref ou)]) hx hb d_LA_grade_13 hl (by decide) rfl (fun ls hl => ?_)
      refine lv_iconst (v := 1) hx hb d_LA_grade_15 (by decide) ?_
      exact z_Ciret hx hb hr rfl hlk hS (⟨rfl, fun h => absurd h (by decide), fun _ => rfl⟩) (by decide) (by decide) d_LA_grade_16
    · refine z_catch (tgt := 17) (fun T hT0 hWT hpl => z_find (s0 := 0) (e0 := 10) (E := E_IAE) hpl hown (Nat.zero_le _) (Nat.le_of_ble_eq_true rfl) hT9 (hk k_92 rfl) [(13, 25, E_NSE)] _ 17 13 [(0, 10, 21, 27)] htab (by decide) (hk k_82 rfl) (List.forall_mem_cons.mpr ⟨⟨by decide, hk k_217 rfl, hG2.2 (E_IAE, E_NSE) (by decide +kernel)⟩, (fun q hq => nomatch hq)⟩) _ (by rw [Stand.throwing_vm]; exact hWT) (by rw [Stand.throwing_heap, hT0])) ?_
      refine lv_astore (lv' := [(4, .ref x9), (0, .ref x), (1, .int p0), (2, .int p1), (3, .ref ou)]) hx hb d_LA_grade_17 hl (by decide) rfl (fun ls hl => ?_)
      refine lv_iconst (v := 2) hx hb d_LA_grade_19 (by decide) ?_
      exact z_Ciret hx hb hr rfl hlk hS (⟨rfl, fun h => absurd h (by decide), fun _ => rfl⟩) (by decide) (by decide) d_LA_grade_20
    · refine z_catch (tgt := 21) (fun T hT0 hWT hpl => z_find (s0 := 0) (e0 := 10) (E := E_ISE) hpl hown (Nat.zero_le _) (Nat.le_of_ble_eq_true rfl) hT9 (hk k_245 rfl) [(13, 25, E_NSE), (17, 13, E_IAE)] _ 21 27 [] htab (by decide) (hk k_218 rfl) (List.forall_mem_cons.mpr ⟨⟨by decide, hk k_217 rfl, hG2.2 (E_ISE, E_NSE) (by decide +kernel)⟩, (List.forall_mem_cons.mpr ⟨⟨by decide, hk k_82 rfl, hG2.2 (E_ISE, E_IAE) (by decide +kernel)⟩, (fun q hq => nomatch hq)⟩)⟩) _ (by rw [Stand.throwing_vm]; exact hWT) (by rw [Stand.throwing_heap, hT0])) ?_
      refine lv_astore (lv' := [(4, .ref x9), (0, .ref x), (1, .int p0), (2, .int p1), (3, .ref ou)]) hx hb d_LA_grade_21 hl (by decide) rfl (fun ls hl => ?_)
      refine lv_iconst (v := 3) hx hb d_LA_grade_23 (by decide) ?_
      exact z_Ciret hx hb hr rfl hlk hS (⟨rfl, fun h => absurd h (by decide), fun _ => rfl⟩) (by decide) (by decide) d_LA_grade_24
set_option maxHeartbeats 4000000 in
set_option maxRecDepth 100000 in
theorem c_LA_repair (l : Launch) (hl9 : l.stackTraces = false) {D : va_G} {cS cR cJ cI cZ : ClassId} {lo tP : Nat} (p0 : Int32) (p1 : Int32) {x cd9 : Nat} {X : zM} {N : zM → Prop} {fs0 : List Value} (hx0 : X x = some (.inr (0, fs0))) (hcl : cd9 ≤ 3) (hC : z_C (z_G lo tP) D cls4 (zty cS cR cJ cI cZ) lo l y_RR_repair w_RR_repair zr1 [.ref x, .int p0, .int p1] X (zT [E_NSE, E_IAE, E_ISE] cd9 none X N)) : z_C (zG2 lo tP) D cls4 (zty cS cR cJ cI cZ) lo l y_LA_repair w_LA_repair zr2 [.ref x, .int p0, .int p1] X (zH cd9 X (fun X9 => N X9 ∧ zFr 0 X X9)) := by
  refine z_ofWW (by decide) ?_
  intro p e s m args below meth c s₁ B hml htab hv
  obtain ⟨rfl, hG2, hK, hW0, hXl, hlo⟩ := hv
  have hG := hG2.1
  have hx := B.exec
  have hb := B.bytes
  have hr := B.returns
  have hlk := B.notSynchronized
  have hown : s.vm.findClass R_LA = some m.cls := findClass_of_methodNamed B.named
  have hk : ∀ {w9 : Cond}, w9 ∈ lw_tbl → z_ok w9 = true → w9.before ([.ref x, .int p0, .int p1] : List Value).toArray s = true := fun h1 h2 => hG.w h1 h2 _
  have hS := z_S.start hW0 hXl hlo
  have hl := lv_entry ([.ref x, .int p0, .int p1]) (n := 4) (Nat.le_of_ble_eq_true rfl)
  rw [lg_entry_eq]
  generalize (lg_sl ([.ref x, .int p0, .int p1]) ++ List.replicate (4 - (lg_sl ([.ref x, .int p0, .int p1])).length) Slot.unset).toArray = ls at hl ⊢
  have hl : lv_has ls 4 [(0, .ref x), (1, .int p0), (2, .int p1)] := hl
  refine lv_aload_n hx hb d_LA_repair_0 rfl (lv_at hl 0 rfl) ?_
  refine lv_iload_n hx hb d_LA_repair_1 rfl (lv_at hl 1 rfl) ?_
  refine lv_iload_n hx hb d_LA_repair_2 rfl (lv_at hl 2 rfl) ?_
  refine z_hc (n_LA_RR_repair hx hown hG (va_recv hK (hS.1.one hx0) (ci := 0) (q0 := 0) rfl rfl) (by rw [hb]; exact d_LA_repair_3)) hb (hl.1.trans hml.symm) hC (z_Gkeeps lo tP) hG hK hS (cw_RR_repair hG (by decide) (by decide)) d_LA_repair_3 (Nat.le_of_ble_eq_true rfl) (by decide) (by decide) (fun hc0 H locs X1 hS hN1 hF1 => ?_) (fun hc0 x9 H locs hS hT9 => ?_)
  · refine lv_goto (tgt := 18) hx hb d_LA_repair_6 (by decide) ?_
    refine lv_iconst (v := 0) hx hb d_LA_repair_18 (by decide) ?_
    exact z_Ciret hx hb hr rfl hlk hS (⟨by rw [hc0]; rfl, fun _ => ⟨hN1, hF1⟩, fun h => absurd hc0 h⟩) (by decide) (by decide) d_LA_repair_19
  · have hc9 : cd9 = 1 ∨ cd9 = 2 ∨ cd9 = 3 := by omega
    rcases hc9 with rfl | rfl | rfl
    · refine z_catch (tgt := 9) (fun T hT0 hWT hpl => z_find (s0 := 0) (e0 := 6) (E := E_NSE) hpl hown (Nat.zero_le _) (Nat.le_of_ble_eq_true rfl) hT9 (hk k_229 rfl) [] _ 9 25 [(0, 6, 12, 13), (0, 6, 15, 27)] htab (by decide) (hk k_217 rfl) (fun q hq => nomatch hq) _ (by rw [Stand.throwing_vm]; exact hWT) (by rw [Stand.throwing_heap, hT0])) ?_
      refine lv_astore_n (lv' := [(3, .ref x9), (0, .ref x), (1, .int p0), (2, .int p1)]) hx hb d_LA_repair_9 rfl hl (by decide) rfl (fun ls hl => ?_)
      refine lv_iconst (v := 1) hx hb d_LA_repair_10 (by decide) ?_
      exact z_Ciret hx hb hr rfl hlk hS (⟨rfl, fun h => absurd h (by decide), fun _ => rfl⟩) (by decide) (by decide) d_LA_repair_11
    · refine z_catch (tgt := 12) (fun T hT0 hWT hpl => z_find (s0 := 0) (e0 := 6) (E := E_IAE) hpl hown (Nat.zero_le _) (Nat.le_of_ble_eq_true rfl) hT9 (hk k_92 rfl) [(9, 25, E_NSE)] _ 12 13 [(0, 6, 15, 27)] htab (by decide) (hk k_82 rfl) (List.forall_mem_cons.mpr ⟨⟨by decide, hk k_217 rfl, hG2.2 (E_IAE, E_NSE) (by decide +kernel)⟩, (fun q hq => nomatch hq)⟩) _ (by rw [Stand.throwing_vm]; exact hWT) (by rw [Stand.throwing_heap, hT0])) ?_
      refine lv_astore_n (lv' := [(3, .ref x9), (0, .ref x), (1, .int p0), (2, .int p1)]) hx hb d_LA_repair_12 rfl hl (by decide) rfl (fun ls hl => ?_)
      refine lv_iconst (v := 2) hx hb d_LA_repair_13 (by decide) ?_
      exact z_Ciret hx hb hr rfl hlk hS (⟨rfl, fun h => absurd h (by decide), fun _ => rfl⟩) (by decide) (by decide) d_LA_repair_14
    · refine z_catch (tgt := 15) (fun T hT0 hWT hpl => z_find (s0 := 0) (e0 := 6) (E := E_ISE) hpl hown (Nat.zero_le _) (Nat.le_of_ble_eq_true rfl) hT9 (hk k_245 rfl) [(9, 25, E_NSE), (12, 13, E_IAE)] _ 15 27 [] htab (by decide) (hk k_218 rfl) (List.forall_mem_cons.mpr ⟨⟨by decide, hk k_217 rfl, hG2.2 (E_ISE, E_NSE) (by decide +kernel)⟩, (List.forall_mem_cons.mpr ⟨⟨by decide, hk k_82 rfl, hG2.2 (E_ISE, E_IAE) (by decide +kernel)⟩, (fun q hq => nomatch hq)⟩)⟩) _ (by rw [Stand.throwing_vm]; exact hWT) (by rw [Stand.throwing_heap, hT0])) ?_
      refine lv_astore_n (lv' := [(3, .ref x9), (0, .ref x), (1, .int p0), (2, .int p1)]) hx hb d_LA_repair_15 rfl hl (by decide) rfl (fun ls hl => ?_)
      refine lv_iconst (v := 3) hx hb d_LA_repair_16 (by decide) ?_
      exact z_Ciret hx hb hr rfl hlk hS (⟨rfl, fun h => absurd h (by decide), fun _ => rfl⟩) (by decide) (by decide) d_LA_repair_17
set_option maxHeartbeats 4000000 in
set_option maxRecDepth 100000 in
theorem c_LA_step (l : Launch) (hl9 : l.stackTraces = false) {D : va_G} {cS cR cJ cI cZ : ClassId} {lo tP : Nat} (p0 : Int32) (p1 : Int32) {x ou cd9 : Nat} {v9 : Int32} {f : Nat → Int64} {X : zM} {N : zM → Prop} {fs0 : List Value} (hx0 : X x = some (.inr (0, fs0))) (hou : X ou = some (.inl (cJ, 1, .inr (.inl f)))) (hcl : cd9 ≤ 2) (hC : z_C (z_G lo tP) D cls4 (zty cS cR cJ cI cZ) lo l y_RR_step w_RR_step zr1 [.ref x, .int p0, .int p1] X (zT [E_NSE, E_ISE] cd9 (some (.int v9)) X N)) : z_C (zG2 lo tP) D cls4 (zty cS cR cJ cI cZ) lo l y_LA_step w_LA_step zr2 [.ref x, .int p0, .int p1, .ref ou] X (zH cd9 X (zHo ou cJ f v9 X N)) := by
  refine z_ofWW (by decide) ?_
  intro p e s m args below meth c s₁ B hml htab hv
  obtain ⟨rfl, hG2, hK, hW0, hXl, hlo⟩ := hv
  have hG := hG2.1
  have hx := B.exec
  have hb := B.bytes
  have hr := B.returns
  have hlk := B.notSynchronized
  have hown : s.vm.findClass R_LA = some m.cls := findClass_of_methodNamed B.named
  have hk : ∀ {w9 : Cond}, w9 ∈ lw_tbl → z_ok w9 = true → w9.before ([.ref x, .int p0, .int p1, .ref ou] : List Value).toArray s = true := fun h1 h2 => hG.w h1 h2 _
  have hS := z_S.start hW0 hXl hlo
  have hl := lv_entry ([.ref x, .int p0, .int p1, .ref ou]) (n := 5) (Nat.le_of_ble_eq_true rfl)
  rw [lg_entry_eq]
  generalize (lg_sl ([.ref x, .int p0, .int p1, .ref ou]) ++ List.replicate (5 - (lg_sl ([.ref x, .int p0, .int p1, .ref ou])).length) Slot.unset).toArray = ls at hl ⊢
  have hl : lv_has ls 5 [(0, .ref x), (1, .int p0), (2, .int p1), (3, .ref ou)] := hl
  refine lv_aload_n hx hb d_LA_step_0 rfl (lv_at hl 3 rfl) ?_
  refine lv_iconst (v := 0) hx hb d_LA_step_1 (by decide) ?_
  refine lv_aload_n hx hb d_LA_step_2 rfl (lv_at hl 0 rfl) ?_
  refine lv_iload_n hx hb d_LA_step_3 rfl (lv_at hl 1 rfl) ?_
  refine lv_iload_n hx hb d_LA_step_4 rfl (lv_at hl 2 rfl) ?_
  refine z_hc (n_LA_RR_step hx hown hG (va_recv hK (hS.1.one hx0) (ci := 0) (q0 := 0) rfl rfl) (by rw [hb]; exact d_LA_step_5)) hb (hl.1.trans hml.symm) hC (z_Gkeeps lo tP) hG hK hS (cw_RR_step hG (by decide) (by decide)) d_LA_step_5 (Nat.le_of_ble_eq_true rfl) (by decide) (by decide) (fun hc0 H locs X1 hS hN1 hF1 => ?_) (fun hc0 x9 H locs hS hT9 => ?_)
  · refine lv_i2l (v := v9.toInt64) hx hb d_LA_step_8 rfl ?_
    refine z_last hx hb hK hS 2 (z_ou0 hF1 hou) rfl z_in01 d_LA_step_9 (fun H locs hS => ?_)
    refine lv_goto (tgt := 21) hx hb d_LA_step_10 (by decide) ?_
    refine lv_iconst (v := 0) hx hb d_LA_step_21 (by decide) ?_
    exact z_Ciret hx hb hr rfl hlk hS (⟨by rw [hc0]; rfl, fun _ => ⟨X1, hN1, hF1, rfl⟩, fun h => absurd hc0 h⟩) (by decide) (by decide) d_LA_step_22
  · have hc9 : cd9 = 1 ∨ cd9 = 2 := by omega
    rcases hc9 with rfl | rfl
    · refine z_catch (tgt := 13) (fun T hT0 hWT hpl => z_find (s0 := 0) (e0 := 10) (E := E_NSE) hpl hown (Nat.zero_le _) (Nat.le_of_ble_eq_true rfl) hT9 (hk k_229 rfl) [] _ 13 25 [(0, 10, 17, 27)] htab (by decide) (hk k_217 rfl) (fun q hq => nomatch hq) _ (by rw [Stand.throwing_vm]; exact hWT) (by rw [Stand.throwing_heap, hT0])) ?_
      refine lv_astore (lv' := [(4, .ref x9), (0, .ref x), (1, .int p0), (2, .int p1), (3, .ref ou)]) hx hb d_LA_step_13 hl (by decide) rfl (fun ls hl => ?_)
      refine lv_iconst (v := 1) hx hb d_LA_step_15 (by decide) ?_
      exact z_Ciret hx hb hr rfl hlk hS (⟨rfl, fun h => absurd h (by decide), fun _ => rfl⟩) (by decide) (by decide) d_LA_step_16
    · refine z_catch (tgt := 17) (fun T hT0 hWT hpl => z_find (s0 := 0) (e0 := 10) (E := E_ISE) hpl hown (Nat.zero_le _) (Nat.le_of_ble_eq_true rfl) hT9 (hk k_245 rfl) [(13, 25, E_NSE)] _ 17 27 [] htab (by decide) (hk k_218 rfl) (List.forall_mem_cons.mpr ⟨⟨by decide, hk k_217 rfl, hG2.2 (E_ISE, E_NSE) (by decide +kernel)⟩, (fun q hq => nomatch hq)⟩) _ (by rw [Stand.throwing_vm]; exact hWT) (by rw [Stand.throwing_heap, hT0])) ?_
      refine lv_astore (lv' := [(4, .ref x9), (0, .ref x), (1, .int p0), (2, .int p1), (3, .ref ou)]) hx hb d_LA_step_17 hl (by decide) rfl (fun ls hl => ?_)
      refine lv_iconst (v := 2) hx hb d_LA_step_19 (by decide) ?_
      exact z_Ciret hx hb hr rfl hlk hS (⟨rfl, fun h => absurd h (by decide), fun _ => rfl⟩) (by decide) (by decide) d_LA_step_20
set_option maxHeartbeats 4000000 in
set_option maxRecDepth 100000 in
theorem c_LA_scrap (l : Launch) (hl9 : l.stackTraces = false) {D : va_G} {cS cR cJ cI cZ : ClassId} {lo tP : Nat} (p0 : Int32) (p1 : Int32) {x ou cd9 : Nat} {v9 : Int32} {f : Nat → Int64} {X : zM} {N : zM → Prop} {fs0 : List Value} (hx0 : X x = some (.inr (0, fs0))) (hou : X ou = some (.inl (cJ, 1, .inr (.inl f)))) (hcl : cd9 ≤ 3) (hC : z_C (z_G lo tP) D cls4 (zty cS cR cJ cI cZ) lo l y_RR_scrap w_RR_scrap zr1 [.ref x, .int p0, .int p1] X (zT [E_NSE, E_IAE, E_ISE] cd9 (some (.int v9)) X N)) (hv01 : v9 = 0 ∨ v9 = 1) : z_C (zG2 lo tP) D cls4 (zty cS cR cJ cI cZ) lo l y_LA_scrap w_LA_scrap zr2 [.ref x, .int p0, .int p1, .ref ou] X (zH cd9 X (zHo ou cJ f v9 X N)) := by
  refine z_ofWW (by decide) ?_
  intro p e s m args below meth c s₁ B hml htab hv
  obtain ⟨rfl, hG2, hK, hW0, hXl, hlo⟩ := hv
  have hG := hG2.1
  have hx := B.exec
  have hb := B.bytes
  have hr := B.returns
  have hlk := B.notSynchronized
  have hown : s.vm.findClass R_LA = some m.cls := findClass_of_methodNamed B.named
  have hk : ∀ {w9 : Cond}, w9 ∈ lw_tbl → z_ok w9 = true → w9.before ([.ref x, .int p0, .int p1, .ref ou] : List Value).toArray s = true := fun h1 h2 => hG.w h1 h2 _
  have hS := z_S.start hW0 hXl hlo
  have hl := lv_entry ([.ref x, .int p0, .int p1, .ref ou]) (n := 5) (Nat.le_of_ble_eq_true rfl)
  rw [lg_entry_eq]
  generalize (lg_sl ([.ref x, .int p0, .int p1, .ref ou]) ++ List.replicate (5 - (lg_sl ([.ref x, .int p0, .int p1, .ref ou])).length) Slot.unset).toArray = ls at hl ⊢
  have hl : lv_has ls 5 [(0, .ref x), (1, .int p0), (2, .int p1), (3, .ref ou)] := hl
  refine lv_aload_n hx hb d_LA_scrap_0 rfl (lv_at hl 3 rfl) ?_
  refine lv_iconst (v := 0) hx hb d_LA_scrap_1 (by decide) ?_
  refine lv_aload_n hx hb d_LA_scrap_2 rfl (lv_at hl 0 rfl) ?_
  refine lv_iload_n hx hb d_LA_scrap_3 rfl (lv_at hl 1 rfl) ?_
  refine lv_iload_n hx hb d_LA_scrap_4 rfl (lv_at hl 2 rfl) ?_
  refine z_hc (n_LA_RR_scrap hx hown hG (va_recv hK (hS.1.one hx0) (ci := 0) (q0 := 0) rfl rfl) (by rw [hb]; exact d_LA_scrap_5)) hb (hl.1.trans hml.symm) hC (z_Gkeeps lo tP) hG hK hS (cw_RR_scrap hG (by decide) (by decide)) d_LA_scrap_5 (Nat.le_of_ble_eq_true rfl) (by decide) (by decide) (fun hc0 H locs X1 hS hN1 hF1 => ?_) (fun hc0 x9 H locs hS hT9 => ?_)
  · refine lv_if_eq (tgt := 15) hx hb d_LA_scrap_8 (by decide) (fun c_1 => ?_) (fun c_1 => ?_)
    · refine lv_lconst (v := 0) hx hb d_LA_scrap_15 (by decide) ?_
      refine z_last hx hb hK hS 2 (z_ou0 hF1 hou) rfl z_in01 d_LA_scrap_16 (fun H locs hS => ?_)
      refine lv_goto (tgt := 32) hx hb d_LA_scrap_17 (by decide) ?_
      refine lv_iconst (v := 0) hx hb d_LA_scrap_32 (by decide) ?_
      exact z_Ciret hx hb hr rfl hlk hS (⟨by rw [hc0]; rfl, fun _ => ⟨X1, hN1, hF1, by rw [c_1]; rfl⟩, fun h => absurd hc0 h⟩) (by decide) (by decide) d_LA_scrap_33
    · refine lv_lconst (v := 1) hx hb d_LA_scrap_11 (by decide) ?_
      refine lv_goto (tgt := 16) hx hb d_LA_scrap_12 (by decide) ?_
      refine z_last hx hb hK hS 2 (z_ou0 hF1 hou) rfl z_in01 d_LA_scrap_16 (fun H locs hS => ?_)
      refine lv_goto (tgt := 32) hx hb d_LA_scrap_17 (by decide) ?_
      refine lv_iconst (v := 0) hx hb d_LA_scrap_32 (by decide) ?_
      exact z_Ciret hx hb hr rfl hlk hS (⟨by rw [hc0]; rfl, fun _ => ⟨X1, hN1, hF1, by rw [hv01.resolve_left c_1]; rfl⟩, fun h => absurd hc0 h⟩) (by decide) (by decide) d_LA_scrap_33
  · have hc9 : cd9 = 1 ∨ cd9 = 2 ∨ cd9 = 3 := by omega
    rcases hc9 with rfl | rfl | rfl
    · refine z_catch (tgt := 20) (fun T hT0 hWT hpl => z_find (s0 := 0) (e0 := 17) (E := E_NSE) hpl hown (Nat.zero_le _) (Nat.le_of_ble_eq_true rfl) hT9 (hk k_229 rfl) [] _ 20 25 [(0, 17, 24, 13), (0, 17, 28, 27)] htab (by decide) (hk k_217 rfl) (fun q hq => nomatch hq) _ (by rw [Stand.throwing_vm]; exact hWT) (by rw [Stand.throwing_heap, hT0])) ?_
      refine lv_astore (lv' := [(4, .ref x9), (0, .ref x), (1, .int p0), (2, .int p1), (3, .ref ou)]) hx hb d_LA_scrap_20 hl (by decide) rfl (fun ls hl => ?_)
      refine lv_iconst (v := 1) hx hb d_LA_scrap_22 (by decide) ?_
      exact z_Ciret hx hb hr rfl hlk hS (⟨rfl, fun h => absurd h (by decide), fun _ => rfl⟩) (by decide) (by decide) d_LA_scrap_23
    · refine z_catch (tgt := 24) (fun T hT0 hWT hpl => z_find (s0 := 0) (e0 := 17) (E := E_IAE) hpl hown (Nat.zero_le _) (Nat.le_of_ble_eq_true rfl) hT9 (hk k_92 rfl) [(20, 25, E_NSE)] _ 24 13 [(0, 17, 28, 27)] htab (by decide) (hk k_82 rfl) (List.forall_mem_cons.mpr ⟨⟨by decide, hk k_217 rfl, hG2.2 (E_IAE, E_NSE) (by decide +kernel)⟩, (fun q hq => nomatch hq)⟩) _ (by rw [Stand.throwing_vm]; exact hWT) (by rw [Stand.throwing_heap, hT0])) ?_
      refine lv_astore (lv' := [(4, .ref x9), (0, .ref x), (1, .int p0), (2, .int p1), (3, .ref ou)]) hx hb d_LA_scrap_24 hl (by decide) rfl (fun ls hl => ?_)
      refine lv_iconst (v := 2) hx hb d_LA_scrap_26 (by decide) ?_
      exact z_Ciret hx hb hr rfl hlk hS (⟨rfl, fun h => absurd h (by decide), fun _ => rfl⟩) (by decide) (by decide) d_LA_scrap_27
    · refine z_catch (tgt := 28) (fun T hT0 hWT hpl => z_find (s0 := 0) (e0 := 17) (E := E_ISE) hpl hown (Nat.zero_le _) (Nat.le_of_ble_eq_true rfl) hT9 (hk k_245 rfl) [(20, 25, E_NSE), (24, 13, E_IAE)] _ 28 27 [] htab (by decide) (hk k_218 rfl) (List.forall_mem_cons.mpr ⟨⟨by decide, hk k_217 rfl, hG2.2 (E_ISE, E_NSE) (by decide +kernel)⟩, (List.forall_mem_cons.mpr ⟨⟨by decide, hk k_82 rfl, hG2.2 (E_ISE, E_IAE) (by decide +kernel)⟩, (fun q hq => nomatch hq)⟩)⟩) _ (by rw [Stand.throwing_vm]; exact hWT) (by rw [Stand.throwing_heap, hT0])) ?_
      refine lv_astore (lv' := [(4, .ref x9), (0, .ref x), (1, .int p0), (2, .int p1), (3, .ref ou)]) hx hb d_LA_scrap_28 hl (by decide) rfl (fun ls hl => ?_)
      refine lv_iconst (v := 3) hx hb d_LA_scrap_30 (by decide) ?_
      exact z_Ciret hx hb hr rfl hlk hS (⟨rfl, fun h => absurd h (by decide), fun _ => rfl⟩) (by decide) (by decide) d_LA_scrap_31
set_option maxHeartbeats 4000000 in
set_option maxRecDepth 100000 in
theorem c_LA_back (l : Launch) (hl9 : l.stackTraces = false) {D : va_G} {cS cR cJ cI cZ : ClassId} {lo tP : Nat} (p0 : Int32) {x ou cd9 : Nat} {v9 : Int32} {f : Nat → Int64} {X : zM} {N : zM → Prop} {fs0 : List Value} (hx0 : X x = some (.inr (0, fs0))) (hou : X ou = some (.inl (cJ, 1, .inr (.inl f)))) (hcl : cd9 ≤ 2) (hC : z_C (z_G lo tP) D cls4 (zty cS cR cJ cI cZ) lo l y_RR_back w_RR_back zr1 [.ref x, .int p0] X (zT [E_NSE, E_ISE] cd9 (some (.int v9)) X N)) : z_C (zG2 lo tP) D cls4 (zty cS cR cJ cI cZ) lo l y_LA_back w_LA_back zr2 [.ref x, .int p0, .ref ou] X (zH cd9 X (zHo ou cJ f v9 X N)) := by
  refine z_ofWW (by decide) ?_
  intro p e s m args below meth c s₁ B hml htab hv
  obtain ⟨rfl, hG2, hK, hW0, hXl, hlo⟩ := hv
  have hG := hG2.1
  have hx := B.exec
  have hb := B.bytes
  have hr := B.returns
  have hlk := B.notSynchronized
  have hown : s.vm.findClass R_LA = some m.cls := findClass_of_methodNamed B.named
  have hk : ∀ {w9 : Cond}, w9 ∈ lw_tbl → z_ok w9 = true → w9.before ([.ref x, .int p0, .ref ou] : List Value).toArray s = true := fun h1 h2 => hG.w h1 h2 _
  have hS := z_S.start hW0 hXl hlo
  have hl := lv_entry ([.ref x, .int p0, .ref ou]) (n := 4) (Nat.le_of_ble_eq_true rfl)
  rw [lg_entry_eq]
  generalize (lg_sl ([.ref x, .int p0, .ref ou]) ++ List.replicate (4 - (lg_sl ([.ref x, .int p0, .ref ou])).length) Slot.unset).toArray = ls at hl ⊢
  have hl : lv_has ls 4 [(0, .ref x), (1, .int p0), (2, .ref ou)] := hl
  refine lv_aload_n hx hb d_LA_back_0 rfl (lv_at hl 2 rfl) ?_
  refine lv_iconst (v := 0) hx hb d_LA_back_1 (by decide) ?_
  refine lv_aload_n hx hb d_LA_back_2 rfl (lv_at hl 0 rfl) ?_
  refine lv_iload_n hx hb d_LA_back_3 rfl (lv_at hl 1 rfl) ?_
  refine z_hc (n_LA_RR_back hx hown hG (va_recv hK (hS.1.one hx0) (ci := 0) (q0 := 0) rfl rfl) (by rw [hb]; exact d_LA_back_4)) hb (hl.1.trans hml.symm) hC (z_Gkeeps lo tP) hG hK hS (cw_RR_back hG (by decide) (by decide)) d_LA_back_4 (Nat.le_of_ble_eq_true rfl) (by decide) (by decide) (fun hc0 H locs X1 hS hN1 hF1 => ?_) (fun hc0 x9 H locs hS hT9 => ?_)
  · refine lv_i2l (v := v9.toInt64) hx hb d_LA_back_7 rfl ?_
    refine z_last hx hb hK hS 2 (z_ou0 hF1 hou) rfl z_in01 d_LA_back_8 (fun H locs hS => ?_)
    refine lv_goto (tgt := 18) hx hb d_LA_back_9 (by decide) ?_
    refine lv_iconst (v := 0) hx hb d_LA_back_18 (by decide) ?_
    exact z_Ciret hx hb hr rfl hlk hS (⟨by rw [hc0]; rfl, fun _ => ⟨X1, hN1, hF1, rfl⟩, fun h => absurd hc0 h⟩) (by decide) (by decide) d_LA_back_19
  · have hc9 : cd9 = 1 ∨ cd9 = 2 := by omega
    rcases hc9 with rfl | rfl
    · refine z_catch (tgt := 12) (fun T hT0 hWT hpl => z_find (s0 := 0) (e0 := 9) (E := E_NSE) hpl hown (Nat.zero_le _) (Nat.le_of_ble_eq_true rfl) hT9 (hk k_229 rfl) [] _ 12 25 [(0, 9, 15, 27)] htab (by decide) (hk k_217 rfl) (fun q hq => nomatch hq) _ (by rw [Stand.throwing_vm]; exact hWT) (by rw [Stand.throwing_heap, hT0])) ?_
      refine lv_astore_n (lv' := [(3, .ref x9), (0, .ref x), (1, .int p0), (2, .ref ou)]) hx hb d_LA_back_12 rfl hl (by decide) rfl (fun ls hl => ?_)
      refine lv_iconst (v := 1) hx hb d_LA_back_13 (by decide) ?_
      exact z_Ciret hx hb hr rfl hlk hS (⟨rfl, fun h => absurd h (by decide), fun _ => rfl⟩) (by decide) (by decide) d_LA_back_14
    · refine z_catch (tgt := 15) (fun T hT0 hWT hpl => z_find (s0 := 0) (e0 := 9) (E := E_ISE) hpl hown (Nat.zero_le _) (Nat.le_of_ble_eq_true rfl) hT9 (hk k_245 rfl) [(12, 25, E_NSE)] _ 15 27 [] htab (by decide) (hk k_218 rfl) (List.forall_mem_cons.mpr ⟨⟨by decide, hk k_217 rfl, hG2.2 (E_ISE, E_NSE) (by decide +kernel)⟩, (fun q hq => nomatch hq)⟩) _ (by rw [Stand.throwing_vm]; exact hWT) (by rw [Stand.throwing_heap, hT0])) ?_
      refine lv_astore_n (lv' := [(3, .ref x9), (0, .ref x), (1, .int p0), (2, .ref ou)]) hx hb d_LA_back_15 rfl hl (by decide) rfl (fun ls hl => ?_)
      refine lv_iconst (v := 2) hx hb d_LA_back_16 (by decide) ?_
      exact z_Ciret hx hb hr rfl hlk hS (⟨rfl, fun h => absurd h (by decide), fun _ => rfl⟩) (by decide) (by decide) d_LA_back_17
set_option maxHeartbeats 4000000 in
set_option maxRecDepth 100000 in
theorem c_LA_missing (l : Launch) (hl9 : l.stackTraces = false) {D : va_G} {cS cR cJ cI cZ : ClassId} {lo tP : Nat} (p0 : Int32) (p1 : Int32) {x cd9 : Nat} {X : zM} {N : zM → Prop} {fs0 : List Value} (hx0 : X x = some (.inr (0, fs0))) (hcl : cd9 ≤ 3) (hC : z_C (z_G lo tP) D cls4 (zty cS cR cJ cI cZ) lo l y_RR_missing w_RR_missing zr1 [.ref x, .int p0, .int p1] X (zT [E_NSE, E_IAE, E_ISE] cd9 none X N)) : z_C (zG2 lo tP) D cls4 (zty cS cR cJ cI cZ) lo l y_LA_missing w_LA_missing zr2 [.ref x, .int p0, .int p1] X (zH cd9 X (fun X9 => N X9 ∧ zFr 0 X X9)) := by
  refine z_ofWW (by decide) ?_
  intro p e s m args below meth c s₁ B hml htab hv
  obtain ⟨rfl, hG2, hK, hW0, hXl, hlo⟩ := hv
  have hG := hG2.1
  have hx := B.exec
  have hb := B.bytes
  have hr := B.returns
  have hlk := B.notSynchronized
  have hown : s.vm.findClass R_LA = some m.cls := findClass_of_methodNamed B.named
  have hk : ∀ {w9 : Cond}, w9 ∈ lw_tbl → z_ok w9 = true → w9.before ([.ref x, .int p0, .int p1] : List Value).toArray s = true := fun h1 h2 => hG.w h1 h2 _
  have hS := z_S.start hW0 hXl hlo
  have hl := lv_entry ([.ref x, .int p0, .int p1]) (n := 4) (Nat.le_of_ble_eq_true rfl)
  rw [lg_entry_eq]
  generalize (lg_sl ([.ref x, .int p0, .int p1]) ++ List.replicate (4 - (lg_sl ([.ref x, .int p0, .int p1])).length) Slot.unset).toArray = ls at hl ⊢
  have hl : lv_has ls 4 [(0, .ref x), (1, .int p0), (2, .int p1)] := hl
  refine lv_aload_n hx hb d_LA_missing_0 rfl (lv_at hl 0 rfl) ?_
  refine lv_iload_n hx hb d_LA_missing_1 rfl (lv_at hl 1 rfl) ?_
  refine lv_iload_n hx hb d_LA_missing_2 rfl (lv_at hl 2 rfl) ?_
  refine z_hc (n_LA_RR_missing hx hown hG (va_recv hK (hS.1.one hx0) (ci := 0) (q0 := 0) rfl rfl) (by rw [hb]; exact d_LA_missing_3)) hb (hl.1.trans hml.symm) hC (z_Gkeeps lo tP) hG hK hS (cw_RR_missing hG (by decide) (by decide)) d_LA_missing_3 (Nat.le_of_ble_eq_true rfl) (by decide) (by decide) (fun hc0 H locs X1 hS hN1 hF1 => ?_) (fun hc0 x9 H locs hS hT9 => ?_)
  · refine lv_goto (tgt := 18) hx hb d_LA_missing_6 (by decide) ?_
    refine lv_iconst (v := 0) hx hb d_LA_missing_18 (by decide) ?_
    exact z_Ciret hx hb hr rfl hlk hS (⟨by rw [hc0]; rfl, fun _ => ⟨hN1, hF1⟩, fun h => absurd hc0 h⟩) (by decide) (by decide) d_LA_missing_19
  · have hc9 : cd9 = 1 ∨ cd9 = 2 ∨ cd9 = 3 := by omega
    rcases hc9 with rfl | rfl | rfl
    · refine z_catch (tgt := 9) (fun T hT0 hWT hpl => z_find (s0 := 0) (e0 := 6) (E := E_NSE) hpl hown (Nat.zero_le _) (Nat.le_of_ble_eq_true rfl) hT9 (hk k_229 rfl) [] _ 9 25 [(0, 6, 12, 13), (0, 6, 15, 27)] htab (by decide) (hk k_217 rfl) (fun q hq => nomatch hq) _ (by rw [Stand.throwing_vm]; exact hWT) (by rw [Stand.throwing_heap, hT0])) ?_
      refine lv_astore_n (lv' := [(3, .ref x9), (0, .ref x), (1, .int p0), (2, .int p1)]) hx hb d_LA_missing_9 rfl hl (by decide) rfl (fun ls hl => ?_)
      refine lv_iconst (v := 1) hx hb d_LA_missing_10 (by decide) ?_
      exact z_Ciret hx hb hr rfl hlk hS (⟨rfl, fun h => absurd h (by decide), fun _ => rfl⟩) (by decide) (by decide) d_LA_missing_11
    · refine z_catch (tgt := 12) (fun T hT0 hWT hpl => z_find (s0 := 0) (e0 := 6) (E := E_IAE) hpl hown (Nat.zero_le _) (Nat.le_of_ble_eq_true rfl) hT9 (hk k_92 rfl) [(9, 25, E_NSE)] _ 12 13 [(0, 6, 15, 27)] htab (by decide) (hk k_82 rfl) (List.forall_mem_cons.mpr ⟨⟨by decide, hk k_217 rfl, hG2.2 (E_IAE, E_NSE) (by decide +kernel)⟩, (fun q hq => nomatch hq)⟩) _ (by rw [Stand.throwing_vm]; exact hWT) (by rw [Stand.throwing_heap, hT0])) ?_
      refine lv_astore_n (lv' := [(3, .ref x9), (0, .ref x), (1, .int p0), (2, .int p1)]) hx hb d_LA_missing_12 rfl hl (by decide) rfl (fun ls hl => ?_)
      refine lv_iconst (v := 2) hx hb d_LA_missing_13 (by decide) ?_
      exact z_Ciret hx hb hr rfl hlk hS (⟨rfl, fun h => absurd h (by decide), fun _ => rfl⟩) (by decide) (by decide) d_LA_missing_14
    · refine z_catch (tgt := 15) (fun T hT0 hWT hpl => z_find (s0 := 0) (e0 := 6) (E := E_ISE) hpl hown (Nat.zero_le _) (Nat.le_of_ble_eq_true rfl) hT9 (hk k_245 rfl) [(9, 25, E_NSE), (12, 13, E_IAE)] _ 15 27 [] htab (by decide) (hk k_218 rfl) (List.forall_mem_cons.mpr ⟨⟨by decide, hk k_217 rfl, hG2.2 (E_ISE, E_NSE) (by decide +kernel)⟩, (List.forall_mem_cons.mpr ⟨⟨by decide, hk k_82 rfl, hG2.2 (E_ISE, E_IAE) (by decide +kernel)⟩, (fun q hq => nomatch hq)⟩)⟩) _ (by rw [Stand.throwing_vm]; exact hWT) (by rw [Stand.throwing_heap, hT0])) ?_
      refine lv_astore_n (lv' := [(3, .ref x9), (0, .ref x), (1, .int p0), (2, .int p1)]) hx hb d_LA_missing_15 rfl hl (by decide) rfl (fun ls hl => ?_)
      refine lv_iconst (v := 3) hx hb d_LA_missing_16 (by decide) ?_
      exact z_Ciret hx hb hr rfl hlk hS (⟨rfl, fun h => absurd h (by decide), fun _ => rfl⟩) (by decide) (by decide) d_LA_missing_17
set_option maxHeartbeats 4000000 in
set_option maxRecDepth 100000 in
theorem c_LA_refund (l : Launch) (hl9 : l.stackTraces = false) {D : va_G} {cS cR cJ cI cZ : ClassId} {lo tP : Nat} (p0 : Int32) (p1 : Int32) {x ou cd9 : Nat} {v9 : Int32} {f : Nat → Int64} {X : zM} {N : zM → Prop} {fs0 : List Value} (hx0 : X x = some (.inr (0, fs0))) (hou : X ou = some (.inl (cJ, 1, .inr (.inl f)))) (hcl : cd9 ≤ 3) (hC : z_C (z_G lo tP) D cls4 (zty cS cR cJ cI cZ) lo l y_RR_refund w_RR_refund zr1 [.ref x, .int p0, .int p1] X (zT [E_NSE, E_IAE, E_ISE] cd9 (some (.int v9)) X N)) : z_C (zG2 lo tP) D cls4 (zty cS cR cJ cI cZ) lo l y_LA_refund w_LA_refund zr2 [.ref x, .int p0, .int p1, .ref ou] X (zH cd9 X (zHo ou cJ f v9 X N)) := by
  refine z_ofWW (by decide) ?_
  intro p e s m args below meth c s₁ B hml htab hv
  obtain ⟨rfl, hG2, hK, hW0, hXl, hlo⟩ := hv
  have hG := hG2.1
  have hx := B.exec
  have hb := B.bytes
  have hr := B.returns
  have hlk := B.notSynchronized
  have hown : s.vm.findClass R_LA = some m.cls := findClass_of_methodNamed B.named
  have hk : ∀ {w9 : Cond}, w9 ∈ lw_tbl → z_ok w9 = true → w9.before ([.ref x, .int p0, .int p1, .ref ou] : List Value).toArray s = true := fun h1 h2 => hG.w h1 h2 _
  have hS := z_S.start hW0 hXl hlo
  have hl := lv_entry ([.ref x, .int p0, .int p1, .ref ou]) (n := 5) (Nat.le_of_ble_eq_true rfl)
  rw [lg_entry_eq]
  generalize (lg_sl ([.ref x, .int p0, .int p1, .ref ou]) ++ List.replicate (5 - (lg_sl ([.ref x, .int p0, .int p1, .ref ou])).length) Slot.unset).toArray = ls at hl ⊢
  have hl : lv_has ls 5 [(0, .ref x), (1, .int p0), (2, .int p1), (3, .ref ou)] := hl
  refine lv_aload_n hx hb d_LA_refund_0 rfl (lv_at hl 3 rfl) ?_
  refine lv_iconst (v := 0) hx hb d_LA_refund_1 (by decide) ?_
  refine lv_aload_n hx hb d_LA_refund_2 rfl (lv_at hl 0 rfl) ?_
  refine lv_iload_n hx hb d_LA_refund_3 rfl (lv_at hl 1 rfl) ?_
  refine lv_iload_n hx hb d_LA_refund_4 rfl (lv_at hl 2 rfl) ?_
  refine z_hc (n_LA_RR_refund hx hown hG (va_recv hK (hS.1.one hx0) (ci := 0) (q0 := 0) rfl rfl) (by rw [hb]; exact d_LA_refund_5)) hb (hl.1.trans hml.symm) hC (z_Gkeeps lo tP) hG hK hS (cw_RR_refund hG (by decide) (by decide)) d_LA_refund_5 (Nat.le_of_ble_eq_true rfl) (by decide) (by decide) (fun hc0 H locs X1 hS hN1 hF1 => ?_) (fun hc0 x9 H locs hS hT9 => ?_)
  · refine lv_i2l (v := v9.toInt64) hx hb d_LA_refund_8 rfl ?_
    refine z_last hx hb hK hS 2 (z_ou0 hF1 hou) rfl z_in01 d_LA_refund_9 (fun H locs hS => ?_)
    refine lv_goto (tgt := 25) hx hb d_LA_refund_10 (by decide) ?_
    refine lv_iconst (v := 0) hx hb d_LA_refund_25 (by decide) ?_
    exact z_Ciret hx hb hr rfl hlk hS (⟨by rw [hc0]; rfl, fun _ => ⟨X1, hN1, hF1, rfl⟩, fun h => absurd hc0 h⟩) (by decide) (by decide) d_LA_refund_26
  · have hc9 : cd9 = 1 ∨ cd9 = 2 ∨ cd9 = 3 := by omega
    rcases hc9 with rfl | rfl | rfl
    · refine z_catch (tgt := 13) (fun T hT0 hWT hpl => z_find (s0 := 0) (e0 := 10) (E := E_NSE) hpl hown (Nat.zero_le _) (Nat.le_of_ble_eq_true rfl) hT9 (hk k_229 rfl) [] _ 13 25 [(0, 10, 17, 13), (0, 10, 21, 27)] htab (by decide) (hk k_217 rfl) (fun q hq => nomatch hq) _ (by rw [Stand.throwing_vm]; exact hWT) (by rw [Stand.throwing_heap, hT0])) ?_
      refine lv_astore (lv' := [(4, .ref x9), (0, .ref x), (1, .int p0), (2, .int p1), (3, .ref ou)]) hx hb d_LA_refund_13 hl (by decide) rfl (fun ls hl => ?_)
      refine lv_iconst (v := 1) hx hb d_LA_refund_15 (by decide) ?_
      exact z_Ciret hx hb hr rfl hlk hS (⟨rfl, fun h => absurd h (by decide), fun _ => rfl⟩) (by decide) (by decide) d_LA_refund_16
    · refine z_catch (tgt := 17) (fun T hT0 hWT hpl => z_find (s0 := 0) (e0 := 10) (E := E_IAE) hpl hown (Nat.zero_le _) (Nat.le_of_ble_eq_true rfl) hT9 (hk k_92 rfl) [(13, 25, E_NSE)] _ 17 13 [(0, 10, 21, 27)] htab (by decide) (hk k_82 rfl) (List.forall_mem_cons.mpr ⟨⟨by decide, hk k_217 rfl, hG2.2 (E_IAE, E_NSE) (by decide +kernel)⟩, (fun q hq => nomatch hq)⟩) _ (by rw [Stand.throwing_vm]; exact hWT) (by rw [Stand.throwing_heap, hT0])) ?_
      refine lv_astore (lv' := [(4, .ref x9), (0, .ref x), (1, .int p0), (2, .int p1), (3, .ref ou)]) hx hb d_LA_refund_17 hl (by decide) rfl (fun ls hl => ?_)
      refine lv_iconst (v := 2) hx hb d_LA_refund_19 (by decide) ?_
      exact z_Ciret hx hb hr rfl hlk hS (⟨rfl, fun h => absurd h (by decide), fun _ => rfl⟩) (by decide) (by decide) d_LA_refund_20
    · refine z_catch (tgt := 21) (fun T hT0 hWT hpl => z_find (s0 := 0) (e0 := 10) (E := E_ISE) hpl hown (Nat.zero_le _) (Nat.le_of_ble_eq_true rfl) hT9 (hk k_245 rfl) [(13, 25, E_NSE), (17, 13, E_IAE)] _ 21 27 [] htab (by decide) (hk k_218 rfl) (List.forall_mem_cons.mpr ⟨⟨by decide, hk k_217 rfl, hG2.2 (E_ISE, E_NSE) (by decide +kernel)⟩, (List.forall_mem_cons.mpr ⟨⟨by decide, hk k_82 rfl, hG2.2 (E_ISE, E_IAE) (by decide +kernel)⟩, (fun q hq => nomatch hq)⟩)⟩) _ (by rw [Stand.throwing_vm]; exact hWT) (by rw [Stand.throwing_heap, hT0])) ?_
      refine lv_astore (lv' := [(4, .ref x9), (0, .ref x), (1, .int p0), (2, .int p1), (3, .ref ou)]) hx hb d_LA_refund_21 hl (by decide) rfl (fun ls hl => ?_)
      refine lv_iconst (v := 3) hx hb d_LA_refund_23 (by decide) ?_
      exact z_Ciret hx hb hr rfl hlk hS (⟨rfl, fun h => absurd h (by decide), fun _ => rfl⟩) (by decide) (by decide) d_LA_refund_24
set_option maxHeartbeats 4000000 in
set_option maxRecDepth 100000 in
theorem c_LA_due (l : Launch) (hl9 : l.stackTraces = false) {D : va_G} {cS cR cJ cI cZ : ClassId} {lo tP : Nat} (p0 : Int32) {x ou cd9 : Nat} {v9 : Int32} {f : Nat → Int64} {X : zM} {N : zM → Prop} {fs0 : List Value} (hx0 : X x = some (.inr (0, fs0))) (hou : X ou = some (.inl (cJ, 1, .inr (.inl f)))) (hcl : cd9 ≤ 1) (hC : z_C (z_G lo tP) D cls4 (zty cS cR cJ cI cZ) lo l y_RR_due w_RR_due zr1 [.ref x, .int p0] X (zT [E_NSE] cd9 (some (.int v9)) X N)) : z_C (zG2 lo tP) D cls4 (zty cS cR cJ cI cZ) lo l y_LA_due w_LA_due zr2 [.ref x, .int p0, .ref ou] X (zH cd9 X (zHo ou cJ f v9 X N)) := by
  refine z_ofWW (by decide) ?_
  intro p e s m args below meth c s₁ B hml htab hv
  obtain ⟨rfl, hG2, hK, hW0, hXl, hlo⟩ := hv
  have hG := hG2.1
  have hx := B.exec
  have hb := B.bytes
  have hr := B.returns
  have hlk := B.notSynchronized
  have hown : s.vm.findClass R_LA = some m.cls := findClass_of_methodNamed B.named
  have hk : ∀ {w9 : Cond}, w9 ∈ lw_tbl → z_ok w9 = true → w9.before ([.ref x, .int p0, .ref ou] : List Value).toArray s = true := fun h1 h2 => hG.w h1 h2 _
  have hS := z_S.start hW0 hXl hlo
  have hl := lv_entry ([.ref x, .int p0, .ref ou]) (n := 4) (Nat.le_of_ble_eq_true rfl)
  rw [lg_entry_eq]
  generalize (lg_sl ([.ref x, .int p0, .ref ou]) ++ List.replicate (4 - (lg_sl ([.ref x, .int p0, .ref ou])).length) Slot.unset).toArray = ls at hl ⊢
  have hl : lv_has ls 4 [(0, .ref x), (1, .int p0), (2, .ref ou)] := hl
  refine lv_aload_n hx hb d_LA_due_0 rfl (lv_at hl 2 rfl) ?_
  refine lv_iconst (v := 0) hx hb d_LA_due_1 (by decide) ?_
  refine lv_aload_n hx hb d_LA_due_2 rfl (lv_at hl 0 rfl) ?_
  refine lv_iload_n hx hb d_LA_due_3 rfl (lv_at hl 1 rfl) ?_
  refine z_hc (n_LA_RR_due hx hown hG (va_recv hK (hS.1.one hx0) (ci := 0) (q0 := 0) rfl rfl) (by rw [hb]; exact d_LA_due_4)) hb (hl.1.trans hml.symm) hC (z_Gkeeps lo tP) hG hK hS (cw_RR_due hG (by decide) (by decide)) d_LA_due_4 (Nat.le_of_ble_eq_true rfl) (by decide) (by decide) (fun hc0 H locs X1 hS hN1 hF1 => ?_) (fun hc0 x9 H locs hS hT9 => ?_)
  · refine lv_i2l (v := v9.toInt64) hx hb d_LA_due_7 rfl ?_
    refine z_last hx hb hK hS 2 (z_ou0 hF1 hou) rfl z_in01 d_LA_due_8 (fun H locs hS => ?_)
    refine lv_goto (tgt := 15) hx hb d_LA_due_9 (by decide) ?_
    refine lv_iconst (v := 0) hx hb d_LA_due_15 (by decide) ?_
    exact z_Ciret hx hb hr rfl hlk hS (⟨by rw [hc0]; rfl, fun _ => ⟨X1, hN1, hF1, rfl⟩, fun h => absurd hc0 h⟩) (by decide) (by decide) d_LA_due_16
  · have hc9 : cd9 = 1 := by omega
    rcases hc9 with rfl
    · refine z_catch (tgt := 12) (fun T hT0 hWT hpl => z_find (s0 := 0) (e0 := 9) (E := E_NSE) hpl hown (Nat.zero_le _) (Nat.le_of_ble_eq_true rfl) hT9 (hk k_229 rfl) [] _ 12 25 [] htab (by decide) (hk k_217 rfl) (fun q hq => nomatch hq) _ (by rw [Stand.throwing_vm]; exact hWT) (by rw [Stand.throwing_heap, hT0])) ?_
      refine lv_astore_n (lv' := [(3, .ref x9), (0, .ref x), (1, .int p0), (2, .ref ou)]) hx hb d_LA_due_12 rfl hl (by decide) rfl (fun ls hl => ?_)
      refine lv_iconst (v := 1) hx hb d_LA_due_13 (by decide) ?_
      exact z_Ciret hx hb hr rfl hlk hS (⟨rfl, fun h => absurd h (by decide), fun _ => rfl⟩) (by decide) (by decide) d_LA_due_14
set_option maxHeartbeats 4000000 in
set_option maxRecDepth 100000 in
theorem c_LA_reason (l : Launch) (hl9 : l.stackTraces = false) {D : va_G} {cS cR cJ cI cZ : ClassId} {lo tP : Nat} (p0 : Int32) (p1 : Int32) {x ou cd9 : Nat} {v9 : Int32} {f : Nat → Int64} {X : zM} {N : zM → Prop} {fs0 : List Value} (hx0 : X x = some (.inr (0, fs0))) (hou : X ou = some (.inl (cJ, 1, .inr (.inl f)))) (hcl : cd9 ≤ 1) (hC : z_C (z_G lo tP) D cls4 (zty cS cR cJ cI cZ) lo l y_RR_reason w_RR_reason zr1 [.ref x, .int p0, .int p1] X (zT [E_IAE] cd9 (some (.int v9)) X N)) : z_C (zG2 lo tP) D cls4 (zty cS cR cJ cI cZ) lo l y_LA_reason w_LA_reason zr2 [.ref x, .int p0, .int p1, .ref ou] X (zH cd9 X (zHo ou cJ f v9 X N)) := by
  refine z_ofWW (by decide) ?_
  intro p e s m args below meth c s₁ B hml htab hv
  obtain ⟨rfl, hG2, hK, hW0, hXl, hlo⟩ := hv
  have hG := hG2.1
  have hx := B.exec
  have hb := B.bytes
  have hr := B.returns
  have hlk := B.notSynchronized
  have hown : s.vm.findClass R_LA = some m.cls := findClass_of_methodNamed B.named
  have hk : ∀ {w9 : Cond}, w9 ∈ lw_tbl → z_ok w9 = true → w9.before ([.ref x, .int p0, .int p1, .ref ou] : List Value).toArray s = true := fun h1 h2 => hG.w h1 h2 _
  have hS := z_S.start hW0 hXl hlo
  have hl := lv_entry ([.ref x, .int p0, .int p1, .ref ou]) (n := 5) (Nat.le_of_ble_eq_true rfl)
  rw [lg_entry_eq]
  generalize (lg_sl ([.ref x, .int p0, .int p1, .ref ou]) ++ List.replicate (5 - (lg_sl ([.ref x, .int p0, .int p1, .ref ou])).length) Slot.unset).toArray = ls at hl ⊢
  have hl : lv_has ls 5 [(0, .ref x), (1, .int p0), (2, .int p1), (3, .ref ou)] := hl
  refine lv_aload_n hx hb d_LA_reason_0 rfl (lv_at hl 3 rfl) ?_
  refine lv_iconst (v := 0) hx hb d_LA_reason_1 (by decide) ?_
  refine lv_aload_n hx hb d_LA_reason_2 rfl (lv_at hl 0 rfl) ?_
  refine lv_iload_n hx hb d_LA_reason_3 rfl (lv_at hl 1 rfl) ?_
  refine lv_iload_n hx hb d_LA_reason_4 rfl (lv_at hl 2 rfl) ?_
  refine z_hc (n_LA_RR_reason hx hown hG (va_recv hK (hS.1.one hx0) (ci := 0) (q0 := 0) rfl rfl) (by rw [hb]; exact d_LA_reason_5)) hb (hl.1.trans hml.symm) hC (z_Gkeeps lo tP) hG hK hS (cw_RR_reason hG (by decide) (by decide)) d_LA_reason_5 (Nat.le_of_ble_eq_true rfl) (by decide) (by decide) (fun hc0 H locs X1 hS hN1 hF1 => ?_) (fun hc0 x9 H locs hS hT9 => ?_)
  · refine lv_i2l (v := v9.toInt64) hx hb d_LA_reason_8 rfl ?_
    refine z_last hx hb hK hS 2 (z_ou0 hF1 hou) rfl z_in01 d_LA_reason_9 (fun H locs hS => ?_)
    refine lv_goto (tgt := 17) hx hb d_LA_reason_10 (by decide) ?_
    refine lv_iconst (v := 0) hx hb d_LA_reason_17 (by decide) ?_
    exact z_Ciret hx hb hr rfl hlk hS (⟨by rw [hc0]; rfl, fun _ => ⟨X1, hN1, hF1, rfl⟩, fun h => absurd hc0 h⟩) (by decide) (by decide) d_LA_reason_18
  · have hc9 : cd9 = 1 := by omega
    rcases hc9 with rfl
    · refine z_catch (tgt := 13) (fun T hT0 hWT hpl => z_find (s0 := 0) (e0 := 10) (E := E_IAE) hpl hown (Nat.zero_le _) (Nat.le_of_ble_eq_true rfl) hT9 (hk k_92 rfl) [] _ 13 13 [] htab (by decide) (hk k_82 rfl) (fun q hq => nomatch hq) _ (by rw [Stand.throwing_vm]; exact hWT) (by rw [Stand.throwing_heap, hT0])) ?_
      refine lv_astore (lv' := [(4, .ref x9), (0, .ref x), (1, .int p0), (2, .int p1), (3, .ref ou)]) hx hb d_LA_reason_13 hl (by decide) rfl (fun ls hl => ?_)
      refine lv_iconst (v := 1) hx hb d_LA_reason_15 (by decide) ?_
      exact z_Ciret hx hb hr rfl hlk hS (⟨rfl, fun h => absurd h (by decide), fun _ => rfl⟩) (by decide) (by decide) d_LA_reason_16
set_option maxHeartbeats 4000000 in
set_option maxRecDepth 100000 in
theorem c_LA_customer (l : Launch) (hl9 : l.stackTraces = false) {D : va_G} {cS cR cJ cI cZ : ClassId} {lo tP : Nat} (p0 : Int32) (p1 : Int32) {x ou cd9 : Nat} {v9 : Int32} {f : Nat → Int64} {X : zM} {N : zM → Prop} {fs0 : List Value} (hx0 : X x = some (.inr (0, fs0))) (hou : X ou = some (.inl (cJ, 1, .inr (.inl f)))) (hcl : cd9 ≤ 1) (hC : z_C (z_G lo tP) D cls4 (zty cS cR cJ cI cZ) lo l y_RR_customer w_RR_customer zr1 [.ref x, .int p0, .int p1] X (zT [E_IAE] cd9 (some (.int v9)) X N)) : z_C (zG2 lo tP) D cls4 (zty cS cR cJ cI cZ) lo l y_LA_customer w_LA_customer zr2 [.ref x, .int p0, .int p1, .ref ou] X (zH cd9 X (zHo ou cJ f v9 X N)) := by
  refine z_ofWW (by decide) ?_
  intro p e s m args below meth c s₁ B hml htab hv
  obtain ⟨rfl, hG2, hK, hW0, hXl, hlo⟩ := hv
  have hG := hG2.1
  have hx := B.exec
  have hb := B.bytes
  have hr := B.returns
  have hlk := B.notSynchronized
  have hown : s.vm.findClass R_LA = some m.cls := findClass_of_methodNamed B.named
  have hk : ∀ {w9 : Cond}, w9 ∈ lw_tbl → z_ok w9 = true → w9.before ([.ref x, .int p0, .int p1, .ref ou] : List Value).toArray s = true := fun h1 h2 => hG.w h1 h2 _
  have hS := z_S.start hW0 hXl hlo
  have hl := lv_entry ([.ref x, .int p0, .int p1, .ref ou]) (n := 5) (Nat.le_of_ble_eq_true rfl)
  rw [lg_entry_eq]
  generalize (lg_sl ([.ref x, .int p0, .int p1, .ref ou]) ++ List.replicate (5 - (lg_sl ([.ref x, .int p0, .int p1, .ref ou])).length) Slot.unset).toArray = ls at hl ⊢
  have hl : lv_has ls 5 [(0, .ref x), (1, .int p0), (2, .int p1), (3, .ref ou)] := hl
  refine lv_aload_n hx hb d_LA_customer_0 rfl (lv_at hl 3 rfl) ?_
  refine lv_iconst (v := 0) hx hb d_LA_customer_1 (by decide) ?_
  refine lv_aload_n hx hb d_LA_customer_2 rfl (lv_at hl 0 rfl) ?_
  refine lv_iload_n hx hb d_LA_customer_3 rfl (lv_at hl 1 rfl) ?_
  refine lv_iload_n hx hb d_LA_customer_4 rfl (lv_at hl 2 rfl) ?_
  refine z_hc (n_LA_RR_customer hx hown hG (va_recv hK (hS.1.one hx0) (ci := 0) (q0 := 0) rfl rfl) (by rw [hb]; exact d_LA_customer_5)) hb (hl.1.trans hml.symm) hC (z_Gkeeps lo tP) hG hK hS (cw_RR_customer hG (by decide) (by decide)) d_LA_customer_5 (Nat.le_of_ble_eq_true rfl) (by decide) (by decide) (fun hc0 H locs X1 hS hN1 hF1 => ?_) (fun hc0 x9 H locs hS hT9 => ?_)
  · refine lv_i2l (v := v9.toInt64) hx hb d_LA_customer_8 rfl ?_
    refine z_last hx hb hK hS 2 (z_ou0 hF1 hou) rfl z_in01 d_LA_customer_9 (fun H locs hS => ?_)
    refine lv_goto (tgt := 17) hx hb d_LA_customer_10 (by decide) ?_
    refine lv_iconst (v := 0) hx hb d_LA_customer_17 (by decide) ?_
    exact z_Ciret hx hb hr rfl hlk hS (⟨by rw [hc0]; rfl, fun _ => ⟨X1, hN1, hF1, rfl⟩, fun h => absurd hc0 h⟩) (by decide) (by decide) d_LA_customer_18
  · have hc9 : cd9 = 1 := by omega
    rcases hc9 with rfl
    · refine z_catch (tgt := 13) (fun T hT0 hWT hpl => z_find (s0 := 0) (e0 := 10) (E := E_IAE) hpl hown (Nat.zero_le _) (Nat.le_of_ble_eq_true rfl) hT9 (hk k_92 rfl) [] _ 13 13 [] htab (by decide) (hk k_82 rfl) (fun q hq => nomatch hq) _ (by rw [Stand.throwing_vm]; exact hWT) (by rw [Stand.throwing_heap, hT0])) ?_
      refine lv_astore (lv' := [(4, .ref x9), (0, .ref x), (1, .int p0), (2, .int p1), (3, .ref ou)]) hx hb d_LA_customer_13 hl (by decide) rfl (fun ls hl => ?_)
      refine lv_iconst (v := 1) hx hb d_LA_customer_15 (by decide) ?_
      exact z_Ciret hx hb hr rfl hlk hS (⟨rfl, fun h => absurd h (by decide), fun _ => rfl⟩) (by decide) (by decide) d_LA_customer_16
set_option maxHeartbeats 4000000 in
set_option maxRecDepth 100000 in
theorem c_LA_told (l : Launch) (hl9 : l.stackTraces = false) {D : va_G} {cS cR cJ cI cZ : ClassId} {lo tP : Nat} (p0 : Int32) (p1 : Int32) {x ou cd9 : Nat} {v9 : Int32} {f : Nat → Int64} {X : zM} {N : zM → Prop} {fs0 : List Value} (hx0 : X x = some (.inr (0, fs0))) (hou : X ou = some (.inl (cJ, 1, .inr (.inl f)))) (hcl : cd9 ≤ 2) (hC : z_C (z_G lo tP) D cls4 (zty cS cR cJ cI cZ) lo l y_RR_told w_RR_told zr1 [.ref x, .int p0, .int p1] X (zT [E_NSE, E_IAE] cd9 (some (.int v9)) X N)) : z_C (zG2 lo tP) D cls4 (zty cS cR cJ cI cZ) lo l y_LA_told w_LA_told zr2 [.ref x, .int p0, .int p1, .ref ou] X (zH cd9 X (zHo ou cJ f v9 X N)) := by
  refine z_ofWW (by decide) ?_
  intro p e s m args below meth c s₁ B hml htab hv
  obtain ⟨rfl, hG2, hK, hW0, hXl, hlo⟩ := hv
  have hG := hG2.1
  have hx := B.exec
  have hb := B.bytes
  have hr := B.returns
  have hlk := B.notSynchronized
  have hown : s.vm.findClass R_LA = some m.cls := findClass_of_methodNamed B.named
  have hk : ∀ {w9 : Cond}, w9 ∈ lw_tbl → z_ok w9 = true → w9.before ([.ref x, .int p0, .int p1, .ref ou] : List Value).toArray s = true := fun h1 h2 => hG.w h1 h2 _
  have hS := z_S.start hW0 hXl hlo
  have hl := lv_entry ([.ref x, .int p0, .int p1, .ref ou]) (n := 5) (Nat.le_of_ble_eq_true rfl)
  rw [lg_entry_eq]
  generalize (lg_sl ([.ref x, .int p0, .int p1, .ref ou]) ++ List.replicate (5 - (lg_sl ([.ref x, .int p0, .int p1, .ref ou])).length) Slot.unset).toArray = ls at hl ⊢
  have hl : lv_has ls 5 [(0, .ref x), (1, .int p0), (2, .int p1), (3, .ref ou)] := hl
  refine lv_aload_n hx hb d_LA_told_0 rfl (lv_at hl 3 rfl) ?_
  refine lv_iconst (v := 0) hx hb d_LA_told_1 (by decide) ?_
  refine lv_aload_n hx hb d_LA_told_2 rfl (lv_at hl 0 rfl) ?_
  refine lv_iload_n hx hb d_LA_told_3 rfl (lv_at hl 1 rfl) ?_
  refine lv_iload_n hx hb d_LA_told_4 rfl (lv_at hl 2 rfl) ?_
  refine z_hc (n_LA_RR_told hx hown hG (va_recv hK (hS.1.one hx0) (ci := 0) (q0 := 0) rfl rfl) (by rw [hb]; exact d_LA_told_5)) hb (hl.1.trans hml.symm) hC (z_Gkeeps lo tP) hG hK hS (cw_RR_told hG (by decide) (by decide)) d_LA_told_5 (Nat.le_of_ble_eq_true rfl) (by decide) (by decide) (fun hc0 H locs X1 hS hN1 hF1 => ?_) (fun hc0 x9 H locs hS hT9 => ?_)
  · refine lv_i2l (v := v9.toInt64) hx hb d_LA_told_8 rfl ?_
    refine z_last hx hb hK hS 2 (z_ou0 hF1 hou) rfl z_in01 d_LA_told_9 (fun H locs hS => ?_)
    refine lv_goto (tgt := 21) hx hb d_LA_told_10 (by decide) ?_
    refine lv_iconst (v := 0) hx hb d_LA_told_21 (by decide) ?_
    exact z_Ciret hx hb hr rfl hlk hS (⟨by rw [hc0]; rfl, fun _ => ⟨X1, hN1, hF1, rfl⟩, fun h => absurd hc0 h⟩) (by decide) (by decide) d_LA_told_22
  · have hc9 : cd9 = 1 ∨ cd9 = 2 := by omega
    rcases hc9 with rfl | rfl
    · refine z_catch (tgt := 13) (fun T hT0 hWT hpl => z_find (s0 := 0) (e0 := 10) (E := E_NSE) hpl hown (Nat.zero_le _) (Nat.le_of_ble_eq_true rfl) hT9 (hk k_229 rfl) [] _ 13 25 [(0, 10, 17, 13)] htab (by decide) (hk k_217 rfl) (fun q hq => nomatch hq) _ (by rw [Stand.throwing_vm]; exact hWT) (by rw [Stand.throwing_heap, hT0])) ?_
      refine lv_astore (lv' := [(4, .ref x9), (0, .ref x), (1, .int p0), (2, .int p1), (3, .ref ou)]) hx hb d_LA_told_13 hl (by decide) rfl (fun ls hl => ?_)
      refine lv_iconst (v := 1) hx hb d_LA_told_15 (by decide) ?_
      exact z_Ciret hx hb hr rfl hlk hS (⟨rfl, fun h => absurd h (by decide), fun _ => rfl⟩) (by decide) (by decide) d_LA_told_16
    · refine z_catch (tgt := 17) (fun T hT0 hWT hpl => z_find (s0 := 0) (e0 := 10) (E := E_IAE) hpl hown (Nat.zero_le _) (Nat.le_of_ble_eq_true rfl) hT9 (hk k_92 rfl) [(13, 25, E_NSE)] _ 17 13 [] htab (by decide) (hk k_82 rfl) (List.forall_mem_cons.mpr ⟨⟨by decide, hk k_217 rfl, hG2.2 (E_IAE, E_NSE) (by decide +kernel)⟩, (fun q hq => nomatch hq)⟩) _ (by rw [Stand.throwing_vm]; exact hWT) (by rw [Stand.throwing_heap, hT0])) ?_
      refine lv_astore (lv' := [(4, .ref x9), (0, .ref x), (1, .int p0), (2, .int p1), (3, .ref ou)]) hx hb d_LA_told_17 hl (by decide) rfl (fun ls hl => ?_)
      refine lv_iconst (v := 2) hx hb d_LA_told_19 (by decide) ?_
      exact z_Ciret hx hb hr rfl hlk hS (⟨rfl, fun h => absurd h (by decide), fun _ => rfl⟩) (by decide) (by decide) d_LA_told_20
