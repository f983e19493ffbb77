/-! ===== the class: what is only asked ===== -/
set_option maxHeartbeats 4000000 in
set_option maxRecDepth 100000 in
theorem c_RR_requireWithin (l : Launch) (hl9 : l.stackTraces = false) {D : va_G} {tys : List (ClassId × FieldType)} {lo tP : Nat} (v a b : Int32) {X : zM} : z_P (z_G lo tP) D cls4 tys lo l y_RR_requireWithin w_RR_requireWithin zr0 [.int v, .int a, .int b] X (if z_rg v a b then .inl none else .inr E_IAE) := by
  refine z_ofW (by decide) ?_
  intro p e s m args below meth c s₁ B hml hout hv
  obtain ⟨rfl, hG, hK, hW0, hXl, hlo⟩ := hv
  have hx := B.exec
  have hb := B.bytes
  have hr := B.returns
  have hlk := B.notSynchronized
  have hown : s.vm.findClass R_RR = some m.cls := findClass_of_methodNamed B.named
  have hts : ∀ w9 ∈ z_tb, w9.before ([.int v, .int a, .int b] : List Value).toArray s = true := hG.ts _
  have hk : ∀ {w9 : Cond}, w9 ∈ lw_tbl → z_ok w9 = true → w9.before ([.int v, .int a, .int b] : List Value).toArray s = true := fun h1 h2 => hG.w h1 h2 _
  have hg : z_Gr s.heap s.heap := z_Gr.rf
  have hS := z_S.start hW0 hXl hlo
  have hl := lv_entry ([.int v, .int a, .int b]) (n := 3) (Nat.le_of_ble_eq_true rfl)
  rw [lg_entry_eq]
  generalize (lg_sl ([.int v, .int a, .int b]) ++ List.replicate (3 - (lg_sl ([.int v, .int a, .int b])).length) Slot.unset).toArray = ls at hl ⊢
  have hl : lv_has ls 3 [(0, .int v), (1, .int a), (2, .int b)] := hl
  refine lv_iload_n hx hb d_RR_requireWithin_0 rfl (lv_at hl 0 rfl) ?_
  refine lv_iload_n hx hb d_RR_requireWithin_1 rfl (lv_at hl 1 rfl) ?_
  refine lv_icmp_lt (tgt := 10) hx hb d_RR_requireWithin_2 (by decide) (fun c_1 => ?_) (fun c_1 => ?_)
  · exact th_IAE hx hb hl9 hown hG (hl.1.trans hml.symm) hout hlk (is := 199) (text := "a number is outside its range") (by decide +kernel) d_RR_requireWithin_10 d_RR_requireWithin_13 d_RR_requireWithin_14 d_RR_requireWithin_16 d_RR_requireWithin_19 (z_teP (by simp [z_rg, c_1])) (by decide) (Nat.le_of_ble_eq_true rfl) (by decide) (by decide) (by decide) (by decide)
  · refine lv_iload_n hx hb d_RR_requireWithin_5 rfl (lv_at hl 0 rfl) ?_
    refine lv_iload_n hx hb d_RR_requireWithin_6 rfl (lv_at hl 2 rfl) ?_
    refine lv_icmp_le (tgt := 20) hx hb d_RR_requireWithin_7 (by decide) (fun c_2 => ?_) (fun c_2 => ?_)
    · exact z_Pvret hx hb hr hlk hg (by simp [z_rg, c_1, c_2]) (by decide) (by decide) d_RR_requireWithin_20
    · exact th_IAE hx hb hl9 hown hG (hl.1.trans hml.symm) hout hlk (is := 199) (text := "a number is outside its range") (by decide +kernel) d_RR_requireWithin_10 d_RR_requireWithin_13 d_RR_requireWithin_14 d_RR_requireWithin_16 d_RR_requireWithin_19 (z_teP (by simp [z_rg, c_1, c_2])) (by decide) (Nat.le_of_ble_eq_true rfl) (by decide) (by decide) (by decide) (by decide)
set_option maxHeartbeats 4000000 in
set_option maxRecDepth 100000 in
theorem c_RR_requireHere (l : Launch) (hl9 : l.stackTraces = false) {D : va_G} {tys : List (ClassId × FieldType)} {lo tP : Nat} (row a : Nat) (f : Nat → Int32) {X : zM} (hrow : X row = some (.inr (2, rowR a f))) : z_P (z_G lo tP) D cls4 tys lo l y_RR_requireHere w_RR_requireHere zr0 [.ref row] X (if f 3 = 2 then .inl none else .inr E_ISE) := by
  refine z_ofW (by decide) ?_
  intro p e s m args below meth c s₁ B hml hout hv
  obtain ⟨rfl, hG, hK, hW0, hXl, hlo⟩ := hv
  have hx := B.exec
  have hb := B.bytes
  have hr := B.returns
  have hlk := B.notSynchronized
  have hown : s.vm.findClass R_RR = some m.cls := findClass_of_methodNamed B.named
  have hts : ∀ w9 ∈ z_tb, w9.before ([.ref row] : List Value).toArray s = true := hG.ts _
  have hk : ∀ {w9 : Cond}, w9 ∈ lw_tbl → z_ok w9 = true → w9.before ([.ref row] : List Value).toArray s = true := fun h1 h2 => hG.w h1 h2 _
  have hg : z_Gr s.heap s.heap := z_Gr.rf
  have hS := z_S.start hW0 hXl hlo
  have hl := lv_entry ([.ref row]) (n := 1) (Nat.le_of_ble_eq_true rfl)
  rw [lg_entry_eq]
  generalize (lg_sl ([.ref row]) ++ List.replicate (1 - (lg_sl ([.ref row])).length) Slot.unset).toArray = ls at hl ⊢
  have hl : lv_has ls 1 [(0, .ref row)] := hl
  refine lv_aload_n hx hb d_RR_requireHere_0 rfl (lv_at hl 0 rfl) ?_
  refine z_get (ci := 2) (C := R_RE) (T := F_RE) (N := 15) hx hb hts j_RE hown hK hS hrow rfl 3 (by decide) (hk k_272 rfl) (fun _ h9 => h9) rfl d_RR_requireHere_1 ?_
  refine lv_iconst (v := 2) hx hb d_RR_requireHere_4 (by decide) ?_
  refine lv_icmp_eq (tgt := 18) hx hb d_RR_requireHere_5 (by decide) (fun c_1 => ?_) (fun c_1 => ?_)
  · exact z_Pvret hx hb hr hlk hg (by simp [c_1]) (by decide) (by decide) d_RR_requireHere_18
  · exact th_ISE hx hb hl9 hown hG (hl.1.trans hml.symm) hout hlk (is := 201) (text := "the return is not here") (by decide +kernel) d_RR_requireHere_8 d_RR_requireHere_11 d_RR_requireHere_12 d_RR_requireHere_14 d_RR_requireHere_17 (z_teP (by simp [c_1])) (by decide) (Nat.le_of_ble_eq_true rfl) (by decide) (by decide) (by decide) (by decide)
set_option maxHeartbeats 4000000 in
set_option maxRecDepth 100000 in
theorem c_RR_requireGraded (l : Launch) (hl9 : l.stackTraces = false) {D : va_G} {tys : List (ClassId × FieldType)} {lo tP : Nat} (row a : Nat) (f : Nat → Int32) {X : zM} (hrow : X row = some (.inr (2, rowR a f))) : z_P (z_G lo tP) D cls4 tys lo l y_RR_requireGraded w_RR_requireGraded zr0 [.ref row] X (if f 3 = 3 then .inl none else .inr E_ISE) := by
  refine z_ofW (by decide) ?_
  intro p e s m args below meth c s₁ B hml hout hv
  obtain ⟨rfl, hG, hK, hW0, hXl, hlo⟩ := hv
  have hx := B.exec
  have hb := B.bytes
  have hr := B.returns
  have hlk := B.notSynchronized
  have hown : s.vm.findClass R_RR = some m.cls := findClass_of_methodNamed B.named
  have hts : ∀ w9 ∈ z_tb, w9.before ([.ref row] : List Value).toArray s = true := hG.ts _
  have hk : ∀ {w9 : Cond}, w9 ∈ lw_tbl → z_ok w9 = true → w9.before ([.ref row] : List Value).toArray s = true := fun h1 h2 => hG.w h1 h2 _
  have hg : z_Gr s.heap s.heap := z_Gr.rf
  have hS := z_S.start hW0 hXl hlo
  have hl := lv_entry ([.ref row]) (n := 1) (Nat.le_of_ble_eq_true rfl)
  rw [lg_entry_eq]
  generalize (lg_sl ([.ref row]) ++ List.replicate (1 - (lg_sl ([.ref row])).length) Slot.unset).toArray = ls at hl ⊢
  have hl : lv_has ls 1 [(0, .ref row)] := hl
  refine lv_aload_n hx hb d_RR_requireGraded_0 rfl (lv_at hl 0 rfl) ?_
  refine z_get (ci := 2) (C := R_RE) (T := F_RE) (N := 15) hx hb hts j_RE hown hK hS hrow rfl 3 (by decide) (hk k_272 rfl) (fun _ h9 => h9) rfl d_RR_requireGraded_1 ?_
  refine lv_iconst (v := 3) hx hb d_RR_requireGraded_4 (by decide) ?_
  refine lv_icmp_eq (tgt := 18) hx hb d_RR_requireGraded_5 (by decide) (fun c_1 => ?_) (fun c_1 => ?_)
  · exact z_Pvret hx hb hr hlk hg (by simp [c_1]) (by decide) (by decide) d_RR_requireGraded_18
  · exact th_ISE hx hb hl9 hown hG (hl.1.trans hml.symm) hout hlk (is := 203) (text := "the return is not graded") (by decide +kernel) d_RR_requireGraded_8 d_RR_requireGraded_11 d_RR_requireGraded_12 d_RR_requireGraded_14 d_RR_requireGraded_17 (z_teP (by simp [c_1])) (by decide) (Nat.le_of_ble_eq_true rfl) (by decide) (by decide) (by decide) (by decide)
set_option maxHeartbeats 4000000 in
set_option maxRecDepth 100000 in
theorem c_RR_requireHereOrGraded (l : Launch) (hl9 : l.stackTraces = false) {D : va_G} {tys : List (ClassId × FieldType)} {lo tP : Nat} (row a : Nat) (f : Nat → Int32) {X : zM} (hrow : X row = some (.inr (2, rowR a f))) : z_P (z_G lo tP) D cls4 tys lo l y_RR_requireHereOrGraded w_RR_requireHereOrGraded zr0 [.ref row] X (if f 3 = 2 ∨ f 3 = 3 then .inl none else .inr E_ISE) := by
  refine z_ofW (by decide) ?_
  intro p e s m args below meth c s₁ B hml hout hv
  obtain ⟨rfl, hG, hK, hW0, hXl, hlo⟩ := hv
  have hx := B.exec
  have hb := B.bytes
  have hr := B.returns
  have hlk := B.notSynchronized
  have hown : s.vm.findClass R_RR = some m.cls := findClass_of_methodNamed B.named
  have hts : ∀ w9 ∈ z_tb, w9.before ([.ref row] : List Value).toArray s = true := hG.ts _
  have hk : ∀ {w9 : Cond}, w9 ∈ lw_tbl → z_ok w9 = true → w9.before ([.ref row] : List Value).toArray s = true := fun h1 h2 => hG.w h1 h2 _
  have hg : z_Gr s.heap s.heap := z_Gr.rf
  have hS := z_S.start hW0 hXl hlo
  have hl := lv_entry ([.ref row]) (n := 1) (Nat.le_of_ble_eq_true rfl)
  rw [lg_entry_eq]
  generalize (lg_sl ([.ref row]) ++ List.replicate (1 - (lg_sl ([.ref row])).length) Slot.unset).toArray = ls at hl ⊢
  have hl : lv_has ls 1 [(0, .ref row)] := hl
  refine lv_aload_n hx hb d_RR_requireHereOrGraded_0 rfl (lv_at hl 0 rfl) ?_
  refine z_get (ci := 2) (C := R_RE) (T := F_RE) (N := 15) hx hb hts j_RE hown hK hS hrow rfl 3 (by decide) (hk k_272 rfl) (fun _ h9 => h9) rfl d_RR_requireHereOrGraded_1 ?_
  refine lv_iconst (v := 2) hx hb d_RR_requireHereOrGraded_4 (by decide) ?_
  refine lv_icmp_eq (tgt := 26) hx hb d_RR_requireHereOrGraded_5 (by decide) (fun c_1 => ?_) (fun c_1 => ?_)
  · exact z_Pvret hx hb hr hlk hg (by simp [c_1]) (by decide) (by decide) d_RR_requireHereOrGraded_26
  · refine lv_aload_n hx hb d_RR_requireHereOrGraded_8 rfl (lv_at hl 0 rfl) ?_
    refine z_get (ci := 2) (C := R_RE) (T := F_RE) (N := 15) hx hb hts j_RE hown hK hS hrow rfl 3 (by decide) (hk k_272 rfl) (fun _ h9 => h9) rfl d_RR_requireHereOrGraded_9 ?_
    refine lv_iconst (v := 3) hx hb d_RR_requireHereOrGraded_12 (by decide) ?_
    refine lv_icmp_eq (tgt := 26) hx hb d_RR_requireHereOrGraded_13 (by decide) (fun c_2 => ?_) (fun c_2 => ?_)
    · exact z_Pvret hx hb hr hlk hg (by simp [c_1, c_2]) (by decide) (by decide) d_RR_requireHereOrGraded_26
    · exact th_ISE hx hb hl9 hown hG (hl.1.trans hml.symm) hout hlk (is := 205) (text := "the return is neither here nor graded") (by decide +kernel) d_RR_requireHereOrGraded_16 d_RR_requireHereOrGraded_19 d_RR_requireHereOrGraded_20 d_RR_requireHereOrGraded_22 d_RR_requireHereOrGraded_25 (z_teP (by simp [c_1, c_2])) (by decide) (Nat.le_of_ble_eq_true rfl) (by decide) (by decide) (by decide) (by decide)
set_option maxHeartbeats 4000000 in
set_option maxRecDepth 100000 in
theorem c_RR_requireNoQuarantine (l : Launch) (hl9 : l.stackTraces = false) {D : va_G} {tys : List (ClassId × FieldType)} {lo tP : Nat} (row a : Nat) (f : Nat → Int32) {X : zM} (hrow : X row = some (.inr (2, rowR a f))) : z_P (z_G lo tP) D cls4 tys lo l y_RR_requireNoQuarantine w_RR_requireNoQuarantine zr0 [.ref row] X (if f 5 = 0 then .inl none else .inr E_ISE) := by
  refine z_ofW (by decide) ?_
  intro p e s m args below meth c s₁ B hml hout hv
  obtain ⟨rfl, hG, hK, hW0, hXl, hlo⟩ := hv
  have hx := B.exec
  have hb := B.bytes
  have hr := B.returns
  have hlk := B.notSynchronized
  have hown : s.vm.findClass R_RR = some m.cls := findClass_of_methodNamed B.named
  have hts : ∀ w9 ∈ z_tb, w9.before ([.ref row] : List Value).toArray s = true := hG.ts _
  have hk : ∀ {w9 : Cond}, w9 ∈ lw_tbl → z_ok w9 = true → w9.before ([.ref row] : List Value).toArray s = true := fun h1 h2 => hG.w h1 h2 _
  have hg : z_Gr s.heap s.heap := z_Gr.rf
  have hS := z_S.start hW0 hXl hlo
  have hl := lv_entry ([.ref row]) (n := 1) (Nat.le_of_ble_eq_true rfl)
  rw [lg_entry_eq]
  generalize (lg_sl ([.ref row]) ++ List.replicate (1 - (lg_sl ([.ref row])).length) Slot.unset).toArray = ls at hl ⊢
  have hl : lv_has ls 1 [(0, .ref row)] := hl
  refine lv_aload_n hx hb d_RR_requireNoQuarantine_0 rfl (lv_at hl 0 rfl) ?_
  refine z_get (ci := 2) (C := R_RE) (T := F_RE) (N := 15) hx hb hts j_RE hown hK hS hrow rfl 5 (by decide) (hk k_276 rfl) (fun _ h9 => h9) rfl d_RR_requireNoQuarantine_1 ?_
  refine lv_if_eq (tgt := 17) hx hb d_RR_requireNoQuarantine_4 (by decide) (fun c_1 => ?_) (fun c_1 => ?_)
  · exact z_Pvret hx hb hr hlk hg (by simp [c_1]) (by decide) (by decide) d_RR_requireNoQuarantine_17
  · exact th_ISE hx hb hl9 hown hG (hl.1.trans hml.symm) hout hlk (is := 207) (text := "the return is quarantined") (by decide +kernel) d_RR_requireNoQuarantine_7 d_RR_requireNoQuarantine_10 d_RR_requireNoQuarantine_11 d_RR_requireNoQuarantine_13 d_RR_requireNoQuarantine_16 (z_teP (by simp [c_1])) (by decide) (Nat.le_of_ble_eq_true rfl) (by decide) (by decide) (by decide) (by decide)
