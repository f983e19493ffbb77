/-! ===== the rows themselves ===== -/
set_option maxHeartbeats 4000000 in
set_option maxRecDepth 100000 in
theorem c_SA_init (l : Launch) (hl9 : l.stackTraces = false) {D : va_G} {tys : List (ClassId × FieldType)} {lo tP : Nat} (q : Nat) (v1 v2 v3 v4 v5 : Int32) {X : zM} (hq : X q = some (.inr (1, [.int 0, .int 0, .int 0, .int 0, .int 0, .int 0]))) : z_C (z_G lo tP) D cls4 tys lo l y_SA_init w_SA_init zrA [.ref q, .int v1, .int v2, .int v3, .int v4, .int v5] X (fun r X9 => r = .inl none ∧ X9 = z_up X q (.inr (1, [.int v1, .int v2, .int v3, .int v4, .int v5, .int 0]))) := by
  refine z_ofW (by decide) ?_
  intro p e s m args below meth c s₁ B hml hout hv
  obtain ⟨rfl, hG, hK, hW0, hXl, hlo⟩ := hv
  have hx := B.exec
  have hb := B.bytes
  have hr := B.returns
  have hlk := B.notSynchronized
  have hown : s.vm.findClass R_SA = some m.cls := findClass_of_methodNamed B.named
  have hts : ∀ w9 ∈ z_tb, w9.before ([.ref q, .int v1, .int v2, .int v3, .int v4, .int v5] : List Value).toArray s = true := hG.ts _
  have hk : ∀ {w9 : Cond}, w9 ∈ lw_tbl → z_ok w9 = true → w9.before ([.ref q, .int v1, .int v2, .int v3, .int v4, .int v5] : List Value).toArray s = true := fun h1 h2 => hG.w h1 h2 _
  have hg : z_Gr s.heap s.heap := z_Gr.rf
  have hS := z_S.start hW0 hXl hlo
  have hl := lv_entry ([.ref q, .int v1, .int v2, .int v3, .int v4, .int v5]) (n := 6) (Nat.le_of_ble_eq_true rfl)
  rw [lg_entry_eq]
  generalize (lg_sl ([.ref q, .int v1, .int v2, .int v3, .int v4, .int v5]) ++ List.replicate (6 - (lg_sl ([.ref q, .int v1, .int v2, .int v3, .int v4, .int v5])).length) Slot.unset).toArray = ls at hl ⊢
  have hl : lv_has ls 6 [(0, .ref q), (1, .int v1), (2, .int v2), (3, .int v3), (4, .int v4), (5, .int v5)] := hl
  have hin : meth.name = "<init>" := (name_of_methodNamed B.named B.method).1
  refine lv_aload_n hx hb d_SA_init_0 rfl (lv_at hl 0 rfl) ?_
  refine W.objInit hx hb hown (hk k_188 rfl) (hk k_37 rfl) (hk k_38 rfl) rfl (by rw [hml]; exact hl.1) rfl d_SA_init_1 (by decide) (Nat.le_of_ble_eq_true rfl) ?_
  refine W.eq (g2 := F0 m 4 ls []) rfl ?_
  refine lv_aload_n hx hb d_SA_init_4 rfl (lv_at hl 0 rfl) ?_
  refine lv_iload_n hx hb d_SA_init_5 rfl (lv_at hl 1 rfl) ?_
  refine z_putF (ci := 1) (C := R_SA) (T := F_SA) (N := 6) (ty := .int) (fs' := [.int v1, .int 0, .int 0, .int 0, .int 0, .int 0]) hx hb hts j_SA t_SA t_SA_ok n_SA hown hK hS hq rfl 0 (by decide) (hk k_189 rfl) (fun _ h9 => h9) rfl hin rfl (by decide +kernel) rfl rfl (Nat.le_of_ble_eq_true rfl) d_SA_init_6 rfl (fun H locs hS => ?_)
  have e_1 : (z_up X q (.inr (1, [.int v1, .int 0, .int 0, .int 0, .int 0, .int 0]))) q = some (.inr (1, [.int v1, .int 0, .int 0, .int 0, .int 0, .int 0])) := z_eq _ _ _
  refine lv_aload_n hx hb d_SA_init_9 rfl (lv_at hl 0 rfl) ?_
  refine lv_iload_n hx hb d_SA_init_10 rfl (lv_at hl 2 rfl) ?_
  refine z_putF (ci := 1) (C := R_SA) (T := F_SA) (N := 6) (ty := .int) (fs' := [.int v1, .int v2, .int 0, .int 0, .int 0, .int 0]) hx hb hts j_SA t_SA t_SA_ok n_SA hown hK hS e_1 rfl 1 (by decide) (hk k_191 rfl) (fun _ h9 => h9) rfl hin rfl (by decide +kernel) rfl rfl (Nat.le_of_ble_eq_true rfl) d_SA_init_11 rfl (fun H locs hS => ?_)
  have e_2 : (z_up (z_up X q (.inr (1, [.int v1, .int 0, .int 0, .int 0, .int 0, .int 0]))) q (.inr (1, [.int v1, .int v2, .int 0, .int 0, .int 0, .int 0]))) q = some (.inr (1, [.int v1, .int v2, .int 0, .int 0, .int 0, .int 0])) := z_eq _ _ _
  refine lv_aload_n hx hb d_SA_init_14 rfl (lv_at hl 0 rfl) ?_
  refine lv_iload_n hx hb d_SA_init_15 rfl (lv_at hl 3 rfl) ?_
  refine z_putF (ci := 1) (C := R_SA) (T := F_SA) (N := 6) (ty := .int) (fs' := [.int v1, .int v2, .int v3, .int 0, .int 0, .int 0]) hx hb hts j_SA t_SA t_SA_ok n_SA hown hK hS e_2 rfl 2 (by decide) (hk k_194 rfl) (fun _ h9 => h9) rfl hin rfl (by decide +kernel) rfl rfl (Nat.le_of_ble_eq_true rfl) d_SA_init_16 rfl (fun H locs hS => ?_)
  have e_3 : (z_up (z_up (z_up X q (.inr (1, [.int v1, .int 0, .int 0, .int 0, .int 0, .int 0]))) q (.inr (1, [.int v1, .int v2, .int 0, .int 0, .int 0, .int 0]))) q (.inr (1, [.int v1, .int v2, .int v3, .int 0, .int 0, .int 0]))) q = some (.inr (1, [.int v1, .int v2, .int v3, .int 0, .int 0, .int 0])) := z_eq _ _ _
  refine lv_aload_n hx hb d_SA_init_19 rfl (lv_at hl 0 rfl) ?_
  refine lv_iload hx hb d_SA_init_20 (lv_at hl 4 rfl) ?_
  refine z_putF (ci := 1) (C := R_SA) (T := F_SA) (N := 6) (ty := .int) (fs' := [.int v1, .int v2, .int v3, .int v4, .int 0, .int 0]) hx hb hts j_SA t_SA t_SA_ok n_SA hown hK hS e_3 rfl 3 (by decide) (hk k_196 rfl) (fun _ h9 => h9) rfl hin rfl (by decide +kernel) rfl rfl (Nat.le_of_ble_eq_true rfl) d_SA_init_22 rfl (fun H locs hS => ?_)
  have e_4 : (z_up (z_up (z_up (z_up X q (.inr (1, [.int v1, .int 0, .int 0, .int 0, .int 0, .int 0]))) q (.inr (1, [.int v1, .int v2, .int 0, .int 0, .int 0, .int 0]))) q (.inr (1, [.int v1, .int v2, .int v3, .int 0, .int 0, .int 0]))) q (.inr (1, [.int v1, .int v2, .int v3, .int v4, .int 0, .int 0]))) q = some (.inr (1, [.int v1, .int v2, .int v3, .int v4, .int 0, .int 0])) := z_eq _ _ _
  refine lv_aload_n hx hb d_SA_init_25 rfl (lv_at hl 0 rfl) ?_
  refine lv_iload hx hb d_SA_init_26 (lv_at hl 5 rfl) ?_
  refine z_putF (ci := 1) (C := R_SA) (T := F_SA) (N := 6) (ty := .int) (fs' := [.int v1, .int v2, .int v3, .int v4, .int v5, .int 0]) hx hb hts j_SA t_SA t_SA_ok n_SA hown hK hS e_4 rfl 4 (by decide) (hk k_198 rfl) (fun _ h9 => h9) rfl hin rfl (by decide +kernel) rfl rfl (Nat.le_of_ble_eq_true rfl) d_SA_init_28 rfl (fun H locs hS => ?_)
  have e_5 : (z_up (z_up (z_up (z_up (z_up X q (.inr (1, [.int v1, .int 0, .int 0, .int 0, .int 0, .int 0]))) q (.inr (1, [.int v1, .int v2, .int 0, .int 0, .int 0, .int 0]))) q (.inr (1, [.int v1, .int v2, .int v3, .int 0, .int 0, .int 0]))) q (.inr (1, [.int v1, .int v2, .int v3, .int v4, .int 0, .int 0]))) q (.inr (1, [.int v1, .int v2, .int v3, .int v4, .int v5, .int 0]))) q = some (.inr (1, [.int v1, .int v2, .int v3, .int v4, .int v5, .int 0])) := z_eq _ _ _
  exact z_Cvret hx hb hr hlk hS (⟨rfl, by simp only [z_upup]⟩) (by decide) (by decide) d_SA_init_31
set_option maxHeartbeats 4000000 in
set_option maxRecDepth 100000 in
theorem c_RE_init (l : Launch) (hl9 : l.stackTraces = false) {D : va_G} {tys : List (ClassId × FieldType)} {lo tP : Nat} (q a : Nat) (v2 v3 v4 : Int32) {X : zM} (hq : X q = some (.inr (2, [.null, .int 0, .int 0, .int 0, .int 0, .int 0, .int 0, .int 0, .int 0, .int 0, .int 0, .int 0, .int 0, .int 0, .int 0]))) : z_C (z_G lo tP) D cls4 tys lo l y_RE_init w_RE_init zrA [.ref q, .ref a, .int v2, .int v3, .int v4] X (fun r X9 => r = .inl none ∧ X9 = z_up X q (.inr (2, [.ref a, .int v2, .int v4, .int v3, .int (-1), .int 0, .int 0, .int 0, .int (-1), .int (-1), .int (-1), .int 0, .int 0, .int 0, .int 0]))) := by
  refine z_ofW (by decide) ?_
  intro p e s m args below meth c s₁ B hml hout hv
  obtain ⟨rfl, hG, hK, hW0, hXl, hlo⟩ := hv
  have hx := B.exec
  have hb := B.bytes
  have hr := B.returns
  have hlk := B.notSynchronized
  have hown : s.vm.findClass R_RE = some m.cls := findClass_of_methodNamed B.named
  have hts : ∀ w9 ∈ z_tb, w9.before ([.ref q, .ref a, .int v2, .int v3, .int v4] : List Value).toArray s = true := hG.ts _
  have hk : ∀ {w9 : Cond}, w9 ∈ lw_tbl → z_ok w9 = true → w9.before ([.ref q, .ref a, .int v2, .int v3, .int v4] : List Value).toArray s = true := fun h1 h2 => hG.w h1 h2 _
  have hg : z_Gr s.heap s.heap := z_Gr.rf
  have hS := z_S.start hW0 hXl hlo
  have hl := lv_entry ([.ref q, .ref a, .int v2, .int v3, .int v4]) (n := 5) (Nat.le_of_ble_eq_true rfl)
  rw [lg_entry_eq]
  generalize (lg_sl ([.ref q, .ref a, .int v2, .int v3, .int v4]) ++ List.replicate (5 - (lg_sl ([.ref q, .ref a, .int v2, .int v3, .int v4])).length) Slot.unset).toArray = ls at hl ⊢
  have hl : lv_has ls 5 [(0, .ref q), (1, .ref a), (2, .int v2), (3, .int v3), (4, .int v4)] := hl
  have hin : meth.name = "<init>" := (name_of_methodNamed B.named B.method).1
  refine lv_aload_n hx hb d_RE_init_0 rfl (lv_at hl 0 rfl) ?_
  refine W.objInit hx hb hown (hk k_264 rfl) (hk k_37 rfl) (hk k_38 rfl) rfl (by rw [hml]; exact hl.1) rfl d_RE_init_1 (by decide) (Nat.le_of_ble_eq_true rfl) ?_
  refine W.eq (g2 := F0 m 4 ls []) rfl ?_
  refine lv_aload_n hx hb d_RE_init_4 rfl (lv_at hl 0 rfl) ?_
  refine lv_aload_n hx hb d_RE_init_5 rfl (lv_at hl 1 rfl) ?_
  refine z_putF (ci := 2) (C := R_RE) (T := F_RE) (N := 15) (ty := .object "ReturnRows$Sale") (fs' := [.ref a, .int 0, .int 0, .int 0, .int 0, .int 0, .int 0, .int 0, .int 0, .int 0, .int 0, .int 0, .int 0, .int 0, .int 0]) hx hb hts j_RE t_RE t_RE_ok n_RE hown hK hS hq rfl 0 (by decide) (hk k_265 rfl) (fun _ h9 => h9) rfl hin rfl (by decide +kernel) rfl rfl (Nat.le_of_ble_eq_true rfl) d_RE_init_6 rfl (fun H locs hS => ?_)
  have e_1 : (z_up X q (.inr (2, [.ref a, .int 0, .int 0, .int 0, .int 0, .int 0, .int 0, .int 0, .int 0, .int 0, .int 0, .int 0, .int 0, .int 0, .int 0]))) q = some (.inr (2, [.ref a, .int 0, .int 0, .int 0, .int 0, .int 0, .int 0, .int 0, .int 0, .int 0, .int 0, .int 0, .int 0, .int 0, .int 0])) := z_eq _ _ _
  refine lv_aload_n hx hb d_RE_init_9 rfl (lv_at hl 0 rfl) ?_
  refine lv_iload_n hx hb d_RE_init_10 rfl (lv_at hl 2 rfl) ?_
  refine z_putF (ci := 2) (C := R_RE) (T := F_RE) (N := 15) (ty := .int) (fs' := [.ref a, .int v2, .int 0, .int 0, .int 0, .int 0, .int 0, .int 0, .int 0, .int 0, .int 0, .int 0, .int 0, .int 0, .int 0]) hx hb hts j_RE t_RE t_RE_ok n_RE hown hK hS e_1 rfl 1 (by decide) (hk k_267 rfl) (fun _ h9 => h9) rfl hin rfl (by decide +kernel) rfl rfl (Nat.le_of_ble_eq_true rfl) d_RE_init_11 rfl (fun H locs hS => ?_)
  have e_2 : (z_up (z_up X q (.inr (2, [.ref a, .int 0, .int 0, .int 0, .int 0, .int 0, .int 0, .int 0, .int 0, .int 0, .int 0, .int 0, .int 0, .int 0, .int 0]))) q (.inr (2, [.ref a, .int v2, .int 0, .int 0, .int 0, .int 0, .int 0, .int 0, .int 0, .int 0, .int 0, .int 0, .int 0, .int 0, .int 0]))) q = some (.inr (2, [.ref a, .int v2, .int 0, .int 0, .int 0, .int 0, .int 0, .int 0, .int 0, .int 0, .int 0, .int 0, .int 0, .int 0, .int 0])) := z_eq _ _ _
  refine lv_aload_n hx hb d_RE_init_14 rfl (lv_at hl 0 rfl) ?_
  refine lv_iload_n hx hb d_RE_init_15 rfl (lv_at hl 3 rfl) ?_
  refine z_put (ci := 2) (C := R_RE) (T := F_RE) (N := 15) (ty := .int) (fs' := [.ref a, .int v2, .int 0, .int v3, .int 0, .int 0, .int 0, .int 0, .int 0, .int 0, .int 0, .int 0, .int 0, .int 0, .int 0]) hx hb hts j_RE t_RE t_RE_ok n_RE hown hK hS e_2 rfl 3 (by decide) (hk k_271 rfl) (fun _ h9 => h9) rfl (by decide +kernel) rfl rfl (Nat.le_of_ble_eq_true rfl) d_RE_init_16 rfl (fun H locs hS => ?_)
  have e_3 : (z_up (z_up (z_up X q (.inr (2, [.ref a, .int 0, .int 0, .int 0, .int 0, .int 0, .int 0, .int 0, .int 0, .int 0, .int 0, .int 0, .int 0, .int 0, .int 0]))) q (.inr (2, [.ref a, .int v2, .int 0, .int 0, .int 0, .int 0, .int 0, .int 0, .int 0, .int 0, .int 0, .int 0, .int 0, .int 0, .int 0]))) q (.inr (2, [.ref a, .int v2, .int 0, .int v3, .int 0, .int 0, .int 0, .int 0, .int 0, .int 0, .int 0, .int 0, .int 0, .int 0, .int 0]))) q = some (.inr (2, [.ref a, .int v2, .int 0, .int v3, .int 0, .int 0, .int 0, .int 0, .int 0, .int 0, .int 0, .int 0, .int 0, .int 0, .int 0])) := z_eq _ _ _
  refine lv_aload_n hx hb d_RE_init_19 rfl (lv_at hl 0 rfl) ?_
  refine lv_iload hx hb d_RE_init_20 (lv_at hl 4 rfl) ?_
  refine z_putF (ci := 2) (C := R_RE) (T := F_RE) (N := 15) (ty := .int) (fs' := [.ref a, .int v2, .int v4, .int v3, .int 0, .int 0, .int 0, .int 0, .int 0, .int 0, .int 0, .int 0, .int 0, .int 0, .int 0]) hx hb hts j_RE t_RE t_RE_ok n_RE hown hK hS e_3 rfl 2 (by decide) (hk k_269 rfl) (fun _ h9 => h9) rfl hin rfl (by decide +kernel) rfl rfl (Nat.le_of_ble_eq_true rfl) d_RE_init_22 rfl (fun H locs hS => ?_)
  have e_4 : (z_up (z_up (z_up (z_up X q (.inr (2, [.ref a, .int 0, .int 0, .int 0, .int 0, .int 0, .int 0, .int 0, .int 0, .int 0, .int 0, .int 0, .int 0, .int 0, .int 0]))) q (.inr (2, [.ref a, .int v2, .int 0, .int 0, .int 0, .int 0, .int 0, .int 0, .int 0, .int 0, .int 0, .int 0, .int 0, .int 0, .int 0]))) q (.inr (2, [.ref a, .int v2, .int 0, .int v3, .int 0, .int 0, .int 0, .int 0, .int 0, .int 0, .int 0, .int 0, .int 0, .int 0, .int 0]))) q (.inr (2, [.ref a, .int v2, .int v4, .int v3, .int 0, .int 0, .int 0, .int 0, .int 0, .int 0, .int 0, .int 0, .int 0, .int 0, .int 0]))) q = some (.inr (2, [.ref a, .int v2, .int v4, .int v3, .int 0, .int 0, .int 0, .int 0, .int 0, .int 0, .int 0, .int 0, .int 0, .int 0, .int 0])) := z_eq _ _ _
  refine lv_aload_n hx hb d_RE_init_25 rfl (lv_at hl 0 rfl) ?_
  refine lv_iconst (v := (-1)) hx hb d_RE_init_26 (by decide) ?_
  refine z_put (ci := 2) (C := R_RE) (T := F_RE) (N := 15) (ty := .int) (fs' := [.ref a, .int v2, .int v4, .int v3, .int (-1), .int 0, .int 0, .int 0, .int 0, .int 0, .int 0, .int 0, .int 0, .int 0, .int 0]) hx hb hts j_RE t_RE t_RE_ok n_RE hown hK hS e_4 rfl 4 (by decide) (hk k_273 rfl) (fun _ h9 => h9) rfl (by decide +kernel) rfl rfl (Nat.le_of_ble_eq_true rfl) d_RE_init_27 rfl (fun H locs hS => ?_)
  have e_5 : (z_up (z_up (z_up (z_up (z_up X q (.inr (2, [.ref a, .int 0, .int 0, .int 0, .int 0, .int 0, .int 0, .int 0, .int 0, .int 0, .int 0, .int 0, .int 0, .int 0, .int 0]))) q (.inr (2, [.ref a, .int v2, .int 0, .int 0, .int 0, .int 0, .int 0, .int 0, .int 0, .int 0, .int 0, .int 0, .int 0, .int 0, .int 0]))) q (.inr (2, [.ref a, .int v2, .int 0, .int v3, .int 0, .int 0, .int 0, .int 0, .int 0, .int 0, .int 0, .int 0, .int 0, .int 0, .int 0]))) q (.inr (2, [.ref a, .int v2, .int v4, .int v3, .int 0, .int 0, .int 0, .int 0, .int 0, .int 0, .int 0, .int 0, .int 0, .int 0, .int 0]))) q (.inr (2, [.ref a, .int v2, .int v4, .int v3, .int (-1), .int 0, .int 0, .int 0, .int 0, .int 0, .int 0, .int 0, .int 0, .int 0, .int 0]))) q = some (.inr (2, [.ref a, .int v2, .int v4, .int v3, .int (-1), .int 0, .int 0, .int 0, .int 0, .int 0, .int 0, .int 0, .int 0, .int 0, .int 0])) := z_eq _ _ _
  refine lv_aload_n hx hb d_RE_init_30 rfl (lv_at hl 0 rfl) ?_
  refine lv_iconst (v := (-1)) hx hb d_RE_init_31 (by decide) ?_
  refine z_put (ci := 2) (C := R_RE) (T := F_RE) (N := 15) (ty := .int) (fs' := [.ref a, .int v2, .int v4, .int v3, .int (-1), .int 0, .int 0, .int 0, .int (-1), .int 0, .int 0, .int 0, .int 0, .int 0, .int 0]) hx hb hts j_RE t_RE t_RE_ok n_RE hown hK hS e_5 rfl 8 (by decide) (hk k_280 rfl) (fun _ h9 => h9) rfl (by decide +kernel) rfl rfl (Nat.le_of_ble_eq_true rfl) d_RE_init_32 rfl (fun H locs hS => ?_)
  have e_6 : (z_up (z_up (z_up (z_up (z_up (z_up X q (.inr (2, [.ref a, .int 0, .int 0, .int 0, .int 0, .int 0, .int 0, .int 0, .int 0, .int 0, .int 0, .int 0, .int 0, .int 0, .int 0]))) q (.inr (2, [.ref a, .int v2, .int 0, .int 0, .int 0, .int 0, .int 0, .int 0, .int 0, .int 0, .int 0, .int 0, .int 0, .int 0, .int 0]))) q (.inr (2, [.ref a, .int v2, .int 0, .int v3, .int 0, .int 0, .int 0, .int 0, .int 0, .int 0, .int 0, .int 0, .int 0, .int 0, .int 0]))) q (.inr (2, [.ref a, .int v2, .int v4, .int v3, .int 0, .int 0, .int 0, .int 0, .int 0, .int 0, .int 0, .int 0, .int 0, .int 0, .int 0]))) q (.inr (2, [.ref a, .int v2, .int v4, .int v3, .int (-1), .int 0, .int 0, .int 0, .int 0, .int 0, .int 0, .int 0, .int 0, .int 0, .int 0]))) q (.inr (2, [.ref a, .int v2, .int v4, .int v3, .int (-1), .int 0, .int 0, .int 0, .int (-1), .int 0, .int 0, .int 0, .int 0, .int 0, .int 0]))) q = some (.inr (2, [.ref a, .int v2, .int v4, .int v3, .int (-1), .int 0, .int 0, .int 0, .int (-1), .int 0, .int 0, .int 0, .int 0, .int 0, .int 0])) := z_eq _ _ _
  refine lv_aload_n hx hb d_RE_init_35 rfl (lv_at hl 0 rfl) ?_
  refine lv_iconst (v := (-1)) hx hb d_RE_init_36 (by decide) ?_
  refine z_put (ci := 2) (C := R_RE) (T := F_RE) (N := 15) (ty := .int) (fs' := [.ref a, .int v2, .int v4, .int v3, .int (-1), .int 0, .int 0, .int 0, .int (-1), .int (-1), .int 0, .int 0, .int 0, .int 0, .int 0]) hx hb hts j_RE t_RE t_RE_ok n_RE hown hK hS e_6 rfl 9 (by decide) (hk k_282 rfl) (fun _ h9 => h9) rfl (by decide +kernel) rfl rfl (Nat.le_of_ble_eq_true rfl) d_RE_init_37 rfl (fun H locs hS => ?_)
  have e_7 : (z_up (z_up (z_up (z_up (z_up (z_up (z_up X q (.inr (2, [.ref a, .int 0, .int 0, .int 0, .int 0, .int 0, .int 0, .int 0, .int 0, .int 0, .int 0, .int 0, .int 0, .int 0, .int 0]))) q (.inr (2, [.ref a, .int v2, .int 0, .int 0, .int 0, .int 0, .int 0, .int 0, .int 0, .int 0, .int 0, .int 0, .int 0, .int 0, .int 0]))) q (.inr (2, [.ref a, .int v2, .int 0, .int v3, .int 0, .int 0, .int 0, .int 0, .int 0, .int 0, .int 0, .int 0, .int 0, .int 0, .int 0]))) q (.inr (2, [.ref a, .int v2, .int v4, .int v3, .int 0, .int 0, .int 0, .int 0, .int 0, .int 0, .int 0, .int 0, .int 0, .int 0, .int 0]))) q (.inr (2, [.ref a, .int v2, .int v4, .int v3, .int (-1), .int 0, .int 0, .int 0, .int 0, .int 0, .int 0, .int 0, .int 0, .int 0, .int 0]))) q (.inr (2, [.ref a, .int v2, .int v4, .int v3, .int (-1), .int 0, .int 0, .int 0, .int (-1), .int 0, .int 0, .int 0, .int 0, .int 0, .int 0]))) q (.inr (2, [.ref a, .int v2, .int v4, .int v3, .int (-1), .int 0, .int 0, .int 0, .int (-1), .int (-1), .int 0, .int 0, .int 0, .int 0, .int 0]))) q = some (.inr (2, [.ref a, .int v2, .int v4, .int v3, .int (-1), .int 0, .int 0, .int 0, .int (-1), .int (-1), .int 0, .int 0, .int 0, .int 0, .int 0])) := z_eq _ _ _
  refine lv_aload_n hx hb d_RE_init_40 rfl (lv_at hl 0 rfl) ?_
  refine lv_iconst (v := (-1)) hx hb d_RE_init_41 (by decide) ?_
  refine z_put (ci := 2) (C := R_RE) (T := F_RE) (N := 15) (ty := .int) (fs' := [.ref a, .int v2, .int v4, .int v3, .int (-1), .int 0, .int 0, .int 0, .int (-1), .int (-1), .int (-1), .int 0, .int 0, .int 0, .int 0]) hx hb hts j_RE t_RE t_RE_ok n_RE hown hK hS e_7 rfl 10 (by decide) (hk k_284 rfl) (fun _ h9 => h9) rfl (by decide +kernel) rfl rfl (Nat.le_of_ble_eq_true rfl) d_RE_init_42 rfl (fun H locs hS => ?_)
  have e_8 : (z_up (z_up (z_up (z_up (z_up (z_up (z_up (z_up X q (.inr (2, [.ref a, .int 0, .int 0, .int 0, .int 0, .int 0, .int 0, .int 0, .int 0, .int 0, .int 0, .int 0, .int 0, .int 0, .int 0]))) q (.inr (2, [.ref a, .int v2, .int 0, .int 0, .int 0, .int 0, .int 0, .int 0, .int 0, .int 0, .int 0, .int 0, .int 0, .int 0, .int 0]))) q (.inr (2, [.ref a, .int v2, .int 0, .int v3, .int 0, .int 0, .int 0, .int 0, .int 0, .int 0, .int 0, .int 0, .int 0, .int 0, .int 0]))) q (.inr (2, [.ref a, .int v2, .int v4, .int v3, .int 0, .int 0, .int 0, .int 0, .int 0, .int 0, .int 0, .int 0, .int 0, .int 0, .int 0]))) q (.inr (2, [.ref a, .int v2, .int v4, .int v3, .int (-1), .int 0, .int 0, .int 0, .int 0, .int 0, .int 0, .int 0, .int 0, .int 0, .int 0]))) q (.inr (2, [.ref a, .int v2, .int v4, .int v3, .int (-1), .int 0, .int 0, .int 0, .int (-1), .int 0, .int 0, .int 0, .int 0, .int 0, .int 0]))) q (.inr (2, [.ref a, .int v2, .int v4, .int v3, .int (-1), .int 0, .int 0, .int 0, .int (-1), .int (-1), .int 0, .int 0, .int 0, .int 0, .int 0]))) q (.inr (2, [.ref a, .int v2, .int v4, .int v3, .int (-1), .int 0, .int 0, .int 0, .int (-1), .int (-1), .int (-1), .int 0, .int 0, .int 0, .int 0]))) q = some (.inr (2, [.ref a, .int v2, .int v4, .int v3, .int (-1), .int 0, .int 0, .int 0, .int (-1), .int (-1), .int (-1), .int 0, .int 0, .int 0, .int 0])) := z_eq _ _ _
  exact z_Cvret hx hb hr hlk hS (⟨rfl, by simp only [z_upup]⟩) (by decide) (by decide) d_RE_init_45
set_option maxHeartbeats 4000000 in
set_option maxRecDepth 100000 in
theorem c_RE_takeGrade (l : Launch) (hl9 : l.stackTraces = false) {D : va_G} {tys : List (ClassId × FieldType)} {lo tP : Nat} (v : Int32) (row a : Nat) (f : Nat → Int32) {X : zM} (hrow : X row = some (.inr (2, rowR a f))) : z_C (z_G lo tP) D cls4 tys lo l y_RE_takeGrade w_RE_takeGrade zrA [.ref row, .int v] X (fun r X9 => r = .inl none ∧ X9 = z_up X row (.inr (2, rowR a (z_tg f v)))) := by
  refine z_ofW (by decide) ?_
  intro p e s m args below meth c s₁ B hml hout hv
  obtain ⟨rfl, hG, hK, hW0, hXl, hlo⟩ := hv
  have hx := B.exec
  have hb := B.bytes
  have hr := B.returns
  have hlk := B.notSynchronized
  have hown : s.vm.findClass R_RE = some m.cls := findClass_of_methodNamed B.named
  have hts : ∀ w9 ∈ z_tb, w9.before ([.ref row, .int v] : List Value).toArray s = true := hG.ts _
  have hk : ∀ {w9 : Cond}, w9 ∈ lw_tbl → z_ok w9 = true → w9.before ([.ref row, .int v] : List Value).toArray s = true := fun h1 h2 => hG.w h1 h2 _
  have hg : z_Gr s.heap s.heap := z_Gr.rf
  have hS := z_S.start hW0 hXl hlo
  have hl := lv_entry ([.ref row, .int v]) (n := 2) (Nat.le_of_ble_eq_true rfl)
  rw [lg_entry_eq]
  generalize (lg_sl ([.ref row, .int v]) ++ List.replicate (2 - (lg_sl ([.ref row, .int v])).length) Slot.unset).toArray = ls at hl ⊢
  have hl : lv_has ls 2 [(0, .ref row), (1, .int v)] := hl
  refine lv_aload_n hx hb d_RE_takeGrade_0 rfl (lv_at hl 0 rfl) ?_
  refine lv_aload_n hx hb d_RE_takeGrade_1 rfl (lv_at hl 0 rfl) ?_
  refine z_get (ci := 2) (C := R_RE) (T := F_RE) (N := 15) hx hb hts j_RE hown hK hS hrow rfl 8 (by decide) (hk k_280 rfl) (fun _ h9 => h9) rfl d_RE_takeGrade_2 ?_
  refine z_put (ci := 2) (C := R_RE) (T := F_RE) (N := 15) (ty := .int) (fs' := [.ref a, .int (f 1), .int (f 2), .int (f 3), .int (f 4), .int (f 5), .int (f 6), .int (f 7), .int (f 8), .int (f 8), .int (f 10), .int (f 11), .int (f 12), .int (f 13), .int (f 14)]) hx hb hts j_RE t_RE t_RE_ok n_RE hown hK hS hrow rfl 9 (by decide) (hk k_282 rfl) (fun _ h9 => h9) rfl (by decide +kernel) rfl rfl (Nat.le_of_ble_eq_true rfl) d_RE_takeGrade_5 rfl (fun H locs hS => ?_)
  have e_1 : (z_up X row (.inr (2, [.ref a, .int (f 1), .int (f 2), .int (f 3), .int (f 4), .int (f 5), .int (f 6), .int (f 7), .int (f 8), .int (f 8), .int (f 10), .int (f 11), .int (f 12), .int (f 13), .int (f 14)]))) row = some (.inr (2, [.ref a, .int (f 1), .int (f 2), .int (f 3), .int (f 4), .int (f 5), .int (f 6), .int (f 7), .int (f 8), .int (f 8), .int (f 10), .int (f 11), .int (f 12), .int (f 13), .int (f 14)])) := z_eq _ _ _
  refine lv_aload_n hx hb d_RE_takeGrade_8 rfl (lv_at hl 0 rfl) ?_
  refine lv_iload_n hx hb d_RE_takeGrade_9 rfl (lv_at hl 1 rfl) ?_
  refine z_put (ci := 2) (C := R_RE) (T := F_RE) (N := 15) (ty := .int) (fs' := [.ref a, .int (f 1), .int (f 2), .int (f 3), .int (f 4), .int (f 5), .int (f 6), .int (f 7), .int v, .int (f 8), .int (f 10), .int (f 11), .int (f 12), .int (f 13), .int (f 14)]) hx hb hts j_RE t_RE t_RE_ok n_RE hown hK hS e_1 rfl 8 (by decide) (hk k_280 rfl) (fun _ h9 => h9) rfl (by decide +kernel) rfl rfl (Nat.le_of_ble_eq_true rfl) d_RE_takeGrade_10 rfl (fun H locs hS => ?_)
  have e_2 : (z_up (z_up X row (.inr (2, [.ref a, .int (f 1), .int (f 2), .int (f 3), .int (f 4), .int (f 5), .int (f 6), .int (f 7), .int (f 8), .int (f 8), .int (f 10), .int (f 11), .int (f 12), .int (f 13), .int (f 14)]))) row (.inr (2, [.ref a, .int (f 1), .int (f 2), .int (f 3), .int (f 4), .int (f 5), .int (f 6), .int (f 7), .int v, .int (f 8), .int (f 10), .int (f 11), .int (f 12), .int (f 13), .int (f 14)]))) row = some (.inr (2, [.ref a, .int (f 1), .int (f 2), .int (f 3), .int (f 4), .int (f 5), .int (f 6), .int (f 7), .int v, .int (f 8), .int (f 10), .int (f 11), .int (f 12), .int (f 13), .int (f 14)])) := z_eq _ _ _
  refine lv_aload_n hx hb d_RE_takeGrade_13 rfl (lv_at hl 0 rfl) ?_
  refine z_get (ci := 2) (C := R_RE) (T := F_RE) (N := 15) hx hb hts j_RE hown hK hS e_2 rfl 10 (by decide) (hk k_284 rfl) (fun _ h9 => h9) rfl d_RE_takeGrade_14 ?_
  refine lv_iconst (v := (-1)) hx hb d_RE_takeGrade_17 (by decide) ?_
  refine lv_icmp_eq (tgt := 29) hx hb d_RE_takeGrade_18 (by decide) (fun c_3 => ?_) (fun c_3 => ?_)
  · refine lv_aload_n hx hb d_RE_takeGrade_29 rfl (lv_at hl 0 rfl) ?_
    refine lv_iload_n hx hb d_RE_takeGrade_30 rfl (lv_at hl 1 rfl) ?_
    refine z_put (ci := 2) (C := R_RE) (T := F_RE) (N := 15) (ty := .int) (fs' := [.ref a, .int (f 1), .int (f 2), .int (f 3), .int (f 4), .int (f 5), .int (f 6), .int (f 7), .int v, .int (f 8), .int v, .int (f 11), .int (f 12), .int (f 13), .int (f 14)]) hx hb hts j_RE t_RE t_RE_ok n_RE hown hK hS e_2 rfl 10 (by decide) (hk k_284 rfl) (fun _ h9 => h9) rfl (by decide +kernel) rfl rfl (Nat.le_of_ble_eq_true rfl) d_RE_takeGrade_31 rfl (fun H locs hS => ?_)
    have e_4 : (z_up (z_up (z_up X row (.inr (2, [.ref a, .int (f 1), .int (f 2), .int (f 3), .int (f 4), .int (f 5), .int (f 6), .int (f 7), .int (f 8), .int (f 8), .int (f 10), .int (f 11), .int (f 12), .int (f 13), .int (f 14)]))) row (.inr (2, [.ref a, .int (f 1), .int (f 2), .int (f 3), .int (f 4), .int (f 5), .int (f 6), .int (f 7), .int v, .int (f 8), .int (f 10), .int (f 11), .int (f 12), .int (f 13), .int (f 14)]))) row (.inr (2, [.ref a, .int (f 1), .int (f 2), .int (f 3), .int (f 4), .int (f 5), .int (f 6), .int (f 7), .int v, .int (f 8), .int v, .int (f 11), .int (f 12), .int (f 13), .int (f 14)]))) row = some (.inr (2, [.ref a, .int (f 1), .int (f 2), .int (f 3), .int (f 4), .int (f 5), .int (f 6), .int (f 7), .int v, .int (f 8), .int v, .int (f 11), .int (f 12), .int (f 13), .int (f 14)])) := z_eq _ _ _
    exact z_Cvret hx hb hr hlk hS (⟨rfl, by rw [z_tg1 (Or.inl c_3)]; simp only [z_upup]⟩) (by decide) (by decide) d_RE_takeGrade_34
  · refine lv_iload_n hx hb d_RE_takeGrade_21 rfl (lv_at hl 1 rfl) ?_
    refine lv_aload_n hx hb d_RE_takeGrade_22 rfl (lv_at hl 0 rfl) ?_
    refine z_get (ci := 2) (C := R_RE) (T := F_RE) (N := 15) hx hb hts j_RE hown hK hS e_2 rfl 10 (by decide) (hk k_284 rfl) (fun _ h9 => h9) rfl d_RE_takeGrade_23 ?_
    refine lv_icmp_ge (tgt := 34) hx hb d_RE_takeGrade_26 (by decide) (fun c_5 => ?_) (fun c_5 => ?_)
    · exact z_Cvret hx hb hr hlk hS (⟨rfl, by rw [z_tg2 (fun h => h.elim c_3 (fun h => Int32.not_le.mpr h c_5))]; simp only [z_upup]⟩) (by decide) (by decide) d_RE_takeGrade_34
    · refine lv_aload_n hx hb d_RE_takeGrade_29 rfl (lv_at hl 0 rfl) ?_
      refine lv_iload_n hx hb d_RE_takeGrade_30 rfl (lv_at hl 1 rfl) ?_
      refine z_put (ci := 2) (C := R_RE) (T := F_RE) (N := 15) (ty := .int) (fs' := [.ref a, .int (f 1), .int (f 2), .int (f 3), .int (f 4), .int (f 5), .int (f 6), .int (f 7), .int v, .int (f 8), .int v, .int (f 11), .int (f 12), .int (f 13), .int (f 14)]) hx hb hts j_RE t_RE t_RE_ok n_RE hown hK hS e_2 rfl 10 (by decide) (hk k_284 rfl) (fun _ h9 => h9) rfl (by decide +kernel) rfl rfl (Nat.le_of_ble_eq_true rfl) d_RE_takeGrade_31 rfl (fun H locs hS => ?_)
      have e_6 : (z_up (z_up (z_up X row (.inr (2, [.ref a, .int (f 1), .int (f 2), .int (f 3), .int (f 4), .int (f 5), .int (f 6), .int (f 7), .int (f 8), .int (f 8), .int (f 10), .int (f 11), .int (f 12), .int (f 13), .int (f 14)]))) row (.inr (2, [.ref a, .int (f 1), .int (f 2), .int (f 3), .int (f 4), .int (f 5), .int (f 6), .int (f 7), .int v, .int (f 8), .int (f 10), .int (f 11), .int (f 12), .int (f 13), .int (f 14)]))) row (.inr (2, [.ref a, .int (f 1), .int (f 2), .int (f 3), .int (f 4), .int (f 5), .int (f 6), .int (f 7), .int v, .int (f 8), .int v, .int (f 11), .int (f 12), .int (f 13), .int (f 14)]))) row = some (.inr (2, [.ref a, .int (f 1), .int (f 2), .int (f 3), .int (f 4), .int (f 5), .int (f 6), .int (f 7), .int v, .int (f 8), .int v, .int (f 11), .int (f 12), .int (f 13), .int (f 14)])) := z_eq _ _ _
      exact z_Cvret hx hb hr hlk hS (⟨rfl, by rw [z_tg1 (Or.inr (Int32.not_le.mp c_5))]; simp only [z_upup]⟩) (by decide) (by decide) d_RE_takeGrade_34
set_option maxHeartbeats 4000000 in
set_option maxRecDepth 100000 in
theorem c_RE_isOf (l : Launch) (hl9 : l.stackTraces = false) {D : va_G} {tys : List (ClassId × FieldType)} {lo tP : Nat} (u w : Int32) (row a : Nat) (f : Nat → Int32) {X : zM} (hrow : X row = some (.inr (2, rowR a f))) (i : Nat) (g : Nat → Int32) (hsal : X a = some (.inr (1, rowS i g))) : z_P (z_G lo tP) D cls4 tys lo l y_RE_isOf w_RE_isOf zrA [.ref row, .int u, .int w] X (.inl (some (.int (if z_of u w g f then 1 else 0)))) := by
  refine z_ofW (by decide) ?_
  intro p e s m args below meth c s₁ B hml hout hv
  obtain ⟨rfl, hG, hK, hW0, hXl, hlo⟩ := hv
  have hx := B.exec
  have hb := B.bytes
  have hr := B.returns
  have hlk := B.notSynchronized
  have hown : s.vm.findClass R_RE = some m.cls := findClass_of_methodNamed B.named
  have hts : ∀ w9 ∈ z_tb, w9.before ([.ref row, .int u, .int w] : List Value).toArray s = true := hG.ts _
  have hk : ∀ {w9 : Cond}, w9 ∈ lw_tbl → z_ok w9 = true → w9.before ([.ref row, .int u, .int w] : List Value).toArray s = true := fun h1 h2 => hG.w h1 h2 _
  have hg : z_Gr s.heap s.heap := z_Gr.rf
  have hS := z_S.start hW0 hXl hlo
  have hl := lv_entry ([.ref row, .int u, .int w]) (n := 3) (Nat.le_of_ble_eq_true rfl)
  rw [lg_entry_eq]
  generalize (lg_sl ([.ref row, .int u, .int w]) ++ List.replicate (3 - (lg_sl ([.ref row, .int u, .int w])).length) Slot.unset).toArray = ls at hl ⊢
  have hl : lv_has ls 3 [(0, .ref row), (1, .int u), (2, .int w)] := hl
  refine lv_iload_n hx hb d_RE_isOf_0 rfl (lv_at hl 1 rfl) ?_
  refine lv_iconst (v := (-1)) hx hb d_RE_isOf_1 (by decide) ?_
  refine lv_icmp_eq (tgt := 13) hx hb d_RE_isOf_2 (by decide) (fun c_1 => ?_) (fun c_1 => ?_)
  · refine lv_iload_n hx hb d_RE_isOf_13 rfl (lv_at hl 2 rfl) ?_
    refine lv_iconst (v := (-1)) hx hb d_RE_isOf_14 (by decide) ?_
    refine lv_icmp_eq (tgt := 29) hx hb d_RE_isOf_15 (by decide) (fun c_2 => ?_) (fun c_2 => ?_)
    · refine lv_iconst (v := 1) hx hb d_RE_isOf_29 (by decide) ?_
      refine lv_goto (tgt := 34) hx hb d_RE_isOf_30 (by decide) ?_
      exact z_Piret hx hb hr rfl hlk hg (by simp [z_of, c_1, c_2]) (by decide) (by decide) d_RE_isOf_34
    · refine lv_iload_n hx hb d_RE_isOf_18 rfl (lv_at hl 2 rfl) ?_
      refine lv_aload_n hx hb d_RE_isOf_19 rfl (lv_at hl 0 rfl) ?_
      refine z_get (ci := 2) (C := R_RE) (T := F_RE) (N := 15) hx hb hts j_RE hown hK hS hrow rfl 0 (by decide) (hk k_265 rfl) (fun _ h9 => h9) rfl d_RE_isOf_20 ?_
      refine z_get (ci := 1) (C := R_SA) (T := F_SA) (N := 6) hx hb hts j_SA hown hK hS hsal rfl 1 (by decide) (hk k_192 rfl) (fun _ h9 => h9) rfl d_RE_isOf_23 ?_
      refine lv_icmp_ne (tgt := 33) hx hb d_RE_isOf_26 (by decide) (fun c_3 => ?_) (fun c_3 => ?_)
      · refine lv_iconst (v := 0) hx hb d_RE_isOf_33 (by decide) ?_
        exact z_Piret hx hb hr rfl hlk hg (by simp [z_of, c_1, c_2, c_3]) (by decide) (by decide) d_RE_isOf_34
      · refine lv_iconst (v := 1) hx hb d_RE_isOf_29 (by decide) ?_
        refine lv_goto (tgt := 34) hx hb d_RE_isOf_30 (by decide) ?_
        exact z_Piret hx hb hr rfl hlk hg (by simp [z_of, c_1, c_2, c_3]) (by decide) (by decide) d_RE_isOf_34
  · refine lv_iload_n hx hb d_RE_isOf_5 rfl (lv_at hl 1 rfl) ?_
    refine lv_aload_n hx hb d_RE_isOf_6 rfl (lv_at hl 0 rfl) ?_
    refine z_get (ci := 2) (C := R_RE) (T := F_RE) (N := 15) hx hb hts j_RE hown hK hS hrow rfl 1 (by decide) (hk k_267 rfl) (fun _ h9 => h9) rfl d_RE_isOf_7 ?_
    refine lv_icmp_ne (tgt := 33) hx hb d_RE_isOf_10 (by decide) (fun c_4 => ?_) (fun c_4 => ?_)
    · refine lv_iconst (v := 0) hx hb d_RE_isOf_33 (by decide) ?_
      exact z_Piret hx hb hr rfl hlk hg (by simp [z_of, c_1, c_4]) (by decide) (by decide) d_RE_isOf_34
    · refine lv_iload_n hx hb d_RE_isOf_13 rfl (lv_at hl 2 rfl) ?_
      refine lv_iconst (v := (-1)) hx hb d_RE_isOf_14 (by decide) ?_
      refine lv_icmp_eq (tgt := 29) hx hb d_RE_isOf_15 (by decide) (fun c_5 => ?_) (fun c_5 => ?_)
      · refine lv_iconst (v := 1) hx hb d_RE_isOf_29 (by decide) ?_
        refine lv_goto (tgt := 34) hx hb d_RE_isOf_30 (by decide) ?_
        exact z_Piret hx hb hr rfl hlk hg (by simp [z_of, c_1, c_4, c_5]) (by decide) (by decide) d_RE_isOf_34
      · refine lv_iload_n hx hb d_RE_isOf_18 rfl (lv_at hl 2 rfl) ?_
        refine lv_aload_n hx hb d_RE_isOf_19 rfl (lv_at hl 0 rfl) ?_
        refine z_get (ci := 2) (C := R_RE) (T := F_RE) (N := 15) hx hb hts j_RE hown hK hS hrow rfl 0 (by decide) (hk k_265 rfl) (fun _ h9 => h9) rfl d_RE_isOf_20 ?_
        refine z_get (ci := 1) (C := R_SA) (T := F_SA) (N := 6) hx hb hts j_SA hown hK hS hsal rfl 1 (by decide) (hk k_192 rfl) (fun _ h9 => h9) rfl d_RE_isOf_23 ?_
        refine lv_icmp_ne (tgt := 33) hx hb d_RE_isOf_26 (by decide) (fun c_6 => ?_) (fun c_6 => ?_)
        · refine lv_iconst (v := 0) hx hb d_RE_isOf_33 (by decide) ?_
          exact z_Piret hx hb hr rfl hlk hg (by simp [z_of, c_1, c_4, c_5, c_6]) (by decide) (by decide) d_RE_isOf_34
        · refine lv_iconst (v := 1) hx hb d_RE_isOf_29 (by decide) ?_
          refine lv_goto (tgt := 34) hx hb d_RE_isOf_30 (by decide) ?_
          exact z_Piret hx hb hr rfl hlk hg (by simp [z_of, c_1, c_4, c_5, c_6]) (by decide) (by decide) d_RE_isOf_34
set_option maxHeartbeats 4000000 in
set_option maxRecDepth 100000 in
theorem c_RE_measured_0 (l : Launch) (hl9 : l.stackTraces = false) {D : va_G} {tys : List (ClassId × FieldType)} {lo tP : Nat} (row a : Nat) (f : Nat → Int32) {X : zM} (hrow : X row = some (.inr (2, rowR a f))) : z_P (z_G lo tP) D cls4 tys lo l y_RE_measured w_RE_measured zrA [.ref row, .int 0] X (.inl (some (.int (z_me 0 f)))) := by
  refine z_ofW (by decide) ?_
  intro p e s m args below meth c s₁ B hml hout hv
  obtain ⟨rfl, hG, hK, hW0, hXl, hlo⟩ := hv
  have hx := B.exec
  have hb := B.bytes
  have hr := B.returns
  have hlk := B.notSynchronized
  have hown : s.vm.findClass R_RE = some m.cls := findClass_of_methodNamed B.named
  have hts : ∀ w9 ∈ z_tb, w9.before ([.ref row, .int 0] : List Value).toArray s = true := hG.ts _
  have hk : ∀ {w9 : Cond}, w9 ∈ lw_tbl → z_ok w9 = true → w9.before ([.ref row, .int 0] : List Value).toArray s = true := fun h1 h2 => hG.w h1 h2 _
  have hg : z_Gr s.heap s.heap := z_Gr.rf
  have hS := z_S.start hW0 hXl hlo
  have hl := lv_entry ([.ref row, .int 0]) (n := 2) (Nat.le_of_ble_eq_true rfl)
  rw [lg_entry_eq]
  generalize (lg_sl ([.ref row, .int 0]) ++ List.replicate (2 - (lg_sl ([.ref row, .int 0])).length) Slot.unset).toArray = ls at hl ⊢
  have hl : lv_has ls 2 [(0, .ref row), (1, .int 0)] := hl
  refine lv_iload_n hx hb d_RE_measured_0 rfl (lv_at hl 1 rfl) ?_
  refine lv_tableIn (x := 0) (off := 35) (tgt := 36) hx hb d_RE_measured_1 (by decide) (by decide) (by decide) (by decide) ?_
  refine lv_iconst (v := 1) hx hb d_RE_measured_36 (by decide) ?_
  exact z_Piret hx hb hr rfl hlk hg (by simp [z_me]) (by decide) (by decide) d_RE_measured_37
set_option maxHeartbeats 4000000 in
set_option maxRecDepth 100000 in
theorem c_RE_measured_1 (l : Launch) (hl9 : l.stackTraces = false) {D : va_G} {tys : List (ClassId × FieldType)} {lo tP : Nat} (row a : Nat) (f : Nat → Int32) {X : zM} (hrow : X row = some (.inr (2, rowR a f))) : z_P (z_G lo tP) D cls4 tys lo l y_RE_measured w_RE_measured zrA [.ref row, .int 1] X (.inl (some (.int (z_me 1 f)))) := by
  refine z_ofW (by decide) ?_
  intro p e s m args below meth c s₁ B hml hout hv
  obtain ⟨rfl, hG, hK, hW0, hXl, hlo⟩ := hv
  have hx := B.exec
  have hb := B.bytes
  have hr := B.returns
  have hlk := B.notSynchronized
  have hown : s.vm.findClass R_RE = some m.cls := findClass_of_methodNamed B.named
  have hts : ∀ w9 ∈ z_tb, w9.before ([.ref row, .int 1] : List Value).toArray s = true := hG.ts _
  have hk : ∀ {w9 : Cond}, w9 ∈ lw_tbl → z_ok w9 = true → w9.before ([.ref row, .int 1] : List Value).toArray s = true := fun h1 h2 => hG.w h1 h2 _
  have hg : z_Gr s.heap s.heap := z_Gr.rf
  have hS := z_S.start hW0 hXl hlo
  have hl := lv_entry ([.ref row, .int 1]) (n := 2) (Nat.le_of_ble_eq_true rfl)
  rw [lg_entry_eq]
  generalize (lg_sl ([.ref row, .int 1]) ++ List.replicate (2 - (lg_sl ([.ref row, .int 1])).length) Slot.unset).toArray = ls at hl ⊢
  have hl : lv_has ls 2 [(0, .ref row), (1, .int 1)] := hl
  refine lv_iload_n hx hb d_RE_measured_0 rfl (lv_at hl 1 rfl) ?_
  refine lv_tableIn (x := 1) (off := 37) (tgt := 38) hx hb d_RE_measured_1 (by decide) (by decide) (by decide) (by decide) ?_
  refine lv_aload_n hx hb d_RE_measured_38 rfl (lv_at hl 0 rfl) ?_
  refine z_get (ci := 2) (C := R_RE) (T := F_RE) (N := 15) hx hb hts j_RE hown hK hS hrow rfl 13 (by decide) (hk k_289 rfl) (fun _ h9 => h9) rfl d_RE_measured_39 ?_
  exact z_Piret hx hb hr rfl hlk hg (by simp [z_me]) (by decide) (by decide) d_RE_measured_42
set_option maxHeartbeats 4000000 in
set_option maxRecDepth 100000 in
theorem c_RE_measured_2 (l : Launch) (hl9 : l.stackTraces = false) {D : va_G} {tys : List (ClassId × FieldType)} {lo tP : Nat} (row a : Nat) (f : Nat → Int32) {X : zM} (hrow : X row = some (.inr (2, rowR a f))) : z_P (z_G lo tP) D cls4 tys lo l y_RE_measured w_RE_measured zrA [.ref row, .int 2] X (.inl (some (.int (z_me 2 f)))) := by
  refine z_ofW (by decide) ?_
  intro p e s m args below meth c s₁ B hml hout hv
  obtain ⟨rfl, hG, hK, hW0, hXl, hlo⟩ := hv
  have hx := B.exec
  have hb := B.bytes
  have hr := B.returns
  have hlk := B.notSynchronized
  have hown : s.vm.findClass R_RE = some m.cls := findClass_of_methodNamed B.named
  have hts : ∀ w9 ∈ z_tb, w9.before ([.ref row, .int 2] : List Value).toArray s = true := hG.ts _
  have hk : ∀ {w9 : Cond}, w9 ∈ lw_tbl → z_ok w9 = true → w9.before ([.ref row, .int 2] : List Value).toArray s = true := fun h1 h2 => hG.w h1 h2 _
  have hg : z_Gr s.heap s.heap := z_Gr.rf
  have hS := z_S.start hW0 hXl hlo
  have hl := lv_entry ([.ref row, .int 2]) (n := 2) (Nat.le_of_ble_eq_true rfl)
  rw [lg_entry_eq]
  generalize (lg_sl ([.ref row, .int 2]) ++ List.replicate (2 - (lg_sl ([.ref row, .int 2])).length) Slot.unset).toArray = ls at hl ⊢
  have hl : lv_has ls 2 [(0, .ref row), (1, .int 2)] := hl
  refine lv_iload_n hx hb d_RE_measured_0 rfl (lv_at hl 1 rfl) ?_
  refine lv_tableIn (x := 2) (off := 42) (tgt := 43) hx hb d_RE_measured_1 (by decide) (by decide) (by decide) (by decide) ?_
  refine lv_aload_n hx hb d_RE_measured_43 rfl (lv_at hl 0 rfl) ?_
  refine z_get (ci := 2) (C := R_RE) (T := F_RE) (N := 15) hx hb hts j_RE hown hK hS hrow rfl 3 (by decide) (hk k_271 rfl) (fun _ h9 => h9) rfl d_RE_measured_44 ?_
  refine lv_iconst (v := 5) hx hb d_RE_measured_47 (by decide) ?_
  refine lv_icmp_ne (tgt := 55) hx hb d_RE_measured_48 (by decide) (fun c_1 => ?_) (fun c_1 => ?_)
  · refine lv_iconst (v := 0) hx hb d_RE_measured_55 (by decide) ?_
    exact z_Piret hx hb hr rfl hlk hg (by simp [z_me, c_1]) (by decide) (by decide) d_RE_measured_56
  · refine lv_iconst (v := 1) hx hb d_RE_measured_51 (by decide) ?_
    refine lv_goto (tgt := 56) hx hb d_RE_measured_52 (by decide) ?_
    exact z_Piret hx hb hr rfl hlk hg (by simp [z_me, c_1]) (by decide) (by decide) d_RE_measured_56
set_option maxHeartbeats 4000000 in
set_option maxRecDepth 100000 in
theorem c_RE_measured_3 (l : Launch) (hl9 : l.stackTraces = false) {D : va_G} {tys : List (ClassId × FieldType)} {lo tP : Nat} (row a : Nat) (f : Nat → Int32) {X : zM} (hrow : X row = some (.inr (2, rowR a f))) : z_P (z_G lo tP) D cls4 tys lo l y_RE_measured w_RE_measured zrA [.ref row, .int 3] X (.inl (some (.int (z_me 3 f)))) := by
  refine z_ofW (by decide) ?_
  intro p e s m args below meth c s₁ B hml hout hv
  obtain ⟨rfl, hG, hK, hW0, hXl, hlo⟩ := hv
  have hx := B.exec
  have hb := B.bytes
  have hr := B.returns
  have hlk := B.notSynchronized
  have hown : s.vm.findClass R_RE = some m.cls := findClass_of_methodNamed B.named
  have hts : ∀ w9 ∈ z_tb, w9.before ([.ref row, .int 3] : List Value).toArray s = true := hG.ts _
  have hk : ∀ {w9 : Cond}, w9 ∈ lw_tbl → z_ok w9 = true → w9.before ([.ref row, .int 3] : List Value).toArray s = true := fun h1 h2 => hG.w h1 h2 _
  have hg : z_Gr s.heap s.heap := z_Gr.rf
  have hS := z_S.start hW0 hXl hlo
  have hl := lv_entry ([.ref row, .int 3]) (n := 2) (Nat.le_of_ble_eq_true rfl)
  rw [lg_entry_eq]
  generalize (lg_sl ([.ref row, .int 3]) ++ List.replicate (2 - (lg_sl ([.ref row, .int 3])).length) Slot.unset).toArray = ls at hl ⊢
  have hl : lv_has ls 2 [(0, .ref row), (1, .int 3)] := hl
  refine lv_iload_n hx hb d_RE_measured_0 rfl (lv_at hl 1 rfl) ?_
  refine lv_tableIn (x := 3) (off := 56) (tgt := 57) hx hb d_RE_measured_1 (by decide) (by decide) (by decide) (by decide) ?_
  refine lv_aload_n hx hb d_RE_measured_57 rfl (lv_at hl 0 rfl) ?_
  refine z_get (ci := 2) (C := R_RE) (T := F_RE) (N := 15) hx hb hts j_RE hown hK hS hrow rfl 6 (by decide) (hk k_277 rfl) (fun _ h9 => h9) rfl d_RE_measured_58 ?_
  refine lv_if_eq (tgt := 68) hx hb d_RE_measured_61 (by decide) (fun c_1 => ?_) (fun c_1 => ?_)
  · refine lv_iconst (v := 0) hx hb d_RE_measured_68 (by decide) ?_
    exact z_Piret hx hb hr rfl hlk hg (by simp [z_me, c_1]) (by decide) (by decide) d_RE_measured_69
  · refine lv_iconst (v := 1) hx hb d_RE_measured_64 (by decide) ?_
    refine lv_goto (tgt := 69) hx hb d_RE_measured_65 (by decide) ?_
    exact z_Piret hx hb hr rfl hlk hg (by simp [z_me, c_1]) (by decide) (by decide) d_RE_measured_69
set_option maxHeartbeats 4000000 in
set_option maxRecDepth 100000 in
theorem c_RE_measured_4 (l : Launch) (hl9 : l.stackTraces = false) {D : va_G} {tys : List (ClassId × FieldType)} {lo tP : Nat} (row a : Nat) (f : Nat → Int32) {X : zM} (hrow : X row = some (.inr (2, rowR a f))) : z_P (z_G lo tP) D cls4 tys lo l y_RE_measured w_RE_measured zrA [.ref row, .int 4] X (.inl (some (.int (z_me 4 f)))) := by
  refine z_ofW (by decide) ?_
  intro p e s m args below meth c s₁ B hml hout hv
  obtain ⟨rfl, hG, hK, hW0, hXl, hlo⟩ := hv
  have hx := B.exec
  have hb := B.bytes
  have hr := B.returns
  have hlk := B.notSynchronized
  have hown : s.vm.findClass R_RE = some m.cls := findClass_of_methodNamed B.named
  have hts : ∀ w9 ∈ z_tb, w9.before ([.ref row, .int 4] : List Value).toArray s = true := hG.ts _
  have hk : ∀ {w9 : Cond}, w9 ∈ lw_tbl → z_ok w9 = true → w9.before ([.ref row, .int 4] : List Value).toArray s = true := fun h1 h2 => hG.w h1 h2 _
  have hg : z_Gr s.heap s.heap := z_Gr.rf
  have hS := z_S.start hW0 hXl hlo
  have hl := lv_entry ([.ref row, .int 4]) (n := 2) (Nat.le_of_ble_eq_true rfl)
  rw [lg_entry_eq]
  generalize (lg_sl ([.ref row, .int 4]) ++ List.replicate (2 - (lg_sl ([.ref row, .int 4])).length) Slot.unset).toArray = ls at hl ⊢
  have hl : lv_has ls 2 [(0, .ref row), (1, .int 4)] := hl
  refine lv_iload_n hx hb d_RE_measured_0 rfl (lv_at hl 1 rfl) ?_
  refine lv_tableIn (x := 4) (off := 69) (tgt := 70) hx hb d_RE_measured_1 (by decide) (by decide) (by decide) (by decide) ?_
  refine lv_aload_n hx hb d_RE_measured_70 rfl (lv_at hl 0 rfl) ?_
  refine z_get (ci := 2) (C := R_RE) (T := F_RE) (N := 15) hx hb hts j_RE hown hK hS hrow rfl 5 (by decide) (hk k_275 rfl) (fun _ h9 => h9) rfl d_RE_measured_71 ?_
  refine lv_if_eq (tgt := 81) hx hb d_RE_measured_74 (by decide) (fun c_1 => ?_) (fun c_1 => ?_)
  · refine lv_iconst (v := 0) hx hb d_RE_measured_81 (by decide) ?_
    exact z_Piret hx hb hr rfl hlk hg (by simp [z_me, c_1]) (by decide) (by decide) d_RE_measured_82
  · refine lv_iconst (v := 1) hx hb d_RE_measured_77 (by decide) ?_
    refine lv_goto (tgt := 82) hx hb d_RE_measured_78 (by decide) ?_
    exact z_Piret hx hb hr rfl hlk hg (by simp [z_me, c_1]) (by decide) (by decide) d_RE_measured_82
set_option maxHeartbeats 4000000 in
set_option maxRecDepth 100000 in
theorem c_RE_amountDue (l : Launch) (hl9 : l.stackTraces = false) {D : va_G} {tys : List (ClassId × FieldType)} {lo tP : Nat} (row a : Nat) (f : Nat → Int32) {X : zM} (hrow : X row = some (.inr (2, rowR a f))) (i : Nat) (g : Nat → Int32) (hsal : X a = some (.inr (1, rowS i g))) : z_P (z_G lo tP) D cls4 tys lo l y_RE_amountDue w_RE_amountDue zrA [.ref row] X (.inl (some (.int (z_due g f)))) := by
  refine z_ofW (by decide) ?_
  intro p e s m args below meth c s₁ B hml hout hv
  obtain ⟨rfl, hG, hK, hW0, hXl, hlo⟩ := hv
  have hx := B.exec
  have hb := B.bytes
  have hr := B.returns
  have hlk := B.notSynchronized
  have hown : s.vm.findClass R_RE = some m.cls := findClass_of_methodNamed B.named
  have hts : ∀ w9 ∈ z_tb, w9.before ([.ref row] : List Value).toArray s = true := hG.ts _
  have hk : ∀ {w9 : Cond}, w9 ∈ lw_tbl → z_ok w9 = true → w9.before ([.ref row] : List Value).toArray s = true := fun h1 h2 => hG.w h1 h2 _
  have hg : z_Gr s.heap s.heap := z_Gr.rf
  have hS := z_S.start hW0 hXl hlo
  have hl := lv_entry ([.ref row]) (n := 3) (Nat.le_of_ble_eq_true rfl)
  rw [lg_entry_eq]
  generalize (lg_sl ([.ref row]) ++ List.replicate (3 - (lg_sl ([.ref row])).length) Slot.unset).toArray = ls at hl ⊢
  have hl : lv_has ls 3 [(0, .ref row)] := hl
  refine lv_aload_n hx hb d_RE_amountDue_0 rfl (lv_at hl 0 rfl) ?_
  refine z_get (ci := 2) (C := R_RE) (T := F_RE) (N := 15) hx hb hts j_RE hown hK hS hrow rfl 8 (by decide) (hk k_280 rfl) (fun _ h9 => h9) rfl d_RE_amountDue_1 ?_
  refine lv_if_lt (tgt := 18) hx hb d_RE_amountDue_4 (by decide) (fun c_1 => ?_) (fun c_1 => ?_)
  · refine lv_iconst (v := 0) hx hb d_RE_amountDue_18 (by decide) ?_
    exact z_Piret hx hb hr rfl hlk hg (by simp [z_due, c_1]) (by decide) (by decide) d_RE_amountDue_19
  · refine lv_aload_n hx hb d_RE_amountDue_7 rfl (lv_at hl 0 rfl) ?_
    refine z_get (ci := 2) (C := R_RE) (T := F_RE) (N := 15) hx hb hts j_RE hown hK hS hrow rfl 8 (by decide) (hk k_280 rfl) (fun _ h9 => h9) rfl d_RE_amountDue_8 ?_
    refine va_getsN hx hb hG.2.2.2.2.2.2.2.1 hS.va hown (va_Nw.use rfl hG.2.2.2.1) (fun _ h9 => h9) d_RE_amountDue_11 ?_
    refine va_tlen hx hb hG.2.2.2.2.2.2.2.2 hS.va (v := 5) rfl d_RE_amountDue_14 ?_
    refine lv_icmp_lt (tgt := 20) hx hb d_RE_amountDue_15 (by decide) (fun c_2 => ?_) (fun c_2 => ?_)
    · refine lv_aload_n hx hb d_RE_amountDue_20 rfl (lv_at hl 0 rfl) ?_
      refine z_get (ci := 2) (C := R_RE) (T := F_RE) (N := 15) hx hb hts j_RE hown hK hS hrow rfl 6 (by decide) (hk k_277 rfl) (fun _ h9 => h9) rfl d_RE_amountDue_21 ?_
      refine lv_if_ne (tgt := 44) hx hb d_RE_amountDue_24 (by decide) (fun c_3 => ?_) (fun c_3 => ?_)
      · refine lv_iconst (v := 0) hx hb d_RE_amountDue_44 (by decide) ?_
        exact z_Piret hx hb hr rfl hlk hg (by simp [z_due, c_1, c_2, c_3]) (by decide) (by decide) d_RE_amountDue_45
      · refine lv_aload_n hx hb d_RE_amountDue_27 rfl (lv_at hl 0 rfl) ?_
        refine z_get (ci := 2) (C := R_RE) (T := F_RE) (N := 15) hx hb hts j_RE hown hK hS hrow rfl 2 (by decide) (hk k_269 rfl) (fun _ h9 => h9) rfl d_RE_amountDue_28 ?_
        refine lv_aload_n hx hb d_RE_amountDue_31 rfl (lv_at hl 0 rfl) ?_
        refine z_get (ci := 2) (C := R_RE) (T := F_RE) (N := 15) hx hb hts j_RE hown hK hS hrow rfl 0 (by decide) (hk k_265 rfl) (fun _ h9 => h9) rfl d_RE_amountDue_32 ?_
        refine z_get (ci := 1) (C := R_SA) (T := F_SA) (N := 6) hx hb hts j_SA hown hK hS hsal rfl 4 (by decide) (hk k_199 rfl) (fun _ h9 => h9) rfl d_RE_amountDue_35 ?_
        refine lv_isub hx hb d_RE_amountDue_38 ?_
        refine lv_bipush (v := 30) hx hb d_RE_amountDue_39 (by decide) ?_
        refine lv_icmp_le (tgt := 46) hx hb d_RE_amountDue_41 (by decide) (fun c_4 => ?_) (fun c_4 => ?_)
        · refine lv_aload_n hx hb d_RE_amountDue_46 rfl (lv_at hl 0 rfl) ?_
          refine z_get (ci := 2) (C := R_RE) (T := F_RE) (N := 15) hx hb hts j_RE hown hK hS hrow rfl 0 (by decide) (hk k_265 rfl) (fun _ h9 => h9) rfl d_RE_amountDue_47 ?_
          refine z_get (ci := 1) (C := R_SA) (T := F_SA) (N := 6) hx hb hts j_SA hown hK hS hsal rfl 2 (by decide) (hk k_195 rfl) (fun _ h9 => h9) rfl d_RE_amountDue_50 ?_
          refine va_getsN hx hb hG.2.2.2.2.2.2.2.1 hS.va hown (va_Nw.use rfl hG.2.2.2.1) (fun _ h9 => h9) d_RE_amountDue_53 ?_
          refine lv_aload_n hx hb d_RE_amountDue_56 rfl (lv_at hl 0 rfl) ?_
          refine z_get (ci := 2) (C := R_RE) (T := F_RE) (N := 15) hx hb hts j_RE hown hK hS hrow rfl 8 (by decide) (hk k_280 rfl) (fun _ h9 => h9) rfl d_RE_amountDue_57 ?_
          refine va_ti hx hb hG.2.2.2.2.2.2.2.2 hS.va (z_in5 c_1 c_2) (v := .int (z_pc (f 8).toNatClampNeg)) rfl d_RE_amountDue_60 ?_
          refine lv_imul hx hb d_RE_amountDue_61 ?_
          refine lv_bipush (v := 100) hx hb d_RE_amountDue_62 (by decide) ?_
          refine lv_idiv hx hb d_RE_amountDue_64 (by decide) ?_
          refine lv_istore_n (lv' := [(1, .int (((g 2) * (z_pc (f 8).toNatClampNeg)) / 100)), (0, .ref row)]) hx hb d_RE_amountDue_65 rfl hl (by decide) rfl (fun ls hl => ?_)
          refine lv_aload_n hx hb d_RE_amountDue_66 rfl (lv_at hl 1 rfl) ?_
          refine z_get (ci := 2) (C := R_RE) (T := F_RE) (N := 15) hx hb hts j_RE hown hK hS hrow rfl 0 (by decide) (hk k_265 rfl) (fun _ h9 => h9) rfl d_RE_amountDue_67 ?_
          refine z_get (ci := 1) (C := R_SA) (T := F_SA) (N := 6) hx hb hts j_SA hown hK hS hsal rfl 2 (by decide) (hk k_195 rfl) (fun _ h9 => h9) rfl d_RE_amountDue_70 ?_
          refine lv_bipush (v := 10) hx hb d_RE_amountDue_73 (by decide) ?_
          refine lv_idiv hx hb d_RE_amountDue_75 (by decide) ?_
          refine lv_aload_n hx hb d_RE_amountDue_76 rfl (lv_at hl 1 rfl) ?_
          refine z_get (ci := 2) (C := R_RE) (T := F_RE) (N := 15) hx hb hts j_RE hown hK hS hrow rfl 12 (by decide) (hk k_287 rfl) (fun _ h9 => h9) rfl d_RE_amountDue_77 ?_
          refine lv_imul hx hb d_RE_amountDue_80 ?_
          refine lv_istore_n (lv' := [(2, .int (((g 2) / 10) * (f 12))), (1, .int (((g 2) * (z_pc (f 8).toNatClampNeg)) / 100)), (0, .ref row)]) hx hb d_RE_amountDue_81 rfl hl (by decide) rfl (fun ls hl => ?_)
          refine lv_iconst (v := 0) hx hb d_RE_amountDue_82 (by decide) ?_
          refine lv_iload_n hx hb d_RE_amountDue_83 rfl (lv_at hl 1 rfl) ?_
          refine lv_iload_n hx hb d_RE_amountDue_84 rfl (lv_at hl 0 rfl) ?_
          refine lv_isub hx hb d_RE_amountDue_85 ?_
          refine va_mmax hx hb (hml.trans hl.1.symm) hown (hk k_451 rfl) (hk k_452 rfl) (hk k_30 rfl) (hk k_453 rfl) (by decide) (Nat.le_of_ble_eq_true rfl) (by decide) (by decide) d_RE_amountDue_86 ?_
          exact z_Piret hx hb hr rfl hlk hg (by simp [z_due, c_1, c_2, c_3, c_4]) (by decide) (by decide) d_RE_amountDue_89
        · refine lv_iconst (v := 0) hx hb d_RE_amountDue_44 (by decide) ?_
          exact z_Piret hx hb hr rfl hlk hg (by simp [z_due, c_1, c_2, c_3, c_4]) (by decide) (by decide) d_RE_amountDue_45
    · refine lv_iconst (v := 0) hx hb d_RE_amountDue_18 (by decide) ?_
      exact z_Piret hx hb hr rfl hlk hg (by simp [z_due, c_1, c_2]) (by decide) (by decide) d_RE_amountDue_19
