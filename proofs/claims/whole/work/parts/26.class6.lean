/-! ===== answers ===== -/
def an_back (k : Nat) (F : Nat → Nat → Int32) (v : Int32) : Int32 := z_sm (fun j => if j < k ∧ F j 3 = 6 ∧ F j 8 = v then 1 else 0) 20
def an_salesTo (n : Nat) (S : Nat → Nat → Int32) (v : Int32) : Int32 := z_sm (fun j => if j < n ∧ S j 1 = v then 1 else 0) 20
def an_recent (k : Nat) (td : Int32) (S : Nat → Nat → Int32) (I : Nat → Nat) (F : Nat → Nat → Int32) (v : Int32) : Int32 := z_sm (fun j => if j < k ∧ S (I j) 1 = v ∧ ¬ 30 < td - F j 2 then 1 else 0) 20
def an_sum (k : Nat) (S : Nat → Nat → Int32) (I : Nat → Nat) (F : Nat → Nat → Int32) (q : Nat) (u w : Int32) : Int32 := z_sm (fun j => if j < k ∧ z_of u w (S (I j)) (F j) then z_me q (F j) else 0) 20
def an_marked (k : Nat) (td : Int32) (S : Nat → Nat → Int32) (I : Nat → Nat) (F : Nat → Nat → Int32) (v : Int32) : Int32 := if 2 ≤ an_sum k S I F 3 (-1) v ∨ 3 < an_recent k td S I F v then 1 else 0
def an_serial (a b : Int32) : Int32 := if a = b then 1 else -1 - a
def an_check (f : Nat → Int32) (what good : Int32) : Int32 := if good = 0 then f 7 ||| ((1 : Int32) <<< (what &&& 31)) else f 7 &&& (((1 : Int32) <<< (what &&& 31)) ^^^ (-1))
def an_steps (f : Nat → Int32) (works : Int32) : Int32 := if works = 0 then 0 else f 11 - 1
def up_step (f : Nat → Int32) (works : Int32) : Nat → Int32 := if works = 0 then zfs (zfs f 11 0) 3 3 else if f 11 - 1 = 0 then z_tg (zfs (zfs f 11 (f 11 - 1)) 3 3) (f 8 - 1) else zfs f 11 (f 11 - 1)
def an_told (i : Nat) (f : Nat → Int32) (w : Int32) : Int32 := if w = 0 then f 3 else if w = 1 then nI i else if w = 2 then f 1 else if w = 3 then f 8 else if w = 4 then f 9 else if w = 5 then f 10 else if w = 6 then f 7 else if w = 7 then (if f 5 = 0 then 0 else 1) else if w = 8 then (if f 6 = 0 then 0 else 1) else if w = 9 then f 11 else if w = 10 then f 13 else f 4
def an_reason (k : Nat) (S : Nat → Nat → Int32) (I : Nat → Nat) (F : Nat → Nat → Int32) (why w : Int32) : Int32 := if w = 0 then an_sum k S I F 0 why (-1) else if w = 1 then an_sum k S I F 1 why (-1) else an_sum k S I F 2 why (-1)
def an_customer (n k : Nat) (td : Int32) (S : Nat → Nat → Int32) (I : Nat → Nat) (F : Nat → Nat → Int32) (c w : Int32) : Int32 := if w = 0 then an_salesTo n S c else if w = 1 then an_sum k S I F 0 (-1) c else if w = 2 then an_sum k S I F 3 (-1) c else an_marked k td S I F c
def an_count (n k : Nat) (td : Int32) (S : Nat → Nat → Int32) (I : Nat → Nat) (F : Nat → Nat → Int32) (w : Int32) : Int32 := if w = 0 then nI n else if w = 1 then nI k else if w = 2 then td else if w = 3 then an_sum k S I F 4 (-1) (-1) else if w = 4 then an_back k F 0 else if w = 5 then an_back k F 1 else if w = 6 then an_back k F 2 else if w = 7 then an_sum k S I F 1 (-1) (-1) else -1
theorem z_out0 {v hi : Int32} {N : Int} (h : ¬ z_rg v 0 hi) (hN : hi.toInt = N) : v.toInt < 0 ∨ N < v.toInt := by
  rw [← hN]
  by_cases h1 : v < 0
  · exact Or.inl (by have := Int32.lt_iff_toInt_lt.mp h1; exact this)
  · exact Or.inr (by have h2 : ¬ v ≤ hi := fun q => h ⟨h1, q⟩; exact Int.not_le.mp (fun q => h2 (Int32.le_iff_toInt_le.mpr q)))
theorem z_n20 {n : Nat} (hn : n ≤ 20) : n = 20 ↔ ¬ nI n < 20 := by
  constructor
  · rintro rfl; decide
  · intro h
    have h1 : ¬ nI n < nI 20 := h
    rw [nI_ltI (by omega) (by decide)] at h1
    omega
theorem z_cs2 {v : Int32} (h : z_rg v 0 2) : v = 0 ∨ v = 1 ∨ v = 2 := by
  obtain ⟨j, hj, rfl⟩ := nI_of2 (M := 2) (n := 2) (by decide) h.1 h.2
  have hj2 : j = 0 ∨ j = 1 ∨ j = 2 := by omega
  rcases hj2 with rfl | rfl | rfl
  · exact Or.inl rfl
  · exact Or.inr (Or.inl rfl)
  · exact Or.inr (Or.inr (rfl))
theorem z_cs3 {v : Int32} (h : z_rg v 0 3) : v = 0 ∨ v = 1 ∨ v = 2 ∨ v = 3 := by
  obtain ⟨j, hj, rfl⟩ := nI_of2 (M := 3) (n := 3) (by decide) h.1 h.2
  have hj2 : j = 0 ∨ j = 1 ∨ j = 2 ∨ j = 3 := by omega
  rcases hj2 with rfl | rfl | rfl | rfl
  · exact Or.inl rfl
  · exact Or.inr (Or.inl rfl)
  · exact Or.inr (Or.inr (Or.inl rfl))
  · exact Or.inr (Or.inr (Or.inr (rfl)))
theorem z_cs7 {v : Int32} (h : z_rg v 0 7) : v = 0 ∨ v = 1 ∨ v = 2 ∨ v = 3 ∨ v = 4 ∨ v = 5 ∨ v = 6 ∨ v = 7 := by
  obtain ⟨j, hj, rfl⟩ := nI_of2 (M := 7) (n := 7) (by decide) h.1 h.2
  have hj2 : j = 0 ∨ j = 1 ∨ j = 2 ∨ j = 3 ∨ j = 4 ∨ j = 5 ∨ j = 6 ∨ j = 7 := by omega
  rcases hj2 with rfl | rfl | rfl | rfl | rfl | rfl | rfl | rfl
  · exact Or.inl rfl
  · exact Or.inr (Or.inl rfl)
  · exact Or.inr (Or.inr (Or.inl rfl))
  · exact Or.inr (Or.inr (Or.inr (Or.inl rfl)))
  · exact Or.inr (Or.inr (Or.inr (Or.inr (Or.inl rfl))))
  · exact Or.inr (Or.inr (Or.inr (Or.inr (Or.inr (Or.inl rfl)))))
  · exact Or.inr (Or.inr (Or.inr (Or.inr (Or.inr (Or.inr (Or.inl rfl))))))
  · exact Or.inr (Or.inr (Or.inr (Or.inr (Or.inr (Or.inr (Or.inr (rfl)))))))
theorem z_cs11 {v : Int32} (h : z_rg v 0 11) : v = 0 ∨ v = 1 ∨ v = 2 ∨ v = 3 ∨ v = 4 ∨ v = 5 ∨ v = 6 ∨ v = 7 ∨ v = 8 ∨ v = 9 ∨ v = 10 ∨ v = 11 := by
  obtain ⟨j, hj, rfl⟩ := nI_of2 (M := 11) (n := 11) (by decide) h.1 h.2
  have hj2 : j = 0 ∨ j = 1 ∨ j = 2 ∨ j = 3 ∨ j = 4 ∨ j = 5 ∨ j = 6 ∨ j = 7 ∨ j = 8 ∨ j = 9 ∨ j = 10 ∨ j = 11 := by omega
  rcases hj2 with rfl | rfl | rfl | rfl | rfl | rfl | rfl | rfl | rfl | rfl | rfl | rfl
  · exact Or.inl rfl
  · exact Or.inr (Or.inl rfl)
  · exact Or.inr (Or.inr (Or.inl rfl))
  · exact Or.inr (Or.inr (Or.inr (Or.inl rfl)))
  · exact Or.inr (Or.inr (Or.inr (Or.inr (Or.inl rfl))))
  · exact Or.inr (Or.inr (Or.inr (Or.inr (Or.inr (Or.inl rfl)))))
  · exact Or.inr (Or.inr (Or.inr (Or.inr (Or.inr (Or.inr (Or.inl rfl))))))
  · exact Or.inr (Or.inr (Or.inr (Or.inr (Or.inr (Or.inr (Or.inr (Or.inl rfl)))))))
  · exact Or.inr (Or.inr (Or.inr (Or.inr (Or.inr (Or.inr (Or.inr (Or.inr (Or.inl rfl))))))))
  · exact Or.inr (Or.inr (Or.inr (Or.inr (Or.inr (Or.inr (Or.inr (Or.inr (Or.inr (Or.inl rfl)))))))))
  · exact Or.inr (Or.inr (Or.inr (Or.inr (Or.inr (Or.inr (Or.inr (Or.inr (Or.inr (Or.inr (Or.inl rfl))))))))))
  · exact Or.inr (Or.inr (Or.inr (Or.inr (Or.inr (Or.inr (Or.inr (Or.inr (Or.inr (Or.inr (Or.inr (rfl)))))))))))
theorem d_IN_bitCount_0 : decode b_IN_bitCount 0 = .ok (.iload_n 0, 1) := by decide +kernel
theorem d_IN_bitCount_1 : decode b_IN_bitCount 1 = .ok (.iload_n 0, 1) := by decide +kernel
theorem d_IN_bitCount_2 : decode b_IN_bitCount 2 = .ok (.iconst 1, 1) := by decide +kernel
theorem d_IN_bitCount_3 : decode b_IN_bitCount 3 = .ok (.iushr, 1) := by decide +kernel
theorem d_IN_bitCount_4 : decode b_IN_bitCount 4 = .ok (.ldc_w 265, 3) := by decide +kernel
theorem d_IN_bitCount_7 : decode b_IN_bitCount 7 = .ok (.iand, 1) := by decide +kernel
theorem d_IN_bitCount_8 : decode b_IN_bitCount 8 = .ok (.isub, 1) := by decide +kernel
theorem d_IN_bitCount_9 : decode b_IN_bitCount 9 = .ok (.istore_n 0, 1) := by decide +kernel
theorem d_IN_bitCount_10 : decode b_IN_bitCount 10 = .ok (.iload_n 0, 1) := by decide +kernel
theorem d_IN_bitCount_11 : decode b_IN_bitCount 11 = .ok (.ldc_w 266, 3) := by decide +kernel
theorem d_IN_bitCount_14 : decode b_IN_bitCount 14 = .ok (.iand, 1) := by decide +kernel
theorem d_IN_bitCount_15 : decode b_IN_bitCount 15 = .ok (.iload_n 0, 1) := by decide +kernel
theorem d_IN_bitCount_16 : decode b_IN_bitCount 16 = .ok (.iconst 2, 1) := by decide +kernel
theorem d_IN_bitCount_17 : decode b_IN_bitCount 17 = .ok (.iushr, 1) := by decide +kernel
theorem d_IN_bitCount_18 : decode b_IN_bitCount 18 = .ok (.ldc_w 266, 3) := by decide +kernel
theorem d_IN_bitCount_21 : decode b_IN_bitCount 21 = .ok (.iand, 1) := by decide +kernel
theorem d_IN_bitCount_22 : decode b_IN_bitCount 22 = .ok (.iadd, 1) := by decide +kernel
theorem d_IN_bitCount_23 : decode b_IN_bitCount 23 = .ok (.istore_n 0, 1) := by decide +kernel
theorem d_IN_bitCount_24 : decode b_IN_bitCount 24 = .ok (.iload_n 0, 1) := by decide +kernel
theorem d_IN_bitCount_25 : decode b_IN_bitCount 25 = .ok (.iload_n 0, 1) := by decide +kernel
theorem d_IN_bitCount_26 : decode b_IN_bitCount 26 = .ok (.iconst 4, 1) := by decide +kernel
theorem d_IN_bitCount_27 : decode b_IN_bitCount 27 = .ok (.iushr, 1) := by decide +kernel
theorem d_IN_bitCount_28 : decode b_IN_bitCount 28 = .ok (.iadd, 1) := by decide +kernel
theorem d_IN_bitCount_29 : decode b_IN_bitCount 29 = .ok (.ldc_w 267, 3) := by decide +kernel
theorem d_IN_bitCount_32 : decode b_IN_bitCount 32 = .ok (.iand, 1) := by decide +kernel
theorem d_IN_bitCount_33 : decode b_IN_bitCount 33 = .ok (.istore_n 0, 1) := by decide +kernel
theorem d_IN_bitCount_34 : decode b_IN_bitCount 34 = .ok (.iload_n 0, 1) := by decide +kernel
theorem d_IN_bitCount_35 : decode b_IN_bitCount 35 = .ok (.iload_n 0, 1) := by decide +kernel
theorem d_IN_bitCount_36 : decode b_IN_bitCount 36 = .ok (.bipush 8, 2) := by decide +kernel
theorem d_IN_bitCount_38 : decode b_IN_bitCount 38 = .ok (.iushr, 1) := by decide +kernel
theorem d_IN_bitCount_39 : decode b_IN_bitCount 39 = .ok (.iadd, 1) := by decide +kernel
theorem d_IN_bitCount_40 : decode b_IN_bitCount 40 = .ok (.istore_n 0, 1) := by decide +kernel
theorem d_IN_bitCount_41 : decode b_IN_bitCount 41 = .ok (.iload_n 0, 1) := by decide +kernel
theorem d_IN_bitCount_42 : decode b_IN_bitCount 42 = .ok (.iload_n 0, 1) := by decide +kernel
theorem d_IN_bitCount_43 : decode b_IN_bitCount 43 = .ok (.bipush 16, 2) := by decide +kernel
theorem d_IN_bitCount_45 : decode b_IN_bitCount 45 = .ok (.iushr, 1) := by decide +kernel
theorem d_IN_bitCount_46 : decode b_IN_bitCount 46 = .ok (.iadd, 1) := by decide +kernel
theorem d_IN_bitCount_47 : decode b_IN_bitCount 47 = .ok (.istore_n 0, 1) := by decide +kernel
theorem d_IN_bitCount_48 : decode b_IN_bitCount 48 = .ok (.iload_n 0, 1) := by decide +kernel
theorem d_IN_bitCount_49 : decode b_IN_bitCount 49 = .ok (.bipush 63, 2) := by decide +kernel
theorem d_IN_bitCount_51 : decode b_IN_bitCount 51 = .ok (.iand, 1) := by decide +kernel
theorem d_IN_bitCount_52 : decode b_IN_bitCount 52 = .ok (.ireturn, 1) := by decide +kernel
def z_us (x y : Int32) : Int32 := (x.toUInt32 >>> (y.toUInt32 &&& Int32.toUInt32 31)).toInt32
def z_b1 (i : Int32) : Int32 := i - (z_us i 1 &&& 1431655765)
def z_b2 (i : Int32) : Int32 := (i &&& 858993459) + (z_us i 2 &&& 858993459)
def z_b3 (i : Int32) : Int32 := (i + z_us i 4) &&& 252645135
def z_b4 (i : Int32) : Int32 := i + z_us i 8
def z_b5 (i : Int32) : Int32 := i + z_us i 16
def z_bc (i : Int32) : Int32 := z_b5 (z_b4 (z_b3 (z_b2 (z_b1 i)))) &&& 63
/-- the five bits, added up -/
def z_bits (b : Int32) : Int32 := (((((0 + ((b >>> ((0 : Int32) &&& 31)) &&& 1)) + ((b >>> ((1 : Int32) &&& 31)) &&& 1)) + ((b >>> ((2 : Int32) &&& 31)) &&& 1)) + ((b >>> ((3 : Int32) &&& 31)) &&& 1)) + ((b >>> ((4 : Int32) &&& 31)) &&& 1))
theorem z_bc32 : ∀ q : Nat, q < 32 → z_bc (nI q) = z_bits (nI q) := by decide +kernel
set_option maxHeartbeats 4000000 in
set_option maxRecDepth 100000 in
theorem c_IN_bitCount (l : Launch) (hl9 : l.stackTraces = false) {D : va_G} {tys : List (ClassId × FieldType)} {lo tP : Nat} (v : Int32) {X : zM} : z_P (z_G lo tP) D cls4 tys lo l y_IN_bitCount w_IN_bitCount zrA [.int v] X (.inl (some (.int (z_bc v)))) := by
  refine z_ofW (by decide) ?_
  intro p e s m args below meth c s₁ B hml hout hv
  obtain ⟨rfl, hG, hK, hW0, hXl, hlo⟩ := hv
  have hx := B.exec
  have hb := B.bytes
  have hr := B.returns
  have hlk := B.notSynchronized
  have hown : s.vm.findClass R_IN = some m.cls := findClass_of_methodNamed B.named
  have hts : ∀ w9 ∈ z_tb, w9.before ([.int v] : List Value).toArray s = true := hG.ts _
  have hk : ∀ {w9 : Cond}, w9 ∈ lw_tbl → z_ok w9 = true → w9.before ([.int v] : List Value).toArray s = true := fun h1 h2 => hG.w h1 h2 _
  have hg : z_Gr s.heap s.heap := z_Gr.rf
  have hS := z_S.start hW0 hXl hlo
  have hl := lv_entry ([.int v]) (n := 1) (Nat.le_of_ble_eq_true rfl)
  rw [lg_entry_eq]
  generalize (lg_sl ([.int v]) ++ List.replicate (1 - (lg_sl ([.int v])).length) Slot.unset).toArray = ls at hl ⊢
  have hl : lv_has ls 1 [(0, .int v)] := hl
  refine lv_iload_n hx hb d_IN_bitCount_0 rfl (lv_at hl 0 rfl) ?_
  refine lv_iload_n hx hb d_IN_bitCount_1 rfl (lv_at hl 0 rfl) ?_
  refine lv_iconst (v := 1) hx hb d_IN_bitCount_2 (by decide) ?_
  refine lv_iushr (v := (v.toUInt32 >>> ((1 : Int32).toUInt32 &&& Int32.toUInt32 31)).toInt32) hx hb d_IN_bitCount_3 rfl ?_
  refine lv_ldcw (v := 1431655765) hx hb hown (hk k_370 rfl) d_IN_bitCount_4 ?_
  refine lv_iand hx hb d_IN_bitCount_7 ?_
  refine lv_isub hx hb d_IN_bitCount_8 ?_
  refine lv_istore_n (lv' := [(0, .int (z_b1 (v)))]) hx hb d_IN_bitCount_9 rfl hl (by decide) rfl (fun ls hl => ?_)
  refine lv_iload_n hx hb d_IN_bitCount_10 rfl (lv_at hl 0 rfl) ?_
  refine lv_ldcw (v := 858993459) hx hb hown (hk k_371 rfl) d_IN_bitCount_11 ?_
  refine lv_iand hx hb d_IN_bitCount_14 ?_
  refine lv_iload_n hx hb d_IN_bitCount_15 rfl (lv_at hl 0 rfl) ?_
  refine lv_iconst (v := 2) hx hb d_IN_bitCount_16 (by decide) ?_
  refine lv_iushr (v := ((z_b1 (v)).toUInt32 >>> ((2 : Int32).toUInt32 &&& Int32.toUInt32 31)).toInt32) hx hb d_IN_bitCount_17 rfl ?_
  refine lv_ldcw (v := 858993459) hx hb hown (hk k_371 rfl) d_IN_bitCount_18 ?_
  refine lv_iand hx hb d_IN_bitCount_21 ?_
  refine lv_iadd hx hb d_IN_bitCount_22 ?_
  refine lv_istore_n (lv' := [(0, .int (z_b2 (z_b1 v)))]) hx hb d_IN_bitCount_23 rfl hl (by decide) rfl (fun ls hl => ?_)
  refine lv_iload_n hx hb d_IN_bitCount_24 rfl (lv_at hl 0 rfl) ?_
  refine lv_iload_n hx hb d_IN_bitCount_25 rfl (lv_at hl 0 rfl) ?_
  refine lv_iconst (v := 4) hx hb d_IN_bitCount_26 (by decide) ?_
  refine lv_iushr (v := ((z_b2 (z_b1 v)).toUInt32 >>> ((4 : Int32).toUInt32 &&& Int32.toUInt32 31)).toInt32) hx hb d_IN_bitCount_27 rfl ?_
  refine lv_iadd hx hb d_IN_bitCount_28 ?_
  refine lv_ldcw (v := 252645135) hx hb hown (hk k_372 rfl) d_IN_bitCount_29 ?_
  refine lv_iand hx hb d_IN_bitCount_32 ?_
  refine lv_istore_n (lv' := [(0, .int (z_b3 (z_b2 (z_b1 v))))]) hx hb d_IN_bitCount_33 rfl hl (by decide) rfl (fun ls hl => ?_)
  refine lv_iload_n hx hb d_IN_bitCount_34 rfl (lv_at hl 0 rfl) ?_
  refine lv_iload_n hx hb d_IN_bitCount_35 rfl (lv_at hl 0 rfl) ?_
  refine lv_bipush (v := 8) hx hb d_IN_bitCount_36 (by decide) ?_
  refine lv_iushr (v := ((z_b3 (z_b2 (z_b1 v))).toUInt32 >>> ((8 : Int32).toUInt32 &&& Int32.toUInt32 31)).toInt32) hx hb d_IN_bitCount_38 rfl ?_
  refine lv_iadd hx hb d_IN_bitCount_39 ?_
  refine lv_istore_n (lv' := [(0, .int (z_b4 (z_b3 (z_b2 (z_b1 v)))))]) hx hb d_IN_bitCount_40 rfl hl (by decide) rfl (fun ls hl => ?_)
  refine lv_iload_n hx hb d_IN_bitCount_41 rfl (lv_at hl 0 rfl) ?_
  refine lv_iload_n hx hb d_IN_bitCount_42 rfl (lv_at hl 0 rfl) ?_
  refine lv_bipush (v := 16) hx hb d_IN_bitCount_43 (by decide) ?_
  refine lv_iushr (v := ((z_b4 (z_b3 (z_b2 (z_b1 v)))).toUInt32 >>> ((16 : Int32).toUInt32 &&& Int32.toUInt32 31)).toInt32) hx hb d_IN_bitCount_45 rfl ?_
  refine lv_iadd hx hb d_IN_bitCount_46 ?_
  refine lv_istore_n (lv' := [(0, .int (z_b5 (z_b4 (z_b3 (z_b2 (z_b1 v))))))]) hx hb d_IN_bitCount_47 rfl hl (by decide) rfl (fun ls hl => ?_)
  refine lv_iload_n hx hb d_IN_bitCount_48 rfl (lv_at hl 0 rfl) ?_
  refine lv_bipush (v := 63) hx hb d_IN_bitCount_49 (by decide) ?_
  refine lv_iand hx hb d_IN_bitCount_51 ?_
  exact z_Piret hx hb hr rfl hlk hg (rfl) (by decide) (by decide) d_IN_bitCount_52
/-! ===== calls on a row, further ===== -/
set_option maxHeartbeats 4000000 in
set_option maxRecDepth 100000 in
theorem c_RR_serial_no (l : Launch) (hl9 : l.stackTraces = false) {D : va_G} {cS cR cJ cI cZ : ClassId} {lo tP : Nat} (v p0 : Int32) (a9 : Option Value) (N9 : zM → Prop) {x sA rA n k : Nat} {td : Int32} {sd rd : Nat → Nat} {S : Nat → Nat → Int32} {I : Nat → Nat} {F : Nat → Nat → Int32} {X : zM} (hXI : XI x sA rA cS cR n k td sd rd S I F X) (hv : ¬ z_rg v 1 (nI k)) : z_C (z_G lo tP) D cls4 (zty cS cR cJ cI cZ) lo l y_RR_serial w_RR_serial zr1 [.ref x, .int v, .int p0] X (zT [E_NSE, E_ISE] 1 a9 X N9) := by
  refine z_ofW (by decide) ?_
  intro p e s m args below meth c s₁ B hml hout hv
  obtain ⟨rfl, hG, hK, hW0, hXl, hlo⟩ := hv
  have hx := B.exec
  have hb := B.bytes
  have hr := B.returns
  have hlk := B.notSynchronized
  have hown : s.vm.findClass R_RR = some m.cls := findClass_of_methodNamed B.named
  have hts : ∀ w9 ∈ z_tb, w9.before ([.ref x, .int v, .int p0] : List Value).toArray s = true := hG.ts _
  have hk : ∀ {w9 : Cond}, w9 ∈ lw_tbl → z_ok w9 = true → w9.before ([.ref x, .int v, .int p0] : List Value).toArray s = true := fun h1 h2 => hG.w h1 h2 _
  have hg : z_Gr s.heap s.heap := z_Gr.rf
  have hS := z_S.start hW0 hXl hlo
  have hl := lv_entry ([.ref x, .int v, .int p0]) (n := 5) (Nat.le_of_ble_eq_true rfl)
  rw [lg_entry_eq]
  generalize (lg_sl ([.ref x, .int v, .int p0]) ++ List.replicate (5 - (lg_sl ([.ref x, .int v, .int p0])).length) Slot.unset).toArray = ls at hl ⊢
  have hl : lv_has ls 5 [(0, .ref x), (1, .int v), (2, .int p0)] := hl
  obtain ⟨hxx, hsA, hrA, hSs, hRr, hIn, hn, hkk, hjs, hjr, hAne⟩ := id hXI
  refine lv_aload_n hx hb d_RR_serial_0 rfl (lv_at hl 0 rfl) ?_
  refine lv_iload_n hx hb d_RR_serial_1 rfl (lv_at hl 1 rfl) ?_
  exact z_pCX (E := E_NSE) (n_RR_RR_returnAt hx hown hG (va_recv hK (hS.1.one hxx) (ci := 0) (q0 := 0) rfl rfl) (by rw [hb]; exact d_RR_serial_2)) hb (hl.1.trans hml.symm) (c_RR_returnAt l hl9 x sA rA n k td rd v hxx hrA hkk) (if_neg hv) (z_Gkeeps lo tP) hG hK hS (cw_RR_returnAt hG (by decide) (by decide)) d_RR_serial_2 (Nat.le_of_ble_eq_true rfl) (by decide) (by decide) hout hlk (zT1 0 rfl rfl) (by decide) (by decide)
set_option maxHeartbeats 4000000 in
set_option maxRecDepth 100000 in
theorem c_RR_serial_no2 (l : Launch) (hl9 : l.stackTraces = false) {D : va_G} {cS cR cJ cI cZ : ClassId} {lo tP : Nat} {j : Nat} (p0 : Int32) (a9 : Option Value) (N9 : zM → Prop) {x sA rA n k : Nat} {td : Int32} {sd rd : Nat → Nat} {S : Nat → Nat → Int32} {I : Nat → Nat} {F : Nat → Nat → Int32} {X : zM} (hXI : XI x sA rA cS cR n k td sd rd S I F X) (hj : j < k) (hs : ¬ z_rs p0 n) : z_C (z_G lo tP) D cls4 (zty cS cR cJ cI cZ) lo l y_RR_serial w_RR_serial zr1 [.ref x, .int (nI (j + 1)), .int p0] X (zT [E_NSE, E_ISE] 1 a9 X N9) := by
  refine z_ofW (by decide) ?_
  intro p e s m args below meth c s₁ B hml hout hv
  obtain ⟨rfl, hG, hK, hW0, hXl, hlo⟩ := hv
  have hx := B.exec
  have hb := B.bytes
  have hr := B.returns
  have hlk := B.notSynchronized
  have hown : s.vm.findClass R_RR = some m.cls := findClass_of_methodNamed B.named
  have hts : ∀ w9 ∈ z_tb, w9.before ([.ref x, .int (nI (j + 1)), .int p0] : List Value).toArray s = true := hG.ts _
  have hk : ∀ {w9 : Cond}, w9 ∈ lw_tbl → z_ok w9 = true → w9.before ([.ref x, .int (nI (j + 1)), .int p0] : List Value).toArray s = true := fun h1 h2 => hG.w h1 h2 _
  have hg : z_Gr s.heap s.heap := z_Gr.rf
  have hS := z_S.start hW0 hXl hlo
  have hl := lv_entry ([.ref x, .int (nI (j + 1)), .int p0]) (n := 5) (Nat.le_of_ble_eq_true rfl)
  rw [lg_entry_eq]
  generalize (lg_sl ([.ref x, .int (nI (j + 1)), .int p0]) ++ List.replicate (5 - (lg_sl ([.ref x, .int (nI (j + 1)), .int p0])).length) Slot.unset).toArray = ls at hl ⊢
  have hl : lv_has ls 5 [(0, .ref x), (1, .int (nI (j + 1))), (2, .int p0)] := hl
  obtain ⟨hxx, hsA, hrA, hSs, hRr, hIn, hn, hkk, hjs, hjr, hAne⟩ := id hXI
  refine lv_aload_n hx hb d_RR_serial_0 rfl (lv_at hl 0 rfl) ?_
  refine lv_iload_n hx hb d_RR_serial_1 rfl (lv_at hl 1 rfl) ?_
  refine z_pa (n_RR_RR_returnAt hx hown hG (va_recv hK (hS.1.one hxx) (ci := 0) (q0 := 0) rfl rfl) (by rw [hb]; exact d_RR_serial_2)) hb (hl.1.trans hml.symm) (c_RR_returnAt l hl9 x sA rA n k td rd (nI (j + 1)) hxx hrA hkk) (by rw [if_pos ((z_rg1 (by omega) hkk).mpr hj), nI_clamp (show j + 1 < 2 ^ 31 by omega), Nat.add_sub_cancel]) (z_Gkeeps lo tP) hG hK hS (cw_RR_returnAt hG (by decide) (by decide)) d_RR_serial_2 (Nat.le_of_ble_eq_true rfl) (by decide) (by decide) (fun H hq hS => ?_)
  refine lv_astore_n (lv' := [(3, .ref (rd j)), (0, .ref x), (1, .int (nI (j + 1))), (2, .int p0)]) hx hb d_RR_serial_5 rfl hl (by decide) rfl (fun ls hl => ?_)
  refine lv_aload_n hx hb d_RR_serial_6 rfl (lv_at hl 1 rfl) ?_
  refine lv_iload_n hx hb d_RR_serial_7 rfl (lv_at hl 3 rfl) ?_
  exact z_pCX (E := E_NSE) (n_RR_RR_saleAt hx hown hG (va_recv hK (hS.1.one hxx) (ci := 0) (q0 := 0) rfl rfl) (by rw [hb]; exact d_RR_serial_8)) hb (hl.1.trans hml.symm) (c_RR_saleAt l hl9 x sA rA n k td sd p0 hxx hsA hn) (if_neg hs) (z_Gkeeps lo tP) hG hK hS (cw_RR_saleAt hG (by decide) (by decide)) d_RR_serial_8 (Nat.le_of_ble_eq_true rfl) (by decide) (by decide) hout hlk (zT1 0 rfl rfl) (by decide) (by decide)
set_option maxHeartbeats 4000000 in
set_option maxRecDepth 100000 in
theorem c_RR_serial (l : Launch) (hl9 : l.stackTraces = false) {D : va_G} {cS cR cJ cI cZ : ClassId} {lo tP : Nat} {i j : Nat} {x sA rA n k : Nat} {td : Int32} {sd rd : Nat → Nat} {S : Nat → Nat → Int32} {I : Nat → Nat} {F : Nat → Nat → Int32} {X : zM} (hXI : XI x sA rA cS cR n k td sd rd S I F X) (hj : j < k) (hi : i < n) : z_C (z_G lo tP) D cls4 (zty cS cR cJ cI cZ) lo l y_RR_serial w_RR_serial zr1 [.ref x, .int (nI (j + 1)), .int (nI i)] X (zT [E_NSE, E_ISE] (cd_serial (F j)) (some (.int (an_serial (nI i) (nI (I j))))) X (YI x cS cR ⟨n, k, td, S, I, zfr F j (zfs (F j) 6 (if nI i = nI (I j) then 0 else 1))⟩)) := by
  refine z_ofW (by decide) ?_
  intro p e s m args below meth c s₁ B hml hout hv
  obtain ⟨rfl, hG, hK, hW0, hXl, hlo⟩ := hv
  have hx := B.exec
  have hb := B.bytes
  have hr := B.returns
  have hlk := B.notSynchronized
  have hown : s.vm.findClass R_RR = some m.cls := findClass_of_methodNamed B.named
  have hts : ∀ w9 ∈ z_tb, w9.before ([.ref x, .int (nI (j + 1)), .int (nI i)] : List Value).toArray s = true := hG.ts _
  have hk : ∀ {w9 : Cond}, w9 ∈ lw_tbl → z_ok w9 = true → w9.before ([.ref x, .int (nI (j + 1)), .int (nI i)] : List Value).toArray s = true := fun h1 h2 => hG.w h1 h2 _
  have hg : z_Gr s.heap s.heap := z_Gr.rf
  have hS := z_S.start hW0 hXl hlo
  have hl := lv_entry ([.ref x, .int (nI (j + 1)), .int (nI i)]) (n := 5) (Nat.le_of_ble_eq_true rfl)
  rw [lg_entry_eq]
  generalize (lg_sl ([.ref x, .int (nI (j + 1)), .int (nI i)]) ++ List.replicate (5 - (lg_sl ([.ref x, .int (nI (j + 1)), .int (nI i)])).length) Slot.unset).toArray = ls at hl ⊢
  have hl : lv_has ls 5 [(0, .ref x), (1, .int (nI (j + 1))), (2, .int (nI i))] := hl
  obtain ⟨hxx, hsA, hrA, hSs, hRr, hIn, hn, hkk, hjs, hjr, hAne⟩ := id hXI
  refine lv_aload_n hx hb d_RR_serial_0 rfl (lv_at hl 0 rfl) ?_
  refine lv_iload_n hx hb d_RR_serial_1 rfl (lv_at hl 1 rfl) ?_
  refine z_pa (n_RR_RR_returnAt hx hown hG (va_recv hK (hS.1.one hxx) (ci := 0) (q0 := 0) rfl rfl) (by rw [hb]; exact d_RR_serial_2)) hb (hl.1.trans hml.symm) (c_RR_returnAt l hl9 x sA rA n k td rd (nI (j + 1)) hxx hrA hkk) (by rw [if_pos ((z_rg1 (by omega) hkk).mpr hj), nI_clamp (show j + 1 < 2 ^ 31 by omega), Nat.add_sub_cancel]) (z_Gkeeps lo tP) hG hK hS (cw_RR_returnAt hG (by decide) (by decide)) d_RR_serial_2 (Nat.le_of_ble_eq_true rfl) (by decide) (by decide) (fun H hq hS => ?_)
  refine lv_astore_n (lv' := [(3, .ref (rd j)), (0, .ref x), (1, .int (nI (j + 1))), (2, .int (nI i))]) hx hb d_RR_serial_5 rfl hl (by decide) rfl (fun ls hl => ?_)
  refine lv_aload_n hx hb d_RR_serial_6 rfl (lv_at hl 1 rfl) ?_
  refine lv_iload_n hx hb d_RR_serial_7 rfl (lv_at hl 3 rfl) ?_
  refine z_pa (n_RR_RR_saleAt hx hown hG (va_recv hK (hS.1.one hxx) (ci := 0) (q0 := 0) rfl rfl) (by rw [hb]; exact d_RR_serial_8)) hb (hl.1.trans hml.symm) (c_RR_saleAt l hl9 x sA rA n k td sd (nI i) hxx hsA hn) (by rw [if_pos ((z_rs1 (by omega) hn).mpr hi), nI_clamp (show i < 2 ^ 31 by omega)]) (z_Gkeeps lo tP) hG hK hS (cw_RR_saleAt hG (by decide) (by decide)) d_RR_serial_8 (Nat.le_of_ble_eq_true rfl) (by decide) (by decide) (fun H hq hS => ?_)
  refine lv_astore (lv' := [(4, .ref (sd i)), (3, .ref (rd j)), (0, .ref x), (1, .int (nI (j + 1))), (2, .int (nI i))]) hx hb d_RR_serial_11 hl (by decide) rfl (fun ls hl => ?_)
  refine lv_aload_n hx hb d_RR_serial_13 rfl (lv_at hl 1 rfl) ?_
  by_cases w_1 : F j 3 = 2
  · refine z_pv (n_RR_RR_requireHere hx hown hG (by rw [hb]; exact d_RR_serial_14)) hb (hl.1.trans hml.symm) (c_RR_requireHere l hl9 (rd j) (sd (I j)) (F j) (hRr j hj)) (if_pos w_1) (z_Gkeeps lo tP) hG hK hS (cw_RR_requireHere hG (by decide) (by decide)) d_RR_serial_14 (Nat.le_of_ble_eq_true rfl) (by decide) (by decide) (fun H hq hS => ?_)
    refine lv_aload_n hx hb d_RR_serial_17 rfl (lv_at hl 1 rfl) ?_
    refine lv_aload hx hb d_RR_serial_18 (lv_at hl 0 rfl) ?_
    refine z_get (ci := 1) (C := R_SA) (T := F_SA) (N := 6) hx hb hts j_SA hown hK hS (hSs i hi) rfl 0 (by decide) (hk k_190 rfl) (fun _ h9 => h9) rfl d_RR_serial_20 ?_
    refine lv_aload_n hx hb d_RR_serial_23 rfl (lv_at hl 1 rfl) ?_
    refine z_get (ci := 2) (C := R_RE) (T := F_RE) (N := 15) hx hb hts j_RE hown hK hS (hRr j hj) rfl 0 (by decide) (hk k_266 rfl) (fun _ h9 => h9) rfl d_RR_serial_24 ?_
    refine z_get (ci := 1) (C := R_SA) (T := F_SA) (N := 6) hx hb hts j_SA hown hK hS (hSs (I j) (hIn j hj)) rfl 0 (by decide) (hk k_190 rfl) (fun _ h9 => h9) rfl d_RR_serial_27 ?_
    refine lv_icmp_eq (tgt := 37) hx hb d_RR_serial_30 (by decide) (fun c_2 => ?_) (fun c_2 => ?_)
    · refine lv_iconst (v := 0) hx hb d_RR_serial_37 (by decide) ?_
      refine z_put (ci := 2) (C := R_RE) (T := F_RE) (N := 15) (ty := .boolean) (fs' := [.ref (sd (I j)), .int (F j 1), .int (F j 2), .int (F j 3), .int (F j 4), .int (F j 5), .int 0, .int (F j 7), .int (F j 8), .int (F j 9), .int (F j 10), .int (F j 11), .int (F j 12), .int (F j 13), .int (F j 14)]) hx hb hts j_RE t_RE t_RE_ok n_RE hown hK hS (hRr j hj) rfl 6 (by decide) (hk k_278 rfl) (fun _ h9 => h9) rfl (by decide +kernel) rfl rfl (Nat.le_of_ble_eq_true rfl) d_RR_serial_38 rfl (fun H locs hS => ?_)
      have e_3 : (z_up X (rd j) (.inr (2, [.ref (sd (I j)), .int (F j 1), .int (F j 2), .int (F j 3), .int (F j 4), .int (F j 5), .int 0, .int (F j 7), .int (F j 8), .int (F j 9), .int (F j 10), .int (F j 11), .int (F j 12), .int (F j 13), .int (F j 14)]))) x = some (.inr (0, [.ref sA, .ref rA, .int (nI n), .int (nI k), .int td])) := (z_ne (z_oo hxx (hRr j hj) (by decide))).trans hxx
      have e_4 : (z_up X (rd j) (.inr (2, [.ref (sd (I j)), .int (F j 1), .int (F j 2), .int (F j 3), .int (F j 4), .int (F j 5), .int 0, .int (F j 7), .int (F j 8), .int (F j 9), .int (F j 10), .int (F j 11), .int (F j 12), .int (F j 13), .int (F j 14)]))) sA = some (.inl (cS, 20, .inr (.inr (.inr (.inr (fun i => if i < n then some (sd i) else none)))))) := (z_ne (z_ao hsA (hRr j hj))).trans hsA
      have e_5 : (z_up X (rd j) (.inr (2, [.ref (sd (I j)), .int (F j 1), .int (F j 2), .int (F j 3), .int (F j 4), .int (F j 5), .int 0, .int (F j 7), .int (F j 8), .int (F j 9), .int (F j 10), .int (F j 11), .int (F j 12), .int (F j 13), .int (F j 14)]))) rA = some (.inl (cR, 20, .inr (.inr (.inr (.inr (fun i => if i < k then some (rd i) else none)))))) := (z_ne (z_ao hrA (hRr j hj))).trans hrA
      have e_6 : (z_up X (rd j) (.inr (2, [.ref (sd (I j)), .int (F j 1), .int (F j 2), .int (F j 3), .int (F j 4), .int (F j 5), .int 0, .int (F j 7), .int (F j 8), .int (F j 9), .int (F j 10), .int (F j 11), .int (F j 12), .int (F j 13), .int (F j 14)]))) (sd (I j)) = some (.inr (1, [.int (nI (I j)), .int (S (I j) 1), .int (S (I j) 2), .int (S (I j) 3), .int (S (I j) 4), .int (S (I j) 5)])) := (z_ne (z_oo (hSs (I j) (hIn j hj)) (hRr j hj) (by decide))).trans (hSs (I j) (hIn j hj))
      have e_7 : (z_up X (rd j) (.inr (2, [.ref (sd (I j)), .int (F j 1), .int (F j 2), .int (F j 3), .int (F j 4), .int (F j 5), .int 0, .int (F j 7), .int (F j 8), .int (F j 9), .int (F j 10), .int (F j 11), .int (F j 12), .int (F j 13), .int (F j 14)]))) (sd i) = some (.inr (1, [.int (nI i), .int (S i 1), .int (S i 2), .int (S i 3), .int (S i 4), .int (S i 5)])) := (z_ne (z_oo (hSs i hi) (hRr j hj) (by decide))).trans (hSs i hi)
      have e_8 : (z_up X (rd j) (.inr (2, [.ref (sd (I j)), .int (F j 1), .int (F j 2), .int (F j 3), .int (F j 4), .int (F j 5), .int 0, .int (F j 7), .int (F j 8), .int (F j 9), .int (F j 10), .int (F j 11), .int (F j 12), .int (F j 13), .int (F j 14)]))) (rd j) = some (.inr (2, [.ref (sd (I j)), .int (F j 1), .int (F j 2), .int (F j 3), .int (F j 4), .int (F j 5), .int 0, .int (F j 7), .int (F j 8), .int (F j 9), .int (F j 10), .int (F j 11), .int (F j 12), .int (F j 13), .int (F j 14)])) := z_eq _ _ _
      refine lv_aload_n hx hb d_RR_serial_41 rfl (lv_at hl 1 rfl) ?_
      refine z_get (ci := 2) (C := R_RE) (T := F_RE) (N := 15) hx hb hts j_RE hown hK hS e_8 rfl 6 (by decide) (hk k_278 rfl) (fun _ h9 => h9) rfl d_RR_serial_42 ?_
      refine lv_if_eq (tgt := 58) hx hb d_RR_serial_45 (by decide) (fun c_9 => ?_) (fun c_9 => absurd (by decide) c_9)
      refine lv_iconst (v := 1) hx hb d_RR_serial_58 (by decide) ?_
      exact z_Ciret hx hb hr rfl hlk hS (by simp only [an_serial, if_pos c_2]; exact zT0r hXI hj (by unfold cd_serial; simp [w_1, c_2]) rfl) (by decide) (by decide) d_RR_serial_59
    · refine lv_iconst (v := 1) hx hb d_RR_serial_33 (by decide) ?_
      refine lv_goto (tgt := 38) hx hb d_RR_serial_34 (by decide) ?_
      refine z_put (ci := 2) (C := R_RE) (T := F_RE) (N := 15) (ty := .boolean) (fs' := [.ref (sd (I j)), .int (F j 1), .int (F j 2), .int (F j 3), .int (F j 4), .int (F j 5), .int 1, .int (F j 7), .int (F j 8), .int (F j 9), .int (F j 10), .int (F j 11), .int (F j 12), .int (F j 13), .int (F j 14)]) hx hb hts j_RE t_RE t_RE_ok n_RE hown hK hS (hRr j hj) rfl 6 (by decide) (hk k_278 rfl) (fun _ h9 => h9) rfl (by decide +kernel) rfl rfl (Nat.le_of_ble_eq_true rfl) d_RR_serial_38 rfl (fun H locs hS => ?_)
      have e_10 : (z_up X (rd j) (.inr (2, [.ref (sd (I j)), .int (F j 1), .int (F j 2), .int (F j 3), .int (F j 4), .int (F j 5), .int 1, .int (F j 7), .int (F j 8), .int (F j 9), .int (F j 10), .int (F j 11), .int (F j 12), .int (F j 13), .int (F j 14)]))) x = some (.inr (0, [.ref sA, .ref rA, .int (nI n), .int (nI k), .int td])) := (z_ne (z_oo hxx (hRr j hj) (by decide))).trans hxx
      have e_11 : (z_up X (rd j) (.inr (2, [.ref (sd (I j)), .int (F j 1), .int (F j 2), .int (F j 3), .int (F j 4), .int (F j 5), .int 1, .int (F j 7), .int (F j 8), .int (F j 9), .int (F j 10), .int (F j 11), .int (F j 12), .int (F j 13), .int (F j 14)]))) sA = some (.inl (cS, 20, .inr (.inr (.inr (.inr (fun i => if i < n then some (sd i) else none)))))) := (z_ne (z_ao hsA (hRr j hj))).trans hsA
      have e_12 : (z_up X (rd j) (.inr (2, [.ref (sd (I j)), .int (F j 1), .int (F j 2), .int (F j 3), .int (F j 4), .int (F j 5), .int 1, .int (F j 7), .int (F j 8), .int (F j 9), .int (F j 10), .int (F j 11), .int (F j 12), .int (F j 13), .int (F j 14)]))) rA = some (.inl (cR, 20, .inr (.inr (.inr (.inr (fun i => if i < k then some (rd i) else none)))))) := (z_ne (z_ao hrA (hRr j hj))).trans hrA
      have e_13 : (z_up X (rd j) (.inr (2, [.ref (sd (I j)), .int (F j 1), .int (F j 2), .int (F j 3), .int (F j 4), .int (F j 5), .int 1, .int (F j 7), .int (F j 8), .int (F j 9), .int (F j 10), .int (F j 11), .int (F j 12), .int (F j 13), .int (F j 14)]))) (sd (I j)) = some (.inr (1, [.int (nI (I j)), .int (S (I j) 1), .int (S (I j) 2), .int (S (I j) 3), .int (S (I j) 4), .int (S (I j) 5)])) := (z_ne (z_oo (hSs (I j) (hIn j hj)) (hRr j hj) (by decide))).trans (hSs (I j) (hIn j hj))
      have e_14 : (z_up X (rd j) (.inr (2, [.ref (sd (I j)), .int (F j 1), .int (F j 2), .int (F j 3), .int (F j 4), .int (F j 5), .int 1, .int (F j 7), .int (F j 8), .int (F j 9), .int (F j 10), .int (F j 11), .int (F j 12), .int (F j 13), .int (F j 14)]))) (sd i) = some (.inr (1, [.int (nI i), .int (S i 1), .int (S i 2), .int (S i 3), .int (S i 4), .int (S i 5)])) := (z_ne (z_oo (hSs i hi) (hRr j hj) (by decide))).trans (hSs i hi)
      have e_15 : (z_up X (rd j) (.inr (2, [.ref (sd (I j)), .int (F j 1), .int (F j 2), .int (F j 3), .int (F j 4), .int (F j 5), .int 1, .int (F j 7), .int (F j 8), .int (F j 9), .int (F j 10), .int (F j 11), .int (F j 12), .int (F j 13), .int (F j 14)]))) (rd j) = some (.inr (2, [.ref (sd (I j)), .int (F j 1), .int (F j 2), .int (F j 3), .int (F j 4), .int (F j 5), .int 1, .int (F j 7), .int (F j 8), .int (F j 9), .int (F j 10), .int (F j 11), .int (F j 12), .int (F j 13), .int (F j 14)])) := z_eq _ _ _
      refine lv_aload_n hx hb d_RR_serial_41 rfl (lv_at hl 1 rfl) ?_
      refine z_get (ci := 2) (C := R_RE) (T := F_RE) (N := 15) hx hb hts j_RE hown hK hS e_15 rfl 6 (by decide) (hk k_278 rfl) (fun _ h9 => h9) rfl d_RR_serial_42 ?_
      refine lv_if_eq (tgt := 58) hx hb d_RR_serial_45 (by decide) (fun c_16 => absurd c_16 (by decide)) (fun c_16 => ?_)
      refine lv_iconst (v := (-1)) hx hb d_RR_serial_48 (by decide) ?_
      refine lv_aload hx hb d_RR_serial_49 (lv_at hl 0 rfl) ?_
      refine z_get (ci := 1) (C := R_SA) (T := F_SA) (N := 6) hx hb hts j_SA hown hK hS e_14 rfl 0 (by decide) (hk k_190 rfl) (fun _ h9 => h9) rfl d_RR_serial_51 ?_
      refine lv_isub hx hb d_RR_serial_54 ?_
      refine lv_goto (tgt := 59) hx hb d_RR_serial_55 (by decide) ?_
      exact z_Ciret hx hb hr rfl hlk hS (by simp only [an_serial, if_neg c_2]; exact zT0r hXI hj (by unfold cd_serial; simp [w_1, c_2]) rfl) (by decide) (by decide) d_RR_serial_59
  · exact z_pCX (E := E_ISE) (n_RR_RR_requireHere hx hown hG (by rw [hb]; exact d_RR_serial_14)) hb (hl.1.trans hml.symm) (c_RR_requireHere l hl9 (rd j) (sd (I j)) (F j) (hRr j hj)) (if_neg w_1) (z_Gkeeps lo tP) hG hK hS (cw_RR_requireHere hG (by decide) (by decide)) d_RR_serial_14 (Nat.le_of_ble_eq_true rfl) (by decide) (by decide) hout hlk (zT1 1 (by unfold cd_serial; simp [w_1]) rfl) (by decide) (by decide)
set_option maxHeartbeats 4000000 in
set_option maxRecDepth 100000 in
theorem c_RR_quarantine_no (l : Launch) (hl9 : l.stackTraces = false) {D : va_G} {cS cR cJ cI cZ : ClassId} {lo tP : Nat} (v : Int32) (p0 : Int32) (a9 : Option Value) (N9 : zM → Prop) {x sA rA n k : Nat} {td : Int32} {sd rd : Nat → Nat} {S : Nat → Nat → Int32} {I : Nat → Nat} {F : Nat → Nat → Int32} {X : zM} (hXI : XI x sA rA cS cR n k td sd rd S I F X) (hv : ¬ z_rg v 1 (nI k)) : z_C (z_G lo tP) D cls4 (zty cS cR cJ cI cZ) lo l y_RR_quarantine w_RR_quarantine zr1 [.ref x, .int v, .int p0] X (zT [E_NSE, E_ISE] 1 a9 X N9) := by
  refine z_ofW (by decide) ?_
  intro p e s m args below meth c s₁ B hml hout hv
  obtain ⟨rfl, hG, hK, hW0, hXl, hlo⟩ := hv
  have hx := B.exec
  have hb := B.bytes
  have hr := B.returns
  have hlk := B.notSynchronized
  have hown : s.vm.findClass R_RR = some m.cls := findClass_of_methodNamed B.named
  have hts : ∀ w9 ∈ z_tb, w9.before ([.ref x, .int v, .int p0] : List Value).toArray s = true := hG.ts _
  have hk : ∀ {w9 : Cond}, w9 ∈ lw_tbl → z_ok w9 = true → w9.before ([.ref x, .int v, .int p0] : List Value).toArray s = true := fun h1 h2 => hG.w h1 h2 _
  have hg : z_Gr s.heap s.heap := z_Gr.rf
  have hS := z_S.start hW0 hXl hlo
  have hl := lv_entry ([.ref x, .int v, .int p0]) (n := 4) (Nat.le_of_ble_eq_true rfl)
  rw [lg_entry_eq]
  generalize (lg_sl ([.ref x, .int v, .int p0]) ++ List.replicate (4 - (lg_sl ([.ref x, .int v, .int p0])).length) Slot.unset).toArray = ls at hl ⊢
  have hl : lv_has ls 4 [(0, .ref x), (1, .int v), (2, .int p0)] := hl
  obtain ⟨hxx, hsA, hrA, hSs, hRr, hIn, hn, hkk, hjs, hjr, hAne⟩ := id hXI
  refine lv_aload_n hx hb d_RR_quarantine_0 rfl (lv_at hl 0 rfl) ?_
  refine lv_iload_n hx hb d_RR_quarantine_1 rfl (lv_at hl 1 rfl) ?_
  exact z_pCX (E := E_NSE) (n_RR_RR_returnAt hx hown hG (va_recv hK (hS.1.one hxx) (ci := 0) (q0 := 0) rfl rfl) (by rw [hb]; exact d_RR_quarantine_2)) hb (hl.1.trans hml.symm) (c_RR_returnAt l hl9 x sA rA n k td rd v hxx hrA hkk) (if_neg hv) (z_Gkeeps lo tP) hG hK hS (cw_RR_returnAt hG (by decide) (by decide)) d_RR_quarantine_2 (Nat.le_of_ble_eq_true rfl) (by decide) (by decide) hout hlk (zT1 0 rfl rfl) (by decide) (by decide)
set_option maxHeartbeats 4000000 in
set_option maxRecDepth 100000 in
theorem c_RR_quarantine (l : Launch) (hl9 : l.stackTraces = false) {D : va_G} {cS cR cJ cI cZ : ClassId} {lo tP : Nat} {j : Nat} (p0 : Int32) {x sA rA n k : Nat} {td : Int32} {sd rd : Nat → Nat} {S : Nat → Nat → Int32} {I : Nat → Nat} {F : Nat → Nat → Int32} {X : zM} (hXI : XI x sA rA cS cR n k td sd rd S I F X) (hj : j < k) (hb01 : p0 = 0 ∨ p0 = 1) : z_C (z_G lo tP) D cls4 (zty cS cR cJ cI cZ) lo l y_RR_quarantine w_RR_quarantine zr1 [.ref x, .int (nI (j + 1)), .int p0] X (zT [E_NSE, E_ISE] (cd_quarantine (F j) p0) none X (YI x cS cR ⟨n, k, td, S, I, zfr F j (zfs (F j) 5 p0)⟩)) := by
  refine z_ofW (by decide) ?_
  intro p e s m args below meth c s₁ B hml hout hv
  obtain ⟨rfl, hG, hK, hW0, hXl, hlo⟩ := hv
  have hx := B.exec
  have hb := B.bytes
  have hr := B.returns
  have hlk := B.notSynchronized
  have hown : s.vm.findClass R_RR = some m.cls := findClass_of_methodNamed B.named
  have hts : ∀ w9 ∈ z_tb, w9.before ([.ref x, .int (nI (j + 1)), .int p0] : List Value).toArray s = true := hG.ts _
  have hk : ∀ {w9 : Cond}, w9 ∈ lw_tbl → z_ok w9 = true → w9.before ([.ref x, .int (nI (j + 1)), .int p0] : List Value).toArray s = true := fun h1 h2 => hG.w h1 h2 _
  have hg : z_Gr s.heap s.heap := z_Gr.rf
  have hS := z_S.start hW0 hXl hlo
  have hl := lv_entry ([.ref x, .int (nI (j + 1)), .int p0]) (n := 4) (Nat.le_of_ble_eq_true rfl)
  rw [lg_entry_eq]
  generalize (lg_sl ([.ref x, .int (nI (j + 1)), .int p0]) ++ List.replicate (4 - (lg_sl ([.ref x, .int (nI (j + 1)), .int p0])).length) Slot.unset).toArray = ls at hl ⊢
  have hl : lv_has ls 4 [(0, .ref x), (1, .int (nI (j + 1))), (2, .int p0)] := hl
  obtain ⟨hxx, hsA, hrA, hSs, hRr, hIn, hn, hkk, hjs, hjr, hAne⟩ := id hXI
  refine lv_aload_n hx hb d_RR_quarantine_0 rfl (lv_at hl 0 rfl) ?_
  refine lv_iload_n hx hb d_RR_quarantine_1 rfl (lv_at hl 1 rfl) ?_
  refine z_pa (n_RR_RR_returnAt hx hown hG (va_recv hK (hS.1.one hxx) (ci := 0) (q0 := 0) rfl rfl) (by rw [hb]; exact d_RR_quarantine_2)) hb (hl.1.trans hml.symm) (c_RR_returnAt l hl9 x sA rA n k td rd (nI (j + 1)) hxx hrA hkk) (by rw [if_pos ((z_rg1 (by omega) hkk).mpr hj), nI_clamp (show j + 1 < 2 ^ 31 by omega), Nat.add_sub_cancel]) (z_Gkeeps lo tP) hG hK hS (cw_RR_returnAt hG (by decide) (by decide)) d_RR_quarantine_2 (Nat.le_of_ble_eq_true rfl) (by decide) (by decide) (fun H hq hS => ?_)
  refine lv_astore_n (lv' := [(3, .ref (rd j)), (0, .ref x), (1, .int (nI (j + 1))), (2, .int p0)]) hx hb d_RR_quarantine_5 rfl hl (by decide) rfl (fun ls hl => ?_)
  refine lv_aload_n hx hb d_RR_quarantine_6 rfl (lv_at hl 0 rfl) ?_
  refine z_get (ci := 2) (C := R_RE) (T := F_RE) (N := 15) hx hb hts j_RE hown hK hS (hRr j hj) rfl 5 (by decide) (hk k_276 rfl) (fun _ h9 => h9) rfl d_RR_quarantine_7 ?_
  refine lv_iload_n hx hb d_RR_quarantine_10 rfl (lv_at hl 3 rfl) ?_
  refine lv_icmp_ne (tgt := 24) hx hb d_RR_quarantine_11 (by decide) (fun c_1 => ?_) (fun c_1 => ?_)
  · refine lv_iload_n hx hb d_RR_quarantine_24 rfl (lv_at hl 3 rfl) ?_
    refine lv_if_eq (tgt := 32) hx hb d_RR_quarantine_25 (by decide) (fun c_2 => ?_) (fun c_2 => ?_)
    · refine lv_aload_n hx hb d_RR_quarantine_32 rfl (lv_at hl 0 rfl) ?_
      refine lv_iload_n hx hb d_RR_quarantine_33 rfl (lv_at hl 3 rfl) ?_
      refine z_put (ci := 2) (C := R_RE) (T := F_RE) (N := 15) (ty := .boolean) (fs' := [.ref (sd (I j)), .int (F j 1), .int (F j 2), .int (F j 3), .int (F j 4), .int p0, .int (F j 6), .int (F j 7), .int (F j 8), .int (F j 9), .int (F j 10), .int (F j 11), .int (F j 12), .int (F j 13), .int (F j 14)]) hx hb hts j_RE t_RE t_RE_ok n_RE hown hK hS (hRr j hj) rfl 5 (by decide) (hk k_276 rfl) (fun _ h9 => h9) rfl (by decide +kernel) (z_bn hb01) (z_bf hb01) (Nat.le_of_ble_eq_true rfl) d_RR_quarantine_34 rfl (fun H locs hS => ?_)
      have e_3 : (z_up X (rd j) (.inr (2, [.ref (sd (I j)), .int (F j 1), .int (F j 2), .int (F j 3), .int (F j 4), .int p0, .int (F j 6), .int (F j 7), .int (F j 8), .int (F j 9), .int (F j 10), .int (F j 11), .int (F j 12), .int (F j 13), .int (F j 14)]))) x = some (.inr (0, [.ref sA, .ref rA, .int (nI n), .int (nI k), .int td])) := (z_ne (z_oo hxx (hRr j hj) (by decide))).trans hxx
      have e_4 : (z_up X (rd j) (.inr (2, [.ref (sd (I j)), .int (F j 1), .int (F j 2), .int (F j 3), .int (F j 4), .int p0, .int (F j 6), .int (F j 7), .int (F j 8), .int (F j 9), .int (F j 10), .int (F j 11), .int (F j 12), .int (F j 13), .int (F j 14)]))) sA = some (.inl (cS, 20, .inr (.inr (.inr (.inr (fun i => if i < n then some (sd i) else none)))))) := (z_ne (z_ao hsA (hRr j hj))).trans hsA
      have e_5 : (z_up X (rd j) (.inr (2, [.ref (sd (I j)), .int (F j 1), .int (F j 2), .int (F j 3), .int (F j 4), .int p0, .int (F j 6), .int (F j 7), .int (F j 8), .int (F j 9), .int (F j 10), .int (F j 11), .int (F j 12), .int (F j 13), .int (F j 14)]))) rA = some (.inl (cR, 20, .inr (.inr (.inr (.inr (fun i => if i < k then some (rd i) else none)))))) := (z_ne (z_ao hrA (hRr j hj))).trans hrA
      have e_6 : (z_up X (rd j) (.inr (2, [.ref (sd (I j)), .int (F j 1), .int (F j 2), .int (F j 3), .int (F j 4), .int p0, .int (F j 6), .int (F j 7), .int (F j 8), .int (F j 9), .int (F j 10), .int (F j 11), .int (F j 12), .int (F j 13), .int (F j 14)]))) (sd (I j)) = some (.inr (1, [.int (nI (I j)), .int (S (I j) 1), .int (S (I j) 2), .int (S (I j) 3), .int (S (I j) 4), .int (S (I j) 5)])) := (z_ne (z_oo (hSs (I j) (hIn j hj)) (hRr j hj) (by decide))).trans (hSs (I j) (hIn j hj))
      have e_7 : (z_up X (rd j) (.inr (2, [.ref (sd (I j)), .int (F j 1), .int (F j 2), .int (F j 3), .int (F j 4), .int p0, .int (F j 6), .int (F j 7), .int (F j 8), .int (F j 9), .int (F j 10), .int (F j 11), .int (F j 12), .int (F j 13), .int (F j 14)]))) (rd j) = some (.inr (2, [.ref (sd (I j)), .int (F j 1), .int (F j 2), .int (F j 3), .int (F j 4), .int p0, .int (F j 6), .int (F j 7), .int (F j 8), .int (F j 9), .int (F j 10), .int (F j 11), .int (F j 12), .int (F j 13), .int (F j 14)])) := z_eq _ _ _
      exact z_Cvret hx hb hr hlk hS (zT0r hXI hj (if_neg (fun h => h.elim c_1 (fun h => h.1 c_2))) rfl) (by decide) (by decide) d_RR_quarantine_37
    · refine lv_aload_n hx hb d_RR_quarantine_28 rfl (lv_at hl 0 rfl) ?_
      by_cases w_8 : F j 3 = 2 ∨ F j 3 = 3
      · refine z_pv (n_RR_RR_requireHereOrGraded hx hown hG (by rw [hb]; exact d_RR_quarantine_29)) hb (hl.1.trans hml.symm) (c_RR_requireHereOrGraded l hl9 (rd j) (sd (I j)) (F j) (hRr j hj)) (if_pos w_8) (z_Gkeeps lo tP) hG hK hS (cw_RR_requireHereOrGraded hG (by decide) (by decide)) d_RR_quarantine_29 (Nat.le_of_ble_eq_true rfl) (by decide) (by decide) (fun H hq hS => ?_)
        refine lv_aload_n hx hb d_RR_quarantine_32 rfl (lv_at hl 0 rfl) ?_
        refine lv_iload_n hx hb d_RR_quarantine_33 rfl (lv_at hl 3 rfl) ?_
        refine z_put (ci := 2) (C := R_RE) (T := F_RE) (N := 15) (ty := .boolean) (fs' := [.ref (sd (I j)), .int (F j 1), .int (F j 2), .int (F j 3), .int (F j 4), .int p0, .int (F j 6), .int (F j 7), .int (F j 8), .int (F j 9), .int (F j 10), .int (F j 11), .int (F j 12), .int (F j 13), .int (F j 14)]) hx hb hts j_RE t_RE t_RE_ok n_RE hown hK hS (hRr j hj) rfl 5 (by decide) (hk k_276 rfl) (fun _ h9 => h9) rfl (by decide +kernel) (z_bn hb01) (z_bf hb01) (Nat.le_of_ble_eq_true rfl) d_RR_quarantine_34 rfl (fun H locs hS => ?_)
        have e_9 : (z_up X (rd j) (.inr (2, [.ref (sd (I j)), .int (F j 1), .int (F j 2), .int (F j 3), .int (F j 4), .int p0, .int (F j 6), .int (F j 7), .int (F j 8), .int (F j 9), .int (F j 10), .int (F j 11), .int (F j 12), .int (F j 13), .int (F j 14)]))) x = some (.inr (0, [.ref sA, .ref rA, .int (nI n), .int (nI k), .int td])) := (z_ne (z_oo hxx (hRr j hj) (by decide))).trans hxx
        have e_10 : (z_up X (rd j) (.inr (2, [.ref (sd (I j)), .int (F j 1), .int (F j 2), .int (F j 3), .int (F j 4), .int p0, .int (F j 6), .int (F j 7), .int (F j 8), .int (F j 9), .int (F j 10), .int (F j 11), .int (F j 12), .int (F j 13), .int (F j 14)]))) sA = some (.inl (cS, 20, .inr (.inr (.inr (.inr (fun i => if i < n then some (sd i) else none)))))) := (z_ne (z_ao hsA (hRr j hj))).trans hsA
        have e_11 : (z_up X (rd j) (.inr (2, [.ref (sd (I j)), .int (F j 1), .int (F j 2), .int (F j 3), .int (F j 4), .int p0, .int (F j 6), .int (F j 7), .int (F j 8), .int (F j 9), .int (F j 10), .int (F j 11), .int (F j 12), .int (F j 13), .int (F j 14)]))) rA = some (.inl (cR, 20, .inr (.inr (.inr (.inr (fun i => if i < k then some (rd i) else none)))))) := (z_ne (z_ao hrA (hRr j hj))).trans hrA
        have e_12 : (z_up X (rd j) (.inr (2, [.ref (sd (I j)), .int (F j 1), .int (F j 2), .int (F j 3), .int (F j 4), .int p0, .int (F j 6), .int (F j 7), .int (F j 8), .int (F j 9), .int (F j 10), .int (F j 11), .int (F j 12), .int (F j 13), .int (F j 14)]))) (sd (I j)) = some (.inr (1, [.int (nI (I j)), .int (S (I j) 1), .int (S (I j) 2), .int (S (I j) 3), .int (S (I j) 4), .int (S (I j) 5)])) := (z_ne (z_oo (hSs (I j) (hIn j hj)) (hRr j hj) (by decide))).trans (hSs (I j) (hIn j hj))
        have e_13 : (z_up X (rd j) (.inr (2, [.ref (sd (I j)), .int (F j 1), .int (F j 2), .int (F j 3), .int (F j 4), .int p0, .int (F j 6), .int (F j 7), .int (F j 8), .int (F j 9), .int (F j 10), .int (F j 11), .int (F j 12), .int (F j 13), .int (F j 14)]))) (rd j) = some (.inr (2, [.ref (sd (I j)), .int (F j 1), .int (F j 2), .int (F j 3), .int (F j 4), .int p0, .int (F j 6), .int (F j 7), .int (F j 8), .int (F j 9), .int (F j 10), .int (F j 11), .int (F j 12), .int (F j 13), .int (F j 14)])) := z_eq _ _ _
        exact z_Cvret hx hb hr hlk hS (zT0r hXI hj (if_neg (fun h => h.elim c_1 (fun h => h.2 w_8))) rfl) (by decide) (by decide) d_RR_quarantine_37
      · exact z_pCX (E := E_ISE) (n_RR_RR_requireHereOrGraded hx hown hG (by rw [hb]; exact d_RR_quarantine_29)) hb (hl.1.trans hml.symm) (c_RR_requireHereOrGraded l hl9 (rd j) (sd (I j)) (F j) (hRr j hj)) (if_neg w_8) (z_Gkeeps lo tP) hG hK hS (cw_RR_requireHereOrGraded hG (by decide) (by decide)) d_RR_quarantine_29 (Nat.le_of_ble_eq_true rfl) (by decide) (by decide) hout hlk (zT1 1 (by unfold cd_quarantine; simp [c_1, c_2, w_8]) rfl) (by decide) (by decide)
  · exact th_ISE hx hb hl9 hown hG (hl.1.trans hml.symm) hout hlk (is := 95) (text := "the quarantine is so already") (by decide +kernel) d_RR_quarantine_14 d_RR_quarantine_17 d_RR_quarantine_18 d_RR_quarantine_20 d_RR_quarantine_23 (z_teC hW0 (zT1 1 (by unfold cd_quarantine; simp [c_1]) rfl)) (by decide) (Nat.le_of_ble_eq_true rfl) (by decide) (by decide) (by decide) (by decide)
set_option maxHeartbeats 4000000 in
set_option maxRecDepth 100000 in
theorem c_RR_check_no (l : Launch) (hl9 : l.stackTraces = false) {D : va_G} {cS cR cJ cI cZ : ClassId} {lo tP : Nat} (v : Int32) (p0 p1 : Int32) (a9 : Option Value) (N9 : zM → Prop) {x sA rA n k : Nat} {td : Int32} {sd rd : Nat → Nat} {S : Nat → Nat → Int32} {I : Nat → Nat} {F : Nat → Nat → Int32} {X : zM} (hXI : XI x sA rA cS cR n k td sd rd S I F X) (hv : ¬ z_rg v 1 (nI k)) : z_C (z_G lo tP) D cls4 (zty cS cR cJ cI cZ) lo l y_RR_check w_RR_check zr1 [.ref x, .int v, .int p0, .int p1] X (zT [E_NSE, E_IAE, E_ISE] 1 a9 X N9) := by
  refine z_ofW (by decide) ?_
  intro p e s m args below meth c s₁ B hml hout hv
  obtain ⟨rfl, hG, hK, hW0, hXl, hlo⟩ := hv
  have hx := B.exec
  have hb := B.bytes
  have hr := B.returns
  have hlk := B.notSynchronized
  have hown : s.vm.findClass R_RR = some m.cls := findClass_of_methodNamed B.named
  have hts : ∀ w9 ∈ z_tb, w9.before ([.ref x, .int v, .int p0, .int p1] : List Value).toArray s = true := hG.ts _
  have hk : ∀ {w9 : Cond}, w9 ∈ lw_tbl → z_ok w9 = true → w9.before ([.ref x, .int v, .int p0, .int p1] : List Value).toArray s = true := fun h1 h2 => hG.w h1 h2 _
  have hg : z_Gr s.heap s.heap := z_Gr.rf
  have hS := z_S.start hW0 hXl hlo
  have hl := lv_entry ([.ref x, .int v, .int p0, .int p1]) (n := 6) (Nat.le_of_ble_eq_true rfl)
  rw [lg_entry_eq]
  generalize (lg_sl ([.ref x, .int v, .int p0, .int p1]) ++ List.replicate (6 - (lg_sl ([.ref x, .int v, .int p0, .int p1])).length) Slot.unset).toArray = ls at hl ⊢
  have hl : lv_has ls 6 [(0, .ref x), (1, .int v), (2, .int p0), (3, .int p1)] := hl
  obtain ⟨hxx, hsA, hrA, hSs, hRr, hIn, hn, hkk, hjs, hjr, hAne⟩ := id hXI
  refine lv_aload_n hx hb d_RR_check_0 rfl (lv_at hl 0 rfl) ?_
  refine lv_iload_n hx hb d_RR_check_1 rfl (lv_at hl 1 rfl) ?_
  exact z_pCX (E := E_NSE) (n_RR_RR_returnAt hx hown hG (va_recv hK (hS.1.one hxx) (ci := 0) (q0 := 0) rfl rfl) (by rw [hb]; exact d_RR_check_2)) hb (hl.1.trans hml.symm) (c_RR_returnAt l hl9 x sA rA n k td rd v hxx hrA hkk) (if_neg hv) (z_Gkeeps lo tP) hG hK hS (cw_RR_returnAt hG (by decide) (by decide)) d_RR_check_2 (Nat.le_of_ble_eq_true rfl) (by decide) (by decide) hout hlk (zT1 0 rfl rfl) (by decide) (by decide)
set_option maxHeartbeats 4000000 in
set_option maxRecDepth 100000 in
theorem c_RR_check (l : Launch) (hl9 : l.stackTraces = false) {D : va_G} {cS cR cJ cI cZ : ClassId} {lo tP : Nat} {j : Nat} (p0 p1 : Int32) {x sA rA n k : Nat} {td : Int32} {sd rd : Nat → Nat} {S : Nat → Nat → Int32} {I : Nat → Nat} {F : Nat → Nat → Int32} {X : zM} (hXI : XI x sA rA cS cR n k td sd rd S I F X) (hj : j < k) : z_C (z_G lo tP) D cls4 (zty cS cR cJ cI cZ) lo l y_RR_check w_RR_check zr1 [.ref x, .int (nI (j + 1)), .int p0, .int p1] X (zT [E_NSE, E_IAE, E_ISE] (cd_check (F j) p0) (some (.int (z_bc (an_check (F j) p0 p1)))) X (YI x cS cR ⟨n, k, td, S, I, zfr F j (zfs (F j) 7 (an_check (F j) p0 p1))⟩)) := by
  refine z_ofW (by decide) ?_
  intro p e s m args below meth c s₁ B hml hout hv
  obtain ⟨rfl, hG, hK, hW0, hXl, hlo⟩ := hv
  have hx := B.exec
  have hb := B.bytes
  have hr := B.returns
  have hlk := B.notSynchronized
  have hown : s.vm.findClass R_RR = some m.cls := findClass_of_methodNamed B.named
  have hts : ∀ w9 ∈ z_tb, w9.before ([.ref x, .int (nI (j + 1)), .int p0, .int p1] : List Value).toArray s = true := hG.ts _
  have hk : ∀ {w9 : Cond}, w9 ∈ lw_tbl → z_ok w9 = true → w9.before ([.ref x, .int (nI (j + 1)), .int p0, .int p1] : List Value).toArray s = true := fun h1 h2 => hG.w h1 h2 _
  have hg : z_Gr s.heap s.heap := z_Gr.rf
  have hS := z_S.start hW0 hXl hlo
  have hl := lv_entry ([.ref x, .int (nI (j + 1)), .int p0, .int p1]) (n := 6) (Nat.le_of_ble_eq_true rfl)
  rw [lg_entry_eq]
  generalize (lg_sl ([.ref x, .int (nI (j + 1)), .int p0, .int p1]) ++ List.replicate (6 - (lg_sl ([.ref x, .int (nI (j + 1)), .int p0, .int p1])).length) Slot.unset).toArray = ls at hl ⊢
  have hl : lv_has ls 6 [(0, .ref x), (1, .int (nI (j + 1))), (2, .int p0), (3, .int p1)] := hl
  obtain ⟨hxx, hsA, hrA, hSs, hRr, hIn, hn, hkk, hjs, hjr, hAne⟩ := id hXI
  refine lv_aload_n hx hb d_RR_check_0 rfl (lv_at hl 0 rfl) ?_
  refine lv_iload_n hx hb d_RR_check_1 rfl (lv_at hl 1 rfl) ?_
  refine z_pa (n_RR_RR_returnAt hx hown hG (va_recv hK (hS.1.one hxx) (ci := 0) (q0 := 0) rfl rfl) (by rw [hb]; exact d_RR_check_2)) hb (hl.1.trans hml.symm) (c_RR_returnAt l hl9 x sA rA n k td rd (nI (j + 1)) hxx hrA hkk) (by rw [if_pos ((z_rg1 (by omega) hkk).mpr hj), nI_clamp (show j + 1 < 2 ^ 31 by omega), Nat.add_sub_cancel]) (z_Gkeeps lo tP) hG hK hS (cw_RR_returnAt hG (by decide) (by decide)) d_RR_check_2 (Nat.le_of_ble_eq_true rfl) (by decide) (by decide) (fun H hq hS => ?_)
  refine lv_astore (lv' := [(4, .ref (rd j)), (0, .ref x), (1, .int (nI (j + 1))), (2, .int p0), (3, .int p1)]) hx hb d_RR_check_5 hl (by decide) rfl (fun ls hl => ?_)
  refine lv_iload_n hx hb d_RR_check_7 rfl (lv_at hl 3 rfl) ?_
  refine lv_iconst (v := 0) hx hb d_RR_check_8 (by decide) ?_
  refine lv_iconst (v := 4) hx hb d_RR_check_9 (by decide) ?_
  by_cases w_1 : z_rg p0 0 4
  · refine z_pv (n_RR_RR_requireWithin hx hown hG (by rw [hb]; exact d_RR_check_10)) hb (hl.1.trans hml.symm) (c_RR_requireWithin l hl9 p0 0 4) (if_pos w_1) (z_Gkeeps lo tP) hG hK hS (cw_RR_requireWithin hG (by decide) (by decide)) d_RR_check_10 (Nat.le_of_ble_eq_true rfl) (by decide) (by decide) (fun H hq hS => ?_)
    refine lv_aload hx hb d_RR_check_13 (lv_at hl 0 rfl) ?_
    by_cases w_2 : F j 3 = 2
    · refine z_pv (n_RR_RR_requireHere hx hown hG (by rw [hb]; exact d_RR_check_15)) hb (hl.1.trans hml.symm) (c_RR_requireHere l hl9 (rd j) (sd (I j)) (F j) (hRr j hj)) (if_pos w_2) (z_Gkeeps lo tP) hG hK hS (cw_RR_requireHere hG (by decide) (by decide)) d_RR_check_15 (Nat.le_of_ble_eq_true rfl) (by decide) (by decide) (fun H hq hS => ?_)
      refine lv_iconst (v := 1) hx hb d_RR_check_18 (by decide) ?_
      refine lv_iload_n hx hb d_RR_check_19 rfl (lv_at hl 3 rfl) ?_
      refine lv_ishl hx hb d_RR_check_20 ?_
      refine lv_istore (lv' := [(5, .int ((1 : Int32) <<< (p0 &&& 31))), (4, .ref (rd j)), (0, .ref x), (1, .int (nI (j + 1))), (2, .int p0), (3, .int p1)]) hx hb d_RR_check_21 hl (by decide) rfl (fun ls hl => ?_)
      refine lv_aload hx hb d_RR_check_23 (lv_at hl 1 rfl) ?_
      refine lv_iload_n hx hb d_RR_check_25 rfl (lv_at hl 5 rfl) ?_
      refine lv_if_eq (tgt := 42) hx hb d_RR_check_26 (by decide) (fun c_3 => ?_) (fun c_3 => ?_)
      · refine lv_aload hx hb d_RR_check_42 (lv_at hl 1 rfl) ?_
        refine z_get (ci := 2) (C := R_RE) (T := F_RE) (N := 15) hx hb hts j_RE hown hK hS (hRr j hj) rfl 7 (by decide) (hk k_279 rfl) (fun _ h9 => h9) rfl d_RR_check_44 ?_
        refine lv_iload hx hb d_RR_check_47 (lv_at hl 0 rfl) ?_
        refine lv_ior hx hb d_RR_check_49 ?_
        refine z_put (ci := 2) (C := R_RE) (T := F_RE) (N := 15) (ty := .int) (fs' := [.ref (sd (I j)), .int (F j 1), .int (F j 2), .int (F j 3), .int (F j 4), .int (F j 5), .int (F j 6), .int ((F j 7) ||| ((1 : Int32) <<< (p0 &&& 31))), .int (F j 8), .int (F j 9), .int (F j 10), .int (F j 11), .int (F j 12), .int (F j 13), .int (F j 14)]) hx hb hts j_RE t_RE t_RE_ok n_RE hown hK hS (hRr j hj) rfl 7 (by decide) (hk k_279 rfl) (fun _ h9 => h9) rfl (by decide +kernel) rfl rfl (Nat.le_of_ble_eq_true rfl) d_RR_check_50 rfl (fun H locs hS => ?_)
        have e_4 : (z_up X (rd j) (.inr (2, [.ref (sd (I j)), .int (F j 1), .int (F j 2), .int (F j 3), .int (F j 4), .int (F j 5), .int (F j 6), .int ((F j 7) ||| ((1 : Int32) <<< (p0 &&& 31))), .int (F j 8), .int (F j 9), .int (F j 10), .int (F j 11), .int (F j 12), .int (F j 13), .int (F j 14)]))) x = some (.inr (0, [.ref sA, .ref rA, .int (nI n), .int (nI k), .int td])) := (z_ne (z_oo hxx (hRr j hj) (by decide))).trans hxx
        have e_5 : (z_up X (rd j) (.inr (2, [.ref (sd (I j)), .int (F j 1), .int (F j 2), .int (F j 3), .int (F j 4), .int (F j 5), .int (F j 6), .int ((F j 7) ||| ((1 : Int32) <<< (p0 &&& 31))), .int (F j 8), .int (F j 9), .int (F j 10), .int (F j 11), .int (F j 12), .int (F j 13), .int (F j 14)]))) sA = some (.inl (cS, 20, .inr (.inr (.inr (.inr (fun i => if i < n then some (sd i) else none)))))) := (z_ne (z_ao hsA (hRr j hj))).trans hsA
        have e_6 : (z_up X (rd j) (.inr (2, [.ref (sd (I j)), .int (F j 1), .int (F j 2), .int (F j 3), .int (F j 4), .int (F j 5), .int (F j 6), .int ((F j 7) ||| ((1 : Int32) <<< (p0 &&& 31))), .int (F j 8), .int (F j 9), .int (F j 10), .int (F j 11), .int (F j 12), .int (F j 13), .int (F j 14)]))) rA = some (.inl (cR, 20, .inr (.inr (.inr (.inr (fun i => if i < k then some (rd i) else none)))))) := (z_ne (z_ao hrA (hRr j hj))).trans hrA
        have e_7 : (z_up X (rd j) (.inr (2, [.ref (sd (I j)), .int (F j 1), .int (F j 2), .int (F j 3), .int (F j 4), .int (F j 5), .int (F j 6), .int ((F j 7) ||| ((1 : Int32) <<< (p0 &&& 31))), .int (F j 8), .int (F j 9), .int (F j 10), .int (F j 11), .int (F j 12), .int (F j 13), .int (F j 14)]))) (sd (I j)) = some (.inr (1, [.int (nI (I j)), .int (S (I j) 1), .int (S (I j) 2), .int (S (I j) 3), .int (S (I j) 4), .int (S (I j) 5)])) := (z_ne (z_oo (hSs (I j) (hIn j hj)) (hRr j hj) (by decide))).trans (hSs (I j) (hIn j hj))
        have e_8 : (z_up X (rd j) (.inr (2, [.ref (sd (I j)), .int (F j 1), .int (F j 2), .int (F j 3), .int (F j 4), .int (F j 5), .int (F j 6), .int ((F j 7) ||| ((1 : Int32) <<< (p0 &&& 31))), .int (F j 8), .int (F j 9), .int (F j 10), .int (F j 11), .int (F j 12), .int (F j 13), .int (F j 14)]))) (rd j) = some (.inr (2, [.ref (sd (I j)), .int (F j 1), .int (F j 2), .int (F j 3), .int (F j 4), .int (F j 5), .int (F j 6), .int ((F j 7) ||| ((1 : Int32) <<< (p0 &&& 31))), .int (F j 8), .int (F j 9), .int (F j 10), .int (F j 11), .int (F j 12), .int (F j 13), .int (F j 14)])) := z_eq _ _ _
        refine lv_aload hx hb d_RR_check_53 (lv_at hl 1 rfl) ?_
        refine z_get (ci := 2) (C := R_RE) (T := F_RE) (N := 15) hx hb hts j_RE hown hK hS e_8 rfl 7 (by decide) (hk k_279 rfl) (fun _ h9 => h9) rfl d_RR_check_55 ?_
        refine z_pi (n_RR_IN_bitCount hx hown hG (by rw [hb]; exact d_RR_check_58)) hb (hl.1.trans hml.symm) (c_IN_bitCount l hl9 ((F j 7) ||| ((1 : Int32) <<< (p0 &&& 31)))) (rfl) (z_Gkeeps lo tP) hG hK hS (cw_IN_bitCount hG (by decide) (by decide)) d_RR_check_58 (Nat.le_of_ble_eq_true rfl) (by decide) (by decide) (fun H hq hS => ?_)
        exact z_Ciret hx hb hr rfl hlk hS (by simp only [an_check, if_pos c_3]; exact zT0r hXI hj (by unfold cd_check; rw [if_pos w_1]; simp [w_2, c_3]) rfl) (by decide) (by decide) d_RR_check_61
      · refine lv_aload hx hb d_RR_check_29 (lv_at hl 1 rfl) ?_
        refine z_get (ci := 2) (C := R_RE) (T := F_RE) (N := 15) hx hb hts j_RE hown hK hS (hRr j hj) rfl 7 (by decide) (hk k_279 rfl) (fun _ h9 => h9) rfl d_RR_check_31 ?_
        refine lv_iload hx hb d_RR_check_34 (lv_at hl 0 rfl) ?_
        refine lv_iconst (v := (-1)) hx hb d_RR_check_36 (by decide) ?_
        refine lv_ixor hx hb d_RR_check_37 ?_
        refine lv_iand hx hb d_RR_check_38 ?_
        refine lv_goto (tgt := 50) hx hb d_RR_check_39 (by decide) ?_
        refine z_put (ci := 2) (C := R_RE) (T := F_RE) (N := 15) (ty := .int) (fs' := [.ref (sd (I j)), .int (F j 1), .int (F j 2), .int (F j 3), .int (F j 4), .int (F j 5), .int (F j 6), .int ((F j 7) &&& (((1 : Int32) <<< (p0 &&& 31)) ^^^ (-1))), .int (F j 8), .int (F j 9), .int (F j 10), .int (F j 11), .int (F j 12), .int (F j 13), .int (F j 14)]) hx hb hts j_RE t_RE t_RE_ok n_RE hown hK hS (hRr j hj) rfl 7 (by decide) (hk k_279 rfl) (fun _ h9 => h9) rfl (by decide +kernel) rfl rfl (Nat.le_of_ble_eq_true rfl) d_RR_check_50 rfl (fun H locs hS => ?_)
        have e_9 : (z_up X (rd j) (.inr (2, [.ref (sd (I j)), .int (F j 1), .int (F j 2), .int (F j 3), .int (F j 4), .int (F j 5), .int (F j 6), .int ((F j 7) &&& (((1 : Int32) <<< (p0 &&& 31)) ^^^ (-1))), .int (F j 8), .int (F j 9), .int (F j 10), .int (F j 11), .int (F j 12), .int (F j 13), .int (F j 14)]))) x = some (.inr (0, [.ref sA, .ref rA, .int (nI n), .int (nI k), .int td])) := (z_ne (z_oo hxx (hRr j hj) (by decide))).trans hxx
        have e_10 : (z_up X (rd j) (.inr (2, [.ref (sd (I j)), .int (F j 1), .int (F j 2), .int (F j 3), .int (F j 4), .int (F j 5), .int (F j 6), .int ((F j 7) &&& (((1 : Int32) <<< (p0 &&& 31)) ^^^ (-1))), .int (F j 8), .int (F j 9), .int (F j 10), .int (F j 11), .int (F j 12), .int (F j 13), .int (F j 14)]))) sA = some (.inl (cS, 20, .inr (.inr (.inr (.inr (fun i => if i < n then some (sd i) else none)))))) := (z_ne (z_ao hsA (hRr j hj))).trans hsA
        have e_11 : (z_up X (rd j) (.inr (2, [.ref (sd (I j)), .int (F j 1), .int (F j 2), .int (F j 3), .int (F j 4), .int (F j 5), .int (F j 6), .int ((F j 7) &&& (((1 : Int32) <<< (p0 &&& 31)) ^^^ (-1))), .int (F j 8), .int (F j 9), .int (F j 10), .int (F j 11), .int (F j 12), .int (F j 13), .int (F j 14)]))) rA = some (.inl (cR, 20, .inr (.inr (.inr (.inr (fun i => if i < k then some (rd i) else none)))))) := (z_ne (z_ao hrA (hRr j hj))).trans hrA
        have e_12 : (z_up X (rd j) (.inr (2, [.ref (sd (I j)), .int (F j 1), .int (F j 2), .int (F j 3), .int (F j 4), .int (F j 5), .int (F j 6), .int ((F j 7) &&& (((1 : Int32) <<< (p0 &&& 31)) ^^^ (-1))), .int (F j 8), .int (F j 9), .int (F j 10), .int (F j 11), .int (F j 12), .int (F j 13), .int (F j 14)]))) (sd (I j)) = some (.inr (1, [.int (nI (I j)), .int (S (I j) 1), .int (S (I j) 2), .int (S (I j) 3), .int (S (I j) 4), .int (S (I j) 5)])) := (z_ne (z_oo (hSs (I j) (hIn j hj)) (hRr j hj) (by decide))).trans (hSs (I j) (hIn j hj))
        have e_13 : (z_up X (rd j) (.inr (2, [.ref (sd (I j)), .int (F j 1), .int (F j 2), .int (F j 3), .int (F j 4), .int (F j 5), .int (F j 6), .int ((F j 7) &&& (((1 : Int32) <<< (p0 &&& 31)) ^^^ (-1))), .int (F j 8), .int (F j 9), .int (F j 10), .int (F j 11), .int (F j 12), .int (F j 13), .int (F j 14)]))) (rd j) = some (.inr (2, [.ref (sd (I j)), .int (F j 1), .int (F j 2), .int (F j 3), .int (F j 4), .int (F j 5), .int (F j 6), .int ((F j 7) &&& (((1 : Int32) <<< (p0 &&& 31)) ^^^ (-1))), .int (F j 8), .int (F j 9), .int (F j 10), .int (F j 11), .int (F j 12), .int (F j 13), .int (F j 14)])) := z_eq _ _ _
        refine lv_aload hx hb d_RR_check_53 (lv_at hl 1 rfl) ?_
        refine z_get (ci := 2) (C := R_RE) (T := F_RE) (N := 15) hx hb hts j_RE hown hK hS e_13 rfl 7 (by decide) (hk k_279 rfl) (fun _ h9 => h9) rfl d_RR_check_55 ?_
        refine z_pi (n_RR_IN_bitCount hx hown hG (by rw [hb]; exact d_RR_check_58)) hb (hl.1.trans hml.symm) (c_IN_bitCount l hl9 ((F j 7) &&& (((1 : Int32) <<< (p0 &&& 31)) ^^^ (-1)))) (rfl) (z_Gkeeps lo tP) hG hK hS (cw_IN_bitCount hG (by decide) (by decide)) d_RR_check_58 (Nat.le_of_ble_eq_true rfl) (by decide) (by decide) (fun H hq hS => ?_)
        exact z_Ciret hx hb hr rfl hlk hS (by simp only [an_check, if_neg c_3]; exact zT0r hXI hj (by unfold cd_check; rw [if_pos w_1]; simp [w_2, c_3]) rfl) (by decide) (by decide) d_RR_check_61
    · exact z_pCX (E := E_ISE) (n_RR_RR_requireHere hx hown hG (by rw [hb]; exact d_RR_check_15)) hb (hl.1.trans hml.symm) (c_RR_requireHere l hl9 (rd j) (sd (I j)) (F j) (hRr j hj)) (if_neg w_2) (z_Gkeeps lo tP) hG hK hS (cw_RR_requireHere hG (by decide) (by decide)) d_RR_check_15 (Nat.le_of_ble_eq_true rfl) (by decide) (by decide) hout hlk (zT1 2 (by unfold cd_check; rw [if_pos w_1]; simp [w_2]) rfl) (by decide) (by decide)
  · exact z_pCX (E := E_IAE) (n_RR_RR_requireWithin hx hown hG (by rw [hb]; exact d_RR_check_10)) hb (hl.1.trans hml.symm) (c_RR_requireWithin l hl9 p0 0 4) (if_neg w_1) (z_Gkeeps lo tP) hG hK hS (cw_RR_requireWithin hG (by decide) (by decide)) d_RR_check_10 (Nat.le_of_ble_eq_true rfl) (by decide) (by decide) hout hlk (zT1 1 (by unfold cd_check; rw [if_neg w_1]) rfl) (by decide) (by decide)
set_option maxHeartbeats 4000000 in
set_option maxRecDepth 100000 in
theorem c_RR_step_no (l : Launch) (hl9 : l.stackTraces = false) {D : va_G} {cS cR cJ cI cZ : ClassId} {lo tP : Nat} (v : Int32) (p0 : Int32) (a9 : Option Value) (N9 : zM → Prop) {x sA rA n k : Nat} {td : Int32} {sd rd : Nat → Nat} {S : Nat → Nat → Int32} {I : Nat → Nat} {F : Nat → Nat → Int32} {X : zM} (hXI : XI x sA rA cS cR n k td sd rd S I F X) (hv : ¬ z_rg v 1 (nI k)) : z_C (z_G lo tP) D cls4 (zty cS cR cJ cI cZ) lo l y_RR_step w_RR_step zr1 [.ref x, .int v, .int p0] X (zT [E_NSE, E_ISE] 1 a9 X N9) := by
  refine z_ofW (by decide) ?_
  intro p e s m args below meth c s₁ B hml hout hv
  obtain ⟨rfl, hG, hK, hW0, hXl, hlo⟩ := hv
  have hx := B.exec
  have hb := B.bytes
  have hr := B.returns
  have hlk := B.notSynchronized
  have hown : s.vm.findClass R_RR = some m.cls := findClass_of_methodNamed B.named
  have hts : ∀ w9 ∈ z_tb, w9.before ([.ref x, .int v, .int p0] : List Value).toArray s = true := hG.ts _
  have hk : ∀ {w9 : Cond}, w9 ∈ lw_tbl → z_ok w9 = true → w9.before ([.ref x, .int v, .int p0] : List Value).toArray s = true := fun h1 h2 => hG.w h1 h2 _
  have hg : z_Gr s.heap s.heap := z_Gr.rf
  have hS := z_S.start hW0 hXl hlo
  have hl := lv_entry ([.ref x, .int v, .int p0]) (n := 4) (Nat.le_of_ble_eq_true rfl)
  rw [lg_entry_eq]
  generalize (lg_sl ([.ref x, .int v, .int p0]) ++ List.replicate (4 - (lg_sl ([.ref x, .int v, .int p0])).length) Slot.unset).toArray = ls at hl ⊢
  have hl : lv_has ls 4 [(0, .ref x), (1, .int v), (2, .int p0)] := hl
  obtain ⟨hxx, hsA, hrA, hSs, hRr, hIn, hn, hkk, hjs, hjr, hAne⟩ := id hXI
  refine lv_aload_n hx hb d_RR_step_0 rfl (lv_at hl 0 rfl) ?_
  refine lv_iload_n hx hb d_RR_step_1 rfl (lv_at hl 1 rfl) ?_
  exact z_pCX (E := E_NSE) (n_RR_RR_returnAt hx hown hG (va_recv hK (hS.1.one hxx) (ci := 0) (q0 := 0) rfl rfl) (by rw [hb]; exact d_RR_step_2)) hb (hl.1.trans hml.symm) (c_RR_returnAt l hl9 x sA rA n k td rd v hxx hrA hkk) (if_neg hv) (z_Gkeeps lo tP) hG hK hS (cw_RR_returnAt hG (by decide) (by decide)) d_RR_step_2 (Nat.le_of_ble_eq_true rfl) (by decide) (by decide) hout hlk (zT1 0 rfl rfl) (by decide) (by decide)
set_option maxHeartbeats 4000000 in
set_option maxRecDepth 100000 in
theorem c_RR_step (l : Launch) (hl9 : l.stackTraces = false) {D : va_G} {cS cR cJ cI cZ : ClassId} {lo tP : Nat} {j : Nat} (p0 : Int32) {x sA rA n k : Nat} {td : Int32} {sd rd : Nat → Nat} {S : Nat → Nat → Int32} {I : Nat → Nat} {F : Nat → Nat → Int32} {X : zM} (hXI : XI x sA rA cS cR n k td sd rd S I F X) (hj : j < k) : z_C (z_G lo tP) D cls4 (zty cS cR cJ cI cZ) lo l y_RR_step w_RR_step zr1 [.ref x, .int (nI (j + 1)), .int p0] X (zT [E_NSE, E_ISE] (cd_step (F j)) (some (.int (an_steps (F j) p0))) X (YI x cS cR ⟨n, k, td, S, I, zfr F j (up_step (F j) p0)⟩)) := by
  refine z_ofW (by decide) ?_
  intro p e s m args below meth c s₁ B hml hout hv
  obtain ⟨rfl, hG, hK, hW0, hXl, hlo⟩ := hv
  have hx := B.exec
  have hb := B.bytes
  have hr := B.returns
  have hlk := B.notSynchronized
  have hown : s.vm.findClass R_RR = some m.cls := findClass_of_methodNamed B.named
  have hts : ∀ w9 ∈ z_tb, w9.before ([.ref x, .int (nI (j + 1)), .int p0] : List Value).toArray s = true := hG.ts _
  have hk : ∀ {w9 : Cond}, w9 ∈ lw_tbl → z_ok w9 = true → w9.before ([.ref x, .int (nI (j + 1)), .int p0] : List Value).toArray s = true := fun h1 h2 => hG.w h1 h2 _
  have hg : z_Gr s.heap s.heap := z_Gr.rf
  have hS := z_S.start hW0 hXl hlo
  have hl := lv_entry ([.ref x, .int (nI (j + 1)), .int p0]) (n := 4) (Nat.le_of_ble_eq_true rfl)
  rw [lg_entry_eq]
  generalize (lg_sl ([.ref x, .int (nI (j + 1)), .int p0]) ++ List.replicate (4 - (lg_sl ([.ref x, .int (nI (j + 1)), .int p0])).length) Slot.unset).toArray = ls at hl ⊢
  have hl : lv_has ls 4 [(0, .ref x), (1, .int (nI (j + 1))), (2, .int p0)] := hl
  obtain ⟨hxx, hsA, hrA, hSs, hRr, hIn, hn, hkk, hjs, hjr, hAne⟩ := id hXI
  refine lv_aload_n hx hb d_RR_step_0 rfl (lv_at hl 0 rfl) ?_
  refine lv_iload_n hx hb d_RR_step_1 rfl (lv_at hl 1 rfl) ?_
  refine z_pa (n_RR_RR_returnAt hx hown hG (va_recv hK (hS.1.one hxx) (ci := 0) (q0 := 0) rfl rfl) (by rw [hb]; exact d_RR_step_2)) hb (hl.1.trans hml.symm) (c_RR_returnAt l hl9 x sA rA n k td rd (nI (j + 1)) hxx hrA hkk) (by rw [if_pos ((z_rg1 (by omega) hkk).mpr hj), nI_clamp (show j + 1 < 2 ^ 31 by omega), Nat.add_sub_cancel]) (z_Gkeeps lo tP) hG hK hS (cw_RR_returnAt hG (by decide) (by decide)) d_RR_step_2 (Nat.le_of_ble_eq_true rfl) (by decide) (by decide) (fun H hq hS => ?_)
  refine lv_astore_n (lv' := [(3, .ref (rd j)), (0, .ref x), (1, .int (nI (j + 1))), (2, .int p0)]) hx hb d_RR_step_5 rfl hl (by decide) rfl (fun ls hl => ?_)
  refine lv_aload_n hx hb d_RR_step_6 rfl (lv_at hl 0 rfl) ?_
  refine z_get (ci := 2) (C := R_RE) (T := F_RE) (N := 15) hx hb hts j_RE hown hK hS (hRr j hj) rfl 3 (by decide) (hk k_272 rfl) (fun _ h9 => h9) rfl d_RR_step_7 ?_
  refine lv_iconst (v := 4) hx hb d_RR_step_10 (by decide) ?_
  refine lv_icmp_eq (tgt := 24) hx hb d_RR_step_11 (by decide) (fun c_1 => ?_) (fun c_1 => ?_)
  · refine lv_aload_n hx hb d_RR_step_24 rfl (lv_at hl 0 rfl) ?_
    refine lv_iload_n hx hb d_RR_step_25 rfl (lv_at hl 3 rfl) ?_
    refine lv_if_eq (tgt := 38) hx hb d_RR_step_26 (by decide) (fun c_2 => ?_) (fun c_2 => ?_)
    · refine lv_iconst (v := 0) hx hb d_RR_step_38 (by decide) ?_
      refine z_put (ci := 2) (C := R_RE) (T := F_RE) (N := 15) (ty := .int) (fs' := [.ref (sd (I j)), .int (F j 1), .int (F j 2), .int (F j 3), .int (F j 4), .int (F j 5), .int (F j 6), .int (F j 7), .int (F j 8), .int (F j 9), .int (F j 10), .int 0, .int (F j 12), .int (F j 13), .int (F j 14)]) hx hb hts j_RE t_RE t_RE_ok n_RE hown hK hS (hRr j hj) rfl 11 (by decide) (hk k_286 rfl) (fun _ h9 => h9) rfl (by decide +kernel) rfl rfl (Nat.le_of_ble_eq_true rfl) d_RR_step_39 rfl (fun H locs hS => ?_)
      have e_3 : (z_up X (rd j) (.inr (2, [.ref (sd (I j)), .int (F j 1), .int (F j 2), .int (F j 3), .int (F j 4), .int (F j 5), .int (F j 6), .int (F j 7), .int (F j 8), .int (F j 9), .int (F j 10), .int 0, .int (F j 12), .int (F j 13), .int (F j 14)]))) x = some (.inr (0, [.ref sA, .ref rA, .int (nI n), .int (nI k), .int td])) := (z_ne (z_oo hxx (hRr j hj) (by decide))).trans hxx
      have e_4 : (z_up X (rd j) (.inr (2, [.ref (sd (I j)), .int (F j 1), .int (F j 2), .int (F j 3), .int (F j 4), .int (F j 5), .int (F j 6), .int (F j 7), .int (F j 8), .int (F j 9), .int (F j 10), .int 0, .int (F j 12), .int (F j 13), .int (F j 14)]))) sA = some (.inl (cS, 20, .inr (.inr (.inr (.inr (fun i => if i < n then some (sd i) else none)))))) := (z_ne (z_ao hsA (hRr j hj))).trans hsA
      have e_5 : (z_up X (rd j) (.inr (2, [.ref (sd (I j)), .int (F j 1), .int (F j 2), .int (F j 3), .int (F j 4), .int (F j 5), .int (F j 6), .int (F j 7), .int (F j 8), .int (F j 9), .int (F j 10), .int 0, .int (F j 12), .int (F j 13), .int (F j 14)]))) rA = some (.inl (cR, 20, .inr (.inr (.inr (.inr (fun i => if i < k then some (rd i) else none)))))) := (z_ne (z_ao hrA (hRr j hj))).trans hrA
      have e_6 : (z_up X (rd j) (.inr (2, [.ref (sd (I j)), .int (F j 1), .int (F j 2), .int (F j 3), .int (F j 4), .int (F j 5), .int (F j 6), .int (F j 7), .int (F j 8), .int (F j 9), .int (F j 10), .int 0, .int (F j 12), .int (F j 13), .int (F j 14)]))) (sd (I j)) = some (.inr (1, [.int (nI (I j)), .int (S (I j) 1), .int (S (I j) 2), .int (S (I j) 3), .int (S (I j) 4), .int (S (I j) 5)])) := (z_ne (z_oo (hSs (I j) (hIn j hj)) (hRr j hj) (by decide))).trans (hSs (I j) (hIn j hj))
      have e_7 : (z_up X (rd j) (.inr (2, [.ref (sd (I j)), .int (F j 1), .int (F j 2), .int (F j 3), .int (F j 4), .int (F j 5), .int (F j 6), .int (F j 7), .int (F j 8), .int (F j 9), .int (F j 10), .int 0, .int (F j 12), .int (F j 13), .int (F j 14)]))) (rd j) = some (.inr (2, [.ref (sd (I j)), .int (F j 1), .int (F j 2), .int (F j 3), .int (F j 4), .int (F j 5), .int (F j 6), .int (F j 7), .int (F j 8), .int (F j 9), .int (F j 10), .int 0, .int (F j 12), .int (F j 13), .int (F j 14)])) := z_eq _ _ _
      refine lv_aload_n hx hb d_RR_step_42 rfl (lv_at hl 0 rfl) ?_
      refine z_get (ci := 2) (C := R_RE) (T := F_RE) (N := 15) hx hb hts j_RE hown hK hS e_7 rfl 11 (by decide) (hk k_286 rfl) (fun _ h9 => h9) rfl d_RR_step_43 ?_
      refine lv_if_ne (tgt := 68) hx hb d_RR_step_46 (by decide) (fun c_8 => absurd (by decide) c_8) (fun c_8 => ?_)
      refine lv_aload_n hx hb d_RR_step_49 rfl (lv_at hl 0 rfl) ?_
      refine lv_iconst (v := 3) hx hb d_RR_step_50 (by decide) ?_
      refine z_put (ci := 2) (C := R_RE) (T := F_RE) (N := 15) (ty := .int) (fs' := [.ref (sd (I j)), .int (F j 1), .int (F j 2), .int 3, .int (F j 4), .int (F j 5), .int (F j 6), .int (F j 7), .int (F j 8), .int (F j 9), .int (F j 10), .int 0, .int (F j 12), .int (F j 13), .int (F j 14)]) hx hb hts j_RE t_RE t_RE_ok n_RE hown hK hS e_7 rfl 3 (by decide) (hk k_272 rfl) (fun _ h9 => h9) rfl (by decide +kernel) rfl rfl (Nat.le_of_ble_eq_true rfl) d_RR_step_51 rfl (fun H locs hS => ?_)
      have e_9 : (z_up (z_up X (rd j) (.inr (2, [.ref (sd (I j)), .int (F j 1), .int (F j 2), .int (F j 3), .int (F j 4), .int (F j 5), .int (F j 6), .int (F j 7), .int (F j 8), .int (F j 9), .int (F j 10), .int 0, .int (F j 12), .int (F j 13), .int (F j 14)]))) (rd j) (.inr (2, [.ref (sd (I j)), .int (F j 1), .int (F j 2), .int 3, .int (F j 4), .int (F j 5), .int (F j 6), .int (F j 7), .int (F j 8), .int (F j 9), .int (F j 10), .int 0, .int (F j 12), .int (F j 13), .int (F j 14)]))) x = some (.inr (0, [.ref sA, .ref rA, .int (nI n), .int (nI k), .int td])) := (z_ne (z_oo e_3 e_7 (by decide))).trans e_3
      have e_10 : (z_up (z_up X (rd j) (.inr (2, [.ref (sd (I j)), .int (F j 1), .int (F j 2), .int (F j 3), .int (F j 4), .int (F j 5), .int (F j 6), .int (F j 7), .int (F j 8), .int (F j 9), .int (F j 10), .int 0, .int (F j 12), .int (F j 13), .int (F j 14)]))) (rd j) (.inr (2, [.ref (sd (I j)), .int (F j 1), .int (F j 2), .int 3, .int (F j 4), .int (F j 5), .int (F j 6), .int (F j 7), .int (F j 8), .int (F j 9), .int (F j 10), .int 0, .int (F j 12), .int (F j 13), .int (F j 14)]))) sA = some (.inl (cS, 20, .inr (.inr (.inr (.inr (fun i => if i < n then some (sd i) else none)))))) := (z_ne (z_ao e_4 e_7)).trans e_4
      have e_11 : (z_up (z_up X (rd j) (.inr (2, [.ref (sd (I j)), .int (F j 1), .int (F j 2), .int (F j 3), .int (F j 4), .int (F j 5), .int (F j 6), .int (F j 7), .int (F j 8), .int (F j 9), .int (F j 10), .int 0, .int (F j 12), .int (F j 13), .int (F j 14)]))) (rd j) (.inr (2, [.ref (sd (I j)), .int (F j 1), .int (F j 2), .int 3, .int (F j 4), .int (F j 5), .int (F j 6), .int (F j 7), .int (F j 8), .int (F j 9), .int (F j 10), .int 0, .int (F j 12), .int (F j 13), .int (F j 14)]))) rA = some (.inl (cR, 20, .inr (.inr (.inr (.inr (fun i => if i < k then some (rd i) else none)))))) := (z_ne (z_ao e_5 e_7)).trans e_5
      have e_12 : (z_up (z_up X (rd j) (.inr (2, [.ref (sd (I j)), .int (F j 1), .int (F j 2), .int (F j 3), .int (F j 4), .int (F j 5), .int (F j 6), .int (F j 7), .int (F j 8), .int (F j 9), .int (F j 10), .int 0, .int (F j 12), .int (F j 13), .int (F j 14)]))) (rd j) (.inr (2, [.ref (sd (I j)), .int (F j 1), .int (F j 2), .int 3, .int (F j 4), .int (F j 5), .int (F j 6), .int (F j 7), .int (F j 8), .int (F j 9), .int (F j 10), .int 0, .int (F j 12), .int (F j 13), .int (F j 14)]))) (sd (I j)) = some (.inr (1, [.int (nI (I j)), .int (S (I j) 1), .int (S (I j) 2), .int (S (I j) 3), .int (S (I j) 4), .int (S (I j) 5)])) := (z_ne (z_oo e_6 e_7 (by decide))).trans e_6
      have e_13 : (z_up (z_up X (rd j) (.inr (2, [.ref (sd (I j)), .int (F j 1), .int (F j 2), .int (F j 3), .int (F j 4), .int (F j 5), .int (F j 6), .int (F j 7), .int (F j 8), .int (F j 9), .int (F j 10), .int 0, .int (F j 12), .int (F j 13), .int (F j 14)]))) (rd j) (.inr (2, [.ref (sd (I j)), .int (F j 1), .int (F j 2), .int 3, .int (F j 4), .int (F j 5), .int (F j 6), .int (F j 7), .int (F j 8), .int (F j 9), .int (F j 10), .int 0, .int (F j 12), .int (F j 13), .int (F j 14)]))) (rd j) = some (.inr (2, [.ref (sd (I j)), .int (F j 1), .int (F j 2), .int 3, .int (F j 4), .int (F j 5), .int (F j 6), .int (F j 7), .int (F j 8), .int (F j 9), .int (F j 10), .int 0, .int (F j 12), .int (F j 13), .int (F j 14)])) := z_eq _ _ _
      refine lv_iload_n hx hb d_RR_step_54 rfl (lv_at hl 3 rfl) ?_
      refine lv_if_eq (tgt := 68) hx hb d_RR_step_55 (by decide) (fun c_14 => ?_) (fun c_14 => absurd (c_2) c_14)
      refine lv_aload_n hx hb d_RR_step_68 rfl (lv_at hl 0 rfl) ?_
      refine z_get (ci := 2) (C := R_RE) (T := F_RE) (N := 15) hx hb hts j_RE hown hK hS e_13 rfl 11 (by decide) (hk k_286 rfl) (fun _ h9 => h9) rfl d_RR_step_69 ?_
      exact z_Ciret hx hb hr rfl hlk hS (by simp only [an_steps, up_step, if_pos c_2]; exact zT0r hXI hj (by unfold cd_step; simp [c_1, c_2]) (by rw [z_upup] <;> rfl)) (by decide) (by decide) d_RR_step_72
    · refine lv_aload_n hx hb d_RR_step_29 rfl (lv_at hl 0 rfl) ?_
      refine z_get (ci := 2) (C := R_RE) (T := F_RE) (N := 15) hx hb hts j_RE hown hK hS (hRr j hj) rfl 11 (by decide) (hk k_286 rfl) (fun _ h9 => h9) rfl d_RR_step_30 ?_
      refine lv_iconst (v := 1) hx hb d_RR_step_33 (by decide) ?_
      refine lv_isub hx hb d_RR_step_34 ?_
      refine lv_goto (tgt := 39) hx hb d_RR_step_35 (by decide) ?_
      refine z_put (ci := 2) (C := R_RE) (T := F_RE) (N := 15) (ty := .int) (fs' := [.ref (sd (I j)), .int (F j 1), .int (F j 2), .int (F j 3), .int (F j 4), .int (F j 5), .int (F j 6), .int (F j 7), .int (F j 8), .int (F j 9), .int (F j 10), .int ((F j 11) - 1), .int (F j 12), .int (F j 13), .int (F j 14)]) hx hb hts j_RE t_RE t_RE_ok n_RE hown hK hS (hRr j hj) rfl 11 (by decide) (hk k_286 rfl) (fun _ h9 => h9) rfl (by decide +kernel) rfl rfl (Nat.le_of_ble_eq_true rfl) d_RR_step_39 rfl (fun H locs hS => ?_)
      have e_15 : (z_up X (rd j) (.inr (2, [.ref (sd (I j)), .int (F j 1), .int (F j 2), .int (F j 3), .int (F j 4), .int (F j 5), .int (F j 6), .int (F j 7), .int (F j 8), .int (F j 9), .int (F j 10), .int ((F j 11) - 1), .int (F j 12), .int (F j 13), .int (F j 14)]))) x = some (.inr (0, [.ref sA, .ref rA, .int (nI n), .int (nI k), .int td])) := (z_ne (z_oo hxx (hRr j hj) (by decide))).trans hxx
      have e_16 : (z_up X (rd j) (.inr (2, [.ref (sd (I j)), .int (F j 1), .int (F j 2), .int (F j 3), .int (F j 4), .int (F j 5), .int (F j 6), .int (F j 7), .int (F j 8), .int (F j 9), .int (F j 10), .int ((F j 11) - 1), .int (F j 12), .int (F j 13), .int (F j 14)]))) sA = some (.inl (cS, 20, .inr (.inr (.inr (.inr (fun i => if i < n then some (sd i) else none)))))) := (z_ne (z_ao hsA (hRr j hj))).trans hsA
      have e_17 : (z_up X (rd j) (.inr (2, [.ref (sd (I j)), .int (F j 1), .int (F j 2), .int (F j 3), .int (F j 4), .int (F j 5), .int (F j 6), .int (F j 7), .int (F j 8), .int (F j 9), .int (F j 10), .int ((F j 11) - 1), .int (F j 12), .int (F j 13), .int (F j 14)]))) rA = some (.inl (cR, 20, .inr (.inr (.inr (.inr (fun i => if i < k then some (rd i) else none)))))) := (z_ne (z_ao hrA (hRr j hj))).trans hrA
      have e_18 : (z_up X (rd j) (.inr (2, [.ref (sd (I j)), .int (F j 1), .int (F j 2), .int (F j 3), .int (F j 4), .int (F j 5), .int (F j 6), .int (F j 7), .int (F j 8), .int (F j 9), .int (F j 10), .int ((F j 11) - 1), .int (F j 12), .int (F j 13), .int (F j 14)]))) (sd (I j)) = some (.inr (1, [.int (nI (I j)), .int (S (I j) 1), .int (S (I j) 2), .int (S (I j) 3), .int (S (I j) 4), .int (S (I j) 5)])) := (z_ne (z_oo (hSs (I j) (hIn j hj)) (hRr j hj) (by decide))).trans (hSs (I j) (hIn j hj))
      have e_19 : (z_up X (rd j) (.inr (2, [.ref (sd (I j)), .int (F j 1), .int (F j 2), .int (F j 3), .int (F j 4), .int (F j 5), .int (F j 6), .int (F j 7), .int (F j 8), .int (F j 9), .int (F j 10), .int ((F j 11) - 1), .int (F j 12), .int (F j 13), .int (F j 14)]))) (rd j) = some (.inr (2, [.ref (sd (I j)), .int (F j 1), .int (F j 2), .int (F j 3), .int (F j 4), .int (F j 5), .int (F j 6), .int (F j 7), .int (F j 8), .int (F j 9), .int (F j 10), .int ((F j 11) - 1), .int (F j 12), .int (F j 13), .int (F j 14)])) := z_eq _ _ _
      refine lv_aload_n hx hb d_RR_step_42 rfl (lv_at hl 0 rfl) ?_
      refine z_get (ci := 2) (C := R_RE) (T := F_RE) (N := 15) hx hb hts j_RE hown hK hS e_19 rfl 11 (by decide) (hk k_286 rfl) (fun _ h9 => h9) rfl d_RR_step_43 ?_
      refine lv_if_ne (tgt := 68) hx hb d_RR_step_46 (by decide) (fun c_20 => ?_) (fun c_20 => ?_)
      · refine lv_aload_n hx hb d_RR_step_68 rfl (lv_at hl 0 rfl) ?_
        refine z_get (ci := 2) (C := R_RE) (T := F_RE) (N := 15) hx hb hts j_RE hown hK hS e_19 rfl 11 (by decide) (hk k_286 rfl) (fun _ h9 => h9) rfl d_RR_step_69 ?_
        exact z_Ciret hx hb hr rfl hlk hS (by simp only [an_steps, up_step, if_neg c_2, if_neg c_20]; exact zT0r hXI hj (by unfold cd_step; simp [c_1, c_2, c_20]) (by rfl)) (by decide) (by decide) d_RR_step_72
      · refine lv_aload_n hx hb d_RR_step_49 rfl (lv_at hl 0 rfl) ?_
        refine lv_iconst (v := 3) hx hb d_RR_step_50 (by decide) ?_
        refine z_put (ci := 2) (C := R_RE) (T := F_RE) (N := 15) (ty := .int) (fs' := [.ref (sd (I j)), .int (F j 1), .int (F j 2), .int 3, .int (F j 4), .int (F j 5), .int (F j 6), .int (F j 7), .int (F j 8), .int (F j 9), .int (F j 10), .int ((F j 11) - 1), .int (F j 12), .int (F j 13), .int (F j 14)]) hx hb hts j_RE t_RE t_RE_ok n_RE hown hK hS e_19 rfl 3 (by decide) (hk k_272 rfl) (fun _ h9 => h9) rfl (by decide +kernel) rfl rfl (Nat.le_of_ble_eq_true rfl) d_RR_step_51 rfl (fun H locs hS => ?_)
        have e_21 : (z_up (z_up X (rd j) (.inr (2, [.ref (sd (I j)), .int (F j 1), .int (F j 2), .int (F j 3), .int (F j 4), .int (F j 5), .int (F j 6), .int (F j 7), .int (F j 8), .int (F j 9), .int (F j 10), .int ((F j 11) - 1), .int (F j 12), .int (F j 13), .int (F j 14)]))) (rd j) (.inr (2, [.ref (sd (I j)), .int (F j 1), .int (F j 2), .int 3, .int (F j 4), .int (F j 5), .int (F j 6), .int (F j 7), .int (F j 8), .int (F j 9), .int (F j 10), .int ((F j 11) - 1), .int (F j 12), .int (F j 13), .int (F j 14)]))) x = some (.inr (0, [.ref sA, .ref rA, .int (nI n), .int (nI k), .int td])) := (z_ne (z_oo e_15 e_19 (by decide))).trans e_15
        have e_22 : (z_up (z_up X (rd j) (.inr (2, [.ref (sd (I j)), .int (F j 1), .int (F j 2), .int (F j 3), .int (F j 4), .int (F j 5), .int (F j 6), .int (F j 7), .int (F j 8), .int (F j 9), .int (F j 10), .int ((F j 11) - 1), .int (F j 12), .int (F j 13), .int (F j 14)]))) (rd j) (.inr (2, [.ref (sd (I j)), .int (F j 1), .int (F j 2), .int 3, .int (F j 4), .int (F j 5), .int (F j 6), .int (F j 7), .int (F j 8), .int (F j 9), .int (F j 10), .int ((F j 11) - 1), .int (F j 12), .int (F j 13), .int (F j 14)]))) sA = some (.inl (cS, 20, .inr (.inr (.inr (.inr (fun i => if i < n then some (sd i) else none)))))) := (z_ne (z_ao e_16 e_19)).trans e_16
        have e_23 : (z_up (z_up X (rd j) (.inr (2, [.ref (sd (I j)), .int (F j 1), .int (F j 2), .int (F j 3), .int (F j 4), .int (F j 5), .int (F j 6), .int (F j 7), .int (F j 8), .int (F j 9), .int (F j 10), .int ((F j 11) - 1), .int (F j 12), .int (F j 13), .int (F j 14)]))) (rd j) (.inr (2, [.ref (sd (I j)), .int (F j 1), .int (F j 2), .int 3, .int (F j 4), .int (F j 5), .int (F j 6), .int (F j 7), .int (F j 8), .int (F j 9), .int (F j 10), .int ((F j 11) - 1), .int (F j 12), .int (F j 13), .int (F j 14)]))) rA = some (.inl (cR, 20, .inr (.inr (.inr (.inr (fun i => if i < k then some (rd i) else none)))))) := (z_ne (z_ao e_17 e_19)).trans e_17
        have e_24 : (z_up (z_up X (rd j) (.inr (2, [.ref (sd (I j)), .int (F j 1), .int (F j 2), .int (F j 3), .int (F j 4), .int (F j 5), .int (F j 6), .int (F j 7), .int (F j 8), .int (F j 9), .int (F j 10), .int ((F j 11) - 1), .int (F j 12), .int (F j 13), .int (F j 14)]))) (rd j) (.inr (2, [.ref (sd (I j)), .int (F j 1), .int (F j 2), .int 3, .int (F j 4), .int (F j 5), .int (F j 6), .int (F j 7), .int (F j 8), .int (F j 9), .int (F j 10), .int ((F j 11) - 1), .int (F j 12), .int (F j 13), .int (F j 14)]))) (sd (I j)) = some (.inr (1, [.int (nI (I j)), .int (S (I j) 1), .int (S (I j) 2), .int (S (I j) 3), .int (S (I j) 4), .int (S (I j) 5)])) := (z_ne (z_oo e_18 e_19 (by decide))).trans e_18
        have e_25 : (z_up (z_up X (rd j) (.inr (2, [.ref (sd (I j)), .int (F j 1), .int (F j 2), .int (F j 3), .int (F j 4), .int (F j 5), .int (F j 6), .int (F j 7), .int (F j 8), .int (F j 9), .int (F j 10), .int ((F j 11) - 1), .int (F j 12), .int (F j 13), .int (F j 14)]))) (rd j) (.inr (2, [.ref (sd (I j)), .int (F j 1), .int (F j 2), .int 3, .int (F j 4), .int (F j 5), .int (F j 6), .int (F j 7), .int (F j 8), .int (F j 9), .int (F j 10), .int ((F j 11) - 1), .int (F j 12), .int (F j 13), .int (F j 14)]))) (rd j) = some (.inr (2, [.ref (sd (I j)), .int (F j 1), .int (F j 2), .int 3, .int (F j 4), .int (F j 5), .int (F j 6), .int (F j 7), .int (F j 8), .int (F j 9), .int (F j 10), .int ((F j 11) - 1), .int (F j 12), .int (F j 13), .int (F j 14)])) := z_eq _ _ _
        refine lv_iload_n hx hb d_RR_step_54 rfl (lv_at hl 3 rfl) ?_
        refine lv_if_eq (tgt := 68) hx hb d_RR_step_55 (by decide) (fun c_26 => absurd c_26 (c_2)) (fun c_26 => ?_)
        refine lv_aload_n hx hb d_RR_step_58 rfl (lv_at hl 0 rfl) ?_
        refine lv_aload_n hx hb d_RR_step_59 rfl (lv_at hl 0 rfl) ?_
        refine z_get (ci := 2) (C := R_RE) (T := F_RE) (N := 15) hx hb hts j_RE hown hK hS e_25 rfl 8 (by decide) (hk k_281 rfl) (fun _ h9 => h9) rfl d_RR_step_60 ?_
        refine lv_iconst (v := 1) hx hb d_RR_step_63 (by decide) ?_
        refine lv_isub hx hb d_RR_step_64 ?_
        have etg := c_RE_takeGrade l hl9 (D := D) (tys := zty cS cR cJ cI cZ) (lo := lo) (tP := tP) ((F j 8) - 1) (rd j) (sd (I j)) (zfs (zfs (F j) 11 ((F j 11) - 1)) 3 3) (X := (z_up (z_up X (rd j) (.inr (2, [.ref (sd (I j)), .int (F j 1), .int (F j 2), .int (F j 3), .int (F j 4), .int (F j 5), .int (F j 6), .int (F j 7), .int (F j 8), .int (F j 9), .int (F j 10), .int ((F j 11) - 1), .int (F j 12), .int (F j 13), .int (F j 14)]))) (rd j) (.inr (2, [.ref (sd (I j)), .int (F j 1), .int (F j 2), .int 3, .int (F j 4), .int (F j 5), .int (F j 6), .int (F j 7), .int (F j 8), .int (F j 9), .int (F j 10), .int ((F j 11) - 1), .int (F j 12), .int (F j 13), .int (F j 14)])))) e_25
        refine z_wv (n_RR_RE_takeGrade hx hown hG (va_recv hK (hS.1.one e_25) (ci := 2) (q0 := 0) rfl rfl) (by rw [hb]; exact d_RR_step_65)) hb (hl.1.trans hml.symm) etg (fun _ _ h9 => h9) (z_Gkeeps lo tP) hG hK hS (cw_RE_takeGrade hG (by decide) (by decide)) d_RR_step_65 (Nat.le_of_ble_eq_true rfl) (by decide) (by decide) (fun H locs hS => ?_)
        have e_27 : (z_up (z_up (z_up X (rd j) (.inr (2, [.ref (sd (I j)), .int (F j 1), .int (F j 2), .int (F j 3), .int (F j 4), .int (F j 5), .int (F j 6), .int (F j 7), .int (F j 8), .int (F j 9), .int (F j 10), .int ((F j 11) - 1), .int (F j 12), .int (F j 13), .int (F j 14)]))) (rd j) (.inr (2, [.ref (sd (I j)), .int (F j 1), .int (F j 2), .int 3, .int (F j 4), .int (F j 5), .int (F j 6), .int (F j 7), .int (F j 8), .int (F j 9), .int (F j 10), .int ((F j 11) - 1), .int (F j 12), .int (F j 13), .int (F j 14)]))) (rd j) (.inr (2, [.ref (sd (I j)), .int ((z_tg (zfs (zfs (F j) 11 ((F j 11) - 1)) 3 3) ((F j 8) - 1)) 1), .int ((z_tg (zfs (zfs (F j) 11 ((F j 11) - 1)) 3 3) ((F j 8) - 1)) 2), .int ((z_tg (zfs (zfs (F j) 11 ((F j 11) - 1)) 3 3) ((F j 8) - 1)) 3), .int ((z_tg (zfs (zfs (F j) 11 ((F j 11) - 1)) 3 3) ((F j 8) - 1)) 4), .int ((z_tg (zfs (zfs (F j) 11 ((F j 11) - 1)) 3 3) ((F j 8) - 1)) 5), .int ((z_tg (zfs (zfs (F j) 11 ((F j 11) - 1)) 3 3) ((F j 8) - 1)) 6), .int ((z_tg (zfs (zfs (F j) 11 ((F j 11) - 1)) 3 3) ((F j 8) - 1)) 7), .int ((z_tg (zfs (zfs (F j) 11 ((F j 11) - 1)) 3 3) ((F j 8) - 1)) 8), .int ((z_tg (zfs (zfs (F j) 11 ((F j 11) - 1)) 3 3) ((F j 8) - 1)) 9), .int ((z_tg (zfs (zfs (F j) 11 ((F j 11) - 1)) 3 3) ((F j 8) - 1)) 10), .int ((z_tg (zfs (zfs (F j) 11 ((F j 11) - 1)) 3 3) ((F j 8) - 1)) 11), .int ((z_tg (zfs (zfs (F j) 11 ((F j 11) - 1)) 3 3) ((F j 8) - 1)) 12), .int ((z_tg (zfs (zfs (F j) 11 ((F j 11) - 1)) 3 3) ((F j 8) - 1)) 13), .int ((z_tg (zfs (zfs (F j) 11 ((F j 11) - 1)) 3 3) ((F j 8) - 1)) 14)]))) x = some (.inr (0, [.ref sA, .ref rA, .int (nI n), .int (nI k), .int td])) := (z_ne (z_oo e_21 e_25 (by decide))).trans e_21
        have e_28 : (z_up (z_up (z_up X (rd j) (.inr (2, [.ref (sd (I j)), .int (F j 1), .int (F j 2), .int (F j 3), .int (F j 4), .int (F j 5), .int (F j 6), .int (F j 7), .int (F j 8), .int (F j 9), .int (F j 10), .int ((F j 11) - 1), .int (F j 12), .int (F j 13), .int (F j 14)]))) (rd j) (.inr (2, [.ref (sd (I j)), .int (F j 1), .int (F j 2), .int 3, .int (F j 4), .int (F j 5), .int (F j 6), .int (F j 7), .int (F j 8), .int (F j 9), .int (F j 10), .int ((F j 11) - 1), .int (F j 12), .int (F j 13), .int (F j 14)]))) (rd j) (.inr (2, [.ref (sd (I j)), .int ((z_tg (zfs (zfs (F j) 11 ((F j 11) - 1)) 3 3) ((F j 8) - 1)) 1), .int ((z_tg (zfs (zfs (F j) 11 ((F j 11) - 1)) 3 3) ((F j 8) - 1)) 2), .int ((z_tg (zfs (zfs (F j) 11 ((F j 11) - 1)) 3 3) ((F j 8) - 1)) 3), .int ((z_tg (zfs (zfs (F j) 11 ((F j 11) - 1)) 3 3) ((F j 8) - 1)) 4), .int ((z_tg (zfs (zfs (F j) 11 ((F j 11) - 1)) 3 3) ((F j 8) - 1)) 5), .int ((z_tg (zfs (zfs (F j) 11 ((F j 11) - 1)) 3 3) ((F j 8) - 1)) 6), .int ((z_tg (zfs (zfs (F j) 11 ((F j 11) - 1)) 3 3) ((F j 8) - 1)) 7), .int ((z_tg (zfs (zfs (F j) 11 ((F j 11) - 1)) 3 3) ((F j 8) - 1)) 8), .int ((z_tg (zfs (zfs (F j) 11 ((F j 11) - 1)) 3 3) ((F j 8) - 1)) 9), .int ((z_tg (zfs (zfs (F j) 11 ((F j 11) - 1)) 3 3) ((F j 8) - 1)) 10), .int ((z_tg (zfs (zfs (F j) 11 ((F j 11) - 1)) 3 3) ((F j 8) - 1)) 11), .int ((z_tg (zfs (zfs (F j) 11 ((F j 11) - 1)) 3 3) ((F j 8) - 1)) 12), .int ((z_tg (zfs (zfs (F j) 11 ((F j 11) - 1)) 3 3) ((F j 8) - 1)) 13), .int ((z_tg (zfs (zfs (F j) 11 ((F j 11) - 1)) 3 3) ((F j 8) - 1)) 14)]))) sA = some (.inl (cS, 20, .inr (.inr (.inr (.inr (fun i => if i < n then some (sd i) else none)))))) := (z_ne (z_ao e_22 e_25)).trans e_22
        have e_29 : (z_up (z_up (z_up X (rd j) (.inr (2, [.ref (sd (I j)), .int (F j 1), .int (F j 2), .int (F j 3), .int (F j 4), .int (F j 5), .int (F j 6), .int (F j 7), .int (F j 8), .int (F j 9), .int (F j 10), .int ((F j 11) - 1), .int (F j 12), .int (F j 13), .int (F j 14)]))) (rd j) (.inr (2, [.ref (sd (I j)), .int (F j 1), .int (F j 2), .int 3, .int (F j 4), .int (F j 5), .int (F j 6), .int (F j 7), .int (F j 8), .int (F j 9), .int (F j 10), .int ((F j 11) - 1), .int (F j 12), .int (F j 13), .int (F j 14)]))) (rd j) (.inr (2, [.ref (sd (I j)), .int ((z_tg (zfs (zfs (F j) 11 ((F j 11) - 1)) 3 3) ((F j 8) - 1)) 1), .int ((z_tg (zfs (zfs (F j) 11 ((F j 11) - 1)) 3 3) ((F j 8) - 1)) 2), .int ((z_tg (zfs (zfs (F j) 11 ((F j 11) - 1)) 3 3) ((F j 8) - 1)) 3), .int ((z_tg (zfs (zfs (F j) 11 ((F j 11) - 1)) 3 3) ((F j 8) - 1)) 4), .int ((z_tg (zfs (zfs (F j) 11 ((F j 11) - 1)) 3 3) ((F j 8) - 1)) 5), .int ((z_tg (zfs (zfs (F j) 11 ((F j 11) - 1)) 3 3) ((F j 8) - 1)) 6), .int ((z_tg (zfs (zfs (F j) 11 ((F j 11) - 1)) 3 3) ((F j 8) - 1)) 7), .int ((z_tg (zfs (zfs (F j) 11 ((F j 11) - 1)) 3 3) ((F j 8) - 1)) 8), .int ((z_tg (zfs (zfs (F j) 11 ((F j 11) - 1)) 3 3) ((F j 8) - 1)) 9), .int ((z_tg (zfs (zfs (F j) 11 ((F j 11) - 1)) 3 3) ((F j 8) - 1)) 10), .int ((z_tg (zfs (zfs (F j) 11 ((F j 11) - 1)) 3 3) ((F j 8) - 1)) 11), .int ((z_tg (zfs (zfs (F j) 11 ((F j 11) - 1)) 3 3) ((F j 8) - 1)) 12), .int ((z_tg (zfs (zfs (F j) 11 ((F j 11) - 1)) 3 3) ((F j 8) - 1)) 13), .int ((z_tg (zfs (zfs (F j) 11 ((F j 11) - 1)) 3 3) ((F j 8) - 1)) 14)]))) rA = some (.inl (cR, 20, .inr (.inr (.inr (.inr (fun i => if i < k then some (rd i) else none)))))) := (z_ne (z_ao e_23 e_25)).trans e_23
        have e_30 : (z_up (z_up (z_up X (rd j) (.inr (2, [.ref (sd (I j)), .int (F j 1), .int (F j 2), .int (F j 3), .int (F j 4), .int (F j 5), .int (F j 6), .int (F j 7), .int (F j 8), .int (F j 9), .int (F j 10), .int ((F j 11) - 1), .int (F j 12), .int (F j 13), .int (F j 14)]))) (rd j) (.inr (2, [.ref (sd (I j)), .int (F j 1), .int (F j 2), .int 3, .int (F j 4), .int (F j 5), .int (F j 6), .int (F j 7), .int (F j 8), .int (F j 9), .int (F j 10), .int ((F j 11) - 1), .int (F j 12), .int (F j 13), .int (F j 14)]))) (rd j) (.inr (2, [.ref (sd (I j)), .int ((z_tg (zfs (zfs (F j) 11 ((F j 11) - 1)) 3 3) ((F j 8) - 1)) 1), .int ((z_tg (zfs (zfs (F j) 11 ((F j 11) - 1)) 3 3) ((F j 8) - 1)) 2), .int ((z_tg (zfs (zfs (F j) 11 ((F j 11) - 1)) 3 3) ((F j 8) - 1)) 3), .int ((z_tg (zfs (zfs (F j) 11 ((F j 11) - 1)) 3 3) ((F j 8) - 1)) 4), .int ((z_tg (zfs (zfs (F j) 11 ((F j 11) - 1)) 3 3) ((F j 8) - 1)) 5), .int ((z_tg (zfs (zfs (F j) 11 ((F j 11) - 1)) 3 3) ((F j 8) - 1)) 6), .int ((z_tg (zfs (zfs (F j) 11 ((F j 11) - 1)) 3 3) ((F j 8) - 1)) 7), .int ((z_tg (zfs (zfs (F j) 11 ((F j 11) - 1)) 3 3) ((F j 8) - 1)) 8), .int ((z_tg (zfs (zfs (F j) 11 ((F j 11) - 1)) 3 3) ((F j 8) - 1)) 9), .int ((z_tg (zfs (zfs (F j) 11 ((F j 11) - 1)) 3 3) ((F j 8) - 1)) 10), .int ((z_tg (zfs (zfs (F j) 11 ((F j 11) - 1)) 3 3) ((F j 8) - 1)) 11), .int ((z_tg (zfs (zfs (F j) 11 ((F j 11) - 1)) 3 3) ((F j 8) - 1)) 12), .int ((z_tg (zfs (zfs (F j) 11 ((F j 11) - 1)) 3 3) ((F j 8) - 1)) 13), .int ((z_tg (zfs (zfs (F j) 11 ((F j 11) - 1)) 3 3) ((F j 8) - 1)) 14)]))) (sd (I j)) = some (.inr (1, [.int (nI (I j)), .int (S (I j) 1), .int (S (I j) 2), .int (S (I j) 3), .int (S (I j) 4), .int (S (I j) 5)])) := (z_ne (z_oo e_24 e_25 (by decide))).trans e_24
        have e_31 : (z_up (z_up (z_up X (rd j) (.inr (2, [.ref (sd (I j)), .int (F j 1), .int (F j 2), .int (F j 3), .int (F j 4), .int (F j 5), .int (F j 6), .int (F j 7), .int (F j 8), .int (F j 9), .int (F j 10), .int ((F j 11) - 1), .int (F j 12), .int (F j 13), .int (F j 14)]))) (rd j) (.inr (2, [.ref (sd (I j)), .int (F j 1), .int (F j 2), .int 3, .int (F j 4), .int (F j 5), .int (F j 6), .int (F j 7), .int (F j 8), .int (F j 9), .int (F j 10), .int ((F j 11) - 1), .int (F j 12), .int (F j 13), .int (F j 14)]))) (rd j) (.inr (2, [.ref (sd (I j)), .int ((z_tg (zfs (zfs (F j) 11 ((F j 11) - 1)) 3 3) ((F j 8) - 1)) 1), .int ((z_tg (zfs (zfs (F j) 11 ((F j 11) - 1)) 3 3) ((F j 8) - 1)) 2), .int ((z_tg (zfs (zfs (F j) 11 ((F j 11) - 1)) 3 3) ((F j 8) - 1)) 3), .int ((z_tg (zfs (zfs (F j) 11 ((F j 11) - 1)) 3 3) ((F j 8) - 1)) 4), .int ((z_tg (zfs (zfs (F j) 11 ((F j 11) - 1)) 3 3) ((F j 8) - 1)) 5), .int ((z_tg (zfs (zfs (F j) 11 ((F j 11) - 1)) 3 3) ((F j 8) - 1)) 6), .int ((z_tg (zfs (zfs (F j) 11 ((F j 11) - 1)) 3 3) ((F j 8) - 1)) 7), .int ((z_tg (zfs (zfs (F j) 11 ((F j 11) - 1)) 3 3) ((F j 8) - 1)) 8), .int ((z_tg (zfs (zfs (F j) 11 ((F j 11) - 1)) 3 3) ((F j 8) - 1)) 9), .int ((z_tg (zfs (zfs (F j) 11 ((F j 11) - 1)) 3 3) ((F j 8) - 1)) 10), .int ((z_tg (zfs (zfs (F j) 11 ((F j 11) - 1)) 3 3) ((F j 8) - 1)) 11), .int ((z_tg (zfs (zfs (F j) 11 ((F j 11) - 1)) 3 3) ((F j 8) - 1)) 12), .int ((z_tg (zfs (zfs (F j) 11 ((F j 11) - 1)) 3 3) ((F j 8) - 1)) 13), .int ((z_tg (zfs (zfs (F j) 11 ((F j 11) - 1)) 3 3) ((F j 8) - 1)) 14)]))) (rd j) = some (.inr (2, [.ref (sd (I j)), .int ((z_tg (zfs (zfs (F j) 11 ((F j 11) - 1)) 3 3) ((F j 8) - 1)) 1), .int ((z_tg (zfs (zfs (F j) 11 ((F j 11) - 1)) 3 3) ((F j 8) - 1)) 2), .int ((z_tg (zfs (zfs (F j) 11 ((F j 11) - 1)) 3 3) ((F j 8) - 1)) 3), .int ((z_tg (zfs (zfs (F j) 11 ((F j 11) - 1)) 3 3) ((F j 8) - 1)) 4), .int ((z_tg (zfs (zfs (F j) 11 ((F j 11) - 1)) 3 3) ((F j 8) - 1)) 5), .int ((z_tg (zfs (zfs (F j) 11 ((F j 11) - 1)) 3 3) ((F j 8) - 1)) 6), .int ((z_tg (zfs (zfs (F j) 11 ((F j 11) - 1)) 3 3) ((F j 8) - 1)) 7), .int ((z_tg (zfs (zfs (F j) 11 ((F j 11) - 1)) 3 3) ((F j 8) - 1)) 8), .int ((z_tg (zfs (zfs (F j) 11 ((F j 11) - 1)) 3 3) ((F j 8) - 1)) 9), .int ((z_tg (zfs (zfs (F j) 11 ((F j 11) - 1)) 3 3) ((F j 8) - 1)) 10), .int ((z_tg (zfs (zfs (F j) 11 ((F j 11) - 1)) 3 3) ((F j 8) - 1)) 11), .int ((z_tg (zfs (zfs (F j) 11 ((F j 11) - 1)) 3 3) ((F j 8) - 1)) 12), .int ((z_tg (zfs (zfs (F j) 11 ((F j 11) - 1)) 3 3) ((F j 8) - 1)) 13), .int ((z_tg (zfs (zfs (F j) 11 ((F j 11) - 1)) 3 3) ((F j 8) - 1)) 14)])) := z_eq _ _ _
        refine lv_aload_n hx hb d_RR_step_68 rfl (lv_at hl 0 rfl) ?_
        refine z_get (ci := 2) (C := R_RE) (T := F_RE) (N := 15) hx hb hts j_RE hown hK hS e_31 rfl 11 (by decide) (hk k_286 rfl) (fun _ h9 => h9) rfl d_RR_step_69 ?_
        exact z_Ciret hx hb hr rfl hlk hS (by simp only [an_steps, up_step, if_neg c_2, if_pos c_20]; exact zT0r hXI hj (by unfold cd_step; simp [c_1, c_2, c_20]) (by rw [z_upup, z_upup] <;> rfl)) (by decide) (by decide) d_RR_step_72
  · exact th_ISE hx hb hl9 hown hG (hl.1.trans hml.symm) hout hlk (is := 132) (text := "the return is not in repair") (by decide +kernel) d_RR_step_14 d_RR_step_17 d_RR_step_18 d_RR_step_20 d_RR_step_23 (z_teC hW0 (zT1 1 (by unfold cd_step; simp [c_1]) rfl)) (by decide) (Nat.le_of_ble_eq_true rfl) (by decide) (by decide) (by decide) (by decide)
set_option maxHeartbeats 4000000 in
set_option maxRecDepth 100000 in
theorem c_RR_scrap_no (l : Launch) (hl9 : l.stackTraces = false) {D : va_G} {cS cR cJ cI cZ : ClassId} {lo tP : Nat} (v : Int32) (p0 b9 : Int32) (a9 : Option Value) (N9 : zM → Prop) {x sA rA n k : Nat} {td : Int32} {sd rd : Nat → Nat} {S : Nat → Nat → Int32} {I : Nat → Nat} {F : Nat → Nat → Int32} {X : zM} (hXI : XI x sA rA cS cR n k td sd rd S I F X) (hv : ¬ z_rg v 1 (nI k)) : z_C (z_G lo tP) D cls4 (zty cS cR cJ cI cZ) lo l y_RR_scrap w_RR_scrap zr1 [.ref x, .int v, .int p0] X (zT [E_NSE, E_IAE, E_ISE] 1 a9 X N9) := by
  refine z_ofW (by decide) ?_
  intro p e s m args below meth c s₁ B hml hout hv
  obtain ⟨rfl, hG, hK, hW0, hXl, hlo⟩ := hv
  have hx := B.exec
  have hb := B.bytes
  have hr := B.returns
  have hlk := B.notSynchronized
  have hown : s.vm.findClass R_RR = some m.cls := findClass_of_methodNamed B.named
  have hts : ∀ w9 ∈ z_tb, w9.before ([.ref x, .int v, .int p0] : List Value).toArray s = true := hG.ts _
  have hk : ∀ {w9 : Cond}, w9 ∈ lw_tbl → z_ok w9 = true → w9.before ([.ref x, .int v, .int p0] : List Value).toArray s = true := fun h1 h2 => hG.w h1 h2 _
  have hg : z_Gr s.heap s.heap := z_Gr.rf
  have hS := z_S.start hW0 hXl hlo
  have hl := lv_entry ([.ref x, .int v, .int p0]) (n := 4) (Nat.le_of_ble_eq_true rfl)
  rw [lg_entry_eq]
  generalize (lg_sl ([.ref x, .int v, .int p0]) ++ List.replicate (4 - (lg_sl ([.ref x, .int v, .int p0])).length) Slot.unset).toArray = ls at hl ⊢
  have hl : lv_has ls 4 [(0, .ref x), (1, .int v), (2, .int p0)] := hl
  obtain ⟨hxx, hsA, hrA, hSs, hRr, hIn, hn, hkk, hjs, hjr, hAne⟩ := id hXI
  refine lv_aload_n hx hb d_RR_scrap_0 rfl (lv_at hl 0 rfl) ?_
  refine lv_iload_n hx hb d_RR_scrap_1 rfl (lv_at hl 1 rfl) ?_
  exact z_pCX (E := E_NSE) (n_RR_RR_returnAt hx hown hG (va_recv hK (hS.1.one hxx) (ci := 0) (q0 := 0) rfl rfl) (by rw [hb]; exact d_RR_scrap_2)) hb (hl.1.trans hml.symm) (c_RR_returnAt l hl9 x sA rA n k td rd v hxx hrA hkk) (if_neg hv) (z_Gkeeps lo tP) hG hK hS (cw_RR_returnAt hG (by decide) (by decide)) d_RR_scrap_2 (Nat.le_of_ble_eq_true rfl) (by decide) (by decide) hout hlk (zT1 0 rfl rfl) (by decide) (by decide)
set_option maxHeartbeats 4000000 in
set_option maxRecDepth 100000 in
theorem c_RR_scrap (l : Launch) (hl9 : l.stackTraces = false) {D : va_G} {cS cR cJ cI cZ : ClassId} {lo tP : Nat} {j : Nat} (p0 b9 : Int32) {x sA rA n k : Nat} {td : Int32} {sd rd : Nat → Nat} {S : Nat → Nat → Int32} {I : Nat → Nat} {F : Nat → Nat → Int32} {X : zM} (hXI : XI x sA rA cS cR n k td sd rd S I F X) (hj : j < k) (hbv : (b9 = 1 ∧ ∃ j, j < k ∧ F j 14 = p0) ∨ (b9 = 0 ∧ ∀ j, j < k → ¬ F j 14 = p0)) : z_C (z_G lo tP) D cls4 (zty cS cR cJ cI cZ) lo l y_RR_scrap w_RR_scrap zr1 [.ref x, .int (nI (j + 1)), .int p0] X (zT [E_NSE, E_IAE, E_ISE] (cd_scrap (F j) p0) (some (.int (if b9 = 0 then 1 else 0))) X (YI x cS cR ⟨n, k, td, S, I, zfr F j (if b9 = 0 then zfs (zfs (F j) 14 p0) 3 5 else F j)⟩)) := by
  refine z_ofW (by decide) ?_
  intro p e s m args below meth c s₁ B hml hout hv
  obtain ⟨rfl, hG, hK, hW0, hXl, hlo⟩ := hv
  have hx := B.exec
  have hb := B.bytes
  have hr := B.returns
  have hlk := B.notSynchronized
  have hown : s.vm.findClass R_RR = some m.cls := findClass_of_methodNamed B.named
  have hts : ∀ w9 ∈ z_tb, w9.before ([.ref x, .int (nI (j + 1)), .int p0] : List Value).toArray s = true := hG.ts _
  have hk : ∀ {w9 : Cond}, w9 ∈ lw_tbl → z_ok w9 = true → w9.before ([.ref x, .int (nI (j + 1)), .int p0] : List Value).toArray s = true := fun h1 h2 => hG.w h1 h2 _
  have hg : z_Gr s.heap s.heap := z_Gr.rf
  have hS := z_S.start hW0 hXl hlo
  have hl := lv_entry ([.ref x, .int (nI (j + 1)), .int p0]) (n := 4) (Nat.le_of_ble_eq_true rfl)
  rw [lg_entry_eq]
  generalize (lg_sl ([.ref x, .int (nI (j + 1)), .int p0]) ++ List.replicate (4 - (lg_sl ([.ref x, .int (nI (j + 1)), .int p0])).length) Slot.unset).toArray = ls at hl ⊢
  have hl : lv_has ls 4 [(0, .ref x), (1, .int (nI (j + 1))), (2, .int p0)] := hl
  obtain ⟨hxx, hsA, hrA, hSs, hRr, hIn, hn, hkk, hjs, hjr, hAne⟩ := id hXI
  refine lv_aload_n hx hb d_RR_scrap_0 rfl (lv_at hl 0 rfl) ?_
  refine lv_iload_n hx hb d_RR_scrap_1 rfl (lv_at hl 1 rfl) ?_
  refine z_pa (n_RR_RR_returnAt hx hown hG (va_recv hK (hS.1.one hxx) (ci := 0) (q0 := 0) rfl rfl) (by rw [hb]; exact d_RR_scrap_2)) hb (hl.1.trans hml.symm) (c_RR_returnAt l hl9 x sA rA n k td rd (nI (j + 1)) hxx hrA hkk) (by rw [if_pos ((z_rg1 (by omega) hkk).mpr hj), nI_clamp (show j + 1 < 2 ^ 31 by omega), Nat.add_sub_cancel]) (z_Gkeeps lo tP) hG hK hS (cw_RR_returnAt hG (by decide) (by decide)) d_RR_scrap_2 (Nat.le_of_ble_eq_true rfl) (by decide) (by decide) (fun H hq hS => ?_)
  refine lv_astore_n (lv' := [(3, .ref (rd j)), (0, .ref x), (1, .int (nI (j + 1))), (2, .int p0)]) hx hb d_RR_scrap_5 rfl hl (by decide) rfl (fun ls hl => ?_)
  refine lv_iload_n hx hb d_RR_scrap_6 rfl (lv_at hl 3 rfl) ?_
  refine lv_iconst (v := 1) hx hb d_RR_scrap_7 (by decide) ?_
  refine lv_sipush (v := 1000) hx hb d_RR_scrap_8 (by decide) ?_
  by_cases w_1 : z_rg p0 1 1000
  · refine z_pv (n_RR_RR_requireWithin hx hown hG (by rw [hb]; exact d_RR_scrap_11)) hb (hl.1.trans hml.symm) (c_RR_requireWithin l hl9 p0 1 1000) (if_pos w_1) (z_Gkeeps lo tP) hG hK hS (cw_RR_requireWithin hG (by decide) (by decide)) d_RR_scrap_11 (Nat.le_of_ble_eq_true rfl) (by decide) (by decide) (fun H hq hS => ?_)
    refine lv_aload_n hx hb d_RR_scrap_14 rfl (lv_at hl 0 rfl) ?_
    by_cases w_2 : F j 3 = 3
    · refine z_pv (n_RR_RR_requireGraded hx hown hG (by rw [hb]; exact d_RR_scrap_15)) hb (hl.1.trans hml.symm) (c_RR_requireGraded l hl9 (rd j) (sd (I j)) (F j) (hRr j hj)) (if_pos w_2) (z_Gkeeps lo tP) hG hK hS (cw_RR_requireGraded hG (by decide) (by decide)) d_RR_scrap_15 (Nat.le_of_ble_eq_true rfl) (by decide) (by decide) (fun H hq hS => ?_)
      refine lv_aload_n hx hb d_RR_scrap_18 rfl (lv_at hl 0 rfl) ?_
      refine z_get (ci := 2) (C := R_RE) (T := F_RE) (N := 15) hx hb hts j_RE hown hK hS (hRr j hj) rfl 8 (by decide) (hk k_281 rfl) (fun _ h9 => h9) rfl d_RR_scrap_19 ?_
      refine lv_iconst (v := 3) hx hb d_RR_scrap_22 (by decide) ?_
      refine lv_icmp_ge (tgt := 36) hx hb d_RR_scrap_23 (by decide) (fun c_3 => ?_) (fun c_3 => ?_)
      · refine lv_aload_n hx hb d_RR_scrap_36 rfl (lv_at hl 1 rfl) ?_
        refine lv_iload_n hx hb d_RR_scrap_37 rfl (lv_at hl 3 rfl) ?_
        refine z_pi (n_RR_RR_isCertificateUsed hx hown hG (va_recv hK (hS.1.one hxx) (ci := 0) (q0 := 0) rfl rfl) (by rw [hb]; exact d_RR_scrap_38)) hb (hl.1.trans hml.symm) (c_RR_isCertificateUsed l hl9 p0 b9 hXI hbv) (rfl) (z_Gkeeps lo tP) hG hK hS (cw_RR_isCertificateUsed hG (by decide) (by decide)) d_RR_scrap_38 (Nat.le_of_ble_eq_true rfl) (by decide) (by decide) (fun H hq hS => ?_)
        refine lv_if_eq (tgt := 46) hx hb d_RR_scrap_41 (by decide) (fun c_4 => ?_) (fun c_4 => ?_)
        · refine lv_aload_n hx hb d_RR_scrap_46 rfl (lv_at hl 0 rfl) ?_
          refine lv_iload_n hx hb d_RR_scrap_47 rfl (lv_at hl 3 rfl) ?_
          refine z_put (ci := 2) (C := R_RE) (T := F_RE) (N := 15) (ty := .int) (fs' := [.ref (sd (I j)), .int (F j 1), .int (F j 2), .int (F j 3), .int (F j 4), .int (F j 5), .int (F j 6), .int (F j 7), .int (F j 8), .int (F j 9), .int (F j 10), .int (F j 11), .int (F j 12), .int (F j 13), .int p0]) hx hb hts j_RE t_RE t_RE_ok n_RE hown hK hS (hRr j hj) rfl 14 (by decide) (hk k_291 rfl) (fun _ h9 => h9) rfl (by decide +kernel) rfl rfl (Nat.le_of_ble_eq_true rfl) d_RR_scrap_48 rfl (fun H locs hS => ?_)
          have e_5 : (z_up X (rd j) (.inr (2, [.ref (sd (I j)), .int (F j 1), .int (F j 2), .int (F j 3), .int (F j 4), .int (F j 5), .int (F j 6), .int (F j 7), .int (F j 8), .int (F j 9), .int (F j 10), .int (F j 11), .int (F j 12), .int (F j 13), .int p0]))) x = some (.inr (0, [.ref sA, .ref rA, .int (nI n), .int (nI k), .int td])) := (z_ne (z_oo hxx (hRr j hj) (by decide))).trans hxx
          have e_6 : (z_up X (rd j) (.inr (2, [.ref (sd (I j)), .int (F j 1), .int (F j 2), .int (F j 3), .int (F j 4), .int (F j 5), .int (F j 6), .int (F j 7), .int (F j 8), .int (F j 9), .int (F j 10), .int (F j 11), .int (F j 12), .int (F j 13), .int p0]))) sA = some (.inl (cS, 20, .inr (.inr (.inr (.inr (fun i => if i < n then some (sd i) else none)))))) := (z_ne (z_ao hsA (hRr j hj))).trans hsA
          have e_7 : (z_up X (rd j) (.inr (2, [.ref (sd (I j)), .int (F j 1), .int (F j 2), .int (F j 3), .int (F j 4), .int (F j 5), .int (F j 6), .int (F j 7), .int (F j 8), .int (F j 9), .int (F j 10), .int (F j 11), .int (F j 12), .int (F j 13), .int p0]))) rA = some (.inl (cR, 20, .inr (.inr (.inr (.inr (fun i => if i < k then some (rd i) else none)))))) := (z_ne (z_ao hrA (hRr j hj))).trans hrA
          have e_8 : (z_up X (rd j) (.inr (2, [.ref (sd (I j)), .int (F j 1), .int (F j 2), .int (F j 3), .int (F j 4), .int (F j 5), .int (F j 6), .int (F j 7), .int (F j 8), .int (F j 9), .int (F j 10), .int (F j 11), .int (F j 12), .int (F j 13), .int p0]))) (sd (I j)) = some (.inr (1, [.int (nI (I j)), .int (S (I j) 1), .int (S (I j) 2), .int (S (I j) 3), .int (S (I j) 4), .int (S (I j) 5)])) := (z_ne (z_oo (hSs (I j) (hIn j hj)) (hRr j hj) (by decide))).trans (hSs (I j) (hIn j hj))
          have e_9 : (z_up X (rd j) (.inr (2, [.ref (sd (I j)), .int (F j 1), .int (F j 2), .int (F j 3), .int (F j 4), .int (F j 5), .int (F j 6), .int (F j 7), .int (F j 8), .int (F j 9), .int (F j 10), .int (F j 11), .int (F j 12), .int (F j 13), .int p0]))) (rd j) = some (.inr (2, [.ref (sd (I j)), .int (F j 1), .int (F j 2), .int (F j 3), .int (F j 4), .int (F j 5), .int (F j 6), .int (F j 7), .int (F j 8), .int (F j 9), .int (F j 10), .int (F j 11), .int (F j 12), .int (F j 13), .int p0])) := z_eq _ _ _
          refine lv_aload_n hx hb d_RR_scrap_51 rfl (lv_at hl 0 rfl) ?_
          refine lv_iconst (v := 5) hx hb d_RR_scrap_52 (by decide) ?_
          refine z_put (ci := 2) (C := R_RE) (T := F_RE) (N := 15) (ty := .int) (fs' := [.ref (sd (I j)), .int (F j 1), .int (F j 2), .int 5, .int (F j 4), .int (F j 5), .int (F j 6), .int (F j 7), .int (F j 8), .int (F j 9), .int (F j 10), .int (F j 11), .int (F j 12), .int (F j 13), .int p0]) hx hb hts j_RE t_RE t_RE_ok n_RE hown hK hS e_9 rfl 3 (by decide) (hk k_272 rfl) (fun _ h9 => h9) rfl (by decide +kernel) rfl rfl (Nat.le_of_ble_eq_true rfl) d_RR_scrap_53 rfl (fun H locs hS => ?_)
          have e_10 : (z_up (z_up X (rd j) (.inr (2, [.ref (sd (I j)), .int (F j 1), .int (F j 2), .int (F j 3), .int (F j 4), .int (F j 5), .int (F j 6), .int (F j 7), .int (F j 8), .int (F j 9), .int (F j 10), .int (F j 11), .int (F j 12), .int (F j 13), .int p0]))) (rd j) (.inr (2, [.ref (sd (I j)), .int (F j 1), .int (F j 2), .int 5, .int (F j 4), .int (F j 5), .int (F j 6), .int (F j 7), .int (F j 8), .int (F j 9), .int (F j 10), .int (F j 11), .int (F j 12), .int (F j 13), .int p0]))) x = some (.inr (0, [.ref sA, .ref rA, .int (nI n), .int (nI k), .int td])) := (z_ne (z_oo e_5 e_9 (by decide))).trans e_5
          have e_11 : (z_up (z_up X (rd j) (.inr (2, [.ref (sd (I j)), .int (F j 1), .int (F j 2), .int (F j 3), .int (F j 4), .int (F j 5), .int (F j 6), .int (F j 7), .int (F j 8), .int (F j 9), .int (F j 10), .int (F j 11), .int (F j 12), .int (F j 13), .int p0]))) (rd j) (.inr (2, [.ref (sd (I j)), .int (F j 1), .int (F j 2), .int 5, .int (F j 4), .int (F j 5), .int (F j 6), .int (F j 7), .int (F j 8), .int (F j 9), .int (F j 10), .int (F j 11), .int (F j 12), .int (F j 13), .int p0]))) sA = some (.inl (cS, 20, .inr (.inr (.inr (.inr (fun i => if i < n then some (sd i) else none)))))) := (z_ne (z_ao e_6 e_9)).trans e_6
          have e_12 : (z_up (z_up X (rd j) (.inr (2, [.ref (sd (I j)), .int (F j 1), .int (F j 2), .int (F j 3), .int (F j 4), .int (F j 5), .int (F j 6), .int (F j 7), .int (F j 8), .int (F j 9), .int (F j 10), .int (F j 11), .int (F j 12), .int (F j 13), .int p0]))) (rd j) (.inr (2, [.ref (sd (I j)), .int (F j 1), .int (F j 2), .int 5, .int (F j 4), .int (F j 5), .int (F j 6), .int (F j 7), .int (F j 8), .int (F j 9), .int (F j 10), .int (F j 11), .int (F j 12), .int (F j 13), .int p0]))) rA = some (.inl (cR, 20, .inr (.inr (.inr (.inr (fun i => if i < k then some (rd i) else none)))))) := (z_ne (z_ao e_7 e_9)).trans e_7
          have e_13 : (z_up (z_up X (rd j) (.inr (2, [.ref (sd (I j)), .int (F j 1), .int (F j 2), .int (F j 3), .int (F j 4), .int (F j 5), .int (F j 6), .int (F j 7), .int (F j 8), .int (F j 9), .int (F j 10), .int (F j 11), .int (F j 12), .int (F j 13), .int p0]))) (rd j) (.inr (2, [.ref (sd (I j)), .int (F j 1), .int (F j 2), .int 5, .int (F j 4), .int (F j 5), .int (F j 6), .int (F j 7), .int (F j 8), .int (F j 9), .int (F j 10), .int (F j 11), .int (F j 12), .int (F j 13), .int p0]))) (sd (I j)) = some (.inr (1, [.int (nI (I j)), .int (S (I j) 1), .int (S (I j) 2), .int (S (I j) 3), .int (S (I j) 4), .int (S (I j) 5)])) := (z_ne (z_oo e_8 e_9 (by decide))).trans e_8
          have e_14 : (z_up (z_up X (rd j) (.inr (2, [.ref (sd (I j)), .int (F j 1), .int (F j 2), .int (F j 3), .int (F j 4), .int (F j 5), .int (F j 6), .int (F j 7), .int (F j 8), .int (F j 9), .int (F j 10), .int (F j 11), .int (F j 12), .int (F j 13), .int p0]))) (rd j) (.inr (2, [.ref (sd (I j)), .int (F j 1), .int (F j 2), .int 5, .int (F j 4), .int (F j 5), .int (F j 6), .int (F j 7), .int (F j 8), .int (F j 9), .int (F j 10), .int (F j 11), .int (F j 12), .int (F j 13), .int p0]))) (rd j) = some (.inr (2, [.ref (sd (I j)), .int (F j 1), .int (F j 2), .int 5, .int (F j 4), .int (F j 5), .int (F j 6), .int (F j 7), .int (F j 8), .int (F j 9), .int (F j 10), .int (F j 11), .int (F j 12), .int (F j 13), .int p0])) := z_eq _ _ _
          refine lv_iconst (v := 1) hx hb d_RR_scrap_56 (by decide) ?_
          exact z_Ciret hx hb hr rfl hlk hS (by simp only [if_pos c_4]; exact zT0r hXI hj (by unfold cd_scrap; rw [if_pos w_1]; simp [w_2, c_3, c_4]) (by rw [z_upup]; rfl)) (by decide) (by decide) d_RR_scrap_57
        · refine lv_iconst (v := 0) hx hb d_RR_scrap_44 (by decide) ?_
          exact z_Ciret hx hb hr rfl hlk hS (by simp only [if_neg c_4, zfr_id]; exact zT0 (by unfold cd_scrap; rw [if_pos w_1]; simp [w_2, c_3, c_4]) ⟨sA, rA, sd, rd, hXI⟩ zFr.rf) (by decide) (by decide) d_RR_scrap_45
      · exact th_ISE hx hb hl9 hown hG (hl.1.trans hml.symm) hout hlk (is := 134) (text := "the grade is too good for scrap") (by decide +kernel) d_RR_scrap_26 d_RR_scrap_29 d_RR_scrap_30 d_RR_scrap_32 d_RR_scrap_35 (z_teC hW0 (zT1 2 (by unfold cd_scrap; rw [if_pos w_1]; simp [w_2, c_3]) rfl)) (by decide) (Nat.le_of_ble_eq_true rfl) (by decide) (by decide) (by decide) (by decide)
    · exact z_pCX (E := E_ISE) (n_RR_RR_requireGraded hx hown hG (by rw [hb]; exact d_RR_scrap_15)) hb (hl.1.trans hml.symm) (c_RR_requireGraded l hl9 (rd j) (sd (I j)) (F j) (hRr j hj)) (if_neg w_2) (z_Gkeeps lo tP) hG hK hS (cw_RR_requireGraded hG (by decide) (by decide)) d_RR_scrap_15 (Nat.le_of_ble_eq_true rfl) (by decide) (by decide) hout hlk (zT1 2 (by unfold cd_scrap; rw [if_pos w_1]; simp [w_2]) rfl) (by decide) (by decide)
  · exact z_pCX (E := E_IAE) (n_RR_RR_requireWithin hx hown hG (by rw [hb]; exact d_RR_scrap_11)) hb (hl.1.trans hml.symm) (c_RR_requireWithin l hl9 p0 1 1000) (if_neg w_1) (z_Gkeeps lo tP) hG hK hS (cw_RR_requireWithin hG (by decide) (by decide)) d_RR_scrap_11 (Nat.le_of_ble_eq_true rfl) (by decide) (by decide) hout hlk (zT1 1 (by unfold cd_scrap; rw [if_neg w_1]) rfl) (by decide) (by decide)
set_option maxHeartbeats 4000000 in
set_option maxRecDepth 100000 in
theorem c_RR_back_no (l : Launch) (hl9 : l.stackTraces = false) {D : va_G} {cS cR cJ cI cZ : ClassId} {lo tP : Nat} (v : Int32)  (a9 : Option Value) (N9 : zM → Prop) {x sA rA n k : Nat} {td : Int32} {sd rd : Nat → Nat} {S : Nat → Nat → Int32} {I : Nat → Nat} {F : Nat → Nat → Int32} {X : zM} (hXI : XI x sA rA cS cR n k td sd rd S I F X) (hv : ¬ z_rg v 1 (nI k)) : z_C (z_G lo tP) D cls4 (zty cS cR cJ cI cZ) lo l y_RR_back w_RR_back zr1 [.ref x, .int v] X (zT [E_NSE, E_ISE] 1 a9 X N9) := by
  refine z_ofW (by decide) ?_
  intro p e s m args below meth c s₁ B hml hout hv
  obtain ⟨rfl, hG, hK, hW0, hXl, hlo⟩ := hv
  have hx := B.exec
  have hb := B.bytes
  have hr := B.returns
  have hlk := B.notSynchronized
  have hown : s.vm.findClass R_RR = some m.cls := findClass_of_methodNamed B.named
  have hts : ∀ w9 ∈ z_tb, w9.before ([.ref x, .int v] : List Value).toArray s = true := hG.ts _
  have hk : ∀ {w9 : Cond}, w9 ∈ lw_tbl → z_ok w9 = true → w9.before ([.ref x, .int v] : List Value).toArray s = true := fun h1 h2 => hG.w h1 h2 _
  have hg : z_Gr s.heap s.heap := z_Gr.rf
  have hS := z_S.start hW0 hXl hlo
  have hl := lv_entry ([.ref x, .int v]) (n := 3) (Nat.le_of_ble_eq_true rfl)
  rw [lg_entry_eq]
  generalize (lg_sl ([.ref x, .int v]) ++ List.replicate (3 - (lg_sl ([.ref x, .int v])).length) Slot.unset).toArray = ls at hl ⊢
  have hl : lv_has ls 3 [(0, .ref x), (1, .int v)] := hl
  obtain ⟨hxx, hsA, hrA, hSs, hRr, hIn, hn, hkk, hjs, hjr, hAne⟩ := id hXI
  refine lv_aload_n hx hb d_RR_back_0 rfl (lv_at hl 0 rfl) ?_
  refine lv_iload_n hx hb d_RR_back_1 rfl (lv_at hl 1 rfl) ?_
  exact z_pCX (E := E_NSE) (n_RR_RR_returnAt hx hown hG (va_recv hK (hS.1.one hxx) (ci := 0) (q0 := 0) rfl rfl) (by rw [hb]; exact d_RR_back_2)) hb (hl.1.trans hml.symm) (c_RR_returnAt l hl9 x sA rA n k td rd v hxx hrA hkk) (if_neg hv) (z_Gkeeps lo tP) hG hK hS (cw_RR_returnAt hG (by decide) (by decide)) d_RR_back_2 (Nat.le_of_ble_eq_true rfl) (by decide) (by decide) hout hlk (zT1 0 rfl rfl) (by decide) (by decide)
set_option maxHeartbeats 4000000 in
set_option maxRecDepth 100000 in
theorem c_RR_back (l : Launch) (hl9 : l.stackTraces = false) {D : va_G} {cS cR cJ cI cZ : ClassId} {lo tP : Nat} {j : Nat}  {x sA rA n k : Nat} {td : Int32} {sd rd : Nat → Nat} {S : Nat → Nat → Int32} {I : Nat → Nat} {F : Nat → Nat → Int32} {X : zM} (hXI : XI x sA rA cS cR n k td sd rd S I F X) (hj : j < k) : z_C (z_G lo tP) D cls4 (zty cS cR cJ cI cZ) lo l y_RR_back w_RR_back zr1 [.ref x, .int (nI (j + 1))] X (zT [E_NSE, E_ISE] (cd_back td (S (I j)) (F j)) (some (.int (an_back k (zfr F j (zfs (F j) 3 6)) (F j 8)))) X (YI x cS cR ⟨n, k, td, S, I, zfr F j (zfs (F j) 3 6)⟩)) := by
  refine z_ofW (by decide) ?_
  intro p e s m args below meth c s₁ B hml hout hv
  obtain ⟨rfl, hG, hK, hW0, hXl, hlo⟩ := hv
  have hx := B.exec
  have hb := B.bytes
  have hr := B.returns
  have hlk := B.notSynchronized
  have hown : s.vm.findClass R_RR = some m.cls := findClass_of_methodNamed B.named
  have hts : ∀ w9 ∈ z_tb, w9.before ([.ref x, .int (nI (j + 1))] : List Value).toArray s = true := hG.ts _
  have hk : ∀ {w9 : Cond}, w9 ∈ lw_tbl → z_ok w9 = true → w9.before ([.ref x, .int (nI (j + 1))] : List Value).toArray s = true := fun h1 h2 => hG.w h1 h2 _
  have hg : z_Gr s.heap s.heap := z_Gr.rf
  have hS := z_S.start hW0 hXl hlo
  have hl := lv_entry ([.ref x, .int (nI (j + 1))]) (n := 3) (Nat.le_of_ble_eq_true rfl)
  rw [lg_entry_eq]
  generalize (lg_sl ([.ref x, .int (nI (j + 1))]) ++ List.replicate (3 - (lg_sl ([.ref x, .int (nI (j + 1))])).length) Slot.unset).toArray = ls at hl ⊢
  have hl : lv_has ls 3 [(0, .ref x), (1, .int (nI (j + 1)))] := hl
  obtain ⟨hxx, hsA, hrA, hSs, hRr, hIn, hn, hkk, hjs, hjr, hAne⟩ := id hXI
  refine lv_aload_n hx hb d_RR_back_0 rfl (lv_at hl 0 rfl) ?_
  refine lv_iload_n hx hb d_RR_back_1 rfl (lv_at hl 1 rfl) ?_
  refine z_pa (n_RR_RR_returnAt hx hown hG (va_recv hK (hS.1.one hxx) (ci := 0) (q0 := 0) rfl rfl) (by rw [hb]; exact d_RR_back_2)) hb (hl.1.trans hml.symm) (c_RR_returnAt l hl9 x sA rA n k td rd (nI (j + 1)) hxx hrA hkk) (by rw [if_pos ((z_rg1 (by omega) hkk).mpr hj), nI_clamp (show j + 1 < 2 ^ 31 by omega), Nat.add_sub_cancel]) (z_Gkeeps lo tP) hG hK hS (cw_RR_returnAt hG (by decide) (by decide)) d_RR_back_2 (Nat.le_of_ble_eq_true rfl) (by decide) (by decide) (fun H hq hS => ?_)
  refine lv_astore_n (lv' := [(2, .ref (rd j)), (0, .ref x), (1, .int (nI (j + 1)))]) hx hb d_RR_back_5 rfl hl (by decide) rfl (fun ls hl => ?_)
  refine lv_aload_n hx hb d_RR_back_6 rfl (lv_at hl 0 rfl) ?_
  by_cases w_1 : F j 3 = 3
  · refine z_pv (n_RR_RR_requireGraded hx hown hG (by rw [hb]; exact d_RR_back_7)) hb (hl.1.trans hml.symm) (c_RR_requireGraded l hl9 (rd j) (sd (I j)) (F j) (hRr j hj)) (if_pos w_1) (z_Gkeeps lo tP) hG hK hS (cw_RR_requireGraded hG (by decide) (by decide)) d_RR_back_7 (Nat.le_of_ble_eq_true rfl) (by decide) (by decide) (fun H hq hS => ?_)
    refine lv_aload_n hx hb d_RR_back_10 rfl (lv_at hl 0 rfl) ?_
    by_cases w_2 : F j 5 = 0
    · refine z_pv (n_RR_RR_requireNoQuarantine hx hown hG (by rw [hb]; exact d_RR_back_11)) hb (hl.1.trans hml.symm) (c_RR_requireNoQuarantine l hl9 (rd j) (sd (I j)) (F j) (hRr j hj)) (if_pos w_2) (z_Gkeeps lo tP) hG hK hS (cw_RR_requireNoQuarantine hG (by decide) (by decide)) d_RR_back_11 (Nat.le_of_ble_eq_true rfl) (by decide) (by decide) (fun H hq hS => ?_)
      refine lv_aload_n hx hb d_RR_back_14 rfl (lv_at hl 0 rfl) ?_
      refine z_get (ci := 2) (C := R_RE) (T := F_RE) (N := 15) hx hb hts j_RE hown hK hS (hRr j hj) rfl 6 (by decide) (hk k_278 rfl) (fun _ h9 => h9) rfl d_RR_back_15 ?_
      refine lv_if_eq (tgt := 31) hx hb d_RR_back_18 (by decide) (fun c_3 => ?_) (fun c_3 => ?_)
      · refine lv_aload_n hx hb d_RR_back_31 rfl (lv_at hl 0 rfl) ?_
        refine z_get (ci := 2) (C := R_RE) (T := F_RE) (N := 15) hx hb hts j_RE hown hK hS (hRr j hj) rfl 8 (by decide) (hk k_281 rfl) (fun _ h9 => h9) rfl d_RR_back_32 ?_
        refine lv_iconst (v := 2) hx hb d_RR_back_35 (by decide) ?_
        refine lv_icmp_le (tgt := 49) hx hb d_RR_back_36 (by decide) (fun c_4 => ?_) (fun c_4 => ?_)
        · refine lv_aload_n hx hb d_RR_back_49 rfl (lv_at hl 1 rfl) ?_
          refine z_get (ci := 0) (C := R_RR) (T := F_RR) (N := 5) hx hb hts j_RR hown hK hS hxx rfl 4 (by decide) (hk k_47 rfl) (fun _ h9 => h9) rfl d_RR_back_50 ?_
          refine lv_aload_n hx hb d_RR_back_53 rfl (lv_at hl 0 rfl) ?_
          refine z_get (ci := 2) (C := R_RE) (T := F_RE) (N := 15) hx hb hts j_RE hown hK hS (hRr j hj) rfl 0 (by decide) (hk k_266 rfl) (fun _ h9 => h9) rfl d_RR_back_54 ?_
          refine z_get (ci := 1) (C := R_SA) (T := F_SA) (N := 6) hx hb hts j_SA hown hK hS (hSs (I j) (hIn j hj)) rfl 3 (by decide) (hk k_197 rfl) (fun _ h9 => h9) rfl d_RR_back_57 ?_
          refine lv_icmp_le (tgt := 73) hx hb d_RR_back_60 (by decide) (fun c_5 => ?_) (fun c_5 => ?_)
          · refine lv_aload_n hx hb d_RR_back_73 rfl (lv_at hl 0 rfl) ?_
            refine lv_bipush (v := 6) hx hb d_RR_back_74 (by decide) ?_
            refine z_put (ci := 2) (C := R_RE) (T := F_RE) (N := 15) (ty := .int) (fs' := [.ref (sd (I j)), .int (F j 1), .int (F j 2), .int 6, .int (F j 4), .int (F j 5), .int (F j 6), .int (F j 7), .int (F j 8), .int (F j 9), .int (F j 10), .int (F j 11), .int (F j 12), .int (F j 13), .int (F j 14)]) hx hb hts j_RE t_RE t_RE_ok n_RE hown hK hS (hRr j hj) rfl 3 (by decide) (hk k_272 rfl) (fun _ h9 => h9) rfl (by decide +kernel) rfl rfl (Nat.le_of_ble_eq_true rfl) d_RR_back_76 rfl (fun H locs hS => ?_)
            have e_6 : (z_up X (rd j) (.inr (2, [.ref (sd (I j)), .int (F j 1), .int (F j 2), .int 6, .int (F j 4), .int (F j 5), .int (F j 6), .int (F j 7), .int (F j 8), .int (F j 9), .int (F j 10), .int (F j 11), .int (F j 12), .int (F j 13), .int (F j 14)]))) x = some (.inr (0, [.ref sA, .ref rA, .int (nI n), .int (nI k), .int td])) := (z_ne (z_oo hxx (hRr j hj) (by decide))).trans hxx
            have e_7 : (z_up X (rd j) (.inr (2, [.ref (sd (I j)), .int (F j 1), .int (F j 2), .int 6, .int (F j 4), .int (F j 5), .int (F j 6), .int (F j 7), .int (F j 8), .int (F j 9), .int (F j 10), .int (F j 11), .int (F j 12), .int (F j 13), .int (F j 14)]))) sA = some (.inl (cS, 20, .inr (.inr (.inr (.inr (fun i => if i < n then some (sd i) else none)))))) := (z_ne (z_ao hsA (hRr j hj))).trans hsA
            have e_8 : (z_up X (rd j) (.inr (2, [.ref (sd (I j)), .int (F j 1), .int (F j 2), .int 6, .int (F j 4), .int (F j 5), .int (F j 6), .int (F j 7), .int (F j 8), .int (F j 9), .int (F j 10), .int (F j 11), .int (F j 12), .int (F j 13), .int (F j 14)]))) rA = some (.inl (cR, 20, .inr (.inr (.inr (.inr (fun i => if i < k then some (rd i) else none)))))) := (z_ne (z_ao hrA (hRr j hj))).trans hrA
            have e_9 : (z_up X (rd j) (.inr (2, [.ref (sd (I j)), .int (F j 1), .int (F j 2), .int 6, .int (F j 4), .int (F j 5), .int (F j 6), .int (F j 7), .int (F j 8), .int (F j 9), .int (F j 10), .int (F j 11), .int (F j 12), .int (F j 13), .int (F j 14)]))) (sd (I j)) = some (.inr (1, [.int (nI (I j)), .int (S (I j) 1), .int (S (I j) 2), .int (S (I j) 3), .int (S (I j) 4), .int (S (I j) 5)])) := (z_ne (z_oo (hSs (I j) (hIn j hj)) (hRr j hj) (by decide))).trans (hSs (I j) (hIn j hj))
            have e_10 : (z_up X (rd j) (.inr (2, [.ref (sd (I j)), .int (F j 1), .int (F j 2), .int 6, .int (F j 4), .int (F j 5), .int (F j 6), .int (F j 7), .int (F j 8), .int (F j 9), .int (F j 10), .int (F j 11), .int (F j 12), .int (F j 13), .int (F j 14)]))) (rd j) = some (.inr (2, [.ref (sd (I j)), .int (F j 1), .int (F j 2), .int 6, .int (F j 4), .int (F j 5), .int (F j 6), .int (F j 7), .int (F j 8), .int (F j 9), .int (F j 10), .int (F j 11), .int (F j 12), .int (F j 13), .int (F j 14)])) := z_eq _ _ _
            refine lv_aload_n hx hb d_RR_back_79 rfl (lv_at hl 1 rfl) ?_
            refine lv_aload_n hx hb d_RR_back_80 rfl (lv_at hl 0 rfl) ?_
            refine z_get (ci := 2) (C := R_RE) (T := F_RE) (N := 15) hx hb hts j_RE hown hK hS e_10 rfl 8 (by decide) (hk k_281 rfl) (fun _ h9 => h9) rfl d_RR_back_81 ?_
            refine z_pi (n_RR_RR_backOfClass hx hown hG (va_recv hK (hS.1.one e_6) (ci := 0) (q0 := 0) rfl rfl) (by rw [hb]; exact d_RR_back_84)) hb (hl.1.trans hml.symm) (c_RR_backOfClass l hl9 (F j 8) (hXI.row hj (zfs (F j) 3 6))) (rfl) (z_Gkeeps lo tP) hG hK hS (cw_RR_backOfClass hG (by decide) (by decide)) d_RR_back_84 (Nat.le_of_ble_eq_true rfl) (by decide) (by decide) (fun H hq hS => ?_)
            exact z_Ciret hx hb hr rfl hlk hS (zT0r (f := zfs (F j) 3 6) hXI hj (by unfold cd_back; simp [w_1, w_2, c_3, c_4, c_5]) (by rfl)) (by decide) (by decide) d_RR_back_87
          · exact th_ISE hx hb hl9 hown hG (hl.1.trans hml.symm) hout hlk (is := 150) (text := "the last day of the lot is over") (by decide +kernel) d_RR_back_63 d_RR_back_66 d_RR_back_67 d_RR_back_69 d_RR_back_72 (z_teC hW0 (zT1 1 (by unfold cd_back; simp [w_1, w_2, c_3, c_4, c_5]) rfl)) (by decide) (Nat.le_of_ble_eq_true rfl) (by decide) (by decide) (by decide) (by decide)
        · exact th_ISE hx hb hl9 hown hG (hl.1.trans hml.symm) hout hlk (is := 145) (text := "the grade is too bad for resale") (by decide +kernel) d_RR_back_39 d_RR_back_42 d_RR_back_43 d_RR_back_45 d_RR_back_48 (z_teC hW0 (zT1 1 (by unfold cd_back; simp [w_1, w_2, c_3, c_4]) rfl)) (by decide) (Nat.le_of_ble_eq_true rfl) (by decide) (by decide) (by decide) (by decide)
      · exact th_ISE hx hb hl9 hown hG (hl.1.trans hml.symm) hout hlk (is := 143) (text := "the serial is that of another sale") (by decide +kernel) d_RR_back_21 d_RR_back_24 d_RR_back_25 d_RR_back_27 d_RR_back_30 (z_teC hW0 (zT1 1 (by unfold cd_back; simp [w_1, w_2, c_3]) rfl)) (by decide) (Nat.le_of_ble_eq_true rfl) (by decide) (by decide) (by decide) (by decide)
    · exact z_pCX (E := E_ISE) (n_RR_RR_requireNoQuarantine hx hown hG (by rw [hb]; exact d_RR_back_11)) hb (hl.1.trans hml.symm) (c_RR_requireNoQuarantine l hl9 (rd j) (sd (I j)) (F j) (hRr j hj)) (if_neg w_2) (z_Gkeeps lo tP) hG hK hS (cw_RR_requireNoQuarantine hG (by decide) (by decide)) d_RR_back_11 (Nat.le_of_ble_eq_true rfl) (by decide) (by decide) hout hlk (zT1 1 (by unfold cd_back; simp [w_1, w_2]) rfl) (by decide) (by decide)
  · exact z_pCX (E := E_ISE) (n_RR_RR_requireGraded hx hown hG (by rw [hb]; exact d_RR_back_7)) hb (hl.1.trans hml.symm) (c_RR_requireGraded l hl9 (rd j) (sd (I j)) (F j) (hRr j hj)) (if_neg w_1) (z_Gkeeps lo tP) hG hK hS (cw_RR_requireGraded hG (by decide) (by decide)) d_RR_back_7 (Nat.le_of_ble_eq_true rfl) (by decide) (by decide) hout hlk (zT1 1 (by unfold cd_back; simp [w_1]) rfl) (by decide) (by decide)
