/-! ===== rooms; throws of the class ReturnRows ===== -/
abbrev zr0 : Room := { frames := 6, cells := 1, slots := 6, locals := 90 }
abbrev zr1 : Room := { frames := 7, cells := 12, slots := 100, locals := 130 }
abbrev zr2 : Room := { frames := 8, cells := 40, slots := 300, locals := 165 }
abbrev zr3 : Room := { frames := 9, cells := 60, slots := 500, locals := 200 }
abbrev zrA : Room := { frames := 1, cells := 0, slots := 0, locals := 25 }
abbrev zrB : Room := { frames := 2, cells := 0, slots := 0, locals := 60 }
abbrev zrC : Room := { frames := 3, cells := 0, slots := 0, locals := 95 }
abbrev zrD : Room := { frames := 4, cells := 0, slots := 0, locals := 125 }
section Z14
variable {p : Program} {l : Launch} {e : Env} {R : Room} {s : State} {m : MethodId} {args : Array Value} {below : List Frame} {meth : Method} {c : Code} {H : Heap} {cells slots mc ms : Nat}
variable {cc : ByteArray} {pc : Nat} {ls : Array Slot} {rest : List Value} {lo tP : Nat}
/-- a throw's end, whichever the contract -/
def z_te (Qc : Array Value → State → Outcome → State → Prop) (args : Array Value) (s : State) (E : String) : Prop := ∀ (a : Addr) (t : State), s.WarmedH t.vm → s.heap.size ≤ t.heap.size → (∀ q : Nat, q < s.heap.size → t.heap[q]? = s.heap[q]?) → z_Th E a t t.heap → Qc args s (.threw a) t
theorem z_teP {r : zR} {E : String} (he : r = .inr E) : z_te (z_pu r) args s E := fun a t _ h1 h2 hT => ⟨by rw [he]; exact ⟨a, rfl, hT⟩, h1, h2⟩
theorem z_teC {D : va_G} {cl : List vw_C} {X0 : zM} {Po : zR → zM → Prop} {E : String} (hW : z_W D cl X0 s.heap) (hP : Po (.inr E) X0) : z_te (z_Q D cl X0 Po) args s E := fun a t _ h1 h2 hT => ⟨.inr E, X0, hP, ⟨a, rfl, hT⟩, hW.grow h2, h1, fun q hq _ => h2 q hq, fun q hq => Or.inl hq⟩
theorem z_nm_fit : ∀ n ∈ z_nm, Bundle.fit n = true := by decide +kernel
theorem th_IAE {Qc : Array Value → State → Outcome → State → Prop} {free : Addr → Prop} {is : Nat} {text : String} (hexec : p.tables.exec = Jvm.exec) (hb : c.code = cc) (hl : l.stackTraces = false) (hown : s.vm.findClass R_RR = some m.cls) (hG : z_G lo tP s) (hsize : ls.size = c.maxLocals) (hout : ∀ x ∈ c.exceptionTable.toList, ∀ pc, covers x pc = false) (hlocks : meth.locks = false) (hstr : (is, text) ∈ z_strs)
    (d0 : decode cc pc = .ok (.new 171, 3)) (d3 : decode cc (pc + 3) = .ok (.dup, 1)) (d4 : decode cc (pc + 4) = .ok (.ldc is, 2)) (d6 : decode cc (pc + 6) = .ok (.invokespecial 175, 3)) (d9 : decode cc (pc + 9) = .ok (.athrow, 1))
    (hte : z_te Qc args s E_IAE) (hRf : 5 < R.frames) (hRl : (rest.map fun v => v.category).sum + 82 ≤ R.locals) (hRc : cells + 1 ≤ R.cells) (hRs : slots + 6 ≤ R.slots) (hc : cells + 1 ≤ mc) (hs : slots + 6 ≤ ms) :
    W p l e R s m args below meth c H [] cells slots (z_MQ below Qc args s mc ms free) (F0 m pc ls rest) := by
  obtain ⟨sa, hsa⟩ := hG.2.2.2.2.1 _ hstr
  exact z_throw hexec hb hl hown (by decide +kernel) z_nm_fit (hG.w k_90 rfl args) (hG.w k_23 rfl args) hsa (z_ownOf hG o_IAE) hsize d0 d3 d4 d6 d9 (fun x hx => hout x hx _) hRf hRl hRc hRs hlocks hte hc hs
theorem th_ISE {Qc : Array Value → State → Outcome → State → Prop} {free : Addr → Prop} {is : Nat} {text : String} (hexec : p.tables.exec = Jvm.exec) (hb : c.code = cc) (hl : l.stackTraces = false) (hown : s.vm.findClass R_RR = some m.cls) (hG : z_G lo tP s) (hsize : ls.size = c.maxLocals) (hout : ∀ x ∈ c.exceptionTable.toList, ∀ pc, covers x pc = false) (hlocks : meth.locks = false) (hstr : (is, text) ∈ z_strs)
    (d0 : decode cc pc = .ok (.new 51, 3)) (d3 : decode cc (pc + 3) = .ok (.dup, 1)) (d4 : decode cc (pc + 4) = .ok (.ldc is, 2)) (d6 : decode cc (pc + 6) = .ok (.invokespecial 55, 3)) (d9 : decode cc (pc + 9) = .ok (.athrow, 1))
    (hte : z_te Qc args s E_ISE) (hRf : 5 < R.frames) (hRl : (rest.map fun v => v.category).sum + 82 ≤ R.locals) (hRc : cells + 1 ≤ R.cells) (hRs : slots + 6 ≤ R.slots) (hc : cells + 1 ≤ mc) (hs : slots + 6 ≤ ms) :
    W p l e R s m args below meth c H [] cells slots (z_MQ below Qc args s mc ms free) (F0 m pc ls rest) := by
  obtain ⟨sa, hsa⟩ := hG.2.2.2.2.1 _ hstr
  exact z_throw hexec hb hl hown (by decide +kernel) z_nm_fit (hG.w k_243 rfl args) (hG.w k_27 rfl args) hsa (z_ownOf hG o_ISE) hsize d0 d3 d4 d6 d9 (fun x hx => hout x hx _) hRf hRl hRc hRs hlocks hte hc hs
theorem th_UOE {Qc : Array Value → State → Outcome → State → Prop} {free : Addr → Prop} {is : Nat} {text : String} (hexec : p.tables.exec = Jvm.exec) (hb : c.code = cc) (hl : l.stackTraces = false) (hown : s.vm.findClass R_RR = some m.cls) (hG : z_G lo tP s) (hsize : ls.size = c.maxLocals) (hout : ∀ x ∈ c.exceptionTable.toList, ∀ pc, covers x pc = false) (hlocks : meth.locks = false) (hstr : (is, text) ∈ z_strs)
    (d0 : decode cc pc = .ok (.new 33, 3)) (d3 : decode cc (pc + 3) = .ok (.dup, 1)) (d4 : decode cc (pc + 4) = .ok (.ldc is, 2)) (d6 : decode cc (pc + 6) = .ok (.invokespecial 37, 3)) (d9 : decode cc (pc + 9) = .ok (.athrow, 1))
    (hte : z_te Qc args s E_UOE) (hRf : 5 < R.frames) (hRl : (rest.map fun v => v.category).sum + 82 ≤ R.locals) (hRc : cells + 1 ≤ R.cells) (hRs : slots + 6 ≤ R.slots) (hc : cells + 1 ≤ mc) (hs : slots + 6 ≤ ms) :
    W p l e R s m args below meth c H [] cells slots (z_MQ below Qc args s mc ms free) (F0 m pc ls rest) := by
  obtain ⟨sa, hsa⟩ := hG.2.2.2.2.1 _ hstr
  exact z_throw hexec hb hl hown (by decide +kernel) z_nm_fit (hG.w k_168 rfl args) (hG.w k_24 rfl args) hsa (z_ownOf hG o_UOE) hsize d0 d3 d4 d6 d9 (fun x hx => hout x hx _) hRf hRl hRc hRs hlocks hte hc hs
theorem th_NSE {Qc : Array Value → State → Outcome → State → Prop} {free : Addr → Prop} {is : Nat} {text : String} (hexec : p.tables.exec = Jvm.exec) (hb : c.code = cc) (hl : l.stackTraces = false) (hown : s.vm.findClass R_RR = some m.cls) (hG : z_G lo tP s) (hsize : ls.size = c.maxLocals) (hout : ∀ x ∈ c.exceptionTable.toList, ∀ pc, covers x pc = false) (hlocks : meth.locks = false) (hstr : (is, text) ∈ z_strs)
    (d0 : decode cc pc = .ok (.new 192, 3)) (d3 : decode cc (pc + 3) = .ok (.dup, 1)) (d4 : decode cc (pc + 4) = .ok (.ldc is, 2)) (d6 : decode cc (pc + 6) = .ok (.invokespecial 196, 3)) (d9 : decode cc (pc + 9) = .ok (.athrow, 1))
    (hte : z_te Qc args s E_NSE) (hRf : 5 < R.frames) (hRl : (rest.map fun v => v.category).sum + 82 ≤ R.locals) (hRc : cells + 1 ≤ R.cells) (hRs : slots + 6 ≤ R.slots) (hc : cells + 1 ≤ mc) (hs : slots + 6 ≤ ms) :
    W p l e R s m args below meth c H [] cells slots (z_MQ below Qc args s mc ms free) (F0 m pc ls rest) := by
  obtain ⟨sa, hsa⟩ := hG.2.2.2.2.1 _ hstr
  exact z_throw13 hexec hb hl hown (by decide +kernel) (bx := prog_15_method_4_code) (by decide +kernel) (by decide +kernel) (by decide +kernel) (by decide +kernel) (hG.w k_227 rfl args) (hG.w k_26 rfl args) hsa (z_ownOf13 hG) hsize d0 d3 d4 d6 d9 (fun x hx => hout x hx _) hRf hRl hRc hRs hlocks hte hc hs
end Z14
