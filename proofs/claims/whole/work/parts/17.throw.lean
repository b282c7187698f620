/-! what is thrown: IllegalStateException with a written text; launches without stack traces -/
def zstr : List (String × Nat × String) := [("ShellSum$Reckoner", 114, "too much stands within one another"), ("ShellSum", 107, "a number has no digit"), ("ShellSum", 113, "a number of sixteen has no digit"), ("ShellSum", 119, "a number has a wrong digit"), ("ShellSum$Signs", 23, "something divides by 0"), ("ShellSum$Reckoner", 147, "too many names would have a text"), ("ShellSum$Reckoner", 166, "a bracket or a choice has no end"), ("ShellSum$Reckoner", 126, "a number, a name or a bracket is missing"), ("ShellSum$Reckoner", 153, "too many signs wait"), ("ShellSum", 56, "the text has an error")]
theorem zstr_R_114 : ("ShellSum$Reckoner", 114, "too much stands within one another") ∈ zstr := List.mem_of_getElem? (i := 0) rfl
theorem zstr_A_107 : ("ShellSum", 107, "a number has no digit") ∈ zstr := List.mem_of_getElem? (i := 1) rfl
theorem zstr_A_113 : ("ShellSum", 113, "a number of sixteen has no digit") ∈ zstr := List.mem_of_getElem? (i := 2) rfl
theorem zstr_A_119 : ("ShellSum", 119, "a number has a wrong digit") ∈ zstr := List.mem_of_getElem? (i := 3) rfl
theorem zstr_G_23 : ("ShellSum$Signs", 23, "something divides by 0") ∈ zstr := List.mem_of_getElem? (i := 4) rfl
theorem zstr_R_147 : ("ShellSum$Reckoner", 147, "too many names would have a text") ∈ zstr := List.mem_of_getElem? (i := 5) rfl
theorem zstr_R_166 : ("ShellSum$Reckoner", 166, "a bracket or a choice has no end") ∈ zstr := List.mem_of_getElem? (i := 6) rfl
theorem zstr_R_126 : ("ShellSum$Reckoner", 126, "a number, a name or a bracket is missing") ∈ zstr := List.mem_of_getElem? (i := 7) rfl
theorem zstr_R_153 : ("ShellSum$Reckoner", 153, "too many signs wait") ∈ zstr := List.mem_of_getElem? (i := 8) rfl
theorem zstr_A_56 : ("ShellSum", 56, "the text has an error") ∈ zstr := List.mem_of_getElem? (i := 9) rfl
def zS (U : State) : Prop := ∀ (o : String) (k : Nat) (t : String), (o, k, t) ∈ zstr → ∃ a : Nat, vk_R o k t a U
theorem zS.warm {s U : State} (hW : s.WarmedH U.vm) (h : zS s) : zS U := fun o k t hq => by
  obtain ⟨a, ha⟩ := h o k t hq
  exact ⟨a, ha.warm hW⟩
theorem zS.call {U : State} {g : JFrame} {mk : MethodId} {a : Array Value} (h : zS U) : zS (U.calling g mk a) := h.warm (State.WarmedH.refl U)
/-- the two statics of Throwable that a new exception takes -/
def zU (A : Nat → Prop) (U : State) (H : Heap) : Prop := vx_Zq Bundle.tN "UNASSIGNED_STACK" Bundle.steD A U H ∧ vx_Zq Bundle.tN "SUPPRESSED_SENTINEL" Bundle.listD A U H
/-- a method that may throw finds: -/
def zV (dC : Nat → ClassId) (dI : Nat → Nat → Nat) (tys : List (ClassId × FieldType)) (ws : va_W) (sz : Nat) : State → Prop := fun U => zW dC dI tys ws sz U ∧ zS U ∧ zU (va_A ws sz) U U.heap
abbrev zNm : List String := ["java/lang/RuntimeException", "java/lang/Exception"]
section ZV
variable {p : Program} {l : Launch} {e : Env} {R : Room} {s : State} {m : MethodId} {args : Array Value} {below : List Frame} {meth : Method} {c : Code} {H : Heap} {locs : List Loc} {cells slots : Nat} {Q : State → Prop}
variable {pc : Nat} {ls : Array Slot} {rest st0 : List Value} {a : Array Value} {dC : Nat → ClassId} {dI : Nat → Nat → Nat} {tys : List (ClassId × FieldType)} {ws : va_W} {As : List Value} {C : String} {b : Addr} {A0 : Nat → Prop} {H0 : Heap} {mc ms : Nat}
theorem zU.at {A B : Nat → Prop} {s U : State} (hU : zU A s s.heap) (hS : va_S A s.heap H locs) (hW : s.WarmedH U.vm) (hh : U.heap = H) (hB : ∀ q, B q → A q) : zU B U U.heap := by
  rw [hh]
  exact ⟨((hU.1.kept hS.2.1).moved hW.alike).narrow hB, ((hU.2.kept hS.2.1).moved hW.alike).narrow hB⟩
theorem zV_S (hP : va_P (dC, dI) vwCl ws H) (hK : va_K (dC, dI) vwCl tys s) (hD : va_D A0 ws) (hN : zN s) (hT : zS s) (hU : zU A0 s s.heap) (hS : va_S A0 s.heap H locs) (hA : ∀ q, s.heap.size ≤ q → A0 q) : PreS s H (va_Pc As (zV dC dI tys ws H.size)) As :=
  ⟨fun av U g mk h => ⟨h.1, ((zW_S (s := s) (As := As) hP hK hD hN).1 av U g mk ⟨h.1, h.2.1⟩).2, h.2.2.1.call, h.2.2.2⟩, fun U hUh hW => ⟨rfl, ((zW_S (As := As) hP hK hD hN).2 U hUh hW).2, hT.warm hW, hU.at hS hW hUh (zA_sub hD hS hA)⟩⟩
theorem zV_V (hP : va_P (dC, dI) vwCl ws H) (hK : va_K (dC, dI) vwCl tys s) (hD : va_D A0 ws) (hN : zN s) (hT : zS s) (hU : zU A0 s s.heap) (hS : va_S A0 s.heap H locs) (hA : ∀ q, s.heap.size ≤ q → A0 q) (hr : ∃ cell : Cell, H[b]? = some cell ∧ cell.vm.isStatics = false ∧ s.vm.findClass C = some cell.cls) : PreV s H C b (va_Pc (.ref b :: As) (zV dC dI tys ws H.size)) As :=
  ⟨(zV_S (As := .ref b :: As) hP hK hD hN hT hU hS hA).1, hr, (zV_S (As := .ref b :: As) hP hK hD hN hT hU hS hA).2⟩
theorem zThrow {cc : ByteArray} {own text : String} {ik is ic : Nat} {w : va_W} {PX : va_W → Prop} {Qc : Array Value → State → Outcome → State → Prop} (hexec : p.tables.exec = Jvm.exec) (hb : c.code = cc) (hl : l.stackTraces = false) (hown : s.vm.findClass own = some m.cls)
    (hk : (Cond.classLink own ik zE).before args s = true) (hini : (Cond.initialized zE).before args s = true) (hstr : ∃ a, vk_R own is text a s) (hat : ∀ w ∈ vx_atS own ic zE zNm, w.before args s = true) (hgood : ∀ w ∈ vx_atS own ic zE zNm, vx_ot w = true)
    (hU : zU A0 s s.heap) (hsize : ls.size = c.maxLocals) (d0 : decode cc pc = .ok (.new ik, 3)) (d3 : decode cc (pc + 3) = .ok (.dup, 1)) (d4 : decode cc (pc + 4) = .ok (.ldc is, 2)) (d6 : decode cc (pc + 6) = .ok (.invokespecial ic, 3)) (d9 : decode cc (pc + 9) = .ok (.athrow, 1))
    (hEx : ∀ x ∈ c.exceptionTable.toList, False) (hlocks : meth.locks = false) (hRf : 5 < R.frames) (hRl : (rest.map fun v => v.category).sum + 82 ≤ R.locals) (hRc : cells + 1 ≤ R.cells) (hRs : slots + 6 ≤ R.slots)
    (hp : PX w) (hP : va_P (dC, dI) vwCl w H) (hD : va_D A0 w) (hS : va_S A0 s.heap H locs) (hc : cells + 1 ≤ mc) (hs : slots + 6 ≤ ms) :
    W p l e R s m args below meth c H locs cells slots (vx_MQ below Qc (zX dC dI A0 PX) args s mc ms A0) (F0 m pc ls rest) := by
  obtain ⟨sa, hsa⟩ := hstr
  refine vx_throwS (own := own) (cls := zE) (text := text) (names := zNm) (ik := ik) (is := is) (ic := ic) (sa := sa) (A := A0) hexec hb hl hown (by decide +kernel) (by decide +kernel) hk hini hsa hat ?_ hU.1 hU.2 hS hsize d0 d3 d4 d6 d9 (fun x h => (hEx x h).elim) hRf hRl hRc hRs hlocks ?_ hS.2.2 hc hs
  · intro w hw
    rcases List.mem_cons.mp hw with rfl | hw
    · rfl
    · rcases List.mem_cons.mp hw with rfl | hw
      · rfl
      · exact hgood w hw
  · intro t _ hz hq
    refine ⟨rfl, w, hp, hP.kept (fun k q hk => hq q.1 (hP k q hk).lt), hD, Nat.le_trans hS.1 hz, fun q h1 h2 => ?_⟩
    rw [hq q (Nat.lt_of_lt_of_le h1 hS.1)]
    exact hS.2.1 q h1 h2
end ZV
set_option maxRecDepth 20000 in
theorem zx_gA : ∀ w ∈ (vx_atS "ShellSum" 58 zE zNm).filter goodWord, w ∈ lw_tbl := by decide +kernel
set_option maxRecDepth 20000 in
theorem zx_bA : ∀ w ∈ (vx_atS "ShellSum" 58 zE zNm).filter (fun w => !goodWord w), w ∈ zn := by decide +kernel
set_option maxRecDepth 20000 in
theorem zx_oA : ∀ w ∈ vx_atS "ShellSum" 58 zE zNm, vx_ot w = true := by decide +kernel
theorem zx_A {args : Array Value} {s : State} (htz : ∀ w ∈ zw, w.before args s = true) (hN : zN s) : ∀ w ∈ vx_atS "ShellSum" 58 zE zNm, w.before args s = true := vx_hat (B := zn) (fun w hw => htz w (zw_m (zx_gA w hw) (List.mem_filter.mp hw).2)) zx_bA (fun w hw => va_Nw.use (zn_on w hw) (hN w hw))
set_option maxRecDepth 20000 in
theorem zx_gR : ∀ w ∈ (vx_atS "ShellSum$Reckoner" 116 zE zNm).filter goodWord, w ∈ lw_tbl := by decide +kernel
set_option maxRecDepth 20000 in
theorem zx_bR : ∀ w ∈ (vx_atS "ShellSum$Reckoner" 116 zE zNm).filter (fun w => !goodWord w), w ∈ zn := by decide +kernel
set_option maxRecDepth 20000 in
theorem zx_oR : ∀ w ∈ vx_atS "ShellSum$Reckoner" 116 zE zNm, vx_ot w = true := by decide +kernel
theorem zx_R {args : Array Value} {s : State} (htz : ∀ w ∈ zw, w.before args s = true) (hN : zN s) : ∀ w ∈ vx_atS "ShellSum$Reckoner" 116 zE zNm, w.before args s = true := vx_hat (B := zn) (fun w hw => htz w (zw_m (zx_gR w hw) (List.mem_filter.mp hw).2)) zx_bR (fun w hw => va_Nw.use (zn_on w hw) (hN w hw))
set_option maxRecDepth 20000 in
theorem zx_gG : ∀ w ∈ (vx_atS "ShellSum$Signs" 25 zE zNm).filter goodWord, w ∈ lw_tbl := by decide +kernel
set_option maxRecDepth 20000 in
theorem zx_bG : ∀ w ∈ (vx_atS "ShellSum$Signs" 25 zE zNm).filter (fun w => !goodWord w), w ∈ zn := by decide +kernel
set_option maxRecDepth 20000 in
theorem zx_oG : ∀ w ∈ vx_atS "ShellSum$Signs" 25 zE zNm, vx_ot w = true := by decide +kernel
theorem zx_G {args : Array Value} {s : State} (htz : ∀ w ∈ zw, w.before args s = true) (hN : zN s) : ∀ w ∈ vx_atS "ShellSum$Signs" 25 zE zNm, w.before args s = true := vx_hat (B := zn) (fun w hw => htz w (zw_m (zx_gG w hw) (List.mem_filter.mp hw).2)) zx_bG (fun w hw => va_Nw.use (zn_on w hw) (hN w hw))
