/-- a constructor that makes the row of names finds also the class of such rows -/
def zWo (dC : Nat → ClassId) (dI : Nat → Nat → Nat) (tys : List (ClassId × FieldType)) (ws : va_W) (sz : Nat) : State → Prop := fun U => zW dC dI tys ws sz U ∧ va_AO "ShellSum$Named" U
theorem zWo_S {s : State} {H : Heap} {A0 : Nat → Prop} {dC : Nat → ClassId} {dI : Nat → Nat → Nat} {tys : List (ClassId × FieldType)} {ws : va_W} {As : List Value} (hP : va_P (dC, dI) vwCl ws H) (hK : va_K (dC, dI) vwCl tys s) (hD : va_D A0 ws) (hN : zN s) (hAO : va_AO "ShellSum$Named" s) : PreS s H (va_Pc As (zWo dC dI tys ws H.size)) As :=
  ⟨fun av U g mk h => ⟨h.1, ((zW_S (s := s) (As := As) hP hK hD hN).1 av U g mk ⟨h.1, h.2.1⟩).2, h.2.2⟩, fun U hUh hW => ⟨rfl, ((zW_S (As := As) hP hK hD hN).2 U hUh hW).2, va_AO.moved hW.alike hAO⟩⟩
theorem va_RAq {U : State} {a b : ClassId} {C : String} (h1 : va_RA U a (.object C)) (h2 : va_RA U b (.object C)) : a = b := by
  obtain ⟨-, -, -, -, -, e1⟩ := h1
  obtain ⟨-, -, -, -, -, e2⟩ := h2
  exact Option.some.inj (e1.symm.trans e2)
