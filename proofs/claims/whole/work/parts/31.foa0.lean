def sh_ac (ns : List rw_N) (ql : List Int32) : Nat := if sh_fi ns ql = none ∧ ns.length < 64 then 1 else 0
theorem xa_setl {α : Type} {a b : List α} {k : Nat} {x : α} (h : k < a.length) : (a ++ b).set k x = a.set k x ++ b := List.set_append_left _ _ h
theorem xo_or {α : Type} (o : Option α) : o = none ∨ ∃ x, o = some x := by cases o with
  | none => exact Or.inl rfl
  | some x => exact Or.inr ⟨x, rfl⟩
theorem xl_of {α : Type} {a : List α} {k : Nat} {x : α} (h : a[k]? = some x) : k < a.length := (List.getElem?_eq_some_iff.mp h).1
