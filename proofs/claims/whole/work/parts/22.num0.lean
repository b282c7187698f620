def sh_nb (l : List Int32) : Int32 := sh_base (sh_at l 0) (if l.length ≤ 1 then 48 else sh_at l 1)
theorem sh_num_nil {l : List Int32} (h : l.length = 0) : sh_num l = none := by
  rw [List.length_eq_zero_iff.mp h]; rfl
theorem sh_num_eq {l : List Int32} (h : 0 < l.length) : sh_num l = if sh_nb l = 16 then (if l.length ≤ 2 then none else sh_digs 16 (l.drop 2) 0) else sh_digs (sh_nb l) l 0 := by
  match l, h with
  | [a], _ => rfl
  | a :: b :: [], _ => rfl
  | a :: b :: c :: r, _ => rfl
theorem sh_base_le (a b : Int32) : sh_base a b = 16 ∨ sh_base a b = 8 ∨ sh_base a b = 10 := by
  unfold sh_base
  split
  · split
    · exact Or.inl rfl
    · exact Or.inr (Or.inl rfl)
  · exact Or.inr (Or.inr rfl)
theorem sh_digs_step {b : Int32} {l : List Int32} {i : Nat} {v : Int64} (h : i < l.length) : sh_digs b (l.drop i) v = if sh_digOf (sh_at l i) < 0 ∨ b ≤ sh_digOf (sh_at l i) then none else sh_digs b (l.drop (i + 1)) (v * b.toInt64 + (sh_digOf (sh_at l i)).toInt64) := by
  rw [List.drop_eq_getElem_cons h, sh_at_get h]; rfl
theorem sh_digs_end {b : Int32} {l : List Int32} {i : Nat} {v : Int64} (h : l.length ≤ i) : sh_digs b (l.drop i) v = some v := by
  rw [List.drop_eq_nil_of_le h]; rfl
