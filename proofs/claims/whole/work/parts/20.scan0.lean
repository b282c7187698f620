/-- characters are bytes -/
def sh_B (tx : List Int32) : Prop := ∀ c ∈ tx, ∃ q : Nat, q < 256 ∧ c = nI q
theorem sh_at_get {tx : List Int32} {i : Nat} (h : i < tx.length) : sh_at tx i = tx[i] := by simp [sh_at, h]
theorem sh_at_out {tx : List Int32} {i : Nat} (h : tx.length ≤ i) : sh_at tx i = 0 := by simp [sh_at, List.getElem?_eq_none h]
theorem sh_at_byte {tx : List Int32} (h : sh_B tx) (i : Nat) : ∃ q : Nat, q < 256 ∧ sh_at tx i = nI q := by
  by_cases hi : i < tx.length
  · rw [sh_at_get hi]; exact h _ (List.getElem_mem hi)
  · exact ⟨0, by decide, by rw [sh_at_out (by omega)]; rfl⟩
theorem sh_at_nar {tx : List Int32} (h : sh_B tx) (i : Nat) : narrow .char (.int (sh_at tx i)) = .int (sh_at tx i) := by
  obtain ⟨q, hq, e⟩ := sh_at_byte h i
  rw [e]; exact (pk_charN (by omega)).1
theorem sh_run_go {p : Int32 → Bool} {tx : List Int32} {i : Nat} (h : i < tx.length) (hp : p (sh_at tx i) = true) : sh_run p tx i = sh_run p tx (i + 1) := by
  unfold sh_run
  rw [List.drop_eq_getElem_cons h, List.takeWhile_cons, if_pos (by rw [← sh_at_get h]; exact hp), List.length_cons]
  omega
theorem sh_run_stop {p : Int32 → Bool} {tx : List Int32} {i : Nat} (h : tx.length ≤ i ∨ p (sh_at tx i) = false) : sh_run p tx i = i := by
  unfold sh_run
  by_cases hi : i < tx.length
  · rcases h with h | h
    · omega
    · rw [List.drop_eq_getElem_cons hi, List.takeWhile_cons, if_neg (by rw [← sh_at_get hi, h]; decide)]; rfl
  · rw [List.drop_eq_nil_of_le (by omega)]; rfl
theorem sh_run_ge (p : Int32 → Bool) (tx : List Int32) (i : Nat) : i ≤ sh_run p tx i := Nat.le_add_right _ _
theorem sh_run_le {p : Int32 → Bool} {tx : List Int32} {i : Nat} (h : i ≤ tx.length) : sh_run p tx i ≤ tx.length := by
  unfold sh_run
  have := List.Sublist.length_le (List.takeWhile_sublist p (l := tx.drop i))
  rw [List.length_drop] at this
  omega
theorem sh_rank_le (s : Int32) : sh_rank s ≤ 10 := by
  unfold sh_rank
  repeat' split
  all_goals decide
theorem sh_skip_le {tx : List Int32} {i : Nat} (h : i ≤ tx.length) : sh_skip tx i ≤ tx.length := sh_run_le h
theorem sh_wend_le {tx : List Int32} {i : Nat} (h : i ≤ tx.length) : sh_wend tx i ≤ tx.length := sh_run_le h
/-- a character that isn't 0 stands within the text -/
theorem sh_at_in {tx : List Int32} {i : Nat} (h : ¬ sh_at tx i = 0) : i < tx.length := by
  rcases Nat.lt_or_ge i tx.length with q | q
  · exact q
  · exact absurd (sh_at_out q) h
