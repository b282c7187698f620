theorem aput_len {env : sh_Env} {nm : List Int32} {x : Int64} {n : Int32} (h : env.length ≤ 64) : env.length ≤ (sh_aput env nm x n).2.length ∧ (sh_aput env nm x n).2.length ≤ env.length + 1 ∧ (sh_aput env nm x n).2.length ≤ 64 := by
  unfold sh_aput
  split
  · split
    · exact ⟨Nat.le_refl _, Nat.le_succ _, h⟩
    · rename_i hp; have := l6_put h hp; exact ⟨this.2.2, this.2.1, this.1⟩
  · exact ⟨Nat.le_refl _, Nat.le_succ _, h⟩
theorem val_len {tx : List Int32} {env : sh_Env} (h : env.length ≤ 64) : (sh_val tx env).2.length ≤ 64 ∧ zmc env (sh_val tx env) + zk (sh_val tx env).1 ≤ 3 * ((sh_val tx env).2.length - env.length) + 2 ∧ zms env (sh_val tx env) + 6 * zk (sh_val tx env).1 ≤ 323 * ((sh_val tx env).2.length - env.length) + 12 := by
  have h1 : zk (sh_val tx env).1 ≤ 1 := by
    cases (sh_val tx env).1 with
    | none => exact Nat.le_refl _
    | some x => exact Nat.zero_le _
  refine ⟨l6_val h, ?_, ?_⟩
  · unfold zmc; omega
  · unfold zms; omega
theorem val_ge {tx : List Int32} {env : sh_Env} (hB : sh_B tx) : env.length ≤ (sh_val tx env).2.length := by
  unfold sh_val
  split
  · exact Nat.le_refl _
  · have he := ((sh_gd_lv hB 41).2.2 0 (sh_skip tx 0) env (sh_skip_le (Nat.zero_le _))).1
    split
    · rename_i q; rw [q] at he; exact he
    · rename_i q
      rw [q] at he
      split <;> exact he
theorem areT_O {x : Int64} {n : Int32} (h : sh_areT x n = true) : sh_O (sh_bytes x n.toNatClampNeg) := by
  unfold sh_areT at h
  simp only [Bool.and_eq_true] at h
  exact fun c hc => List.all_eq_true.mp h.2 c hc
theorem sh_O_app {a b : List Int32} (ha : sh_O a) (hb : sh_O b) : sh_O (a ++ b) := fun c hc => (List.mem_append.mp hc).elim (ha c) (hb c)
