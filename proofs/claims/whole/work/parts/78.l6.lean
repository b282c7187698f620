/-! never more than 64 names -/
def sh_l6 (F : sh_F) : Prop := ∀ un pl env, env.length ≤ 64 → (F un pl env).2.length ≤ 64
theorem l6_bad : sh_l6 sh_bad := fun _ _ _ h => h
theorem l6_W (tx : List Int32) : sh_l6 (sh_W tx) := fun un pl env h => by
  unfold sh_W
  split
  · exact h
  · split <;> exact h
theorem l6_put {env e2 : sh_Env} {nm t : List Int32} (h : env.length ≤ 64) (hp : sh_put env nm t = some e2) : e2.length ≤ 64 ∧ e2.length ≤ env.length + 1 ∧ env.length ≤ e2.length := by
  unfold sh_put at hp
  split at hp
  · cases hp; rw [List.length_map]; exact ⟨h, Nat.le_succ _, Nat.le_refl _⟩
  · split at hp
    · cases hp
    · cases hp; rw [List.length_append]; exact ⟨by show env.length + 1 ≤ 64; omega, Nat.le_refl _, Nat.le_succ _⟩
theorem l6_asg {env : sh_Env} {nm : List Int32} {sg : Int32} {v : Int64} (h : env.length ≤ 64) : (sh_asg env nm sg v).2.length ≤ 64 := by
  unfold sh_asg
  split
  · exact h
  · split
    · exact h
    · rename_i hp; exact (l6_put h hp).1
theorem l6_exp {tx : List Int32} {k : Int32} {r : sh_R} (h : r.2.length ≤ 64) : (sh_exp tx k r).2.length ≤ 64 := by
  unfold sh_exp
  split
  · exact h
  · split <;> exact h
theorem l6_U {tx : List Int32} {U E : sh_F} (hU : sh_l6 U) (hE : sh_l6 E) : sh_l6 (sh_U tx U E) := fun un pl env h => by
  unfold sh_U
  split
  · exact hU _ _ _ h
  · split
    · exact hU _ _ _ h
    · split
      · exact hU _ _ _ h
      · split
        · exact hU _ _ _ h
        · split
          · exact l6_exp (hE _ _ _ h)
          · exact l6_W tx _ _ _ h
theorem l6_bl {tx : List Int32} {U : sh_F} (hU : sh_l6 U) (un : Nat) : ∀ (f : Nat) (st : List (Int32 × Int64)) (v : Int64) (pl : Nat) (env : sh_Env), env.length ≤ 64 → (sh_bl tx U un f st v pl env).2.length ≤ 64 := by
  intro f
  induction f with
  | zero => intro st v pl env h; exact h
  | succ f ih =>
    intro st v pl env h
    unfold sh_bl
    split
    · exact h
    · split
      · exact h
      · rename_i z _
        have hu := hU (un + sh_cnt (((sh_sign2 tx pl).1, z.1) :: z.2)) (sh_sign2 tx pl).2 env h
        split
        · rename_i e; rw [e] at hu; exact hu
        · rename_i e; rw [e] at hu; exact ih _ _ _ _ hu
theorem l6_Bin {tx : List Int32} {U : sh_F} (hU : sh_l6 U) : sh_l6 (sh_Bin tx U) := fun un pl env h => by
  have hu := hU un pl env h
  unfold sh_Bin
  split
  · rename_i e; rw [e] at hu; exact hu
  · rename_i e; rw [e] at hu; exact l6_bl hU un _ _ _ _ _ hu
theorem l6_C {tx : List Int32} {B C E : sh_F} (hB : sh_l6 B) (hC : sh_l6 C) (hE : sh_l6 E) : sh_l6 (sh_C tx B C E) := fun un pl env h => by
  have hb := hB un pl env h
  unfold sh_C
  split
  · rename_i e; rw [e] at hb; exact hb
  · rename_i t e1 e
    rw [e] at hb
    split
    · have he := l6_exp (tx := tx) (k := 58) (hE (un + (if t.1 = 0 then 1 else 0)) (sh_skip tx t.2 + 1) e1 hb)
      split
      · rename_i e; rw [e] at he; exact he
      · rename_i a e2 e
        rw [e] at he
        have hc := hC (un + (if t.1 = 0 then 0 else 1)) a.2 e2 he
        split
        · rename_i e; rw [e] at hc; exact hc
        · rename_i e; rw [e] at hc; exact hc
    · exact hb
theorem l6_E {tx : List Int32} {C E : sh_F} (hC : sh_l6 C) (hE : sh_l6 E) : sh_l6 (sh_E tx C E) := fun un pl env h => by
  unfold sh_E
  split
  · have he := hE un (sh_signA tx (sh_wend tx (sh_skip tx pl))).2 env h
    split
    · rename_i e; rw [e] at he; exact he
    · rename_i e
      rw [e] at he
      split
      · exact he
      · exact l6_asg he
  · exact hC _ _ _ h
theorem l6_lv (tx : List Int32) (k : Nat) : sh_l6 (lU tx k) ∧ sh_l6 (lC tx k) ∧ sh_l6 (lE tx k) := by
  induction k with
  | zero => exact ⟨l6_bad, l6_bad, l6_bad⟩
  | succ k ih =>
    have u : sh_l6 (lU tx (k + 1)) := l6_U ih.1 ih.2.2
    have cc : sh_l6 (lC tx (k + 1)) := l6_C (l6_Bin u) ih.2.1 ih.2.2
    exact ⟨u, cc, l6_E cc ih.2.2⟩
theorem l6_val {tx : List Int32} {env : sh_Env} (h : env.length ≤ 64) : (sh_val tx env).2.length ≤ 64 := by
  unfold sh_val
  split
  · exact h
  · have he := (l6_lv tx 41).2.2 0 (sh_skip tx 0) env h
    split
    · rename_i e; rw [e] at he; exact he
    · rename_i e
      rw [e] at he
      split <;> exact he
theorem law_gt {i n : Nat} (hi : i < 2 ^ 20) (hn : n < 2 ^ 20) : (nI n - 4 < nI i) ↔ ¬ i + 4 ≤ n := by
  have h4 : (4 : Int32).toInt = 4 := rfl
  rw [Int32.lt_iff_toInt_lt, Int32.toInt_sub, nI_toInt (by omega), nI_toInt (by omega), h4, Int.bmod_eq_of_le (by omega) (by omega)]
  omega
