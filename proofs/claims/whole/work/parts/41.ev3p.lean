section
variable {env : sh_Env} {ql : List Int32} {s0 : Int32} {v0 y x : Int64}
theorem sh_asg_n1 (h : ¬ s0 = 61) (h1 : sh_nameVal env ql = none) : sh_asg env ql s0 v0 = (none, env) := by
  unfold sh_asg; rw [if_neg h, h1]; rfl
theorem sh_asg_n2 (h : ¬ s0 = 61) (h1 : sh_nameVal env ql = some y) (h2 : sh_apply s0 y v0 = none) : sh_asg env ql s0 v0 = (none, env) := by
  unfold sh_asg; rw [if_neg h, h1]; dsimp only [Option.bind]; rw [h2]
theorem sh_asg_n3 (h : (if s0 = 61 then some v0 else (sh_nameVal env ql).bind (fun x => sh_apply s0 x v0)) = some x) (h2 : sh_put env ql (sh_dec x) = none) : sh_asg env ql s0 v0 = (none, env) := by
  unfold sh_asg; rw [h]; dsimp only; rw [h2]
theorem sh_asg_ok {e2 : sh_Env} (h : (if s0 = 61 then some v0 else (sh_nameVal env ql).bind (fun x => sh_apply s0 x v0)) = some x) (h2 : sh_put env ql (sh_dec x) = some e2) : sh_asg env ql s0 v0 = (some x, e2) := by
  unfold sh_asg; rw [h]; dsimp only; rw [h2]
theorem sh_asg_z1 (h : ¬ s0 = 61) : zk (sh_nameVal env ql) ≤ zmc env (sh_asg env ql s0 v0) ∧ 6 * zk (sh_nameVal env ql) ≤ zms env (sh_asg env ql s0 v0) := by
  cases h1 : sh_nameVal env ql with
  | none => rw [sh_asg_n1 h h1]; unfold zmc zms; simp [zk]
  | some y => exact ⟨Nat.zero_le _, Nat.zero_le _⟩
theorem sh_asg_z2 (h : ¬ s0 = 61) (h1 : sh_nameVal env ql = some y) : zk (sh_apply s0 y v0) ≤ zmc env (sh_asg env ql s0 v0) ∧ 6 * zk (sh_apply s0 y v0) ≤ zms env (sh_asg env ql s0 v0) := by
  cases h2 : sh_apply s0 y v0 with
  | none => rw [sh_asg_n2 h h1 h2]; unfold zmc zms; simp [zk]
  | some y => exact ⟨Nat.zero_le _, Nat.zero_le _⟩
theorem sh_asg_ac {q : Nat → Option Nat} {ns : List rw_N} (hE : zEn q ns env) (h : (if s0 = 61 then some v0 else (sh_nameVal env ql).bind (fun x => sh_apply s0 x v0)) = some x) (hq : ql.length ≤ 300) : 3 * sh_ac ns ql ≤ zmc env (sh_asg env ql s0 v0) ∧ (23 + ql.length) * sh_ac ns ql ≤ zms env (sh_asg env ql s0 v0) := by
  unfold sh_ac
  split
  · rename_i hc
    rw [sh_asg_ok h (sh_put_new (zEn_fnone hE hc.1) (by rw [zEn_len hE]; exact hc.2))]
    unfold zmc zms
    simp [zk]
    omega
  · exact ⟨Nat.zero_le _, Nat.zero_le _⟩
end
