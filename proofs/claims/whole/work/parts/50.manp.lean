/-- the value of a whole text -/
def sh_val (tx : List Int32) (env : sh_Env) : Option Int64 × sh_Env := if tx.length ≤ sh_skip tx 0 then (some 0, env) else match lE tx 41 0 (sh_skip tx 0) env with
  | (none, e2) => (none, e2)
  | (some z, e2) => if tx.length ≤ sh_skip tx z.2 then (some z.1, e2) else (none, e2)
theorem zm_val {tx : List Int32} {env : sh_Env} {r : sh_R} : zmc env r ≤ zmc env (match r with | (none, e2) => (none, e2) | (some z, e2) => if tx.length ≤ sh_skip tx z.2 then (some z.1, e2) else (none, e2) : Option Int64 × sh_Env) ∧ zms env r ≤ zms env (match r with | (none, e2) => (none, e2) | (some z, e2) => if tx.length ≤ sh_skip tx z.2 then (some z.1, e2) else (none, e2) : Option Int64 × sh_Env) := by
  obtain ⟨r1, r2⟩ := r
  cases r1 with
  | none => exact ⟨Nat.le_refl _, Nat.le_refl _⟩
  | some z =>
    dsimp only
    unfold zmc zms
    split <;> simp [zk]
