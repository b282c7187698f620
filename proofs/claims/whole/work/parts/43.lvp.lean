/-! what a method of the levels leaves -/
def zOK (kC kI kJ kQ : ClassId) (a0 aR aN aS aF aK : Nat) (wt ln un : Nat) (rs : Int64) (fx sg : Nat → Int32) (ff : Nat → Int64) (fr : va_W) (r : sh_R) : Option Value → va_W → Prop := fun v w =>
  ∃ (z : Int64 × Nat) (e2 : sh_Env) (sg2 : Nat → Int32) (ff2 : Nat → Int64) (q2 : Nat → Option Nat) (ns2 : List rw_N), r = (some z, e2) ∧ v = some (.long z.1) ∧ zEn q2 ns2 e2 ∧ (∀ j, j < wt → sg2 j = sg j ∧ ff2 j = ff j) ∧ w = zF kC kI kJ kQ a0 aR aN aS aF aK (nI wt) ln (nI z.2) (nI un) rs fx sg2 ff2 q2 ns2 fr
def zER (kC kI kJ kQ : ClassId) (a0 aR aN aS aF aK : Nat) (ln : Nat) (rs : Int64) (fx : Nat → Int32) (fr : va_W) (r : sh_R) : va_W → Prop := fun w =>
  ∃ (e2 : sh_Env) (wt2 pl2 un2 : Int32) (sg2 : Nat → Int32) (ff2 : Nat → Int64) (q2 : Nat → Option Nat) (ns2 : List rw_N), r = (none, e2) ∧ zEn q2 ns2 e2 ∧ w = zF kC kI kJ kQ a0 aR aN aS aF aK wt2 ln pl2 un2 rs fx sg2 ff2 q2 ns2 fr
theorem zd_ok {d : Nat} {env : sh_Env} {r : sh_R} (h : ¬ d < 40 → r = (none, env)) : 0 + zk (if d < 40 then some (d + 1) else none : Option Nat) ≤ zmc env r ∧ 0 + 6 * zk (if d < 40 then some (d + 1) else none : Option Nat) ≤ zms env r := by
  by_cases hd : d < 40
  · rw [if_pos hd]; exact ⟨Nat.zero_le _, Nat.zero_le _⟩
  · rw [if_neg hd, h hd]; unfold zmc zms; simp [zk]
theorem zd_ok2 {d : Nat} {env e1 : sh_Env} {r : sh_R} (h : ¬ d < 40 → r = (none, e1)) (h2 : 3 * (e1.length - env.length) ≤ zmc env r ∧ 323 * (e1.length - env.length) ≤ zms env r) : 3 * (e1.length - env.length) + zk (if d < 40 then some (d + 1) else none : Option Nat) ≤ zmc env r ∧ 323 * (e1.length - env.length) + 6 * zk (if d < 40 then some (d + 1) else none : Option Nat) ≤ zms env r := by
  by_cases hd : d < 40
  · rw [if_pos hd]; exact h2
  · rw [if_neg hd, h hd]; exact ⟨Nat.le_refl _, Nat.le_refl _⟩
theorem zm_map (env : sh_Env) (f : Int64 → Int64) (r : sh_R) : zmc env (sh_map f r) = zmc env r ∧ zms env (sh_map f r) = zms env r := by
  unfold zmc zms sh_map
  dsimp only
  rw [zk_map]
  exact ⟨rfl, rfl⟩
theorem zm_exp (env : sh_Env) (tx : List Int32) (kx : Int32) (r : sh_R) : zmc env r ≤ zmc env (sh_exp tx kx r) ∧ zms env r ≤ zms env (sh_exp tx kx r) := by
  obtain ⟨r1, r2⟩ := r
  unfold zmc zms sh_exp
  cases r1 with
  | none => exact ⟨Nat.le_refl _, Nat.le_refl _⟩
  | some z =>
    dsimp only
    split
    · exact ⟨Nat.le_refl _, Nat.le_refl _⟩
    · simp [zk]
theorem zm_exp1 {env : sh_Env} {tx : List Int32} {kx : Int32} {z : Int64 × Nat} {e2 : sh_Env} : zmc env (sh_exp tx kx (some z, e2)) = zmc env ((some z, e2) : sh_R) + zk (if sh_at tx (sh_skip tx z.2) = kx then some () else none) ∧ zms env (sh_exp tx kx (some z, e2)) = zms env ((some z, e2) : sh_R) + 6 * zk (if sh_at tx (sh_skip tx z.2) = kx then some () else none) := by
  unfold zmc zms sh_exp
  dsimp only
  split <;> simp [zk]
theorem sh_exp_no {tx : List Int32} {kx : Int32} {z : Int64 × Nat} {e2 : sh_Env} (h : ¬ sh_at tx (sh_skip tx z.2) = kx) : sh_exp tx kx (some z, e2) = (none, e2) := by
  unfold sh_exp; dsimp only; rw [if_neg h]
theorem sh_exp_yes {tx : List Int32} {kx : Int32} {z : Int64 × Nat} {e2 : sh_Env} (h : sh_at tx (sh_skip tx z.2) = kx) : sh_exp tx kx (some z, e2) = (some (z.1, sh_skip tx z.2 + 1), e2) := by
  unfold sh_exp; dsimp only; rw [if_pos h]
theorem sh_W_env (tx : List Int32) (un pl : Nat) (env : sh_Env) : (sh_W tx un pl env).2 = env := by
  unfold sh_W
  split
  · rfl
  · split <;> rfl
