theorem sh_cnt_le (k : List (Int32 × Int64)) : sh_cnt k ≤ k.length := by
  induction k with
  | nil => exact Nat.le_refl _
  | cons q r ih =>
    show (if sh_settled q.1 q.2 = true then 1 else 0) + sh_cnt r ≤ r.length + 1
    split <;> omega
theorem zPd_same {sg sg' : Nat → Int32} {ff ff' : Nat → Int64} {wt : Nat} {k : List (Int32 × Int64)} (h : ∀ j, j < wt + k.length → sg' j = sg j ∧ ff' j = ff j) (hp : zPd sg ff wt k) : zPd sg' ff' wt k := by
  induction k with
  | nil => trivial
  | cons q r ih =>
    have hl : (q :: r).length = r.length + 1 := rfl
    exact ⟨(h _ (by omega)).1.trans hp.1, (h _ (by omega)).2.trans hp.2.1, ih (fun j hj => h j (by omega)) hp.2.2⟩
theorem zPd_push {sg : Nat → Int32} {ff : Nat → Int64} {wt : Nat} {k : List (Int32 × Int64)} {s : Int32} {f : Int64} (hp : zPd sg ff wt k) : zPd (upd sg (wt + k.length) s) (vp_updL ff (wt + k.length) f) wt ((s, f) :: k) :=
  ⟨pk_us, if_pos rfl, zPd_same (fun j hj => ⟨pk_un (by omega), if_neg (by omega)⟩) hp⟩
theorem sh_settle_le {un r wt : Nat} {sg : Nat → Int32} {ff : Nat → Int64} {k : List (Int32 × Int64)} {v : Int64} {z : Int64 × List (Int32 × Int64)} (hp : zPd sg ff wt k) (h : sh_settle un k r v = some z) : z.2.length ≤ k.length ∧ zPd sg ff wt z.2 := by
  induction k generalizing v with
  | nil => cases h; exact ⟨Nat.le_refl _, trivial⟩
  | cons q k ih =>
    unfold sh_settle at h
    split at h
    · cases h; exact ⟨Nat.le_refl _, hp⟩
    · split at h
      · cases h
      · have := ih hp.2.2 h
        exact ⟨Nat.le_trans this.1 (Nat.le_succ _), this.2⟩
theorem sh_settle_0 {un : Nat} {k : List (Int32 × Int64)} {v : Int64} {z : Int64 × List (Int32 × Int64)} (h : sh_settle un k 0 v = some z) : z.2 = [] := by
  induction k generalizing v with
  | nil => cases h; rfl
  | cons q k ih =>
    unfold sh_settle at h
    rw [if_neg (Nat.not_lt_zero _)] at h
    split at h
    · cases h
    · exact ih h
section
variable {tx : List Int32} {U : sh_F} {un p0 : Nat} {env e2 e3 e4 : sh_Env} {z z4 : Int64 × Nat}
theorem sh_Bin_no (h : U un p0 env = (none, e2)) : sh_Bin tx U un p0 env = (none, e2) := by
  unfold sh_Bin; rw [h]
theorem sh_Bin_go (h : U un p0 env = (some z, e2)) : sh_Bin tx U un p0 env = sh_bl tx U un 300 [] z.1 z.2 e2 := by
  unfold sh_Bin; rw [h]
theorem zm_ge {e0 : sh_Env} {r : sh_R} (_ : e0.length ≤ e3.length) (h : e3.length ≤ r.2.length) : 3 * (e3.length - e0.length) ≤ zmc e0 r ∧ 323 * (e3.length - e0.length) ≤ zms e0 r := by
  unfold zmc zms; omega
theorem zm_ge2 {e0 : sh_Env} {r : sh_R} (h1 : e0.length ≤ e3.length) (h2 : e3.length ≤ r.2.length) : zmc e0 r = 3 * (e3.length - e0.length) + zmc e3 r ∧ zms e0 r = 323 * (e3.length - e0.length) + zms e3 r := by
  unfold zmc zms; omega
theorem zm_Bin (hB : sh_B tx) (hU : sh_gd tx U) (hp : p0 ≤ tx.length) : zmc env (U un p0 env) ≤ zmc env (sh_Bin tx U un p0 env) ∧ zms env (U un p0 env) ≤ zms env (sh_Bin tx U un p0 env) := by
  have hu := hU un p0 env hp
  cases h : U un p0 env with
  | mk r1 e2 =>
    rw [h] at hu
    cases r1 with
    | none => rw [sh_Bin_no h]; exact ⟨Nat.le_refl _, Nat.le_refl _⟩
    | some z =>
      rw [sh_Bin_go h]
      exact zm_ge hu.1 (sh_gd_bl hB hU un 300 [] z.1 z.2 e2 (hu.2 z rfl).2).1
variable {f : Nat} {sk : List (Int32 × Int64)} {v : Int64} {pl : Nat} {y : Int64 × List (Int32 × Int64)}
theorem sh_bl_fin (h : (sh_sign2 tx pl).1 = 0) : sh_bl tx U un (f + 1) sk v pl e3 = sh_fin un sk v (sh_sign2 tx pl).2 e3 := by
  rw [sh_bl, if_pos h]
theorem sh_bl_n1 (h : ¬ (sh_sign2 tx pl).1 = 0) (h2 : sh_settle un sk (sh_rank (sh_sign2 tx pl).1) v = none) : sh_bl tx U un (f + 1) sk v pl e3 = (none, e3) := by
  rw [sh_bl, if_neg h, h2]
theorem sh_bl_n2 (h : ¬ (sh_sign2 tx pl).1 = 0) (h2 : sh_settle un sk (sh_rank (sh_sign2 tx pl).1) v = some y) (h4 : U (un + sh_cnt (((sh_sign2 tx pl).1, y.1) :: y.2)) (sh_sign2 tx pl).2 e3 = (none, e4)) : sh_bl tx U un (f + 1) sk v pl e3 = (none, e4) := by
  rw [sh_bl, if_neg h, h2]; dsimp only; rw [h4]
theorem sh_bl_go (h : ¬ (sh_sign2 tx pl).1 = 0) (h2 : sh_settle un sk (sh_rank (sh_sign2 tx pl).1) v = some y) (h4 : U (un + sh_cnt (((sh_sign2 tx pl).1, y.1) :: y.2)) (sh_sign2 tx pl).2 e3 = (some z4, e4)) : sh_bl tx U un (f + 1) sk v pl e3 = sh_bl tx U un f (((sh_sign2 tx pl).1, y.1) :: y.2) z4.1 z4.2 e4 := by
  rw [sh_bl, if_neg h, h2]; dsimp only; rw [h4]
theorem zm_add {α : Type} {r : sh_R} {o : Option α} (hz : 3 * (e3.length - env.length) ≤ zmc env r ∧ 323 * (e3.length - env.length) ≤ zms env r) (h : o = none → r = (none, e3)) : 3 * (e3.length - env.length) + zk o ≤ zmc env r ∧ 323 * (e3.length - env.length) + 6 * zk o ≤ zms env r := by
  cases o with
  | none => rw [h rfl]; exact ⟨Nat.le_refl _, Nat.le_refl _⟩
  | some x => exact hz
theorem zm_bl (hB : sh_B tx) (hU : sh_gd tx U) (hen : env.length ≤ e3.length) (hu : e3.length ≤ (U (un + sh_cnt (((sh_sign2 tx pl).1, y.1) :: y.2)) (sh_sign2 tx pl).2 e3).2.length ∧ ∀ z, (U (un + sh_cnt (((sh_sign2 tx pl).1, y.1) :: y.2)) (sh_sign2 tx pl).2 e3).1 = some z → (sh_sign2 tx pl).2 < z.2 ∧ z.2 ≤ tx.length)
    (h : ¬ (sh_sign2 tx pl).1 = 0) (h2 : sh_settle un sk (sh_rank (sh_sign2 tx pl).1) v = some y) :
    3 * (e3.length - env.length) + zmc e3 (U (un + sh_cnt (((sh_sign2 tx pl).1, y.1) :: y.2)) (sh_sign2 tx pl).2 e3) ≤ zmc env (sh_bl tx U un (f + 1) sk v pl e3) ∧ 323 * (e3.length - env.length) + zms e3 (U (un + sh_cnt (((sh_sign2 tx pl).1, y.1) :: y.2)) (sh_sign2 tx pl).2 e3) ≤ zms env (sh_bl tx U un (f + 1) sk v pl e3) := by
  cases h4 : U (un + sh_cnt (((sh_sign2 tx pl).1, y.1) :: y.2)) (sh_sign2 tx pl).2 e3 with
  | mk r1 e4 =>
    rw [h4] at hu
    have hl : e3.length ≤ e4.length := hu.1
    cases r1 with
    | none => rw [sh_bl_n2 h h2 h4]; unfold zmc zms; dsimp only; omega
    | some z =>
      rw [sh_bl_go h h2 h4]
      have hb := (sh_gd_bl hB hU un f (((sh_sign2 tx pl).1, y.1) :: y.2) z.1 z.2 e4 (hu.2 z rfl).2).1
      unfold zmc zms
      dsimp only [zk]
      omega
end
