/-- the signs that wait, as work -/
def mPd (un : Nat) (k : List mI) : List (Int32 × Int64) → List mI → Prop
  | [], w => w = (5, decide (un = 0), 1, 0, 0) :: k
  | q :: r, w => 0 < sh_rank q.1 ∧ ∃ (f' : Int64) (w' : List mI), w = (5, decide (un + sh_cnt (q :: r) = 0), nI (sh_rank q.1 + 1), 0, 0) :: (6, decide (un + sh_cnt r = 0), m_c q.1, m_r q.1, f') :: w' ∧ (un + sh_cnt r = 0 → f' = q.2) ∧ mPd un k r w'
def m_lst (st : List (Int32 × Int64)) : Nat := match st with
  | [] => 1
  | q :: _ => sh_rank q.1 + 1
section
variable {tx : List Int32} {un ns : Nat} {k : List mI} {env : sh_Env}
theorem mPd_top {st : List (Int32 × Int64)} {w : List mI} (h : mPd un k st w) : ∃ w', w = (5, decide (un + sh_cnt st = 0), nI (m_lst st), 0, 0) :: w' := by
  cases st with
  | nil => exact ⟨k, h⟩
  | cons q r => obtain ⟨-, f', w', h1, -⟩ := h; exact ⟨_, h1⟩
theorem m_lst_le (st : List (Int32 × Int64)) : m_lst st ≤ 11 := by
  cases st with
  | nil => decide
  | cons q r => show sh_rank q.1 + 1 ≤ 11; have := sh_rank_le q.1; omega
theorem m_rk_le (tx : List Int32) (pl : Nat) : m_rk tx pl ≤ 10 := by
  unfold m_rk m_rc
  repeat' split
  all_goals decide
theorem nI_lt2 {a b : Nat} (ha : a < 100) (hb : b < 100) : nI a < nI b ↔ a < b := nI_ltI (by omega) (by omega)
theorem set_top {un r : Nat} {st : List (Int32 × Int64)} {v : Int64} {z : Int64 × List (Int32 × Int64)} (hr : 0 < r) (h : sh_settle un st r v = some z) : m_lst z.2 ≤ r := by
  induction st generalizing v with
  | nil => cases h; exact hr
  | cons q k ih =>
    unfold sh_settle at h
    split at h
    · rename_i hq; cases h; exact hq
    · split at h
      · cases h
      · exact ih h
/-- the signs that wait are joined while none of them ranks lower -/
theorem co_settle (hn : ns ≤ 40) {p : Nat} (hp : p ≤ tx.length) {r : Nat} (hr : m_rk tx p = r) (hpp : sh_skip tx p = p) : ∀ (st : List (Int32 × Int64)) (w : List mI) (v v' : Int64) (pl : Nat), pl ≤ tx.length → sh_skip tx pl = p → w.length < 1990 → mPd un k st w → (un + sh_cnt st = 0 → v' = v) →
    match sh_settle un st r v with
    | none => m_R tx (w, pl, ns, some v', env) (none, env)
    | some z => ∃ (y' : Int64) (w2 : List mI) (p2 : Nat), p2 ≤ tx.length ∧ sh_skip tx p2 = p ∧ mPd un k z.2 w2 ∧ (un + sh_cnt z.2 = 0 → y' = z.1) ∧ w2.length ≤ w.length ∧ m_to tx (w, pl, ns, some v', env) (w2, p2, ns, some y', env) := by
  intro st
  induction st with
  | nil =>
    intro w v v' pl hpl hsk hwl hpd hv
    exact ⟨v', w, pl, hpl, hsk, hpd, hv, Nat.le_refl _, m_to_rf _⟩
  | cons q st ih =>
    intro w v v' pl hpl hsk hwl hpd hv
    have hrk : m_rk tx pl = r := by rw [← hr]; exact m_rk_skip (by rw [hsk, hpp])
    have hr10 := m_rk_le tx p
    have hq10 := sh_rank_le q.1
    unfold sh_settle
    by_cases hlt : sh_rank q.1 < r
    · rw [if_pos hlt]
      exact ⟨v', w, pl, hpl, hsk, hpd, hv, Nat.le_refl _, m_to_rf _⟩
    · rw [if_neg hlt]
      obtain ⟨hrq, f', w', rfl, hf, hpd'⟩ := hpd
      simp only [List.length_cons] at hwl
      have t1 : m_to tx ((5, decide (un + sh_cnt (q :: st) = 0), nI (sh_rank q.1 + 1), 0, 0) :: (6, decide (un + sh_cnt st = 0), m_c q.1, m_r q.1, f') :: w', pl, ns, some v', env) ((6, decide (un + sh_cnt st = 0), m_c q.1, m_r q.1, f') :: w', p, ns, some v', env) := by
        refine m_to1 (gd_up (by omega) (by simp only [List.length_cons]; omega) hpl hn) ?_
        show m_more tx _ _ _ _ _ _ _ = _
        unfold m_more
        rw [if_pos (by rw [hrk]; right; exact (nI_lt2 (by omega) (by omega)).mpr (by omega)), hsk]
        rfl
      have hg : m_gd tx (6, decide (un + sh_cnt st = 0), m_c q.1, m_r q.1, f') w' p ns (some v') := gd_up (by omega) (by omega) hp hn
      have hst : m_step tx (6, decide (un + sh_cnt st = 0), m_c q.1, m_r q.1, f') w' p ns (some v') env = if m_jb (m_c q.1) v' (decide (un + sh_cnt st = 0)) = true then none else some (w', p, ns, some (m_do q.1 f' v'), env) := rfl
      have go : ∀ y : Int64, m_jb (m_c q.1) v' (decide (un + sh_cnt st = 0)) = false → (un + sh_cnt st = 0 → m_do q.1 f' v' = y) → match sh_settle un st r y with
          | none => m_R tx ((5, decide (un + sh_cnt (q :: st) = 0), nI (sh_rank q.1 + 1), 0, 0) :: (6, decide (un + sh_cnt st = 0), m_c q.1, m_r q.1, f') :: w', pl, ns, some v', env) (none, env)
          | some z => ∃ (y' : Int64) (w2 : List mI) (p2 : Nat), p2 ≤ tx.length ∧ sh_skip tx p2 = p ∧ mPd un k z.2 w2 ∧ (un + sh_cnt z.2 = 0 → y' = z.1) ∧ w2.length ≤ w'.length + 1 + 1 ∧ m_to tx ((5, decide (un + sh_cnt (q :: st) = 0), nI (sh_rank q.1 + 1), 0, 0) :: (6, decide (un + sh_cnt st = 0), m_c q.1, m_r q.1, f') :: w', pl, ns, some v', env) (w2, p2, ns, some y', env) := by
        intro y hj hy
        have t2 := m_to_tr t1 (m_to1 hg (by rw [hst, hj]; rfl))
        have h := ih w' y (m_do q.1 f' v') p hp hpp (by omega) hpd' hy
        cases hz : sh_settle un st r y with
        | none => rw [hz] at h; exact t2 _ h
        | some z =>
          rw [hz] at h
          obtain ⟨y', w2, p2, a1, a2, a3, a4, a5, a6⟩ := h
          exact ⟨y', w2, p2, a1, a2, a3, a4, by omega, m_to_tr t2 a6⟩
      have hcn : sh_cnt (q :: st) = (if sh_settled q.1 q.2 = true then 1 else 0) + sh_cnt st := rfl
      unfold sh_join
      by_cases h0 : un + sh_cnt st = 0
      · have hf' := hf h0
        by_cases hse : sh_settled q.1 q.2 = true
        · rw [if_pos hse]
          have hd := do_set (v := v') hrq hse (decide (un + sh_cnt st = 0))
          rw [← hf'] at hd
          exact go _ hd.1 (fun _ => hd.2)
        · rw [if_neg hse, if_neg (by omega)]
          have hvv : v' = v := hv (by rw [hcn, if_neg hse]; omega)
          rw [do_app hrq hse]
          by_cases hj : m_jb (m_c q.1) v true = true
          · rw [if_pos hj]
            refine t1 _ (m_R1 hg ?_)
            rw [hst, decide_eq_true h0, hvv, if_pos hj]
          · rw [if_neg hj]
            refine go (m_do q.1 q.2 v) ?_ (fun _ => by rw [hf', hvv])
            rw [decide_eq_true h0, hvv]; simpa using hj
      · have hj : m_jb (m_c q.1) v' (decide (un + sh_cnt st = 0)) = false := do_no _ (decide_eq_false h0) _ _
        by_cases hse : sh_settled q.1 q.2 = true
        · rw [if_pos hse]; exact go _ hj (fun h => absurd h h0)
        · rw [if_neg hse, if_pos (by omega)]; exact go _ hj (fun h => absurd h h0)
theorem co_fin (hn : ns ≤ 40) {st : List (Int32 × Int64)} {w : List mI} {v v' : Int64} {pl : Nat} (hpl : pl ≤ tx.length) (hr : m_rk tx pl = 0) (hwl : w.length < 1990) (hpd : mPd un k st w) (hv : un + sh_cnt st = 0 → v' = v) : mCo tx (sh_fin un st v (sh_skip tx pl) env) un (w, pl, ns, some v', env) k ns := by
  have hp := sh_skip_le hpl
  have hpp := sh_skip_2 tx pl
  have hr2 : m_rk tx (sh_skip tx pl) = 0 := by rw [← hr]; exact m_rk_skip hpp
  have h := co_settle (env := env) hn hp hr2 hpp st w v v' pl hpl rfl hwl hpd hv
  unfold sh_fin
  cases hz : sh_settle un st 0 v with
  | none => rw [hz] at h; exact h
  | some z =>
    rw [hz] at h
    obtain ⟨y', w2, p2, a1, a2, a3, a4, a5, a6⟩ := h
    have hz0 : z.2 = [] := by
      clear a3 a4 hpd hv
      induction st generalizing v with
      | nil => cases hz; rfl
      | cons q st ih =>
        unfold sh_settle at hz
        rw [if_neg (Nat.not_lt_zero _)] at hz
        split at hz
        · cases hz
        · exact ih hz
    rw [hz0] at a3 a4
    have e : w2 = (5, decide (un = 0), 1, 0, 0) :: k := a3
    subst e
    simp only [List.length_cons] at a5
    refine ⟨y', fun h => a4 (by rw [h]; rfl), m_to_tr a6 (m_to1 (gd_up (by omega) (by omega) a1 hn) ?_)⟩
    show m_more tx _ _ _ _ _ _ _ = _
    unfold m_more
    rw [if_pos (Or.inl (by rw [← hr]; exact m_rk_skip a2)), a2]
    rfl
theorem rk1 {s : Int32} : sh_rank s = 1 ↔ s = 31868 := by
  unfold sh_rank
  constructor
  · intro h
    repeat' split at h
    all_goals first | assumption | (exact absurd h (by decide))
  · intro h; rw [if_pos h]
theorem rk2 {s : Int32} : sh_rank s = 2 ↔ s = 9766 := by
  unfold sh_rank
  constructor
  · intro h
    repeat' split at h
    all_goals first | assumption | (exact absurd h (by decide))
  · intro h; rw [h]; decide
theorem oth_key (s : Int32) (y : Int64) : (if sh_rank s = 1 then decide (y = 0) else (decide (¬ sh_rank s = 2) || decide (¬ y = 0))) = !sh_settled s y := by
  unfold sh_settled
  by_cases e1 : s = 31868
  · rw [if_pos (rk1.mpr e1)]
    subst e1
    by_cases hy0 : y = 0 <;> simp [hy0] <;> decide
  · rw [if_neg (fun e => e1 (rk1.mp e))]
    by_cases e2 : s = 9766
    · rw [rk2.mpr e2]
      subst e2
      by_cases hy0 : y = 0 <;> simp [hy0]
    · rw [decide_eq_true (show ¬ sh_rank s = 2 from fun e => e2 (rk2.mp e)), decide_eq_false e1, decide_eq_false e2]
      rfl
theorem oth_ok {s : Int32} {st : List (Int32 × Int64)} {y y' : Int64} (hy : un + sh_cnt st = 0 → y' = y) : m_other (decide (un + sh_cnt st = 0)) (sh_rank s) y' = decide (un + sh_cnt ((s, y) :: st) = 0) := by
  have hcn : sh_cnt ((s, y) :: st) = (if sh_settled s y = true then 1 else 0) + sh_cnt st := rfl
  unfold m_other
  by_cases h0 : un + sh_cnt st = 0
  · rw [hy h0, oth_key, decide_eq_true h0, hcn]
    cases hs : sh_settled s y with
    | false => rw [if_neg (by decide)]; exact (decide_eq_true (by omega)).symm
    | true => rw [if_pos rfl]; exact (decide_eq_false (by omega)).symm
  · rw [decide_eq_false h0, decide_eq_false (show ¬ un + sh_cnt ((s, y) :: st) = 0 by rw [hcn]; omega)]; rfl
/-- the signs of two -/
theorem co_bl (hO : sh_O tx) (h3 : tx.length ≤ 300) (hn : ns ≤ 40) {U : sh_F} (gU : sh_gd tx U) (hU : mSp tx U 2 ns mTm) : ∀ (f : Nat) (st : List (Int32 × Int64)) (w : List mI) (v v' : Int64) (pl : Nat) (env : sh_Env), tx.length ≤ pl + f → pl ≤ tx.length → w.length ≤ 6 * pl + 2 → mPd un k st w → (un + sh_cnt st = 0 → v' = v) → mCo tx (sh_bl tx U un f st v pl env) un (w, pl, ns, some v', env) k ns := by
  intro f
  induction f with
  | zero =>
    intro st w v v' pl env hf hpl hwl hpd hv
    have hsk : sh_skip tx pl = pl := sh_run_stop (Or.inl hf)
    have hr : m_rk tx pl = 0 := by
      unfold m_rk
      rw [hsk, m_at_out (i := pl) hf]
      rfl
    show mCo tx (sh_fin un st v (sh_sign2 tx pl).2 env) un _ k ns
    rcases sg_ok hO pl with ⟨-, h2⟩ | ⟨h1, -⟩
    · rw [h2]; exact co_fin hn hpl hr (by omega) hpd hv
    · omega
  | succ f ih =>
    intro st w v v' pl env hf hpl hwl hpd hv
    unfold sh_bl
    rcases sg_ok hO pl with ⟨h1, h2⟩ | ⟨h1, h2, h4, h5, h6, h7⟩
    · rw [h2, if_pos rfl]; exact co_fin hn hpl h1 (by omega) hpd hv
    · rw [if_neg h4]
      have hok := sh_sign2_ok (sh_O_B hO) hpl
      have hgt := hok.2.2 h4
      have hp := sh_skip_le hpl
      have hpp := sh_skip_2 tx pl
      have hrr : m_rk tx (sh_skip tx pl) = sh_rank (sh_sign2 tx pl).1 := by rw [h2]; exact m_rk_skip hpp
      have h := co_settle (env := env) hn hp hrr hpp st w v v' pl hpl rfl (by omega) hpd hv
      have ht := @set_top un (sh_rank (sh_sign2 tx pl).1) st v
      cases hz : sh_settle un st (sh_rank (sh_sign2 tx pl).1) v with
      | none => rw [hz] at h; exact h
      | some y =>
        rw [hz] at h
        obtain ⟨y', w2, p2, a1, a2, a3, a4, a5, a6⟩ := h
        have hle := ht (by omega) hz
        obtain ⟨w3, hw3⟩ := mPd_top a3
        have hr10 := sh_rank_le (sh_sign2 tx pl).1
        have hl11 := m_lst_le y.2
        have hsame : m_rk tx p2 = sh_rank (sh_sign2 tx pl).1 := by rw [h2]; exact m_rk_skip a2
        have hbo : m_both tx p2 = m_both tx pl := m_both_skip a2
        have t1 : m_to tx (w2, p2, ns, some y', env) ((4, decide (un + sh_cnt (((sh_sign2 tx pl).1, y.1) :: y.2) = 0), nI (sh_rank (sh_sign2 tx pl).1 + 1), 0, 0) :: (6, decide (un + sh_cnt y.2 = 0), m_c (sh_sign2 tx pl).1, m_r (sh_sign2 tx pl).1, y') :: w2, (sh_sign2 tx pl).2, ns, none, env) := by
          rw [hw3]
          rw [hw3, List.length_cons] at a5
          refine m_to1 (gd_up (by omega) (by omega) a1 hn) ?_
          show m_more tx _ _ _ _ _ _ _ = _
          unfold m_more
          rw [if_neg (by rw [hsame]; intro hh; rcases hh with hh | hh; · omega
                         · exact absurd ((nI_lt2 (by omega) (by omega)).mp hh) (by omega)), hsame, hbo, a2, h5, ← h7, ← h6, ← oth_ok a4, h2]
          rfl
        have t2 : m_to tx ((4, decide (un + sh_cnt (((sh_sign2 tx pl).1, y.1) :: y.2) = 0), nI (sh_rank (sh_sign2 tx pl).1 + 1), 0, 0) :: (6, decide (un + sh_cnt y.2 = 0), m_c (sh_sign2 tx pl).1, m_r (sh_sign2 tx pl).1, y') :: w2, (sh_sign2 tx pl).2, ns, none, env)
            ((7, decide (un + sh_cnt (((sh_sign2 tx pl).1, y.1) :: y.2) = 0), 0, 0, 0) :: (5, decide (un + sh_cnt (((sh_sign2 tx pl).1, y.1) :: y.2) = 0), nI (sh_rank (sh_sign2 tx pl).1 + 1), 0, 0) :: (6, decide (un + sh_cnt y.2 = 0), m_c (sh_sign2 tx pl).1, m_r (sh_sign2 tx pl).1, y') :: w2, (sh_sign2 tx pl).2, ns, none, env) :=
          m_to1 (gd_dn (by omega) (by simp only [List.length_cons]; omega) hok.2.1 hn) rfl
        have t3 := m_to_tr a6 (m_to_tr t1 t2)
        have hu := hU (un + sh_cnt (((sh_sign2 tx pl).1, y.1) :: y.2)) (sh_sign2 tx pl).2 env ((5, decide (un + sh_cnt (((sh_sign2 tx pl).1, y.1) :: y.2) = 0), nI (sh_rank (sh_sign2 tx pl).1 + 1), 0, 0) :: (6, decide (un + sh_cnt y.2 = 0), m_c (sh_sign2 tx pl).1, m_r (sh_sign2 tx pl).1, y') :: w2) hok.2.1 (by simp only [List.length_cons]; omega)
        have hgu := (gU (un + sh_cnt (((sh_sign2 tx pl).1, y.1) :: y.2)) (sh_sign2 tx pl).2 env hok.2.1).2
        dsimp only
        cases hx : U (un + sh_cnt (((sh_sign2 tx pl).1, y.1) :: y.2)) (sh_sign2 tx pl).2 env with
        | mk r1 e2 =>
          rw [hx] at hu hgu
          cases r1 with
          | none => exact t3 _ hu
          | some z =>
            obtain ⟨v2, b1, b2⟩ := hu
            obtain ⟨b3, b4⟩ := hgu z rfl
            refine co_pre (m_to_tr t3 b2) (ih _ _ z.1 v2 z.2 e2 (by omega) b4 (by simp only [List.length_cons]; omega) ⟨by show 0 < sh_rank (sh_sign2 tx pl).1; omega, y', w2, rfl, a4, a3⟩ b1)
theorem sp_Bin (hO : sh_O tx) (h3 : tx.length ≤ 300) (hn : ns ≤ 40) {U : sh_F} (gU : sh_gd tx U) (hU : mSp tx U 2 ns mTm) : mSp tx (sh_Bin tx U) 1 ns mRa := by
  intro un pl env k hp hk
  have t1 : m_to tx ((4, decide (un = 0), 1, 0, 0) :: k, pl, ns, none, env) ((7, decide (un = 0), 0, 0, 0) :: (5, decide (un = 0), 1, 0, 0) :: k, pl, ns, none, env) := m_to1 (gd_dn (by omega) (by omega) hp hn) rfl
  have hu := hU un pl env ((5, decide (un = 0), 1, 0, 0) :: k) hp (by rw [List.length_cons]; omega)
  have hgu := (gU un pl env hp).2
  show mCo tx _ un ((4, decide (un = 0), 1, 0, 0) :: k, pl, ns, none, env) k ns
  unfold sh_Bin
  cases hx : U un pl env with
  | mk r1 e2 =>
    rw [hx] at hu hgu
    cases r1 with
    | none => exact t1 _ hu
    | some z =>
      obtain ⟨v2, b1, b2⟩ := hu
      obtain ⟨b3, b4⟩ := hgu z rfl
      exact co_pre (m_to_tr t1 b2) (co_bl hO h3 hn gU hU 300 [] _ z.1 v2 z.2 e2 (by omega) b4 (by rw [List.length_cons]; omega) rfl b1)
end
