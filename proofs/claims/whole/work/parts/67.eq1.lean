/-! the machine and the levels -/
theorem tk_end {p : Int32 → Bool} {nl : List Int32} : (nl.takeWhile p).length < nl.length → p (sh_at nl (nl.takeWhile p).length) = false := by
  induction nl with
  | nil => intro h; exact absurd h (Nat.not_lt_zero _)
  | cons c r ih =>
    intro h
    rw [List.takeWhile_cons] at h ⊢
    split
    · rename_i hc
      rw [if_pos hc] at h
      exact ih (Nat.lt_of_succ_lt_succ h)
    · rename_i hc
      show p c = false
      simpa using hc
theorem sh_run_end (p : Int32 → Bool) (tx : List Int32) (i : Nat) : tx.length ≤ sh_run p tx i ∨ p (sh_at tx (sh_run p tx i)) = false := by
  unfold sh_run
  rcases Nat.lt_or_ge ((tx.drop i).takeWhile p).length (tx.drop i).length with h | h
  · right
    have := tk_end h
    rw [show sh_at (tx.drop i) ((tx.drop i).takeWhile p).length = sh_at tx (i + ((tx.drop i).takeWhile p).length) from by unfold sh_at; rw [List.getD_eq_getElem?_getD, List.getD_eq_getElem?_getD, List.getElem?_drop]] at this
    exact this
  · left
    rw [List.length_drop] at h
    omega
theorem sh_skip_2 (tx : List Int32) (i : Nat) : sh_skip tx (sh_skip tx i) = sh_skip tx i := sh_run_stop (sh_run_end sh_blank tx i)
theorem m_rk_skip {tx : List Int32} {i j : Nat} (h : sh_skip tx i = sh_skip tx j) : m_rk tx i = m_rk tx j := by unfold m_rk; rw [h]
theorem m_both_skip {tx : List Int32} {i j : Nat} (h : sh_skip tx i = sh_skip tx j) : m_both tx i = m_both tx j := by unfold m_both; rw [m_rk_skip h, h]
def mCo (tx : List Int32) (r : sh_R) (un : Nat) (s : mS) (k : List mI) (ns : Nat) : Prop := match r with
  | (none, e2) => m_R tx s (none, e2)
  | (some z, e2) => ∃ v, (un = 0 → v = z.1) ∧ m_to tx s (k, z.2, ns, some v, e2)
def mSp (tx : List Int32) (F : sh_F) (w ns : Nat) (it : Bool → List mI) : Prop := ∀ (un pl : Nat) (env : sh_Env) (k : List mI), pl ≤ tx.length → k.length ≤ 6 * pl + w → mCo tx (F un pl env) un (it (decide (un = 0)) ++ k, pl, ns, none, env) k ns
def mTm (nd : Bool) : List mI := [(7, nd, 0, 0, 0)]
def mRa (nd : Bool) : List mI := [(4, nd, 1, 0, 0)]
def mCh (nd : Bool) : List mI := [(4, nd, 1, 0, 0), (1, nd, 0, 0, 0)]
def mSu (nd : Bool) : List mI := [(0, nd, 0, 0, 0)]
section
variable {tx : List Int32} {un ns pl : Nat} {k : List mI} {env e2 : sh_Env} {r : sh_R} {s s' : mS} {nd : Bool} {a b : Int32} {w x : Int64} {o : Option Int64}
theorem co_pre (h : m_to tx s s') (hc : mCo tx r un s' k ns) : mCo tx r un s k ns := by
  obtain ⟨r1, r2⟩ := r
  cases r1 with
  | none => exact h _ hc
  | some z =>
    obtain ⟨v, h1, h2⟩ := hc
    exact ⟨v, h1, m_to_tr h h2⟩
theorem gd_dn {i : Nat} (hi : i = 0 ∨ i = 4 ∨ i = 7) (hk : k.length < 1990) (hp : pl ≤ tx.length) (hn : ns ≤ 40) : m_gd tx (i, nd, a, b, w) k pl ns none := by
  refine ⟨hk, hp, hn, by show i ≤ 10; omega, by rw [if_pos hi], fun h => ?_, fun h => ?_⟩
  · have h' : i = 3 ∨ i = 8 ∨ i = 9 ∨ i = 10 := h
    omega
  · have h' : i = 10 := h
    omega
theorem gd_up {i : Nat} (hi : i = 1 ∨ i = 2 ∨ i = 5 ∨ i = 6) (hk : k.length < 1990) (hp : pl ≤ tx.length) (hn : ns ≤ 40) : m_gd tx (i, nd, a, b, w) k pl ns (some x) := by
  refine ⟨hk, hp, hn, by show i ≤ 10; omega, by rw [if_neg (by show ¬ (i = 0 ∨ i = 4 ∨ i = 7); omega)]; rfl, fun h => ?_, fun h => ?_⟩
  · have h' : i = 3 ∨ i = 8 ∨ i = 9 ∨ i = 10 := h
    omega
  · have h' : i = 10 := h
    omega
theorem gd_in {i : Nat} (hi : i = 3 ∨ i = 8 ∨ i = 9) (hk : k.length < 1990) (hp : pl ≤ tx.length) (hn : ns + 1 ≤ 40) : m_gd tx (i, nd, a, b, w) k pl (ns + 1) (some x) := by
  refine ⟨hk, hp, hn, by show i ≤ 10; omega, by rw [if_neg (by show ¬ (i = 0 ∨ i = 4 ∨ i = 7); omega)]; rfl, fun h => by omega, fun h => ?_⟩
  have h' : i = 10 := h
  omega
/-- a sign ahead of a term -/
theorem co_map {f : Int64 → Int64} {c : Int32} (hf : ∀ x, m_sgn c x = f x) (hk : k.length < 1990) (hn : ns + 1 ≤ 40) (hz : ∀ z, r.1 = some z → z.2 ≤ tx.length) (hc : mCo tx r un s ((8, nd, c, 0, 0) :: k) (ns + 1)) : mCo tx (sh_map f r) un s k ns := by
  obtain ⟨r1, r2⟩ := r
  cases r1 with
  | none => exact hc
  | some z =>
    obtain ⟨v, h1, h2⟩ := hc
    refine ⟨f v, fun h => by rw [h1 h], m_to_tr h2 (m_to1 (gd_in (by omega) hk (hz z rfl) hn) ?_)⟩
    show some (k, z.2, ns + 1 - 1, some (m_sgn c v), r2) = _
    rw [hf]; rfl
theorem co_close (hk : k.length < 1990) (hn : ns + 1 ≤ 40) (hz : ∀ z, r.1 = some z → z.2 ≤ tx.length) (hc : mCo tx r un s ((9, nd, 0, 0, 0) :: k) (ns + 1)) : mCo tx (sh_exp tx 41 r) un s k ns := by
  obtain ⟨r1, r2⟩ := r
  cases r1 with
  | none => exact hc
  | some z =>
    obtain ⟨v, h1, h2⟩ := hc
    have hg : m_gd tx (9, nd, 0, 0, 0) k z.2 (ns + 1) (some v) := gd_in (by omega) hk (hz z rfl) hn
    unfold sh_exp
    dsimp only
    by_cases he : sh_at tx (sh_skip tx z.2) = 41
    · rw [if_pos he]
      refine ⟨v, h1, m_to_tr h2 (m_to1 hg ?_)⟩
      show m_close tx k z.2 (ns + 1) v r2 = _
      unfold m_close
      rw [m_at_in (sh_at_in (by rw [he]; decide)), if_pos he]
      rfl
    · rw [if_neg he]
      refine h2 _ (m_R1 hg ?_)
      show m_close tx k z.2 (ns + 1) v r2 = _
      unfold m_close
      rw [if_neg]
      unfold m_at
      split
      · exact he
      · decide
theorem m_at_iff {m : Int32} (h0 : ¬ m = 0) (h1 : ¬ m = -1) (i : Nat) : (m_at tx i = m) = (sh_at tx i = m) := by
  apply propext
  rcases Nat.lt_or_ge i tx.length with h | h
  · rw [m_at_in h]
  · rw [m_at_out h, sh_at_out h]
    exact ⟨fun e => absurd e.symm h1, fun e => absurd e.symm h0⟩
theorem m_at_st (i : Nat) : sh_start (m_at tx i) = sh_start (sh_at tx i) ∧ sh_digit (m_at tx i) = sh_digit (sh_at tx i) := by
  rcases Nat.lt_or_ge i tx.length with h | h
  · rw [m_at_in h]; exact ⟨rfl, rfl⟩
  · rw [m_at_out h, sh_at_out h]; exact ⟨by decide, by decide⟩
theorem cut_w (i : Nat) : sh_cut tx i (sh_wend tx i) = m_w (tx.drop i) ∧ i + (m_w (tx.drop i)).length = sh_wend tx i := by
  refine ⟨?_, rfl⟩
  unfold sh_cut sh_wend sh_run m_w
  rw [Nat.add_sub_cancel_left]
  obtain ⟨t, ht⟩ := List.takeWhile_prefix sh_word (l := tx.drop i)
  conv => lhs; arg 2; rw [← ht]
  exact List.take_left' rfl
/-- terms -/
theorem sp_U {U E : sh_F} (h3 : tx.length ≤ 300) (hn : ns ≤ 40) (gU : sh_gd tx U) (gE : sh_gd tx E) (hin : (ns = 40 ∧ U = sh_bad ∧ E = sh_bad) ∨ (ns < 40 ∧ mSp tx U 2 (ns + 1) mTm ∧ mSp tx E 0 (ns + 1) mSu)) : mSp tx (sh_U tx U E) 2 ns mTm := by
  intro un pl env k hp hk
  show mCo tx _ un ((7, decide (un = 0), 0, 0, 0) :: k, pl, ns, none, env) k ns
  have hg : m_gd tx (7, decide (un = 0), 0, 0, 0) k pl ns none := gd_dn (by omega) (by omega) hp hn
  have hs1 := sh_skip_ge tx pl
  have hs2 := sh_skip_le hp
  have hst : m_step tx (7, decide (un = 0), 0, 0, 0) k pl ns none env = m_term tx (decide (un = 0)) k pl ns env := rfl
  have hsg : ∀ (c : Int32) (f : Int64 → Int64), (c = 43 ∨ c = 45 ∨ c = 33 ∨ c = 126) → (∀ x, m_sgn c x = f x) → sh_at tx (sh_skip tx pl) = c → mCo tx (sh_map f (U un (sh_skip tx pl + 1) env)) un ((7, decide (un = 0), 0, 0, 0) :: k, pl, ns, none, env) k ns := by
    intro c f hc hf he
    have hpl : sh_skip tx pl < tx.length := sh_at_in (by rw [he]; rcases hc with h | h | h | h <;> (rw [h]; decide))
    have h1 : m_term tx (decide (un = 0)) k pl ns env = if ns = 40 then none else some ((7, decide (un = 0), 0, 0, 0) :: (8, decide (un = 0), c, 0, 0) :: k, sh_skip tx pl + 1, ns + 1, none, env) := by
      unfold m_term
      rw [m_at_in hpl, he, if_pos hc]
    rcases hin with ⟨h4, hU, -⟩ | ⟨h4, hU, -⟩
    · rw [hU]
      exact m_R1 hg (by rw [hst, h1, if_pos h4])
    · refine co_map (nd := decide (un = 0)) hf (by omega) (by omega) (fun z hz => ((gU un _ env (by omega)).2 z hz).2) (co_pre (m_to1 hg (by rw [hst, h1, if_neg (by omega)])) ?_)
      exact hU un (sh_skip tx pl + 1) env ((8, decide (un = 0), c, 0, 0) :: k) (by omega) (by rw [List.length_cons]; omega)
  unfold sh_U
  by_cases h43 : sh_at tx (sh_skip tx pl) = 43
  · rw [if_pos h43]
    have := hsg 43 (fun v => v) (by decide) (fun x => rfl) h43
    have e : sh_map (fun v => v) (U un (sh_skip tx pl + 1) env) = U un (sh_skip tx pl + 1) env := by
      unfold sh_map
      cases U un (sh_skip tx pl + 1) env with
      | mk r1 r2 => cases r1 <;> rfl
    rw [e] at this
    exact this
  rw [if_neg h43]
  by_cases h45 : sh_at tx (sh_skip tx pl) = 45
  · rw [if_pos h45]; exact hsg 45 _ (by decide) (fun x => rfl) h45
  rw [if_neg h45]
  by_cases h33 : sh_at tx (sh_skip tx pl) = 33
  · rw [if_pos h33]; exact hsg 33 _ (by decide) (fun x => rfl) h33
  rw [if_neg h33]
  by_cases h126 : sh_at tx (sh_skip tx pl) = 126
  · rw [if_pos h126]; exact hsg 126 _ (by decide) (fun x => rfl) h126
  rw [if_neg h126]
  have hno : ¬ (m_at tx (sh_skip tx pl) = 43 ∨ m_at tx (sh_skip tx pl) = 45 ∨ m_at tx (sh_skip tx pl) = 33 ∨ m_at tx (sh_skip tx pl) = 126) := by
    rw [m_at_iff (by decide) (by decide), m_at_iff (by decide) (by decide), m_at_iff (by decide) (by decide), m_at_iff (by decide) (by decide)]
    grind
  by_cases h40 : sh_at tx (sh_skip tx pl) = 40
  · rw [if_pos h40]
    have hpl : sh_skip tx pl < tx.length := sh_at_in (by rw [h40]; decide)
    have h1 : m_term tx (decide (un = 0)) k pl ns env = if ns = 40 then none else some ((0, decide (un = 0), 0, 0, 0) :: (9, decide (un = 0), 0, 0, 0) :: k, sh_skip tx pl + 1, ns + 1, none, env) := by
      unfold m_term
      rw [if_neg hno, if_pos (by rw [m_at_in hpl]; exact h40)]
    rcases hin with ⟨h4, -, hE⟩ | ⟨h4, -, hE⟩
    · rw [hE]
      exact m_R1 hg (by rw [hst, h1, if_pos h4])
    · refine co_close (nd := decide (un = 0)) (by omega) (by omega) (fun z hz => ((gE un _ env (by omega)).2 z hz).2) (co_pre (m_to1 hg (by rw [hst, h1, if_neg (by omega)])) ?_)
      exact hE un (sh_skip tx pl + 1) env ((9, decide (un = 0), 0, 0, 0) :: k) (by omega) (by rw [List.length_cons]; omega)
  rw [if_neg h40]
  have h40' : ¬ m_at tx (sh_skip tx pl) = 40 := by rw [m_at_iff (by decide) (by decide)]; exact h40
  obtain ⟨hm1, hm2⟩ := m_at_st (tx := tx) (sh_skip tx pl)
  unfold sh_W
  by_cases hd : sh_digit (sh_at tx (sh_skip tx pl)) = true
  · have hs : ¬ sh_start (sh_at tx (sh_skip tx pl)) = true := by
      intro hs; unfold sh_start at hs; unfold sh_digit at hd; grind
    have h1 : m_term tx (decide (un = 0)) k pl ns env = (sh_num (m_w (tx.drop (sh_skip tx pl)))).map (fun v => (k, sh_skip tx pl + (m_w (tx.drop (sh_skip tx pl))).length, ns, some v, env)) := by
      unfold m_term
      rw [if_neg hno, if_neg h40', hm1, if_neg hs, hm2, if_pos hd]
    rw [if_pos hd, (cut_w _).1]
    cases hx : sh_num (m_w (tx.drop (sh_skip tx pl))) with
    | none => exact m_R1 hg (by rw [hst, h1, hx]; rfl)
    | some x => exact ⟨x, fun _ => rfl, m_to1 hg (by rw [hst, h1, hx, (cut_w _).2]; rfl)⟩
  · rw [if_neg hd]
    by_cases hs : sh_start (sh_at tx (sh_skip tx pl)) = true
    · have h1 : m_term tx (decide (un = 0)) k pl ns env = (if decide (un = 0) = true then (sh_nameVal env (sh_cut tx (sh_skip tx pl) (sh_wend tx (sh_skip tx pl)))).map (fun v => (k, sh_wend tx (sh_skip tx pl), ns, some v, env)) else some (k, sh_wend tx (sh_skip tx pl), ns, some 0, env)) := by
        unfold m_term
        rw [if_neg hno, if_neg h40', hm1, if_pos hs]
      rw [if_pos hs]
      by_cases hu : 0 < un
      · rw [if_pos hu]
        exact ⟨0, fun _ => rfl, m_to1 hg (by rw [hst, h1, if_neg (by rw [decide_eq_true_eq]; omega)])⟩
      · rw [if_neg hu]
        rw [if_pos (by rw [decide_eq_true_eq]; omega)] at h1
        cases hx : sh_nameVal env (sh_cut tx (sh_skip tx pl) (sh_wend tx (sh_skip tx pl))) with
        | none => exact m_R1 hg (by rw [hst, h1, hx]; rfl)
        | some x => exact ⟨x, fun _ => rfl, m_to1 hg (by rw [hst, h1, hx]; rfl)⟩
    · rw [if_neg hs]
      refine m_R1 hg ?_
      rw [hst]
      unfold m_term
      rw [if_neg hno, if_neg h40', hm1, if_neg hs, hm2, if_neg hd]
end
