/-! the machine's loop -/
def mRn (tx : List Int32) (n : Nat) (o : Option mS) (e : sh_Env) (r : Option mS × sh_Env) : Prop := match o with
  | none => r = (none, e)
  | some s => s.2.2.2.2 = e ∧ m_runs tx n s r
def mNx (tx : List Int32) (n : Nat) (o : Option mS) (e : sh_Env) (r : Option mS × sh_Env) : Prop := match o with
  | none => r = (none, e)
  | some s => m_runs tx n s r
section
variable {tx : List Int32} {pl ne bd wa hi : Int32} {fS f1 f2 fL : Nat → Int32} {fK fV : Nat → Int64} {o : Option mS} {e : sh_Env} {n : Nat} {r : Option mS × sh_Env}
theorem mgo_x1 (hz : zMs pl ne bd wa hi fS f1 f2 fL fK fV o) (hr : mRn tx n o e r) (hw : wa ≤ 0) : zMs pl ne bd wa hi fS f1 f2 fL fK fV r.1 ∧ e = r.2 := by
  cases o with
  | none =>
    have hr : r = (none, e) := hr
    rw [hr]; exact ⟨hz, rfl⟩
  | some s =>
    obtain ⟨he, hr⟩ := hr
    cases n with
    | zero =>
      obtain ⟨h1, h2⟩ := hr
      rw [h2]
      exact ⟨hz, he.symm⟩
    | succ n =>
      exfalso
      obtain ⟨st, p0, ns, v, env⟩ := s
      cases st with
      | nil => exact hr
      | cons q k =>
        have hg : m_gd tx q k p0 ns v := hr.1
        have hwa : wa = nI (k.length + 1) := hz.2.2.2.1
        rw [hwa] at hw
        have := xi_le (b := 0) hw (by have := hg.1; omega) (by decide)
        omega
theorem mgo_x2 (hz : zMs pl ne bd wa hi fS f1 f2 fL fK fV o) (hr : mRn tx n o e r) (hb : ¬ bd = 0) : zMs pl ne bd wa hi fS f1 f2 fL fK fV r.1 ∧ e = r.2 := by
  cases o with
  | none =>
    have hr : r = (none, e) := hr
    rw [hr]; exact ⟨hz, rfl⟩
  | some s => exact absurd hz.1 hb
theorem mgo_go (hz : zMs pl ne bd wa hi fS f1 f2 fL fK fV o) (hr : mRn tx n o e r) (hw : ¬ wa ≤ 0) (hb : bd = 0) : ∃ (q : mI) (k : List mI) (p0 ns : Nat) (v : Option Int64) (n8 : Nat), n = n8 + 1 ∧ o = some (q :: k, p0, ns, v, e) ∧ m_gd tx q k p0 ns v ∧ mNx tx n8 (m_step tx q k p0 ns v e) e r ∧ pl = nI p0 ∧ ne = nI ns ∧ wa = nI (k.length + 1) ∧ zSt fS fL f1 f2 fK (q :: k) ∧ zVv fV hi v := by
  cases o with
  | none => rw [show bd = 1 from hz] at hb; exact absurd hb (by decide)
  | some s =>
    obtain ⟨he, hr⟩ := hr
    obtain ⟨st, p0, ns, v, env⟩ := s
    have he : env = e := he
    subst he
    obtain ⟨-, z1, z2, z3, z4, z5⟩ := hz
    cases st with
    | nil => rw [show wa = nI 0 from z3] at hw; exact absurd (by decide) hw
    | cons q k =>
      cases n with
      | zero => exact absurd hr.1 (List.cons_ne_nil _ _)
      | succ n => exact ⟨q, k, p0, ns, v, n, rfl, rfl, hr.1, hr.2, z1, z2, z3, z4, z5⟩
theorem go_next (h : mNx tx n o e r) : mRn tx n o (m_en e o) r := by
  cases o with
  | none => exact h
  | some s => exact ⟨rfl, h⟩
variable {q : mI} {k : List mI} {p0 ns : Nat} {v : Option Int64} {x : Int64} {env : sh_Env}
theorem gd_n (h : m_gd tx q k p0 ns v) (hq : q.1 = 0 ∨ q.1 = 4 ∨ q.1 = 7) : v = none := by
  have := h.2.2.2.2.1
  rwa [if_pos hq] at this
theorem gd_s (h : m_gd tx q k p0 ns v) (hq : ¬ (q.1 = 0 ∨ q.1 = 4 ∨ q.1 = 7)) : ∃ x, v = some x := by
  have := h.2.2.2.2.1
  rw [if_neg hq] at this
  exact Option.isSome_iff_exists.mp this
theorem m_st0 (h : q.1 = 0) : m_step tx q k p0 ns none env = m_sum tx q.2.1 k p0 ns env := by unfold m_step; rw [h]; rfl
theorem m_st1 (h : q.1 = 1) : m_step tx q k p0 ns (some x) env = m_asks tx q.2.1 k p0 ns x env := by unfold m_step; rw [h]; rfl
theorem m_st2 (h : q.1 = 2) : m_step tx q k p0 ns (some x) env = m_first tx q.2.1 q.2.2.1 k p0 ns x env := by unfold m_step; rw [h]; rfl
theorem m_st3 (h : q.1 = 3) : m_step tx q k p0 ns (some x) env = some (k, p0, ns - 1, some (if q.2.2.1 = 1 then q.2.2.2.2 else x), env) := by unfold m_step; rw [h]; rfl
theorem m_st4 (h : q.1 = 4) : m_step tx q k p0 ns none env = some ((7, q.2.1, 0, 0, 0) :: (5, q.2.1, q.2.2.1, 0, 0) :: k, p0, ns, none, env) := by unfold m_step; rw [h]; rfl
theorem m_st5 (h : q.1 = 5) : m_step tx q k p0 ns (some x) env = m_more tx q.2.1 q.2.2.1 k p0 ns x env := by unfold m_step; rw [h]; rfl
theorem m_st6 (h : q.1 = 6) : m_step tx q k p0 ns (some x) env = m_join q.2.1 q.2.2.1 q.2.2.2.1 q.2.2.2.2 k p0 ns x env := by unfold m_step; rw [h]; rfl
theorem m_st7 (h : q.1 = 7) : m_step tx q k p0 ns none env = m_term tx q.2.1 k p0 ns env := by unfold m_step; rw [h]; rfl
theorem m_st8 (h : q.1 = 8) : m_step tx q k p0 ns (some x) env = some (k, p0, ns - 1, some (m_sgn q.2.2.1 x), env) := by unfold m_step; rw [h]; rfl
theorem m_st9 (h : q.1 = 9) : m_step tx q k p0 ns (some x) env = m_close tx k p0 ns x env := by unfold m_step; rw [h]; rfl
theorem m_st10 (h : q.1 = 10) {i j : Nat} (hi : q.2.2.1 = nI i) (hj : q.2.2.2.1 = nI j) (hij : i + j ≤ 300) : m_step tx q k p0 ns (some x) env = m_givq q.2.1 (sh_cut tx i (i + j)) q.2.2.2.2.toInt32 k p0 ns x env := by
  unfold m_step; rw [h, hi, hj]
  show m_giv tx q.2.1 (nI i).toNatClampNeg (nI j).toNatClampNeg _ k p0 ns x env = _
  rw [nI_clamp (by omega), nI_clamp (by omega)]
  rfl
end
theorem m_at_neg {tx : List Int32} (hO : sh_O tx) (i : Nat) : m_at tx i < 0 ↔ tx.length ≤ i := by
  obtain ⟨q, h1, h2, h3, h4⟩ := O_at hO i
  rw [← h4, h3]
  constructor
  · intro h
    rcases Nat.eq_zero_or_pos q with e | e
    · exact e
    · rw [if_neg (by omega)] at h; exact absurd h (nI_pos (by omega))
  · intro h; rw [if_pos h]; decide
theorem m_val2 {tx : List Int32} (hO : sh_O tx) (h3 : tx.length ≤ 300) (env : sh_Env) (hs : sh_skip tx 0 < tx.length) : ∃ (r : Option mS × sh_Env) (n : Nat), m_runs tx n ([(0, true, 0, 0, 0)], sh_skip tx 0, 0, none, env) r ∧ ((r.1 = none ∧ sh_val tx env = (none, r.2)) ∨ ∃ (z : Int64) (p : Nat), r.1 = some ([], p, 0, some z, r.2) ∧ p ≤ tx.length ∧ sh_val tx env = (if tx.length ≤ sh_skip tx p then some z else none, r.2)) := by
  have h := m_val hO h3 env
  cases hx : lE tx 41 0 (sh_skip tx 0) env with
  | mk r1 e2 =>
    rw [hx] at h
    cases r1 with
    | none =>
      obtain ⟨n, hn⟩ := h
      refine ⟨_, n, hn, Or.inl ⟨rfl, ?_⟩⟩
      unfold sh_val
      rw [if_neg (by omega), hx]
    | some z =>
      obtain ⟨hp, n, hn⟩ := h
      refine ⟨_, n, hn, Or.inr ⟨z.1, z.2, rfl, hp, ?_⟩⟩
      unfold sh_val
      rw [if_neg (by omega), hx]
      dsimp only
      split <;> rfl
theorem sh_b_fits (b : Bool) : fits .boolean (.int (sh_b b)) = true := by cases b <;> rfl
theorem sh_b_nrw (b : Bool) : narrow .boolean (.int (sh_b b)) = .int (sh_b b) := by cases b <;> rfl
def m_vq (v : Option Int64) (y : Int64) (cd2 gd2 wr2 gd wr : Int32) : Prop := match v with
  | some z => y = z ∧ cd2 = 0 ∧ gd2 = gd + 1 ∧ wr2 = wr
  | none => cd2 = 1 ∧ gd2 = gd ∧ wr2 = wr + 1
