section
variable {tx : List Int32} {un ns : Nat} {k : List mI} {env : sh_Env}
theorem dec_and {un : Nat} {p : Prop} [Decidable p] {j : Nat} (h : un = 0 → (j = 0 ↔ p)) : (decide (un = 0) && decide p) = decide (un + j = 0) := by
  by_cases h0 : un = 0
  · have := h h0
    rw [decide_eq_true h0, Bool.true_and]
    exact decide_eq_decide.mpr ⟨fun hp => by have := this.mpr hp; omega, fun hj => this.mp (by omega)⟩
  · rw [decide_eq_false h0, decide_eq_false (show ¬ un + j = 0 by omega)]; rfl
/-- choices -/
theorem sp_C (h3 : tx.length ≤ 300) (hn : ns ≤ 40) {B C E : sh_F} (gB : sh_gd tx B) (gC : sh_gd tx C) (gE : sh_gd tx E) (hB : mSp tx B 1 ns mRa) (hin : (ns = 40 ∧ E = sh_bad) ∨ (ns < 40 ∧ mSp tx C 0 (ns + 1) mCh ∧ mSp tx E 0 (ns + 1) mSu)) : mSp tx (sh_C tx B C E) 0 ns mCh := by
  intro un pl env k hp hk
  show mCo tx _ un ((4, decide (un = 0), 1, 0, 0) :: (1, decide (un = 0), 0, 0, 0) :: k, pl, ns, none, env) k ns
  have hb := hB un pl env ((1, decide (un = 0), 0, 0, 0) :: k) hp (by rw [List.length_cons]; omega)
  have hgb := (gB un pl env hp).2
  unfold sh_C
  cases hx : B un pl env with
  | mk r1 e1 =>
    rw [hx] at hb hgb
    cases r1 with
    | none => exact hb
    | some t =>
      obtain ⟨x, hxe, t1⟩ := hb
      obtain ⟨c1, c2⟩ := hgb t rfl
      have t1 : m_to tx ((4, decide (un = 0), 1, 0, 0) :: (1, decide (un = 0), 0, 0, 0) :: k, pl, ns, none, env) ((1, decide (un = 0), 0, 0, 0) :: k, t.2, ns, some x, e1) := t1
      have hs1 := sh_skip_ge tx t.2
      have hs2 := sh_skip_le c2
      have hg : m_gd tx (1, decide (un = 0), 0, 0, 0) k t.2 ns (some x) := gd_up (by omega) (by omega) c2 hn
      dsimp only
      by_cases hq : sh_at tx (sh_skip tx t.2) = 63
      · rw [if_pos hq]
        have hpl : sh_skip tx t.2 < tx.length := sh_at_in (by rw [hq]; decide)
        have hst : m_step tx (1, decide (un = 0), 0, 0, 0) k t.2 ns (some x) e1 = if ns = 40 then none else some ((0, decide (un = 0) && decide (¬ x = 0), 0, 0, 0) :: (2, decide (un = 0), sh_b (decide (¬ x = 0)), 0, 0) :: k, sh_skip tx t.2 + 1, ns + 1, none, e1) := by
          show m_asks tx _ _ _ _ _ _ = _
          unfold m_asks
          rw [if_pos (by rw [m_at_in hpl]; exact hq)]
          rfl
        rcases hin with ⟨h4, hE⟩ | ⟨h4, hC, hE⟩
        · rw [hE]
          exact t1 _ (m_R1 hg (by rw [hst, if_pos h4]))
        · have t2 := m_to_tr t1 (m_to1 hg (by rw [hst, if_neg (by omega)]))
          rw [dec_and (j := if t.1 = 0 then 1 else 0) (fun h0 => by rw [hxe h0]; split <;> simp_all)] at t2
          have he := hE (un + (if t.1 = 0 then 1 else 0)) (sh_skip tx t.2 + 1) e1 ((2, decide (un = 0), sh_b (decide (¬ x = 0)), 0, 0) :: k) (by omega) (by rw [List.length_cons]; omega)
          have hge := (gE (un + (if t.1 = 0 then 1 else 0)) (sh_skip tx t.2 + 1) e1 (by omega)).2
          cases hy : E (un + (if t.1 = 0 then 1 else 0)) (sh_skip tx t.2 + 1) e1 with
          | mk r2 e2 =>
            rw [hy] at he hge
            cases r2 with
            | none => exact t2 _ he
            | some z =>
              obtain ⟨y, hye, t3⟩ := he
              obtain ⟨d1, d2⟩ := hge z rfl
              have t4 := m_to_tr t2 t3
              have hg2 : m_gd tx (2, decide (un = 0), sh_b (decide (¬ x = 0)), 0, 0) k z.2 (ns + 1) (some y) := gd_up (by omega) (by omega) d2 (by omega)
              have hs3 := sh_skip_ge tx z.2
              have hs4 := sh_skip_le d2
              unfold sh_exp
              dsimp only
              by_cases hc : sh_at tx (sh_skip tx z.2) = 58
              · rw [if_pos hc]
                dsimp only
                have hpl2 : sh_skip tx z.2 < tx.length := sh_at_in (by rw [hc]; decide)
                have hst2 : m_step tx (2, decide (un = 0), sh_b (decide (¬ x = 0)), 0, 0) k z.2 (ns + 1) (some y) e2 = some ((4, decide (un = 0) && decide (sh_b (decide (¬ x = 0)) = 0), 1, 0, 0) :: (1, decide (un = 0) && decide (sh_b (decide (¬ x = 0)) = 0), 0, 0, 0) :: (3, decide (un = 0), sh_b (decide (¬ x = 0)), 0, y) :: k, sh_skip tx z.2 + 1, ns + 1, none, e2) := by
                  show m_first tx _ _ _ _ _ _ _ = _
                  unfold m_first
                  rw [if_pos (by rw [m_at_in hpl2]; exact hc)]
                  rfl
                have t5 := m_to_tr t4 (m_to1 hg2 hst2)
                have hsb : (sh_b (decide (¬ x = 0)) = 0) ↔ x = 0 := by
                  by_cases h0 : x = 0
                  · rw [decide_eq_false (by simpa using h0)]; exact ⟨fun _ => h0, fun _ => rfl⟩
                  · rw [decide_eq_true h0]; exact ⟨fun h => absurd h (by decide), fun h => absurd h h0⟩
                rw [dec_and (j := if t.1 = 0 then 0 else 1) (fun h0 => by rw [hsb, hxe h0]; split <;> simp_all)] at t5
                have hc3 := hC (un + (if t.1 = 0 then 0 else 1)) (sh_skip tx z.2 + 1) e2 ((3, decide (un = 0), sh_b (decide (¬ x = 0)), 0, y) :: k) (by omega) (by rw [List.length_cons]; omega)
                have hgc := (gC (un + (if t.1 = 0 then 0 else 1)) (sh_skip tx z.2 + 1) e2 (by omega)).2
                cases hw : C (un + (if t.1 = 0 then 0 else 1)) (sh_skip tx z.2 + 1) e2 with
                | mk r3 e3 =>
                  rw [hw] at hc3 hgc
                  cases r3 with
                  | none => exact t5 _ hc3
                  | some b =>
                    obtain ⟨u, hue, t6⟩ := hc3
                    obtain ⟨f1, f2⟩ := hgc b rfl
                    have t7 := m_to_tr t5 t6
                    refine ⟨if sh_b (decide (¬ x = 0)) = 1 then y else u, fun h0 => ?_, m_to_tr t7 (m_to1 (gd_in (by omega) (by omega) f2 (by omega)) rfl)⟩
                    have e0 := hxe h0
                    by_cases ht : t.1 = 0
                    · rw [if_pos ht] at hue ⊢
                      rw [if_neg]
                      · exact hue (by omega)
                      · rw [e0, decide_eq_false (by simpa using ht)]; decide
                    · rw [if_neg ht] at hye ⊢
                      rw [if_pos]
                      · exact hye (by omega)
                      · rw [e0, decide_eq_true ht]; rfl
              · rw [if_neg hc]
                refine t4 _ (m_R1 hg2 ?_)
                show m_first tx _ _ _ _ _ _ _ = _
                unfold m_first
                rw [if_neg (by rw [m_at_iff (by decide) (by decide)]; exact hc)]
      · rw [if_neg hq]
        refine ⟨x, hxe, m_to_tr t1 (m_to1 hg ?_)⟩
        show m_asks tx _ _ _ _ _ _ = _
        unfold m_asks
        rw [if_neg (by rw [m_at_iff (by decide) (by decide)]; exact hq)]
        rfl
/-- sums -/
theorem sp_E (hO : sh_O tx) (h3 : tx.length ≤ 300) (hn : ns ≤ 40) {C E : sh_F} (gE : sh_gd tx E) (hC : mSp tx C 0 ns mCh) (hin : (ns = 40 ∧ E = sh_bad) ∨ (ns < 40 ∧ mSp tx E 0 (ns + 1) mSu)) : mSp tx (sh_E tx C E) 0 ns mSu := by
  intro un pl env k hp hk
  show mCo tx _ un ((0, decide (un = 0), 0, 0, 0) :: k, pl, ns, none, env) k ns
  have hs1 := sh_skip_ge tx pl
  have hs2 := sh_skip_le hp
  have hg : m_gd tx (0, decide (un = 0), 0, 0, 0) k pl ns none := gd_dn (by omega) (by omega) hp hn
  have hst : m_step tx (0, decide (un = 0), 0, 0, 0) k pl ns none env = m_sum tx (decide (un = 0)) k pl ns env := rfl
  have hsa := sgA_ok hO (sh_wend tx (sh_skip tx pl))
  have hiff : (sh_start (m_at tx (sh_skip tx pl)) = true ∧ 0 < m_gv tx (sh_wend tx (sh_skip tx pl))) ↔ (sh_start (sh_at tx (sh_skip tx pl)) = true ∧ ¬ (sh_signA tx (sh_wend tx (sh_skip tx pl))).1 = 0) := by
    rw [(m_at_st _).1]
    rcases hsa with ⟨a1, a2⟩ | ⟨a1, -, a2, -⟩
    · rw [a1, a2]; exact ⟨fun h => absurd h.2 (Nat.lt_irrefl 0), fun h => absurd rfl h.2⟩
    · exact ⟨fun h => ⟨h.1, a2⟩, fun h => ⟨h.1, a1⟩⟩
  unfold sh_E
  by_cases hc : sh_start (sh_at tx (sh_skip tx pl)) = true ∧ ¬ (sh_signA tx (sh_wend tx (sh_skip tx pl))).1 = 0
  · rw [if_pos hc]
    have hms : m_sum tx (decide (un = 0)) k pl ns env = (if ns = 40 then none else some ((0, decide (un = 0), 0, 0, 0) :: (10, decide (un = 0), nI (sh_skip tx pl), nI (sh_wend tx (sh_skip tx pl) - sh_skip tx pl), m_op tx (sh_wend tx (sh_skip tx pl))) :: k, sh_skip tx (sh_wend tx (sh_skip tx pl)) + m_gv tx (sh_wend tx (sh_skip tx pl)), ns + 1, none, env)) := by
      unfold m_sum
      rw [if_pos (hiff.mpr hc)]
    rcases hsa with ⟨-, a2⟩ | ⟨a1, a2, a3, a4, a5, a6⟩
    · exact absurd a2 hc.2
    rw [← a4] at hms
    have hin0 : sh_skip tx pl < tx.length := sh_at_in (by intro e; have := hc.1; rw [e] at this; revert this; decide)
    have hw1 := sh_wend_gt hin0 (by unfold sh_word; rw [hc.1]; rfl)
    have hw2 := sh_wend_le hs2
    have hA := sh_signA_ok hw2
    rcases hin with ⟨h4, hE⟩ | ⟨h4, hE⟩
    · rw [hE]
      exact m_R1 hg (by rw [hst, hms, if_pos h4])
    · have t1 := m_to1 hg (by rw [hst, hms, if_neg (by omega)])
      have he := hE un (sh_signA tx (sh_wend tx (sh_skip tx pl))).2 env ((10, decide (un = 0), nI (sh_skip tx pl), nI (sh_wend tx (sh_skip tx pl) - sh_skip tx pl), m_op tx (sh_wend tx (sh_skip tx pl))) :: k) hA.2 (by rw [List.length_cons]; omega)
      have hge := (gE un (sh_signA tx (sh_wend tx (sh_skip tx pl))).2 env hA.2).2
      cases hy : E un (sh_signA tx (sh_wend tx (sh_skip tx pl))).2 env with
      | mk r2 e2 =>
        rw [hy] at he hge
        cases r2 with
        | none => exact t1 _ he
        | some z =>
          obtain ⟨x, hxe, t2⟩ := he
          obtain ⟨d1, d2⟩ := hge z rfl
          have t3 := m_to_tr t1 t2
          have hg2 : m_gd tx (10, decide (un = 0), nI (sh_skip tx pl), nI (sh_wend tx (sh_skip tx pl) - sh_skip tx pl), m_op tx (sh_wend tx (sh_skip tx pl))) k z.2 (ns + 1) (some x) :=
            ⟨by omega, d2, by omega, Nat.le_refl 10, by rw [if_neg (show ¬ ((10 : Nat) = 0 ∨ (10 : Nat) = 4 ∨ (10 : Nat) = 7) by decide)]; rfl, fun _ => by omega, fun _ => ⟨sh_skip tx pl, sh_wend tx (sh_skip tx pl) - sh_skip tx pl, rfl, rfl, by omega, by omega, a5⟩⟩
          have hst2 : m_step tx (10, decide (un = 0), nI (sh_skip tx pl), nI (sh_wend tx (sh_skip tx pl) - sh_skip tx pl), m_op tx (sh_wend tx (sh_skip tx pl))) k z.2 (ns + 1) (some x) e2 = m_giv tx (decide (un = 0)) (sh_skip tx pl) (sh_wend tx (sh_skip tx pl) - sh_skip tx pl) (m_op tx (sh_wend tx (sh_skip tx pl))).toInt32 k z.2 (ns + 1) x e2 := by
            show m_giv tx _ (nI (sh_skip tx pl)).toNatClampNeg (nI (sh_wend tx (sh_skip tx pl) - sh_skip tx pl)).toNatClampNeg _ _ _ _ _ _ = _
            rw [nI_clamp (by omega), nI_clamp (by omega)]
            rfl
          dsimp only
          by_cases hu : 0 < un
          · rw [if_pos hu]
            refine ⟨x, fun h0 => by omega, m_to_tr t3 (m_to1 hg2 ?_)⟩
            rw [hst2]
            unfold m_giv
            rw [if_pos (decide_eq_false (by omega))]
            rfl
          · rw [if_neg hu]
            have hx : x = z.1 := hxe (by omega)
            have e1 : sh_skip tx pl + (sh_wend tx (sh_skip tx pl) - sh_skip tx pl) = sh_wend tx (sh_skip tx pl) := by omega
            have hm : m_giv tx (decide (un = 0)) (sh_skip tx pl) (sh_wend tx (sh_skip tx pl) - sh_skip tx pl) (m_op tx (sh_wend tx (sh_skip tx pl))).toInt32 k z.2 (ns + 1) x e2 = match sh_asg e2 (sh_cut tx (sh_skip tx pl) (sh_wend tx (sh_skip tx pl))) (sh_signA tx (sh_wend tx (sh_skip tx pl))).1 z.1 with
                | (none, _) => none
                | (some y, e2) => some (k, z.2, ns, some y, e2) := by
              unfold m_giv
              rw [if_neg (by rw [decide_eq_true (show un = 0 by omega)]; decide), e1, a6, hx]
              rfl
            have hae : (sh_asg e2 (sh_cut tx (sh_skip tx pl) (sh_wend tx (sh_skip tx pl))) (sh_signA tx (sh_wend tx (sh_skip tx pl))).1 z.1).1 = none → (sh_asg e2 (sh_cut tx (sh_skip tx pl) (sh_wend tx (sh_skip tx pl))) (sh_signA tx (sh_wend tx (sh_skip tx pl))).1 z.1).2 = e2 := by
              unfold sh_asg
              split
              · intro _; rfl
              · split
                · intro _; rfl
                · intro h; cases h
            cases hz : sh_asg e2 (sh_cut tx (sh_skip tx pl) (sh_wend tx (sh_skip tx pl))) (sh_signA tx (sh_wend tx (sh_skip tx pl))).1 z.1 with
            | mk r3 e3 =>
              rw [hz] at hm hae
              cases r3 with
              | none =>
                have e3e : e3 = e2 := hae rfl
                rw [e3e]
                exact t3 _ (m_R1 hg2 (by rw [hst2, hm]))
              | some y => exact ⟨y, fun _ => rfl, m_to_tr t3 (m_to1 hg2 (by rw [hst2, hm]))⟩
  · rw [if_neg hc]
    refine co_pre (m_to1 hg (s' := ((4, decide (un = 0), 1, 0, 0) :: (1, decide (un = 0), 0, 0, 0) :: k, sh_skip tx pl, ns, none, env)) ?_) (hC un (sh_skip tx pl) env k hs2 (by omega))
    rw [hst]
    unfold m_sum
    rw [if_neg (fun h => hc (hiff.mp h))]
theorem sp_lv (hO : sh_O tx) (h3 : tx.length ≤ 300) : ∀ (d ns : Nat), ns + d = 40 → mSp tx (lU tx (d + 1)) 2 ns mTm ∧ mSp tx (lC tx (d + 1)) 0 ns mCh ∧ mSp tx (lE tx (d + 1)) 0 ns mSu := by
  intro d
  induction d with
  | zero =>
    intro ns hns
    have hB := sh_O_B hO
    have g0 := sh_gd_lv hB 0
    have g1 := sh_gd_lv hB 1
    have u : mSp tx (lU tx 1) 2 ns mTm := sp_U h3 (by omega) g0.1 g0.2.2 (Or.inl ⟨by omega, rfl, rfl⟩)
    have c : mSp tx (lC tx 1) 0 ns mCh := sp_C h3 (by omega) (sh_gd_Bin hB g1.1) g0.2.1 g0.2.2 (sp_Bin hO h3 (by omega) g1.1 u) (Or.inl ⟨by omega, rfl⟩)
    exact ⟨u, c, sp_E hO h3 (by omega) g0.2.2 c (Or.inl ⟨by omega, rfl⟩)⟩
  | succ d ih =>
    intro ns hns
    have hB := sh_O_B hO
    obtain ⟨iu, ic, ie⟩ := ih (ns + 1) (by omega)
    have g0 := sh_gd_lv hB (d + 1)
    have g1 := sh_gd_lv hB (d + 1 + 1)
    have u : mSp tx (lU tx (d + 1 + 1)) 2 ns mTm := sp_U h3 (by omega) g0.1 g0.2.2 (Or.inr ⟨by omega, iu, ie⟩)
    have c : mSp tx (lC tx (d + 1 + 1)) 0 ns mCh := sp_C h3 (by omega) (sh_gd_Bin hB g1.1) g0.2.1 g0.2.2 (sp_Bin hO h3 (by omega) g1.1 u) (Or.inr ⟨by omega, ic, ie⟩)
    exact ⟨u, c, sp_E hO h3 (by omega) g0.2.2 c (Or.inr ⟨by omega, ie⟩)⟩
/-- the reference's value is the class's -/
theorem m_val (hO : sh_O tx) (h3 : tx.length ≤ 300) (env : sh_Env) : match lE tx 41 0 (sh_skip tx 0) env with
    | (none, e2) => m_R tx ([(0, true, 0, 0, 0)], sh_skip tx 0, 0, none, env) (none, e2)
    | (some z, e2) => z.2 ≤ tx.length ∧ m_R tx ([(0, true, 0, 0, 0)], sh_skip tx 0, 0, none, env) (some ([], z.2, 0, some z.1, e2), e2) := by
  have hl : sh_skip tx 0 ≤ tx.length := sh_skip_le (Nat.zero_le _)
  have h := (sp_lv hO h3 40 0 rfl).2.2 0 (sh_skip tx 0) env [] hl (Nat.zero_le _)
  have hg := ((sh_gd_lv (sh_O_B hO) 41).2.2 0 (sh_skip tx 0) env hl).2
  cases hx : lE tx 41 0 (sh_skip tx 0) env with
  | mk r1 e2 =>
    rw [hx] at h hg
    cases r1 with
    | none => exact h
    | some z =>
      obtain ⟨v, hv, ht⟩ := h
      refine ⟨(hg z rfl).2, ?_⟩
      have e : v = z.1 := hv rfl
      rw [e] at ht
      exact ht _ ⟨0, rfl, rfl⟩
end
