/-! signs: the class's and the reference's -/
theorem sh_two_n : ∀ a, a < 128 → ∀ b, b < 128 → sh_two (nI a) (nI b) = nI (256 * a + b) := by decide +kernel
theorem nI_lit {n m : Nat} (hn : n < 2 ^ 31) (hm : m < 2 ^ 31) : (nI n = (OfNat.ofNat m : Int32)) = (n = m) := propext (nI_eq hn hm)
def rkN (n : Nat) : Nat :=
  if n = 31868 then 1 else if n = 9766 then 2 else if n = 124 then 3 else if n = 94 then 4 else if n = 38 then 5
  else if n = 15677 ∨ n = 8509 then 6 else if n = 60 ∨ n = 62 ∨ n = 15421 ∨ n = 15933 then 7 else if n = 15420 ∨ n = 15934 then 8
  else if n = 43 ∨ n = 45 then 9 else if n = 42 ∨ n = 47 ∨ n = 37 then 10 else 0
theorem rkN_eq {n : Nat} (hn : n < 2 ^ 31) : sh_rank (nI n) = rkN n := by
  unfold sh_rank rkN
  simp only [nI_lit hn (m := 31868) (by decide), nI_lit hn (m := 9766) (by decide), nI_lit hn (m := 124) (by decide), nI_lit hn (m := 94) (by decide), nI_lit hn (m := 38) (by decide), nI_lit hn (m := 15677) (by decide), nI_lit hn (m := 8509) (by decide), nI_lit hn (m := 60) (by decide), nI_lit hn (m := 62) (by decide), nI_lit hn (m := 15421) (by decide), nI_lit hn (m := 15933) (by decide), nI_lit hn (m := 15420) (by decide), nI_lit hn (m := 15934) (by decide), nI_lit hn (m := 43) (by decide), nI_lit hn (m := 45) (by decide), nI_lit hn (m := 42) (by decide), nI_lit hn (m := 47) (by decide), nI_lit hn (m := 37) (by decide)]
theorem shN_eq {n : Nat} (hn : n < 2 ^ 31) : sh_shift (nI n) = (decide (n = 15420) || decide (n = 15934)) := by
  unfold sh_shift
  simp only [nI_lit hn (m := 15420) (by decide), nI_lit hn (m := 15934) (by decide)]
def sh_O (tx : List Int32) : Prop := ∀ c ∈ tx, sh_ok c = true
theorem ok_n {c : Int32} (h : sh_ok c = true) : ∃ q : Nat, 0 < q ∧ q < 127 ∧ c = nI q := by
  have h0 : (0 : Int32) < c ∧ c < 127 := by
    unfold sh_ok sh_blank at h
    grind
  refine ⟨c.toInt.toNat, ?_, ?_, ?_⟩
  · have h1 := Int32.lt_iff_toInt_lt.mp h0.1
    have h2 := Int32.lt_iff_toInt_lt.mp h0.2
    simp at h1 h2
    omega
  · have h1 := Int32.lt_iff_toInt_lt.mp h0.1
    have h2 := Int32.lt_iff_toInt_lt.mp h0.2
    simp at h1 h2
    omega
  · have h1 := Int32.lt_iff_toInt_lt.mp h0.1
    simp at h1
    have h2 : ((c.toInt.toNat : Nat) : Int) = c.toInt := Int.toNat_of_nonneg (by omega)
    show c = Int32.ofNat c.toInt.toNat
    rw [← Int32.ofInt_eq_ofNat, h2, Int32.ofInt_toInt]
theorem sh_O_B {tx : List Int32} (h : sh_O tx) : sh_B tx := fun c hc => by
  obtain ⟨q, h1, h2, h3⟩ := ok_n (h c hc)
  exact ⟨q, by omega, h3⟩
theorem O_at {tx : List Int32} (h : sh_O tx) (i : Nat) : ∃ q : Nat, q < 127 ∧ sh_at tx i = nI q ∧ m_at tx i = (if q = 0 then -1 else nI q) ∧ (q = 0 ↔ tx.length ≤ i) := by
  rcases Nat.lt_or_ge i tx.length with hi | hi
  · obtain ⟨q, h1, h2, h3⟩ := ok_n (h _ (List.getElem_mem hi))
    exact ⟨q, h2, by rw [sh_at_get hi, h3], by rw [m_at_in hi, sh_at_get hi, h3, if_neg (by omega)], by omega⟩
  · exact ⟨0, by decide, by rw [sh_at_out hi]; rfl, by rw [m_at_out hi]; rfl, by omega⟩
theorem mN {q m : Nat} (hq : q < 127) (h0 : 0 < m) (hm : m < 127) : ((if q = 0 then -1 else nI q) = (OfNat.ofNat m : Int32)) = (q = m) := by
  apply propext
  by_cases h : q = 0
  · rw [if_pos h]
    constructor
    · intro e
      have : (-1 : Int32).toInt = (Int32.ofNat m).toInt := congrArg Int32.toInt e
      rw [Int32.toInt_ofNat_of_lt (by omega)] at this
      have h2 : (-1 : Int32).toInt = -1 := rfl
      omega
    · intro e; omega
  · rw [if_neg h]; exact nI_eq (by omega) (by omega)
theorem mE {q m : Nat} (hq : q < 127) (hm : m < 127) (h : q = 0 → m = 0) : ((if m = 0 then -1 else nI m) = (if q = 0 then -1 else nI q)) = (m = q) := by
  apply propext
  by_cases h0 : q = 0
  · simp [h0, h h0]
  · rw [if_neg h0]
    have := mN (q := m) (m := q) hm (by omega) hq
    exact iff_of_eq this
def m_c (s : Int32) : Int32 := if s = 31868 then 124 else if s = 9766 then 38 else if s = 15677 then 61 else if s = 8509 then 33 else if s = 15421 ∨ s = 15420 then 60 else if s = 15933 ∨ s = 15934 then 62 else s
def m_r (s : Int32) : Int32 := if s = 31868 ∨ s = 9766 ∨ s = 15677 ∨ s = 8509 ∨ s = 15421 ∨ s = 15420 ∨ s = 15933 ∨ s = 15934 then - nI (sh_rank s) else nI (sh_rank s)
def sgN (a b : Nat) (t : Bool) : Nat × Nat := if 0 < rkN (256 * a + b) then (if (decide (256 * a + b = 15420) || decide (256 * a + b = 15934)) = true ∧ t = true then (0, 0) else (256 * a + b, 2)) else if rkN a = 0 ∨ b = 61 then (0, 0) else (a, 1)
def rcN (c d : Nat) (t : Bool) : Nat := if c = 124 then (if d = 124 then 1 else if d = 61 then 0 else 3) else if c = 38 then (if d = 38 then 2 else if d = 61 then 0 else 5)
  else if c = 94 then (if d = 61 then 0 else 4) else if c = 61 ∨ c = 33 then (if d = 61 then 6 else 0) else if c = 60 ∨ c = 62 then (if ¬ d = c then 7 else if t = true then 0 else 8)
  else if c = 43 ∨ c = 45 then (if d = 61 then 0 else 9) else if (c = 42 ∨ c = 47 ∨ c = 37) ∧ ¬ d = 61 then 10 else 0
def boN (a b : Nat) (t : Bool) : Bool := decide (rcN a b t = 1) || (decide (rcN a b t = 2) || (decide (rcN a b t = 6) || (decide (rcN a b t = 8) || (decide (rcN a b t = 7) && decide (b = 61)))))
def m_cN (s : Nat) : Nat := if s = 31868 then 124 else if s = 9766 then 38 else if s = 15677 then 61 else if s = 8509 then 33 else if s = 15421 ∨ s = 15420 then 60 else if s = 15933 ∨ s = 15934 then 62 else s
def m_rN (s : Nat) : Bool := decide (s = 31868 ∨ s = 9766 ∨ s = 15677 ∨ s = 8509 ∨ s = 15421 ∨ s = 15420 ∨ s = 15933 ∨ s = 15934)
def sg_chk (a b : Nat) (t : Bool) : Bool := if rcN a b t = 0 then decide (sgN a b t = (0, 0)) else decide (rkN (sgN a b t).1 = rcN a b t) && (decide (¬ (sgN a b t).1 = 0) && (decide ((sgN a b t).2 = if boN a b t = true then 2 else 1) && (decide (a = m_cN (sgN a b t).1) && decide (boN a b t = m_rN (sgN a b t).1))))
theorem sg_all12 : ∀ a ∈ [124, 38, 94, 61, 33, 60, 62, 43, 45, 42, 47, 37], ∀ b, b < 127 → sg_chk a b true = true ∧ sg_chk a b false = true := by decide +kernel
theorem sg_all (a b : Nat) (ha : a < 127) (hb : b < 127) (hab : a = 0 → b = 0) (t : Bool) : sg_chk a b t = true := by
  by_cases hs : a ∈ [124, 38, 94, 61, 33, 60, 62, 43, 45, 42, 47, 37]
  · cases t
    · exact (sg_all12 a hs b hb).2
    · exact (sg_all12 a hs b hb).1
  · simp only [List.mem_cons, List.not_mem_nil, or_false] at hs
    have h1 : rkN (256 * a + b) = 0 := by unfold rkN; repeat rw [if_neg (by omega)]
    have h2 : rkN a = 0 := by unfold rkN; repeat rw [if_neg (by omega)]
    have h3 : rcN a b t = 0 := by unfold rcN; repeat rw [if_neg (by omega)]
    unfold sg_chk
    rw [if_pos h3]
    unfold sgN
    rw [h1, h2]
    rfl
theorem sg_ok {tx : List Int32} (hO : sh_O tx) (pl : Nat) : (m_rk tx pl = 0 ∧ sh_sign2 tx pl = (0, sh_skip tx pl)) ∨ (0 < m_rk tx pl ∧ sh_rank (sh_sign2 tx pl).1 = m_rk tx pl ∧ ¬ (sh_sign2 tx pl).1 = 0 ∧ (sh_sign2 tx pl).2 = sh_skip tx pl + (if m_both tx pl = true then 2 else 1) ∧ m_at tx (sh_skip tx pl) = m_c (sh_sign2 tx pl).1 ∧ (if m_both tx pl = true then - nI (m_rk tx pl) else nI (m_rk tx pl)) = m_r (sh_sign2 tx pl).1) := by
  obtain ⟨a, ha, a1, a2, a3⟩ := O_at hO (sh_skip tx pl)
  obtain ⟨b, hb, b1, b2, b3⟩ := O_at hO (sh_skip tx pl + 1)
  obtain ⟨f, hf, f1, f2, f3⟩ := O_at hO (sh_skip tx pl + 2)
  have hab : a = 0 → b = 0 := by omega
  have hc := sg_all a b ha hb hab (decide (f = 61))
  have hrk : m_rk tx pl = rcN a b (decide (f = 61)) := by
    unfold m_rk m_rc rcN
    rw [a2, b2, f2]
    simp only [mE ha hb hab, mN ha (m := 124) (by decide) (by decide), mN ha (m := 38) (by decide) (by decide), mN ha (m := 94) (by decide) (by decide), mN ha (m := 61) (by decide) (by decide), mN ha (m := 33) (by decide) (by decide), mN ha (m := 60) (by decide) (by decide), mN ha (m := 62) (by decide) (by decide), mN ha (m := 43) (by decide) (by decide), mN ha (m := 45) (by decide) (by decide), mN ha (m := 42) (by decide) (by decide), mN ha (m := 47) (by decide) (by decide), mN ha (m := 37) (by decide) (by decide),
      mN hb (m := 124) (by decide) (by decide), mN hb (m := 38) (by decide) (by decide), mN hb (m := 61) (by decide) (by decide), mN hf (m := 61) (by decide) (by decide), decide_eq_true_eq]
  have hbo : m_both tx pl = boN a b (decide (f = 61)) := by
    unfold m_both boN
    rw [hrk, b2]
    simp only [mN hb (m := 61) (by decide) (by decide)]
  have hlt : (sgN a b (decide (f = 61))).1 < 2 ^ 31 := by
    unfold sgN
    split
    · split
      · decide
      · show 256 * a + b < _; omega
    · split
      · decide
      · show a < _; omega
  have hsg : sh_sign2 tx pl = (nI (sgN a b (decide (f = 61))).1, sh_skip tx pl + (sgN a b (decide (f = 61))).2) := by
    have b61 : (nI b = 61) = (b = 61) := nI_lit (m := 61) (by omega) (by decide)
    have f61 : (nI f = 61) = (f = 61) := nI_lit (m := 61) (by omega) (by decide)
    unfold sh_sign2 sgN
    rw [a1, b1, f1, sh_two_n a (by omega) b (by omega), rkN_eq (n := 256 * a + b) (by omega), shN_eq (n := 256 * a + b) (by omega), rkN_eq (n := a) (by omega)]
    simp only [b61, f61, decide_eq_true_eq]
    split
    · split
      · rfl
      · rfl
    · split
      · rfl
      · rfl
  rw [hrk, hbo, hsg, a2]
  unfold sg_chk at hc
  by_cases h0 : rcN a b (decide (f = 61)) = 0
  · rw [if_pos h0] at hc
    left
    rw [of_decide_eq_true hc]
    exact ⟨h0, rfl⟩
  · rw [if_neg h0] at hc
    simp only [Bool.and_eq_true, decide_eq_true_eq] at hc
    obtain ⟨c1, c2, c3, c4, c5⟩ := hc
    right
    dsimp only
    refine ⟨by omega, by rw [rkN_eq hlt]; exact c1, fun e => c2 (xi_eq (b := 0) e hlt (by decide)), by rw [c3], ?_, ?_⟩
    · have ha0 : ¬ a = 0 := fun e => h0 (by unfold rcN; repeat rw [if_neg (by omega)])
      rw [if_neg ha0]
      unfold m_c
      simp only [nI_lit hlt (m := 31868) (by decide), nI_lit hlt (m := 9766) (by decide), nI_lit hlt (m := 15677) (by decide), nI_lit hlt (m := 8509) (by decide), nI_lit hlt (m := 15421) (by decide), nI_lit hlt (m := 15420) (by decide), nI_lit hlt (m := 15933) (by decide), nI_lit hlt (m := 15934) (by decide)]
      conv => lhs; rw [c4]
      unfold m_cN
      repeat' split
      all_goals rfl
    · rw [c5]
      unfold m_r m_rN
      rw [rkN_eq hlt, c1]
      simp only [nI_lit hlt (m := 31868) (by decide), nI_lit hlt (m := 9766) (by decide), nI_lit hlt (m := 15677) (by decide), nI_lit hlt (m := 8509) (by decide), nI_lit hlt (m := 15421) (by decide), nI_lit hlt (m := 15420) (by decide), nI_lit hlt (m := 15933) (by decide), nI_lit hlt (m := 15934) (by decide), decide_eq_true_eq]
def gcN (c d : Nat) (t : Bool) : Nat := if c = 61 then (if d = 61 then 0 else 1) else if (c = 60 ∨ c = 62) ∧ d = c then (if t = true then 3 else 0)
  else if (c = 42 ∨ c = 47 ∨ c = 37 ∨ c = 43 ∨ c = 45 ∨ c = 38 ∨ c = 94 ∨ c = 124) ∧ d = 61 then 2 else 0
def agN (a b : Nat) (t : Bool) : Nat × Nat := if a = 61 ∧ ¬ b = 61 then (61, 1) else if (decide (256 * a + b = 15420) || decide (256 * a + b = 15934)) = true ∧ t = true then (256 * a + b, 3) else if b = 61 ∧ ¬ a = 60 ∧ ¬ a = 62 ∧ 0 < rkN a then (a, 2) else (0, 0)
def soN (a : Nat) : Nat := if a = 0 then 61 else if a = 60 then 15420 else if a = 62 then 15934 else a
def ag_chk (a b : Nat) (t : Bool) : Bool := if gcN a b t = 0 then decide (agN a b t = (0, 0)) else decide (¬ (agN a b t).1 = 0) && (decide ((agN a b t).2 = gcN a b t) && (decide (gcN a b t ≤ 3) && (m_ops (nI (if gcN a b t = 1 then 0 else a)) && decide (soN (if gcN a b t = 1 then 0 else a) = (agN a b t).1))))
theorem ag_all12 : ∀ a ∈ [124, 38, 94, 61, 33, 60, 62, 43, 45, 42, 47, 37], ∀ b, b < 127 → ag_chk a b true = true ∧ ag_chk a b false = true := by decide +kernel
theorem ag_all (a b : Nat) (ha : a < 127) (hb : b < 127) (hab : a = 0 → b = 0) (t : Bool) : ag_chk a b t = true := by
  by_cases hs : a ∈ [124, 38, 94, 61, 33, 60, 62, 43, 45, 42, 47, 37]
  · cases t
    · exact (ag_all12 a hs b hb).2
    · exact (ag_all12 a hs b hb).1
  · simp only [List.mem_cons, List.not_mem_nil, or_false] at hs
    have h2 : rkN a = 0 := by unfold rkN; repeat rw [if_neg (by omega)]
    have h3 : gcN a b t = 0 := by unfold gcN; repeat rw [if_neg (by omega)]
    have h4 : (decide (256 * a + b = 15420) || decide (256 * a + b = 15934)) = false := by rw [Bool.or_eq_false_iff, decide_eq_false_iff_not, decide_eq_false_iff_not]; omega
    unfold ag_chk
    rw [if_pos h3]
    unfold agN
    rw [if_neg (by omega), h4, if_neg (by rintro ⟨e, -⟩; cases e), if_neg (by rw [h2]; omega)]
    rfl
/-- the sign of an assignment -/
theorem sgA_ok {tx : List Int32} (hO : sh_O tx) (pl : Nat) : (m_gv tx pl = 0 ∧ (sh_signA tx pl).1 = 0) ∨ (0 < m_gv tx pl ∧ m_gv tx pl ≤ 3 ∧ ¬ (sh_signA tx pl).1 = 0 ∧ (sh_signA tx pl).2 = sh_skip tx pl + m_gv tx pl ∧ m_ops (m_op tx pl).toInt32 = true ∧ m_sg (m_op tx pl).toInt32 = (sh_signA tx pl).1) := by
  obtain ⟨a, ha, a1, a2, a3⟩ := O_at hO (sh_skip tx pl)
  obtain ⟨b, hb, b1, b2, b3⟩ := O_at hO (sh_skip tx pl + 1)
  obtain ⟨f, hf, f1, f2, f3⟩ := O_at hO (sh_skip tx pl + 2)
  have hab : a = 0 → b = 0 := by omega
  have hc := ag_all a b ha hb hab (decide (f = 61))
  have hgv : m_gv tx pl = gcN a b (decide (f = 61)) := by
    unfold m_gv m_gc gcN
    rw [a2, b2, f2]
    simp only [mE ha hb hab, mN ha (m := 124) (by decide) (by decide), mN ha (m := 38) (by decide) (by decide), mN ha (m := 94) (by decide) (by decide), mN ha (m := 61) (by decide) (by decide), mN ha (m := 60) (by decide) (by decide), mN ha (m := 62) (by decide) (by decide), mN ha (m := 43) (by decide) (by decide), mN ha (m := 45) (by decide) (by decide), mN ha (m := 42) (by decide) (by decide), mN ha (m := 47) (by decide) (by decide), mN ha (m := 37) (by decide) (by decide),
      mN hb (m := 61) (by decide) (by decide), mN hf (m := 61) (by decide) (by decide), decide_eq_true_eq]
  have hlt : (agN a b (decide (f = 61))).1 < 2 ^ 31 := by
    unfold agN
    repeat' split
    · decide
    · show 256 * a + b < _; omega
    · show a < _; omega
    · decide
  have hsg : sh_signA tx pl = (nI (agN a b (decide (f = 61))).1, sh_skip tx pl + (agN a b (decide (f = 61))).2) := by
    have a61 : (nI a = 61) = (a = 61) := nI_lit (m := 61) (by omega) (by decide)
    have a60 : (nI a = 60) = (a = 60) := nI_lit (m := 60) (by omega) (by decide)
    have a62 : (nI a = 62) = (a = 62) := nI_lit (m := 62) (by omega) (by decide)
    have b61 : (nI b = 61) = (b = 61) := nI_lit (m := 61) (by omega) (by decide)
    have f61 : (nI f = 61) = (f = 61) := nI_lit (m := 61) (by omega) (by decide)
    unfold sh_signA agN
    rw [a1, b1, f1, sh_two_n a (by omega) b (by omega), shN_eq (n := 256 * a + b) (by omega), rkN_eq (n := a) (by omega)]
    simp only [a61, a60, a62, b61, f61, decide_eq_true_eq]
    repeat' split
    all_goals rfl
  have ho1 : (m_op tx pl).toInt32 = nI (if gcN a b (decide (f = 61)) = 1 then 0 else a) := by
    unfold m_op
    rw [hgv, a1]
    split
    · rfl
    · exact Int32.toInt32_toInt64 _
  have hop : ∀ n : Nat, n < 127 → m_sg (nI n) = nI (soN n) := by
    intro n hn
    unfold m_sg soN
    simp only [nI_lit (n := n) (m := 0) (by omega) (by decide), nI_lit (n := n) (m := 60) (by omega) (by decide), nI_lit (n := n) (m := 62) (by omega) (by decide)]
    repeat' split
    all_goals rfl
  rw [hgv, hsg, ho1, hop _ (by split <;> omega)]
  unfold ag_chk at hc
  by_cases h0 : gcN a b (decide (f = 61)) = 0
  · rw [if_pos h0] at hc
    left
    rw [of_decide_eq_true hc]
    exact ⟨h0, rfl⟩
  · rw [if_neg h0] at hc
    simp only [Bool.and_eq_true, decide_eq_true_eq] at hc
    obtain ⟨c1, c2, c3, c5, c4⟩ := hc
    right
    exact ⟨by omega, c3, fun e => c1 (xi_eq (b := 0) e hlt (by decide)), by show sh_skip tx pl + _ = _; rw [c2], c5, by rw [c4]⟩

