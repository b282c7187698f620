/-! what the signs make of two values -/
theorem sl63 (b : Int64) : (b &&& 63).toInt32.toInt64 &&& 63 = b.toInt32.toInt64 &&& 63 := by
  apply Int64.toBitVec_inj.mp
  simp only [Int64.toBitVec_and, Int32.toBitVec_toInt64, Int64.toBitVec_toInt32]
  apply BitVec.eq_of_getLsbD_eq
  intro i hi
  have h63 : ∀ j, (63 : Int64).toBitVec.getLsbD j = decide (j < 6) := by
    intro j
    show (63#64).getLsbD j = _
    rw [show (63#64) = BitVec.ofNat 64 (2 ^ 6 - 1) from rfl, BitVec.getLsbD_ofNat, Nat.testBit_two_pow_sub_one]
    by_cases h : j < 6
    · simp [h]; omega
    · simp [h]
  simp only [BitVec.getLsbD_and, BitVec.getLsbD_signExtend, h63]
  by_cases h6 : i < 6
  · have h32 : i < 32 := by omega
    simp [h6, h32]
    rw [if_pos hi, if_pos hi]
  · simp [h6]
section
variable {s : Int32} {f v : Int64}
theorem rk_cases (h : 0 < sh_rank s) : s = 31868 ∨ s = 9766 ∨ s = 124 ∨ s = 94 ∨ s = 38 ∨ s = 15677 ∨ s = 8509 ∨ s = 60 ∨ s = 62 ∨ s = 15421 ∨ s = 15933 ∨ s = 15420 ∨ s = 15934 ∨ s = 43 ∨ s = 45 ∨ s = 42 ∨ s = 47 ∨ s = 37 := by
  unfold sh_rank at h
  grind
/-- what the reference makes of a sign -/
def m_do (s : Int32) (f v : Int64) : Int64 := m_jn (m_c s) (if m_r s < 0 then - m_r s else m_r s) (decide (m_r s < 0)) f v
theorem do_no (nd : Bool) (h : nd = false) (a : Int32) (v : Int64) : m_jb a v nd = false := by subst h; simp [m_jb]
theorem do_set (h : 0 < sh_rank s) (hs : sh_settled s f = true) (nd : Bool) : m_jb (m_c s) v nd = false ∧ m_do s f v = (if s = 31868 then 1 else 0) := by
  have : s = 31868 ∨ s = 9766 := by unfold sh_settled at hs; grind
  rcases this with rfl | rfl
  · have hf : ¬ f = 0 := by unfold sh_settled at hs; grind
    refine ⟨rfl, ?_⟩
    show (if f = 0 then (if v = 0 then 0 else 1) else 1 : Int64) = 1
    rw [if_neg hf]
  · have hf : f = 0 := by unfold sh_settled at hs; grind
    refine ⟨rfl, ?_⟩
    show (if f = 0 then 0 else if v = 0 then 0 else 1 : Int64) = 0
    rw [if_pos hf]
theorem do_app (h : 0 < sh_rank s) (hs : ¬ sh_settled s f = true) : sh_apply s f v = if m_jb (m_c s) v true = true then none else some (m_do s f v) := by
  rcases rk_cases h with rfl | rfl | rfl | rfl | rfl | rfl | rfl | rfl | rfl | rfl | rfl | rfl | rfl | rfl | rfl | rfl | rfl | rfl
  · show some (if (decide (¬ f = 0) || decide (¬ v = 0)) = true then 1 else 0) = some (if f = 0 then (if v = 0 then 0 else 1) else 1 : Int64)
    grind
  · show some (if (decide (¬ f = 0) && decide (¬ v = 0)) = true then 1 else 0) = some (if f = 0 then 0 else if v = 0 then 0 else 1 : Int64)
    grind
  · rfl
  · rfl
  · rfl
  · show some (if (decide (f = v)) = true then 1 else 0) = some (if f = v then 1 else 0 : Int64)
    grind
  · show some (if (decide (¬ f = v)) = true then 1 else 0) = some (if f = v then 0 else 1 : Int64)
    grind
  · show some (if (decide (f < v)) = true then 1 else 0) = some (if f < v then 1 else if false = true ∧ f = v then 1 else 0 : Int64)
    grind
  · show some (if (decide (v < f)) = true then 1 else 0) = some (if v < f then 1 else if false = true ∧ f = v then 1 else 0 : Int64)
    grind
  · show some (if (decide (f ≤ v)) = true then 1 else 0) = some (if f < v then 1 else if true = true ∧ f = v then 1 else 0 : Int64)
    have := Int64.le_iff_lt_or_eq (a := f) (b := v)
    grind
  · show some (if (decide (v ≤ f)) = true then 1 else 0) = some (if v < f then 1 else if true = true ∧ f = v then 1 else 0 : Int64)
    have := Int64.le_iff_lt_or_eq (a := v) (b := f)
    grind
  · show some (f <<< ((v &&& 63).toInt32.toInt64 &&& 63)) = some (f <<< (v.toInt32.toInt64 &&& 63))
    rw [sl63]
  · show some (f >>> ((v &&& 63).toInt32.toInt64 &&& 63)) = some (f >>> (v.toInt32.toInt64 &&& 63))
    rw [sl63]
  · rfl
  · rfl
  · rfl
  · show (if v = 0 then none else some (f / v)) = if decide (v = 0) = true then none else some (if v = 0 then 0 else f / v)
    grind
  · show (if v = 0 then none else some (f - f / v * v)) = if decide (v = 0) = true then none else some (if v = 0 then 0 else f - f / v * v)
    grind
/-- an assignment's sign -/
theorem do_giv {o : Int32} (h : m_ops o = true) (h0 : ¬ o = 0) : ¬ m_sg o = 61 ∧ sh_apply (m_sg o) f v = if m_jb o v true = true then none else some (m_jn o 8 false f v) := by
  have : o = 42 ∨ o = 47 ∨ o = 37 ∨ o = 43 ∨ o = 45 ∨ o = 38 ∨ o = 94 ∨ o = 124 ∨ o = 60 ∨ o = 62 := by unfold m_ops at h; grind
  rcases this with rfl | rfl | rfl | rfl | rfl | rfl | rfl | rfl | rfl | rfl
  all_goals refine ⟨by decide, ?_⟩
  · rfl
  · show (if v = 0 then none else some (f / v)) = if decide (v = 0) = true then none else some (if v = 0 then 0 else f / v)
    grind
  · show (if v = 0 then none else some (f - f / v * v)) = if decide (v = 0) = true then none else some (if v = 0 then 0 else f - f / v * v)
    grind
  · rfl
  · rfl
  · rfl
  · rfl
  · rfl
  · show some (f <<< ((v &&& 63).toInt32.toInt64 &&& 63)) = some (f <<< (v.toInt32.toInt64 &&& 63))
    rw [sl63]
  · show some (f >>> ((v &&& 63).toInt32.toInt64 &&& 63)) = some (f >>> (v.toInt32.toInt64 &&& 63))
    rw [sl63]
end
