/-! decimal texts -/
def sh_rd : Nat → Nat → List Int32
  | 0, _ => []
  | f + 1, n => nI (48 + n % 10) :: (if n / 10 = 0 then [] else sh_rd f (n / 10))
def sh_dec (v : Int64) : List Int32 := (if v < 0 then [45] else []) ++ (sh_rd 20 v.toInt.natAbs).reverse
theorem dz_div (r : Int64) : (r / 10).toInt = r.toInt.tdiv 10 := by
  rw [Int64.toInt_div_of_ne_right r 10 (by decide)]; rfl
theorem dz_nd (r : Int64) : (r / 10).toInt.natAbs = r.toInt.natAbs / 10 := by
  rw [dz_div, Int.natAbs_tdiv]; rfl
theorem dz_lt (r : Int64) : r.toInt.natAbs < 10 ^ 19 := by
  have h1 := Int64.le_toInt r
  have h2 := Int64.toInt_lt r
  omega
theorem dz_zero {r : Int64} : r = 0 ↔ r.toInt.natAbs = 0 := by
  rw [← Int64.toInt_inj, Int64.toInt_zero]; omega
theorem dz_rem (r : Int64) : (r - r / 10 * 10).toInt = r.toInt.tmod 10 := by
  have e : (r / 10 * 10).toInt = r.toInt.tdiv 10 * 10 := by
    rw [Int64.toInt_mul, dz_div, show (10 : Int64).toInt = 10 from rfl]
    have h1 := Int64.le_toInt r
    have h2 := Int64.toInt_lt r
    have h3 := Int.tmod_def r.toInt 10
    have h4 := Int.tmod_lt_of_pos r.toInt (show (0 : Int) < 10 by decide)
    have h5 : -10 < r.toInt.tmod 10 := by
      have h6 : (r.toInt.tmod 10).natAbs < 10 := by rw [Int.natAbs_tmod]; exact Nat.mod_lt _ (by decide)
      omega
    have h7 : (r.toInt.tdiv 10).natAbs = r.toInt.natAbs / 10 := by rw [Int.natAbs_tdiv]; rfl
    apply Int.bmod_eq_of_le
    · omega
    · omega
  rw [Int64.toInt_sub, e]
  have h3 := Int.tmod_def r.toInt 10
  have h6 : (r.toInt.tmod 10).natAbs < 10 := by rw [Int.natAbs_tmod]; exact Nat.mod_lt _ (by decide)
  rw [show r.toInt - r.toInt.tdiv 10 * 10 = r.toInt.tmod 10 by omega]
  apply Int.bmod_eq_of_le
  · omega
  · omega
theorem dz_remA (r : Int64) : (r - r / 10 * 10).toInt.natAbs = r.toInt.natAbs % 10 := by
  rw [dz_rem, Int.natAbs_tmod]; rfl
def sh_abs (x : Int64) : Int64 := if 0 ≤ x then x else -x
theorem dz_abs {x : Int64} (h : x.toInt.natAbs < 10) : sh_abs x = lN x.toInt.natAbs := by
  rw [← Int64.toInt_inj, lN_toInt (by omega)]
  unfold sh_abs
  split
  · rename_i h0
    rw [Int64.le_iff_toInt_le, Int64.toInt_zero] at h0
    omega
  · rename_i h0
    rw [Int64.le_iff_toInt_le, Int64.toInt_zero] at h0
    rw [Int64.toInt_neg]
    rw [Int.bmod_eq_of_le (by omega) (by omega)]
    omega
/-- the digit that the class writes -/
theorem dz_dig (r : Int64) : ((48 + sh_abs (r - r / 10 * 10)).toInt32.toUInt32 % 65536).toInt32 = nI (48 + r.toInt.natAbs % 10) := by
  have h : (r - r / 10 * 10).toInt.natAbs < 10 := by rw [dz_remA]; exact Nat.mod_lt _ (by decide)
  rw [dz_abs h, dz_remA, show (48 : Int64) = lN 48 from rfl, lN_add, lN_i, pk_char, pk_tn (by omega), Nat.mod_eq_of_lt (by omega)]
theorem sh_rd_len {f n : Nat} (h : n < 10 ^ f) : (sh_rd (f + 1) n).length ≤ f + 1 ∧ 1 ≤ (sh_rd (f + 1) n).length := by
  induction f generalizing n with
  | zero => rw [show n = 0 by omega]; exact ⟨Nat.le_refl _, Nat.le_refl _⟩
  | succ f ih =>
    unfold sh_rd
    rw [List.length_cons]
    split
    · simp
    · have := ih (n := n / 10) (by rw [Nat.pow_succ] at h; omega)
      omega
