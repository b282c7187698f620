/-! lN n to 2^64 (from kit/laws/BITS.to-paste) -/
theorem wb_tb (n : Nat) : (lN n).toBitVec = BitVec.ofNat 64 n := rfl
theorem wb_inj {a b : Int64} (h : a.toBitVec = b.toBitVec) : a = b := Int64.toBitVec_inj.mp h
theorem wb_tn {n : Nat} (h : n < 2 ^ 64) : (lN n).toBitVec.toNat = n := by rw [wb_tb, BitVec.toNat_ofNat, Nat.mod_eq_of_lt h]
theorem wb_of (x : Int64) : ∃ n, n < 2 ^ 64 ∧ x = lN n := ⟨x.toBitVec.toNat, x.toBitVec.isLt, wb_inj (by rw [wb_tb]; simp)⟩
theorem wb_of32 (x : Int32) : ∃ n, n < 2 ^ 32 ∧ x = nI n := ⟨x.toBitVec.toNat, x.toBitVec.isLt, Int32.toBitVec_inj.mp (by show _ = BitVec.ofNat 32 _; simp)⟩
theorem wb_c : ∀ k, k < 64 → ((nI k).toInt64 &&& 63) = lN k := by decide +kernel
theorem wb_cu : ∀ k, k < 64 → ((nI k).toInt64.toUInt64 &&& Int64.toUInt64 63) = UInt64.ofNat k := by decide +kernel
theorem wb_sm : ∀ k, k < 64 → (BitVec.ofNat 64 k).smod 64 = BitVec.ofNat 64 k := by decide +kernel
theorem wb_pw {a b : Nat} (h : a ≤ b) : 2 ^ b = 2 ^ a * 2 ^ (b - a) := by rw [← Nat.pow_add]; congr 1; omega
theorem wb_lt2 {a b : Nat} (h : a < b) : 2 ^ a < 2 ^ b := Nat.pow_lt_pow_right (by decide) h
theorem wb_mod (n : Nat) : lN n = lN (n % 2 ^ 64) := wb_inj (by rw [wb_tb, wb_tb]; apply BitVec.eq_of_toNat_eq; rw [BitVec.toNat_ofNat, BitVec.toNat_ofNat, Nat.mod_mod])
theorem wb_shr {n k : Nat} (hn : n < 2 ^ 64) (hk : k < 64) : ((lN n).toUInt64 >>> ((nI k).toInt64.toUInt64 &&& Int64.toUInt64 63)).toInt64 = lN (n / 2 ^ k) := by
  rw [wb_cu k hk]
  apply wb_inj
  apply BitVec.eq_of_toNat_eq
  show ((lN n).toUInt64 >>> UInt64.ofNat k).toNat = (BitVec.ofNat 64 _).toNat
  have h1 : (UInt64.ofNat k).toNat = k := by
    show (BitVec.ofNat 64 k).toNat = k
    rw [BitVec.toNat_ofNat, Nat.mod_eq_of_lt (by omega)]
  have h2 : (lN n).toUInt64.toNat = n := wb_tn hn
  rw [UInt64.toNat_shiftRight, h1, h2, Nat.mod_eq_of_lt hk, Nat.shiftRight_eq_div_pow, BitVec.toNat_ofNat, Nat.mod_eq_of_lt (Nat.lt_of_le_of_lt (Nat.div_le_self _ _) hn)]
theorem wb_shl (n : Nat) {k : Nat} (hk : k < 64) : lN n <<< ((nI k).toInt64 &&& 63) = lN (n * 2 ^ k) := by
  rw [wb_c k hk]
  apply wb_inj
  rw [Int64.toBitVec_shiftLeft, wb_tb, wb_tb, wb_tb, wb_sm k hk]
  apply BitVec.eq_of_toNat_eq
  rw [BitVec.shiftLeft_eq', BitVec.toNat_shiftLeft, BitVec.toNat_ofNat, BitVec.toNat_ofNat, BitVec.toNat_ofNat, Nat.mod_eq_of_lt (show k < 2 ^ 64 by omega), Nat.shiftLeft_eq, Nat.mul_mod, Nat.mod_mod, ← Nat.mul_mod]
theorem wb_and {a b : Nat} (ha : a < 2 ^ 64) (hb : b < 2 ^ 64) : lN a &&& lN b = lN (a &&& b) := by
  apply wb_inj
  rw [Int64.toBitVec_and, wb_tb, wb_tb, wb_tb]
  apply BitVec.eq_of_toNat_eq
  rw [BitVec.toNat_and, BitVec.toNat_ofNat, BitVec.toNat_ofNat, BitVec.toNat_ofNat, Nat.mod_eq_of_lt ha, Nat.mod_eq_of_lt hb, Nat.mod_eq_of_lt (Nat.and_lt_two_pow _ hb)]
theorem wb_or {a b : Nat} (ha : a < 2 ^ 64) (hb : b < 2 ^ 64) : lN a ||| lN b = lN (a ||| b) := by
  apply wb_inj
  rw [Int64.toBitVec_or, wb_tb, wb_tb, wb_tb]
  apply BitVec.eq_of_toNat_eq
  rw [BitVec.toNat_or, BitVec.toNat_ofNat, BitVec.toNat_ofNat, BitVec.toNat_ofNat, Nat.mod_eq_of_lt ha, Nat.mod_eq_of_lt hb, Nat.mod_eq_of_lt (Nat.or_lt_two_pow ha hb)]
theorem wb_mask {n k : Nat} (hn : n < 2 ^ 64) (hk : k < 64) : lN n &&& lN (2 ^ k - 1) = lN (n % 2 ^ k) := by
  rw [wb_and hn (by have := wb_lt2 hk; omega), Nat.and_two_pow_sub_one_eq_mod]
theorem wb_a1 {n : Nat} (hn : n < 2 ^ 64) : lN n &&& 1 = lN (n % 2) := wb_mask (k := 1) hn (by decide)
theorem wb_bit {n k : Nat} (hn : n < 2 ^ 64) (hk : k < 64) : ((lN n).toUInt64 >>> ((nI k).toInt64.toUInt64 &&& Int64.toUInt64 63)).toInt64 &&& 1 = lN (n / 2 ^ k % 2) := by
  rw [wb_shr hn hk, wb_a1 (Nat.lt_of_le_of_lt (Nat.div_le_self _ _) hn)]
/-! bytes of a long -/
theorem bz_k {n i : Nat} (hi : i < n) (hn : n ≤ 8) : 8 * ((nI n - 1) - nI i) = nI (8 * (n - 1 - i)) := by
  have e1 : nI n - 1 = nI (n - 1) := pk_sub (b := 1) (by omega)
  rw [e1, pk_sub (by omega)]
  exact pk_mul 8 _
theorem bz_lt (x : Int64) (n i : Nat) : x.toBitVec.toNat / 2 ^ (8 * (n - 1 - i)) % 256 < 256 := Nat.mod_lt _ (by decide)
theorem sh_bA_eq {x : Int64} {n i : Nat} (hi : i < n) (hn : n ≤ 8) : sh_bA x (nI n) (nI i) = sh_byte x n i := by
  obtain ⟨N, hN, rfl⟩ := wb_of x
  unfold sh_bA sh_byte
  rw [bz_k hi hn, wb_shr hN (by omega)]
  have h1 : N / 2 ^ (8 * (n - 1 - i)) < 2 ^ 64 := Nat.lt_of_le_of_lt (Nat.div_le_self _ _) hN
  rw [show (255 : Int64) = lN (2 ^ 8 - 1) from rfl, wb_mask h1 (by decide), lN_i, pk_char, wb_tn hN]
  have h2 : N / 2 ^ (8 * (n - 1 - i)) % 2 ^ 8 < 256 := Nat.mod_lt _ (by decide)
  rw [pk_tn (by omega), Nat.mod_eq_of_lt (by omega)]
theorem bz_sar (x : BitVec 64) {k : Nat} (hk : k ≤ 56) : x.sshiftRight k &&& 255#64 = (x >>> k) &&& 255#64 := by
  apply BitVec.eq_of_getLsbD_eq
  intro i hi
  rw [BitVec.getLsbD_and, BitVec.getLsbD_and, BitVec.getLsbD_sshiftRight, BitVec.getLsbD_ushiftRight]
  by_cases h8 : i < 8
  · rw [if_pos (show k + i < 64 by omega)]
    simp [show ¬ 64 ≤ i by omega]
  · have : (255#64).getLsbD i = false := by
      have e : (255#64).getLsbD i = Nat.testBit 255 i := by
        show (BitVec.ofNat 64 255).getLsbD i = _
        rw [BitVec.getLsbD_ofNat]; simp [hi]
      rw [e]
      exact Nat.testBit_lt_two_pow (Nat.lt_of_lt_of_le (show 255 < 2 ^ 8 by decide) (Nat.pow_le_pow_right (by decide) (by omega)))
    rw [this]; simp
theorem sh_bM_eq {x : Int64} {n i : Nat} (hi : i < n) (hn : n ≤ 8) : sh_bM x (nI n) (nI i) = sh_byte x n i := by
  unfold sh_bM sh_byte
  rw [bz_k hi hn, wb_c _ (by omega)]
  have hk : 8 * (n - 1 - i) ≤ 56 := by omega
  generalize 8 * (n - 1 - i) = k at hk ⊢
  have e : (x >>> lN k) &&& 255 = lN (x.toBitVec.toNat / 2 ^ k % 256) := by
    apply wb_inj
    rw [Int64.toBitVec_and, Int64.toBitVec_shiftRight, wb_tb, wb_tb, wb_sm k (by omega)]
    show x.toBitVec.sshiftRight' (BitVec.ofNat 64 k) &&& 255#64 = _
    rw [show x.toBitVec.sshiftRight' (BitVec.ofNat 64 k) = x.toBitVec.sshiftRight k from by
      unfold BitVec.sshiftRight'
      rw [BitVec.toNat_ofNat, Nat.mod_eq_of_lt (by omega)], bz_sar _ hk]
    apply BitVec.eq_of_toNat_eq
    rw [BitVec.toNat_and, BitVec.toNat_ushiftRight, show (255#64).toNat = 2 ^ 8 - 1 from rfl, Nat.and_two_pow_sub_one_eq_mod, BitVec.toNat_ofNat, Nat.shiftRight_eq_div_pow]
    have : x.toBitVec.toNat / 2 ^ k % 2 ^ 8 < 256 := Nat.mod_lt _ (by decide)
    rw [Nat.mod_eq_of_lt (a := x.toBitVec.toNat / 2 ^ k % 256) (by omega)]
  rw [e, lN_i]
theorem sh_bytes_len (x : Int64) (n : Nat) : (sh_bytes x n).length = n := by simp [sh_bytes]
theorem sh_bytes_get {x : Int64} {n i : Nat} (h : i < n) : (sh_bytes x n)[i]? = some (sh_byte x n i) := by simp [sh_bytes, h]
theorem sh_bytes_all {x : Int64} {n : Nat} {p : Int32 → Bool} (h : ∀ j, j < n → p (sh_byte x n j) = true) : (sh_bytes x n).all p = true := by
  rw [List.all_eq_true]
  intro c hc
  obtain ⟨j, hj, rfl⟩ := List.mem_map.mp hc
  exact h j (List.mem_range.mp hj)
theorem sh_bytes_not {x : Int64} {n j : Nat} {p : Int32 → Bool} (hj : j < n) (h : p (sh_byte x n j) = false) : (sh_bytes x n).all p = false := by
  rw [List.all_eq_false]
  exact ⟨_, List.mem_map.mpr ⟨j, List.mem_range.mpr hj, rfl⟩, by rw [h]; decide⟩
