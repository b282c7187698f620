def sh_areT (x : Int64) (n : Int32) : Bool := (decide (0 ≤ n) && decide (n ≤ 8)) && (sh_bytes x n.toNatClampNeg).all sh_ok
def sh_areN (x : Int64) (n : Int32) : Bool := (decide (1 ≤ n) && decide (n ≤ 8)) && (sh_start (sh_byte x n.toNatClampNeg 0) && (sh_bytes x n.toNatClampNeg).all sh_word)
theorem sh_areT_n {x : Int64} {n : Nat} (h : n ≤ 8) : sh_areT x (nI n) = (sh_bytes x n).all sh_ok := by
  unfold sh_areT
  rw [nI_clamp (by omega), decide_eq_true (nI_pos' (n := n) (by omega)), decide_eq_true (show nI n ≤ 8 from nI_le (b := 8) h (by decide))]
  simp
theorem sh_areN_n {x : Int64} {n : Nat} (h1 : 1 ≤ n) (h : n ≤ 8) : sh_areN x (nI n) = (sh_start (sh_byte x n 0) && (sh_bytes x n).all sh_word) := by
  unfold sh_areN
  rw [nI_clamp (by omega), decide_eq_true (show 1 ≤ nI n from nI_le (a := 1) h1 (by omega)), decide_eq_true (show nI n ≤ 8 from nI_le (b := 8) h (by decide))]
  simp
