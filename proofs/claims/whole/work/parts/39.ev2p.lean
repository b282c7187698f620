theorem sh_cut_len {tx : List Int32} {i j : Nat} (h : j ≤ tx.length) : (sh_cut tx i j).length = j - i := by
  unfold sh_cut; rw [List.length_take, List.length_drop]; omega
theorem sh_cut_at {tx : List Int32} {i j k : Nat} (hk : k < j - i) : sh_at (sh_cut tx i j) k = sh_at tx (i + k) := by
  unfold sh_at sh_cut
  rw [List.getD_eq_getElem?_getD, List.getD_eq_getElem?_getD, List.getElem?_take, if_pos hk, List.getElem?_drop]
/-- the signs that wait above a place -/
def zPd (sg : Nat → Int32) (ff : Nat → Int64) (wt : Nat) : List (Int32 × Int64) → Prop
  | [] => True
  | q :: k => sg (wt + k.length) = q.1 ∧ ff (wt + k.length) = q.2 ∧ zPd sg ff wt k
theorem zst_0 {wt : Nat} (h : wt ≤ 150) : nI (wt + ([] : List (Int32 × Int64)).length) - 1 < nI wt := by
  rcases Nat.eq_zero_or_pos wt with q | q
  · rw [q]; decide
  · rw [show nI (wt + ([] : List (Int32 × Int64)).length) - 1 = nI (wt - 1) from pk_sub (b := 1) q]
    exact (nI_ltI (by omega) (by omega)).mpr (by omega)
theorem sh_settle_st {un r : Nat} {s : Int32} {f x : Int64} {k : List (Int32 × Int64)} (h : sh_rank s < r) : sh_settle un ((s, f) :: k) r x = some (x, (s, f) :: k) := by
  unfold sh_settle; rw [if_pos h]
theorem sh_settle_go {un r : Nat} {s : Int32} {f x v : Int64} {k : List (Int32 × Int64)} (h : ¬ sh_rank s < r) (hj : sh_join (un + sh_cnt k) s f x = some v) : sh_settle un ((s, f) :: k) r x = sh_settle un k r v := by
  rw [sh_settle, if_neg h, hj]
theorem sh_settle_no {un r : Nat} {s : Int32} {f x : Int64} {k : List (Int32 × Int64)} (h : ¬ sh_rank s < r) (hj : sh_join (un + sh_cnt k) s f x = none) : sh_settle un ((s, f) :: k) r x = none := by
  rw [sh_settle, if_neg h, hj]
theorem sh_settle_zk {un r : Nat} {s : Int32} {f x : Int64} {k : List (Int32 × Int64)} (h : ¬ sh_rank s < r) : zk (sh_join (un + sh_cnt k) s f x) ≤ zk (sh_settle un ((s, f) :: k) r x) := by
  cases hj : sh_join (un + sh_cnt k) s f x with
  | none => rw [sh_settle_no h hj]; exact Nat.le_refl _
  | some v => exact Nat.zero_le _
