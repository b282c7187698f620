abbrev cJ_abs : ByteArray := prog_10_method_61_code
def yJ_abs : MethodName := ⟨"java/lang/Math", "abs", "(J)J"⟩
abbrev wsJ_abs : List Cond := .code yJ_abs cJ_abs 2 (some .long) :: zw
theorem dJ_abs_0 : decode cJ_abs 0 = .ok (.lload_n 0, 1) := by decide +kernel
theorem dJ_abs_1 : decode cJ_abs 1 = .ok (.lconst 0, 1) := by decide +kernel
theorem dJ_abs_2 : decode cJ_abs 2 = .ok (.lcmp, 1) := by decide +kernel
theorem dJ_abs_3 : decode cJ_abs 3 = .ok (.ifCond .ge 8, 3) := by decide +kernel
theorem dJ_abs_6 : decode cJ_abs 6 = .ok (.lload_n 0, 1) := by decide +kernel
theorem dJ_abs_7 : decode cJ_abs 7 = .ok (.lneg, 1) := by decide +kernel
theorem dJ_abs_8 : decode cJ_abs 8 = .ok (.goto 4, 3) := by decide +kernel
theorem dJ_abs_11 : decode cJ_abs 11 = .ok (.lload_n 0, 1) := by decide +kernel
theorem dJ_abs_12 : decode cJ_abs 12 = .ok (.lreturn, 1) := by decide +kernel
theorem sh_rd_step (f n : Nat) : (sh_rd (f + 1) n).length = 1 + (if n / 10 = 0 then 0 else (sh_rd f (n / 10)).length) := by
  show (nI (48 + n % 10) :: (if n / 10 = 0 then [] else sh_rd f (n / 10))).length = _
  rw [List.length_cons]
  split
  · rfl
  · omega
theorem sh_rd_get : ∀ (f n i : Nat), i < (sh_rd f n).length → sh_at (sh_rd f n) i = nI (48 + n / 10 ^ i % 10)
  | 0, n, i, h => by simp [sh_rd] at h
  | f + 1, n, 0, h => by simp [sh_at, sh_rd]
  | f + 1, n, i + 1, h => by
    have h1 : sh_rd (f + 1) n = nI (48 + n % 10) :: (if n / 10 = 0 then [] else sh_rd f (n / 10)) := rfl
    rw [h1] at h ⊢
    by_cases hz : n / 10 = 0
    · rw [if_pos hz] at h; simp at h
    · rw [if_neg hz] at h ⊢
      rw [List.length_cons] at h
      show sh_at (sh_rd f (n / 10)) i = _
      rw [sh_rd_get f (n / 10) i (by omega), Nat.div_div_eq_div_mul, Nat.pow_succ, Nat.mul_comm (10 ^ i)]
theorem sh_dec_len (v : Int64) : (sh_dec v).length = (if v < 0 then 1 else 0) + (sh_rd 20 v.toInt.natAbs).length := by
  unfold sh_dec
  rw [List.length_append, List.length_reverse]
  split <;> rfl
theorem sh_rd_bd : ∀ (f n k : Nat), n < 10 ^ (k + 1) → (sh_rd f n).length ≤ k + 1
  | 0, n, k, h => Nat.zero_le _
  | f + 1, n, k, h => by
    rw [sh_rd_step]
    split
    · omega
    · rename_i hz
      cases k with
      | zero => omega
      | succ k =>
        have := sh_rd_bd f (n / 10) k (by rw [Nat.pow_succ] at h; omega)
        omega
theorem sh_dec_le (v : Int64) : (sh_dec v).length ≤ 20 ∧ 1 ≤ (sh_dec v).length := by
  rw [sh_dec_len]
  have h1 := sh_rd_bd 20 v.toInt.natAbs 18 (dz_lt v)
  have h2 : 1 ≤ (sh_rd 20 v.toInt.natAbs).length := by
    have e := sh_rd_step 19 v.toInt.natAbs
    rw [show (19 + 1 : Nat) = 20 from rfl] at e
    rw [e]
    exact Nat.le_add_right _ _
  constructor <;> split <;> omega
theorem sh_dec_get {v : Int64} {j : Nat} (h : j < (sh_dec v).length) : sh_at (sh_dec v) j = if v < 0 ∧ j = 0 then 45 else nI (48 + v.toInt.natAbs / 10 ^ ((sh_dec v).length - 1 - j) % 10) := by
  have hl := sh_dec_len v
  by_cases hv : v < 0
  · rw [if_pos hv] at hl
    by_cases hj : j = 0
    · rw [if_pos ⟨hv, hj⟩, hj]; simp [sh_dec, hv, sh_at]
    · rw [if_neg (fun q => hj q.2)]
      obtain ⟨i, rfl⟩ : ∃ i, j = i + 1 := ⟨j - 1, by omega⟩
      have e : sh_at (sh_dec v) (i + 1) = sh_at (sh_rd 20 v.toInt.natAbs).reverse i := by simp [sh_dec, hv, sh_at]
      rw [e, sh_at_get (by rw [List.length_reverse]; omega), List.getElem_reverse, ← sh_at_get, sh_rd_get _ _ _ (by omega)]
      congr 5
      omega
  · rw [if_neg hv] at hl
    rw [if_neg (fun q => hv q.1)]
    have e : sh_at (sh_dec v) j = sh_at (sh_rd 20 v.toInt.natAbs).reverse j := by simp [sh_dec, hv, sh_at]
    rw [e, sh_at_get (by rw [List.length_reverse]; omega), List.getElem_reverse, ← sh_at_get, sh_rd_get _ _ _ (by omega)]
    congr 5
    omega
/-- a named thing among other cells: its object and its row -/
def nw (ws : va_W) (k0 k2 a la ra : Nat) (kC : ClassId) (len : Int32) (g : Nat → Int32) : va_W := (ws.set k0 (a, .inr (0, [.ref la, .ref ra, .int len]))).set k2 (ra, .inl (kC, 20, .inl g))
section NW
variable {ws : va_W} {k0 k2 a la ra : Nat} {kC : ClassId} {len len' : Int32} {g g' : Nat → Int32}
theorem nw_0 (hk : k0 ≠ k2) (h0 : k0 < ws.length) : (nw ws k0 k2 a la ra kC len g)[k0]? = some (a, .inr (0, [.ref la, .ref ra, .int len])) := by
  unfold nw
  rw [List.getElem?_set_ne (Ne.symm hk), List.getElem?_set_self h0]
theorem nw_2 (h2 : k2 < ws.length) : (nw ws k0 k2 a la ra kC len g)[k2]? = some (ra, .inl (kC, 20, .inl g)) := by
  unfold nw
  rw [List.getElem?_set_self (by rw [List.length_set]; exact h2)]
theorem nw_s0 (hk : k0 ≠ k2) : (nw ws k0 k2 a la ra kC len g).set k0 (a, .inr (0, [.ref la, .ref ra, .int len'])) = nw ws k0 k2 a la ra kC len' g := by
  unfold nw
  rw [List.set_comm _ _ (Ne.symm hk), List.set_set]
theorem nw_s2 : (nw ws k0 k2 a la ra kC len g).set k2 (ra, .inl (kC, 20, .inl g')) = nw ws k0 k2 a la ra kC len g' := by
  unfold nw
  rw [List.set_set]
theorem nw_id (h0 : ws[k0]? = some (a, .inr (0, [.ref la, .ref ra, .int len]))) (h2 : ws[k2]? = some (ra, .inl (kC, 20, .inl g))) : nw ws k0 k2 a la ra kC len g = ws := by
  unfold nw
  obtain ⟨q0, e0⟩ := List.getElem?_eq_some_iff.mp h0
  obtain ⟨q2, e2⟩ := List.getElem?_eq_some_iff.mp h2
  rw [← e0, List.set_getElem_self, ← e2, List.set_getElem_self]
end NW
