theorem sh_byte_nar (x : Int64) (n k : Nat) : vp_nar .char (sh_byte x n k) = sh_byte x n k := by
  unfold vp_nar sh_byte
  have := bz_lt x n k
  rw [(pk_charN (by omega)).1]
theorem sh_areT_of {x : Int64} {n0 : Int32} (h : sh_areT x n0 = true) : ∃ n : Nat, n ≤ 8 ∧ n0 = nI n := by
  unfold sh_areT at h
  simp only [Bool.and_eq_true, decide_eq_true_eq] at h
  exact nI_of2 (M := 8) rfl (by have := h.1.1; grind) (by have := h.1.2; grind)
theorem sh_areN_of {x : Int64} {n0 : Int32} (h : sh_areN x n0 = true) : ∃ n : Nat, 1 ≤ n ∧ n ≤ 8 ∧ n0 = nI n := by
  unfold sh_areN at h
  simp only [Bool.and_eq_true, decide_eq_true_eq] at h
  obtain ⟨n, hn, rfl⟩ : ∃ n : Nat, n ≤ 8 ∧ n0 = nI n := nI_of2 (M := 8) rfl (by have := h.1.1; grind) (by have := h.1.2; grind)
  exact ⟨n, xi_le (a := 1) h.1.1 (by decide) (by omega), hn, rfl⟩
theorem sh_bytes_at {x : Int64} {n j : Nat} (h : j < n) : sh_at (sh_bytes x n) j = sh_byte x n j := by
  rw [sh_at_get (by simp [sh_bytes]; exact h)]
  simp [sh_bytes]
theorem sh_app_at {tx : List Int32} {x : Int64} {n j : Nat} {fx fx2 : Nat → Int32} (h1 : ∀ j, j < tx.length → fx j = sh_at tx j) (h2 : ∀ j, j < tx.length → fx2 j = fx j) (h3 : ∀ j, j < n → fx2 (tx.length + j) = sh_byte x n j) (hj : j < tx.length + n) : fx2 j = sh_at (tx ++ sh_bytes x n) j := by
  by_cases h : j < tx.length
  · rw [h2 j h, h1 j h]
    unfold sh_at
    rw [List.getD_eq_getElem?_getD, List.getD_eq_getElem?_getD, List.getElem?_append_left h]
  · have e := h3 (j - tx.length) (by omega)
    rw [show tx.length + (j - tx.length) = j by omega] at e
    rw [e, ← sh_bytes_at (by omega)]
    unfold sh_at
    rw [List.getD_eq_getElem?_getD, List.getD_eq_getElem?_getD, List.getElem?_append_right (by omega)]
theorem i_lt20 {i0 : Int32} {L : Nat} (hL : L ≤ 20) (h : ¬ nI L ≤ i0) : i0 ≤ 20 := by
  have h2 : nI L ≤ 20 := nI_le (b := 20) hL (by decide)
  have h3 := h
  grind
