theorem sh_ext {a b : List Int32} (hl : a.length = b.length) (h : ∀ j, j < a.length → sh_at a j = sh_at b j) : a = b := by
  apply List.ext_getElem hl
  intro i h1 h2
  have := h i h1
  rw [sh_at_get h1, sh_at_get h2] at this
  exact this
/-- the named thing with these letters -/
def sh_fi (ns : List rw_N) (ql : List Int32) : Option rw_N := ns.find? (fun x => decide (x.2.1 = ql))
theorem sh_fi_none {ns : List rw_N} {ql : List Int32} (h : ∀ j, j < ns.length → ∀ x, ns[j]? = some x → ¬ x.2.1 = ql) : sh_fi ns ql = none := by
  unfold sh_fi
  rw [List.find?_eq_none]
  intro x hx
  obtain ⟨j, hj⟩ := List.getElem?_of_mem hx
  simpa using h j (List.getElem?_eq_some_iff.mp hj).1 x hj
theorem sh_fi_some {ns : List rw_N} {ql : List Int32} {k : Nat} {y : rw_N} (hk : ns[k]? = some y) (hy : y.2.1 = ql) (h : ∀ j, j < k → ∀ x, ns[j]? = some x → ¬ x.2.1 = ql) : sh_fi ns ql = some y := by
  unfold sh_fi
  rw [List.find?_eq_some_iff_getElem]
  obtain ⟨hl, e⟩ := List.getElem?_eq_some_iff.mp hk
  refine ⟨by simpa using hy, k, hl, e, fun j hj => ?_⟩
  have := h j hj _ (List.getElem?_eq_getElem (by omega))
  simpa using this
/-- what a list of names is on the heap: the row of their objects, and each one's cells -/
def sh_pool (ws : va_W) (kp : Nat) (kC : ClassId) (q : Nat → Option Nat) (ns : List rw_N) : Prop := ∀ (i : Nat) (x : rw_N), ns[i]? = some x → q i = some x.1.1 ∧ ws[kp + 3 * i]? = some (x.1.1, .inr (0, [.ref x.1.2.1, .ref x.1.2.2, .int x.2.2.2])) ∧ ws[kp + 3 * i + 1]? = some (x.1.2.1, .inl (kC, x.2.1.length, .inl (fun i => x.2.1.getD i 0))) ∧ ws[kp + 3 * i + 2]? = some (x.1.2.2, .inl (kC, 20, .inl x.2.2.1)) ∧ x.2.1.length ≤ 300
