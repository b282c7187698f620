theorem sh_fi_mem {ns : List rw_N} {ql : List Int32} {x : rw_N} (h : sh_fi ns ql = some x) : (∃ j : Nat, ns[j]? = some x) ∧ x.2.1 = ql := by
  unfold sh_fi at h
  exact ⟨List.getElem?_of_mem (List.mem_of_find?_eq_some h), by simpa using List.find?_some h⟩
/-- two places of the pool with one address are one place -/
theorem sh_pool_inj {A : Nat → Prop} {ws : va_W} {kp : Nat} {kC : ClassId} {q : Nat → Option Nat} {ns : List rw_N} (hD : va_D A ws) (hpo : sh_pool ws kp kC q ns) {i j : Nat} {x y : rw_N} (hi : ns[i]? = some x) (hj : ns[j]? = some y) (h : x.1.1 = y.1.1) : i = j := by
  have := hD.1 _ _ _ _ (hpo i x hi).2.1 (hpo j y hj).2.1 h
  omega
