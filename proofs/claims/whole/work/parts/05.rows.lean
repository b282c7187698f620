/-! Own rows, of no class: a number on the stack under another name; worlds up to order; cells of a pool of named things. -/
section XW
variable {p : Program} {l : Launch} {e : Env} {R : Room} {s : State} {m : MethodId} {args : Array Value} {below : List Frame} {meth : Method} {c : Code} {H : Heap} {locs : List Loc} {cells slots : Nat} {Q : State → Prop}
variable {pc : Nat} {ls : Array Slot} {rest : List Value}
theorem xw_topi {x y : Int32} (h : x = y) (k : W p l e R s m args below meth c H locs cells slots Q (F0 m pc ls (.int y :: rest))) : W p l e R s m args below meth c H locs cells slots Q (F0 m pc ls (.int x :: rest)) := by
  subst h; exact k
theorem xw_topl {x y : Int64} (h : x = y) (k : W p l e R s m args below meth c H locs cells slots Q (F0 m pc ls (.long y :: rest))) : W p l e R s m args below meth c H locs cells slots Q (F0 m pc ls (.long x :: rest)) := by
  subst h; exact k
theorem xw_topv {x y : Value} (h : x = y) (k : W p l e R s m args below meth c H locs cells slots Q (F0 m pc ls (y :: rest))) : W p l e R s m args below meth c H locs cells slots Q (F0 m pc ls (x :: rest)) := by
  subst h; exact k
end XW
theorem xw_Pmem {D : va_G} {cl : List vw_C} {ws ws' : va_W} {H : Heap} (h : va_P D cl ws H) (hs : ∀ q ∈ ws', q ∈ ws) : va_P D cl ws' H := fun k q hk => by
  obtain ⟨i, hi⟩ := List.getElem?_of_mem (hs q (List.mem_of_getElem? hk))
  exact h i q hi
theorem xw_Dnd {A : Nat → Prop} {ws : va_W} : va_D A ws ↔ (ws.map (·.1)).Nodup ∧ ∀ q ∈ ws, A q.1 := by
  constructor
  · intro h
    refine ⟨?_, fun q hq => ?_⟩
    · rw [List.nodup_iff_pairwise_ne, List.pairwise_iff_getElem]
      intro i j hi hj hij e
      rw [List.length_map] at hi hj
      rw [List.getElem_map, List.getElem_map] at e
      have := h.1 i j ws[i] ws[j] (List.getElem?_eq_getElem hi) (List.getElem?_eq_getElem hj) e
      omega
    · obtain ⟨k, hk⟩ := List.getElem?_of_mem hq
      exact h.2 k q hk
  · intro h
    refine ⟨fun i j a b hi hj e => ?_, fun k q hk => h.2 q (List.mem_of_getElem? hk)⟩
    have hn := h.1
    rw [List.nodup_iff_pairwise_ne, List.pairwise_iff_getElem] at hn
    obtain ⟨hi', ei⟩ := List.getElem?_eq_some_iff.mp hi
    obtain ⟨hj', ej⟩ := List.getElem?_eq_some_iff.mp hj
    rcases Nat.lt_trichotomy i j with h1 | h1 | h1
    · exact absurd (by rw [List.getElem_map, List.getElem_map, ei, ej]; exact e) (hn i j (by rw [List.length_map]; exact hi') (by rw [List.length_map]; exact hj') h1)
    · exact h1
    · exact absurd (by rw [List.getElem_map, List.getElem_map, ei, ej]; exact e.symm) (hn j i (by rw [List.length_map]; exact hj') (by rw [List.length_map]; exact hi') h1)
theorem xw_Dperm {A : Nat → Prop} {ws ws' : va_W} (h : va_D A ws) (hp : ws.Perm ws') : va_D A ws' := by
  rw [xw_Dnd] at h ⊢
  exact ⟨(hp.map (·.1)).nodup h.1, fun q hq => h.2 q (hp.mem_iff.mpr hq)⟩
theorem xw_Dright {A : Nat → Prop} {w1 w2 : va_W} (h : va_D A (w1 ++ w2)) : va_D A w2 := by
  rw [xw_Dnd] at h ⊢
  rw [List.map_append, List.nodup_append] at h
  exact ⟨h.1.2.1, fun q hq => h.2 q (List.mem_append_right _ hq)⟩
/-! a pool: one thing is three cells. (addresses: the object, its letters, its row), letters, row, length -/
abbrev rw_N : Type := (Nat × Nat × Nat) × List Int32 × (Nat → Int32) × Int32
def rw_c (ci : Nat) (cA : ClassId) (x : rw_N) : va_W := [(x.1.1, .inr (ci, [.ref x.1.2.1, .ref x.1.2.2, .int x.2.2.2])), (x.1.2.1, .inl (cA, x.2.1.length, .inl (fun i => x.2.1.getD i 0))), (x.1.2.2, .inl (cA, 20, .inl x.2.2.1))]
def rw_p (ci : Nat) (cA : ClassId) : List rw_N → va_W
  | [] => []
  | x :: r => rw_c ci cA x ++ rw_p ci cA r
theorem rw_p_app (ci : Nat) (cA : ClassId) (a b : List rw_N) : rw_p ci cA (a ++ b) = rw_p ci cA a ++ rw_p ci cA b := by
  induction a with
  | nil => rfl
  | cons x r ih => show rw_c ci cA x ++ rw_p ci cA (r ++ b) = _; rw [ih, ← List.append_assoc]; rfl
theorem rw_p_len (ci : Nat) (cA : ClassId) (a : List rw_N) : (rw_p ci cA a).length = 3 * a.length := by
  induction a with
  | nil => rfl
  | cons x r ih => show (rw_c ci cA x ++ rw_p ci cA r).length = _; rw [List.length_append, ih, List.length_cons]; show 3 + _ = _; omega
theorem rw_p_get {ci : Nat} {cA : ClassId} : ∀ {a : List rw_N} {i : Nat} {x : rw_N} (j : Nat), j < 3 → a[i]? = some x → (rw_p ci cA a)[3 * i + j]? = (rw_c ci cA x)[j]?
  | [], i, x, j, _, h => by simp at h
  | y :: r, 0, x, j, hj, h => by
    cases h
    show (rw_c ci cA y ++ rw_p ci cA r)[3 * 0 + j]? = _
    rw [List.getElem?_append_left (by show _ < 3; omega)]
    congr 1
    omega
  | y :: r, i + 1, x, j, hj, h => by
    show (rw_c ci cA y ++ rw_p ci cA r)[3 * (i + 1) + j]? = _
    rw [List.getElem?_append_right (by show 3 ≤ _; omega), ← rw_p_get j hj (show r[i]? = some x from h)]
    congr 1
    show 3 * (i + 1) + j - 3 = _
    omega
theorem rw_p_set {ci : Nat} {cA : ClassId} : ∀ {a : List rw_N} {i : Nat} {x y : rw_N} (j : Nat) (q : Nat × va_E), j < 3 → a[i]? = some x → (rw_c ci cA x).set j q = rw_c ci cA y → (rw_p ci cA a).set (3 * i + j) q = rw_p ci cA (a.set i y)
  | [], i, x, y, j, q, _, h, _ => by simp at h
  | z :: r, 0, x, y, j, q, hj, h, e => by
    cases h
    show (rw_c ci cA z ++ rw_p ci cA r).set (3 * 0 + j) q = rw_c ci cA y ++ rw_p ci cA r
    rw [show 3 * 0 + j = j by omega, List.set_append_left _ _ (by show _ < 3; omega), e]
  | z :: r, i + 1, x, y, j, q, hj, h, e => by
    show (rw_c ci cA z ++ rw_p ci cA r).set (3 * (i + 1) + j) q = rw_c ci cA z ++ rw_p ci cA (r.set i y)
    rw [List.set_append_right _ _ (by show 3 ≤ _; omega), ← rw_p_set j q hj (show r[i]? = some x from h) e]
    congr 2
    show 3 * (i + 1) + j - 3 = _
    omega
theorem rw_p_perm {ci : Nat} {cA : ClassId} {a b : List rw_N} (h : a.Perm b) : (rw_p ci cA a).Perm (rw_p ci cA b) := by
  induction h with
  | nil => exact List.Perm.refl _
  | cons x _ ih => exact List.Perm.append_left _ ih
  | swap x y l =>
    show (rw_c ci cA y ++ (rw_c ci cA x ++ rw_p ci cA l)).Perm (rw_c ci cA x ++ (rw_c ci cA y ++ rw_p ci cA l))
    rw [← List.append_assoc, ← List.append_assoc]
    exact List.Perm.append_right _ List.perm_append_comm
  | trans _ _ h1 h2 => exact h1.trans h2
/-- a method that writes nothing and answers v -/
def rq_ (v : Option Value) : Array Value → State → Outcome → State → Prop := fun _ st o t => o = .returned v ∧ t.heap = st.heap
section RQ
variable {p : Program} {l : Launch} {e : Env} {R : Room} {s : State} {m : MethodId} {args : Array Value} {below : List Frame} {meth : Method} {c : Code} {H : Heap} {locs : List Loc} {cells slots : Nat} {Q : State → Prop}
variable {pc : Nat} {ls : Array Slot} {rest st0 : List Value} {a : Array Value}
theorem rq_call {v : Option Value} (hr : va_Run p l e R s m args below meth c H locs cells slots 0 0 (F0 m pc ls st0) rest (rq_ v a) (fun _ => False))
    (kk : W p l e R s m args below meth c H locs cells slots Q (F0 m (pc + 3) ls (v.toList ++ rest))) : W p l e R s m args below meth c H locs cells slots Q (F0 m pc ls st0) := by
  intro T hT X
  obtain ⟨w, st₀, t, T', L, h0, X', hL, e1, -, ⟨hv, hh⟩, st⟩ := hr T hT X
  cases hv
  obtain ⟨t2, a1, b1⟩ := kk T' (by rw [e1, hh, h0]) (Stand.forget X' (fun q h => (hL q h).elim))
  exact ⟨t2, st t2 a1, b1⟩
theorem rq_pre {As : List Value} : PreS s H (va_Pc As (fun _ => True)) As := ⟨fun _ _ _ _ h => ⟨h.1, trivial⟩, fun _ _ _ => ⟨rfl, trivial⟩⟩
end RQ
theorem xi_le {a b : Nat} (h : nI a ≤ nI b) (ha : a < 2 ^ 31) (hb : b < 2 ^ 31) : a ≤ b := (nI_leI ha hb).mp h
theorem xi_nle {a b : Nat} (h : ¬ nI a ≤ nI b) (ha : a < 2 ^ 31) (hb : b < 2 ^ 31) : b < a := Nat.not_le.mp (mt (nI_leI ha hb).mpr h)
theorem xi_lt {a b : Nat} (h : nI a < nI b) (ha : a < 2 ^ 31) (hb : b < 2 ^ 31) : a < b := (nI_ltI ha hb).mp h
theorem xi_nlt {a b : Nat} (h : ¬ nI a < nI b) (ha : a < 2 ^ 31) (hb : b < 2 ^ 31) : b ≤ a := Nat.not_lt.mp (mt (nI_ltI ha hb).mpr h)
theorem xi_eq {a b : Nat} (h : nI a = nI b) (ha : a < 2 ^ 31) (hb : b < 2 ^ 31) : a = b := (nI_eq ha hb).mp h
theorem xi_ne {a b : Nat} (h : ¬ nI a = nI b) (ha : a < 2 ^ 31) (hb : b < 2 ^ 31) : a ≠ b := fun e => h (by rw [e])
