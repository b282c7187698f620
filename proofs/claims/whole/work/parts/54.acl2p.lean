def sh_aput (env : sh_Env) (nm : List Int32) (x : Int64) (n : Int32) : Bool × sh_Env := if sh_areT x n = true then (match sh_put env nm (sh_bytes x n.toNatClampNeg) with
  | none => (false, env)
  | some e2 => (true, e2)) else (false, env)
theorem sh_bytes_B (x : Int64) (n : Nat) : sh_B (sh_bytes x n) := by
  intro c h
  unfold sh_bytes at h
  obtain ⟨i, -, rfl⟩ := List.mem_map.mp h
  exact ⟨_, bz_lt x n i, rfl⟩
theorem sh_aput_ac {q : Nat → Option Nat} {ns : List rw_N} {env : sh_Env} {nl t : List Int32} (hE : zEn q ns env) (hq : nl.length ≤ 300) : 3 * sh_ac ns nl ≤ 3 * ((match sh_put env nl t with | none => (false, env) | some e2 => (true, e2) : Bool × sh_Env).2.length - env.length) ∧ (23 + nl.length) * sh_ac ns nl ≤ 323 * ((match sh_put env nl t with | none => (false, env) | some e2 => (true, e2) : Bool × sh_Env).2.length - env.length) := by
  unfold sh_ac
  split
  · rename_i hc
    rw [sh_put_new (zEn_fnone hE hc.1) (by rw [zEn_len hE]; exact hc.2)]
    simp
    omega
  · exact ⟨Nat.zero_le _, Nat.zero_le _⟩
theorem sh_find_some {env : sh_Env} (hn : (env.map (·.1)).Nodup) {nm t : List Int32} : sh_find env nm = some t ↔ (nm, t) ∈ env := by
  unfold sh_find
  induction env with
  | nil => simp
  | cons z r ih =>
    rw [List.map_cons, List.nodup_cons] at hn
    rw [List.find?_cons]
    by_cases h : z.1 = nm
    · rw [decide_eq_true h]
      simp only [Option.map_some, Option.some.injEq, List.mem_cons]
      constructor
      · intro e; left; rw [← h, ← e]
      · intro e
        rcases e with e | e
        · rw [← e]
        · exact absurd (List.mem_map.mpr ⟨(nm, t), e, h.symm⟩) hn.1
    · rw [decide_eq_false h]
      simp only [List.mem_cons]
      rw [ih hn.2]
      constructor
      · intro e; exact Or.inr e
      · intro e
        rcases e with e | e
        · exact absurd (by rw [← e]) h
        · exact e
theorem sh_find_none {env : sh_Env} {nm : List Int32} : sh_find env nm = none ↔ ∀ z ∈ env, ¬ z.1 = nm := by
  unfold sh_find
  rw [Option.map_eq_none_iff, List.find?_eq_none]
  simp
/-- the rows of names are one row, in whatever order -/
theorem sh_find_perm {e1 e2 : sh_Env} (h : e1.Perm e2) (hn : (e1.map (·.1)).Nodup) (nm : List Int32) : sh_find e1 nm = sh_find e2 nm := by
  have hn2 : (e2.map (·.1)).Nodup := (h.map _).nodup_iff.mp hn
  cases h1 : sh_find e1 nm with
  | some t =>
    rw [sh_find_some hn] at h1
    exact ((sh_find_some hn2).mpr (h.mem_iff.mp h1)).symm
  | none =>
    rw [sh_find_none] at h1
    exact (sh_find_none.mpr (fun z hz => h1 z (h.mem_iff.mpr hz))).symm
theorem set_perm {α : Type} : ∀ {a : List α} {j : Nat} (_ : j < a.length) (y : α), (a.set j y).Perm (y :: a.eraseIdx j)
  | x :: r, 0, _, y => List.Perm.refl _
  | x :: r, j + 1, h, y => by
    show (x :: r.set j y).Perm (y :: x :: r.eraseIdx j)
    exact ((set_perm (a := r) (j := j) (Nat.lt_of_succ_lt_succ h) y).cons x).trans (List.Perm.swap y x _)
theorem perm_swap {α : Type} {ns : List α} {j : Nat} {x y : α} (hj : ns[j]? = some x) (hy : ns[ns.length - 1]? = some y) : ns.Perm (x :: (ns.set j y).dropLast) := by
  have hjl := xl_of hj
  have hne : ns ≠ [] := fun e => by rw [e] at hjl; simp at hjl
  rcases Nat.lt_or_ge j (ns.length - 1) with h | h
  · obtain ⟨a, ha⟩ : ∃ a, a = ns.dropLast := ⟨_, rfl⟩
    have e1 : ns = a ++ [y] := by
      rw [ha]
      have := List.dropLast_concat_getLast hne
      rw [List.getLast_eq_getElem] at this
      rw [List.getElem?_eq_getElem (by omega)] at hy
      cases hy
      exact this.symm
    have hal : a.length = ns.length - 1 := by rw [ha, List.length_dropLast]
    have hja : a[j]? = some x := by
      rw [e1, List.getElem?_append_left (by omega)] at hj
      exact hj
    rw [e1]
    rw [List.set_append_left _ _ (by omega), List.dropLast_concat]
    have h3 : (a.set j y).Perm (y :: a.eraseIdx j) := set_perm (by omega) y
    have h4 : a.Perm (x :: a.eraseIdx j) := by
      have h5 : a = a.set j x := by
        obtain ⟨q1, q2⟩ := List.getElem?_eq_some_iff.mp hja
        rw [← q2, List.set_getElem_self]
      have h6 : (a.set j x).Perm (x :: a.eraseIdx j) := set_perm (by omega) x
      rw [← h5] at h6
      exact h6
    refine (List.perm_append_comm (l₁ := a) (l₂ := [y])).trans ?_
    exact ((h4.cons y).trans (List.Perm.swap x y _)).trans (h3.symm.cons x)
  · have e : j = ns.length - 1 := by omega
    have e2 : x = y := by rw [e, hy] at hj; cases hj; rfl
    subst e2
    have e3 : ns.set j x = ns := by
      obtain ⟨q1, q2⟩ := List.getElem?_eq_some_iff.mp hj
      rw [← q2, List.set_getElem_self]
    rw [e3]
    have := List.dropLast_concat_getLast hne
    rw [List.getLast_eq_getElem] at this
    rw [List.getElem?_eq_getElem (by omega)] at hy
    cases hy
    refine List.Perm.trans (by rw [this]) (List.perm_append_comm (l₁ := ns.dropLast) (l₂ := [ns[ns.length - 1]]))
theorem zEn_drop {q q2 : Nat → Option Nat} {ns : List rw_N} {env : sh_Env} {nl : List Int32} {x : rw_N} {j : Nat} (hE : zEn q ns env) (hfi : sh_fi ns nl = some x) (hj : ns[j]? = some x) (hq2 : ∀ i, i < ns.length - 1 → q2 i = if i = j then q (ns.length - 1) else q i) (kC : ClassId) :
    ∃ (ns2 : List rw_N) (e2 : sh_Env), zEn q2 ns2 e2 ∧ e2.length + 1 = env.length ∧ (∀ u, sh_find e2 u = if u = nl then none else sh_find env u) ∧ env.Perm ((nl, rw_tx x) :: e2) ∧ (rw_p 0 kC ns).Perm (rw_c 0 kC x ++ rw_p 0 kC ns2) ∧ ns.length - 1 = ns2.length := by
  have hjl := xl_of hj
  obtain ⟨y, hy⟩ : ∃ y, ns[ns.length - 1]? = some y := ⟨_, List.getElem?_eq_getElem (by omega)⟩
  have hp := perm_swap hj hy
  have hl2 : ((ns.set j y).dropLast).length = ns.length - 1 := by rw [List.length_dropLast, List.length_set]
  have hnm : x.2.1 = nl := (sh_fi_mem hfi).2
  have hpe : env.Perm ((x.2.1, rw_tx x) :: ((ns.set j y).dropLast).map (fun x => (x.2.1, rw_tx x))) := by
    rw [hE.1]; exact hp.map _
  have hnd2 : (((x.2.1, rw_tx x) :: ((ns.set j y).dropLast).map (fun x => (x.2.1, rw_tx x))).map (·.1)).Nodup := (hpe.map _).nodup_iff.mp hE.2.2.2.2
  refine ⟨(ns.set j y).dropLast, ((ns.set j y).dropLast).map (fun x => (x.2.1, rw_tx x)), ⟨rfl, fun i z hz => ?_, fun z hz => hE.2.2.1 z (hp.mem_iff.mpr (List.mem_cons_of_mem _ hz)), by rw [hl2]; have := hE.2.2.2.1; omega, (List.nodup_cons.mp hnd2).2⟩, by rw [List.length_map, hl2, zEn_len hE]; omega, fun u => ?_, (by rw [← hnm]; exact hpe), rw_p_perm hp, hl2.symm⟩
  · have hi := xl_of hz
    rw [hl2] at hi
    rw [List.getElem?_dropLast, if_pos (by rw [List.length_set]; exact hi), List.getElem?_set] at hz
    rw [hq2 i hi]
    by_cases e : j = i
    · rw [if_pos e, if_pos hjl] at hz
      cases hz
      rw [if_pos e.symm]
      exact hE.2.1 _ _ hy
    · rw [if_neg e] at hz
      rw [if_neg (fun h => e h.symm)]
      exact hE.2.1 _ _ hz
  · rw [sh_find_perm hpe hE.2.2.2.2 u]
    by_cases hu : u = nl
    · rw [if_pos hu, sh_find_none]
      intro z hz he
      exact (List.nodup_cons.mp hnd2).1 (List.mem_map.mpr ⟨z, hz, by rw [he, hu]; exact hnm.symm⟩)
    · rw [if_neg hu]
      unfold sh_find
      rw [List.find?_cons, decide_eq_false (fun h => hu (by rw [← h]; exact hnm))]
