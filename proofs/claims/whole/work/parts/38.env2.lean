/-! names get texts -/
theorem sh_rd_B (f n : Nat) : sh_B (sh_rd f n) := by
  induction f generalizing n with
  | zero => intro c h; cases h
  | succ f ih =>
    intro c h
    unfold sh_rd at h
    rcases List.mem_cons.mp h with h | h
    · exact ⟨48 + n % 10, by omega, h⟩
    · split at h
      · cases h
      · exact ih _ c h
theorem sh_dec_B (v : Int64) : sh_B (sh_dec v) := by
  intro c h
  unfold sh_dec at h
  rcases List.mem_append.mp h with h | h
  · split at h
    · rcases List.mem_cons.mp h with h | h
      · exact ⟨45, by decide, h⟩
      · cases h
    · cases h
  · exact sh_rd_B _ _ c (List.mem_reverse.mp h)
theorem rw_tx_of {a : Nat × Nat × Nat} {nm t : List Int32} {g : Nat → Int32} (ht : t.length ≤ 20) (hg : ∀ j, j < t.length → g j = sh_at t j) : rw_tx (a, nm, g, nI t.length) = t := by
  have hl : (rw_tx (a, nm, g, nI t.length)).length = t.length := rw_tx_len (L := t.length) ht rfl
  apply sh_ext hl
  intro j hj
  rw [hl] at hj
  rw [← rw_tx_at (x := (a, nm, g, nI t.length)) ht rfl hj]
  exact hg j hj
theorem zEn_nd {q : Nat → Option Nat} {ns : List rw_N} {env : sh_Env} (h : zEn q ns env) {i j : Nat} {x y : rw_N} (hi : ns[i]? = some x) (hj : ns[j]? = some y) (e : x.2.1 = y.2.1) : i = j := by
  have hn := h.2.2.2.2
  rw [h.1, List.map_map] at hn
  have li := xl_of hi
  have lj := xl_of hj
  refine (List.getElem_inj (xs := ns.map ((fun z => z.1) ∘ fun x => (x.2.1, rw_tx x))) (h₀ := by simpa using li) (h₁ := by simpa using lj) hn).mp ?_
  rw [List.getElem?_eq_getElem li] at hi
  rw [List.getElem?_eq_getElem lj] at hj
  cases hi; cases hj
  simpa using e
/-- the text of a name that has one -/
theorem zEn_put {q : Nat → Option Nat} {ns : List rw_N} {env : sh_Env} {i : Nat} {x : rw_N} {ql t : List Int32} {g : Nat → Int32} (h : zEn q ns env) (hi : ns[i]? = some x) (hx : x.2.1 = ql) (ht : t.length ≤ 20) (hB : sh_B t) (hg : ∀ j, j < t.length → g j = sh_at t j) :
    zEn q (ns.set i (x.1, ql, g, nI t.length)) (env.map (fun z : List Int32 × List Int32 => if z.1 = ql then (ql, t) else z)) := by
  have hil := xl_of hi
  refine ⟨?_, ?_, ?_, by rw [List.length_set]; exact h.2.2.2.1, ?_⟩
  · apply List.ext_getElem?
    intro j
    rw [h.1, List.map_map, List.getElem?_map, List.getElem?_map, List.getElem?_set]
    by_cases hj : i = j
    · subst hj
      rw [if_pos rfl, if_pos hil, hi]
      simp only [Option.map_some, Function.comp]
      rw [if_pos hx, rw_tx_of ht hg]
    · rw [if_neg hj]
      cases hy : ns[j]? with
      | none => rfl
      | some y =>
        simp only [Option.map_some, Function.comp]
        rw [if_neg (fun e => hj (zEn_nd h hi hy (hx.trans e.symm)))]
  · intro j y hy
    rw [List.getElem?_set] at hy
    by_cases e : i = j
    · rw [if_pos e, if_pos hil] at hy
      cases hy
      rw [← e]
      exact h.2.1 i x hi
    · rw [if_neg e] at hy
      exact h.2.1 j y hy
  · intro y hy
    rcases List.mem_or_eq_of_mem_set hy with hy | hy
    · exact h.2.2.1 y hy
    · rw [hy]
      refine ⟨⟨t.length, ht, rfl⟩, by rw [rw_tx_of ht hg]; exact hB, ?_⟩
      rw [← hx]
      exact (h.2.2.1 x (List.mem_of_getElem? hi)).2.2
  · have e : (env.map (fun z : List Int32 × List Int32 => if z.1 = ql then (ql, t) else z)).map (·.1) = env.map (·.1) := by
      rw [List.map_map]
      apply List.map_congr_left
      intro z _
      simp only [Function.comp]
      split
      · rename_i e; exact e.symm
      · rfl
    rw [e]; exact h.2.2.2.2
/-- a name that comes, with no text yet -/
theorem zEn_add {q : Nat → Option Nat} {ns : List rw_N} {env : sh_Env} {ql : List Int32} {g : Nat → Int32} {a la ra : Nat} (h : zEn q ns env) (hf : sh_fi ns ql = none) (hl : ns.length < 64) (hq : ql.length ≤ 300) :
    zEn (va_up q ns.length (some a)) (ns ++ [((a, la, ra), ql, g, 0)]) (env ++ [(ql, [])]) := by
  refine ⟨?_, ?_, ?_, by rw [List.length_append]; exact hl, ?_⟩
  · rw [List.map_append, h.1]; rfl
  · intro j y hy
    rw [List.getElem?_append] at hy
    unfold va_up
    split at hy
    · rename_i hj
      rw [if_neg (by omega)]
      exact h.2.1 j y hy
    · rename_i hj
      have hj2 : j - ns.length = 0 := by
        rcases Nat.eq_zero_or_pos (j - ns.length) with e | e
        · exact e
        · rw [List.getElem?_eq_none (by show 1 ≤ _; omega)] at hy; cases hy
      rw [hj2] at hy
      cases hy
      rw [if_pos (by omega)]
  · intro y hy
    rcases List.mem_append.mp hy with hy | hy
    · exact h.2.2.1 y hy
    · rcases List.mem_cons.mp hy with hy | hy
      · rw [hy]
        exact ⟨⟨0, by decide, rfl⟩, fun c hc => (by cases hc), hq⟩
      · cases hy
  · rw [List.map_append, List.nodup_append]
    refine ⟨h.2.2.2.2, by simp, fun u hu w hw e => ?_⟩
    rcases List.mem_cons.mp hw with hw | hw
    · rw [e, hw] at hu
      rw [h.1, List.map_map] at hu
      obtain ⟨x, hx, e2⟩ := List.mem_map.mp hu
      unfold sh_fi at hf
      have := List.find?_eq_none.mp hf x hx
      exact this (by simpa using e2)
    · cases hw
theorem zpool_add (kC : ClassId) (fr : va_W) (ns : List rw_N) (x : rw_N) : (fr ++ rw_p 0 kC ns) ++ rw_c 0 kC x = fr ++ rw_p 0 kC (ns ++ [x]) := by
  rw [rw_p_app, List.append_assoc]
  show _ = fr ++ (rw_p 0 kC ns ++ (rw_c 0 kC x ++ []))
  rw [List.append_nil]
theorem zpool_nw {kC : ClassId} {pre : va_W} {ns : List rw_N} {i : Nat} {x : rw_N} {len : Int32} {g : Nat → Int32} (hi : ns[i]? = some x) :
    nw (pre ++ rw_p 0 kC ns) (pre.length + 3 * i) (pre.length + 3 * i + 2) x.1.1 x.1.2.1 x.1.2.2 kC len g = pre ++ rw_p 0 kC (ns.set i (x.1, x.2.1, g, len)) := by
  unfold nw
  rw [Nat.add_assoc, xa_set, xa_set]
  congr 1
  rw [show 3 * i = 3 * i + 0 from rfl, rw_p_set (ci := 0) (cA := kC) (i := i) (x := x) (y := (x.1, x.2.1, x.2.2.1, len)) 0 _ (by decide) hi rfl,
    rw_p_set (ci := 0) (cA := kC) (i := i) (x := (x.1, x.2.1, x.2.2.1, len)) (y := (x.1, x.2.1, g, len)) 2 _ (by decide) (by rw [List.getElem?_set_self (xl_of hi)]) rfl, List.set_set]
theorem zEn_fnone {q : Nat → Option Nat} {ns : List rw_N} {env : sh_Env} (h : zEn q ns env) {ql : List Int32} (hf : sh_fi ns ql = none) : (sh_find env ql).isSome = false := by
  rw [zEn_find h, hf]; rfl
theorem zEn_fsome {q : Nat → Option Nat} {ns : List rw_N} {env : sh_Env} (h : zEn q ns env) {ql : List Int32} {x : rw_N} (hf : sh_fi ns ql = some x) : (sh_find env ql).isSome = true := by
  rw [zEn_find h, hf]; rfl
theorem zEn_len {q : Nat → Option Nat} {ns : List rw_N} {env : sh_Env} (h : zEn q ns env) : env.length = ns.length := by
  rw [h.1, List.length_map]
theorem sh_put_old {env : sh_Env} {ql t : List Int32} (h : (sh_find env ql).isSome = true) : sh_put env ql t = some (env.map (fun z : List Int32 × List Int32 => if z.1 = ql then (ql, t) else z)) := by
  unfold sh_put; rw [if_pos h]
theorem sh_put_full {env : sh_Env} {ql t : List Int32} (h : (sh_find env ql).isSome = false) (hl : 64 ≤ env.length) : sh_put env ql t = none := by
  unfold sh_put; rw [if_neg (by rw [h]; decide), if_pos hl]
theorem sh_put_new {env : sh_Env} {ql t : List Int32} (h : (sh_find env ql).isSome = false) (hl : env.length < 64) : sh_put env ql t = some ((env ++ [(ql, [])]).map (fun z : List Int32 × List Int32 => if z.1 = ql then (ql, t) else z)) := by
  unfold sh_put
  rw [if_neg (by rw [h]; decide), if_neg (by omega), List.map_append]
  congr 1
  have e : env.map (fun z : List Int32 × List Int32 => if z.1 = ql then (ql, t) else z) = env := by
    rw [List.map_congr_left (g := id) (fun z hz => ?_), List.map_id]
    have hn : sh_find env ql = none := by
      cases hq : sh_find env ql with
      | none => rfl
      | some y => rw [hq] at h; cases h
    unfold sh_find at hn
    have := List.find?_eq_none.mp (Option.map_eq_none_iff.mp hn) z hz
    rw [if_neg (by simpa using this)]; rfl
  rw [e]
  simp
/-- cells and fields that an answer takes -/
def zmc {α : Type} (env : sh_Env) (r : Option α × sh_Env) : Nat := 3 * (r.2.length - env.length) + zk r.1
def zms {α : Type} (env : sh_Env) (r : Option α × sh_Env) : Nat := 323 * (r.2.length - env.length) + 6 * zk r.1
abbrev zF (kC kI kJ kQ : ClassId) (a0 aR aN aS aF aK : Nat) (wt : Int32) (ln : Nat) (pl un : Int32) (rs : Int64) (fx sg : Nat → Int32) (ff : Nat → Int64) (q : Nat → Option Nat) (ns : List rw_N) (fr : va_W) : va_W :=
  (a0, .inr (2, [.ref aR, .ref aN, .ref aS, .ref aF, .int wt, .int (nI ln), .int pl, .int un, .long rs])) :: (aR, .inl (kC, 300, .inl fx)) :: (aN, .inr (1, [.ref aK, .int (nI ns.length)])) :: (aK, .inl (kQ, 64, .inr (.inr (.inr (.inr q))))) :: (aS, .inl (kI, 150, .inl sg)) :: (aF, .inl (kJ, 150, .inr (.inl ff))) :: (fr ++ rw_p 0 kC ns)
