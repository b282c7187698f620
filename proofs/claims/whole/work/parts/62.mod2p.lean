/-! names of the reference: 64 places, some of them taken -/
abbrev mO : Type := Option (List Int32 × List Int32)
def zSl (fN fX fA fB : Nat → Int32) (k : Nat) (o : mO) : Prop := match o with
  | none => fA k = 0
  | some q => fA k = nI q.1.length ∧ 1 ≤ q.1.length ∧ q.1.length ≤ 300 ∧ (∀ j, j < q.1.length → fN (300 * k + j) = sh_at q.1 j) ∧ fB k = nI q.2.length ∧ q.2.length ≤ 20 ∧ (∀ j, j < q.2.length → fX (24 * k + j) = sh_at q.2 j)
def zMn (fN fX fA fB : Nat → Int32) (sl : List mO) (env : sh_Env) : Prop := sl.length = 64 ∧ (∀ k o, sl[k]? = some o → zSl fN fX fA fB k o) ∧ (sl.filterMap id).Perm env ∧ (env.map (·.1)).Nodup ∧ env.length ≤ 64
def m_mt (sl : List mO) (ql : List Int32) (k : Nat) : Bool := match sl[k]? with
  | some (some q) => decide (q.1 = ql)
  | _ => false
def m_fk (sl : List mO) (ql : List Int32) : Nat → Int32
  | 0 => -1
  | k + 1 => if m_mt sl ql k = true then nI k else m_fk sl ql k
theorem m_mt_some {sl : List mO} {ql : List Int32} {k : Nat} (h : m_mt sl ql k = true) : ∃ t, sl[k]? = some (some (ql, t)) := by
  unfold m_mt at h
  cases h1 : sl[k]? with
  | none => rw [h1] at h; cases h
  | some o =>
    cases o with
    | none => rw [h1] at h; cases h
    | some q => rw [h1] at h; simp at h; exact ⟨q.2, by rw [← h]⟩
theorem m_fk_spec (sl : List mO) (ql : List Int32) (n : Nat) : (m_fk sl ql n = -1 ∧ ∀ k, k < n → m_mt sl ql k = false) ∨ ∃ k, k < n ∧ m_mt sl ql k = true ∧ m_fk sl ql n = nI k := by
  induction n with
  | zero => exact Or.inl ⟨rfl, fun k h => absurd h (Nat.not_lt_zero _)⟩
  | succ n ih =>
    unfold m_fk
    by_cases h : m_mt sl ql n = true
    · rw [if_pos h]; exact Or.inr ⟨n, Nat.lt_succ_self _, h, rfl⟩
    · rw [if_neg h]
      rcases ih with ⟨h1, h2⟩ | ⟨k, h1, h2, h3⟩
      · refine Or.inl ⟨h1, fun k hk => ?_⟩
        by_cases e : k = n
        · rw [e]; simpa using h
        · exact h2 k (by omega)
      · exact Or.inr ⟨k, by omega, h2, h3⟩
theorem zSl_match {fN fX fA fB : Nat → Int32} {sl : List mO} {k : Nat} {o : mO} {ql : List Int32} (ho : sl[k]? = some o) (hz : zSl fN fX fA fB k o) (h1 : 1 ≤ ql.length) (h3 : ql.length ≤ 300) : m_mt sl ql k = true ↔ fA k = nI ql.length ∧ ∀ j, j < ql.length → fN (300 * k + j) = sh_at ql j := by
  unfold m_mt
  rw [ho]
  cases o with
  | none =>
    constructor
    · intro h; cases h
    · intro h
      have h2 : fA k = 0 := hz
      rw [h2] at h
      exact absurd (xi_eq (a := 0) h.1 (by decide) (by omega)) (by omega)
  | some q =>
    obtain ⟨a1, a2, a3, a4, -⟩ := hz
    simp only [decide_eq_true_eq]
    constructor
    · intro h; rw [← h]; exact ⟨a1, a4⟩
    · intro h
      have hl : q.1.length = ql.length := xi_eq (a1.symm.trans h.1) (by omega) (by omega)
      exact sh_ext hl (fun j hj => by rw [← a4 j hj]; exact h.2 j (by omega))
/-- what a find says of the names -/
theorem zMn_find {fN fX fA fB : Nat → Int32} {sl : List mO} {env : sh_Env} (h : zMn fN fX fA fB sl env) (ql : List Int32) : (m_fk sl ql 64 = -1 ∧ sh_find env ql = none ∧ ∀ t, ¬ some (ql, t) ∈ sl) ∨ ∃ k t, k < 64 ∧ m_fk sl ql 64 = nI k ∧ sl[k]? = some (some (ql, t)) ∧ sh_find env ql = some t := by
  rcases m_fk_spec sl ql 64 with ⟨h1, h2⟩ | ⟨k, h1, h2, h3⟩
  · have hno : ∀ t, ¬ some (ql, t) ∈ sl := by
      intro t hm
      obtain ⟨k, hk⟩ := List.getElem?_of_mem hm
      have hk64 := xl_of hk
      rw [h.1] at hk64
      have := h2 k hk64
      unfold m_mt at this
      rw [hk] at this
      simp at this
    refine Or.inl ⟨h1, ?_, hno⟩
    rw [sh_find_none]
    intro z hz e
    have hm := h.2.2.1.mem_iff.mpr hz
    obtain ⟨o, ho, e2⟩ := List.mem_filterMap.mp hm
    have e3 : o = some z := e2
    exact hno z.2 (by rw [← e]; rw [e3] at ho; exact ho)
  · obtain ⟨t, ht⟩ := m_mt_some h2
    refine Or.inr ⟨k, t, h1, h3, ht, ?_⟩
    rw [sh_find_some h.2.2.2.1]
    exact h.2.2.1.mem_iff.mp (List.mem_filterMap.mpr ⟨_, List.mem_of_getElem? ht, rfl⟩)
theorem fm_perm {sl : List mO} {k : Nat} (hk : k < sl.length) (y : mO) : ((sl.set k y).filterMap id).Perm ((y :: sl.eraseIdx k).filterMap id) := (set_perm hk y).filterMap id
theorem fm_self {sl : List mO} {k : Nat} {o : mO} (ho : sl[k]? = some o) : (sl.filterMap id).Perm ((o :: sl.eraseIdx k).filterMap id) := by
  have e : sl = sl.set k o := by
    obtain ⟨h1, h2⟩ := List.getElem?_eq_some_iff.mp ho
    rw [← h2, List.set_getElem_self]
  have := fm_perm (xl_of ho) o
  rw [← e] at this
  exact this
/-- a free place, while fewer than 64 names have texts -/
theorem zMn_free {fN fX fA fB : Nat → Int32} {sl : List mO} {env : sh_Env} (h : zMn fN fX fA fB sl env) (hl : env.length < 64) : ∃ k : Nat, sl[k]? = some none := by
  have h1 : (sl.filterMap id).length = env.length := h.2.2.1.length_eq
  by_cases hn : none ∈ sl
  · exact List.getElem?_of_mem hn
  · exfalso
    have : ∀ (a : List mO), ¬ none ∈ a → (a.filterMap id).length = a.length := by
      intro a
      induction a with
      | nil => intro _; rfl
      | cons o r ih =>
        intro hno
        cases o with
        | none => exact absurd List.mem_cons_self hno
        | some q =>
          show ((q :: r.filterMap id)).length = r.length + 1
          rw [List.length_cons, ih (fun hm => hno (List.mem_cons_of_mem _ hm))]
    rw [this sl hn, h.1] at h1
    omega
theorem zSl_other {fN fX fA fB gN gX gA gB : Nat → Int32} {k : Nat} {o : mO} (hz : zSl fN fX fA fB k o) (hA : gA k = fA k) (hB : gB k = fB k) (hN : ∀ j, 300 * k ≤ j → j < 300 * k + 300 → gN j = fN j) (hX : ∀ j, 24 * k ≤ j → j < 24 * k + 24 → gX j = fX j) : zSl gN gX gA gB k o := by
  cases o with
  | none => exact hA.trans hz
  | some q =>
    obtain ⟨a1, a2, a3, a4, a5, a6, a7⟩ := hz
    exact ⟨hA.trans a1, a2, a3, fun j hj => (hN _ (by omega) (by omega)).trans (a4 j hj), hB.trans a5, a6, fun j hj => (hX _ (by omega) (by omega)).trans (a7 j hj)⟩
/-- a place gets a name and its text: the rows elsewhere are as before -/
theorem zMn_set {fN fX fA fB gN gX gA gB : Nat → Int32} {sl : List mO} {env e2 : sh_Env} {k : Nat} {o : mO} (h : zMn fN fX fA fB sl env) (hk : k < 64) (hz : zSl gN gX gA gB k o) (hA : ∀ j, j ≠ k → gA j = fA j) (hB : ∀ j, j ≠ k → gB j = fB j) (hN : ∀ j, (j < 300 * k ∨ 300 * k + 300 ≤ j) → gN j = fN j) (hX : ∀ j, (j < 24 * k ∨ 24 * k + 24 ≤ j) → gX j = fX j)
    (hp : ((o :: sl.eraseIdx k).filterMap id).Perm e2) (hn : (e2.map (·.1)).Nodup) (hl : e2.length ≤ 64) : zMn gN gX gA gB (sl.set k o) e2 := by
  refine ⟨by rw [List.length_set]; exact h.1, fun j y hy => ?_, (fm_perm (by rw [h.1]; exact hk) o).trans hp, hn, hl⟩
  rw [List.getElem?_set] at hy
  by_cases e : k = j
  · rw [if_pos e, if_pos (by rw [h.1]; exact hk)] at hy
    cases hy
    rw [← e]; exact hz
  · rw [if_neg e] at hy
    refine zSl_other (h.2.1 j y hy) (hA j (fun q => e q.symm)) (hB j (fun q => e q.symm)) (fun i h1 h2 => hN i ?_) (fun i h1 h2 => hX i ?_)
    · rcases Nat.lt_or_ge j k with q | q
      · left; omega
      · right; omega
    · rcases Nat.lt_or_ge j k with q | q
      · left; omega
      · right; omega
theorem put_names {env : sh_Env} {ql t : List Int32} : (env.map (fun z : List Int32 × List Int32 => if z.1 = ql then (ql, t) else z)).map (·.1) = env.map (·.1) := by
  rw [List.map_map]
  apply List.map_congr_left
  intro z _
  simp only [Function.comp]
  split
  · rename_i e; exact e.symm
  · rfl
/-- the text of a name that has one -/
theorem zMn_old {fN fX fA fB : Nat → Int32} {sl : List mO} {env : sh_Env} {k : Nat} {ql t0 t : List Int32} (h : zMn fN fX fA fB sl env) (hs : sl[k]? = some (some (ql, t0))) : ((some (ql, t) :: sl.eraseIdx k).filterMap id).Perm (env.map (fun z : List Int32 × List Int32 => if z.1 = ql then (ql, t) else z)) := by
  have h1 := (fm_self hs).symm.trans h.2.2.1
  have h2 := h1.map (fun z : List Int32 × List Int32 => if z.1 = ql then (ql, t) else z)
  refine List.Perm.trans ?_ h2
  have hnd := (h1.map (·.1)).nodup_iff.mpr h.2.2.2.1
  show ((ql, t) :: (sl.eraseIdx k).filterMap id).Perm (((ql, t0) :: (sl.eraseIdx k).filterMap id).map _)
  have hnd2 : ¬ ql ∈ ((sl.eraseIdx k).filterMap id).map (·.1) := (List.nodup_cons.mp hnd).1
  rw [List.map_cons, if_pos rfl]
  have e : ((sl.eraseIdx k).filterMap id).map (fun z : List Int32 × List Int32 => if z.1 = ql then (ql, t) else z) = (sl.eraseIdx k).filterMap id := by
    conv => rhs; rw [← List.map_id ((sl.eraseIdx k).filterMap id)]
    apply List.map_congr_left
    intro z hz
    rw [if_neg (fun e => hnd2 (List.mem_map.mpr ⟨z, hz, e⟩))]
    rfl
  rw [e]
/-- a name that comes -/
theorem zMn_new {fN fX fA fB : Nat → Int32} {sl : List mO} {env : sh_Env} {k : Nat} {ql t : List Int32} (h : zMn fN fX fA fB sl env) (hs : sl[k]? = some none) (hf : sh_find env ql = none) : ((some (ql, t) :: sl.eraseIdx k).filterMap id).Perm (env ++ [(ql, t)]) ∧ ((env ++ [(ql, t)]).map (·.1)).Nodup := by
  have h1 : ((sl.eraseIdx k).filterMap id).Perm env := (fm_self hs).symm.trans h.2.2.1
  refine ⟨?_, ?_⟩
  · show ((ql, t) :: (sl.eraseIdx k).filterMap id).Perm _
    exact (h1.cons _).trans (List.perm_append_comm (l₁ := [(ql, t)]) (l₂ := env))
  · rw [List.map_append, List.nodup_append]
    refine ⟨h.2.2.2.1, by simp, fun u hu w hw e => ?_⟩
    rcases List.mem_cons.mp hw with hw | hw
    · rw [e, hw] at hu
      obtain ⟨z, hz, e2⟩ := List.mem_map.mp hu
      exact sh_find_none.mp hf z hz e2
    · cases hw
theorem sh_put_newL {env : sh_Env} {ql t : List Int32} (h : sh_find env ql = none) (hl : env.length < 64) : sh_put env ql t = some (env ++ [(ql, t)]) := by
  unfold sh_put
  rw [if_neg (by rw [h]; decide), if_neg (by omega)]
theorem sh_put_oldL {env : sh_Env} {ql t t0 : List Int32} (h : sh_find env ql = some t0) : sh_put env ql t = some (env.map (fun z : List Int32 × List Int32 => if z.1 = ql then (ql, t) else z)) := sh_put_old (by rw [h]; rfl)
/-! texts of names as numbers -/
def m_w (nl : List Int32) : List Int32 := nl.takeWhile sh_word
theorem tw_len (nl : List Int32) : (m_w nl).length ≤ nl.length := List.Sublist.length_le (List.takeWhile_sublist _)
theorem tw_at {nl : List Int32} : ∀ {j : Nat}, j < (m_w nl).length → sh_at (m_w nl) j = sh_at nl j ∧ sh_word (sh_at nl j) = true := by
  induction nl with
  | nil => intro j h; exact absurd h (Nat.not_lt_zero _)
  | cons c r ih =>
    intro j h
    unfold m_w at h ⊢
    rw [List.takeWhile_cons] at h ⊢
    split at h
    · rename_i hc
      rw [if_pos hc]
      cases j with
      | zero => exact ⟨rfl, hc⟩
      | succ j => exact ih (Nat.lt_of_succ_lt_succ h)
    · exact absurd h (Nat.not_lt_zero _)
theorem tw_end {nl : List Int32} : (m_w nl).length < nl.length → sh_word (sh_at nl (m_w nl).length) = false := by
  induction nl with
  | nil => intro h; exact absurd h (Nat.not_lt_zero _)
  | cons c r ih =>
    intro h
    unfold m_w at h ⊢
    rw [List.takeWhile_cons] at h ⊢
    split
    · rename_i hc
      rw [if_pos hc] at h
      exact ih (Nat.lt_of_succ_lt_succ h)
    · rename_i hc
      show sh_word c = false
      simpa using hc
theorem tw_go {nl : List Int32} {k : Nat} (h1 : k ≤ (m_w nl).length) (h2 : k < nl.length) (h3 : sh_word (sh_at nl k) = true) : k < (m_w nl).length := by
  rcases Nat.lt_or_ge k (m_w nl).length with q | q
  · exact q
  · have e : k = (m_w nl).length := by omega
    rw [e] at h2 h3
    rw [tw_end h2] at h3
    cases h3
theorem tw_stop {nl : List Int32} {k : Nat} (h1 : k ≤ (m_w nl).length) (h2 : nl.length ≤ k ∨ sh_word (sh_at nl k) = false) : k = (m_w nl).length := by
  rcases Nat.lt_or_ge k (m_w nl).length with q | q
  · have h3 := (tw_at q).2
    have h4 := tw_len nl
    rcases h2 with h | h
    · omega
    · rw [h] at h3; cases h3
  · omega
theorem tw_pos {nl : List Int32} (h1 : 0 < nl.length) (h2 : sh_digit (sh_at nl 0) = true) : 0 < (m_w nl).length := tw_go (Nat.zero_le _) h1 (by unfold sh_word; rw [h2]; simp)
theorem m_nb_x {nl : List Int32} (hp : 0 < (m_w nl).length) : ∃ x1 : Int32, sh_nb (m_w nl) = sh_base (sh_at nl 0) x1 ∧ ((x1 = 120 ∨ x1 = 88) ↔ (1 < nl.length ∧ (sh_at nl 1 = 120 ∨ sh_at nl 1 = 88))) := by
  refine ⟨if (m_w nl).length ≤ 1 then 48 else sh_at (m_w nl) 1, by unfold sh_nb; rw [(tw_at hp).1], ?_⟩
  have hl := tw_len nl
  rcases Nat.lt_or_ge 1 (m_w nl).length with h | h
  · rw [if_neg (by omega), (tw_at h).1]
    exact ⟨fun q => ⟨by omega, q⟩, fun q => q.2⟩
  · rw [if_pos h]
    constructor
    · intro q; rcases q with q | q <;> exact absurd q (by decide)
    · intro ⟨h1, hx⟩
      have h2 : 1 < (m_w nl).length := tw_go hp h1 (by rcases hx with hx | hx <;> (rw [hx]; decide))
      omega
theorem m_nb_hex {nl : List Int32} (hp : 0 < (m_w nl).length) : sh_nb (m_w nl) = 16 ↔ sh_at nl 0 = 48 ∧ 1 < nl.length ∧ (sh_at nl 1 = 120 ∨ sh_at nl 1 = 88) := by
  obtain ⟨x1, e, h⟩ := m_nb_x hp
  rw [e]
  unfold sh_base
  by_cases hz : sh_at nl 0 = 48
  · rw [if_pos hz]
    by_cases hx : x1 = 120 ∨ x1 = 88
    · rw [if_pos hx]; exact ⟨fun _ => ⟨hz, h.mp hx⟩, fun _ => rfl⟩
    · rw [if_neg hx]; exact ⟨fun q => absurd q (by decide), fun q => absurd (h.mpr q.2) hx⟩
  · rw [if_neg hz]; exact ⟨fun q => absurd q (by decide), fun q => absurd q.1 hz⟩
theorem m_nb_oct {nl : List Int32} (hp : 0 < (m_w nl).length) (h9 : ¬ sh_nb (m_w nl) = 16) : sh_nb (m_w nl) = if sh_at nl 0 = 48 then 8 else 10 := by
  obtain ⟨x1, e, -⟩ := m_nb_x hp
  rw [e] at h9 ⊢
  unfold sh_base at h9 ⊢
  by_cases hz : sh_at nl 0 = 48
  · rw [if_pos hz] at h9
    rw [if_pos hz, if_pos hz]
    by_cases hx : x1 = 120 ∨ x1 = 88
    · rw [if_pos hx] at h9; exact absurd rfl h9
    · rw [if_neg hx]
  · rw [if_neg hz, if_neg hz]
theorem digM_word {c b : Int32} (hb : b = 16 ∨ b = 8 ∨ b = 10) (hw : sh_word c = true) : (b ≤ sh_digM c ↔ (sh_digOf c < 0 ∨ b ≤ sh_digOf c)) ∧ (¬ b ≤ sh_digM c → sh_digM c = sh_digOf c) := by
  unfold sh_digM sh_digOf
  rcases hb with rfl | rfl | rfl <;> grind [sh_digit]
theorem sh_num_w {nl : List Int32} (hp : 0 < (m_w nl).length) : sh_num (m_w nl) = if sh_nb (m_w nl) = 16 then (if (m_w nl).length ≤ 2 then none else sh_digs 16 ((m_w nl).drop 2) 0) else sh_digs (sh_nb (m_w nl)) ((m_w nl).drop 0) 0 := by
  rw [sh_num_eq hp, List.drop_zero]
