/-! rows for the reference's names and numbers -/
theorem nI_nm {k : Nat} (h : k < 2 ^ 31) : ¬ nI k = -1 := by
  intro e
  have := nI_pos' (n := k) h
  rw [e] at this
  exact absurd this (by decide)
theorem areT_end {x : Int64} {n k : Nat} {b : Bool} (hn : n ≤ 8) (h1 : b = true → ∀ j, j < k → sh_ok (sh_byte x n j) = true) (h2 : b = false → ∃ j, j < n ∧ sh_ok (sh_byte x n j) = false) (h : n ≤ k ∨ sh_b b = 0) : sh_b (sh_areT x (nI n)) = sh_b b := by
  rw [sh_areT_n hn]
  cases b with
  | true =>
    have hk : n ≤ k := h.resolve_right (by decide)
    rw [sh_bytes_all (fun j hj => h1 rfl j (by omega))]
  | false => obtain ⟨j, hj, e⟩ := h2 rfl; rw [sh_bytes_not hj e]
theorem areN_end {x : Int64} {n k : Nat} {b : Bool} (hn1 : 1 ≤ n) (hn : n ≤ 8) (hs : sh_start (sh_byte x n 0) = true) (h1 : b = true → ∀ j, j < k → sh_word (sh_byte x n j) = true) (h2 : b = false → ∃ j, j < n ∧ sh_word (sh_byte x n j) = false) (h : n ≤ k ∨ sh_b b = 0) : sh_areN x (nI n) = b := by
  rw [sh_areN_n hn1 hn, hs]
  cases b with
  | true =>
    have hk : n ≤ k := h.resolve_right (by decide)
    rw [sh_bytes_all (fun j hj => h1 rfl j (by omega))]; rfl
  | false => obtain ⟨j, hj, e⟩ := h2 rfl; rw [sh_bytes_not hj e]; rfl
theorem fk_yes {sl : List mO} {ql : List Int32} {k i m : Nat} {sb : Bool} {A : Prop} {P : Nat → Prop} (hmt : m_mt sl ql k = true ↔ A ∧ ∀ j, j < m → P j) (hsb : sb = true ↔ A ∧ ∀ j, j < i → P j) (hs : sb = true) (hi : m ≤ i ∨ sb = false) : nI k = m_fk sl ql (k + 1) := by
  have hle : m ≤ i := hi.resolve_right (by rw [hs]; decide)
  have h := hsb.mp hs
  exact (if_pos (hmt.mpr ⟨h.1, fun j hj => h.2 j (by omega)⟩)).symm
theorem fk_no {sl : List mO} {ql : List Int32} {k i m : Nat} {sb : Bool} {A : Prop} {P : Nat → Prop} (hmt : m_mt sl ql k = true ↔ A ∧ ∀ j, j < m → P j) (hsb : sb = true ↔ A ∧ ∀ j, j < i → P j) (hs : sb = false) (hi : i ≤ m) : m_fk sl ql k = m_fk sl ql (k + 1) := by
  refine (if_neg (fun h => ?_)).symm
  have h2 := hmt.mp h
  rw [hsb.mpr ⟨h2.1, fun j hj => h2.2 j (by omega)⟩] at hs
  cases hs
theorem digs_bad {b : Int32} {r : List Int32} : ∀ {v : Int64} {j : Nat}, j < r.length → sh_digOf (sh_at r j) < 0 → sh_digs b r v = none := by
  induction r with
  | nil => intro v j h; exact absurd h (Nat.not_lt_zero _)
  | cons c r ih =>
    intro v j h hd
    unfold sh_digs
    cases j with
    | zero =>
      have hd2 : sh_digOf c < 0 := hd
      rw [if_pos (Or.inl hd2)]
    | succ j =>
      split
      · rfl
      · exact ih (Nat.lt_of_succ_lt_succ h) hd
theorem nw_dig {c : Int32} (h : sh_word c = false) : sh_digOf c < 0 := by
  unfold sh_word sh_start sh_digit at h
  unfold sh_digOf
  grind
theorem sh_at_drop (r : List Int32) (u j : Nat) : sh_at (r.drop u) j = sh_at r (u + j) := by
  unfold sh_at; rw [List.getD_eq_getElem?_getD, List.getD_eq_getElem?_getD, List.getElem?_drop]
theorem num_nd {nl : List Int32} (h : sh_digit (sh_at nl 0) = false) : sh_num nl = none := by
  cases nl with
  | nil => rfl
  | cons a r =>
    have ha : sh_digit a = false := h
    have e : sh_base a (r.headD 48) = 10 := by unfold sh_base; rw [if_neg]; intro e; rw [e] at ha; revert ha; decide
    unfold sh_num
    dsimp only
    rw [e]
    rw [if_neg (by decide)]
    unfold sh_digs
    rw [if_pos]
    unfold sh_digit at ha
    unfold sh_digOf
    grind
theorem num_cut {nl : List Int32} (hd : sh_digit (sh_at nl 0) = true) (h : (m_w nl).length < nl.length) : sh_num nl = none := by
  have hp : 0 < nl.length := by omega
  have hw := tw_end h
  have h1 := tw_pos hp hd
  have hb := nw_dig hw
  rw [sh_num_eq hp]
  split
  · rename_i hx
    split
    · rfl
    · rename_i h2
      have h3 : 1 < (m_w nl).length := by
        apply tw_go (by omega) (by omega)
        unfold sh_nb at hx
        rw [if_neg (by omega)] at hx
        unfold sh_base at hx
        split at hx
        · split at hx
          · rename_i hx2
            rcases hx2 with e | e <;> (rw [e]; decide)
          · exact absurd hx (by decide)
        · exact absurd hx (by decide)
      refine digs_bad (j := (m_w nl).length - 2) (by rw [List.length_drop]; omega) ?_
      rw [sh_at_drop, show 2 + ((m_w nl).length - 2) = (m_w nl).length by omega]
      exact hb
  · exact digs_bad h hb
theorem num_whole {nl : List Int32} (h : (m_w nl).length = nl.length) : m_w nl = nl := by
  unfold m_w at h ⊢
  exact List.IsPrefix.eq_of_length (List.takeWhile_prefix _) h
theorem mv_none {env : sh_Env} {ql : List Int32} (h : sh_find env ql = none) : sh_nameVal env ql = some 0 := by unfold sh_nameVal; rw [h]
theorem mv_nil {env : sh_Env} {ql tt : List Int32} (h : sh_find env ql = some tt) (h0 : tt.length = 0) : sh_nameVal env ql = some 0 := by
  rw [List.length_eq_zero_iff.mp h0] at h
  unfold sh_nameVal; rw [h]
theorem mv_minus {env : sh_Env} {ql tt : List Int32} (h : sh_find env ql = some tt) (h0 : 0 < tt.length) (hm : sh_at tt 0 = 45) : sh_nameVal env ql = (sh_num (tt.drop 1)).map (fun v => -v) := by
  cases tt with
  | nil => exact absurd h0 (Nat.lt_irrefl _)
  | cons c r =>
    have hc : c = 45 := hm
    unfold sh_nameVal; rw [h]; dsimp only; rw [if_pos hc]; rfl
theorem mv_plain {env : sh_Env} {ql tt : List Int32} (h : sh_find env ql = some tt) (h0 : 0 < tt.length) (hm : ¬ sh_at tt 0 = 45) : sh_nameVal env ql = sh_num (tt.drop 0) := by
  cases tt with
  | nil => exact absurd h0 (Nat.lt_irrefl _)
  | cons c r =>
    have hc : ¬ c = 45 := hm
    unfold sh_nameVal; rw [h]; dsimp only; rw [if_neg hc]; rfl
theorem dz_32 (r : Int64) : ((r - r / 10 * 10).toInt32).toInt = (r - r / 10 * 10).toInt ∧ (r - r / 10 * 10).toInt.natAbs < 10 := by
  have h : (r - r / 10 * 10).toInt.natAbs < 10 := by rw [dz_remA]; exact Nat.mod_lt _ (by decide)
  refine ⟨?_, h⟩
  rw [Int64.toInt_toInt32]
  exact Int.bmod_eq_of_le (by omega) (by omega)
theorem dz_p {r : Int64} (h : 0 ≤ (r - r / 10 * 10).toInt32) : 48 + (r - r / 10 * 10).toInt32 = nI (48 + r.toInt.natAbs % 10) := by
  obtain ⟨h1, h2⟩ := dz_32 r
  rw [Int32.le_iff_toInt_le, h1] at h
  have h0 : (0 : Int32).toInt = 0 := rfl
  have h48 : (48 : Int32).toInt = 48 := rfl
  rw [← dz_remA]
  apply Int32.toInt_inj.mp
  rw [Int32.toInt_add, h1, h48, nI_toInt (by omega), Int.bmod_eq_of_le (by omega) (by omega)]
  omega
theorem dz_n {r : Int64} (h : ¬ 0 ≤ (r - r / 10 * 10).toInt32) : 48 + -(r - r / 10 * 10).toInt32 = nI (48 + r.toInt.natAbs % 10) := by
  obtain ⟨h1, h2⟩ := dz_32 r
  rw [Int32.le_iff_toInt_le, h1] at h
  have h0 : (0 : Int32).toInt = 0 := rfl
  have h48 : (48 : Int32).toInt = 48 := rfl
  rw [← dz_remA]
  apply Int32.toInt_inj.mp
  rw [Int32.toInt_add, Int32.toInt_neg, h1, h48, nI_toInt (by omega), Int.bmod_eq_of_le (n := (-(r - r / 10 * 10).toInt)) (by omega) (by omega), Int.bmod_eq_of_le (by omega) (by omega)]
  omega
theorem nI_half : ∀ n, n < 32 → nI n / 2 = nI (n / 2) := by decide +kernel
section
variable {fN fX fA fB : Nat → Int32} {sl : List mO} {env : sh_Env} {k : Nat} {ql tt t0 : List Int32} {g gX : Nat → Int32}
theorem zMn_slot (hM : zMn fN fX fA fB sl env) (hk : k < 64) : ∃ o, sl[k]? = some o ∧ zSl fN fX fA fB k o := by
  have h : k < sl.length := by rw [hM.1]; exact hk
  exact ⟨sl[k], List.getElem?_eq_getElem h, hM.2.1 k _ (List.getElem?_eq_getElem h)⟩
theorem zMn_giveO (hM : zMn fN fX fA fB sl env) (hs : sl[k]? = some (some (ql, t0))) (hfd : sh_find env ql = some t0) (ht : tt.length ≤ 20) (hx1 : ∀ j, j < tt.length → gX (24 * k + j) = sh_at tt j) (hx0 : ∀ j, (j < 24 * k ∨ 24 * k + 24 ≤ j) → gX j = fX j) : ∃ sl2 e2, sh_put env ql tt = some e2 ∧ zMn fN gX fA (upd fB k (nI tt.length)) sl2 e2 ∧ e2.length = env.length := by
  have hk : k < 64 := by rw [← hM.1]; exact xl_of hs
  obtain ⟨a1, a2, a3, a4, -⟩ := hM.2.1 k _ hs
  refine ⟨sl.set k (some (ql, tt)), _, sh_put_oldL hfd, ?_, by rw [List.length_map]⟩
  refine zMn_set hM hk ⟨a1, a2, a3, a4, pk_us, ht, hx1⟩ (fun j _ => rfl) (fun j hj => pk_un hj) (fun j _ => rfl) hx0 (zMn_old hM hs) (by rw [put_names]; exact hM.2.2.2.1) (by rw [List.length_map]; exact hM.2.2.2.2)
theorem zMn_giveN (hM : zMn fN fX fA fB sl env) (hs : sl[k]? = some none) (hfd : sh_find env ql = none) (hl : env.length < 64) (h1 : 1 ≤ ql.length) (h3 : ql.length ≤ 300) (hg1 : ∀ j, j < ql.length → g (300 * k + j) = sh_at ql j) (hg0 : ∀ j, (j < 300 * k ∨ 300 * k + 300 ≤ j) → g j = fN j) (ht : tt.length ≤ 20) (hx1 : ∀ j, j < tt.length → gX (24 * k + j) = sh_at tt j) (hx0 : ∀ j, (j < 24 * k ∨ 24 * k + 24 ≤ j) → gX j = fX j) : ∃ sl2 e2, sh_put env ql tt = some e2 ∧ zMn g gX (upd fA k (nI ql.length)) (upd fB k (nI tt.length)) sl2 e2 ∧ e2.length = env.length + 1 := by
  have hk : k < 64 := by rw [← hM.1]; exact xl_of hs
  have hne := zMn_new (t := tt) hM hs hfd
  refine ⟨sl.set k (some (ql, tt)), _, sh_put_newL hfd hl, ?_, by rw [List.length_append]; rfl⟩
  refine zMn_set hM hk ⟨pk_us, h1, h3, hg1, pk_us, ht, hx1⟩ (fun j hj => pk_un hj) (fun j hj => pk_un hj) hg0 hx0 hne.1 hne.2 (by rw [List.length_append]; show env.length + 1 ≤ 64; omega)
theorem zMn_drop (hM : zMn fN fX fA fB sl env) (hs : sl[k]? = some (some (ql, t0))) {e2 : sh_Env} (hp : ∃ t, env.Perm ((ql, t) :: e2)) : zMn fN fX (upd fA k 0) fB (sl.set k none) e2 := by
  have hk : k < 64 := by rw [← hM.1]; exact xl_of hs
  obtain ⟨t, hp⟩ := hp
  have h1 : ((ql, t0) :: (sl.eraseIdx k).filterMap id).Perm env := (fm_self hs).symm.trans hM.2.2.1
  have hnd : (((ql, t) :: e2).map (·.1)).Nodup := (hp.map (·.1)).nodup_iff.mp hM.2.2.2.1
  have e : t0 = t := by
    have m1 : (ql, t0) ∈ env := h1.mem_iff.mp List.mem_cons_self
    have m2 : (ql, t) ∈ env := hp.mem_iff.mpr List.mem_cons_self
    have f1 := (sh_find_some hM.2.2.2.1).mpr m1
    have f2 := (sh_find_some hM.2.2.2.1).mpr m2
    rw [f1] at f2
    exact Option.some.inj f2
  subst e
  have h2 : ((sl.eraseIdx k).filterMap id).Perm e2 := (h1.trans hp).cons_inv
  have hl : env.length = e2.length + 1 := by rw [hp.length_eq]; rfl
  refine zMn_set hM hk (o := none) pk_us (fun j hj => pk_un hj) (fun j _ => rfl) (fun j _ => rfl) (fun j _ => rfl) h2 (List.nodup_cons.mp hnd).2 (by have := hM.2.2.2.2; omega)
end
/-- a row turned round, place by place -/
theorem rev_step {D : List Int32} {x : Nat → Int32} {b i : Nat} (hi : i < D.length / 2) (hx : ∀ j, j < D.length → x (b + j) = if j < i ∨ D.length - 1 - j < i then sh_at D j else sh_at D (D.length - 1 - j)) : ∀ j, j < D.length → upd (upd x (b + i) (x (b + D.length - 1 - i))) (b + D.length - 1 - i) (x (b + i)) (b + j) = if j < i + 1 ∨ D.length - 1 - j < i + 1 then sh_at D j else sh_at D (D.length - 1 - j) := by
  intro j hj
  have hxi := hx i (by omega)
  have hxq := hx (D.length - 1 - i) (by omega)
  rw [if_neg (by omega)] at hxi
  rw [if_neg (by omega)] at hxq
  rw [show b + (D.length - 1 - i) = b + D.length - 1 - i by omega] at hxq
  rw [show D.length - 1 - (D.length - 1 - i) = i by omega] at hxq
  by_cases h1 : j = D.length - 1 - i
  · rw [if_pos (by omega), show b + j = b + D.length - 1 - i by omega, pk_us, hxi, h1]
  · rw [pk_un (by omega)]
    by_cases h2 : j = i
    · rw [h2, pk_us, hxq, if_pos (by omega)]
    · rw [pk_un (by omega), hx j hj]
      by_cases h3 : j < i ∨ D.length - 1 - j < i
      · rw [if_pos h3, if_pos (by omega)]
      · rw [if_neg h3, if_neg (by omega)]
theorem rev_end {D : List Int32} {x : Nat → Int32} {b i : Nat} (hi : D.length / 2 ≤ i) (hx : ∀ j, j < D.length → x (b + j) = if j < i ∨ D.length - 1 - j < i then sh_at D j else sh_at D (D.length - 1 - j)) : ∀ j, j < D.length → x (b + j) = sh_at D j := by
  intro j hj
  rw [hx j hj]
  by_cases h3 : j < i ∨ D.length - 1 - j < i
  · rw [if_pos h3]
  · rw [if_neg h3, show D.length - 1 - j = j by omega]
/-- the digits of a number, the last one first; then its sign -/
theorem dec_rev {v : Int64} {x : Nat → Int32} {b d : Nat} (hd : d = (sh_rd 20 v.toInt.natAbs).length) (hx : ∀ j, j < d → x (b + j) = nI (48 + v.toInt.natAbs / 10 ^ j % 10)) : (¬ v < 0 → d = (sh_dec v).length ∧ ∀ j, j < (sh_dec v).length → x (b + j) = sh_at (sh_dec v) ((sh_dec v).length - 1 - j)) ∧ (v < 0 → d + 1 = (sh_dec v).length ∧ ∀ j, j < (sh_dec v).length → upd x (b + d) 45 (b + j) = sh_at (sh_dec v) ((sh_dec v).length - 1 - j)) := by
  have hl := sh_dec_len v
  constructor
  · intro hv
    rw [if_neg hv] at hl
    refine ⟨by omega, fun j hj => ?_⟩
    rw [sh_dec_get (by omega), if_neg (fun q => hv q.1), hx j (by omega)]
    congr 5
    omega
  · intro hv
    rw [if_pos hv] at hl
    refine ⟨by omega, fun j hj => ?_⟩
    rw [sh_dec_get (by omega)]
    by_cases hj2 : j = d
    · rw [hj2, pk_us, if_pos ⟨hv, by omega⟩]
    · rw [pk_un (by omega), if_neg (fun q => hj2 (by omega)), hx j (by omega)]
      congr 5
      omega
theorem sh_bf {b : Bool} (h : sh_b b = 0) : b = false := by
  cases b
  · rfl
  · exact absurd h (by decide)
theorem sh_bt {b : Bool} (h : ¬ sh_b b = 0) : b = true := by
  cases b
  · exact absurd rfl h
  · rfl
theorem upd_upd (f : Nat → Int32) (n : Nat) (x y : Int32) : upd (upd f n x) n y = upd f n y := by
  funext j
  by_cases h : j = n
  · rw [h, pk_us, pk_us]
  · rw [pk_un h, pk_un h, pk_un h]
theorem if_and1 {d n x y : Nat} : (if ¬ d + 1 = 0 ∧ n = 0 then x else y) = if n = 0 then x else y := by
  by_cases h : n = 0 <;> simp [h]
