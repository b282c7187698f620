/-! the reckoner by levels: signs that wait, choices, assignments -/
def sh_cnt : List (Int32 × Int64) → Nat
  | [] => 0
  | q :: r => (if sh_settled q.1 q.2 = true then 1 else 0) + sh_cnt r
def sh_join (un : Nat) (s : Int32) (f v : Int64) : Option Int64 := if sh_settled s f = true then some (if s = 31868 then 1 else 0) else if 0 < un then some 0 else sh_apply s f v
def sh_settle (un : Nat) : List (Int32 × Int64) → Nat → Int64 → Option (Int64 × List (Int32 × Int64))
  | [], _, v => some (v, [])
  | q :: st, r, v => if sh_rank q.1 < r then some (v, q :: st) else match sh_join (un + sh_cnt st) q.1 q.2 v with
    | none => none
    | some v' => sh_settle un st r v'
abbrev sh_R : Type := Option (Int64 × Nat) × sh_Env
def sh_fin (un : Nat) (st : List (Int32 × Int64)) (v : Int64) (pl : Nat) (env : sh_Env) : sh_R := ((sh_settle un st 0 v).map (fun q => (q.1, pl)), env)
def sh_bl (tx : List Int32) (U : sh_F) (un : Nat) : Nat → List (Int32 × Int64) → Int64 → Nat → sh_Env → sh_R
  | 0, st, v, pl, env => sh_fin un st v (sh_sign2 tx pl).2 env
  | f + 1, st, v, pl, env => if (sh_sign2 tx pl).1 = 0 then sh_fin un st v (sh_sign2 tx pl).2 env else
    match sh_settle un st (sh_rank (sh_sign2 tx pl).1) v with
    | none => (none, env)
    | some q => match U (un + sh_cnt (((sh_sign2 tx pl).1, q.1) :: q.2)) (sh_sign2 tx pl).2 env with
      | (none, e2) => (none, e2)
      | (some z, e2) => sh_bl tx U un f (((sh_sign2 tx pl).1, q.1) :: q.2) z.1 z.2 e2
def sh_Bin (tx : List Int32) (U : sh_F) : sh_F := fun un pl env => match U un pl env with
  | (none, e2) => (none, e2)
  | (some z, e2) => sh_bl tx U un 300 [] z.1 z.2 e2
def sh_C (tx : List Int32) (B C E : sh_F) : sh_F := fun un pl env => match B un pl env with
  | (none, e1) => (none, e1)
  | (some t, e1) => if sh_at tx (sh_skip tx t.2) = 63 then
      match sh_exp tx 58 (E (un + (if t.1 = 0 then 1 else 0)) (sh_skip tx t.2 + 1) e1) with
      | (none, e2) => (none, e2)
      | (some a, e2) => match C (un + (if t.1 = 0 then 0 else 1)) a.2 e2 with
        | (none, e3) => (none, e3)
        | (some b, e3) => (some (if t.1 = 0 then b.1 else a.1, b.2), e3)
    else (some (t.1, sh_skip tx t.2), e1)
def sh_asg (env : sh_Env) (nm : List Int32) (sg : Int32) (v : Int64) : Option Int64 × sh_Env :=
  match (if sg = 61 then some v else (sh_nameVal env nm).bind (fun x => sh_apply sg x v)) with
  | none => (none, env)
  | some y => match sh_put env nm (sh_dec y) with
    | none => (none, env)
    | some e2 => (some y, e2)
def sh_E (tx : List Int32) (C E : sh_F) : sh_F := fun un pl env =>
  if sh_start (sh_at tx (sh_skip tx pl)) = true ∧ ¬ (sh_signA tx (sh_wend tx (sh_skip tx pl))).1 = 0 then
    match E un (sh_signA tx (sh_wend tx (sh_skip tx pl))).2 env with
    | (none, e1) => (none, e1)
    | (some z, e1) => if 0 < un then (some (0, z.2), e1) else
      ((sh_asg e1 (sh_cut tx (sh_skip tx pl) (sh_wend tx (sh_skip tx pl))) (sh_signA tx (sh_wend tx (sh_skip tx pl))).1 z.1).1.map (fun y => (y, z.2)), (sh_asg e1 (sh_cut tx (sh_skip tx pl) (sh_wend tx (sh_skip tx pl))) (sh_signA tx (sh_wend tx (sh_skip tx pl))).1 z.1).2)
  else C un (sh_skip tx pl) env
def sh_lv (tx : List Int32) : Nat → sh_F × sh_F × sh_F
  | 0 => (sh_bad, sh_bad, sh_bad)
  | k + 1 => (sh_U tx (sh_lv tx k).1 (sh_lv tx k).2.2, sh_C tx (sh_Bin tx (sh_U tx (sh_lv tx k).1 (sh_lv tx k).2.2)) (sh_lv tx k).2.1 (sh_lv tx k).2.2,
    sh_E tx (sh_C tx (sh_Bin tx (sh_U tx (sh_lv tx k).1 (sh_lv tx k).2.2)) (sh_lv tx k).2.1 (sh_lv tx k).2.2) (sh_lv tx k).2.2)
abbrev lU (tx : List Int32) (k : Nat) : sh_F := (sh_lv tx k).1
abbrev lC (tx : List Int32) (k : Nat) : sh_F := (sh_lv tx k).2.1
abbrev lE (tx : List Int32) (k : Nat) : sh_F := (sh_lv tx k).2.2
theorem lU_s (tx : List Int32) (k : Nat) : lU tx (k + 1) = sh_U tx (lU tx k) (lE tx k) := rfl
theorem lC_s (tx : List Int32) (k : Nat) : lC tx (k + 1) = sh_C tx (sh_Bin tx (lU tx (k + 1))) (lC tx k) (lE tx k) := rfl
theorem lE_s (tx : List Int32) (k : Nat) : lE tx (k + 1) = sh_E tx (lC tx (k + 1)) (lE tx k) := rfl
/-! what the reckoner keeps: names only come, the place goes on within the text -/
def sh_gd (tx : List Int32) (F : sh_F) : Prop := ∀ un pl env, pl ≤ tx.length → env.length ≤ (F un pl env).2.length ∧ ∀ z, (F un pl env).1 = some z → pl < z.2 ∧ z.2 ≤ tx.length
theorem sh_skip_ge (tx : List Int32) (i : Nat) : i ≤ sh_skip tx i := sh_run_ge _ _ _
theorem sh_wend_ge (tx : List Int32) (i : Nat) : i ≤ sh_wend tx i := sh_run_ge _ _ _
theorem sh_wend_gt {tx : List Int32} {i : Nat} (h : i < tx.length) (hw : sh_word (sh_at tx i) = true) : i < sh_wend tx i := by
  unfold sh_wend
  rw [sh_run_go h hw]
  exact sh_run_ge _ _ _
theorem sh_two0 : ∀ q, q < 256 → sh_rank (sh_two (nI q) 0) = 0 := by decide +kernel
theorem sh_rank0 : sh_rank 0 = 0 := by decide
theorem sh_sign2_ok {tx : List Int32} (hB : sh_B tx) {pl : Nat} (h : pl ≤ tx.length) : pl ≤ (sh_sign2 tx pl).2 ∧ (sh_sign2 tx pl).2 ≤ tx.length ∧ (¬ (sh_sign2 tx pl).1 = 0 → pl < (sh_sign2 tx pl).2) := by
  have h1 := sh_skip_ge tx pl
  have h2 := sh_skip_le h
  unfold sh_sign2
  split
  · rename_i hr
    split
    · exact ⟨h1, h2, fun q => absurd rfl q⟩
    · have h3 : sh_skip tx pl + 1 < tx.length := by
        apply sh_at_in
        intro e
        rw [e] at hr
        obtain ⟨q, hq, e2⟩ := sh_at_byte hB (sh_skip tx pl)
        rw [e2, sh_two0 q hq] at hr
        exact absurd hr (Nat.lt_irrefl 0)
      exact ⟨by show pl ≤ sh_skip tx pl + 2; omega, by show sh_skip tx pl + 2 ≤ _; omega, fun _ => by show pl < sh_skip tx pl + 2; omega⟩
  · split
    · exact ⟨h1, h2, fun q => absurd rfl q⟩
    · rename_i hn
      have h3 : sh_skip tx pl < tx.length := by
        apply sh_at_in
        intro e
        exact hn (Or.inl (by rw [e]; exact sh_rank0))
      exact ⟨by show pl ≤ sh_skip tx pl + 1; omega, by show sh_skip tx pl + 1 ≤ _; omega, fun _ => by show pl < sh_skip tx pl + 1; omega⟩
theorem sh_signA_ok {tx : List Int32} {pl : Nat} (h : pl ≤ tx.length) : pl ≤ (sh_signA tx pl).2 ∧ (sh_signA tx pl).2 ≤ tx.length := by
  have h1 := sh_skip_ge tx pl
  have h2 := sh_skip_le h
  unfold sh_signA
  split
  · rename_i hc
    have h3 : sh_skip tx pl < tx.length := sh_at_in (by rw [hc.1]; decide)
    exact ⟨by show pl ≤ sh_skip tx pl + 1; omega, by show sh_skip tx pl + 1 ≤ _; omega⟩
  · split
    · rename_i hc
      have h3 : sh_skip tx pl + 2 < tx.length := sh_at_in (by rw [hc.2]; decide)
      exact ⟨by show pl ≤ sh_skip tx pl + 3; omega, by show sh_skip tx pl + 3 ≤ _; omega⟩
    · split
      · rename_i hc
        have h3 : sh_skip tx pl + 1 < tx.length := sh_at_in (by rw [hc.1]; decide)
        exact ⟨by show pl ≤ sh_skip tx pl + 2; omega, by show sh_skip tx pl + 2 ≤ _; omega⟩
      · exact ⟨h1, h2⟩
theorem sh_gd_bad (tx : List Int32) : sh_gd tx sh_bad := fun un pl env _ => ⟨Nat.le_refl _, fun z h => by cases h⟩
theorem sh_gd_W {tx : List Int32} : sh_gd tx (sh_W tx) := by
  intro un pl env h
  unfold sh_W
  have h1 := sh_wend_le h
  have h2 := sh_wend_ge tx pl
  split
  · rename_i hd
    have h3 : pl < tx.length := sh_at_in (by intro e; rw [e] at hd; revert hd; decide)
    have h4 := sh_wend_gt h3 (by unfold sh_word; rw [hd]; simp)
    refine ⟨Nat.le_refl _, fun z hz => ?_⟩
    obtain ⟨v, -, rfl⟩ := Option.map_eq_some_iff.mp hz
    exact ⟨h4, h1⟩
  · split
    · rename_i hd
      have h3 : pl < tx.length := sh_at_in (by intro e; rw [e] at hd; revert hd; decide)
      have h4 := sh_wend_gt h3 (by unfold sh_word; rw [hd]; simp)
      refine ⟨Nat.le_refl _, fun z hz => ?_⟩
      dsimp only at hz
      split at hz
      · cases hz; exact ⟨h4, h1⟩
      · obtain ⟨v, -, rfl⟩ := Option.map_eq_some_iff.mp hz
        exact ⟨h4, h1⟩
    · exact ⟨Nat.le_refl _, fun z hz => by cases hz⟩
theorem sh_gd_map {tx : List Int32} {r : sh_R} {f : Int64 → Int64} {pl : Nat} {env : sh_Env} (h : env.length ≤ r.2.length ∧ ∀ z, r.1 = some z → pl < z.2 ∧ z.2 ≤ tx.length) : env.length ≤ (sh_map f r).2.length ∧ ∀ z, (sh_map f r).1 = some z → pl < z.2 ∧ z.2 ≤ tx.length := by
  refine ⟨h.1, fun z hz => ?_⟩
  obtain ⟨v, hv, rfl⟩ := Option.map_eq_some_iff.mp hz
  exact h.2 v hv
theorem sh_gd_exp {tx : List Int32} {r : sh_R} {k : Int32} (hk : k ≠ 0) {pl : Nat} {env : sh_Env} (h : env.length ≤ r.2.length ∧ ∀ z, r.1 = some z → pl < z.2 ∧ z.2 ≤ tx.length) : env.length ≤ (sh_exp tx k r).2.length ∧ ∀ z, (sh_exp tx k r).1 = some z → pl < z.2 ∧ z.2 ≤ tx.length := by
  obtain ⟨r1, r2⟩ := r
  cases r1 with
  | none => exact ⟨h.1, fun z hz => by cases hz⟩
  | some q =>
    obtain ⟨h2, h3⟩ := h.2 q rfl
    have h4 := sh_skip_ge tx q.2
    unfold sh_exp
    dsimp only
    split
    · rename_i hc
      have h5 : sh_skip tx q.2 < tx.length := sh_at_in (by rw [hc]; exact hk)
      exact ⟨h.1, fun z hz => by cases hz; exact ⟨by show pl < sh_skip tx q.2 + 1; omega, by show sh_skip tx q.2 + 1 ≤ _; omega⟩⟩
    · exact ⟨h.1, fun z hz => by cases hz⟩
theorem sh_gd_U {tx : List Int32} {U E : sh_F} (hU : sh_gd tx U) (hE : sh_gd tx E) : sh_gd tx (sh_U tx U E) := by
  intro un pl env h
  have h1 := sh_skip_ge tx pl
  have h2 := sh_skip_le h
  have hin : ∀ k : Int32, k ≠ 0 → sh_at tx (sh_skip tx pl) = k → sh_skip tx pl + 1 ≤ tx.length := fun k hk e => sh_at_in (by rw [e]; exact hk)
  have go : ∀ F : sh_F, sh_gd tx F → sh_skip tx pl + 1 ≤ tx.length → env.length ≤ (F un (sh_skip tx pl + 1) env).2.length ∧ ∀ z, (F un (sh_skip tx pl + 1) env).1 = some z → pl < z.2 ∧ z.2 ≤ tx.length := fun F hF hl =>
    ⟨(hF un _ env hl).1, fun z hz => by have := (hF un _ env hl).2 z hz; omega⟩
  unfold sh_U
  split
  · rename_i e; exact go U hU (hin 43 (by decide) e)
  split
  · rename_i e; exact sh_gd_map (go U hU (hin 45 (by decide) e))
  split
  · rename_i e; exact sh_gd_map (go U hU (hin 33 (by decide) e))
  split
  · rename_i e; exact sh_gd_map (go U hU (hin 126 (by decide) e))
  split
  · rename_i e; exact sh_gd_exp (by decide) (go E hE (hin 40 (by decide) e))
  · have := sh_gd_W un (sh_skip tx pl) env h2
    exact ⟨this.1, fun z hz => by have := this.2 z hz; omega⟩
theorem sh_gd_bl {tx : List Int32} (hB : sh_B tx) {U : sh_F} (hU : sh_gd tx U) (un : Nat) : ∀ (f : Nat) (st : List (Int32 × Int64)) (v : Int64) (pl : Nat) (env : sh_Env), pl ≤ tx.length → env.length ≤ (sh_bl tx U un f st v pl env).2.length ∧ ∀ z, (sh_bl tx U un f st v pl env).1 = some z → pl ≤ z.2 ∧ z.2 ≤ tx.length := by
  intro f
  induction f with
  | zero =>
    intro st v pl env h
    refine ⟨Nat.le_refl _, fun z hz => ?_⟩
    obtain ⟨q, -, rfl⟩ := Option.map_eq_some_iff.mp hz
    have := sh_sign2_ok hB h
    exact ⟨this.1, this.2.1⟩
  | succ f ih =>
    intro st v pl env h
    have hs := sh_sign2_ok hB h
    unfold sh_bl
    split
    · refine ⟨Nat.le_refl _, fun z hz => ?_⟩
      obtain ⟨q, -, rfl⟩ := Option.map_eq_some_iff.mp hz
      exact ⟨hs.1, hs.2.1⟩
    · split
      · exact ⟨Nat.le_refl _, fun z hz => by cases hz⟩
      · rename_i q _
        have hu := hU (un + sh_cnt (((sh_sign2 tx pl).1, q.1) :: q.2)) (sh_sign2 tx pl).2 env hs.2.1
        split
        · rename_i e2 he
          rw [he] at hu
          exact ⟨hu.1, fun z hz => by cases hz⟩
        · rename_i z e2 he
          rw [he] at hu
          have h3 := hu.2 z rfl
          have h4 := ih (((sh_sign2 tx pl).1, q.1) :: q.2) z.1 z.2 e2 h3.2
          have h5 := hu.1
          exact ⟨Nat.le_trans h5 h4.1, fun z9 hz => by have := h4.2 z9 hz; omega⟩
theorem sh_gd_Bin {tx : List Int32} (hB : sh_B tx) {U : sh_F} (hU : sh_gd tx U) : sh_gd tx (sh_Bin tx U) := by
  intro un pl env h
  have hu := hU un pl env h
  unfold sh_Bin
  split
  · rename_i e2 he
    rw [he] at hu
    exact ⟨hu.1, fun z hz => by cases hz⟩
  · rename_i z e2 he
    rw [he] at hu
    have h3 := hu.2 z rfl
    have h4 := sh_gd_bl hB hU un 300 [] z.1 z.2 e2 h3.2
    exact ⟨Nat.le_trans hu.1 h4.1, fun z9 hz => by have := h4.2 z9 hz; omega⟩
theorem sh_gd_C {tx : List Int32} {B C E : sh_F} (hBb : sh_gd tx B) (hC : sh_gd tx C) (hE : sh_gd tx E) : sh_gd tx (sh_C tx B C E) := by
  intro un pl env h
  have hu := hBb un pl env h
  unfold sh_C
  split
  · rename_i e2 he
    rw [he] at hu
    exact ⟨hu.1, fun z hz => by cases hz⟩
  · rename_i t e1 he
    rw [he] at hu
    have h3 := hu.2 t rfl
    have h4 := sh_skip_ge tx t.2
    split
    · rename_i hc
      have h5 : sh_skip tx t.2 < tx.length := sh_at_in (by rw [hc]; decide)
      have hx := sh_gd_exp (k := 58) (by decide) (hE (un + (if t.1 = 0 then 1 else 0)) (sh_skip tx t.2 + 1) e1 h5)
      split
      · rename_i e2 he2
        rw [he2] at hx
        exact ⟨Nat.le_trans hu.1 hx.1, fun z hz => by cases hz⟩
      · rename_i a e2 he2
        rw [he2] at hx
        have h6 := hx.2 a rfl
        have hc2 := hC (un + (if t.1 = 0 then 0 else 1)) a.2 e2 h6.2
        split
        · rename_i e3 he3
          rw [he3] at hc2
          exact ⟨Nat.le_trans hu.1 (Nat.le_trans hx.1 hc2.1), fun z hz => by cases hz⟩
        · rename_i b e3 he3
          rw [he3] at hc2
          have h7 := hc2.2 b rfl
          exact ⟨Nat.le_trans hu.1 (Nat.le_trans hx.1 hc2.1), fun z hz => by cases hz; exact ⟨by show pl < b.2; omega, h7.2⟩⟩
    · have h5 := sh_skip_le (tx := tx) h3.2
      exact ⟨hu.1, fun z hz => by cases hz; exact ⟨by show pl < sh_skip tx t.2; omega, h5⟩⟩
theorem sh_put_len {env e2 : sh_Env} {nm t : List Int32} (h : sh_put env nm t = some e2) : env.length ≤ e2.length := by
  unfold sh_put at h
  split at h
  · cases h; simp
  · split at h
    · cases h
    · cases h; simp
theorem sh_asg_len (env : sh_Env) (nm : List Int32) (sg : Int32) (v : Int64) : env.length ≤ (sh_asg env nm sg v).2.length := by
  unfold sh_asg
  split
  · exact Nat.le_refl _
  · split
    · exact Nat.le_refl _
    · rename_i h; exact sh_put_len h
theorem sh_gd_E {tx : List Int32} {C E : sh_F} (hC : sh_gd tx C) (hE : sh_gd tx E) : sh_gd tx (sh_E tx C E) := by
  intro un pl env h
  have h1 := sh_skip_ge tx pl
  have h2 := sh_skip_le h
  unfold sh_E
  split
  · have h3 := sh_wend_le h2
    have h4 := sh_wend_ge tx (sh_skip tx pl)
    have h5 := sh_signA_ok h3
    have hu := hE un _ env h5.2
    split
    · rename_i e2 he
      rw [he] at hu
      exact ⟨hu.1, fun z hz => by cases hz⟩
    · rename_i z e1 he
      rw [he] at hu
      have h6 := hu.2 z rfl
      split
      · exact ⟨hu.1, fun z9 hz => by cases hz; exact ⟨by show pl < z.2; omega, h6.2⟩⟩
      · refine ⟨Nat.le_trans hu.1 (sh_asg_len _ _ _ _), fun z9 hz => ?_⟩
        obtain ⟨v, -, rfl⟩ := Option.map_eq_some_iff.mp hz
        exact ⟨by show pl < z.2; omega, h6.2⟩
  · have := hC un (sh_skip tx pl) env h2
    exact ⟨this.1, fun z hz => by have := this.2 z hz; omega⟩
theorem sh_gd_lv {tx : List Int32} (hB : sh_B tx) (k : Nat) : sh_gd tx (lU tx k) ∧ sh_gd tx (lC tx k) ∧ sh_gd tx (lE tx k) := by
  induction k with
  | zero => exact ⟨sh_gd_bad tx, sh_gd_bad tx, sh_gd_bad tx⟩
  | succ k ih =>
    have hu := sh_gd_U ih.1 ih.2.2
    have hc := sh_gd_C (sh_gd_Bin hB hu) ih.2.1 ih.2.2
    exact ⟨hu, hc, sh_gd_E hc ih.2.2⟩
