section
variable {tx : List Int32} {B C E : sh_F} {un p0 : Nat} {env e1 e2 e3 : sh_Env} {t a b : Int64 × Nat}
theorem sh_C_n0 (h : B un p0 env = (none, e1)) : sh_C tx B C E un p0 env = (none, e1) := by
  unfold sh_C; rw [h]
theorem sh_C_ret (h : B un p0 env = (some t, e1)) (hq : ¬ sh_at tx (sh_skip tx t.2) = 63) : sh_C tx B C E un p0 env = (some (t.1, sh_skip tx t.2), e1) := by
  unfold sh_C; rw [h]; dsimp only; rw [if_neg hq]
theorem sh_C_n1 (h : B un p0 env = (some t, e1)) (hq : sh_at tx (sh_skip tx t.2) = 63) (h2 : sh_exp tx 58 (E (un + (if t.1 = 0 then 1 else 0)) (sh_skip tx t.2 + 1) e1) = (none, e2)) : sh_C tx B C E un p0 env = (none, e2) := by
  unfold sh_C; rw [h]; dsimp only; rw [if_pos hq, h2]
theorem sh_C_n3 (h : B un p0 env = (some t, e1)) (hq : sh_at tx (sh_skip tx t.2) = 63) (h2 : sh_exp tx 58 (E (un + (if t.1 = 0 then 1 else 0)) (sh_skip tx t.2 + 1) e1) = (some a, e2)) (h3 : C (un + (if t.1 = 0 then 0 else 1)) a.2 e2 = (none, e3)) : sh_C tx B C E un p0 env = (none, e3) := by
  unfold sh_C; rw [h]; dsimp only; rw [if_pos hq, h2]; dsimp only; rw [h3]
theorem sh_C_ok (h : B un p0 env = (some t, e1)) (hq : sh_at tx (sh_skip tx t.2) = 63) (h2 : sh_exp tx 58 (E (un + (if t.1 = 0 then 1 else 0)) (sh_skip tx t.2 + 1) e1) = (some a, e2)) (h3 : C (un + (if t.1 = 0 then 0 else 1)) a.2 e2 = (some b, e3)) : sh_C tx B C E un p0 env = (some (if t.1 = 0 then b.1 else a.1, b.2), e3) := by
  unfold sh_C; rw [h]; dsimp only; rw [if_pos hq, h2]; dsimp only; rw [h3]
/-- r comes after r2 -/
def zLe (r2 r : sh_R) : Prop := r2.2.length ≤ r.2.length ∧ (r2.1 = none → r.1 = none)
theorem zm_seq {r2 r : sh_R} (h1 : env.length ≤ e1.length) (h : zLe r2 r) (h2 : e1.length ≤ r2.2.length) : 3 * (e1.length - env.length) + zmc e1 r2 ≤ zmc env r ∧ 323 * (e1.length - env.length) + zms e1 r2 ≤ zms env r := by
  obtain ⟨h3, h4⟩ := h
  unfold zmc zms
  have h5 : zk r2.1 ≤ zk r.1 := by
    cases h6 : r2.1 with
    | none => rw [h4 h6]; exact Nat.le_refl _
    | some z => exact Nat.zero_le _
  omega
theorem zLe_exp {kx : Int32} {r : sh_R} : zLe r (sh_exp tx kx r) := by
  obtain ⟨r1, r2⟩ := r
  unfold sh_exp zLe
  cases r1 with
  | none => exact ⟨Nat.le_refl _, fun _ => rfl⟩
  | some z => dsimp only; split <;> exact ⟨Nat.le_refl _, fun h => by cases h⟩
theorem zLe_none {r2 r : sh_R} (h : r2.1 = none) (h2 : r = (none, r2.2)) : zLe r2 r := by rw [h2]; exact ⟨Nat.le_refl _, fun _ => rfl⟩
theorem zm_C3 (h : B un p0 env = (some t, e1)) (hq : sh_at tx (sh_skip tx t.2) = 63) (h2 : sh_exp tx 58 (E (un + (if t.1 = 0 then 1 else 0)) (sh_skip tx t.2 + 1) e1) = (some a, e2)) : zLe (C (un + (if t.1 = 0 then 0 else 1)) a.2 e2) (sh_C tx B C E un p0 env) := by
  cases h3 : C (un + (if t.1 = 0 then 0 else 1)) a.2 e2 with
  | mk r1 r2 =>
    cases r1 with
    | none => exact zLe_none rfl (sh_C_n3 h hq h2 h3)
    | some b => rw [sh_C_ok h hq h2 h3]; exact ⟨Nat.le_refl _, fun h => by cases h⟩
theorem zm_C2 (hC : sh_gd tx C) (h : B un p0 env = (some t, e1)) (hq : sh_at tx (sh_skip tx t.2) = 63) (hE : e1.length ≤ (E (un + (if t.1 = 0 then 1 else 0)) (sh_skip tx t.2 + 1) e1).2.length ∧ ∀ z, (E (un + (if t.1 = 0 then 1 else 0)) (sh_skip tx t.2 + 1) e1).1 = some z → sh_skip tx t.2 + 1 < z.2 ∧ z.2 ≤ tx.length) : zLe (E (un + (if t.1 = 0 then 1 else 0)) (sh_skip tx t.2 + 1) e1) (sh_C tx B C E un p0 env) := by
  have hx := sh_gd_exp (k := 58) (by decide) hE
  have hl := zLe_exp (tx := tx) (kx := 58) (r := E (un + (if t.1 = 0 then 1 else 0)) (sh_skip tx t.2 + 1) e1)
  cases h2 : sh_exp tx 58 (E (un + (if t.1 = 0 then 1 else 0)) (sh_skip tx t.2 + 1) e1) with
  | mk r1 r2 =>
    rw [h2] at hx hl
    cases r1 with
    | none => rw [sh_C_n1 h hq h2]; exact hl
    | some a =>
      have h3 := (hC (un + (if t.1 = 0 then 0 else 1)) a.2 r2 (hx.2 a rfl).2).1
      have h4 := zm_C3 (C := C) h hq h2
      refine ⟨Nat.le_trans hl.1 (Nat.le_trans h3 h4.1), fun h9 => ?_⟩
      cases hl.2 h9
theorem zm_C1 (hC : sh_gd tx C) (hE : sh_gd tx E) (h : B un p0 env = (some t, e1)) (ht : t.2 ≤ tx.length) : e1.length ≤ (sh_C tx B C E un p0 env).2.length := by
  by_cases hq : sh_at tx (sh_skip tx t.2) = 63
  · have hp : sh_skip tx t.2 + 1 ≤ tx.length := sh_at_in (by rw [hq]; decide)
    have he := hE (un + (if t.1 = 0 then 1 else 0)) _ e1 hp
    exact Nat.le_trans he.1 (zm_C2 hC h hq he).1
  · rw [sh_C_ret h hq]; exact Nat.le_refl _
theorem zm_C0 (hB : sh_gd tx B) (hC : sh_gd tx C) (hE : sh_gd tx E) (hp : p0 ≤ tx.length) : zmc env (B un p0 env) ≤ zmc env (sh_C tx B C E un p0 env) ∧ zms env (B un p0 env) ≤ zms env (sh_C tx B C E un p0 env) := by
  have hb := hB un p0 env hp
  have hz : zLe (B un p0 env) (sh_C tx B C E un p0 env) := by
    cases h : B un p0 env with
    | mk r1 r2 =>
      rw [h] at hb
      cases r1 with
      | none => exact zLe_none rfl (sh_C_n0 h)
      | some t => exact ⟨zm_C1 hC hE h (hb.2 t rfl).2, fun h => by cases h⟩
  have := zm_seq (Nat.le_refl _) hz hb.1
  omega
theorem sh_cut_B (hB : sh_B tx) (i j : Nat) : sh_B (sh_cut tx i j) := fun c h => hB c (List.mem_of_mem_drop (List.mem_of_mem_take h))
variable {z : Int64 × Nat}
theorem sh_E_n0 (hc : sh_start (sh_at tx (sh_skip tx p0)) = true ∧ ¬ (sh_signA tx (sh_wend tx (sh_skip tx p0))).1 = 0) (h : E un (sh_signA tx (sh_wend tx (sh_skip tx p0))).2 env = (none, e1)) : sh_E tx C E un p0 env = (none, e1) := by
  unfold sh_E; rw [if_pos hc, h]
theorem sh_E_un (hc : sh_start (sh_at tx (sh_skip tx p0)) = true ∧ ¬ (sh_signA tx (sh_wend tx (sh_skip tx p0))).1 = 0) (h : E un (sh_signA tx (sh_wend tx (sh_skip tx p0))).2 env = (some z, e1)) (hu : 0 < un) : sh_E tx C E un p0 env = (some (0, z.2), e1) := by
  unfold sh_E; rw [if_pos hc, h]; dsimp only; rw [if_pos hu]
theorem sh_E_as (hc : sh_start (sh_at tx (sh_skip tx p0)) = true ∧ ¬ (sh_signA tx (sh_wend tx (sh_skip tx p0))).1 = 0) (h : E un (sh_signA tx (sh_wend tx (sh_skip tx p0))).2 env = (some z, e1)) (hu : ¬ 0 < un) : sh_E tx C E un p0 env =
    ((sh_asg e1 (sh_cut tx (sh_skip tx p0) (sh_wend tx (sh_skip tx p0))) (sh_signA tx (sh_wend tx (sh_skip tx p0))).1 z.1).1.map (fun y => (y, z.2)), (sh_asg e1 (sh_cut tx (sh_skip tx p0) (sh_wend tx (sh_skip tx p0))) (sh_signA tx (sh_wend tx (sh_skip tx p0))).1 z.1).2) := by
  unfold sh_E; rw [if_pos hc, h]; dsimp only; rw [if_neg hu]
theorem zm_E0 (hc : sh_start (sh_at tx (sh_skip tx p0)) = true ∧ ¬ (sh_signA tx (sh_wend tx (sh_skip tx p0))).1 = 0) : zmc env (E un (sh_signA tx (sh_wend tx (sh_skip tx p0))).2 env) ≤ zmc env (sh_E tx C E un p0 env) ∧ zms env (E un (sh_signA tx (sh_wend tx (sh_skip tx p0))).2 env) ≤ zms env (sh_E tx C E un p0 env) := by
  cases h : E un (sh_signA tx (sh_wend tx (sh_skip tx p0))).2 env with
  | mk r1 r2 =>
    cases r1 with
    | none => rw [sh_E_n0 hc h]; exact ⟨Nat.le_refl _, Nat.le_refl _⟩
    | some z =>
      by_cases hu : 0 < un
      · rw [sh_E_un hc h hu]; exact ⟨Nat.le_refl _, Nat.le_refl _⟩
      · rw [sh_E_as hc h hu]
        have := sh_asg_len r2 (sh_cut tx (sh_skip tx p0) (sh_wend tx (sh_skip tx p0))) (sh_signA tx (sh_wend tx (sh_skip tx p0))).1 z.1
        unfold zmc zms
        dsimp only [zk]
        omega
theorem zm_E1 (hc : sh_start (sh_at tx (sh_skip tx p0)) = true ∧ ¬ (sh_signA tx (sh_wend tx (sh_skip tx p0))).1 = 0) (h : E un (sh_signA tx (sh_wend tx (sh_skip tx p0))).2 env = (some z, e1)) (hu : ¬ 0 < un) (hl : env.length ≤ e1.length) :
    3 * (e1.length - env.length) + zmc e1 (sh_asg e1 (sh_cut tx (sh_skip tx p0) (sh_wend tx (sh_skip tx p0))) (sh_signA tx (sh_wend tx (sh_skip tx p0))).1 z.1) ≤ zmc env (sh_E tx C E un p0 env) ∧ 323 * (e1.length - env.length) + zms e1 (sh_asg e1 (sh_cut tx (sh_skip tx p0) (sh_wend tx (sh_skip tx p0))) (sh_signA tx (sh_wend tx (sh_skip tx p0))).1 z.1) ≤ zms env (sh_E tx C E un p0 env) := by
  rw [sh_E_as hc h hu]
  have := sh_asg_len e1 (sh_cut tx (sh_skip tx p0) (sh_wend tx (sh_skip tx p0))) (sh_signA tx (sh_wend tx (sh_skip tx p0))).1 z.1
  unfold zmc zms
  dsimp only
  rw [zk_map]
  omega
end
