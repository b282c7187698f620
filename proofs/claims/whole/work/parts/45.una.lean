set_option maxHeartbeats 8000000 in
set_option maxRecDepth 100000 in
/-- unary(depth) -/
theorem k_R_unary (l : Launch) (hl9 : l.stackTraces = false) (k : Nat) (ih : 0 < k → KU l k ∧ KE l k) : KU l (k + 1) := by
  intro dC dI kC kI kJ kQ a0 aR aN aS aF aK wt un rs fx sg ff q tx ns env fr hx3 hB hfx hE sz p0 d hp0 hkd hwt hun
  refine vx_ofW (cc := cR_unary) (maxL := 5) (ret := (some .long)) (by decide) rfl ?_
  intro p e s m args below meth c s₁ B hml hEx hv
  obtain ⟨rfl, ⟨hsz, hP, hK, hD0, hN⟩, hT, hU⟩ := hv
  subst hsz
  have hD := hD0.self (sz := s.heap.size)
  generalize hAe : va_A ((a0, .inr (2, [.ref aR, .ref aN, .ref aS, .ref aF, .int (nI wt), .int (nI tx.length), .int (nI p0), .int (nI un), .long rs])) :: (aR, .inl (kC, 300, .inl fx)) :: (aN, .inr (1, [.ref aK, .int (nI ns.length)])) :: (aK, .inl (kQ, 64, .inr (.inr (.inr (.inr q))))) :: (aS, .inl (kI, 150, .inl sg)) :: (aF, .inl (kJ, 150, .inr (.inl ff))) :: (fr ++ rw_p 0 kC ns)) s.heap.size = A at hD hU ⊢
  have hA : ∀ q : Nat, s.heap.size ≤ q → A q := fun q h => by rw [← hAe]; exact Or.inr h
  have hS : va_S A s.heap s.heap [] := va_S.rf
  have hx := B.exec
  have hb := B.bytes
  have hr := B.returns
  have htz : ∀ w ∈ zw, w.before _ s = true := fun w h => atoms_spec (ws := wsR_unary) B.pre w (List.mem_cons_of_mem _ h)
  have hown : s.vm.findClass "ShellSum$Reckoner" = some m.cls := findClass_of_methodNamed B.named
  have hlocks := B.notSynchronized
  have hl := lv_entry ([.ref a0, .int (nI d)]) (n := 5) (Nat.le_of_ble_eq_true rfl)
  rw [lg_entry_eq]
  generalize (lg_sl ([.ref a0, .int (nI d)]) ++ List.replicate (5 - (lg_sl ([.ref a0, .int (nI d)])).length) Slot.unset).toArray = ls at hl ⊢
  have hsl := sh_skip_le hp0
  have hsg := sh_skip_ge tx p0
  have hl : lv_has ls 5 [(0, .ref a0), (1, .int (nI d))] := hl
  refine lv_aload_n hx hb dR_unary_0 rfl (lv_at hl 0 rfl) ?_
  refine zQ_call (va_runV (As := []) (rest := []) ⟨hx, hb, hml, hown, htz⟩ (k_R_skipBlanks l dC dI kC kI kJ kQ a0 aR aN aS aF (nI wt) (nI un) rs fx tx ((aN, .inr (1, [.ref aK, .int (nI ns.length)])) :: (aK, .inl (kQ, 64, .inr (.inr (.inr (.inr q))))) :: (aS, .inl (kI, 150, .inl sg)) :: (aF, .inl (kJ, 150, .inr (.inl ff))) :: (fr ++ rw_p 0 kC ns)) hx3 hB hfx _ p0 hp0) (cwV 0 htz (zg_V zw_1_202 zw_1_204 zs_R_skipBlanks zw_1_2 zw_1_205) rfl rfl rfl (by decide +kernel) ⟨by dsimp only [headSpec]; omega, by dsimp only [headSpec]; omega⟩) (zW_V hP hK hD hN (va_recv hK hP (ci := 2) (q0 := 0) rfl rfl)) rfl rfl hl.1 rfl (lv_room (Nat.le_of_ble_eq_true rfl)) dR_unary_1 ⟨by show 0 + 0 ≤ zmc env (lU tx (k + 1) un p0 env); omega, by show 0 + 0 ≤ zms env (lU tx (k + 1) un p0 env); omega⟩) hD hS hA (fun v w H locs hp hP hD hS => ?_)
  obtain ⟨rfl, hw⟩ := hp
  rw [hw] at hP hD
  have hP : va_P (dC, dI) vwCl ((a0, .inr (2, [.ref aR, .ref aN, .ref aS, .ref aF, .int (nI wt), .int (nI tx.length), .int (nI (sh_skip tx p0)), .int (nI un), .long rs])) :: (aR, .inl (kC, 300, .inl fx)) :: (aN, .inr (1, [.ref aK, .int (nI ns.length)])) :: (aK, .inl (kQ, 64, .inr (.inr (.inr (.inr q))))) :: (aS, .inl (kI, 150, .inl sg)) :: (aF, .inl (kJ, 150, .inr (.inl ff))) :: (fr ++ rw_p 0 kC ns)) _ := hP
  have hD : va_D A ((a0, .inr (2, [.ref aR, .ref aN, .ref aS, .ref aF, .int (nI wt), .int (nI tx.length), .int (nI (sh_skip tx p0)), .int (nI un), .long rs])) :: (aR, .inl (kC, 300, .inl fx)) :: (aN, .inr (1, [.ref aK, .int (nI ns.length)])) :: (aK, .inl (kQ, 64, .inr (.inr (.inr (.inr q))))) :: (aS, .inl (kI, 150, .inl sg)) :: (aF, .inl (kJ, 150, .inr (.inl ff))) :: (fr ++ rw_p 0 kC ns)) := hD
  refine W.eq (g2 := F0 m 4 ls []) rfl ?_
  refine W.widen (k := 0) (n := 0) (by omega) (by omega) ?_
  refine lv_aload_n hx hb dR_unary_4 rfl (lv_at hl 0 rfl) ?_
  refine lv_aload_n hx hb dR_unary_5 rfl (lv_at hl 0 rfl) ?_
  refine va_get (D := (dC, dI)) (ci := 2) (v := .int (nI (sh_skip tx p0))) (C := "ShellSum$Reckoner") (T := TR) (N := 9) hx hb htz zu_R hown hK hP 0 rfl rfl 6 (by decide) (htz _ zw_1_51) (fun _ h9 => h9) rfl dR_unary_6 ?_
  refine rq_call (va_runV (As := [.int (nI (sh_skip tx p0))]) (rest := []) ⟨hx, hb, hml, hown, htz⟩ (k_R_charAt l dC dI kC kI kJ kQ a0 aR aN aS aF (nI wt) (nI un) rs fx tx ((aN, .inr (1, [.ref aK, .int (nI ns.length)])) :: (aK, .inl (kQ, 64, .inr (.inr (.inr (.inr q))))) :: (aS, .inl (kI, 150, .inl sg)) :: (aF, .inl (kJ, 150, .inr (.inl ff))) :: (fr ++ rw_p 0 kC ns)) hx3 hB hfx (nI (sh_skip tx p0)) (sh_skip tx p0) (by omega)) (cwV 1 htz (zg_V zw_1_206 zw_1_208 zs_R_charAt zw_1_2 zw_1_209) rfl rfl rfl (by decide +kernel) ⟨by dsimp only [headSpec]; omega, by dsimp only [headSpec]; omega⟩) (zR_V hP hK hN (va_recv hK hP (ci := 2) (q0 := 0) rfl rfl)) rfl rfl hl.1 rfl (lv_room (Nat.le_of_ble_eq_true rfl)) dR_unary_9 ⟨Nat.zero_le _, Nat.zero_le _⟩) ?_
  refine W.eq (g2 := F0 m 12 ls [.int (sh_at tx (sh_skip tx p0))]) rfl ?_
  refine lv_istore_n (lv' := [(2, .int (sh_at tx (sh_skip tx p0))), (0, .ref a0), (1, .int (nI d))]) hx hb dR_unary_12 rfl hl (by decide) rfl (fun ls hl => ?_)
  refine lv_iload_n hx hb dR_unary_13 rfl (lv_at hl 0 rfl) ?_
  by_cases c_1 : (sh_at tx (sh_skip tx p0)) = 33
  · skip
    refine lv_lookup (off := 89) (tgt := 103) hx hb dR_unary_14 (by decide) (by rw [c_1]; decide) (by decide) ?_
    have e_r : (lU tx (k + 1) un p0 env) = sh_map (fun v => if v = 0 then 1 else 0) (lU tx k un (sh_skip tx p0 + 1) env) := by rw [lU_s]; unfold sh_U; simp [c_1]
    have e_p : sh_skip tx p0 + 1 ≤ tx.length := sh_at_in (by rw [c_1]; decide)
    have e_gd := (sh_gd_lv hB k)
    refine lv_aload_n hx hb dR_unary_103 rfl (lv_at hl 1 rfl) ?_
    refine lv_dup hx hb dR_unary_104 rfl ?_
    refine va_get (D := (dC, dI)) (ci := 2) (v := .int (nI (sh_skip tx p0))) (C := "ShellSum$Reckoner") (T := TR) (N := 9) hx hb htz zu_R hown hK hP 0 rfl rfl 6 (by decide) (htz _ zw_1_51) (fun _ h9 => h9) rfl dR_unary_105 ?_
    refine lv_iconst (v := 1) hx hb dR_unary_108 (by decide) ?_
    refine lv_iadd hx hb dR_unary_109 ?_
    refine xw_topi (y := nI (sh_skip tx p0 + 1)) (nI_add (sh_skip tx p0) 1) ?_
    refine va_put (D := (dC, dI)) (ci := 2) (v := .int (nI (sh_skip tx p0 + 1))) (ty := .int) (C := "ShellSum$Reckoner") (T := TR) (N := 9) hx hb htz zu_R tyR tyR_ok nmR hown hK hP hD hS 0 rfl rfl 6 (by decide) (htz _ zw_1_51) (fun _ h9 => h9) rfl (by decide +kernel) rfl rfl (Nat.le_of_ble_eq_true rfl) dR_unary_110 (fun H locs hP hD hS => ?_)
    have hP : va_P (dC, dI) vwCl ((a0, .inr (2, [.ref aR, .ref aN, .ref aS, .ref aF, .int (nI wt), .int (nI tx.length), .int (nI (sh_skip tx p0 + 1)), .int (nI un), .long rs])) :: (aR, .inl (kC, 300, .inl fx)) :: (aN, .inr (1, [.ref aK, .int (nI ns.length)])) :: (aK, .inl (kQ, 64, .inr (.inr (.inr (.inr q))))) :: (aS, .inl (kI, 150, .inl sg)) :: (aF, .inl (kJ, 150, .inr (.inl ff))) :: (fr ++ rw_p 0 kC ns)) _ := hP
    have hD : va_D A ((a0, .inr (2, [.ref aR, .ref aN, .ref aS, .ref aF, .int (nI wt), .int (nI tx.length), .int (nI (sh_skip tx p0 + 1)), .int (nI un), .long rs])) :: (aR, .inl (kC, 300, .inl fx)) :: (aN, .inr (1, [.ref aK, .int (nI ns.length)])) :: (aK, .inl (kQ, 64, .inr (.inr (.inr (.inr q))))) :: (aS, .inl (kI, 150, .inl sg)) :: (aF, .inl (kJ, 150, .inr (.inl ff))) :: (fr ++ rw_p 0 kC ns)) := hD
    refine lv_aload_n hx hb dR_unary_113 rfl (lv_at hl 1 rfl) ?_
    refine lv_iload_n hx hb dR_unary_114 rfl (lv_at hl 2 rfl) ?_
    have e_dn : ¬ d < 40 → (lU tx (k + 1) un p0 env) = (none, env) := fun hd => by rw [e_r, show k = 0 by omega]; rfl
    have e_dz : 0 + zk (if d < 40 then some (d + 1) else none : Option Nat) ≤ zmc env (lU tx (k + 1) un p0 env) ∧ 0 + 6 * zk (if d < 40 then some (d + 1) else none : Option Nat) ≤ zms env (lU tx (k + 1) un p0 env) := zd_ok e_dn
    refine zX_call (vx_runS (As := [.int (nI d)]) (rest := [.ref a0]) ⟨hx, hb, hml, hown, htz⟩ (k_R_deeper l hl9 dC dI _ _ _ d (by omega)) (cwS 1 htz (zg_S zw_1_231 zw_1_232 zw_1_2 zw_1_233) rfl rfl rfl (by decide +kernel) ⟨by dsimp only [headSpec]; omega, by dsimp only [headSpec]; omega⟩) (zV_S hP hK hD hN hT hU hS hA) rfl rfl hl.1 rfl (lv_room (Nat.le_of_ble_eq_true rfl)) dR_unary_115 ⟨by show 0 + (zk (if d < 40 then some (d + 1) else none : Option Nat)) ≤ zmc env (lU tx (k + 1) un p0 env); omega, by show 0 + (6 * zk (if d < 40 then some (d + 1) else none : Option Nat)) ≤ zms env (lU tx (k + 1) un p0 env); omega⟩) hD hS hA (fun ce q9 w H locs hp hP hD hS hce hcv hcl => ?_) (fun v w H locs hp hP hD hS => ?_)
    · skip
      obtain ⟨hd, hw⟩ := hp
      rw [hw] at hP hD
      exact zX_out hEx hlocks ⟨env, _, _, _, _, _, _, _, e_dn hd, hE, rfl⟩ hP hD hS hce hcv hcl (by omega) (by omega)
    obtain ⟨hd, rfl, hw⟩ := hp
    rw [hw] at hP hD
    refine W.eq (g2 := F0 m 118 ls [.int (nI (d + 1)), .ref a0]) rfl ?_
    have e_d0 : zk (if d < 40 then some (d + 1) else none : Option Nat) = 0 := by rw [if_pos hd]; rfl
    refine W.widen (k := 0) (n := 0) (by omega) (by omega) ?_
    have e_z : zmc env (lU tx (k + 1) un p0 env) = zmc env (lU tx k un (sh_skip tx p0 + 1) env) ∧ zms env (lU tx (k + 1) un p0 env) = zms env (lU tx k un (sh_skip tx p0 + 1) env) := by rw [e_r]; exact zm_map _ _ _
    refine zX_call (vx_runV (As := [.int (nI (d + 1))]) (rest := []) ⟨hx, hb, hml, hown, htz⟩ ((ih (by omega)).1 dC dI kC kI kJ kQ a0 aR aN aS aF aK wt un rs fx sg ff q tx ns env fr hx3 hB hfx hE _ (sh_skip tx p0 + 1) (d + 1) e_p (by omega) (by omega) (by omega)) (cwV 1 htz (zg_V zw_2_117 zw_2_119 zs_R_unary zw_1_2 zw_2_120) rfl rfl rfl (by decide +kernel) ⟨by dsimp only [headSpec]; omega, by dsimp only [headSpec]; omega⟩) (zV_V hP hK hD hN hT hU hS hA (va_recv hK hP (ci := 2) (q0 := 0) rfl rfl)) rfl rfl hl.1 rfl (lv_room (Nat.le_of_ble_eq_true rfl)) dR_unary_118 ⟨by show 0 + (zmc env (lU tx k un (sh_skip tx p0 + 1) env)) ≤ zmc env (lU tx (k + 1) un p0 env); omega, by show 0 + (zms env (lU tx k un (sh_skip tx p0 + 1) env)) ≤ zms env (lU tx (k + 1) un p0 env); omega⟩) hD hS hA (fun ce q9 w H locs hp hP hD hS hce hcv hcl => ?_) (fun v w H locs hp hP hD hS => ?_)
    · skip
      obtain ⟨e2, wt9, pl9, un9, sg9, ff9, q9_, ns9, h1, hE9, hw⟩ := hp
      rw [hw] at hP hD
      exact zX_out hEx hlocks ⟨e2, _, _, _, _, _, _, _, by rw [e_r, h1]; rfl, hE9, rfl⟩ hP hD hS hce hcv hcl (by omega) (by omega)
    obtain ⟨z, e2, sg2, ff2, q2, ns2, h1, rfl, hE2, hsf2, hw⟩ := hp
    rw [hw] at hP hD
    have hP : va_P (dC, dI) vwCl ((a0, .inr (2, [.ref aR, .ref aN, .ref aS, .ref aF, .int (nI wt), .int (nI tx.length), .int (nI z.2), .int (nI un), .long rs])) :: (aR, .inl (kC, 300, .inl fx)) :: (aN, .inr (1, [.ref aK, .int (nI ns2.length)])) :: (aK, .inl (kQ, 64, .inr (.inr (.inr (.inr q2))))) :: (aS, .inl (kI, 150, .inl sg2)) :: (aF, .inl (kJ, 150, .inr (.inl ff2))) :: (fr ++ rw_p 0 kC ns2)) _ := hP
    have hD : va_D A ((a0, .inr (2, [.ref aR, .ref aN, .ref aS, .ref aF, .int (nI wt), .int (nI tx.length), .int (nI z.2), .int (nI un), .long rs])) :: (aR, .inl (kC, 300, .inl fx)) :: (aN, .inr (1, [.ref aK, .int (nI ns2.length)])) :: (aK, .inl (kQ, 64, .inr (.inr (.inr (.inr q2))))) :: (aS, .inl (kI, 150, .inl sg2)) :: (aF, .inl (kJ, 150, .inr (.inl ff2))) :: (fr ++ rw_p 0 kC ns2)) := hD
    refine W.eq (g2 := F0 m 121 ls [.long z.1]) rfl ?_
    refine lv_lconst (v := 0) hx hb dR_unary_121 (by decide) ?_
    refine W.lcmp hx hb dR_unary_122 ?_
    refine lv_if_ne (tgt := 130) hx hb dR_unary_123 (by decide) (fun c_2 => ?_) (fun c_2 => ?_)
    · skip
      rw [lg_cmp_eq] at c_2
      refine lv_lconst (v := 0) hx hb dR_unary_130 (by decide) ?_
      refine W.widen (k := zmc env (lU tx (k + 1) un p0 env)) (n := zms env (lU tx (k + 1) un p0 env)) (by omega) (by omega) ?_
      exact vx_ret (W.lret (v := 0) hx hb hr (fun t ht _ => ⟨_, _, rfl, ⟨(0, z.2), e2, sg2, ff2, q2, ns2, by rw [e_r, h1]; simp [sh_map, c_2], rfl, hE2, hsf2, rfl⟩, by rw [ht]; exact hP, hD, hS.F ht⟩) hS.2.2 dR_unary_131)
    rw [lg_cmp_eq] at c_2
    refine lv_lconst (v := 1) hx hb dR_unary_126 (by decide) ?_
    refine lv_goto (tgt := 131) hx hb dR_unary_127 (by decide) ?_
    refine W.widen (k := zmc env (lU tx (k + 1) un p0 env)) (n := zms env (lU tx (k + 1) un p0 env)) (by omega) (by omega) ?_
    exact vx_ret (W.lret (v := 1) hx hb hr (fun t ht _ => ⟨_, _, rfl, ⟨(1, z.2), e2, sg2, ff2, q2, ns2, by rw [e_r, h1]; simp [sh_map, c_2], rfl, hE2, hsf2, rfl⟩, by rw [ht]; exact hP, hD, hS.F ht⟩) hS.2.2 dR_unary_131)
  by_cases c_3 : (sh_at tx (sh_skip tx p0)) = 40
  · skip
    refine lv_lookup (off := 141) (tgt := 155) hx hb dR_unary_14 (by decide) (by rw [c_3]; decide) (by decide) ?_
    have e_r : (lU tx (k + 1) un p0 env) = sh_exp tx 41 (lE tx k un (sh_skip tx p0 + 1) env) := by rw [lU_s]; unfold sh_U; simp [c_3]
    have e_p : sh_skip tx p0 + 1 ≤ tx.length := sh_at_in (by rw [c_3]; decide)
    have e_gd := (sh_gd_lv hB k)
    refine lv_aload_n hx hb dR_unary_155 rfl (lv_at hl 1 rfl) ?_
    refine lv_dup hx hb dR_unary_156 rfl ?_
    refine va_get (D := (dC, dI)) (ci := 2) (v := .int (nI (sh_skip tx p0))) (C := "ShellSum$Reckoner") (T := TR) (N := 9) hx hb htz zu_R hown hK hP 0 rfl rfl 6 (by decide) (htz _ zw_1_51) (fun _ h9 => h9) rfl dR_unary_157 ?_
    refine lv_iconst (v := 1) hx hb dR_unary_160 (by decide) ?_
    refine lv_iadd hx hb dR_unary_161 ?_
    refine xw_topi (y := nI (sh_skip tx p0 + 1)) (nI_add (sh_skip tx p0) 1) ?_
    refine va_put (D := (dC, dI)) (ci := 2) (v := .int (nI (sh_skip tx p0 + 1))) (ty := .int) (C := "ShellSum$Reckoner") (T := TR) (N := 9) hx hb htz zu_R tyR tyR_ok nmR hown hK hP hD hS 0 rfl rfl 6 (by decide) (htz _ zw_1_51) (fun _ h9 => h9) rfl (by decide +kernel) rfl rfl (Nat.le_of_ble_eq_true rfl) dR_unary_162 (fun H locs hP hD hS => ?_)
    have hP : va_P (dC, dI) vwCl ((a0, .inr (2, [.ref aR, .ref aN, .ref aS, .ref aF, .int (nI wt), .int (nI tx.length), .int (nI (sh_skip tx p0 + 1)), .int (nI un), .long rs])) :: (aR, .inl (kC, 300, .inl fx)) :: (aN, .inr (1, [.ref aK, .int (nI ns.length)])) :: (aK, .inl (kQ, 64, .inr (.inr (.inr (.inr q))))) :: (aS, .inl (kI, 150, .inl sg)) :: (aF, .inl (kJ, 150, .inr (.inl ff))) :: (fr ++ rw_p 0 kC ns)) _ := hP
    have hD : va_D A ((a0, .inr (2, [.ref aR, .ref aN, .ref aS, .ref aF, .int (nI wt), .int (nI tx.length), .int (nI (sh_skip tx p0 + 1)), .int (nI un), .long rs])) :: (aR, .inl (kC, 300, .inl fx)) :: (aN, .inr (1, [.ref aK, .int (nI ns.length)])) :: (aK, .inl (kQ, 64, .inr (.inr (.inr (.inr q))))) :: (aS, .inl (kI, 150, .inl sg)) :: (aF, .inl (kJ, 150, .inr (.inl ff))) :: (fr ++ rw_p 0 kC ns)) := hD
    refine lv_aload_n hx hb dR_unary_165 rfl (lv_at hl 1 rfl) ?_
    refine lv_iload_n hx hb dR_unary_166 rfl (lv_at hl 2 rfl) ?_
    have e_dn : ¬ d < 40 → (lU tx (k + 1) un p0 env) = (none, env) := fun hd => by rw [e_r, show k = 0 by omega]; rfl
    have e_dz : 0 + zk (if d < 40 then some (d + 1) else none : Option Nat) ≤ zmc env (lU tx (k + 1) un p0 env) ∧ 0 + 6 * zk (if d < 40 then some (d + 1) else none : Option Nat) ≤ zms env (lU tx (k + 1) un p0 env) := zd_ok e_dn
    refine zX_call (vx_runS (As := [.int (nI d)]) (rest := [.ref a0]) ⟨hx, hb, hml, hown, htz⟩ (k_R_deeper l hl9 dC dI _ _ _ d (by omega)) (cwS 1 htz (zg_S zw_1_231 zw_1_232 zw_1_2 zw_1_233) rfl rfl rfl (by decide +kernel) ⟨by dsimp only [headSpec]; omega, by dsimp only [headSpec]; omega⟩) (zV_S hP hK hD hN hT hU hS hA) rfl rfl hl.1 rfl (lv_room (Nat.le_of_ble_eq_true rfl)) dR_unary_167 ⟨by show 0 + (zk (if d < 40 then some (d + 1) else none : Option Nat)) ≤ zmc env (lU tx (k + 1) un p0 env); omega, by show 0 + (6 * zk (if d < 40 then some (d + 1) else none : Option Nat)) ≤ zms env (lU tx (k + 1) un p0 env); omega⟩) hD hS hA (fun ce q9 w H locs hp hP hD hS hce hcv hcl => ?_) (fun v w H locs hp hP hD hS => ?_)
    · skip
      obtain ⟨hd, hw⟩ := hp
      rw [hw] at hP hD
      exact zX_out hEx hlocks ⟨env, _, _, _, _, _, _, _, e_dn hd, hE, rfl⟩ hP hD hS hce hcv hcl (by omega) (by omega)
    obtain ⟨hd, rfl, hw⟩ := hp
    rw [hw] at hP hD
    refine W.eq (g2 := F0 m 170 ls [.int (nI (d + 1)), .ref a0]) rfl ?_
    have e_d0 : zk (if d < 40 then some (d + 1) else none : Option Nat) = 0 := by rw [if_pos hd]; rfl
    refine W.widen (k := 0) (n := 0) (by omega) (by omega) ?_
    have e_z : zmc env (lE tx k un (sh_skip tx p0 + 1) env) ≤ zmc env (lU tx (k + 1) un p0 env) ∧ zms env (lE tx k un (sh_skip tx p0 + 1) env) ≤ zms env (lU tx (k + 1) un p0 env) := by rw [e_r]; exact zm_exp _ _ _ _
    refine zX_call (vx_runV (As := [.int (nI (d + 1))]) (rest := []) ⟨hx, hb, hml, hown, htz⟩ ((ih (by omega)).2 dC dI kC kI kJ kQ a0 aR aN aS aF aK wt un rs fx sg ff q tx ns env fr hx3 hB hfx hE _ (sh_skip tx p0 + 1) (d + 1) e_p (by omega) (by omega) (by omega)) (cwV 1 htz (zg_V zw_1_211 zw_1_213 zs_R_expression zw_1_2 zw_1_214) rfl rfl rfl (by decide +kernel) ⟨by dsimp only [headSpec]; omega, by dsimp only [headSpec]; omega⟩) (zV_V hP hK hD hN hT hU hS hA (va_recv hK hP (ci := 2) (q0 := 0) rfl rfl)) rfl rfl hl.1 rfl (lv_room (Nat.le_of_ble_eq_true rfl)) dR_unary_170 ⟨by show 0 + (zmc env (lE tx k un (sh_skip tx p0 + 1) env)) ≤ zmc env (lU tx (k + 1) un p0 env); omega, by show 0 + (zms env (lE tx k un (sh_skip tx p0 + 1) env)) ≤ zms env (lU tx (k + 1) un p0 env); omega⟩) hD hS hA (fun ce q9 w H locs hp hP hD hS hce hcv hcl => ?_) (fun v w H locs hp hP hD hS => ?_)
    · skip
      obtain ⟨e2, wt9, pl9, un9, sg9, ff9, q9_, ns9, h1, hE9, hw⟩ := hp
      rw [hw] at hP hD
      exact zX_out hEx hlocks ⟨e2, _, _, _, _, _, _, _, by rw [e_r, h1]; rfl, hE9, rfl⟩ hP hD hS hce hcv hcl (by omega) (by omega)
    obtain ⟨z, e2, sg2, ff2, q2, ns2, h1, rfl, hE2, hsf2, hw⟩ := hp
    rw [hw] at hP hD
    have hP : va_P (dC, dI) vwCl ((a0, .inr (2, [.ref aR, .ref aN, .ref aS, .ref aF, .int (nI wt), .int (nI tx.length), .int (nI z.2), .int (nI un), .long rs])) :: (aR, .inl (kC, 300, .inl fx)) :: (aN, .inr (1, [.ref aK, .int (nI ns2.length)])) :: (aK, .inl (kQ, 64, .inr (.inr (.inr (.inr q2))))) :: (aS, .inl (kI, 150, .inl sg2)) :: (aF, .inl (kJ, 150, .inr (.inl ff2))) :: (fr ++ rw_p 0 kC ns2)) _ := hP
    have hD : va_D A ((a0, .inr (2, [.ref aR, .ref aN, .ref aS, .ref aF, .int (nI wt), .int (nI tx.length), .int (nI z.2), .int (nI un), .long rs])) :: (aR, .inl (kC, 300, .inl fx)) :: (aN, .inr (1, [.ref aK, .int (nI ns2.length)])) :: (aK, .inl (kQ, 64, .inr (.inr (.inr (.inr q2))))) :: (aS, .inl (kI, 150, .inl sg2)) :: (aF, .inl (kJ, 150, .inr (.inl ff2))) :: (fr ++ rw_p 0 kC ns2)) := hD
    refine W.eq (g2 := F0 m 173 ls [.long z.1]) rfl ?_
    have e_zp : z.2 ≤ tx.length := ((e_gd.2.2 un _ env e_p).2 z (by rw [h1])).2
    have e_x := zm_exp1 (tx := tx) (kx := 41) (env := env) (z := z) (e2 := e2)
    rw [← h1, ← e_r] at e_x
    refine W.widen (k := zmc env (lE tx k un (sh_skip tx p0 + 1) env)) (n := zms env (lE tx k un (sh_skip tx p0 + 1) env)) (by omega) (by omega) ?_
    refine lv_lstore_n (lv' := [(3, .long z.1), (2, .int (sh_at tx (sh_skip tx p0))), (0, .ref a0), (1, .int (nI d))]) hx hb dR_unary_173 rfl hl (by decide) rfl (fun ls hl => ?_)
    refine lv_aload_n hx hb dR_unary_174 rfl (lv_at hl 2 rfl) ?_
    refine lv_bipush (v := 41) hx hb dR_unary_175 (by decide) ?_
    refine zX_call (vx_runV (As := [.int 41]) (rest := []) ⟨hx, hb, hml, hown, htz⟩ (k_R_expect l hl9 dC dI kC kI kJ kQ a0 aR aN aS aF (nI wt) (nI un) rs fx tx ((aN, .inr (1, [.ref aK, .int (nI ns2.length)])) :: (aK, .inl (kQ, 64, .inr (.inr (.inr (.inr q2))))) :: (aS, .inl (kI, 150, .inl sg2)) :: (aF, .inl (kJ, 150, .inr (.inl ff2))) :: (fr ++ rw_p 0 kC ns2)) hx3 hB hfx _ z.2 e_zp 41) (cwV 1 htz (zg_V zw_2_122 zw_2_124 zs_R_expect zw_1_2 zw_2_125) rfl rfl rfl (by decide +kernel) ⟨by dsimp only [headSpec]; omega, by dsimp only [headSpec]; omega⟩) (zV_V hP hK hD hN hT hU hS hA (va_recv hK hP (ci := 2) (q0 := 0) rfl rfl)) rfl rfl hl.1 rfl (lv_room (Nat.le_of_ble_eq_true rfl)) dR_unary_177 ⟨by show zmc env (lE tx k un (sh_skip tx p0 + 1) env) + (zk (if sh_at tx (sh_skip tx z.2) = 41 then some () else none)) ≤ zmc env (lU tx (k + 1) un p0 env); omega, by show zms env (lE tx k un (sh_skip tx p0 + 1) env) + (6 * zk (if sh_at tx (sh_skip tx z.2) = 41 then some () else none)) ≤ zms env (lU tx (k + 1) un p0 env); omega⟩) hD hS hA (fun ce q9 w H locs hp hP hD hS hce hcv hcl => ?_) (fun v w H locs hp hP hD hS => ?_)
    · skip
      obtain ⟨h2, hw⟩ := hp
      rw [hw] at hP hD
      exact zX_out hEx hlocks ⟨e2, _, _, _, _, _, _, _, by rw [e_r, h1]; exact sh_exp_no h2, hE2, rfl⟩ hP hD hS hce hcv hcl (by omega) (by omega)
    obtain ⟨h2, rfl, hw⟩ := hp
    rw [hw] at hP hD
    have hP : va_P (dC, dI) vwCl ((a0, .inr (2, [.ref aR, .ref aN, .ref aS, .ref aF, .int (nI wt), .int (nI tx.length), .int (nI (sh_skip tx z.2 + 1)), .int (nI un), .long rs])) :: (aR, .inl (kC, 300, .inl fx)) :: (aN, .inr (1, [.ref aK, .int (nI ns2.length)])) :: (aK, .inl (kQ, 64, .inr (.inr (.inr (.inr q2))))) :: (aS, .inl (kI, 150, .inl sg2)) :: (aF, .inl (kJ, 150, .inr (.inl ff2))) :: (fr ++ rw_p 0 kC ns2)) _ := hP
    have hD : va_D A ((a0, .inr (2, [.ref aR, .ref aN, .ref aS, .ref aF, .int (nI wt), .int (nI tx.length), .int (nI (sh_skip tx z.2 + 1)), .int (nI un), .long rs])) :: (aR, .inl (kC, 300, .inl fx)) :: (aN, .inr (1, [.ref aK, .int (nI ns2.length)])) :: (aK, .inl (kQ, 64, .inr (.inr (.inr (.inr q2))))) :: (aS, .inl (kI, 150, .inl sg2)) :: (aF, .inl (kJ, 150, .inr (.inl ff2))) :: (fr ++ rw_p 0 kC ns2)) := hD
    refine W.eq (g2 := F0 m 180 ls []) rfl ?_
    refine lv_lload_n hx hb dR_unary_180 rfl (lv_at hl 0 rfl) ?_
    refine W.widen (k := zmc env (lU tx (k + 1) un p0 env)) (n := zms env (lU tx (k + 1) un p0 env)) (by omega) (by omega) ?_
    exact vx_ret (W.lret (v := z.1) hx hb hr (fun t ht _ => ⟨_, _, rfl, ⟨(z.1, sh_skip tx z.2 + 1), e2, sg2, ff2, q2, ns2, by rw [e_r, h1]; exact sh_exp_yes h2, rfl, hE2, hsf2, rfl⟩, by rw [ht]; exact hP, hD, hS.F ht⟩) hS.2.2 dR_unary_181)
  by_cases c_4 : (sh_at tx (sh_skip tx p0)) = 43
  · skip
    refine lv_lookup (off := 50) (tgt := 64) hx hb dR_unary_14 (by decide) (by rw [c_4]; decide) (by decide) ?_
    have e_r : (lU tx (k + 1) un p0 env) = lU tx k un (sh_skip tx p0 + 1) env := by rw [lU_s]; unfold sh_U; simp [c_4]
    have e_p : sh_skip tx p0 + 1 ≤ tx.length := sh_at_in (by rw [c_4]; decide)
    have e_gd := (sh_gd_lv hB k)
    refine lv_aload_n hx hb dR_unary_64 rfl (lv_at hl 1 rfl) ?_
    refine lv_dup hx hb dR_unary_65 rfl ?_
    refine va_get (D := (dC, dI)) (ci := 2) (v := .int (nI (sh_skip tx p0))) (C := "ShellSum$Reckoner") (T := TR) (N := 9) hx hb htz zu_R hown hK hP 0 rfl rfl 6 (by decide) (htz _ zw_1_51) (fun _ h9 => h9) rfl dR_unary_66 ?_
    refine lv_iconst (v := 1) hx hb dR_unary_69 (by decide) ?_
    refine lv_iadd hx hb dR_unary_70 ?_
    refine xw_topi (y := nI (sh_skip tx p0 + 1)) (nI_add (sh_skip tx p0) 1) ?_
    refine va_put (D := (dC, dI)) (ci := 2) (v := .int (nI (sh_skip tx p0 + 1))) (ty := .int) (C := "ShellSum$Reckoner") (T := TR) (N := 9) hx hb htz zu_R tyR tyR_ok nmR hown hK hP hD hS 0 rfl rfl 6 (by decide) (htz _ zw_1_51) (fun _ h9 => h9) rfl (by decide +kernel) rfl rfl (Nat.le_of_ble_eq_true rfl) dR_unary_71 (fun H locs hP hD hS => ?_)
    have hP : va_P (dC, dI) vwCl ((a0, .inr (2, [.ref aR, .ref aN, .ref aS, .ref aF, .int (nI wt), .int (nI tx.length), .int (nI (sh_skip tx p0 + 1)), .int (nI un), .long rs])) :: (aR, .inl (kC, 300, .inl fx)) :: (aN, .inr (1, [.ref aK, .int (nI ns.length)])) :: (aK, .inl (kQ, 64, .inr (.inr (.inr (.inr q))))) :: (aS, .inl (kI, 150, .inl sg)) :: (aF, .inl (kJ, 150, .inr (.inl ff))) :: (fr ++ rw_p 0 kC ns)) _ := hP
    have hD : va_D A ((a0, .inr (2, [.ref aR, .ref aN, .ref aS, .ref aF, .int (nI wt), .int (nI tx.length), .int (nI (sh_skip tx p0 + 1)), .int (nI un), .long rs])) :: (aR, .inl (kC, 300, .inl fx)) :: (aN, .inr (1, [.ref aK, .int (nI ns.length)])) :: (aK, .inl (kQ, 64, .inr (.inr (.inr (.inr q))))) :: (aS, .inl (kI, 150, .inl sg)) :: (aF, .inl (kJ, 150, .inr (.inl ff))) :: (fr ++ rw_p 0 kC ns)) := hD
    refine lv_aload_n hx hb dR_unary_74 rfl (lv_at hl 1 rfl) ?_
    refine lv_iload_n hx hb dR_unary_75 rfl (lv_at hl 2 rfl) ?_
    have e_dn : ¬ d < 40 → (lU tx (k + 1) un p0 env) = (none, env) := fun hd => by rw [e_r, show k = 0 by omega]; rfl
    have e_dz : 0 + zk (if d < 40 then some (d + 1) else none : Option Nat) ≤ zmc env (lU tx (k + 1) un p0 env) ∧ 0 + 6 * zk (if d < 40 then some (d + 1) else none : Option Nat) ≤ zms env (lU tx (k + 1) un p0 env) := zd_ok e_dn
    refine zX_call (vx_runS (As := [.int (nI d)]) (rest := [.ref a0]) ⟨hx, hb, hml, hown, htz⟩ (k_R_deeper l hl9 dC dI _ _ _ d (by omega)) (cwS 1 htz (zg_S zw_1_231 zw_1_232 zw_1_2 zw_1_233) rfl rfl rfl (by decide +kernel) ⟨by dsimp only [headSpec]; omega, by dsimp only [headSpec]; omega⟩) (zV_S hP hK hD hN hT hU hS hA) rfl rfl hl.1 rfl (lv_room (Nat.le_of_ble_eq_true rfl)) dR_unary_76 ⟨by show 0 + (zk (if d < 40 then some (d + 1) else none : Option Nat)) ≤ zmc env (lU tx (k + 1) un p0 env); omega, by show 0 + (6 * zk (if d < 40 then some (d + 1) else none : Option Nat)) ≤ zms env (lU tx (k + 1) un p0 env); omega⟩) hD hS hA (fun ce q9 w H locs hp hP hD hS hce hcv hcl => ?_) (fun v w H locs hp hP hD hS => ?_)
    · skip
      obtain ⟨hd, hw⟩ := hp
      rw [hw] at hP hD
      exact zX_out hEx hlocks ⟨env, _, _, _, _, _, _, _, e_dn hd, hE, rfl⟩ hP hD hS hce hcv hcl (by omega) (by omega)
    obtain ⟨hd, rfl, hw⟩ := hp
    rw [hw] at hP hD
    refine W.eq (g2 := F0 m 79 ls [.int (nI (d + 1)), .ref a0]) rfl ?_
    have e_d0 : zk (if d < 40 then some (d + 1) else none : Option Nat) = 0 := by rw [if_pos hd]; rfl
    refine W.widen (k := 0) (n := 0) (by omega) (by omega) ?_
    have e_z : zmc env (lU tx (k + 1) un p0 env) = zmc env (lU tx k un (sh_skip tx p0 + 1) env) ∧ zms env (lU tx (k + 1) un p0 env) = zms env (lU tx k un (sh_skip tx p0 + 1) env) := by rw [e_r]; exact ⟨rfl, rfl⟩
    refine zX_call (vx_runV (As := [.int (nI (d + 1))]) (rest := []) ⟨hx, hb, hml, hown, htz⟩ ((ih (by omega)).1 dC dI kC kI kJ kQ a0 aR aN aS aF aK wt un rs fx sg ff q tx ns env fr hx3 hB hfx hE _ (sh_skip tx p0 + 1) (d + 1) e_p (by omega) (by omega) (by omega)) (cwV 1 htz (zg_V zw_2_117 zw_2_119 zs_R_unary zw_1_2 zw_2_120) rfl rfl rfl (by decide +kernel) ⟨by dsimp only [headSpec]; omega, by dsimp only [headSpec]; omega⟩) (zV_V hP hK hD hN hT hU hS hA (va_recv hK hP (ci := 2) (q0 := 0) rfl rfl)) rfl rfl hl.1 rfl (lv_room (Nat.le_of_ble_eq_true rfl)) dR_unary_79 ⟨by show 0 + (zmc env (lU tx k un (sh_skip tx p0 + 1) env)) ≤ zmc env (lU tx (k + 1) un p0 env); omega, by show 0 + (zms env (lU tx k un (sh_skip tx p0 + 1) env)) ≤ zms env (lU tx (k + 1) un p0 env); omega⟩) hD hS hA (fun ce q9 w H locs hp hP hD hS hce hcv hcl => ?_) (fun v w H locs hp hP hD hS => ?_)
    · skip
      obtain ⟨e2, wt9, pl9, un9, sg9, ff9, q9_, ns9, h1, hE9, hw⟩ := hp
      rw [hw] at hP hD
      exact zX_out hEx hlocks ⟨e2, _, _, _, _, _, _, _, by rw [e_r, h1], hE9, rfl⟩ hP hD hS hce hcv hcl (by omega) (by omega)
    obtain ⟨z, e2, sg2, ff2, q2, ns2, h1, rfl, hE2, hsf2, hw⟩ := hp
    rw [hw] at hP hD
    have hP : va_P (dC, dI) vwCl ((a0, .inr (2, [.ref aR, .ref aN, .ref aS, .ref aF, .int (nI wt), .int (nI tx.length), .int (nI z.2), .int (nI un), .long rs])) :: (aR, .inl (kC, 300, .inl fx)) :: (aN, .inr (1, [.ref aK, .int (nI ns2.length)])) :: (aK, .inl (kQ, 64, .inr (.inr (.inr (.inr q2))))) :: (aS, .inl (kI, 150, .inl sg2)) :: (aF, .inl (kJ, 150, .inr (.inl ff2))) :: (fr ++ rw_p 0 kC ns2)) _ := hP
    have hD : va_D A ((a0, .inr (2, [.ref aR, .ref aN, .ref aS, .ref aF, .int (nI wt), .int (nI tx.length), .int (nI z.2), .int (nI un), .long rs])) :: (aR, .inl (kC, 300, .inl fx)) :: (aN, .inr (1, [.ref aK, .int (nI ns2.length)])) :: (aK, .inl (kQ, 64, .inr (.inr (.inr (.inr q2))))) :: (aS, .inl (kI, 150, .inl sg2)) :: (aF, .inl (kJ, 150, .inr (.inl ff2))) :: (fr ++ rw_p 0 kC ns2)) := hD
    refine W.eq (g2 := F0 m 82 ls [.long z.1]) rfl ?_
    refine W.widen (k := zmc env (lU tx (k + 1) un p0 env)) (n := zms env (lU tx (k + 1) un p0 env)) (by omega) (by omega) ?_
    exact vx_ret (W.lret (v := z.1) hx hb hr (fun t ht _ => ⟨_, _, rfl, ⟨(z.1, z.2), e2, sg2, ff2, q2, ns2, by rw [e_r, h1], rfl, hE2, hsf2, rfl⟩, by rw [ht]; exact hP, hD, hS.F ht⟩) hS.2.2 dR_unary_82)
  by_cases c_5 : (sh_at tx (sh_skip tx p0)) = 45
  · skip
    refine lv_lookup (off := 69) (tgt := 83) hx hb dR_unary_14 (by decide) (by rw [c_5]; decide) (by decide) ?_
    have e_r : (lU tx (k + 1) un p0 env) = sh_map (fun v => -v) (lU tx k un (sh_skip tx p0 + 1) env) := by rw [lU_s]; unfold sh_U; simp [c_5]
    have e_p : sh_skip tx p0 + 1 ≤ tx.length := sh_at_in (by rw [c_5]; decide)
    have e_gd := (sh_gd_lv hB k)
    refine lv_aload_n hx hb dR_unary_83 rfl (lv_at hl 1 rfl) ?_
    refine lv_dup hx hb dR_unary_84 rfl ?_
    refine va_get (D := (dC, dI)) (ci := 2) (v := .int (nI (sh_skip tx p0))) (C := "ShellSum$Reckoner") (T := TR) (N := 9) hx hb htz zu_R hown hK hP 0 rfl rfl 6 (by decide) (htz _ zw_1_51) (fun _ h9 => h9) rfl dR_unary_85 ?_
    refine lv_iconst (v := 1) hx hb dR_unary_88 (by decide) ?_
    refine lv_iadd hx hb dR_unary_89 ?_
    refine xw_topi (y := nI (sh_skip tx p0 + 1)) (nI_add (sh_skip tx p0) 1) ?_
    refine va_put (D := (dC, dI)) (ci := 2) (v := .int (nI (sh_skip tx p0 + 1))) (ty := .int) (C := "ShellSum$Reckoner") (T := TR) (N := 9) hx hb htz zu_R tyR tyR_ok nmR hown hK hP hD hS 0 rfl rfl 6 (by decide) (htz _ zw_1_51) (fun _ h9 => h9) rfl (by decide +kernel) rfl rfl (Nat.le_of_ble_eq_true rfl) dR_unary_90 (fun H locs hP hD hS => ?_)
    have hP : va_P (dC, dI) vwCl ((a0, .inr (2, [.ref aR, .ref aN, .ref aS, .ref aF, .int (nI wt), .int (nI tx.length), .int (nI (sh_skip tx p0 + 1)), .int (nI un), .long rs])) :: (aR, .inl (kC, 300, .inl fx)) :: (aN, .inr (1, [.ref aK, .int (nI ns.length)])) :: (aK, .inl (kQ, 64, .inr (.inr (.inr (.inr q))))) :: (aS, .inl (kI, 150, .inl sg)) :: (aF, .inl (kJ, 150, .inr (.inl ff))) :: (fr ++ rw_p 0 kC ns)) _ := hP
    have hD : va_D A ((a0, .inr (2, [.ref aR, .ref aN, .ref aS, .ref aF, .int (nI wt), .int (nI tx.length), .int (nI (sh_skip tx p0 + 1)), .int (nI un), .long rs])) :: (aR, .inl (kC, 300, .inl fx)) :: (aN, .inr (1, [.ref aK, .int (nI ns.length)])) :: (aK, .inl (kQ, 64, .inr (.inr (.inr (.inr q))))) :: (aS, .inl (kI, 150, .inl sg)) :: (aF, .inl (kJ, 150, .inr (.inl ff))) :: (fr ++ rw_p 0 kC ns)) := hD
    refine lv_aload_n hx hb dR_unary_93 rfl (lv_at hl 1 rfl) ?_
    refine lv_iload_n hx hb dR_unary_94 rfl (lv_at hl 2 rfl) ?_
    have e_dn : ¬ d < 40 → (lU tx (k + 1) un p0 env) = (none, env) := fun hd => by rw [e_r, show k = 0 by omega]; rfl
    have e_dz : 0 + zk (if d < 40 then some (d + 1) else none : Option Nat) ≤ zmc env (lU tx (k + 1) un p0 env) ∧ 0 + 6 * zk (if d < 40 then some (d + 1) else none : Option Nat) ≤ zms env (lU tx (k + 1) un p0 env) := zd_ok e_dn
    refine zX_call (vx_runS (As := [.int (nI d)]) (rest := [.ref a0]) ⟨hx, hb, hml, hown, htz⟩ (k_R_deeper l hl9 dC dI _ _ _ d (by omega)) (cwS 1 htz (zg_S zw_1_231 zw_1_232 zw_1_2 zw_1_233) rfl rfl rfl (by decide +kernel) ⟨by dsimp only [headSpec]; omega, by dsimp only [headSpec]; omega⟩) (zV_S hP hK hD hN hT hU hS hA) rfl rfl hl.1 rfl (lv_room (Nat.le_of_ble_eq_true rfl)) dR_unary_95 ⟨by show 0 + (zk (if d < 40 then some (d + 1) else none : Option Nat)) ≤ zmc env (lU tx (k + 1) un p0 env); omega, by show 0 + (6 * zk (if d < 40 then some (d + 1) else none : Option Nat)) ≤ zms env (lU tx (k + 1) un p0 env); omega⟩) hD hS hA (fun ce q9 w H locs hp hP hD hS hce hcv hcl => ?_) (fun v w H locs hp hP hD hS => ?_)
    · skip
      obtain ⟨hd, hw⟩ := hp
      rw [hw] at hP hD
      exact zX_out hEx hlocks ⟨env, _, _, _, _, _, _, _, e_dn hd, hE, rfl⟩ hP hD hS hce hcv hcl (by omega) (by omega)
    obtain ⟨hd, rfl, hw⟩ := hp
    rw [hw] at hP hD
    refine W.eq (g2 := F0 m 98 ls [.int (nI (d + 1)), .ref a0]) rfl ?_
    have e_d0 : zk (if d < 40 then some (d + 1) else none : Option Nat) = 0 := by rw [if_pos hd]; rfl
    refine W.widen (k := 0) (n := 0) (by omega) (by omega) ?_
    have e_z : zmc env (lU tx (k + 1) un p0 env) = zmc env (lU tx k un (sh_skip tx p0 + 1) env) ∧ zms env (lU tx (k + 1) un p0 env) = zms env (lU tx k un (sh_skip tx p0 + 1) env) := by rw [e_r]; exact zm_map _ _ _
    refine zX_call (vx_runV (As := [.int (nI (d + 1))]) (rest := []) ⟨hx, hb, hml, hown, htz⟩ ((ih (by omega)).1 dC dI kC kI kJ kQ a0 aR aN aS aF aK wt un rs fx sg ff q tx ns env fr hx3 hB hfx hE _ (sh_skip tx p0 + 1) (d + 1) e_p (by omega) (by omega) (by omega)) (cwV 1 htz (zg_V zw_2_117 zw_2_119 zs_R_unary zw_1_2 zw_2_120) rfl rfl rfl (by decide +kernel) ⟨by dsimp only [headSpec]; omega, by dsimp only [headSpec]; omega⟩) (zV_V hP hK hD hN hT hU hS hA (va_recv hK hP (ci := 2) (q0 := 0) rfl rfl)) rfl rfl hl.1 rfl (lv_room (Nat.le_of_ble_eq_true rfl)) dR_unary_98 ⟨by show 0 + (zmc env (lU tx k un (sh_skip tx p0 + 1) env)) ≤ zmc env (lU tx (k + 1) un p0 env); omega, by show 0 + (zms env (lU tx k un (sh_skip tx p0 + 1) env)) ≤ zms env (lU tx (k + 1) un p0 env); omega⟩) hD hS hA (fun ce q9 w H locs hp hP hD hS hce hcv hcl => ?_) (fun v w H locs hp hP hD hS => ?_)
    · skip
      obtain ⟨e2, wt9, pl9, un9, sg9, ff9, q9_, ns9, h1, hE9, hw⟩ := hp
      rw [hw] at hP hD
      exact zX_out hEx hlocks ⟨e2, _, _, _, _, _, _, _, by rw [e_r, h1]; rfl, hE9, rfl⟩ hP hD hS hce hcv hcl (by omega) (by omega)
    obtain ⟨z, e2, sg2, ff2, q2, ns2, h1, rfl, hE2, hsf2, hw⟩ := hp
    rw [hw] at hP hD
    have hP : va_P (dC, dI) vwCl ((a0, .inr (2, [.ref aR, .ref aN, .ref aS, .ref aF, .int (nI wt), .int (nI tx.length), .int (nI z.2), .int (nI un), .long rs])) :: (aR, .inl (kC, 300, .inl fx)) :: (aN, .inr (1, [.ref aK, .int (nI ns2.length)])) :: (aK, .inl (kQ, 64, .inr (.inr (.inr (.inr q2))))) :: (aS, .inl (kI, 150, .inl sg2)) :: (aF, .inl (kJ, 150, .inr (.inl ff2))) :: (fr ++ rw_p 0 kC ns2)) _ := hP
    have hD : va_D A ((a0, .inr (2, [.ref aR, .ref aN, .ref aS, .ref aF, .int (nI wt), .int (nI tx.length), .int (nI z.2), .int (nI un), .long rs])) :: (aR, .inl (kC, 300, .inl fx)) :: (aN, .inr (1, [.ref aK, .int (nI ns2.length)])) :: (aK, .inl (kQ, 64, .inr (.inr (.inr (.inr q2))))) :: (aS, .inl (kI, 150, .inl sg2)) :: (aF, .inl (kJ, 150, .inr (.inl ff2))) :: (fr ++ rw_p 0 kC ns2)) := hD
    refine W.eq (g2 := F0 m 101 ls [.long z.1]) rfl ?_
    refine lv_lneg hx hb dR_unary_101 ?_
    refine W.widen (k := zmc env (lU tx (k + 1) un p0 env)) (n := zms env (lU tx (k + 1) un p0 env)) (by omega) (by omega) ?_
    exact vx_ret (W.lret (v := -z.1) hx hb hr (fun t ht _ => ⟨_, _, rfl, ⟨(-z.1, z.2), e2, sg2, ff2, q2, ns2, by rw [e_r, h1]; rfl, rfl, hE2, hsf2, rfl⟩, by rw [ht]; exact hP, hD, hS.F ht⟩) hS.2.2 dR_unary_102)
  by_cases c_6 : (sh_at tx (sh_skip tx p0)) = 126
  · skip
    refine lv_lookup (off := 118) (tgt := 132) hx hb dR_unary_14 (by decide) (by rw [c_6]; decide) (by decide) ?_
    have e_r : (lU tx (k + 1) un p0 env) = sh_map (fun v => v ^^^ (-1)) (lU tx k un (sh_skip tx p0 + 1) env) := by rw [lU_s]; unfold sh_U; simp [c_6]
    have e_p : sh_skip tx p0 + 1 ≤ tx.length := sh_at_in (by rw [c_6]; decide)
    have e_gd := (sh_gd_lv hB k)
    refine lv_aload_n hx hb dR_unary_132 rfl (lv_at hl 1 rfl) ?_
    refine lv_dup hx hb dR_unary_133 rfl ?_
    refine va_get (D := (dC, dI)) (ci := 2) (v := .int (nI (sh_skip tx p0))) (C := "ShellSum$Reckoner") (T := TR) (N := 9) hx hb htz zu_R hown hK hP 0 rfl rfl 6 (by decide) (htz _ zw_1_51) (fun _ h9 => h9) rfl dR_unary_134 ?_
    refine lv_iconst (v := 1) hx hb dR_unary_137 (by decide) ?_
    refine lv_iadd hx hb dR_unary_138 ?_
    refine xw_topi (y := nI (sh_skip tx p0 + 1)) (nI_add (sh_skip tx p0) 1) ?_
    refine va_put (D := (dC, dI)) (ci := 2) (v := .int (nI (sh_skip tx p0 + 1))) (ty := .int) (C := "ShellSum$Reckoner") (T := TR) (N := 9) hx hb htz zu_R tyR tyR_ok nmR hown hK hP hD hS 0 rfl rfl 6 (by decide) (htz _ zw_1_51) (fun _ h9 => h9) rfl (by decide +kernel) rfl rfl (Nat.le_of_ble_eq_true rfl) dR_unary_139 (fun H locs hP hD hS => ?_)
    have hP : va_P (dC, dI) vwCl ((a0, .inr (2, [.ref aR, .ref aN, .ref aS, .ref aF, .int (nI wt), .int (nI tx.length), .int (nI (sh_skip tx p0 + 1)), .int (nI un), .long rs])) :: (aR, .inl (kC, 300, .inl fx)) :: (aN, .inr (1, [.ref aK, .int (nI ns.length)])) :: (aK, .inl (kQ, 64, .inr (.inr (.inr (.inr q))))) :: (aS, .inl (kI, 150, .inl sg)) :: (aF, .inl (kJ, 150, .inr (.inl ff))) :: (fr ++ rw_p 0 kC ns)) _ := hP
    have hD : va_D A ((a0, .inr (2, [.ref aR, .ref aN, .ref aS, .ref aF, .int (nI wt), .int (nI tx.length), .int (nI (sh_skip tx p0 + 1)), .int (nI un), .long rs])) :: (aR, .inl (kC, 300, .inl fx)) :: (aN, .inr (1, [.ref aK, .int (nI ns.length)])) :: (aK, .inl (kQ, 64, .inr (.inr (.inr (.inr q))))) :: (aS, .inl (kI, 150, .inl sg)) :: (aF, .inl (kJ, 150, .inr (.inl ff))) :: (fr ++ rw_p 0 kC ns)) := hD
    refine lv_aload_n hx hb dR_unary_142 rfl (lv_at hl 1 rfl) ?_
    refine lv_iload_n hx hb dR_unary_143 rfl (lv_at hl 2 rfl) ?_
    have e_dn : ¬ d < 40 → (lU tx (k + 1) un p0 env) = (none, env) := fun hd => by rw [e_r, show k = 0 by omega]; rfl
    have e_dz : 0 + zk (if d < 40 then some (d + 1) else none : Option Nat) ≤ zmc env (lU tx (k + 1) un p0 env) ∧ 0 + 6 * zk (if d < 40 then some (d + 1) else none : Option Nat) ≤ zms env (lU tx (k + 1) un p0 env) := zd_ok e_dn
    refine zX_call (vx_runS (As := [.int (nI d)]) (rest := [.ref a0]) ⟨hx, hb, hml, hown, htz⟩ (k_R_deeper l hl9 dC dI _ _ _ d (by omega)) (cwS 1 htz (zg_S zw_1_231 zw_1_232 zw_1_2 zw_1_233) rfl rfl rfl (by decide +kernel) ⟨by dsimp only [headSpec]; omega, by dsimp only [headSpec]; omega⟩) (zV_S hP hK hD hN hT hU hS hA) rfl rfl hl.1 rfl (lv_room (Nat.le_of_ble_eq_true rfl)) dR_unary_144 ⟨by show 0 + (zk (if d < 40 then some (d + 1) else none : Option Nat)) ≤ zmc env (lU tx (k + 1) un p0 env); omega, by show 0 + (6 * zk (if d < 40 then some (d + 1) else none : Option Nat)) ≤ zms env (lU tx (k + 1) un p0 env); omega⟩) hD hS hA (fun ce q9 w H locs hp hP hD hS hce hcv hcl => ?_) (fun v w H locs hp hP hD hS => ?_)
    · skip
      obtain ⟨hd, hw⟩ := hp
      rw [hw] at hP hD
      exact zX_out hEx hlocks ⟨env, _, _, _, _, _, _, _, e_dn hd, hE, rfl⟩ hP hD hS hce hcv hcl (by omega) (by omega)
    obtain ⟨hd, rfl, hw⟩ := hp
    rw [hw] at hP hD
    refine W.eq (g2 := F0 m 147 ls [.int (nI (d + 1)), .ref a0]) rfl ?_
    have e_d0 : zk (if d < 40 then some (d + 1) else none : Option Nat) = 0 := by rw [if_pos hd]; rfl
    refine W.widen (k := 0) (n := 0) (by omega) (by omega) ?_
    have e_z : zmc env (lU tx (k + 1) un p0 env) = zmc env (lU tx k un (sh_skip tx p0 + 1) env) ∧ zms env (lU tx (k + 1) un p0 env) = zms env (lU tx k un (sh_skip tx p0 + 1) env) := by rw [e_r]; exact zm_map _ _ _
    refine zX_call (vx_runV (As := [.int (nI (d + 1))]) (rest := []) ⟨hx, hb, hml, hown, htz⟩ ((ih (by omega)).1 dC dI kC kI kJ kQ a0 aR aN aS aF aK wt un rs fx sg ff q tx ns env fr hx3 hB hfx hE _ (sh_skip tx p0 + 1) (d + 1) e_p (by omega) (by omega) (by omega)) (cwV 1 htz (zg_V zw_2_117 zw_2_119 zs_R_unary zw_1_2 zw_2_120) rfl rfl rfl (by decide +kernel) ⟨by dsimp only [headSpec]; omega, by dsimp only [headSpec]; omega⟩) (zV_V hP hK hD hN hT hU hS hA (va_recv hK hP (ci := 2) (q0 := 0) rfl rfl)) rfl rfl hl.1 rfl (lv_room (Nat.le_of_ble_eq_true rfl)) dR_unary_147 ⟨by show 0 + (zmc env (lU tx k un (sh_skip tx p0 + 1) env)) ≤ zmc env (lU tx (k + 1) un p0 env); omega, by show 0 + (zms env (lU tx k un (sh_skip tx p0 + 1) env)) ≤ zms env (lU tx (k + 1) un p0 env); omega⟩) hD hS hA (fun ce q9 w H locs hp hP hD hS hce hcv hcl => ?_) (fun v w H locs hp hP hD hS => ?_)
    · skip
      obtain ⟨e2, wt9, pl9, un9, sg9, ff9, q9_, ns9, h1, hE9, hw⟩ := hp
      rw [hw] at hP hD
      exact zX_out hEx hlocks ⟨e2, _, _, _, _, _, _, _, by rw [e_r, h1]; rfl, hE9, rfl⟩ hP hD hS hce hcv hcl (by omega) (by omega)
    obtain ⟨z, e2, sg2, ff2, q2, ns2, h1, rfl, hE2, hsf2, hw⟩ := hp
    rw [hw] at hP hD
    have hP : va_P (dC, dI) vwCl ((a0, .inr (2, [.ref aR, .ref aN, .ref aS, .ref aF, .int (nI wt), .int (nI tx.length), .int (nI z.2), .int (nI un), .long rs])) :: (aR, .inl (kC, 300, .inl fx)) :: (aN, .inr (1, [.ref aK, .int (nI ns2.length)])) :: (aK, .inl (kQ, 64, .inr (.inr (.inr (.inr q2))))) :: (aS, .inl (kI, 150, .inl sg2)) :: (aF, .inl (kJ, 150, .inr (.inl ff2))) :: (fr ++ rw_p 0 kC ns2)) _ := hP
    have hD : va_D A ((a0, .inr (2, [.ref aR, .ref aN, .ref aS, .ref aF, .int (nI wt), .int (nI tx.length), .int (nI z.2), .int (nI un), .long rs])) :: (aR, .inl (kC, 300, .inl fx)) :: (aN, .inr (1, [.ref aK, .int (nI ns2.length)])) :: (aK, .inl (kQ, 64, .inr (.inr (.inr (.inr q2))))) :: (aS, .inl (kI, 150, .inl sg2)) :: (aF, .inl (kJ, 150, .inr (.inl ff2))) :: (fr ++ rw_p 0 kC ns2)) := hD
    refine W.eq (g2 := F0 m 150 ls [.long z.1]) rfl ?_
    refine lv_ldc2 (v := (-1)) hx hb hown (htz _ zw_2_121) dR_unary_150 ?_
    refine lv_lxor hx hb dR_unary_153 ?_
    refine W.widen (k := zmc env (lU tx (k + 1) un p0 env)) (n := zms env (lU tx (k + 1) un p0 env)) (by omega) (by omega) ?_
    exact vx_ret (W.lret (v := z.1 ^^^ (-1)) hx hb hr (fun t ht _ => ⟨_, _, rfl, ⟨(z.1 ^^^ (-1), z.2), e2, sg2, ff2, q2, ns2, by rw [e_r, h1]; rfl, rfl, hE2, hsf2, rfl⟩, by rw [ht]; exact hP, hD, hS.F ht⟩) hS.2.2 dR_unary_154)
  refine lv_lookup (off := 168) (tgt := 182) hx hb dR_unary_14 (by decide) (by rw [lv_osw c_1 (k := 33) (by decide), lv_osw c_3 (k := 40) (by decide), lv_osw c_4 (k := 43) (by decide), lv_osw c_5 (k := 45) (by decide), lv_osw c_6 (k := 126) (by decide)]; rfl) (by decide) ?_
  refine lv_aload_n hx hb dR_unary_182 rfl (lv_at hl 1 rfl) ?_
  have e_r : (lU tx (k + 1) un p0 env) = sh_W tx un (sh_skip tx p0) env := by rw [lU_s]; unfold sh_U; rw [if_neg c_4, if_neg c_5, if_neg c_1, if_neg c_6, if_neg c_3]
  have e_z : zmc env (lU tx (k + 1) un p0 env) = zk (sh_W tx un (sh_skip tx p0) env).1 ∧ zms env (lU tx (k + 1) un p0 env) = 6 * zk (sh_W tx un (sh_skip tx p0) env).1 := by rw [e_r]; unfold zmc zms; rw [sh_W_env]; omega
  refine zX_call (vx_runV (As := []) (rest := []) ⟨hx, hb, hml, hown, htz⟩ (k_R_word l hl9 dC dI kC kI kJ kQ a0 aR aN aS aF aK wt un rs fx sg ff q tx ns env fr hx3 hB hfx hE _ (sh_skip tx p0) hsl (by omega)) (cwV 0 htz (zg_V zw_2_127 zw_2_129 zs_R_word zw_1_2 zw_2_130) rfl rfl rfl (by decide +kernel) ⟨by dsimp only [headSpec]; omega, by dsimp only [headSpec]; omega⟩) (zV_V hP hK hD hN hT hU hS hA (va_recv hK hP (ci := 2) (q0 := 0) rfl rfl)) rfl rfl hl.1 rfl (lv_room (Nat.le_of_ble_eq_true rfl)) dR_unary_183 ⟨by show 0 + (zk (sh_W tx un (sh_skip tx p0) env).1) ≤ zmc env (lU tx (k + 1) un p0 env); omega, by show 0 + (6 * zk (sh_W tx un (sh_skip tx p0) env).1) ≤ zms env (lU tx (k + 1) un p0 env); omega⟩) hD hS hA (fun ce q9 w H locs hp hP hD hS hce hcv hcl => ?_) (fun v w H locs hp hP hD hS => ?_)
  · skip
    obtain ⟨h1, hw⟩ := hp
    rw [hw] at hP hD
    exact zX_out hEx hlocks ⟨env, _, _, _, _, _, _, _, by rw [e_r]; exact Prod.ext h1 (sh_W_env _ _ _ _), hE, rfl⟩ hP hD hS hce hcv hcl (by omega) (by omega)
  obtain ⟨z, h1, rfl, hw⟩ := hp
  rw [hw] at hP hD
  have hP : va_P (dC, dI) vwCl ((a0, .inr (2, [.ref aR, .ref aN, .ref aS, .ref aF, .int (nI wt), .int (nI tx.length), .int (nI z.2), .int (nI un), .long rs])) :: (aR, .inl (kC, 300, .inl fx)) :: (aN, .inr (1, [.ref aK, .int (nI ns.length)])) :: (aK, .inl (kQ, 64, .inr (.inr (.inr (.inr q))))) :: (aS, .inl (kI, 150, .inl sg)) :: (aF, .inl (kJ, 150, .inr (.inl ff))) :: (fr ++ rw_p 0 kC ns)) _ := hP
  have hD : va_D A ((a0, .inr (2, [.ref aR, .ref aN, .ref aS, .ref aF, .int (nI wt), .int (nI tx.length), .int (nI z.2), .int (nI un), .long rs])) :: (aR, .inl (kC, 300, .inl fx)) :: (aN, .inr (1, [.ref aK, .int (nI ns.length)])) :: (aK, .inl (kQ, 64, .inr (.inr (.inr (.inr q))))) :: (aS, .inl (kI, 150, .inl sg)) :: (aF, .inl (kJ, 150, .inr (.inl ff))) :: (fr ++ rw_p 0 kC ns)) := hD
  refine W.eq (g2 := F0 m 186 ls [.long z.1]) rfl ?_
  refine W.widen (k := zmc env (lU tx (k + 1) un p0 env)) (n := zms env (lU tx (k + 1) un p0 env)) (by omega) (by omega) ?_
  exact vx_ret (W.lret (v := z.1) hx hb hr (fun t ht _ => ⟨_, _, rfl, ⟨z, env, sg, ff, q, ns, by rw [e_r]; exact Prod.ext h1 (sh_W_env _ _ _ _), rfl, hE, fun j h => ⟨rfl, rfl⟩, rfl⟩, by rw [ht]; exact hP, hD, hS.F ht⟩) hS.2.2 dR_unary_186)
