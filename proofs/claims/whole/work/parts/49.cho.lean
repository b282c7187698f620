set_option maxHeartbeats 8000000 in
set_option maxRecDepth 100000 in
/-- choice(depth) -/
theorem k_R_choice (l : Launch) (hl9 : l.stackTraces = false) (k : Nat) (hKB : KB l (k + 1)) (ih : 0 < k → KC l k ∧ KE l k) : KC l (k + 1) := by
  intro dC dI kC kI kJ kQ a0 aR aN aS aF aK wt un rs fx sg ff q tx ns env fr hx3 hB hfx hE sz p0 d hp0 hkd hwt hun
  refine vx_ofW (cc := cR_choice) (maxL := 11) (ret := (some .long)) (by decide) rfl ?_
  intro p e s m args below meth c s₁ B hml hEx hv
  obtain ⟨rfl, ⟨hsz, hP, hK, hD0, hN⟩, hT, hU⟩ := hv
  subst hsz
  have hD := hD0.self (sz := s.heap.size)
  generalize hAe : va_A ((a0, .inr (2, [.ref aR, .ref aN, .ref aS, .ref aF, .int (nI wt), .int (nI tx.length), .int (nI p0), .int (nI un), .long rs])) :: (aR, .inl (kC, 300, .inl fx)) :: (aN, .inr (1, [.ref aK, .int (nI ns.length)])) :: (aK, .inl (kQ, 64, .inr (.inr (.inr (.inr q))))) :: (aS, .inl (kI, 150, .inl sg)) :: (aF, .inl (kJ, 150, .inr (.inl ff))) :: (fr ++ rw_p 0 kC ns)) s.heap.size = A at hD hU ⊢
  have hA : ∀ q : Nat, s.heap.size ≤ q → A q := fun q h => by rw [← hAe]; exact Or.inr h
  have hS : va_S A s.heap s.heap [] := va_S.rf
  have hx := B.exec
  have hb := B.bytes
  have hr := B.returns
  have htz : ∀ w ∈ zw, w.before _ s = true := fun w h => atoms_spec (ws := wsR_choice) B.pre w (List.mem_cons_of_mem _ h)
  have hown : s.vm.findClass "ShellSum$Reckoner" = some m.cls := findClass_of_methodNamed B.named
  have hlocks := B.notSynchronized
  have hl := lv_entry ([.ref a0, .int (nI d)]) (n := 11) (Nat.le_of_ble_eq_true rfl)
  rw [lg_entry_eq]
  generalize (lg_sl ([.ref a0, .int (nI d)]) ++ List.replicate (11 - (lg_sl ([.ref a0, .int (nI d)])).length) Slot.unset).toArray = ls at hl ⊢
  have e_gd := sh_gd_lv hB k
  have e_gu := (sh_gd_lv hB (k + 1)).1
  have e_gB := sh_gd_Bin hB e_gu
  have e_r := congrFun (congrFun (congrFun (lC_s tx k) un) p0) env
  have hl : lv_has ls 11 [(0, .ref a0), (1, .int (nI d))] := hl
  refine lv_aload_n hx hb dR_choice_0 rfl (lv_at hl 0 rfl) ?_
  refine lv_iload_n hx hb dR_choice_1 rfl (lv_at hl 1 rfl) ?_
  have e_b := e_gB un p0 env hp0
  have e_z : zmc env (sh_Bin tx (lU tx (k + 1)) un p0 env) ≤ zmc env (lC tx (k + 1) un p0 env) ∧ zms env (sh_Bin tx (lU tx (k + 1)) un p0 env) ≤ zms env (lC tx (k + 1) un p0 env) := by rw [e_r]; exact zm_C0 e_gB e_gd.2.1 e_gd.2.2 hp0
  refine zX_call (vx_runV (As := [.int (nI d)]) (rest := []) ⟨hx, hb, hml, hown, htz⟩ (hKB dC dI kC kI kJ kQ a0 aR aN aS aF aK wt un rs fx sg ff q tx ns env fr hx3 hB hfx hE _ p0 d hp0 hkd hwt hun) (cwV 1 htz (zg_V zw_2_113 zw_2_115 zs_R_binary zw_1_2 zw_2_116) rfl rfl rfl (by decide +kernel) ⟨by dsimp only [headSpec]; omega, by dsimp only [headSpec]; omega⟩) (zV_V hP hK hD hN hT hU hS hA (va_recv hK hP (ci := 2) (q0 := 0) rfl rfl)) rfl rfl hl.1 rfl (lv_room (Nat.le_of_ble_eq_true rfl)) dR_choice_2 ⟨by show 0 + (zmc env (sh_Bin tx (lU tx (k + 1)) un p0 env)) ≤ zmc env (lC tx (k + 1) un p0 env); omega, by show 0 + (zms env (sh_Bin tx (lU tx (k + 1)) un p0 env)) ≤ zms env (lC tx (k + 1) un p0 env); omega⟩) hD hS hA (fun ce q9 w H locs hp hP hD hS hce hcv hcl => ?_) (fun v w H locs hp hP hD hS => ?_)
  · skip
    obtain ⟨e1, wt9, pl9, un9, sg9, ff9, q9_, ns9, h1, hE9, hw⟩ := hp
    rw [hw] at hP hD
    exact zX_out hEx hlocks ⟨e1, _, _, _, _, _, _, _, by rw [e_r]; exact sh_C_n0 h1, hE9, rfl⟩ hP hD hS hce hcv hcl (by omega) (by omega)
  obtain ⟨tt, e1, sg1, ff1, q1, ns1, h1, rfl, hE1, hsf1, hw⟩ := hp
  rw [hw] at hP hD
  have hP : va_P (dC, dI) vwCl ((a0, .inr (2, [.ref aR, .ref aN, .ref aS, .ref aF, .int (nI wt), .int (nI tx.length), .int (nI tt.2), .int (nI un), .long rs])) :: (aR, .inl (kC, 300, .inl fx)) :: (aN, .inr (1, [.ref aK, .int (nI ns1.length)])) :: (aK, .inl (kQ, 64, .inr (.inr (.inr (.inr q1))))) :: (aS, .inl (kI, 150, .inl sg1)) :: (aF, .inl (kJ, 150, .inr (.inl ff1))) :: (fr ++ rw_p 0 kC ns1)) _ := hP
  have hD : va_D A ((a0, .inr (2, [.ref aR, .ref aN, .ref aS, .ref aF, .int (nI wt), .int (nI tx.length), .int (nI tt.2), .int (nI un), .long rs])) :: (aR, .inl (kC, 300, .inl fx)) :: (aN, .inr (1, [.ref aK, .int (nI ns1.length)])) :: (aK, .inl (kQ, 64, .inr (.inr (.inr (.inr q1))))) :: (aS, .inl (kI, 150, .inl sg1)) :: (aF, .inl (kJ, 150, .inr (.inl ff1))) :: (fr ++ rw_p 0 kC ns1)) := hD
  refine W.eq (g2 := F0 m 5 ls [.long tt.1]) rfl ?_
  have e_zb : zmc env (sh_Bin tx (lU tx (k + 1)) un p0 env) = 3 * (e1.length - env.length) ∧ zms env (sh_Bin tx (lU tx (k + 1)) un p0 env) = 323 * (e1.length - env.length) := by rw [h1]; exact ⟨rfl, rfl⟩
  rw [h1] at e_b
  have e_l1 : env.length ≤ e1.length := e_b.1
  have e_t := e_b.2 tt rfl
  refine W.widen (k := 3 * (e1.length - env.length)) (n := 323 * (e1.length - env.length)) (by omega) (by omega) ?_
  have e_sl := sh_skip_le e_t.2
  have e_sg := sh_skip_ge tx tt.2
  have e_L1 : e1.length ≤ (lC tx (k + 1) un p0 env).2.length := by rw [e_r]; exact zm_C1 e_gd.2.1 e_gd.2.2 h1 e_t.2
  have e_zz1 := zm_ge (e0 := env) e_l1 e_L1
  refine lv_lstore_n (lv' := [(2, .long tt.1), (0, .ref a0), (1, .int (nI d))]) hx hb dR_choice_5 rfl hl (by decide) rfl (fun ls hl => ?_)
  refine lv_aload_n hx hb dR_choice_6 rfl (lv_at hl 1 rfl) ?_
  refine zQ_call (va_runV (As := []) (rest := []) ⟨hx, hb, hml, hown, htz⟩ (k_R_skipBlanks l dC dI kC kI kJ kQ a0 aR aN aS aF (nI wt) (nI un) rs fx tx ((aN, .inr (1, [.ref aK, .int (nI ns1.length)])) :: (aK, .inl (kQ, 64, .inr (.inr (.inr (.inr q1))))) :: (aS, .inl (kI, 150, .inl sg1)) :: (aF, .inl (kJ, 150, .inr (.inl ff1))) :: (fr ++ rw_p 0 kC ns1)) hx3 hB hfx _ tt.2 e_t.2) (cwV 0 htz (zg_V zw_1_202 zw_1_204 zs_R_skipBlanks zw_1_2 zw_1_205) rfl rfl rfl (by decide +kernel) ⟨by dsimp only [headSpec]; omega, by dsimp only [headSpec]; omega⟩) (zW_V hP hK hD hN (va_recv hK hP (ci := 2) (q0 := 0) rfl rfl)) rfl rfl hl.1 rfl (lv_room (Nat.le_of_ble_eq_true rfl)) dR_choice_7 ⟨by show 3 * (e1.length - env.length) + 0 ≤ zmc env (lC tx (k + 1) un p0 env); omega, by show 323 * (e1.length - env.length) + 0 ≤ zms env (lC tx (k + 1) un p0 env); omega⟩) hD hS hA (fun v w H locs hp hP hD hS => ?_)
  obtain ⟨rfl, hw⟩ := hp
  rw [hw] at hP hD
  have hP : va_P (dC, dI) vwCl ((a0, .inr (2, [.ref aR, .ref aN, .ref aS, .ref aF, .int (nI wt), .int (nI tx.length), .int (nI (sh_skip tx tt.2)), .int (nI un), .long rs])) :: (aR, .inl (kC, 300, .inl fx)) :: (aN, .inr (1, [.ref aK, .int (nI ns1.length)])) :: (aK, .inl (kQ, 64, .inr (.inr (.inr (.inr q1))))) :: (aS, .inl (kI, 150, .inl sg1)) :: (aF, .inl (kJ, 150, .inr (.inl ff1))) :: (fr ++ rw_p 0 kC ns1)) _ := hP
  have hD : va_D A ((a0, .inr (2, [.ref aR, .ref aN, .ref aS, .ref aF, .int (nI wt), .int (nI tx.length), .int (nI (sh_skip tx tt.2)), .int (nI un), .long rs])) :: (aR, .inl (kC, 300, .inl fx)) :: (aN, .inr (1, [.ref aK, .int (nI ns1.length)])) :: (aK, .inl (kQ, 64, .inr (.inr (.inr (.inr q1))))) :: (aS, .inl (kI, 150, .inl sg1)) :: (aF, .inl (kJ, 150, .inr (.inl ff1))) :: (fr ++ rw_p 0 kC ns1)) := hD
  refine W.eq (g2 := F0 m 10 ls []) rfl ?_
  refine W.widen (k := 3 * (e1.length - env.length)) (n := 323 * (e1.length - env.length)) (by omega) (by omega) ?_
  refine lv_aload_n hx hb dR_choice_10 rfl (lv_at hl 1 rfl) ?_
  refine lv_aload_n hx hb dR_choice_11 rfl (lv_at hl 1 rfl) ?_
  refine va_get (D := (dC, dI)) (ci := 2) (v := .int (nI (sh_skip tx tt.2))) (C := "ShellSum$Reckoner") (T := TR) (N := 9) hx hb htz zu_R hown hK hP 0 rfl rfl 6 (by decide) (htz _ zw_1_51) (fun _ h9 => h9) rfl dR_choice_12 ?_
  refine rq_call (va_runV (As := [.int (nI (sh_skip tx tt.2))]) (rest := []) ⟨hx, hb, hml, hown, htz⟩ (k_R_charAt l dC dI kC kI kJ kQ a0 aR aN aS aF (nI wt) (nI un) rs fx tx ((aN, .inr (1, [.ref aK, .int (nI ns1.length)])) :: (aK, .inl (kQ, 64, .inr (.inr (.inr (.inr q1))))) :: (aS, .inl (kI, 150, .inl sg1)) :: (aF, .inl (kJ, 150, .inr (.inl ff1))) :: (fr ++ rw_p 0 kC ns1)) hx3 hB hfx (nI (sh_skip tx tt.2)) (sh_skip tx tt.2) (by omega)) (cwV 1 htz (zg_V zw_1_206 zw_1_208 zs_R_charAt zw_1_2 zw_1_209) rfl rfl rfl (by decide +kernel) ⟨by dsimp only [headSpec]; omega, by dsimp only [headSpec]; omega⟩) (zR_V hP hK hN (va_recv hK hP (ci := 2) (q0 := 0) rfl rfl)) rfl rfl hl.1 rfl (lv_room (Nat.le_of_ble_eq_true rfl)) dR_choice_15 ⟨by show 3 * (e1.length - env.length) + 0 ≤ zmc env (lC tx (k + 1) un p0 env); omega, by show 323 * (e1.length - env.length) + 0 ≤ zms env (lC tx (k + 1) un p0 env); omega⟩) ?_
  refine W.eq (g2 := F0 m 18 ls [.int (sh_at tx (sh_skip tx tt.2))]) rfl ?_
  refine lv_bipush (v := 63) hx hb dR_choice_18 (by decide) ?_
  refine lv_icmp_eq (tgt := 25) hx hb dR_choice_20 (by decide) (fun c_1 => ?_) (fun c_1 => ?_)
  · skip
    have e_q : sh_at tx (sh_skip tx tt.2) = 63 := c_1
    have e_p : sh_skip tx tt.2 + 1 ≤ tx.length := sh_at_in (by rw [e_q]; decide)
    refine lv_aload_n hx hb dR_choice_25 rfl (lv_at hl 1 rfl) ?_
    refine lv_dup hx hb dR_choice_26 rfl ?_
    refine va_get (D := (dC, dI)) (ci := 2) (v := .int (nI (sh_skip tx tt.2))) (C := "ShellSum$Reckoner") (T := TR) (N := 9) hx hb htz zu_R hown hK hP 0 rfl rfl 6 (by decide) (htz _ zw_1_51) (fun _ h9 => h9) rfl dR_choice_27 ?_
    refine lv_iconst (v := 1) hx hb dR_choice_30 (by decide) ?_
    refine lv_iadd hx hb dR_choice_31 ?_
    refine xw_topi (y := nI (sh_skip tx tt.2 + 1)) (nI_add (sh_skip tx tt.2) 1) ?_
    refine va_put (D := (dC, dI)) (ci := 2) (v := .int (nI (sh_skip tx tt.2 + 1))) (ty := .int) (C := "ShellSum$Reckoner") (T := TR) (N := 9) hx hb htz zu_R tyR tyR_ok nmR hown hK hP hD hS 0 rfl rfl 6 (by decide) (htz _ zw_1_51) (fun _ h9 => h9) rfl (by decide +kernel) rfl rfl (Nat.le_of_ble_eq_true rfl) dR_choice_32 (fun H locs hP hD hS => ?_)
    have hP : va_P (dC, dI) vwCl ((a0, .inr (2, [.ref aR, .ref aN, .ref aS, .ref aF, .int (nI wt), .int (nI tx.length), .int (nI (sh_skip tx tt.2 + 1)), .int (nI un), .long rs])) :: (aR, .inl (kC, 300, .inl fx)) :: (aN, .inr (1, [.ref aK, .int (nI ns1.length)])) :: (aK, .inl (kQ, 64, .inr (.inr (.inr (.inr q1))))) :: (aS, .inl (kI, 150, .inl sg1)) :: (aF, .inl (kJ, 150, .inr (.inl ff1))) :: (fr ++ rw_p 0 kC ns1)) _ := hP
    have hD : va_D A ((a0, .inr (2, [.ref aR, .ref aN, .ref aS, .ref aF, .int (nI wt), .int (nI tx.length), .int (nI (sh_skip tx tt.2 + 1)), .int (nI un), .long rs])) :: (aR, .inl (kC, 300, .inl fx)) :: (aN, .inr (1, [.ref aK, .int (nI ns1.length)])) :: (aK, .inl (kQ, 64, .inr (.inr (.inr (.inr q1))))) :: (aS, .inl (kI, 150, .inl sg1)) :: (aF, .inl (kJ, 150, .inr (.inl ff1))) :: (fr ++ rw_p 0 kC ns1)) := hD
    refine lv_iload_n hx hb dR_choice_35 rfl (lv_at hl 2 rfl) ?_
    have e_dn : ¬ d < 40 → (lC tx (k + 1) un p0 env) = (none, e1) := fun hd => by rw [e_r]; exact sh_C_n1 h1 e_q (by rw [show k = 0 by omega]; rfl)
    have e_dz : 3 * (e1.length - env.length) + zk (if d < 40 then some (d + 1) else none : Option Nat) ≤ zmc env (lC tx (k + 1) un p0 env) ∧ 323 * (e1.length - env.length) + 6 * zk (if d < 40 then some (d + 1) else none : Option Nat) ≤ zms env (lC tx (k + 1) un p0 env) := zd_ok2 e_dn e_zz1
    refine zX_call (vx_runS (As := [.int (nI d)]) (rest := []) ⟨hx, hb, hml, hown, htz⟩ (k_R_deeper l hl9 dC dI _ _ _ d (by omega)) (cwS 1 htz (zg_S zw_1_231 zw_1_232 zw_1_2 zw_1_233) rfl rfl rfl (by decide +kernel) ⟨by dsimp only [headSpec]; omega, by dsimp only [headSpec]; omega⟩) (zV_S hP hK hD hN hT hU hS hA) rfl rfl hl.1 rfl (lv_room (Nat.le_of_ble_eq_true rfl)) dR_choice_36 ⟨by show 3 * (e1.length - env.length) + (zk (if d < 40 then some (d + 1) else none : Option Nat)) ≤ zmc env (lC tx (k + 1) un p0 env); omega, by show 323 * (e1.length - env.length) + (6 * zk (if d < 40 then some (d + 1) else none : Option Nat)) ≤ zms env (lC tx (k + 1) un p0 env); omega⟩) hD hS hA (fun ce q9 w H locs hp hP hD hS hce hcv hcl => ?_) (fun v w H locs hp hP hD hS => ?_)
    · skip
      obtain ⟨hd, hw⟩ := hp
      rw [hw] at hP hD
      exact zX_out hEx hlocks ⟨e1, _, _, _, _, _, _, _, e_dn hd, hE1, rfl⟩ hP hD hS hce hcv hcl (by omega) (by omega)
    obtain ⟨hd, rfl, hw⟩ := hp
    rw [hw] at hP hD
    refine W.eq (g2 := F0 m 39 ls [.int (nI (d + 1))]) rfl ?_
    have e_d0 : zk (if d < 40 then some (d + 1) else none : Option Nat) = 0 := by rw [if_pos hd]; rfl
    refine W.widen (k := 3 * (e1.length - env.length)) (n := 323 * (e1.length - env.length)) (by omega) (by omega) ?_
    refine lv_istore (lv' := [(4, .int (nI (d + 1))), (2, .long tt.1), (0, .ref a0), (1, .int (nI d))]) hx hb dR_choice_39 hl (by decide) rfl (fun ls hl => ?_)
    have j_52 : ∀ (fu : Nat), (fu = if tt.1 = 0 then 1 else 0) → ∀ (H : Heap) (locs : List Loc), va_P (dC, dI) vwCl ((a0, .inr (2, [.ref aR, .ref aN, .ref aS, .ref aF, .int (nI wt), .int (nI tx.length), .int (nI (sh_skip tx tt.2 + 1)), .int (nI un), .long rs])) :: (aR, .inl (kC, 300, .inl fx)) :: (aN, .inr (1, [.ref aK, .int (nI ns1.length)])) :: (aK, .inl (kQ, 64, .inr (.inr (.inr (.inr q1))))) :: (aS, .inl (kI, 150, .inl sg1)) :: (aF, .inl (kJ, 150, .inr (.inl ff1))) :: (fr ++ rw_p 0 kC ns1)) H → va_D A ((a0, .inr (2, [.ref aR, .ref aN, .ref aS, .ref aF, .int (nI wt), .int (nI tx.length), .int (nI (sh_skip tx tt.2 + 1)), .int (nI un), .long rs])) :: (aR, .inl (kC, 300, .inl fx)) :: (aN, .inr (1, [.ref aK, .int (nI ns1.length)])) :: (aK, .inl (kQ, 64, .inr (.inr (.inr (.inr q1))))) :: (aS, .inl (kI, 150, .inl sg1)) :: (aF, .inl (kJ, 150, .inr (.inl ff1))) :: (fr ++ rw_p 0 kC ns1)) → va_S A s.heap H locs → ∀ ls : Array Slot, lv_has ls 11 [(4, .int (nI (d + 1))), (2, .long tt.1), (0, .ref a0), (1, .int (nI d))] → W p l e (headSpec wsR_choice ({ frames := 4 * (k + 1) + 12, cells := zmc env (lC tx (k + 1) un p0 env), slots := zms env (lC tx (k + 1) un p0 env), locals := 120 * (k + 1) + 260 })).room s m ([.ref a0, .int (nI d)] : List Value).toArray below meth c H locs (3 * (e1.length - env.length)) (323 * (e1.length - env.length)) (vx_MQ below (zQ dC dI A (zOK kC kI kJ kQ a0 aR aN aS aF aK wt tx.length un rs fx sg ff fr (lC tx (k + 1) un p0 env))) (zX dC dI A (zER kC kI kJ kQ a0 aR aN aS aF aK tx.length rs fx fr (lC tx (k + 1) un p0 env))) ([.ref a0, .int (nI d)] : List Value).toArray s (zmc env (lC tx (k + 1) un p0 env)) (zms env (lC tx (k + 1) un p0 env)) A) (F0 m 52 ls [.int (nI fu)]) := by
      intro fu hfu H locs hP hD hS ls hl
      have e_fu : fu ≤ 1 := by rw [hfu]; split <;> decide
      have e_su : 1 - fu = if tt.1 = 0 then 0 else 1 := by rw [hfu]; split <;> rfl
      refine lv_istore (lv' := [(5, .int (nI fu)), (4, .int (nI (d + 1))), (2, .long tt.1), (0, .ref a0), (1, .int (nI d))]) hx hb dR_choice_52 hl (by decide) rfl (fun ls hl => ?_)
      refine lv_iconst (v := 1) hx hb dR_choice_54 (by decide) ?_
      refine lv_iload hx hb dR_choice_55 (lv_at hl 0 rfl) ?_
      refine lv_isub hx hb dR_choice_57 ?_
      refine xw_topi (y := nI (1 - fu)) (pk_sub (a := 1) (b := fu) e_fu) ?_
      refine lv_istore (lv' := [(6, .int (nI (1 - fu))), (5, .int (nI fu)), (4, .int (nI (d + 1))), (2, .long tt.1), (0, .ref a0), (1, .int (nI d))]) hx hb dR_choice_58 hl (by decide) rfl (fun ls hl => ?_)
      refine lv_aload_n hx hb dR_choice_60 rfl (lv_at hl 4 rfl) ?_
      refine lv_dup hx hb dR_choice_61 rfl ?_
      refine va_get (D := (dC, dI)) (ci := 2) (v := .int (nI un)) (C := "ShellSum$Reckoner") (T := TR) (N := 9) hx hb htz zu_R hown hK hP 0 rfl rfl 7 (by decide) (htz _ zw_1_52) (fun _ h9 => h9) rfl dR_choice_62 ?_
      refine lv_iload hx hb dR_choice_65 (lv_at hl 1 rfl) ?_
      refine lv_iadd hx hb dR_choice_67 ?_
      refine xw_topi (y := nI (un + fu)) (nI_add un fu) ?_
      refine va_put (D := (dC, dI)) (ci := 2) (v := .int (nI (un + fu))) (ty := .int) (C := "ShellSum$Reckoner") (T := TR) (N := 9) hx hb htz zu_R tyR tyR_ok nmR hown hK hP hD hS 0 rfl rfl 7 (by decide) (htz _ zw_1_52) (fun _ h9 => h9) rfl (by decide +kernel) rfl rfl (Nat.le_of_ble_eq_true rfl) dR_choice_68 (fun H locs hP hD hS => ?_)
      have hP : va_P (dC, dI) vwCl ((a0, .inr (2, [.ref aR, .ref aN, .ref aS, .ref aF, .int (nI wt), .int (nI tx.length), .int (nI (sh_skip tx tt.2 + 1)), .int (nI (un + fu)), .long rs])) :: (aR, .inl (kC, 300, .inl fx)) :: (aN, .inr (1, [.ref aK, .int (nI ns1.length)])) :: (aK, .inl (kQ, 64, .inr (.inr (.inr (.inr q1))))) :: (aS, .inl (kI, 150, .inl sg1)) :: (aF, .inl (kJ, 150, .inr (.inl ff1))) :: (fr ++ rw_p 0 kC ns1)) _ := hP
      have hD : va_D A ((a0, .inr (2, [.ref aR, .ref aN, .ref aS, .ref aF, .int (nI wt), .int (nI tx.length), .int (nI (sh_skip tx tt.2 + 1)), .int (nI (un + fu)), .long rs])) :: (aR, .inl (kC, 300, .inl fx)) :: (aN, .inr (1, [.ref aK, .int (nI ns1.length)])) :: (aK, .inl (kQ, 64, .inr (.inr (.inr (.inr q1))))) :: (aS, .inl (kI, 150, .inl sg1)) :: (aF, .inl (kJ, 150, .inr (.inl ff1))) :: (fr ++ rw_p 0 kC ns1)) := hD
      refine lv_aload_n hx hb dR_choice_71 rfl (lv_at hl 4 rfl) ?_
      refine lv_iload hx hb dR_choice_72 (lv_at hl 2 rfl) ?_
      have e_e := e_gd.2.2 (un + fu) (sh_skip tx tt.2 + 1) e1 e_p
      have e_z2 : 3 * (e1.length - env.length) + zmc e1 (lE tx k (un + fu) (sh_skip tx tt.2 + 1) e1) ≤ zmc env (lC tx (k + 1) un p0 env) ∧ 323 * (e1.length - env.length) + zms e1 (lE tx k (un + fu) (sh_skip tx tt.2 + 1) e1) ≤ zms env (lC tx (k + 1) un p0 env) := zm_seq e_l1 (by rw [e_r, hfu]; exact zm_C2 e_gd.2.1 h1 e_q (e_gd.2.2 _ _ _ e_p)) e_e.1
      refine zX_call (vx_runV (As := [.int (nI (d + 1))]) (rest := []) ⟨hx, hb, hml, hown, htz⟩ ((ih (by omega)).2 dC dI kC kI kJ kQ a0 aR aN aS aF aK wt (un + fu) rs fx sg1 ff1 q1 tx ns1 e1 fr hx3 hB hfx hE1 _ (sh_skip tx tt.2 + 1) (d + 1) e_p (by omega) (by omega) (by omega)) (cwV 1 htz (zg_V zw_1_211 zw_1_213 zs_R_expression zw_1_2 zw_1_214) rfl rfl rfl (by decide +kernel) ⟨by dsimp only [headSpec]; omega, by dsimp only [headSpec]; omega⟩) (zV_V hP hK hD hN hT hU hS hA (va_recv hK hP (ci := 2) (q0 := 0) rfl rfl)) rfl rfl hl.1 rfl (lv_room (Nat.le_of_ble_eq_true rfl)) dR_choice_74 ⟨by show 3 * (e1.length - env.length) + (zmc e1 (lE tx k (un + fu) (sh_skip tx tt.2 + 1) e1)) ≤ zmc env (lC tx (k + 1) un p0 env); omega, by show 323 * (e1.length - env.length) + (zms e1 (lE tx k (un + fu) (sh_skip tx tt.2 + 1) e1)) ≤ zms env (lC tx (k + 1) un p0 env); omega⟩) hD hS hA (fun ce q9 w H locs hp hP hD hS hce hcv hcl => ?_) (fun v w H locs hp hP hD hS => ?_)
      · skip
        obtain ⟨e2, wt9, pl9, un9, sg9, ff9, q9_, ns9, h2, hE9, hw⟩ := hp
        rw [hw] at hP hD
        exact zX_out hEx hlocks ⟨e2, _, _, _, _, _, _, _, by rw [e_r]; exact sh_C_n1 h1 e_q (by rw [← hfu, h2]; rfl), hE9, rfl⟩ hP hD hS hce hcv hcl (by omega) (by omega)
      obtain ⟨a, e2, sg2, ff2, q2, ns2, h2, rfl, hE2, hsf2, hw⟩ := hp
      rw [hw] at hP hD
      have hP : va_P (dC, dI) vwCl ((a0, .inr (2, [.ref aR, .ref aN, .ref aS, .ref aF, .int (nI wt), .int (nI tx.length), .int (nI a.2), .int (nI (un + fu)), .long rs])) :: (aR, .inl (kC, 300, .inl fx)) :: (aN, .inr (1, [.ref aK, .int (nI ns2.length)])) :: (aK, .inl (kQ, 64, .inr (.inr (.inr (.inr q2))))) :: (aS, .inl (kI, 150, .inl sg2)) :: (aF, .inl (kJ, 150, .inr (.inl ff2))) :: (fr ++ rw_p 0 kC ns2)) _ := hP
      have hD : va_D A ((a0, .inr (2, [.ref aR, .ref aN, .ref aS, .ref aF, .int (nI wt), .int (nI tx.length), .int (nI a.2), .int (nI (un + fu)), .long rs])) :: (aR, .inl (kC, 300, .inl fx)) :: (aN, .inr (1, [.ref aK, .int (nI ns2.length)])) :: (aK, .inl (kQ, 64, .inr (.inr (.inr (.inr q2))))) :: (aS, .inl (kI, 150, .inl sg2)) :: (aF, .inl (kJ, 150, .inr (.inl ff2))) :: (fr ++ rw_p 0 kC ns2)) := hD
      refine W.eq (g2 := F0 m 77 ls [.long a.1]) rfl ?_
      rw [h2] at e_e
      have e_a := e_e.2 a rfl
      have e_l2 : e1.length ≤ e2.length := e_e.1
      have e_ze : zmc e1 (lE tx k (un + fu) (sh_skip tx tt.2 + 1) e1) = 3 * (e2.length - e1.length) ∧ zms e1 (lE tx k (un + fu) (sh_skip tx tt.2 + 1) e1) = 323 * (e2.length - e1.length) := by rw [h2]; exact ⟨rfl, rfl⟩
      refine W.widen (k := 3 * (e2.length - env.length)) (n := 323 * (e2.length - env.length)) (by omega) (by omega) ?_
      rw [hfu] at h2
      refine lv_lstore (lv' := [(7, .long a.1), (6, .int (nI (1 - fu))), (5, .int (nI fu)), (4, .int (nI (d + 1))), (2, .long tt.1), (0, .ref a0), (1, .int (nI d))]) hx hb dR_choice_77 hl (by decide) rfl (fun ls hl => ?_)
      refine lv_aload_n hx hb dR_choice_79 rfl (lv_at hl 5 rfl) ?_
      refine lv_dup hx hb dR_choice_80 rfl ?_
      refine va_get (D := (dC, dI)) (ci := 2) (v := .int (nI (un + fu))) (C := "ShellSum$Reckoner") (T := TR) (N := 9) hx hb htz zu_R hown hK hP 0 rfl rfl 7 (by decide) (htz _ zw_1_52) (fun _ h9 => h9) rfl dR_choice_81 ?_
      refine lv_iload hx hb dR_choice_84 (lv_at hl 2 rfl) ?_
      refine lv_isub hx hb dR_choice_86 ?_
      refine xw_topi (y := nI un) (by rw [pk_sub (by omega), Nat.add_sub_cancel]) ?_
      refine va_put (D := (dC, dI)) (ci := 2) (v := .int (nI un)) (ty := .int) (C := "ShellSum$Reckoner") (T := TR) (N := 9) hx hb htz zu_R tyR tyR_ok nmR hown hK hP hD hS 0 rfl rfl 7 (by decide) (htz _ zw_1_52) (fun _ h9 => h9) rfl (by decide +kernel) rfl rfl (Nat.le_of_ble_eq_true rfl) dR_choice_87 (fun H locs hP hD hS => ?_)
      have hP : va_P (dC, dI) vwCl ((a0, .inr (2, [.ref aR, .ref aN, .ref aS, .ref aF, .int (nI wt), .int (nI tx.length), .int (nI a.2), .int (nI un), .long rs])) :: (aR, .inl (kC, 300, .inl fx)) :: (aN, .inr (1, [.ref aK, .int (nI ns2.length)])) :: (aK, .inl (kQ, 64, .inr (.inr (.inr (.inr q2))))) :: (aS, .inl (kI, 150, .inl sg2)) :: (aF, .inl (kJ, 150, .inr (.inl ff2))) :: (fr ++ rw_p 0 kC ns2)) _ := hP
      have hD : va_D A ((a0, .inr (2, [.ref aR, .ref aN, .ref aS, .ref aF, .int (nI wt), .int (nI tx.length), .int (nI a.2), .int (nI un), .long rs])) :: (aR, .inl (kC, 300, .inl fx)) :: (aN, .inr (1, [.ref aK, .int (nI ns2.length)])) :: (aK, .inl (kQ, 64, .inr (.inr (.inr (.inr q2))))) :: (aS, .inl (kI, 150, .inl sg2)) :: (aF, .inl (kJ, 150, .inr (.inl ff2))) :: (fr ++ rw_p 0 kC ns2)) := hD
      refine lv_aload_n hx hb dR_choice_90 rfl (lv_at hl 5 rfl) ?_
      refine lv_bipush (v := 58) hx hb dR_choice_91 (by decide) ?_
      have e_z3 : 3 * (e2.length - env.length) + zk (if sh_at tx (sh_skip tx a.2) = 58 then some () else none) ≤ zmc env (lC tx (k + 1) un p0 env) ∧ 323 * (e2.length - env.length) + 6 * zk (if sh_at tx (sh_skip tx a.2) = 58 then some () else none) ≤ zms env (lC tx (k + 1) un p0 env) := zm_add (by omega) (fun h => by rw [e_r]; exact sh_C_n1 h1 e_q (by rw [h2]; exact sh_exp_no (fun q => by rw [if_pos q] at h; cases h)))
      refine zX_call (vx_runV (As := [.int 58]) (rest := []) ⟨hx, hb, hml, hown, htz⟩ (k_R_expect l hl9 dC dI kC kI kJ kQ a0 aR aN aS aF (nI wt) (nI un) rs fx tx ((aN, .inr (1, [.ref aK, .int (nI ns2.length)])) :: (aK, .inl (kQ, 64, .inr (.inr (.inr (.inr q2))))) :: (aS, .inl (kI, 150, .inl sg2)) :: (aF, .inl (kJ, 150, .inr (.inl ff2))) :: (fr ++ rw_p 0 kC ns2)) hx3 hB hfx _ a.2 e_a.2 58) (cwV 1 htz (zg_V zw_2_122 zw_2_124 zs_R_expect zw_1_2 zw_2_125) rfl rfl rfl (by decide +kernel) ⟨by dsimp only [headSpec]; omega, by dsimp only [headSpec]; omega⟩) (zV_V hP hK hD hN hT hU hS hA (va_recv hK hP (ci := 2) (q0 := 0) rfl rfl)) rfl rfl hl.1 rfl (lv_room (Nat.le_of_ble_eq_true rfl)) dR_choice_93 ⟨by show 3 * (e2.length - env.length) + (zk (if sh_at tx (sh_skip tx a.2) = 58 then some () else none)) ≤ zmc env (lC tx (k + 1) un p0 env); omega, by show 323 * (e2.length - env.length) + (6 * zk (if sh_at tx (sh_skip tx a.2) = 58 then some () else none)) ≤ zms env (lC tx (k + 1) un p0 env); omega⟩) hD hS hA (fun ce q9 w H locs hp hP hD hS hce hcv hcl => ?_) (fun v w H locs hp hP hD hS => ?_)
      · skip
        obtain ⟨h3, hw⟩ := hp
        rw [hw] at hP hD
        exact zX_out hEx hlocks ⟨e2, _, _, _, _, _, _, _, by rw [e_r]; exact sh_C_n1 h1 e_q (by rw [h2]; exact sh_exp_no h3), hE2, rfl⟩ hP hD hS hce hcv hcl (by omega) (by omega)
      obtain ⟨h3, rfl, hw⟩ := hp
      rw [hw] at hP hD
      have hP : va_P (dC, dI) vwCl ((a0, .inr (2, [.ref aR, .ref aN, .ref aS, .ref aF, .int (nI wt), .int (nI tx.length), .int (nI (sh_skip tx a.2 + 1)), .int (nI un), .long rs])) :: (aR, .inl (kC, 300, .inl fx)) :: (aN, .inr (1, [.ref aK, .int (nI ns2.length)])) :: (aK, .inl (kQ, 64, .inr (.inr (.inr (.inr q2))))) :: (aS, .inl (kI, 150, .inl sg2)) :: (aF, .inl (kJ, 150, .inr (.inl ff2))) :: (fr ++ rw_p 0 kC ns2)) _ := hP
      have hD : va_D A ((a0, .inr (2, [.ref aR, .ref aN, .ref aS, .ref aF, .int (nI wt), .int (nI tx.length), .int (nI (sh_skip tx a.2 + 1)), .int (nI un), .long rs])) :: (aR, .inl (kC, 300, .inl fx)) :: (aN, .inr (1, [.ref aK, .int (nI ns2.length)])) :: (aK, .inl (kQ, 64, .inr (.inr (.inr (.inr q2))))) :: (aS, .inl (kI, 150, .inl sg2)) :: (aF, .inl (kJ, 150, .inr (.inl ff2))) :: (fr ++ rw_p 0 kC ns2)) := hD
      refine W.eq (g2 := F0 m 96 ls []) rfl ?_
      have e_x0 : zk (if sh_at tx (sh_skip tx a.2) = 58 then some () else none) = 0 := by rw [if_pos h3]; rfl
      refine W.widen (k := 3 * (e2.length - env.length)) (n := 323 * (e2.length - env.length)) (by omega) (by omega) ?_
      have e_p3 : sh_skip tx a.2 + 1 ≤ tx.length := sh_at_in (by rw [h3]; decide)
      have e_ag := sh_skip_ge tx a.2
      have h9 := sh_exp_yes (e2 := e2) h3
      rw [← h2] at h9
      refine lv_aload_n hx hb dR_choice_96 rfl (lv_at hl 5 rfl) ?_
      refine lv_dup hx hb dR_choice_97 rfl ?_
      refine va_get (D := (dC, dI)) (ci := 2) (v := .int (nI un)) (C := "ShellSum$Reckoner") (T := TR) (N := 9) hx hb htz zu_R hown hK hP 0 rfl rfl 7 (by decide) (htz _ zw_1_52) (fun _ h9 => h9) rfl dR_choice_98 ?_
      refine lv_iload hx hb dR_choice_101 (lv_at hl 1 rfl) ?_
      refine lv_iadd hx hb dR_choice_103 ?_
      refine xw_topi (y := nI (un + (1 - fu))) (nI_add un (1 - fu)) ?_
      refine va_put (D := (dC, dI)) (ci := 2) (v := .int (nI (un + (1 - fu)))) (ty := .int) (C := "ShellSum$Reckoner") (T := TR) (N := 9) hx hb htz zu_R tyR tyR_ok nmR hown hK hP hD hS 0 rfl rfl 7 (by decide) (htz _ zw_1_52) (fun _ h9 => h9) rfl (by decide +kernel) rfl rfl (Nat.le_of_ble_eq_true rfl) dR_choice_104 (fun H locs hP hD hS => ?_)
      have hP : va_P (dC, dI) vwCl ((a0, .inr (2, [.ref aR, .ref aN, .ref aS, .ref aF, .int (nI wt), .int (nI tx.length), .int (nI (sh_skip tx a.2 + 1)), .int (nI (un + (1 - fu))), .long rs])) :: (aR, .inl (kC, 300, .inl fx)) :: (aN, .inr (1, [.ref aK, .int (nI ns2.length)])) :: (aK, .inl (kQ, 64, .inr (.inr (.inr (.inr q2))))) :: (aS, .inl (kI, 150, .inl sg2)) :: (aF, .inl (kJ, 150, .inr (.inl ff2))) :: (fr ++ rw_p 0 kC ns2)) _ := hP
      have hD : va_D A ((a0, .inr (2, [.ref aR, .ref aN, .ref aS, .ref aF, .int (nI wt), .int (nI tx.length), .int (nI (sh_skip tx a.2 + 1)), .int (nI (un + (1 - fu))), .long rs])) :: (aR, .inl (kC, 300, .inl fx)) :: (aN, .inr (1, [.ref aK, .int (nI ns2.length)])) :: (aK, .inl (kQ, 64, .inr (.inr (.inr (.inr q2))))) :: (aS, .inl (kI, 150, .inl sg2)) :: (aF, .inl (kJ, 150, .inr (.inl ff2))) :: (fr ++ rw_p 0 kC ns2)) := hD
      refine lv_aload_n hx hb dR_choice_107 rfl (lv_at hl 5 rfl) ?_
      refine lv_iload hx hb dR_choice_108 (lv_at hl 3 rfl) ?_
      have e_c := e_gd.2.1 (un + (1 - fu)) (sh_skip tx a.2 + 1) e2 e_p3
      have e_z4 : 3 * (e2.length - env.length) + zmc e2 (lC tx k (un + (1 - fu)) (sh_skip tx a.2 + 1) e2) ≤ zmc env (lC tx (k + 1) un p0 env) ∧ 323 * (e2.length - env.length) + zms e2 (lC tx k (un + (1 - fu)) (sh_skip tx a.2 + 1) e2) ≤ zms env (lC tx (k + 1) un p0 env) := zm_seq (Nat.le_trans e_l1 e_l2) (by rw [e_r, e_su]; exact zm_C3 h1 e_q h9) e_c.1
      refine zX_call (vx_runV (As := [.int (nI (d + 1))]) (rest := []) ⟨hx, hb, hml, hown, htz⟩ ((ih (by omega)).1 dC dI kC kI kJ kQ a0 aR aN aS aF aK wt (un + (1 - fu)) rs fx sg2 ff2 q2 tx ns2 e2 fr hx3 hB hfx hE2 _ (sh_skip tx a.2 + 1) (d + 1) e_p3 (by omega) (by omega) (by omega)) (cwV 1 htz (zg_V zw_2_109 zw_2_111 zs_R_choice zw_1_2 zw_2_112) rfl rfl rfl (by decide +kernel) ⟨by dsimp only [headSpec]; omega, by dsimp only [headSpec]; omega⟩) (zV_V hP hK hD hN hT hU hS hA (va_recv hK hP (ci := 2) (q0 := 0) rfl rfl)) rfl rfl hl.1 rfl (lv_room (Nat.le_of_ble_eq_true rfl)) dR_choice_110 ⟨by show 3 * (e2.length - env.length) + (zmc e2 (lC tx k (un + (1 - fu)) (sh_skip tx a.2 + 1) e2)) ≤ zmc env (lC tx (k + 1) un p0 env); omega, by show 323 * (e2.length - env.length) + (zms e2 (lC tx k (un + (1 - fu)) (sh_skip tx a.2 + 1) e2)) ≤ zms env (lC tx (k + 1) un p0 env); omega⟩) hD hS hA (fun ce q9 w H locs hp hP hD hS hce hcv hcl => ?_) (fun v w H locs hp hP hD hS => ?_)
      · skip
        obtain ⟨e3, wt9, pl9, un9, sg9, ff9, q9_, ns9, h4, hE9, hw⟩ := hp
        rw [hw] at hP hD
        exact zX_out hEx hlocks ⟨e3, _, _, _, _, _, _, _, by rw [e_r]; exact sh_C_n3 h1 e_q h9 (by rw [← e_su]; exact h4), hE9, rfl⟩ hP hD hS hce hcv hcl (by omega) (by omega)
      obtain ⟨b, e3, sg3, ff3, q3, ns3, h4, rfl, hE3, hsf3, hw⟩ := hp
      rw [hw] at hP hD
      have hP : va_P (dC, dI) vwCl ((a0, .inr (2, [.ref aR, .ref aN, .ref aS, .ref aF, .int (nI wt), .int (nI tx.length), .int (nI b.2), .int (nI (un + (1 - fu))), .long rs])) :: (aR, .inl (kC, 300, .inl fx)) :: (aN, .inr (1, [.ref aK, .int (nI ns3.length)])) :: (aK, .inl (kQ, 64, .inr (.inr (.inr (.inr q3))))) :: (aS, .inl (kI, 150, .inl sg3)) :: (aF, .inl (kJ, 150, .inr (.inl ff3))) :: (fr ++ rw_p 0 kC ns3)) _ := hP
      have hD : va_D A ((a0, .inr (2, [.ref aR, .ref aN, .ref aS, .ref aF, .int (nI wt), .int (nI tx.length), .int (nI b.2), .int (nI (un + (1 - fu))), .long rs])) :: (aR, .inl (kC, 300, .inl fx)) :: (aN, .inr (1, [.ref aK, .int (nI ns3.length)])) :: (aK, .inl (kQ, 64, .inr (.inr (.inr (.inr q3))))) :: (aS, .inl (kI, 150, .inl sg3)) :: (aF, .inl (kJ, 150, .inr (.inl ff3))) :: (fr ++ rw_p 0 kC ns3)) := hD
      refine W.eq (g2 := F0 m 113 ls [.long b.1]) rfl ?_
      rw [h4] at e_c
      have e_l3 : e2.length ≤ e3.length := e_c.1
      have e_zc : zmc e2 (lC tx k (un + (1 - fu)) (sh_skip tx a.2 + 1) e2) = 3 * (e3.length - e2.length) ∧ zms e2 (lC tx k (un + (1 - fu)) (sh_skip tx a.2 + 1) e2) = 323 * (e3.length - e2.length) := by rw [h4]; exact ⟨rfl, rfl⟩
      refine W.widen (k := 3 * (e3.length - env.length)) (n := 323 * (e3.length - env.length)) (by omega) (by omega) ?_
      rw [e_su] at h4
      refine lv_lstore (lv' := [(9, .long b.1), (7, .long a.1), (6, .int (nI (1 - fu))), (5, .int (nI fu)), (4, .int (nI (d + 1))), (2, .long tt.1), (0, .ref a0), (1, .int (nI d))]) hx hb dR_choice_113 hl (by decide) rfl (fun ls hl => ?_)
      refine lv_aload_n hx hb dR_choice_115 rfl (lv_at hl 6 rfl) ?_
      refine lv_dup hx hb dR_choice_116 rfl ?_
      refine va_get (D := (dC, dI)) (ci := 2) (v := .int (nI (un + (1 - fu)))) (C := "ShellSum$Reckoner") (T := TR) (N := 9) hx hb htz zu_R hown hK hP 0 rfl rfl 7 (by decide) (htz _ zw_1_52) (fun _ h9 => h9) rfl dR_choice_117 ?_
      refine lv_iload hx hb dR_choice_120 (lv_at hl 2 rfl) ?_
      refine lv_isub hx hb dR_choice_122 ?_
      refine xw_topi (y := nI un) (by rw [pk_sub (by omega), Nat.add_sub_cancel]) ?_
      refine va_put (D := (dC, dI)) (ci := 2) (v := .int (nI un)) (ty := .int) (C := "ShellSum$Reckoner") (T := TR) (N := 9) hx hb htz zu_R tyR tyR_ok nmR hown hK hP hD hS 0 rfl rfl 7 (by decide) (htz _ zw_1_52) (fun _ h9 => h9) rfl (by decide +kernel) rfl rfl (Nat.le_of_ble_eq_true rfl) dR_choice_123 (fun H locs hP hD hS => ?_)
      have hP : va_P (dC, dI) vwCl ((a0, .inr (2, [.ref aR, .ref aN, .ref aS, .ref aF, .int (nI wt), .int (nI tx.length), .int (nI b.2), .int (nI un), .long rs])) :: (aR, .inl (kC, 300, .inl fx)) :: (aN, .inr (1, [.ref aK, .int (nI ns3.length)])) :: (aK, .inl (kQ, 64, .inr (.inr (.inr (.inr q3))))) :: (aS, .inl (kI, 150, .inl sg3)) :: (aF, .inl (kJ, 150, .inr (.inl ff3))) :: (fr ++ rw_p 0 kC ns3)) _ := hP
      have hD : va_D A ((a0, .inr (2, [.ref aR, .ref aN, .ref aS, .ref aF, .int (nI wt), .int (nI tx.length), .int (nI b.2), .int (nI un), .long rs])) :: (aR, .inl (kC, 300, .inl fx)) :: (aN, .inr (1, [.ref aK, .int (nI ns3.length)])) :: (aK, .inl (kQ, 64, .inr (.inr (.inr (.inr q3))))) :: (aS, .inl (kI, 150, .inl sg3)) :: (aF, .inl (kJ, 150, .inr (.inl ff3))) :: (fr ++ rw_p 0 kC ns3)) := hD
      refine lv_lload_n hx hb dR_choice_126 rfl (lv_at hl 5 rfl) ?_
      refine lv_lconst (v := 0) hx hb dR_choice_127 (by decide) ?_
      refine W.lcmp hx hb dR_choice_128 ?_
      refine lv_if_ne (tgt := 137) hx hb dR_choice_129 (by decide) (fun c_2 => ?_) (fun c_2 => ?_)
      · skip
        rw [lg_cmp_eq] at c_2
        refine lv_lload hx hb dR_choice_137 (lv_at hl 1 rfl) ?_
        refine W.widen (k := zmc env (lC tx (k + 1) un p0 env)) (n := zms env (lC tx (k + 1) un p0 env)) (by omega) (by omega) ?_
        exact vx_ret (W.lret (v := a.1) hx hb hr (fun t ht _ => ⟨_, _, rfl, ⟨(a.1, b.2), e3, sg3, ff3, q3, ns3, by rw [e_r, sh_C_ok h1 e_q h9 h4, if_neg c_2], rfl, hE3, fun j h => ⟨((hsf3 j h).1.trans (hsf2 j h).1).trans (hsf1 j h).1, ((hsf3 j h).2.trans (hsf2 j h).2).trans (hsf1 j h).2⟩, rfl⟩, by rw [ht]; exact hP, hD, hS.F ht⟩) hS.2.2 dR_choice_139)
      rw [lg_cmp_eq] at c_2
      refine lv_lload hx hb dR_choice_132 (lv_at hl 0 rfl) ?_
      refine lv_goto (tgt := 139) hx hb dR_choice_134 (by decide) ?_
      refine W.widen (k := zmc env (lC tx (k + 1) un p0 env)) (n := zms env (lC tx (k + 1) un p0 env)) (by omega) (by omega) ?_
      exact vx_ret (W.lret (v := b.1) hx hb hr (fun t ht _ => ⟨_, _, rfl, ⟨(b.1, b.2), e3, sg3, ff3, q3, ns3, by rw [e_r, sh_C_ok h1 e_q h9 h4, if_pos c_2], rfl, hE3, fun j h => ⟨((hsf3 j h).1.trans (hsf2 j h).1).trans (hsf1 j h).1, ((hsf3 j h).2.trans (hsf2 j h).2).trans (hsf1 j h).2⟩, rfl⟩, by rw [ht]; exact hP, hD, hS.F ht⟩) hS.2.2 dR_choice_139)
    refine lv_lload_n hx hb dR_choice_41 rfl (lv_at hl 1 rfl) ?_
    refine lv_lconst (v := 0) hx hb dR_choice_42 (by decide) ?_
    refine W.lcmp hx hb dR_choice_43 ?_
    refine lv_if_ne (tgt := 51) hx hb dR_choice_44 (by decide) (fun c_3 => ?_) (fun c_3 => ?_)
    · skip
      rw [lg_cmp_eq] at c_3
      refine lv_iconst (v := 0) hx hb dR_choice_51 (by decide) ?_
      refine xw_topi (y := nI 0) (rfl) ?_
      exact j_52 0 ((if_neg c_3).symm) _ _ hP hD hS ls (lv_sub hl [0, 1, 2, 3] rfl)
    rw [lg_cmp_eq] at c_3
    refine lv_iconst (v := 1) hx hb dR_choice_47 (by decide) ?_
    refine lv_goto (tgt := 52) hx hb dR_choice_48 (by decide) ?_
    refine xw_topi (y := nI 1) (rfl) ?_
    exact j_52 1 ((if_pos c_3).symm) _ _ hP hD hS ls (lv_sub hl [0, 1, 2, 3] rfl)
  have e_q : ¬ sh_at tx (sh_skip tx tt.2) = 63 := c_1
  refine lv_lload_n hx hb dR_choice_23 rfl (lv_at hl 0 rfl) ?_
  refine W.widen (k := zmc env (lC tx (k + 1) un p0 env)) (n := zms env (lC tx (k + 1) un p0 env)) (by omega) (by omega) ?_
  exact vx_ret (W.lret (v := tt.1) hx hb hr (fun t ht _ => ⟨_, _, rfl, ⟨(tt.1, sh_skip tx tt.2), e1, sg1, ff1, q1, ns1, by rw [e_r]; exact sh_C_ret h1 e_q, rfl, hE1, hsf1, rfl⟩, by rw [ht]; exact hP, hD, hS.F ht⟩) hS.2.2 dR_choice_24)
set_option maxHeartbeats 8000000 in
set_option maxRecDepth 100000 in
/-- expression(depth) -/
theorem k_R_expression (l : Launch) (hl9 : l.stackTraces = false) (k : Nat) (hKC : KC l (k + 1)) (ih : 0 < k → KE l k) : KE l (k + 1) := by
  intro dC dI kC kI kJ kQ a0 aR aN aS aF aK wt un rs fx sg ff q tx ns env fr hx3 hB hfx hE sz p0 d hp0 hkd hwt hun
  refine vx_ofW (cc := cR_expression) (maxL := 7) (ret := (some .long)) (by decide) rfl ?_
  intro p e s m args below meth c s₁ B hml hEx hv
  obtain ⟨rfl, ⟨hsz, hP, hK, hD0, hN⟩, hT, hU⟩ := hv
  subst hsz
  have hD := hD0.self (sz := s.heap.size)
  generalize hAe : va_A ((a0, .inr (2, [.ref aR, .ref aN, .ref aS, .ref aF, .int (nI wt), .int (nI tx.length), .int (nI p0), .int (nI un), .long rs])) :: (aR, .inl (kC, 300, .inl fx)) :: (aN, .inr (1, [.ref aK, .int (nI ns.length)])) :: (aK, .inl (kQ, 64, .inr (.inr (.inr (.inr q))))) :: (aS, .inl (kI, 150, .inl sg)) :: (aF, .inl (kJ, 150, .inr (.inl ff))) :: (fr ++ rw_p 0 kC ns)) s.heap.size = A at hD hU ⊢
  have hA : ∀ q : Nat, s.heap.size ≤ q → A q := fun q h => by rw [← hAe]; exact Or.inr h
  have hS : va_S A s.heap s.heap [] := va_S.rf
  have hx := B.exec
  have hb := B.bytes
  have hr := B.returns
  have htz : ∀ w ∈ zw, w.before _ s = true := fun w h => atoms_spec (ws := wsR_expression) B.pre w (List.mem_cons_of_mem _ h)
  have hown : s.vm.findClass "ShellSum$Reckoner" = some m.cls := findClass_of_methodNamed B.named
  have hlocks := B.notSynchronized
  have hl := lv_entry ([.ref a0, .int (nI d)]) (n := 7) (Nat.le_of_ble_eq_true rfl)
  rw [lg_entry_eq]
  generalize (lg_sl ([.ref a0, .int (nI d)]) ++ List.replicate (7 - (lg_sl ([.ref a0, .int (nI d)])).length) Slot.unset).toArray = ls at hl ⊢
  have e_gd := sh_gd_lv hB k
  have e_gc := (sh_gd_lv hB (k + 1)).2.1
  have e_r := congrFun (congrFun (congrFun (lE_s tx k) un) p0) env
  have hsl := sh_skip_le hp0
  have hsg := sh_skip_ge tx p0
  have hwl := sh_wend_le hsl
  have hwg := sh_wend_ge tx (sh_skip tx p0)
  have hsa := sh_signA_ok hwl
  have hl : lv_has ls 7 [(0, .ref a0), (1, .int (nI d))] := hl
  refine lv_aload_n hx hb dR_expression_0 rfl (lv_at hl 0 rfl) ?_
  refine zQ_call (va_runV (As := []) (rest := []) ⟨hx, hb, hml, hown, htz⟩ (k_R_skipBlanks l dC dI kC kI kJ kQ a0 aR aN aS aF (nI wt) (nI un) rs fx tx ((aN, .inr (1, [.ref aK, .int (nI ns.length)])) :: (aK, .inl (kQ, 64, .inr (.inr (.inr (.inr q))))) :: (aS, .inl (kI, 150, .inl sg)) :: (aF, .inl (kJ, 150, .inr (.inl ff))) :: (fr ++ rw_p 0 kC ns)) hx3 hB hfx _ p0 hp0) (cwV 0 htz (zg_V zw_1_202 zw_1_204 zs_R_skipBlanks zw_1_2 zw_1_205) rfl rfl rfl (by decide +kernel) ⟨by dsimp only [headSpec]; omega, by dsimp only [headSpec]; omega⟩) (zW_V hP hK hD hN (va_recv hK hP (ci := 2) (q0 := 0) rfl rfl)) rfl rfl hl.1 rfl (lv_room (Nat.le_of_ble_eq_true rfl)) dR_expression_1 ⟨by show 0 + 0 ≤ zmc env (lE tx (k + 1) un p0 env); omega, by show 0 + 0 ≤ zms env (lE tx (k + 1) un p0 env); omega⟩) hD hS hA (fun v w H locs hp hP hD hS => ?_)
  obtain ⟨rfl, hw⟩ := hp
  rw [hw] at hP hD
  have hP : va_P (dC, dI) vwCl ((a0, .inr (2, [.ref aR, .ref aN, .ref aS, .ref aF, .int (nI wt), .int (nI tx.length), .int (nI (sh_skip tx p0)), .int (nI un), .long rs])) :: (aR, .inl (kC, 300, .inl fx)) :: (aN, .inr (1, [.ref aK, .int (nI ns.length)])) :: (aK, .inl (kQ, 64, .inr (.inr (.inr (.inr q))))) :: (aS, .inl (kI, 150, .inl sg)) :: (aF, .inl (kJ, 150, .inr (.inl ff))) :: (fr ++ rw_p 0 kC ns)) _ := hP
  have hD : va_D A ((a0, .inr (2, [.ref aR, .ref aN, .ref aS, .ref aF, .int (nI wt), .int (nI tx.length), .int (nI (sh_skip tx p0)), .int (nI un), .long rs])) :: (aR, .inl (kC, 300, .inl fx)) :: (aN, .inr (1, [.ref aK, .int (nI ns.length)])) :: (aK, .inl (kQ, 64, .inr (.inr (.inr (.inr q))))) :: (aS, .inl (kI, 150, .inl sg)) :: (aF, .inl (kJ, 150, .inr (.inl ff))) :: (fr ++ rw_p 0 kC ns)) := hD
  refine W.eq (g2 := F0 m 4 ls []) rfl ?_
  refine W.widen (k := 0) (n := 0) (by omega) (by omega) ?_
  refine lv_aload_n hx hb dR_expression_4 rfl (lv_at hl 0 rfl) ?_
  refine lv_aload_n hx hb dR_expression_5 rfl (lv_at hl 0 rfl) ?_
  refine va_get (D := (dC, dI)) (ci := 2) (v := .int (nI (sh_skip tx p0))) (C := "ShellSum$Reckoner") (T := TR) (N := 9) hx hb htz zu_R hown hK hP 0 rfl rfl 6 (by decide) (htz _ zw_1_51) (fun _ h9 => h9) rfl dR_expression_6 ?_
  refine rq_call (va_runV (As := [.int (nI (sh_skip tx p0))]) (rest := []) ⟨hx, hb, hml, hown, htz⟩ (k_R_charAt l dC dI kC kI kJ kQ a0 aR aN aS aF (nI wt) (nI un) rs fx tx ((aN, .inr (1, [.ref aK, .int (nI ns.length)])) :: (aK, .inl (kQ, 64, .inr (.inr (.inr (.inr q))))) :: (aS, .inl (kI, 150, .inl sg)) :: (aF, .inl (kJ, 150, .inr (.inl ff))) :: (fr ++ rw_p 0 kC ns)) hx3 hB hfx (nI (sh_skip tx p0)) (sh_skip tx p0) (by omega)) (cwV 1 htz (zg_V zw_1_206 zw_1_208 zs_R_charAt zw_1_2 zw_1_209) rfl rfl rfl (by decide +kernel) ⟨by dsimp only [headSpec]; omega, by dsimp only [headSpec]; omega⟩) (zR_V hP hK hN (va_recv hK hP (ci := 2) (q0 := 0) rfl rfl)) rfl rfl hl.1 rfl (lv_room (Nat.le_of_ble_eq_true rfl)) dR_expression_9 ⟨Nat.zero_le _, Nat.zero_le _⟩) ?_
  refine W.eq (g2 := F0 m 12 ls [.int (sh_at tx (sh_skip tx p0))]) rfl ?_
  refine rq_call (va_runSN (As := [.int (sh_at tx (sh_skip tx p0))]) (rest := []) ⟨hx, hb, hml, hown, htz⟩ (k_A_startsName l (sh_at tx (sh_skip tx p0))) ⟨va_cnB 1 htz (zg_c zw_1_127) rfl rfl rfl (hN _ zn_1_215) (htz _ zw_1_1) (by decide +kernel) ⟨by dsimp only [headSpec]; omega, by dsimp only [headSpec]; omega⟩, htz _ zw_1_126, trivial⟩ rq_pre rfl rfl hl.1 rfl (lv_room (Nat.le_of_ble_eq_true rfl)) dR_expression_12 ⟨Nat.zero_le _, Nat.zero_le _⟩) ?_
  refine W.eq (g2 := F0 m 15 ls [.int (sh_b (sh_start (sh_at tx (sh_skip tx p0))))]) rfl ?_
  refine lv_if_eq (tgt := 81) hx hb dR_expression_15 (by decide) (fun c_1 => ?_) (fun c_1 => ?_)
  · skip
    have e_15 : sh_start (sh_at tx (sh_skip tx p0)) = false := by grind [sh_b]
    have e_rc : (lE tx (k + 1) un p0 env) = lC tx (k + 1) un (sh_skip tx p0) env := by rw [e_r]; unfold sh_E; rw [if_neg (fun h => by rw [e_15] at h; exact absurd h.1 (by decide))]
    refine lv_aload_n hx hb dR_expression_81 rfl (lv_at hl 0 rfl) ?_
    refine lv_iload_n hx hb dR_expression_82 rfl (lv_at hl 1 rfl) ?_
    have e_z : zmc env (lC tx (k + 1) un (sh_skip tx p0) env) = zmc env (lE tx (k + 1) un p0 env) ∧ zms env (lC tx (k + 1) un (sh_skip tx p0) env) = zms env (lE tx (k + 1) un p0 env) := by rw [e_rc]; exact ⟨rfl, rfl⟩
    refine zX_call (vx_runV (As := [.int (nI d)]) (rest := []) ⟨hx, hb, hml, hown, htz⟩ (hKC dC dI kC kI kJ kQ a0 aR aN aS aF aK wt un rs fx sg ff q tx ns env fr hx3 hB hfx hE _ (sh_skip tx p0) d hsl hkd (by omega) hun) (cwV 1 htz (zg_V zw_2_109 zw_2_111 zs_R_choice zw_1_2 zw_2_112) rfl rfl rfl (by decide +kernel) ⟨by dsimp only [headSpec]; omega, by dsimp only [headSpec]; omega⟩) (zV_V hP hK hD hN hT hU hS hA (va_recv hK hP (ci := 2) (q0 := 0) rfl rfl)) rfl rfl hl.1 rfl (lv_room (Nat.le_of_ble_eq_true rfl)) dR_expression_83 ⟨by show 0 + (zmc env (lC tx (k + 1) un (sh_skip tx p0) env)) ≤ zmc env (lE tx (k + 1) un p0 env); omega, by show 0 + (zms env (lC tx (k + 1) un (sh_skip tx p0) env)) ≤ zms env (lE tx (k + 1) un p0 env); omega⟩) hD hS hA (fun ce q9 w H locs hp hP hD hS hce hcv hcl => ?_) (fun v w H locs hp hP hD hS => ?_)
    · skip
      obtain ⟨e1, wt9, pl9, un9, sg9, ff9, q9_, ns9, h1, hE9, hw⟩ := hp
      rw [hw] at hP hD
      exact zX_out hEx hlocks ⟨e1, _, _, _, _, _, _, _, by rw [e_rc]; exact h1, hE9, rfl⟩ hP hD hS hce hcv hcl (by omega) (by omega)
    obtain ⟨z, e1, sg1, ff1, q1, ns1, h1, rfl, hE1, hsf1, hw⟩ := hp
    rw [hw] at hP hD
    have hP : va_P (dC, dI) vwCl ((a0, .inr (2, [.ref aR, .ref aN, .ref aS, .ref aF, .int (nI wt), .int (nI tx.length), .int (nI z.2), .int (nI un), .long rs])) :: (aR, .inl (kC, 300, .inl fx)) :: (aN, .inr (1, [.ref aK, .int (nI ns1.length)])) :: (aK, .inl (kQ, 64, .inr (.inr (.inr (.inr q1))))) :: (aS, .inl (kI, 150, .inl sg1)) :: (aF, .inl (kJ, 150, .inr (.inl ff1))) :: (fr ++ rw_p 0 kC ns1)) _ := hP
    have hD : va_D A ((a0, .inr (2, [.ref aR, .ref aN, .ref aS, .ref aF, .int (nI wt), .int (nI tx.length), .int (nI z.2), .int (nI un), .long rs])) :: (aR, .inl (kC, 300, .inl fx)) :: (aN, .inr (1, [.ref aK, .int (nI ns1.length)])) :: (aK, .inl (kQ, 64, .inr (.inr (.inr (.inr q1))))) :: (aS, .inl (kI, 150, .inl sg1)) :: (aF, .inl (kJ, 150, .inr (.inl ff1))) :: (fr ++ rw_p 0 kC ns1)) := hD
    refine W.eq (g2 := F0 m 86 ls [.long z.1]) rfl ?_
    refine W.widen (k := zmc env (lE tx (k + 1) un p0 env)) (n := zms env (lE tx (k + 1) un p0 env)) (by omega) (by omega) ?_
    exact vx_ret (W.lret (v := z.1) hx hb hr (fun t ht _ => ⟨_, _, rfl, ⟨z, e1, sg1, ff1, q1, ns1, by rw [e_rc]; exact h1, rfl, hE1, hsf1, rfl⟩, by rw [ht]; exact hP, hD, hS.F ht⟩) hS.2.2 dR_expression_86)
  have e_15 : sh_start (sh_at tx (sh_skip tx p0)) = true := by grind [sh_b]
  refine lv_aload_n hx hb dR_expression_18 rfl (lv_at hl 0 rfl) ?_
  refine va_get (D := (dC, dI)) (ci := 2) (v := .int (nI (sh_skip tx p0))) (C := "ShellSum$Reckoner") (T := TR) (N := 9) hx hb htz zu_R hown hK hP 0 rfl rfl 6 (by decide) (htz _ zw_1_51) (fun _ h9 => h9) rfl dR_expression_19 ?_
  refine lv_istore_n (lv' := [(2, .int (nI (sh_skip tx p0))), (0, .ref a0), (1, .int (nI d))]) hx hb dR_expression_22 rfl hl (by decide) rfl (fun ls hl => ?_)
  refine lv_aload_n hx hb dR_expression_23 rfl (lv_at hl 1 rfl) ?_
  refine rq_call (va_runV (As := []) (rest := []) ⟨hx, hb, hml, hown, htz⟩ (k_R_wordEnd l dC dI kC kI kJ kQ a0 aR aN aS aF (nI wt) (nI un) rs fx tx ((aN, .inr (1, [.ref aK, .int (nI ns.length)])) :: (aK, .inl (kQ, 64, .inr (.inr (.inr (.inr q))))) :: (aS, .inl (kI, 150, .inl sg)) :: (aF, .inl (kJ, 150, .inr (.inl ff))) :: (fr ++ rw_p 0 kC ns)) hx3 hB hfx (sh_skip tx p0) hsl) (cwV 0 htz (zg_V zw_1_216 zw_1_218 zs_R_wordEnd zw_1_2 zw_1_219) rfl rfl rfl (by decide +kernel) ⟨by dsimp only [headSpec]; omega, by dsimp only [headSpec]; omega⟩) (zR_V hP hK hN (va_recv hK hP (ci := 2) (q0 := 0) rfl rfl)) rfl rfl hl.1 rfl (lv_room (Nat.le_of_ble_eq_true rfl)) dR_expression_24 ⟨Nat.zero_le _, Nat.zero_le _⟩) ?_
  refine W.eq (g2 := F0 m 27 ls [.int (nI (sh_wend tx (sh_skip tx p0)))]) rfl ?_
  refine lv_istore_n (lv' := [(3, .int (nI (sh_wend tx (sh_skip tx p0)))), (2, .int (nI (sh_skip tx p0))), (0, .ref a0), (1, .int (nI d))]) hx hb dR_expression_27 rfl hl (by decide) rfl (fun ls hl => ?_)
  refine lv_aload_n hx hb dR_expression_28 rfl (lv_at hl 2 rfl) ?_
  refine lv_iload_n hx hb dR_expression_29 rfl (lv_at hl 0 rfl) ?_
  refine va_put (D := (dC, dI)) (ci := 2) (v := .int (nI (sh_wend tx (sh_skip tx p0)))) (ty := .int) (C := "ShellSum$Reckoner") (T := TR) (N := 9) hx hb htz zu_R tyR tyR_ok nmR hown hK hP hD hS 0 rfl rfl 6 (by decide) (htz _ zw_1_51) (fun _ h9 => h9) rfl (by decide +kernel) rfl rfl (Nat.le_of_ble_eq_true rfl) dR_expression_30 (fun H locs hP hD hS => ?_)
  have hP : va_P (dC, dI) vwCl ((a0, .inr (2, [.ref aR, .ref aN, .ref aS, .ref aF, .int (nI wt), .int (nI tx.length), .int (nI (sh_wend tx (sh_skip tx p0))), .int (nI un), .long rs])) :: (aR, .inl (kC, 300, .inl fx)) :: (aN, .inr (1, [.ref aK, .int (nI ns.length)])) :: (aK, .inl (kQ, 64, .inr (.inr (.inr (.inr q))))) :: (aS, .inl (kI, 150, .inl sg)) :: (aF, .inl (kJ, 150, .inr (.inl ff))) :: (fr ++ rw_p 0 kC ns)) _ := hP
  have hD : va_D A ((a0, .inr (2, [.ref aR, .ref aN, .ref aS, .ref aF, .int (nI wt), .int (nI tx.length), .int (nI (sh_wend tx (sh_skip tx p0))), .int (nI un), .long rs])) :: (aR, .inl (kC, 300, .inl fx)) :: (aN, .inr (1, [.ref aK, .int (nI ns.length)])) :: (aK, .inl (kQ, 64, .inr (.inr (.inr (.inr q))))) :: (aS, .inl (kI, 150, .inl sg)) :: (aF, .inl (kJ, 150, .inr (.inl ff))) :: (fr ++ rw_p 0 kC ns)) := hD
  refine lv_aload_n hx hb dR_expression_33 rfl (lv_at hl 2 rfl) ?_
  refine zQ_call (va_runV (As := []) (rest := []) ⟨hx, hb, hml, hown, htz⟩ (k_R_assignmentSign l dC dI kC kI kJ kQ a0 aR aN aS aF (nI wt) (nI un) rs fx tx ((aN, .inr (1, [.ref aK, .int (nI ns.length)])) :: (aK, .inl (kQ, 64, .inr (.inr (.inr (.inr q))))) :: (aS, .inl (kI, 150, .inl sg)) :: (aF, .inl (kJ, 150, .inr (.inl ff))) :: (fr ++ rw_p 0 kC ns)) hx3 hB hfx _ (sh_wend tx (sh_skip tx p0)) hwl) (cwV 0 htz (zg_V zw_1_221 zw_1_223 zs_R_assignmentSign zw_1_2 zw_1_224) rfl rfl rfl (by decide +kernel) ⟨by dsimp only [headSpec]; omega, by dsimp only [headSpec]; omega⟩) (zW_V hP hK hD hN (va_recv hK hP (ci := 2) (q0 := 0) rfl rfl)) rfl rfl hl.1 rfl (lv_room (Nat.le_of_ble_eq_true rfl)) dR_expression_34 ⟨Nat.zero_le _, Nat.zero_le _⟩) hD hS hA (fun v w H locs hp hP hD hS => ?_)
  obtain ⟨rfl, hw⟩ := hp
  rw [hw] at hP hD
  have hP : va_P (dC, dI) vwCl ((a0, .inr (2, [.ref aR, .ref aN, .ref aS, .ref aF, .int (nI wt), .int (nI tx.length), .int (nI (sh_signA tx (sh_wend tx (sh_skip tx p0))).2), .int (nI un), .long rs])) :: (aR, .inl (kC, 300, .inl fx)) :: (aN, .inr (1, [.ref aK, .int (nI ns.length)])) :: (aK, .inl (kQ, 64, .inr (.inr (.inr (.inr q))))) :: (aS, .inl (kI, 150, .inl sg)) :: (aF, .inl (kJ, 150, .inr (.inl ff))) :: (fr ++ rw_p 0 kC ns)) _ := hP
  have hD : va_D A ((a0, .inr (2, [.ref aR, .ref aN, .ref aS, .ref aF, .int (nI wt), .int (nI tx.length), .int (nI (sh_signA tx (sh_wend tx (sh_skip tx p0))).2), .int (nI un), .long rs])) :: (aR, .inl (kC, 300, .inl fx)) :: (aN, .inr (1, [.ref aK, .int (nI ns.length)])) :: (aK, .inl (kQ, 64, .inr (.inr (.inr (.inr q))))) :: (aS, .inl (kI, 150, .inl sg)) :: (aF, .inl (kJ, 150, .inr (.inl ff))) :: (fr ++ rw_p 0 kC ns)) := hD
  refine W.eq (g2 := F0 m 37 ls [.int ((sh_signA tx (sh_wend tx (sh_skip tx p0))).1)]) rfl ?_
  refine W.widen (k := 0) (n := 0) (by omega) (by omega) ?_
  refine lv_istore (lv' := [(4, .int ((sh_signA tx (sh_wend tx (sh_skip tx p0))).1)), (3, .int (nI (sh_wend tx (sh_skip tx p0)))), (2, .int (nI (sh_skip tx p0))), (0, .ref a0), (1, .int (nI d))]) hx hb dR_expression_37 hl (by decide) rfl (fun ls hl => ?_)
  refine lv_iload hx hb dR_expression_39 (lv_at hl 0 rfl) ?_
  refine lv_if_eq (tgt := 76) hx hb dR_expression_41 (by decide) (fun c_2 => ?_) (fun c_2 => ?_)
  · skip
    have e_rc : (lE tx (k + 1) un p0 env) = lC tx (k + 1) un (sh_skip tx p0) env := by rw [e_r]; unfold sh_E; rw [if_neg (fun q => q.2 c_2)]
    refine lv_aload_n hx hb dR_expression_76 rfl (lv_at hl 3 rfl) ?_
    refine lv_iload_n hx hb dR_expression_77 rfl (lv_at hl 2 rfl) ?_
    refine va_put (D := (dC, dI)) (ci := 2) (v := .int (nI (sh_skip tx p0))) (ty := .int) (C := "ShellSum$Reckoner") (T := TR) (N := 9) hx hb htz zu_R tyR tyR_ok nmR hown hK hP hD hS 0 rfl rfl 6 (by decide) (htz _ zw_1_51) (fun _ h9 => h9) rfl (by decide +kernel) rfl rfl (Nat.le_of_ble_eq_true rfl) dR_expression_78 (fun H locs hP hD hS => ?_)
    have hP : va_P (dC, dI) vwCl ((a0, .inr (2, [.ref aR, .ref aN, .ref aS, .ref aF, .int (nI wt), .int (nI tx.length), .int (nI (sh_skip tx p0)), .int (nI un), .long rs])) :: (aR, .inl (kC, 300, .inl fx)) :: (aN, .inr (1, [.ref aK, .int (nI ns.length)])) :: (aK, .inl (kQ, 64, .inr (.inr (.inr (.inr q))))) :: (aS, .inl (kI, 150, .inl sg)) :: (aF, .inl (kJ, 150, .inr (.inl ff))) :: (fr ++ rw_p 0 kC ns)) _ := hP
    have hD : va_D A ((a0, .inr (2, [.ref aR, .ref aN, .ref aS, .ref aF, .int (nI wt), .int (nI tx.length), .int (nI (sh_skip tx p0)), .int (nI un), .long rs])) :: (aR, .inl (kC, 300, .inl fx)) :: (aN, .inr (1, [.ref aK, .int (nI ns.length)])) :: (aK, .inl (kQ, 64, .inr (.inr (.inr (.inr q))))) :: (aS, .inl (kI, 150, .inl sg)) :: (aF, .inl (kJ, 150, .inr (.inl ff))) :: (fr ++ rw_p 0 kC ns)) := hD
    refine lv_aload_n hx hb dR_expression_81 rfl (lv_at hl 3 rfl) ?_
    refine lv_iload_n hx hb dR_expression_82 rfl (lv_at hl 4 rfl) ?_
    have e_z : zmc env (lC tx (k + 1) un (sh_skip tx p0) env) = zmc env (lE tx (k + 1) un p0 env) ∧ zms env (lC tx (k + 1) un (sh_skip tx p0) env) = zms env (lE tx (k + 1) un p0 env) := by rw [e_rc]; exact ⟨rfl, rfl⟩
    refine zX_call (vx_runV (As := [.int (nI d)]) (rest := []) ⟨hx, hb, hml, hown, htz⟩ (hKC dC dI kC kI kJ kQ a0 aR aN aS aF aK wt un rs fx sg ff q tx ns env fr hx3 hB hfx hE _ (sh_skip tx p0) d hsl hkd (by omega) hun) (cwV 1 htz (zg_V zw_2_109 zw_2_111 zs_R_choice zw_1_2 zw_2_112) rfl rfl rfl (by decide +kernel) ⟨by dsimp only [headSpec]; omega, by dsimp only [headSpec]; omega⟩) (zV_V hP hK hD hN hT hU hS hA (va_recv hK hP (ci := 2) (q0 := 0) rfl rfl)) rfl rfl hl.1 rfl (lv_room (Nat.le_of_ble_eq_true rfl)) dR_expression_83 ⟨by show 0 + (zmc env (lC tx (k + 1) un (sh_skip tx p0) env)) ≤ zmc env (lE tx (k + 1) un p0 env); omega, by show 0 + (zms env (lC tx (k + 1) un (sh_skip tx p0) env)) ≤ zms env (lE tx (k + 1) un p0 env); omega⟩) hD hS hA (fun ce q9 w H locs hp hP hD hS hce hcv hcl => ?_) (fun v w H locs hp hP hD hS => ?_)
    · skip
      obtain ⟨e1, wt9, pl9, un9, sg9, ff9, q9_, ns9, h1, hE9, hw⟩ := hp
      rw [hw] at hP hD
      exact zX_out hEx hlocks ⟨e1, _, _, _, _, _, _, _, by rw [e_rc]; exact h1, hE9, rfl⟩ hP hD hS hce hcv hcl (by omega) (by omega)
    obtain ⟨z, e1, sg1, ff1, q1, ns1, h1, rfl, hE1, hsf1, hw⟩ := hp
    rw [hw] at hP hD
    have hP : va_P (dC, dI) vwCl ((a0, .inr (2, [.ref aR, .ref aN, .ref aS, .ref aF, .int (nI wt), .int (nI tx.length), .int (nI z.2), .int (nI un), .long rs])) :: (aR, .inl (kC, 300, .inl fx)) :: (aN, .inr (1, [.ref aK, .int (nI ns1.length)])) :: (aK, .inl (kQ, 64, .inr (.inr (.inr (.inr q1))))) :: (aS, .inl (kI, 150, .inl sg1)) :: (aF, .inl (kJ, 150, .inr (.inl ff1))) :: (fr ++ rw_p 0 kC ns1)) _ := hP
    have hD : va_D A ((a0, .inr (2, [.ref aR, .ref aN, .ref aS, .ref aF, .int (nI wt), .int (nI tx.length), .int (nI z.2), .int (nI un), .long rs])) :: (aR, .inl (kC, 300, .inl fx)) :: (aN, .inr (1, [.ref aK, .int (nI ns1.length)])) :: (aK, .inl (kQ, 64, .inr (.inr (.inr (.inr q1))))) :: (aS, .inl (kI, 150, .inl sg1)) :: (aF, .inl (kJ, 150, .inr (.inl ff1))) :: (fr ++ rw_p 0 kC ns1)) := hD
    refine W.eq (g2 := F0 m 86 ls [.long z.1]) rfl ?_
    refine W.widen (k := zmc env (lE tx (k + 1) un p0 env)) (n := zms env (lE tx (k + 1) un p0 env)) (by omega) (by omega) ?_
    exact vx_ret (W.lret (v := z.1) hx hb hr (fun t ht _ => ⟨_, _, rfl, ⟨z, e1, sg1, ff1, q1, ns1, by rw [e_rc]; exact h1, rfl, hE1, hsf1, rfl⟩, by rw [ht]; exact hP, hD, hS.F ht⟩) hS.2.2 dR_expression_86)
  have e_c : sh_start (sh_at tx (sh_skip tx p0)) = true ∧ ¬ (sh_signA tx (sh_wend tx (sh_skip tx p0))).1 = 0 := ⟨e_15, c_2⟩
  refine lv_aload_n hx hb dR_expression_44 rfl (lv_at hl 3 rfl) ?_
  refine lv_iload_n hx hb dR_expression_45 rfl (lv_at hl 4 rfl) ?_
  have e_dn : ¬ d < 40 → (lE tx (k + 1) un p0 env) = (none, env) := fun hd => by rw [e_r]; exact sh_E_n0 e_c (by rw [show k = 0 by omega]; rfl)
  have e_dz : 0 + zk (if d < 40 then some (d + 1) else none : Option Nat) ≤ zmc env (lE tx (k + 1) un p0 env) ∧ 0 + 6 * zk (if d < 40 then some (d + 1) else none : Option Nat) ≤ zms env (lE tx (k + 1) un p0 env) := zd_ok e_dn
  refine zX_call (vx_runS (As := [.int (nI d)]) (rest := [.ref a0]) ⟨hx, hb, hml, hown, htz⟩ (k_R_deeper l hl9 dC dI _ _ _ d (by omega)) (cwS 1 htz (zg_S zw_1_231 zw_1_232 zw_1_2 zw_1_233) rfl rfl rfl (by decide +kernel) ⟨by dsimp only [headSpec]; omega, by dsimp only [headSpec]; omega⟩) (zV_S hP hK hD hN hT hU hS hA) rfl rfl hl.1 rfl (lv_room (Nat.le_of_ble_eq_true rfl)) dR_expression_46 ⟨by show 0 + (zk (if d < 40 then some (d + 1) else none : Option Nat)) ≤ zmc env (lE tx (k + 1) un p0 env); omega, by show 0 + (6 * zk (if d < 40 then some (d + 1) else none : Option Nat)) ≤ zms env (lE tx (k + 1) un p0 env); omega⟩) hD hS hA (fun ce q9 w H locs hp hP hD hS hce hcv hcl => ?_) (fun v w H locs hp hP hD hS => ?_)
  · skip
    obtain ⟨hd, hw⟩ := hp
    rw [hw] at hP hD
    exact zX_out hEx hlocks ⟨env, _, _, _, _, _, _, _, e_dn hd, hE, rfl⟩ hP hD hS hce hcv hcl (by omega) (by omega)
  obtain ⟨hd, rfl, hw⟩ := hp
  rw [hw] at hP hD
  refine W.eq (g2 := F0 m 49 ls [.int (nI (d + 1)), .ref a0]) rfl ?_
  have e_d0 : zk (if d < 40 then some (d + 1) else none : Option Nat) = 0 := by rw [if_pos hd]; rfl
  refine W.widen (k := 0) (n := 0) (by omega) (by omega) ?_
  have e_e := e_gd.2.2 un (sh_signA tx (sh_wend tx (sh_skip tx p0))).2 env hsa.2
  have e_z : zmc env (lE tx k un (sh_signA tx (sh_wend tx (sh_skip tx p0))).2 env) ≤ zmc env (lE tx (k + 1) un p0 env) ∧ zms env (lE tx k un (sh_signA tx (sh_wend tx (sh_skip tx p0))).2 env) ≤ zms env (lE tx (k + 1) un p0 env) := by rw [e_r]; exact zm_E0 e_c
  refine zX_call (vx_runV (As := [.int (nI (d + 1))]) (rest := []) ⟨hx, hb, hml, hown, htz⟩ ((ih (by omega)) dC dI kC kI kJ kQ a0 aR aN aS aF aK wt un rs fx sg ff q tx ns env fr hx3 hB hfx hE _ ((sh_signA tx (sh_wend tx (sh_skip tx p0))).2) (d + 1) hsa.2 (by omega) (by omega) (by omega)) (cwV 1 htz (zg_V zw_1_211 zw_1_213 zs_R_expression zw_1_2 zw_1_214) rfl rfl rfl (by decide +kernel) ⟨by dsimp only [headSpec]; omega, by dsimp only [headSpec]; omega⟩) (zV_V hP hK hD hN hT hU hS hA (va_recv hK hP (ci := 2) (q0 := 0) rfl rfl)) rfl rfl hl.1 rfl (lv_room (Nat.le_of_ble_eq_true rfl)) dR_expression_49 ⟨by show 0 + (zmc env (lE tx k un ((sh_signA tx (sh_wend tx (sh_skip tx p0))).2) env)) ≤ zmc env (lE tx (k + 1) un p0 env); omega, by show 0 + (zms env (lE tx k un ((sh_signA tx (sh_wend tx (sh_skip tx p0))).2) env)) ≤ zms env (lE tx (k + 1) un p0 env); omega⟩) hD hS hA (fun ce q9 w H locs hp hP hD hS hce hcv hcl => ?_) (fun v w H locs hp hP hD hS => ?_)
  · skip
    obtain ⟨e1, wt9, pl9, un9, sg9, ff9, q9_, ns9, h1, hE9, hw⟩ := hp
    rw [hw] at hP hD
    exact zX_out hEx hlocks ⟨e1, _, _, _, _, _, _, _, by rw [e_r]; exact sh_E_n0 e_c h1, hE9, rfl⟩ hP hD hS hce hcv hcl (by omega) (by omega)
  obtain ⟨z, e1, sg1, ff1, q1, ns1, h1, rfl, hE1, hsf1, hw⟩ := hp
  rw [hw] at hP hD
  have hP : va_P (dC, dI) vwCl ((a0, .inr (2, [.ref aR, .ref aN, .ref aS, .ref aF, .int (nI wt), .int (nI tx.length), .int (nI z.2), .int (nI un), .long rs])) :: (aR, .inl (kC, 300, .inl fx)) :: (aN, .inr (1, [.ref aK, .int (nI ns1.length)])) :: (aK, .inl (kQ, 64, .inr (.inr (.inr (.inr q1))))) :: (aS, .inl (kI, 150, .inl sg1)) :: (aF, .inl (kJ, 150, .inr (.inl ff1))) :: (fr ++ rw_p 0 kC ns1)) _ := hP
  have hD : va_D A ((a0, .inr (2, [.ref aR, .ref aN, .ref aS, .ref aF, .int (nI wt), .int (nI tx.length), .int (nI z.2), .int (nI un), .long rs])) :: (aR, .inl (kC, 300, .inl fx)) :: (aN, .inr (1, [.ref aK, .int (nI ns1.length)])) :: (aK, .inl (kQ, 64, .inr (.inr (.inr (.inr q1))))) :: (aS, .inl (kI, 150, .inl sg1)) :: (aF, .inl (kJ, 150, .inr (.inl ff1))) :: (fr ++ rw_p 0 kC ns1)) := hD
  refine W.eq (g2 := F0 m 52 ls [.long z.1]) rfl ?_
  rw [h1] at e_e
  have e_l1 : env.length ≤ e1.length := e_e.1
  have e_ze : zmc env (lE tx k un (sh_signA tx (sh_wend tx (sh_skip tx p0))).2 env) = 3 * (e1.length - env.length) ∧ zms env (lE tx k un (sh_signA tx (sh_wend tx (sh_skip tx p0))).2 env) = 323 * (e1.length - env.length) := by rw [h1]; exact ⟨rfl, rfl⟩
  refine W.widen (k := 3 * (e1.length - env.length)) (n := 323 * (e1.length - env.length)) (by omega) (by omega) ?_
  refine lv_lstore (lv' := [(5, .long z.1), (4, .int ((sh_signA tx (sh_wend tx (sh_skip tx p0))).1)), (3, .int (nI (sh_wend tx (sh_skip tx p0)))), (2, .int (nI (sh_skip tx p0))), (0, .ref a0), (1, .int (nI d))]) hx hb dR_expression_52 hl (by decide) rfl (fun ls hl => ?_)
  refine lv_aload_n hx hb dR_expression_54 rfl (lv_at hl 4 rfl) ?_
  refine va_get (D := (dC, dI)) (ci := 2) (v := .int (nI un)) (C := "ShellSum$Reckoner") (T := TR) (N := 9) hx hb htz zu_R hown hK hP 0 rfl rfl 7 (by decide) (htz _ zw_1_52) (fun _ h9 => h9) rfl dR_expression_55 ?_
  refine lv_if_le (tgt := 65) hx hb dR_expression_58 (by decide) (fun c_3 => ?_) (fun c_3 => ?_)
  · skip
    have e_u : ¬ 0 < un := Nat.not_lt.mpr (xi_le (b := 0) c_3 (by omega) (by decide))
    refine lv_aload_n hx hb dR_expression_65 rfl (lv_at hl 4 rfl) ?_
    refine lv_iload_n hx hb dR_expression_66 rfl (lv_at hl 3 rfl) ?_
    refine lv_iload_n hx hb dR_expression_67 rfl (lv_at hl 2 rfl) ?_
    refine lv_iload hx hb dR_expression_68 (lv_at hl 1 rfl) ?_
    refine lv_lload hx hb dR_expression_70 (lv_at hl 0 rfl) ?_
    have e_cl : (sh_cut tx (sh_skip tx p0) (sh_wend tx (sh_skip tx p0))).length = sh_wend tx (sh_skip tx p0) - sh_skip tx p0 := sh_cut_len hwl
    have e_end : sh_wend tx (sh_skip tx p0) = sh_skip tx p0 + (sh_cut tx (sh_skip tx p0) (sh_wend tx (sh_skip tx p0))).length := by omega
    have e_as := sh_asg_len e1 (sh_cut tx (sh_skip tx p0) (sh_wend tx (sh_skip tx p0))) (sh_signA tx (sh_wend tx (sh_skip tx p0))).1 z.1
    refine W.eq (g2 := F0 m 72 ls [.long z.1, .int ((sh_signA tx (sh_wend tx (sh_skip tx p0))).1), .int (nI (sh_skip tx p0 + (sh_cut tx (sh_skip tx p0) (sh_wend tx (sh_skip tx p0))).length)), .int (nI (sh_skip tx p0)), .ref a0]) (by rw [← e_end]) ?_
    have e_z2 : 3 * (e1.length - env.length) + zmc e1 (sh_asg e1 (sh_cut tx (sh_skip tx p0) (sh_wend tx (sh_skip tx p0))) (sh_signA tx (sh_wend tx (sh_skip tx p0))).1 z.1) ≤ zmc env (lE tx (k + 1) un p0 env) ∧ 323 * (e1.length - env.length) + zms e1 (sh_asg e1 (sh_cut tx (sh_skip tx p0) (sh_wend tx (sh_skip tx p0))) (sh_signA tx (sh_wend tx (sh_skip tx p0))).1 z.1) ≤ zms env (lE tx (k + 1) un p0 env) := by rw [e_r]; exact zm_E1 e_c h1 e_u e_l1
    refine zX_call (vx_runV (As := [.int (nI (sh_skip tx p0)), .int (nI (sh_skip tx p0 + (sh_cut tx (sh_skip tx p0) (sh_wend tx (sh_skip tx p0))).length)), .int ((sh_signA tx (sh_wend tx (sh_skip tx p0))).1), .long z.1]) (rest := []) ⟨hx, hb, hml, hown, htz⟩ (k_R_assign l hl9 dC dI kC kI kJ kQ a0 aR aN aS aF aK wt un rs fx sg1 ff1 q1 tx ns1 e1 fr hx3 hB hfx hE1 _ (nI z.2) (sh_skip tx p0) (sh_cut tx (sh_skip tx p0) (sh_wend tx (sh_skip tx p0))) (fun j h => (sh_cut_at (by omega)).symm) (by omega) (sh_cut_B hB _ _) (sh_signA tx (sh_wend tx (sh_skip tx p0))).1 z.1) (cwV 4 htz (zg_V zw_2_59 zw_2_61 zs_R_assign zw_1_2 zw_2_62) rfl rfl rfl (by decide +kernel) ⟨by dsimp only [headSpec]; omega, by dsimp only [headSpec]; omega⟩) (zV_V hP hK hD hN hT hU hS hA (va_recv hK hP (ci := 2) (q0 := 0) rfl rfl)) rfl rfl hl.1 rfl (lv_room (Nat.le_of_ble_eq_true rfl)) dR_expression_72 ⟨by show 3 * (e1.length - env.length) + (zmc e1 (sh_asg e1 (sh_cut tx (sh_skip tx p0) (sh_wend tx (sh_skip tx p0))) (sh_signA tx (sh_wend tx (sh_skip tx p0))).1 z.1)) ≤ zmc env (lE tx (k + 1) un p0 env); omega, by show 323 * (e1.length - env.length) + (zms e1 (sh_asg e1 (sh_cut tx (sh_skip tx p0) (sh_wend tx (sh_skip tx p0))) (sh_signA tx (sh_wend tx (sh_skip tx p0))).1 z.1)) ≤ zms env (lE tx (k + 1) un p0 env); omega⟩) hD hS hA (fun ce q9 w H locs hp hP hD hS hce hcv hcl => ?_) (fun v w H locs hp hP hD hS => ?_)
    · skip
      obtain ⟨h2, hw⟩ := hp
      rw [hw] at hP hD
      exact zX_out hEx hlocks ⟨e1, _, _, _, _, _, _, _, by rw [e_r, sh_E_as e_c h1 e_u, h2]; rfl, hE1, rfl⟩ hP hD hS hce hcv hcl (by omega) (by omega)
    obtain ⟨x, e2, q2, ns2, h2, rfl, hE2, hw⟩ := hp
    rw [hw] at hP hD
    have hP : va_P (dC, dI) vwCl ((a0, .inr (2, [.ref aR, .ref aN, .ref aS, .ref aF, .int (nI wt), .int (nI tx.length), .int (nI z.2), .int (nI un), .long rs])) :: (aR, .inl (kC, 300, .inl fx)) :: (aN, .inr (1, [.ref aK, .int (nI ns2.length)])) :: (aK, .inl (kQ, 64, .inr (.inr (.inr (.inr q2))))) :: (aS, .inl (kI, 150, .inl sg1)) :: (aF, .inl (kJ, 150, .inr (.inl ff1))) :: (fr ++ rw_p 0 kC ns2)) _ := hP
    have hD : va_D A ((a0, .inr (2, [.ref aR, .ref aN, .ref aS, .ref aF, .int (nI wt), .int (nI tx.length), .int (nI z.2), .int (nI un), .long rs])) :: (aR, .inl (kC, 300, .inl fx)) :: (aN, .inr (1, [.ref aK, .int (nI ns2.length)])) :: (aK, .inl (kQ, 64, .inr (.inr (.inr (.inr q2))))) :: (aS, .inl (kI, 150, .inl sg1)) :: (aF, .inl (kJ, 150, .inr (.inl ff1))) :: (fr ++ rw_p 0 kC ns2)) := hD
    refine W.eq (g2 := F0 m 75 ls [.long x]) rfl ?_
    refine W.widen (k := zmc env (lE tx (k + 1) un p0 env)) (n := zms env (lE tx (k + 1) un p0 env)) (by omega) (by omega) ?_
    exact vx_ret (W.lret (v := x) hx hb hr (fun t ht _ => ⟨_, _, rfl, ⟨(x, z.2), e2, sg1, ff1, q2, ns2, by rw [e_r, sh_E_as e_c h1 e_u, h2]; rfl, rfl, hE2, hsf1, rfl⟩, by rw [ht]; exact hP, hD, hS.F ht⟩) hS.2.2 dR_expression_75)
  have e_u : 0 < un := xi_nle (b := 0) c_3 (by omega) (by decide)
  refine lv_lconst (v := 0) hx hb dR_expression_61 (by decide) ?_
  refine lv_goto (tgt := 75) hx hb dR_expression_62 (by decide) ?_
  refine W.widen (k := zmc env (lE tx (k + 1) un p0 env)) (n := zms env (lE tx (k + 1) un p0 env)) (by omega) (by omega) ?_
  exact vx_ret (W.lret (v := 0) hx hb hr (fun t ht _ => ⟨_, _, rfl, ⟨(0, z.2), e1, sg1, ff1, q1, ns1, by rw [e_r]; exact sh_E_un e_c h1 e_u, rfl, hE1, hsf1, rfl⟩, by rw [ht]; exact hP, hD, hS.F ht⟩) hS.2.2 dR_expression_75)
/-- the methods of the levels, all of them -/
theorem k_lv (l : Launch) (hl9 : l.stackTraces = false) (k : Nat) : 0 < k → KU l k ∧ KC l k ∧ KE l k := by
  induction k with
  | zero => intro h; exact absurd h (Nat.lt_irrefl 0)
  | succ k ih =>
    intro _
    have hu : KU l (k + 1) := k_R_unary l hl9 k (fun h => ⟨(ih h).1, (ih h).2.2⟩)
    have hb : KB l (k + 1) := k_R_binary l hl9 (k + 1) (Nat.succ_pos k) hu
    have hc : KC l (k + 1) := k_R_choice l hl9 k hb (fun h => (ih h).2)
    exact ⟨hu, hc, k_R_expression l hl9 k hc (fun h => (ih h).2.2)⟩
