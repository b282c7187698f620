set_option maxHeartbeats 4000000 in
set_option maxRecDepth 100000 in
/-- nameValue(start, end) -/
theorem k_R_nameValue (l : Launch) (hl9 : l.stackTraces = false) (dC : Nat → ClassId) (dI : Nat → Nat → Nat) (kC kI kJ kQ : ClassId) (a0 aR aN aS aF aK : Nat) (wt un : Int32) (rs : Int64) (fx sg : Nat → Int32) (ff : Nat → Int64) (q : Nat → Option Nat) (tx : List Int32) (ns : List rw_N) (env : sh_Env) (fr : va_W) (hx3 : tx.length ≤ 300) (hB : sh_B tx) (hfx : ∀ j, j < tx.length → fx j = sh_at tx j) (hE : zEn q ns env) (sz : Nat) (pl : Int32) (b0 : Nat) (ql : List Int32) (hql : ∀ j, j < ql.length → sh_at tx (b0 + j) = sh_at ql j) (hb1 : b0 + ql.length ≤ tx.length) : vx_Met l yR_nameValue wsR_nameValue ({ frames := 7, cells := zk (sh_nameVal env ql), slots := 6 * zk (sh_nameVal env ql), locals := 110 }) (va_Pc [.ref a0, .int (nI b0), .int (nI (b0 + ql.length))] (zV dC dI ([(kC, .char), (kI, .int), (kJ, .long), (kQ, .object "ShellSum$Named")]) ((a0, .inr (2, [.ref aR, .ref aN, .ref aS, .ref aF, .int wt, .int (nI tx.length), .int pl, .int un, .long rs])) :: (aR, .inl (kC, 300, .inl fx)) :: (aN, .inr (1, [.ref aK, .int (nI ns.length)])) :: (aK, .inl (kQ, 64, .inr (.inr (.inr (.inr q))))) :: (aS, .inl (kI, 150, .inl sg)) :: (aF, .inl (kJ, 150, .inr (.inl ff))) :: (fr ++ rw_p 0 kC ns)) sz)) (zQ dC dI (va_A ((a0, .inr (2, [.ref aR, .ref aN, .ref aS, .ref aF, .int wt, .int (nI tx.length), .int pl, .int un, .long rs])) :: (aR, .inl (kC, 300, .inl fx)) :: (aN, .inr (1, [.ref aK, .int (nI ns.length)])) :: (aK, .inl (kQ, 64, .inr (.inr (.inr (.inr q))))) :: (aS, .inl (kI, 150, .inl sg)) :: (aF, .inl (kJ, 150, .inr (.inl ff))) :: (fr ++ rw_p 0 kC ns)) sz) (fun v w => ∃ x, sh_nameVal env ql = some x ∧ v = some (.long x) ∧ w = ((a0, .inr (2, [.ref aR, .ref aN, .ref aS, .ref aF, .int wt, .int (nI tx.length), .int pl, .int un, .long rs])) :: (aR, .inl (kC, 300, .inl fx)) :: (aN, .inr (1, [.ref aK, .int (nI ns.length)])) :: (aK, .inl (kQ, 64, .inr (.inr (.inr (.inr q))))) :: (aS, .inl (kI, 150, .inl sg)) :: (aF, .inl (kJ, 150, .inr (.inl ff))) :: (fr ++ rw_p 0 kC ns)))) (zX dC dI (va_A ((a0, .inr (2, [.ref aR, .ref aN, .ref aS, .ref aF, .int wt, .int (nI tx.length), .int pl, .int un, .long rs])) :: (aR, .inl (kC, 300, .inl fx)) :: (aN, .inr (1, [.ref aK, .int (nI ns.length)])) :: (aK, .inl (kQ, 64, .inr (.inr (.inr (.inr q))))) :: (aS, .inl (kI, 150, .inl sg)) :: (aF, .inl (kJ, 150, .inr (.inl ff))) :: (fr ++ rw_p 0 kC ns)) sz) (fun w => sh_nameVal env ql = none ∧ w = ((a0, .inr (2, [.ref aR, .ref aN, .ref aS, .ref aF, .int wt, .int (nI tx.length), .int pl, .int un, .long rs])) :: (aR, .inl (kC, 300, .inl fx)) :: (aN, .inr (1, [.ref aK, .int (nI ns.length)])) :: (aK, .inl (kQ, 64, .inr (.inr (.inr (.inr q))))) :: (aS, .inl (kI, 150, .inl sg)) :: (aF, .inl (kJ, 150, .inr (.inl ff))) :: (fr ++ rw_p 0 kC ns)))) (zk (sh_nameVal env ql)) (6 * zk (sh_nameVal env ql)) (va_A ((a0, .inr (2, [.ref aR, .ref aN, .ref aS, .ref aF, .int wt, .int (nI tx.length), .int pl, .int un, .long rs])) :: (aR, .inl (kC, 300, .inl fx)) :: (aN, .inr (1, [.ref aK, .int (nI ns.length)])) :: (aK, .inl (kQ, 64, .inr (.inr (.inr (.inr q))))) :: (aS, .inl (kI, 150, .inl sg)) :: (aF, .inl (kJ, 150, .inr (.inl ff))) :: (fr ++ rw_p 0 kC ns)) sz) := by
  refine vx_ofW (cc := cR_nameValue) (maxL := 4) (ret := (some .long)) (by decide) rfl ?_
  intro p e s m args below meth c s₁ B hml hEx hv
  obtain ⟨rfl, ⟨hsz, hP, hK, hD0, hN⟩, hT, hU⟩ := hv
  subst hsz
  have hD := hD0.self (sz := s.heap.size)
  generalize hAe : va_A ((a0, .inr (2, [.ref aR, .ref aN, .ref aS, .ref aF, .int wt, .int (nI tx.length), .int pl, .int un, .long rs])) :: (aR, .inl (kC, 300, .inl fx)) :: (aN, .inr (1, [.ref aK, .int (nI ns.length)])) :: (aK, .inl (kQ, 64, .inr (.inr (.inr (.inr q))))) :: (aS, .inl (kI, 150, .inl sg)) :: (aF, .inl (kJ, 150, .inr (.inl ff))) :: (fr ++ rw_p 0 kC ns)) s.heap.size = A at hD hU ⊢
  have hA : ∀ q : Nat, s.heap.size ≤ q → A q := fun q h => by rw [← hAe]; exact Or.inr h
  have hS : va_S A s.heap s.heap [] := va_S.rf
  have hx := B.exec
  have hb := B.bytes
  have hr := B.returns
  have htz : ∀ w ∈ zw, w.before _ s = true := fun w h => atoms_spec (ws := wsR_nameValue) B.pre w (List.mem_cons_of_mem _ h)
  have hown : s.vm.findClass "ShellSum$Reckoner" = some m.cls := findClass_of_methodNamed B.named
  have hlocks := B.notSynchronized
  have hl := lv_entry ([.ref a0, .int (nI b0), .int (nI (b0 + ql.length))]) (n := 4) (Nat.le_of_ble_eq_true rfl)
  rw [lg_entry_eq]
  generalize (lg_sl ([.ref a0, .int (nI b0), .int (nI (b0 + ql.length))]) ++ List.replicate (4 - (lg_sl ([.ref a0, .int (nI b0), .int (nI (b0 + ql.length))])).length) Slot.unset).toArray = ls at hl ⊢
  have hl : lv_has ls 4 [(0, .ref a0), (1, .int (nI b0)), (2, .int (nI (b0 + ql.length)))] := hl
  refine lv_aload_n hx hb dR_nameValue_0 rfl (lv_at hl 0 rfl) ?_
  refine va_get (D := (dC, dI)) (ci := 2) (v := .ref aN) (C := "ShellSum$Reckoner") (T := TR) (N := 9) hx hb htz zu_R hown hK hP 0 rfl rfl 1 (by decide) (htz _ zw_1_45) (fun _ h9 => h9) rfl dR_nameValue_1 ?_
  refine lv_aload_n hx hb dR_nameValue_4 rfl (lv_at hl 0 rfl) ?_
  refine va_get (D := (dC, dI)) (ci := 2) (v := .ref aR) (C := "ShellSum$Reckoner") (T := TR) (N := 9) hx hb htz zu_R hown hK hP 0 rfl rfl 0 (by decide) (htz _ zw_1_43) (fun _ h9 => h9) rfl dR_nameValue_5 ?_
  refine lv_iload_n hx hb dR_nameValue_8 rfl (lv_at hl 1 rfl) ?_
  refine lv_iload_n hx hb dR_nameValue_9 rfl (lv_at hl 2 rfl) ?_
  have hpo : sh_pool ((a0, .inr (2, [.ref aR, .ref aN, .ref aS, .ref aF, .int wt, .int (nI tx.length), .int pl, .int un, .long rs])) :: (aR, .inl (kC, 300, .inl fx)) :: (aN, .inr (1, [.ref aK, .int (nI ns.length)])) :: (aK, .inl (kQ, 64, .inr (.inr (.inr (.inr q))))) :: (aS, .inl (kI, 150, .inl sg)) :: (aF, .inl (kJ, 150, .inr (.inl ff))) :: (fr ++ rw_p 0 kC ns)) (fr.length + 6) kC q ns := zEn_pool (kC := kC) ((a0, .inr (2, [.ref aR, .ref aN, .ref aS, .ref aF, .int wt, .int (nI tx.length), .int pl, .int un, .long rs])) :: (aR, .inl (kC, 300, .inl fx)) :: (aN, .inr (1, [.ref aK, .int (nI ns.length)])) :: (aK, .inl (kQ, 64, .inr (.inr (.inr (.inr q))))) :: (aS, .inl (kI, 150, .inl sg)) :: (aF, .inl (kJ, 150, .inr (.inl ff))) :: fr) hE
  refine rq_call (va_runVN (As := [.ref aR, .int (nI b0), .int (nI (b0 + ql.length))]) (rest := []) ⟨hx, hb, hml, hown, htz⟩ (k_S_find l dC dI kC kI kJ kQ _ aN aK 2 3 (fr.length + 6) q ns rfl rfl hpo hE.2.2.2.1 aR 1 300 b0 fx ql rfl (fun j h => by rw [hfx _ (by omega)]; exact hql j h) (by omega) (by decide)) ⟨va_cnB 3 htz (zg_c zw_1_145) rfl rfl rfl (hN _ zn_2_67) (htz _ zw_1_3) (by decide +kernel) ⟨Nat.le_of_ble_eq_true rfl, Nat.le_of_ble_eq_true rfl⟩, htz _ zw_1_144, htz _ zs_S_find⟩ (zR_V hP hK hN (va_recv hK hP (ci := 1) (q0 := 2) rfl rfl)) rfl rfl hl.1 rfl (lv_room (Nat.le_of_ble_eq_true rfl)) dR_nameValue_10 ⟨Nat.zero_le _, Nat.zero_le _⟩) ?_
  refine W.eq (g2 := F0 m 13 ls [va_rf ((sh_fi ns ql).map (fun x => x.1.1))]) rfl ?_
  have hef := zEn_find hE ql
  rcases xo_or (sh_fi ns ql) with hfi | ⟨x, hfi⟩
  · skip
    refine W.eq (g2 := F0 m 13 ls [.null]) (by rw [hfi]; rfl) ?_
    have e_r : sh_nameVal env ql = some 0 := nv_none (by rw [hef, hfi]; rfl)
    refine lv_astore_nN (lv' := [(3, .null), (0, .ref a0), (1, .int (nI b0)), (2, .int (nI (b0 + ql.length)))]) hx hb dR_nameValue_13 rfl hl (by decide) rfl (fun ls hl => ?_)
    refine lv_aload_nN hx hb dR_nameValue_14 rfl (lv_at hl 0 rfl) ?_
    refine lv_ifnullN (tgt := 25) hx hb dR_nameValue_15 (by decide) ?_
    refine lv_lconst (v := 0) hx hb dR_nameValue_25 (by decide) ?_
    refine W.widen (k := zk (sh_nameVal env ql)) (n := 6 * zk (sh_nameVal env ql)) (Nat.zero_le _) (Nat.zero_le _) ?_
    exact vx_ret (W.lret (v := 0) hx hb hr (fun t ht _ => ⟨_, _, rfl, ⟨0, e_r, rfl, rfl⟩, by rw [ht]; exact hP, hD, hS.F ht⟩) hS.2.2 dR_nameValue_26)
  refine W.eq (g2 := F0 m 13 ls [.ref x.1.1]) (by rw [hfi]; rfl) ?_
  obtain ⟨⟨i, hxi⟩, -⟩ := sh_fi_mem hfi
  obtain ⟨-, ho, -, hro, -⟩ := hpo i x hxi
  obtain ⟨⟨L, hL, hxL⟩, hxB, -⟩ := hE.2.2.1 x (List.mem_of_getElem? hxi)
  have hlt := rw_tx_len hL hxL
  have e_n : sh_nameVal env ql = if (rw_tx x).length = 0 then some 0 else if sh_at (rw_tx x) 0 = 45 then (sh_num (rw_tx x).tail).map (fun v => -v) else sh_num (rw_tx x) := nv_some (by rw [hef, hfi]; rfl)
  refine lv_astore_n (lv' := [(3, .ref x.1.1), (0, .ref a0), (1, .int (nI b0)), (2, .int (nI (b0 + ql.length)))]) hx hb dR_nameValue_13 rfl hl (by decide) rfl (fun ls hl => ?_)
  refine lv_aload_n hx hb dR_nameValue_14 rfl (lv_at hl 0 rfl) ?_
  refine lv_ifnull hx hb dR_nameValue_15 ?_
  refine lv_aload_n hx hb dR_nameValue_18 rfl (lv_at hl 0 rfl) ?_
  refine va_getN (D := (dC, dI)) (ci := 0) (v := .int x.2.2.2) (C := "ShellSum$Named") (T := TN) (N := 3) hx hb htz zu_N hown hK hP ((fr.length + 6) + 3 * i) ho rfl 2 (by decide) (va_Nw.use rfl (hN _ zn_1_164)) (fun _ h9 => h9) rfl dR_nameValue_19 ?_
  refine xw_topi (y := nI L) (hxL) ?_
  refine lv_if_ne (tgt := 27) hx hb dR_nameValue_22 (by decide) (fun c_1 => ?_) (fun c_1 => ?_)
  · skip
    have e_L : 0 < L := Nat.pos_of_ne_zero (fun e0 => c_1 (by rw [e0]; rfl))
    refine lv_aload_n hx hb dR_nameValue_27 rfl (lv_at hl 0 rfl) ?_
    refine va_getN (D := (dC, dI)) (ci := 0) (v := .ref x.1.2.2) (C := "ShellSum$Named") (T := TN) (N := 3) hx hb htz zu_N hown hK hP ((fr.length + 6) + 3 * i) ho rfl 1 (by decide) (va_Nw.use rfl (hN _ zn_1_161)) (fun _ h9 => h9) rfl dR_nameValue_28 ?_
    refine lv_iconst (v := 0) hx hb dR_nameValue_31 (by decide) ?_
    refine xw_topi (y := nI 0) (nI_0.symm) ?_
    refine va_cald hx hb hK hP ((fr.length + 6) + 3 * i + 2) 0 hro rfl (vp_in_nI (by omega) (by omega)) dR_nameValue_32 ?_
    refine xw_topi (y := x.2.2.1 0) (by rw [nI_clamp (by omega)]) ?_
    refine xw_topi (y := sh_at (rw_tx x) 0) (rw_tx_at hL hxL e_L) ?_
    refine lv_bipush (v := 45) hx hb dR_nameValue_33 (by decide) ?_
    refine lv_icmp_ne (tgt := 52) hx hb dR_nameValue_35 (by decide) (fun c_2 => ?_) (fun c_2 => ?_)
    · skip
      have e_r : sh_nameVal env ql = sh_num (rw_tx x) := by rw [e_n, if_neg (by omega), if_neg c_2]
      refine lv_aload_n hx hb dR_nameValue_52 rfl (lv_at hl 0 rfl) ?_
      refine va_getN (D := (dC, dI)) (ci := 0) (v := .ref x.1.2.2) (C := "ShellSum$Named") (T := TN) (N := 3) hx hb htz zu_N hown hK hP ((fr.length + 6) + 3 * i) ho rfl 1 (by decide) (va_Nw.use rfl (hN _ zn_1_161)) (fun _ h9 => h9) rfl dR_nameValue_53 ?_
      refine lv_iconst (v := 0) hx hb dR_nameValue_56 (by decide) ?_
      refine xw_topi (y := nI 0) (nI_0.symm) ?_
      refine lv_aload_n hx hb dR_nameValue_57 rfl (lv_at hl 0 rfl) ?_
      refine va_getN (D := (dC, dI)) (ci := 0) (v := .int x.2.2.2) (C := "ShellSum$Named") (T := TN) (N := 3) hx hb htz zu_N hown hK hP ((fr.length + 6) + 3 * i) ho rfl 2 (by decide) (va_Nw.use rfl (hN _ zn_1_164)) (fun _ h9 => h9) rfl dR_nameValue_58 ?_
      refine xw_topi (y := nI L) (hxL) ?_
      refine xw_topi (y := nI (0 + (rw_tx x).length)) (by congr 1; omega) ?_
      have e_zk : zk (sh_nameVal env ql) = zk (sh_num (rw_tx x)) := by rw [e_r]
      refine zX_call (vx_runSN (As := [.ref x.1.2.2, .int (nI 0), .int (nI (0 + (rw_tx x).length))]) (rest := []) ⟨hx, hb, hml, hown, htz⟩ (k_A_numberIn l hl9 dC dI kC kI kJ kQ _ _ ((fr.length + 6) + 3 * i + 2) 20 0 x.1.2.2 x.2.2.1 (rw_tx x) hro (fun j h => by rw [Nat.zero_add]; exact rw_tx_at hL hxL (by omega)) (by skip; omega) (by decide)) ⟨va_cnB 3 htz (zg_c zw_2_70) rfl rfl rfl (hN _ zn_2_68) (htz _ zw_1_1) (by decide +kernel) ⟨Nat.le_of_ble_eq_true rfl, Nat.le_of_ble_eq_true rfl⟩, htz _ zw_2_69, trivial⟩ (zV_S hP hK hD hN hT hU hS hA) rfl rfl hl.1 rfl (lv_room (Nat.le_of_ble_eq_true rfl)) dR_nameValue_61 ⟨by show 0 + zk (sh_num (rw_tx x)) ≤ zk (sh_nameVal env ql); omega, by show 0 + 6 * zk (sh_num (rw_tx x)) ≤ 6 * zk (sh_nameVal env ql); omega⟩) hD hS hA (fun ce q9 w H locs hp hP hD hS hce hcv hcl => ?_) (fun v w H locs hp hP hD hS => ?_)
      · obtain ⟨h1, hw⟩ := hp
        rw [hw] at hP hD
        exact zX_out hEx hlocks ⟨by rw [e_r, h1], rfl⟩ hP hD hS hce hcv hcl (by omega) (by omega)
      obtain ⟨v9, h1, rfl, hw⟩ := hp
      rw [hw] at hP hD
      refine W.eq (g2 := F0 m 64 ls [.long v9]) rfl ?_
      refine W.widen (k := zk (sh_nameVal env ql)) (n := 6 * zk (sh_nameVal env ql)) (by omega) (by omega) ?_
      exact vx_ret (W.lret (v := v9) hx hb hr (fun t ht _ => ⟨_, _, rfl, ⟨v9, by rw [e_r, h1], rfl, rfl⟩, by rw [ht]; exact hP, hD, hS.F ht⟩) hS.2.2 dR_nameValue_64)
    have e_r : sh_nameVal env ql = (sh_num (rw_tx x).tail).map (fun v => -v) := by rw [e_n, if_neg (by omega), if_pos c_2]
    refine lv_aload_n hx hb dR_nameValue_38 rfl (lv_at hl 0 rfl) ?_
    refine va_getN (D := (dC, dI)) (ci := 0) (v := .ref x.1.2.2) (C := "ShellSum$Named") (T := TN) (N := 3) hx hb htz zu_N hown hK hP ((fr.length + 6) + 3 * i) ho rfl 1 (by decide) (va_Nw.use rfl (hN _ zn_1_161)) (fun _ h9 => h9) rfl dR_nameValue_39 ?_
    refine lv_iconst (v := 1) hx hb dR_nameValue_42 (by decide) ?_
    refine xw_topi (y := nI 1) (rfl) ?_
    refine lv_aload_n hx hb dR_nameValue_43 rfl (lv_at hl 0 rfl) ?_
    refine va_getN (D := (dC, dI)) (ci := 0) (v := .int x.2.2.2) (C := "ShellSum$Named") (T := TN) (N := 3) hx hb htz zu_N hown hK hP ((fr.length + 6) + 3 * i) ho rfl 2 (by decide) (va_Nw.use rfl (hN _ zn_1_164)) (fun _ h9 => h9) rfl dR_nameValue_44 ?_
    refine xw_topi (y := nI L) (hxL) ?_
    refine xw_topi (y := nI (1 + (rw_tx x).tail.length)) (by congr 1; simp only [List.length_tail]; omega) ?_
    have e_zk : zk (sh_nameVal env ql) = zk (sh_num (rw_tx x).tail) := by rw [e_r]; exact zk_map _ _
    refine zX_call (vx_runSN (As := [.ref x.1.2.2, .int (nI 1), .int (nI (1 + (rw_tx x).tail.length))]) (rest := []) ⟨hx, hb, hml, hown, htz⟩ (k_A_numberIn l hl9 dC dI kC kI kJ kQ _ _ ((fr.length + 6) + 3 * i + 2) 20 1 x.1.2.2 x.2.2.1 (rw_tx x).tail hro (fun j h => by rw [rw_tx_at hL hxL (by simp only [List.length_tail] at h; omega)]; simp [sh_at, Nat.add_comm]) (by simp only [List.length_tail]; omega) (by decide)) ⟨va_cnB 3 htz (zg_c zw_2_70) rfl rfl rfl (hN _ zn_2_68) (htz _ zw_1_1) (by decide +kernel) ⟨Nat.le_of_ble_eq_true rfl, Nat.le_of_ble_eq_true rfl⟩, htz _ zw_2_69, trivial⟩ (zV_S hP hK hD hN hT hU hS hA) rfl rfl hl.1 rfl (lv_room (Nat.le_of_ble_eq_true rfl)) dR_nameValue_47 ⟨by show 0 + zk (sh_num (rw_tx x).tail) ≤ zk (sh_nameVal env ql); omega, by show 0 + 6 * zk (sh_num (rw_tx x).tail) ≤ 6 * zk (sh_nameVal env ql); omega⟩) hD hS hA (fun ce q9 w H locs hp hP hD hS hce hcv hcl => ?_) (fun v w H locs hp hP hD hS => ?_)
    · obtain ⟨h1, hw⟩ := hp
      rw [hw] at hP hD
      exact zX_out hEx hlocks ⟨by rw [e_r, h1]; rfl, rfl⟩ hP hD hS hce hcv hcl (by omega) (by omega)
    obtain ⟨v9, h1, rfl, hw⟩ := hp
    rw [hw] at hP hD
    refine W.eq (g2 := F0 m 50 ls [.long v9]) rfl ?_
    refine lv_lneg hx hb dR_nameValue_50 ?_
    refine W.widen (k := zk (sh_nameVal env ql)) (n := 6 * zk (sh_nameVal env ql)) (by omega) (by omega) ?_
    exact vx_ret (W.lret (v := -v9) hx hb hr (fun t ht _ => ⟨_, _, rfl, ⟨-v9, by rw [e_r, h1]; rfl, rfl, rfl⟩, by rw [ht]; exact hP, hD, hS.F ht⟩) hS.2.2 dR_nameValue_51)
  have e_r : sh_nameVal env ql = some 0 := by rw [e_n, if_pos (by rw [hlt]; exact xi_eq (b := 0) c_1 (by omega) (by decide))]
  refine lv_lconst (v := 0) hx hb dR_nameValue_25 (by decide) ?_
  refine W.widen (k := zk (sh_nameVal env ql)) (n := 6 * zk (sh_nameVal env ql)) (Nat.zero_le _) (Nat.zero_le _) ?_
  exact vx_ret (W.lret (v := 0) hx hb hr (fun t ht _ => ⟨_, _, rfl, ⟨0, e_r, rfl, rfl⟩, by rw [ht]; exact hP, hD, hS.F ht⟩) hS.2.2 dR_nameValue_26)
