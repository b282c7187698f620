set_option maxHeartbeats 4000000 in
set_option maxRecDepth 100000 in
/-- word() -/
theorem k_R_word (l : Launch) (hl9 : l.stackTraces = false) (dC : Nat → ClassId) (dI : Nat → Nat → Nat) (kC kI kJ kQ : ClassId) (a0 aR aN aS aF aK : Nat) (wt un : Nat) (rs : Int64) (fx sg : Nat → Int32) (ff : Nat → Int64) (q : Nat → Option Nat) (tx : List Int32) (ns : List rw_N) (env : sh_Env) (fr : va_W) (hx3 : tx.length ≤ 300) (hB : sh_B tx) (hfx : ∀ j, j < tx.length → fx j = sh_at tx j) (hE : zEn q ns env) (sz : Nat) (p0 : Nat) (hp0 : p0 ≤ tx.length) (hun : un ≤ 200) : vx_Met l yR_word wsR_word ({ frames := 8, cells := zk (sh_W tx un p0 env).1, slots := 6 * zk (sh_W tx un p0 env).1, locals := 140 }) (va_Pc [.ref a0] (zV dC dI ([(kC, .char), (kI, .int), (kJ, .long), (kQ, .object "ShellSum$Named")]) ((a0, .inr (2, [.ref aR, .ref aN, .ref aS, .ref aF, .int (nI wt), .int (nI tx.length), .int (nI p0), .int (nI un), .long rs])) :: (aR, .inl (kC, 300, .inl fx)) :: (aN, .inr (1, [.ref aK, .int (nI ns.length)])) :: (aK, .inl (kQ, 64, .inr (.inr (.inr (.inr q))))) :: (aS, .inl (kI, 150, .inl sg)) :: (aF, .inl (kJ, 150, .inr (.inl ff))) :: (fr ++ rw_p 0 kC ns)) sz)) (zQ dC dI (va_A ((a0, .inr (2, [.ref aR, .ref aN, .ref aS, .ref aF, .int (nI wt), .int (nI tx.length), .int (nI p0), .int (nI un), .long rs])) :: (aR, .inl (kC, 300, .inl fx)) :: (aN, .inr (1, [.ref aK, .int (nI ns.length)])) :: (aK, .inl (kQ, 64, .inr (.inr (.inr (.inr q))))) :: (aS, .inl (kI, 150, .inl sg)) :: (aF, .inl (kJ, 150, .inr (.inl ff))) :: (fr ++ rw_p 0 kC ns)) sz) (fun v w => ∃ z, (sh_W tx un p0 env).1 = some z ∧ v = some (.long z.1) ∧ w = ((a0, .inr (2, [.ref aR, .ref aN, .ref aS, .ref aF, .int (nI wt), .int (nI tx.length), .int (nI z.2), .int (nI un), .long rs])) :: (aR, .inl (kC, 300, .inl fx)) :: (aN, .inr (1, [.ref aK, .int (nI ns.length)])) :: (aK, .inl (kQ, 64, .inr (.inr (.inr (.inr q))))) :: (aS, .inl (kI, 150, .inl sg)) :: (aF, .inl (kJ, 150, .inr (.inl ff))) :: (fr ++ rw_p 0 kC ns)))) (zX dC dI (va_A ((a0, .inr (2, [.ref aR, .ref aN, .ref aS, .ref aF, .int (nI wt), .int (nI tx.length), .int (nI p0), .int (nI un), .long rs])) :: (aR, .inl (kC, 300, .inl fx)) :: (aN, .inr (1, [.ref aK, .int (nI ns.length)])) :: (aK, .inl (kQ, 64, .inr (.inr (.inr (.inr q))))) :: (aS, .inl (kI, 150, .inl sg)) :: (aF, .inl (kJ, 150, .inr (.inl ff))) :: (fr ++ rw_p 0 kC ns)) sz) (fun w => (sh_W tx un p0 env).1 = none ∧ w = ((a0, .inr (2, [.ref aR, .ref aN, .ref aS, .ref aF, .int (nI wt), .int (nI tx.length), .int (nI (sh_wend tx p0)), .int (nI un), .long rs])) :: (aR, .inl (kC, 300, .inl fx)) :: (aN, .inr (1, [.ref aK, .int (nI ns.length)])) :: (aK, .inl (kQ, 64, .inr (.inr (.inr (.inr q))))) :: (aS, .inl (kI, 150, .inl sg)) :: (aF, .inl (kJ, 150, .inr (.inl ff))) :: (fr ++ rw_p 0 kC ns)))) (zk (sh_W tx un p0 env).1) (6 * zk (sh_W tx un p0 env).1) (va_A ((a0, .inr (2, [.ref aR, .ref aN, .ref aS, .ref aF, .int (nI wt), .int (nI tx.length), .int (nI p0), .int (nI un), .long rs])) :: (aR, .inl (kC, 300, .inl fx)) :: (aN, .inr (1, [.ref aK, .int (nI ns.length)])) :: (aK, .inl (kQ, 64, .inr (.inr (.inr (.inr q))))) :: (aS, .inl (kI, 150, .inl sg)) :: (aF, .inl (kJ, 150, .inr (.inl ff))) :: (fr ++ rw_p 0 kC ns)) sz) := by
  refine vx_ofW (cc := cR_word) (maxL := 3) (ret := (some .long)) (by decide) rfl ?_
  intro p e s m args below meth c s₁ B hml hEx hv
  obtain ⟨rfl, ⟨hsz, hP, hK, hD0, hN⟩, hT, hU⟩ := hv
  subst hsz
  have hD := hD0.self (sz := s.heap.size)
  generalize hAe : va_A ((a0, .inr (2, [.ref aR, .ref aN, .ref aS, .ref aF, .int (nI wt), .int (nI tx.length), .int (nI p0), .int (nI un), .long rs])) :: (aR, .inl (kC, 300, .inl fx)) :: (aN, .inr (1, [.ref aK, .int (nI ns.length)])) :: (aK, .inl (kQ, 64, .inr (.inr (.inr (.inr q))))) :: (aS, .inl (kI, 150, .inl sg)) :: (aF, .inl (kJ, 150, .inr (.inl ff))) :: (fr ++ rw_p 0 kC ns)) s.heap.size = A at hD hU ⊢
  have hA : ∀ q : Nat, s.heap.size ≤ q → A q := fun q h => by rw [← hAe]; exact Or.inr h
  have hS : va_S A s.heap s.heap [] := va_S.rf
  have hx := B.exec
  have hb := B.bytes
  have hr := B.returns
  have htz : ∀ w ∈ zw, w.before _ s = true := fun w h => atoms_spec (ws := wsR_word) B.pre w (List.mem_cons_of_mem _ h)
  have hown : s.vm.findClass "ShellSum$Reckoner" = some m.cls := findClass_of_methodNamed B.named
  have hlocks := B.notSynchronized
  have hl := lv_entry ([.ref a0]) (n := 3) (Nat.le_of_ble_eq_true rfl)
  rw [lg_entry_eq]
  generalize (lg_sl ([.ref a0]) ++ List.replicate (3 - (lg_sl ([.ref a0])).length) Slot.unset).toArray = ls at hl ⊢
  have hwe := sh_wend_le hp0
  have hwg := sh_wend_ge tx p0
  have hcl9 : (sh_cut tx p0 (sh_wend tx p0)).length = sh_wend tx p0 - p0 := sh_cut_len hwe
  have hca : ∀ j, j < (sh_cut tx p0 (sh_wend tx p0)).length → sh_at tx (p0 + j) = sh_at (sh_cut tx p0 (sh_wend tx p0)) j := fun j h => (sh_cut_at (by omega)).symm
  have hl : lv_has ls 3 [(0, .ref a0)] := hl
  refine lv_aload_n hx hb dR_word_0 rfl (lv_at hl 0 rfl) ?_
  refine va_get (D := (dC, dI)) (ci := 2) (v := .int (nI p0)) (C := "ShellSum$Reckoner") (T := TR) (N := 9) hx hb htz zu_R hown hK hP 0 rfl rfl 6 (by decide) (htz _ zw_1_51) (fun _ h9 => h9) rfl dR_word_1 ?_
  refine lv_istore_n (lv' := [(1, .int (nI p0)), (0, .ref a0)]) hx hb dR_word_4 rfl hl (by decide) rfl (fun ls hl => ?_)
  refine lv_aload_n hx hb dR_word_5 rfl (lv_at hl 1 rfl) ?_
  refine rq_call (va_runV (As := []) (rest := []) ⟨hx, hb, hml, hown, htz⟩ (k_R_wordEnd l dC dI kC kI kJ kQ a0 aR aN aS aF (nI wt) (nI un) rs fx tx ((aN, .inr (1, [.ref aK, .int (nI ns.length)])) :: (aK, .inl (kQ, 64, .inr (.inr (.inr (.inr q))))) :: (aS, .inl (kI, 150, .inl sg)) :: (aF, .inl (kJ, 150, .inr (.inl ff))) :: (fr ++ rw_p 0 kC ns)) hx3 hB hfx p0 hp0) (cwV 0 htz (zg_V zw_1_216 zw_1_218 zs_R_wordEnd zw_1_2 zw_1_219) rfl rfl rfl (by decide +kernel) ⟨Nat.le_of_ble_eq_true rfl, Nat.le_of_ble_eq_true rfl⟩) (zR_V hP hK hN (va_recv hK hP (ci := 2) (q0 := 0) rfl rfl)) rfl rfl hl.1 rfl (lv_room (Nat.le_of_ble_eq_true rfl)) dR_word_6 ⟨Nat.zero_le _, Nat.zero_le _⟩) ?_
  refine W.eq (g2 := F0 m 9 ls [.int (nI (sh_wend tx p0))]) rfl ?_
  refine lv_istore_n (lv' := [(2, .int (nI (sh_wend tx p0))), (1, .int (nI p0)), (0, .ref a0)]) hx hb dR_word_9 rfl hl (by decide) rfl (fun ls hl => ?_)
  refine lv_aload_n hx hb dR_word_10 rfl (lv_at hl 2 rfl) ?_
  refine lv_iload_n hx hb dR_word_11 rfl (lv_at hl 0 rfl) ?_
  refine va_put (D := (dC, dI)) (ci := 2) (v := .int (nI (sh_wend tx p0))) (ty := .int) (C := "ShellSum$Reckoner") (T := TR) (N := 9) hx hb htz zu_R tyR tyR_ok nmR hown hK hP hD hS 0 rfl rfl 6 (by decide) (htz _ zw_1_51) (fun _ h9 => h9) rfl (by decide +kernel) rfl rfl (Nat.le_of_ble_eq_true rfl) dR_word_12 (fun H locs hP hD hS => ?_)
  have hP : va_P (dC, dI) vwCl ((a0, .inr (2, [.ref aR, .ref aN, .ref aS, .ref aF, .int (nI wt), .int (nI tx.length), .int (nI (sh_wend tx p0)), .int (nI un), .long rs])) :: (aR, .inl (kC, 300, .inl fx)) :: (aN, .inr (1, [.ref aK, .int (nI ns.length)])) :: (aK, .inl (kQ, 64, .inr (.inr (.inr (.inr q))))) :: (aS, .inl (kI, 150, .inl sg)) :: (aF, .inl (kJ, 150, .inr (.inl ff))) :: (fr ++ rw_p 0 kC ns)) _ := hP
  have hD : va_D A ((a0, .inr (2, [.ref aR, .ref aN, .ref aS, .ref aF, .int (nI wt), .int (nI tx.length), .int (nI (sh_wend tx p0)), .int (nI un), .long rs])) :: (aR, .inl (kC, 300, .inl fx)) :: (aN, .inr (1, [.ref aK, .int (nI ns.length)])) :: (aK, .inl (kQ, 64, .inr (.inr (.inr (.inr q))))) :: (aS, .inl (kI, 150, .inl sg)) :: (aF, .inl (kJ, 150, .inr (.inl ff))) :: (fr ++ rw_p 0 kC ns)) := hD
  refine lv_aload_n hx hb dR_word_15 rfl (lv_at hl 2 rfl) ?_
  refine lv_iload_n hx hb dR_word_16 rfl (lv_at hl 1 rfl) ?_
  refine rq_call (va_runV (As := [.int (nI p0)]) (rest := []) ⟨hx, hb, hml, hown, htz⟩ (k_R_charAt l dC dI kC kI kJ kQ a0 aR aN aS aF (nI wt) (nI un) rs fx tx ((aN, .inr (1, [.ref aK, .int (nI ns.length)])) :: (aK, .inl (kQ, 64, .inr (.inr (.inr (.inr q))))) :: (aS, .inl (kI, 150, .inl sg)) :: (aF, .inl (kJ, 150, .inr (.inl ff))) :: (fr ++ rw_p 0 kC ns)) hx3 hB hfx (nI (sh_wend tx p0)) p0 (by omega)) (cwV 1 htz (zg_V zw_1_206 zw_1_208 zs_R_charAt zw_1_2 zw_1_209) rfl rfl rfl (by decide +kernel) ⟨Nat.le_of_ble_eq_true rfl, Nat.le_of_ble_eq_true rfl⟩) (zR_V hP hK hN (va_recv hK hP (ci := 2) (q0 := 0) rfl rfl)) rfl rfl hl.1 rfl (lv_room (Nat.le_of_ble_eq_true rfl)) dR_word_17 ⟨Nat.zero_le _, Nat.zero_le _⟩) ?_
  refine W.eq (g2 := F0 m 20 ls [.int (sh_at tx p0)]) rfl ?_
  refine rq_call (va_runSN (As := [.int (sh_at tx p0)]) (rest := []) ⟨hx, hb, hml, hown, htz⟩ (k_A_isDigit l (sh_at tx p0)) ⟨va_cnB 1 htz (zg_c zw_1_133) rfl rfl rfl (hN _ zn_2_131) (htz _ zw_1_1) (by decide +kernel) ⟨Nat.le_of_ble_eq_true rfl, Nat.le_of_ble_eq_true rfl⟩, htz _ zw_1_132, trivial⟩ rq_pre rfl rfl hl.1 rfl (lv_room (Nat.le_of_ble_eq_true rfl)) dR_word_20 ⟨Nat.zero_le _, Nat.zero_le _⟩) ?_
  refine W.eq (g2 := F0 m 23 ls [.int (sh_b (sh_digit (sh_at tx p0)))]) rfl ?_
  refine lv_if_eq (tgt := 36) hx hb dR_word_23 (by decide) (fun c_1 => ?_) (fun c_1 => ?_)
  · skip
    have e_23 : sh_digit (sh_at tx p0) = false := by grind [sh_b]
    refine lv_aload_n hx hb dR_word_36 rfl (lv_at hl 2 rfl) ?_
    refine lv_iload_n hx hb dR_word_37 rfl (lv_at hl 1 rfl) ?_
    refine rq_call (va_runV (As := [.int (nI p0)]) (rest := []) ⟨hx, hb, hml, hown, htz⟩ (k_R_charAt l dC dI kC kI kJ kQ a0 aR aN aS aF (nI wt) (nI un) rs fx tx ((aN, .inr (1, [.ref aK, .int (nI ns.length)])) :: (aK, .inl (kQ, 64, .inr (.inr (.inr (.inr q))))) :: (aS, .inl (kI, 150, .inl sg)) :: (aF, .inl (kJ, 150, .inr (.inl ff))) :: (fr ++ rw_p 0 kC ns)) hx3 hB hfx (nI (sh_wend tx p0)) p0 (by omega)) (cwV 1 htz (zg_V zw_1_206 zw_1_208 zs_R_charAt zw_1_2 zw_1_209) rfl rfl rfl (by decide +kernel) ⟨Nat.le_of_ble_eq_true rfl, Nat.le_of_ble_eq_true rfl⟩) (zR_V hP hK hN (va_recv hK hP (ci := 2) (q0 := 0) rfl rfl)) rfl rfl hl.1 rfl (lv_room (Nat.le_of_ble_eq_true rfl)) dR_word_38 ⟨Nat.zero_le _, Nat.zero_le _⟩) ?_
    refine W.eq (g2 := F0 m 41 ls [.int (sh_at tx p0)]) rfl ?_
    refine rq_call (va_runSN (As := [.int (sh_at tx p0)]) (rest := []) ⟨hx, hb, hml, hown, htz⟩ (k_A_startsName l (sh_at tx p0)) ⟨va_cnB 1 htz (zg_c zw_1_127) rfl rfl rfl (hN _ zn_1_215) (htz _ zw_1_1) (by decide +kernel) ⟨Nat.le_of_ble_eq_true rfl, Nat.le_of_ble_eq_true rfl⟩, htz _ zw_1_126, trivial⟩ rq_pre rfl rfl hl.1 rfl (lv_room (Nat.le_of_ble_eq_true rfl)) dR_word_41 ⟨Nat.zero_le _, Nat.zero_le _⟩) ?_
    refine W.eq (g2 := F0 m 44 ls [.int (sh_b (sh_start (sh_at tx p0)))]) rfl ?_
    refine lv_if_ne (tgt := 57) hx hb dR_word_44 (by decide) (fun c_2 => ?_) (fun c_2 => ?_)
    · skip
      have e_44 : sh_start (sh_at tx p0) = true := by grind [sh_b]
      refine lv_aload_n hx hb dR_word_57 rfl (lv_at hl 2 rfl) ?_
      refine va_get (D := (dC, dI)) (ci := 2) (v := .int (nI un)) (C := "ShellSum$Reckoner") (T := TR) (N := 9) hx hb htz zu_R hown hK hP 0 rfl rfl 7 (by decide) (htz _ zw_1_52) (fun _ h9 => h9) rfl dR_word_58 ?_
      refine lv_if_le (tgt := 68) hx hb dR_word_61 (by decide) (fun c_3 => ?_) (fun c_3 => ?_)
      · skip
        have e_61 : ¬ 0 < un := Nat.not_lt.mpr (xi_le (b := 0) c_3 (by omega) (by decide))
        have e_r : (sh_W tx un p0 env).1 = (sh_nameVal env (sh_cut tx p0 (sh_wend tx p0))).map (fun v => (v, sh_wend tx p0)) := by unfold sh_W; rw [if_neg (by rw [e_23]; decide), if_pos e_44, if_neg e_61]
        refine lv_aload_n hx hb dR_word_68 rfl (lv_at hl 2 rfl) ?_
        refine lv_iload_n hx hb dR_word_69 rfl (lv_at hl 1 rfl) ?_
        refine lv_iload_n hx hb dR_word_70 rfl (lv_at hl 0 rfl) ?_
        refine xw_topi (y := nI (p0 + (sh_cut tx p0 (sh_wend tx p0)).length)) (by congr 1; omega) ?_
        have e_zk : zk (sh_W tx un p0 env).1 = zk (sh_nameVal env (sh_cut tx p0 (sh_wend tx p0))) := by rw [e_r, zk_map]
        refine zX_call (vx_runV (As := [.int (nI p0), .int (nI (p0 + (sh_cut tx p0 (sh_wend tx p0)).length))]) (rest := []) ⟨hx, hb, hml, hown, htz⟩ (k_R_nameValue l hl9 dC dI kC kI kJ kQ a0 aR aN aS aF aK (nI wt) (nI un) rs fx sg ff q tx ns env fr hx3 hB hfx hE _ (nI (sh_wend tx p0)) p0 (sh_cut tx p0 (sh_wend tx p0)) hca (by omega)) (cwV 2 htz (zg_V zw_2_63 zw_2_65 zs_R_nameValue zw_1_2 zw_2_66) rfl rfl rfl (by decide +kernel) ⟨Nat.le_of_ble_eq_true rfl, Nat.le_of_ble_eq_true rfl⟩) (zV_V hP hK hD hN hT hU hS hA (va_recv hK hP (ci := 2) (q0 := 0) rfl rfl)) rfl rfl hl.1 rfl (lv_room (Nat.le_of_ble_eq_true rfl)) dR_word_71 ⟨by show 0 + (zk (sh_nameVal env (sh_cut tx p0 (sh_wend tx p0)))) ≤ zk (sh_W tx un p0 env).1; omega, by show 0 + (6 * zk (sh_nameVal env (sh_cut tx p0 (sh_wend tx p0)))) ≤ 6 * zk (sh_W tx un p0 env).1; omega⟩) hD hS hA (fun ce q9 w H locs hp hP hD hS hce hcv hcl => ?_) (fun v w H locs hp hP hD hS => ?_)
        · skip
          obtain ⟨h1, hw⟩ := hp
          rw [hw] at hP hD
          exact zX_out hEx hlocks ⟨by rw [e_r, h1]; rfl, rfl⟩ hP hD hS hce hcv hcl (by omega) (by omega)
        obtain ⟨x, h1, rfl, hw⟩ := hp
        rw [hw] at hP hD
        refine W.eq (g2 := F0 m 74 ls [.long x]) rfl ?_
        refine W.widen (k := zk (sh_W tx un p0 env).1) (n := 6 * zk (sh_W tx un p0 env).1) (by omega) (by omega) ?_
        exact vx_ret (W.lret (v := x) hx hb hr (fun t ht _ => ⟨_, _, rfl, ⟨(x, sh_wend tx p0), by rw [e_r, h1]; rfl, rfl, rfl⟩, by rw [ht]; exact hP, hD, hS.F ht⟩) hS.2.2 dR_word_74)
      have e_61 : 0 < un := xi_nle (b := 0) c_3 (by omega) (by decide)
      have e_r : (sh_W tx un p0 env).1 = some (0, sh_wend tx p0) := by unfold sh_W; rw [if_neg (by rw [e_23]; decide), if_pos e_44, if_pos e_61]
      refine lv_lconst (v := 0) hx hb dR_word_64 (by decide) ?_
      refine lv_goto (tgt := 74) hx hb dR_word_65 (by decide) ?_
      refine W.widen (k := zk (sh_W tx un p0 env).1) (n := 6 * zk (sh_W tx un p0 env).1) (Nat.zero_le _) (Nat.zero_le _) ?_
      exact vx_ret (W.lret (v := 0) hx hb hr (fun t ht _ => ⟨_, _, rfl, ⟨(0, sh_wend tx p0), e_r, rfl, rfl⟩, by rw [ht]; exact hP, hD, hS.F ht⟩) hS.2.2 dR_word_74)
    have e_44 : sh_start (sh_at tx p0) = false := by grind [sh_b]
    have e_r : (sh_W tx un p0 env).1 = none := by unfold sh_W; rw [if_neg (by rw [e_23]; decide), if_neg (by rw [e_44]; decide)]
    have e_k : zk (sh_W tx un p0 env).1 = 1 := by rw [e_r]; rfl
    exact zThrow (own := "ShellSum$Reckoner") (text := "a number, a name or a bracket is missing") (ik := 54) (is := 126) (ic := 116) hx hb hl9 hown (htz _ zw_1_201) (htz _ zw_1_9) (hT _ _ _ zstr_R_126) (zx_R htz hN) zx_oR hU (hl.1.trans hml.symm) dR_word_47 dR_word_50 dR_word_51 dR_word_53 dR_word_56 hEx hlocks (Nat.le_of_ble_eq_true rfl) (Nat.le_of_ble_eq_true rfl) (by show 0 + 1 ≤ zk (sh_W tx un p0 env).1; omega) (by show 0 + 6 ≤ 6 * zk (sh_W tx un p0 env).1; omega) (⟨e_r, rfl⟩) hP hD hS (by omega) (by omega)
  have e_23 : sh_digit (sh_at tx p0) = true := by grind [sh_b]
  have e_r : (sh_W tx un p0 env).1 = (sh_num (sh_cut tx p0 (sh_wend tx p0))).map (fun v => (v, sh_wend tx p0)) := by unfold sh_W; rw [if_pos e_23]
  refine lv_aload_n hx hb dR_word_26 rfl (lv_at hl 2 rfl) ?_
  refine va_get (D := (dC, dI)) (ci := 2) (v := .ref aR) (C := "ShellSum$Reckoner") (T := TR) (N := 9) hx hb htz zu_R hown hK hP 0 rfl rfl 0 (by decide) (htz _ zw_1_43) (fun _ h9 => h9) rfl dR_word_27 ?_
  refine lv_iload_n hx hb dR_word_30 rfl (lv_at hl 1 rfl) ?_
  refine lv_iload_n hx hb dR_word_31 rfl (lv_at hl 0 rfl) ?_
  refine xw_topi (y := nI (p0 + (sh_cut tx p0 (sh_wend tx p0)).length)) (by congr 1; omega) ?_
  have e_zk : zk (sh_W tx un p0 env).1 = zk (sh_num (sh_cut tx p0 (sh_wend tx p0))) := by rw [e_r, zk_map]
  refine zX_call (vx_runSN (As := [.ref aR, .int (nI p0), .int (nI (p0 + (sh_cut tx p0 (sh_wend tx p0)).length))]) (rest := []) ⟨hx, hb, hml, hown, htz⟩ (k_A_numberIn l hl9 dC dI kC kI kJ kQ _ _ 1 300 p0 aR fx (sh_cut tx p0 (sh_wend tx p0)) rfl (fun j h => by rw [hfx _ (by omega)]; exact hca j h) (by omega) (by decide)) ⟨va_cnB 3 htz (zg_c zw_2_70) rfl rfl rfl (hN _ zn_2_68) (htz _ zw_1_1) (by decide +kernel) ⟨Nat.le_of_ble_eq_true rfl, Nat.le_of_ble_eq_true rfl⟩, htz _ zw_2_69, trivial⟩ (zV_S hP hK hD hN hT hU hS hA) rfl rfl hl.1 rfl (lv_room (Nat.le_of_ble_eq_true rfl)) dR_word_32 ⟨by show 0 + (zk (sh_num (sh_cut tx p0 (sh_wend tx p0)))) ≤ zk (sh_W tx un p0 env).1; omega, by show 0 + (6 * zk (sh_num (sh_cut tx p0 (sh_wend tx p0)))) ≤ 6 * zk (sh_W tx un p0 env).1; omega⟩) hD hS hA (fun ce q9 w H locs hp hP hD hS hce hcv hcl => ?_) (fun v w H locs hp hP hD hS => ?_)
  · skip
    obtain ⟨h1, hw⟩ := hp
    rw [hw] at hP hD
    exact zX_out hEx hlocks ⟨by rw [e_r, h1]; rfl, rfl⟩ hP hD hS hce hcv hcl (by omega) (by omega)
  obtain ⟨x, h1, rfl, hw⟩ := hp
  rw [hw] at hP hD
  refine W.eq (g2 := F0 m 35 ls [.long x]) rfl ?_
  refine W.widen (k := zk (sh_W tx un p0 env).1) (n := 6 * zk (sh_W tx un p0 env).1) (by omega) (by omega) ?_
  exact vx_ret (W.lret (v := x) hx hb hr (fun t ht _ => ⟨_, _, rfl, ⟨(x, sh_wend tx p0), by rw [e_r, h1]; rfl, rfl, rfl⟩, by rw [ht]; exact hP, hD, hS.F ht⟩) hS.2.2 dR_word_35)
set_option maxHeartbeats 4000000 in
set_option maxRecDepth 100000 in
/-- await(sign, first) -/
theorem k_R_await (l : Launch) (dC : Nat → ClassId) (dI : Nat → Nat → Nat) (kC kI kJ kQ : ClassId) (a0 aR aN aS aF aK : Nat) (wt un : Nat) (rs : Int64) (fx sg : Nat → Int32) (ff : Nat → Int64) (q : Nat → Option Nat) (tx : List Int32) (ns : List rw_N) (env : sh_Env) (fr : va_W) (hx3 : tx.length ≤ 300) (hB : sh_B tx) (hfx : ∀ j, j < tx.length → fx j = sh_at tx j) (hE : zEn q ns env) (sz : Nat) (pl : Int32) (s0 : Int32) (v0 : Int64) (hwt : wt < 150) (hun : un ≤ 200) : Met l yR_await wsR_await ({ frames := 6, cells := 0, slots := 0, locals := 82 }) (va_Pc [.ref a0, .int s0, .long v0] (zW dC dI ([(kC, .char), (kI, .int), (kJ, .long), (kQ, .object "ShellSum$Named")]) ((a0, .inr (2, [.ref aR, .ref aN, .ref aS, .ref aF, .int (nI wt), .int (nI tx.length), .int pl, .int (nI un), .long rs])) :: (aR, .inl (kC, 300, .inl fx)) :: (aN, .inr (1, [.ref aK, .int (nI ns.length)])) :: (aK, .inl (kQ, 64, .inr (.inr (.inr (.inr q))))) :: (aS, .inl (kI, 150, .inl sg)) :: (aF, .inl (kJ, 150, .inr (.inl ff))) :: (fr ++ rw_p 0 kC ns)) sz)) (zQ dC dI (va_A ((a0, .inr (2, [.ref aR, .ref aN, .ref aS, .ref aF, .int (nI wt), .int (nI tx.length), .int pl, .int (nI un), .long rs])) :: (aR, .inl (kC, 300, .inl fx)) :: (aN, .inr (1, [.ref aK, .int (nI ns.length)])) :: (aK, .inl (kQ, 64, .inr (.inr (.inr (.inr q))))) :: (aS, .inl (kI, 150, .inl sg)) :: (aF, .inl (kJ, 150, .inr (.inl ff))) :: (fr ++ rw_p 0 kC ns)) sz) (fun v w => v = none ∧ w = ((a0, .inr (2, [.ref aR, .ref aN, .ref aS, .ref aF, .int (nI (wt + 1)), .int (nI tx.length), .int pl, .int (nI (un + (if sh_settled s0 v0 = true then 1 else 0))), .long rs])) :: (aR, .inl (kC, 300, .inl fx)) :: (aN, .inr (1, [.ref aK, .int (nI ns.length)])) :: (aK, .inl (kQ, 64, .inr (.inr (.inr (.inr q))))) :: (aS, .inl (kI, 150, .inl (upd sg wt s0))) :: (aF, .inl (kJ, 150, .inr (.inl (vp_updL ff wt v0)))) :: (fr ++ rw_p 0 kC ns)))) 0 0 (va_A ((a0, .inr (2, [.ref aR, .ref aN, .ref aS, .ref aF, .int (nI wt), .int (nI tx.length), .int pl, .int (nI un), .long rs])) :: (aR, .inl (kC, 300, .inl fx)) :: (aN, .inr (1, [.ref aK, .int (nI ns.length)])) :: (aK, .inl (kQ, 64, .inr (.inr (.inr (.inr q))))) :: (aS, .inl (kI, 150, .inl sg)) :: (aF, .inl (kJ, 150, .inr (.inl ff))) :: (fr ++ rw_p 0 kC ns)) sz) := by
  refine Met.ofW (cc := cR_await) (maxL := 4) (ret := none) (by decide) rfl ?_
  intro p e s m args below meth c s₁ B hml hv
  obtain ⟨rfl, hsz, hP, hK, hD0, hN⟩ := hv
  subst hsz
  have hD := hD0.self (sz := s.heap.size)
  generalize hAe : va_A ((a0, .inr (2, [.ref aR, .ref aN, .ref aS, .ref aF, .int (nI wt), .int (nI tx.length), .int pl, .int (nI un), .long rs])) :: (aR, .inl (kC, 300, .inl fx)) :: (aN, .inr (1, [.ref aK, .int (nI ns.length)])) :: (aK, .inl (kQ, 64, .inr (.inr (.inr (.inr q))))) :: (aS, .inl (kI, 150, .inl sg)) :: (aF, .inl (kJ, 150, .inr (.inl ff))) :: (fr ++ rw_p 0 kC ns)) s.heap.size = A at hD ⊢
  have hA : ∀ q : Nat, s.heap.size ≤ q → A q := fun q h => by rw [← hAe]; exact Or.inr h
  have hS : va_S A s.heap s.heap [] := va_S.rf
  have hx := B.exec
  have hb := B.bytes
  have hr := B.returns
  have htz : ∀ w ∈ zw, w.before _ s = true := fun w h => atoms_spec (ws := wsR_await) B.pre w (List.mem_cons_of_mem _ h)
  have hown : s.vm.findClass "ShellSum$Reckoner" = some m.cls := findClass_of_methodNamed B.named
  have hlocks := B.notSynchronized
  have hl := lv_entry ([.ref a0, .int s0, .long v0]) (n := 4) (Nat.le_of_ble_eq_true rfl)
  rw [lg_entry_eq]
  generalize (lg_sl ([.ref a0, .int s0, .long v0]) ++ List.replicate (4 - (lg_sl ([.ref a0, .int s0, .long v0])).length) Slot.unset).toArray = ls at hl ⊢
  have hl : lv_has ls 4 [(0, .ref a0), (1, .int s0), (2, .long v0)] := hl
  refine lv_aload_n hx hb dR_await_0 rfl (lv_at hl 0 rfl) ?_
  refine va_get (D := (dC, dI)) (ci := 2) (v := .int (nI wt)) (C := "ShellSum$Reckoner") (T := TR) (N := 9) hx hb htz zu_R hown hK hP 0 rfl rfl 4 (by decide) (htz _ zw_1_49) (fun _ h9 => h9) rfl dR_await_1 ?_
  refine lv_if_lt (tgt := 17) hx hb dR_await_4 (by decide) (fun c_1 => ?_) (fun c_1 => ?_)
  · skip
    exact absurd c_1 (nI_pos (by omega))
  refine lv_aload_n hx hb dR_await_7 rfl (lv_at hl 0 rfl) ?_
  refine va_get (D := (dC, dI)) (ci := 2) (v := .int (nI wt)) (C := "ShellSum$Reckoner") (T := TR) (N := 9) hx hb htz zu_R hown hK hP 0 rfl rfl 4 (by decide) (htz _ zw_1_49) (fun _ h9 => h9) rfl dR_await_8 ?_
  refine lv_sipush (v := 150) hx hb dR_await_11 (by decide) ?_
  refine lv_icmp_lt (tgt := 27) hx hb dR_await_14 (by decide) (fun c_2 => ?_) (fun c_2 => ?_)
  · skip
    refine lv_aload_n hx hb dR_await_27 rfl (lv_at hl 0 rfl) ?_
    refine va_get (D := (dC, dI)) (ci := 2) (v := .ref aS) (C := "ShellSum$Reckoner") (T := TR) (N := 9) hx hb htz zu_R hown hK hP 0 rfl rfl 2 (by decide) (htz _ zw_1_47) (fun _ h9 => h9) rfl dR_await_28 ?_
    refine lv_aload_n hx hb dR_await_31 rfl (lv_at hl 0 rfl) ?_
    refine va_get (D := (dC, dI)) (ci := 2) (v := .int (nI wt)) (C := "ShellSum$Reckoner") (T := TR) (N := 9) hx hb htz zu_R hown hK hP 0 rfl rfl 4 (by decide) (htz _ zw_1_49) (fun _ h9 => h9) rfl dR_await_32 ?_
    refine lv_iload_n hx hb dR_await_35 rfl (lv_at hl 1 rfl) ?_
    refine va_iast hx hb hK hP hD hS 4 1 rfl rfl (vp_in_nI (by omega) (by omega)) dR_await_36 (fun H locs hP hD hS => ?_)
    have hP : va_P (dC, dI) vwCl ((a0, .inr (2, [.ref aR, .ref aN, .ref aS, .ref aF, .int (nI wt), .int (nI tx.length), .int pl, .int (nI un), .long rs])) :: (aR, .inl (kC, 300, .inl fx)) :: (aN, .inr (1, [.ref aK, .int (nI ns.length)])) :: (aK, .inl (kQ, 64, .inr (.inr (.inr (.inr q))))) :: (aS, .inl (kI, 150, .inl (upd sg (nI wt).toNatClampNeg s0))) :: (aF, .inl (kJ, 150, .inr (.inl ff))) :: (fr ++ rw_p 0 kC ns)) _ := hP
    have hD : va_D A ((a0, .inr (2, [.ref aR, .ref aN, .ref aS, .ref aF, .int (nI wt), .int (nI tx.length), .int pl, .int (nI un), .long rs])) :: (aR, .inl (kC, 300, .inl fx)) :: (aN, .inr (1, [.ref aK, .int (nI ns.length)])) :: (aK, .inl (kQ, 64, .inr (.inr (.inr (.inr q))))) :: (aS, .inl (kI, 150, .inl (upd sg (nI wt).toNatClampNeg s0))) :: (aF, .inl (kJ, 150, .inr (.inl ff))) :: (fr ++ rw_p 0 kC ns)) := hD
    have e_f : upd sg (nI wt).toNatClampNeg s0 = upd sg wt s0 := by rw [nI_clamp (by omega)]
    rw [e_f] at hP hD
    have hP : va_P (dC, dI) vwCl ((a0, .inr (2, [.ref aR, .ref aN, .ref aS, .ref aF, .int (nI wt), .int (nI tx.length), .int pl, .int (nI un), .long rs])) :: (aR, .inl (kC, 300, .inl fx)) :: (aN, .inr (1, [.ref aK, .int (nI ns.length)])) :: (aK, .inl (kQ, 64, .inr (.inr (.inr (.inr q))))) :: (aS, .inl (kI, 150, .inl (upd sg wt s0))) :: (aF, .inl (kJ, 150, .inr (.inl ff))) :: (fr ++ rw_p 0 kC ns)) _ := hP
    have hD : va_D A ((a0, .inr (2, [.ref aR, .ref aN, .ref aS, .ref aF, .int (nI wt), .int (nI tx.length), .int pl, .int (nI un), .long rs])) :: (aR, .inl (kC, 300, .inl fx)) :: (aN, .inr (1, [.ref aK, .int (nI ns.length)])) :: (aK, .inl (kQ, 64, .inr (.inr (.inr (.inr q))))) :: (aS, .inl (kI, 150, .inl (upd sg wt s0))) :: (aF, .inl (kJ, 150, .inr (.inl ff))) :: (fr ++ rw_p 0 kC ns)) := hD
    refine lv_aload_n hx hb dR_await_37 rfl (lv_at hl 0 rfl) ?_
    refine va_get (D := (dC, dI)) (ci := 2) (v := .ref aF) (C := "ShellSum$Reckoner") (T := TR) (N := 9) hx hb htz zu_R hown hK hP 0 rfl rfl 3 (by decide) (htz _ zw_1_48) (fun _ h9 => h9) rfl dR_await_38 ?_
    refine lv_aload_n hx hb dR_await_41 rfl (lv_at hl 0 rfl) ?_
    refine va_get (D := (dC, dI)) (ci := 2) (v := .int (nI wt)) (C := "ShellSum$Reckoner") (T := TR) (N := 9) hx hb htz zu_R hown hK hP 0 rfl rfl 4 (by decide) (htz _ zw_1_49) (fun _ h9 => h9) rfl dR_await_42 ?_
    refine lv_lload_n hx hb dR_await_45 rfl (lv_at hl 2 rfl) ?_
    refine va_last hx hb hK hP hD hS 5 2 rfl rfl (vp_in_nI (by omega) (by omega)) dR_await_46 (fun H locs hP hD hS => ?_)
    have hP : va_P (dC, dI) vwCl ((a0, .inr (2, [.ref aR, .ref aN, .ref aS, .ref aF, .int (nI wt), .int (nI tx.length), .int pl, .int (nI un), .long rs])) :: (aR, .inl (kC, 300, .inl fx)) :: (aN, .inr (1, [.ref aK, .int (nI ns.length)])) :: (aK, .inl (kQ, 64, .inr (.inr (.inr (.inr q))))) :: (aS, .inl (kI, 150, .inl (upd sg wt s0))) :: (aF, .inl (kJ, 150, .inr (.inl (vp_updL ff (nI wt).toNatClampNeg v0)))) :: (fr ++ rw_p 0 kC ns)) _ := hP
    have hD : va_D A ((a0, .inr (2, [.ref aR, .ref aN, .ref aS, .ref aF, .int (nI wt), .int (nI tx.length), .int pl, .int (nI un), .long rs])) :: (aR, .inl (kC, 300, .inl fx)) :: (aN, .inr (1, [.ref aK, .int (nI ns.length)])) :: (aK, .inl (kQ, 64, .inr (.inr (.inr (.inr q))))) :: (aS, .inl (kI, 150, .inl (upd sg wt s0))) :: (aF, .inl (kJ, 150, .inr (.inl (vp_updL ff (nI wt).toNatClampNeg v0)))) :: (fr ++ rw_p 0 kC ns)) := hD
    have e_f : vp_updL ff (nI wt).toNatClampNeg v0 = vp_updL ff wt v0 := by rw [nI_clamp (by omega)]
    rw [e_f] at hP hD
    have hP : va_P (dC, dI) vwCl ((a0, .inr (2, [.ref aR, .ref aN, .ref aS, .ref aF, .int (nI wt), .int (nI tx.length), .int pl, .int (nI un), .long rs])) :: (aR, .inl (kC, 300, .inl fx)) :: (aN, .inr (1, [.ref aK, .int (nI ns.length)])) :: (aK, .inl (kQ, 64, .inr (.inr (.inr (.inr q))))) :: (aS, .inl (kI, 150, .inl (upd sg wt s0))) :: (aF, .inl (kJ, 150, .inr (.inl (vp_updL ff wt v0)))) :: (fr ++ rw_p 0 kC ns)) _ := hP
    have hD : va_D A ((a0, .inr (2, [.ref aR, .ref aN, .ref aS, .ref aF, .int (nI wt), .int (nI tx.length), .int pl, .int (nI un), .long rs])) :: (aR, .inl (kC, 300, .inl fx)) :: (aN, .inr (1, [.ref aK, .int (nI ns.length)])) :: (aK, .inl (kQ, 64, .inr (.inr (.inr (.inr q))))) :: (aS, .inl (kI, 150, .inl (upd sg wt s0))) :: (aF, .inl (kJ, 150, .inr (.inl (vp_updL ff wt v0)))) :: (fr ++ rw_p 0 kC ns)) := hD
    refine lv_aload_n hx hb dR_await_47 rfl (lv_at hl 0 rfl) ?_
    refine lv_dup hx hb dR_await_48 rfl ?_
    refine va_get (D := (dC, dI)) (ci := 2) (v := .int (nI wt)) (C := "ShellSum$Reckoner") (T := TR) (N := 9) hx hb htz zu_R hown hK hP 0 rfl rfl 4 (by decide) (htz _ zw_1_49) (fun _ h9 => h9) rfl dR_await_49 ?_
    refine lv_iconst (v := 1) hx hb dR_await_52 (by decide) ?_
    refine lv_iadd hx hb dR_await_53 ?_
    refine xw_topi (y := nI (wt + 1)) (nI_add wt 1) ?_
    refine va_put (D := (dC, dI)) (ci := 2) (v := .int (nI (wt + 1))) (ty := .int) (C := "ShellSum$Reckoner") (T := TR) (N := 9) hx hb htz zu_R tyR tyR_ok nmR hown hK hP hD hS 0 rfl rfl 4 (by decide) (htz _ zw_1_49) (fun _ h9 => h9) rfl (by decide +kernel) rfl rfl (Nat.le_of_ble_eq_true rfl) dR_await_54 (fun H locs hP hD hS => ?_)
    have hP : va_P (dC, dI) vwCl ((a0, .inr (2, [.ref aR, .ref aN, .ref aS, .ref aF, .int (nI (wt + 1)), .int (nI tx.length), .int pl, .int (nI un), .long rs])) :: (aR, .inl (kC, 300, .inl fx)) :: (aN, .inr (1, [.ref aK, .int (nI ns.length)])) :: (aK, .inl (kQ, 64, .inr (.inr (.inr (.inr q))))) :: (aS, .inl (kI, 150, .inl (upd sg wt s0))) :: (aF, .inl (kJ, 150, .inr (.inl (vp_updL ff wt v0)))) :: (fr ++ rw_p 0 kC ns)) _ := hP
    have hD : va_D A ((a0, .inr (2, [.ref aR, .ref aN, .ref aS, .ref aF, .int (nI (wt + 1)), .int (nI tx.length), .int pl, .int (nI un), .long rs])) :: (aR, .inl (kC, 300, .inl fx)) :: (aN, .inr (1, [.ref aK, .int (nI ns.length)])) :: (aK, .inl (kQ, 64, .inr (.inr (.inr (.inr q))))) :: (aS, .inl (kI, 150, .inl (upd sg wt s0))) :: (aF, .inl (kJ, 150, .inr (.inl (vp_updL ff wt v0)))) :: (fr ++ rw_p 0 kC ns)) := hD
    refine lv_iload_n hx hb dR_await_57 rfl (lv_at hl 1 rfl) ?_
    refine lv_lload_n hx hb dR_await_58 rfl (lv_at hl 2 rfl) ?_
    refine rq_call (va_runSN (As := [.int s0, .long v0]) (rest := []) ⟨hx, hb, hml, hown, htz⟩ (k_G_isSettledBy l s0 v0) ⟨va_cnB 2 htz (zg_c zw_2_147) rfl rfl rfl (hN _ zn_2_145) (htz _ zw_1_5) (by decide +kernel) ⟨Nat.le_of_ble_eq_true rfl, Nat.le_of_ble_eq_true rfl⟩, htz _ zw_2_146, trivial⟩ rq_pre rfl rfl hl.1 rfl (lv_room (Nat.le_of_ble_eq_true rfl)) dR_await_59 ⟨Nat.zero_le _, Nat.zero_le _⟩) ?_
    refine W.eq (g2 := F0 m 62 ls [.int (sh_b (sh_settled s0 v0))]) rfl ?_
    refine lv_if_eq (tgt := 75) hx hb dR_await_62 (by decide) (fun c_3 => ?_) (fun c_3 => ?_)
    · skip
      have e_62 : sh_settled s0 v0 = false := by grind [sh_b]
      have e_un : un + (if sh_settled s0 v0 = true then 1 else 0) = un := by rw [if_neg (by rw [e_62]; decide)]; rfl
      refine W.widen (k := 0) (n := 0) (Nat.le_refl _) (Nat.le_refl _) ?_
      exact W.vret hx hb hr (fun t ht _ => ⟨_, _, rfl, ⟨rfl, by rw [e_un]⟩, by rw [ht]; exact hP, hD, hS.F ht⟩) hS.2.2 dR_await_75
    have e_62 : sh_settled s0 v0 = true := by grind [sh_b]
    have e_un : un + (if sh_settled s0 v0 = true then 1 else 0) = un + 1 := by rw [if_pos e_62]
    refine lv_aload_n hx hb dR_await_65 rfl (lv_at hl 0 rfl) ?_
    refine lv_dup hx hb dR_await_66 rfl ?_
    refine va_get (D := (dC, dI)) (ci := 2) (v := .int (nI un)) (C := "ShellSum$Reckoner") (T := TR) (N := 9) hx hb htz zu_R hown hK hP 0 rfl rfl 7 (by decide) (htz _ zw_1_52) (fun _ h9 => h9) rfl dR_await_67 ?_
    refine lv_iconst (v := 1) hx hb dR_await_70 (by decide) ?_
    refine lv_iadd hx hb dR_await_71 ?_
    refine xw_topi (y := nI (un + 1)) (nI_add un 1) ?_
    refine va_put (D := (dC, dI)) (ci := 2) (v := .int (nI (un + 1))) (ty := .int) (C := "ShellSum$Reckoner") (T := TR) (N := 9) hx hb htz zu_R tyR tyR_ok nmR hown hK hP hD hS 0 rfl rfl 7 (by decide) (htz _ zw_1_52) (fun _ h9 => h9) rfl (by decide +kernel) rfl rfl (Nat.le_of_ble_eq_true rfl) dR_await_72 (fun H locs hP hD hS => ?_)
    have hP : va_P (dC, dI) vwCl ((a0, .inr (2, [.ref aR, .ref aN, .ref aS, .ref aF, .int (nI (wt + 1)), .int (nI tx.length), .int pl, .int (nI (un + 1)), .long rs])) :: (aR, .inl (kC, 300, .inl fx)) :: (aN, .inr (1, [.ref aK, .int (nI ns.length)])) :: (aK, .inl (kQ, 64, .inr (.inr (.inr (.inr q))))) :: (aS, .inl (kI, 150, .inl (upd sg wt s0))) :: (aF, .inl (kJ, 150, .inr (.inl (vp_updL ff wt v0)))) :: (fr ++ rw_p 0 kC ns)) _ := hP
    have hD : va_D A ((a0, .inr (2, [.ref aR, .ref aN, .ref aS, .ref aF, .int (nI (wt + 1)), .int (nI tx.length), .int pl, .int (nI (un + 1)), .long rs])) :: (aR, .inl (kC, 300, .inl fx)) :: (aN, .inr (1, [.ref aK, .int (nI ns.length)])) :: (aK, .inl (kQ, 64, .inr (.inr (.inr (.inr q))))) :: (aS, .inl (kI, 150, .inl (upd sg wt s0))) :: (aF, .inl (kJ, 150, .inr (.inl (vp_updL ff wt v0)))) :: (fr ++ rw_p 0 kC ns)) := hD
    refine W.widen (k := 0) (n := 0) (Nat.le_refl _) (Nat.le_refl _) ?_
    exact W.vret hx hb hr (fun t ht _ => ⟨_, _, rfl, ⟨rfl, by rw [e_un]⟩, by rw [ht]; exact hP, hD, hS.F ht⟩) hS.2.2 dR_await_75
  exact absurd (xi_nlt (b := 150) c_2 (by omega) (by decide)) (by omega)
set_option maxHeartbeats 4000000 in
set_option maxRecDepth 100000 in
/-- join(sign, first, second) -/
theorem k_R_join (l : Launch) (hl9 : l.stackTraces = false) (dC : Nat → ClassId) (dI : Nat → Nat → Nat) (kC kI kJ kQ : ClassId) (a0 aR aN aS aF aK : Nat) (wt un : Nat) (rs : Int64) (fx sg : Nat → Int32) (ff : Nat → Int64) (q : Nat → Option Nat) (tx : List Int32) (ns : List rw_N) (env : sh_Env) (fr : va_W) (hx3 : tx.length ≤ 300) (hB : sh_B tx) (hfx : ∀ j, j < tx.length → fx j = sh_at tx j) (hE : zEn q ns env) (sz : Nat) (pl : Int32) (s0 : Int32) (f0 v0 : Int64) (hun : un ≤ 200) : vx_Met l yR_join wsR_join ({ frames := 8, cells := zk (sh_join un s0 f0 v0), slots := 6 * zk (sh_join un s0 f0 v0), locals := 140 }) (va_Pc [.ref a0, .int s0, .long f0, .long v0] (zV dC dI ([(kC, .char), (kI, .int), (kJ, .long), (kQ, .object "ShellSum$Named")]) ((a0, .inr (2, [.ref aR, .ref aN, .ref aS, .ref aF, .int (nI wt), .int (nI tx.length), .int pl, .int (nI (un + (if sh_settled s0 f0 = true then 1 else 0))), .long rs])) :: (aR, .inl (kC, 300, .inl fx)) :: (aN, .inr (1, [.ref aK, .int (nI ns.length)])) :: (aK, .inl (kQ, 64, .inr (.inr (.inr (.inr q))))) :: (aS, .inl (kI, 150, .inl sg)) :: (aF, .inl (kJ, 150, .inr (.inl ff))) :: (fr ++ rw_p 0 kC ns)) sz)) (zQ dC dI (va_A ((a0, .inr (2, [.ref aR, .ref aN, .ref aS, .ref aF, .int (nI wt), .int (nI tx.length), .int pl, .int (nI (un + (if sh_settled s0 f0 = true then 1 else 0))), .long rs])) :: (aR, .inl (kC, 300, .inl fx)) :: (aN, .inr (1, [.ref aK, .int (nI ns.length)])) :: (aK, .inl (kQ, 64, .inr (.inr (.inr (.inr q))))) :: (aS, .inl (kI, 150, .inl sg)) :: (aF, .inl (kJ, 150, .inr (.inl ff))) :: (fr ++ rw_p 0 kC ns)) sz) (fun v w => ∃ x, sh_join un s0 f0 v0 = some x ∧ v = some (.long x) ∧ w = ((a0, .inr (2, [.ref aR, .ref aN, .ref aS, .ref aF, .int (nI wt), .int (nI tx.length), .int pl, .int (nI un), .long rs])) :: (aR, .inl (kC, 300, .inl fx)) :: (aN, .inr (1, [.ref aK, .int (nI ns.length)])) :: (aK, .inl (kQ, 64, .inr (.inr (.inr (.inr q))))) :: (aS, .inl (kI, 150, .inl sg)) :: (aF, .inl (kJ, 150, .inr (.inl ff))) :: (fr ++ rw_p 0 kC ns)))) (zX dC dI (va_A ((a0, .inr (2, [.ref aR, .ref aN, .ref aS, .ref aF, .int (nI wt), .int (nI tx.length), .int pl, .int (nI (un + (if sh_settled s0 f0 = true then 1 else 0))), .long rs])) :: (aR, .inl (kC, 300, .inl fx)) :: (aN, .inr (1, [.ref aK, .int (nI ns.length)])) :: (aK, .inl (kQ, 64, .inr (.inr (.inr (.inr q))))) :: (aS, .inl (kI, 150, .inl sg)) :: (aF, .inl (kJ, 150, .inr (.inl ff))) :: (fr ++ rw_p 0 kC ns)) sz) (fun w => sh_join un s0 f0 v0 = none ∧ w = ((a0, .inr (2, [.ref aR, .ref aN, .ref aS, .ref aF, .int (nI wt), .int (nI tx.length), .int pl, .int (nI un), .long rs])) :: (aR, .inl (kC, 300, .inl fx)) :: (aN, .inr (1, [.ref aK, .int (nI ns.length)])) :: (aK, .inl (kQ, 64, .inr (.inr (.inr (.inr q))))) :: (aS, .inl (kI, 150, .inl sg)) :: (aF, .inl (kJ, 150, .inr (.inl ff))) :: (fr ++ rw_p 0 kC ns)))) (zk (sh_join un s0 f0 v0)) (6 * zk (sh_join un s0 f0 v0)) (va_A ((a0, .inr (2, [.ref aR, .ref aN, .ref aS, .ref aF, .int (nI wt), .int (nI tx.length), .int pl, .int (nI (un + (if sh_settled s0 f0 = true then 1 else 0))), .long rs])) :: (aR, .inl (kC, 300, .inl fx)) :: (aN, .inr (1, [.ref aK, .int (nI ns.length)])) :: (aK, .inl (kQ, 64, .inr (.inr (.inr (.inr q))))) :: (aS, .inl (kI, 150, .inl sg)) :: (aF, .inl (kJ, 150, .inr (.inl ff))) :: (fr ++ rw_p 0 kC ns)) sz) := by
  refine vx_ofW (cc := cR_join) (maxL := 6) (ret := (some .long)) (by decide) rfl ?_
  intro p e s m args below meth c s₁ B hml hEx hv
  obtain ⟨rfl, ⟨hsz, hP, hK, hD0, hN⟩, hT, hU⟩ := hv
  subst hsz
  have hD := hD0.self (sz := s.heap.size)
  generalize hAe : va_A ((a0, .inr (2, [.ref aR, .ref aN, .ref aS, .ref aF, .int (nI wt), .int (nI tx.length), .int pl, .int (nI (un + (if sh_settled s0 f0 = true then 1 else 0))), .long rs])) :: (aR, .inl (kC, 300, .inl fx)) :: (aN, .inr (1, [.ref aK, .int (nI ns.length)])) :: (aK, .inl (kQ, 64, .inr (.inr (.inr (.inr q))))) :: (aS, .inl (kI, 150, .inl sg)) :: (aF, .inl (kJ, 150, .inr (.inl ff))) :: (fr ++ rw_p 0 kC ns)) s.heap.size = A at hD hU ⊢
  have hA : ∀ q : Nat, s.heap.size ≤ q → A q := fun q h => by rw [← hAe]; exact Or.inr h
  have hS : va_S A s.heap s.heap [] := va_S.rf
  have hx := B.exec
  have hb := B.bytes
  have hr := B.returns
  have htz : ∀ w ∈ zw, w.before _ s = true := fun w h => atoms_spec (ws := wsR_join) B.pre w (List.mem_cons_of_mem _ h)
  have hown : s.vm.findClass "ShellSum$Reckoner" = some m.cls := findClass_of_methodNamed B.named
  have hlocks := B.notSynchronized
  have hl := lv_entry ([.ref a0, .int s0, .long f0, .long v0]) (n := 6) (Nat.le_of_ble_eq_true rfl)
  rw [lg_entry_eq]
  generalize (lg_sl ([.ref a0, .int s0, .long f0, .long v0]) ++ List.replicate (6 - (lg_sl ([.ref a0, .int s0, .long f0, .long v0])).length) Slot.unset).toArray = ls at hl ⊢
  have hl : lv_has ls 6 [(0, .ref a0), (1, .int s0), (2, .long f0), (4, .long v0)] := hl
  refine lv_iload_n hx hb dR_join_0 rfl (lv_at hl 1 rfl) ?_
  refine lv_lload_n hx hb dR_join_1 rfl (lv_at hl 2 rfl) ?_
  refine rq_call (va_runSN (As := [.int s0, .long f0]) (rest := []) ⟨hx, hb, hml, hown, htz⟩ (k_G_isSettledBy l s0 f0) ⟨va_cnB 2 htz (zg_c zw_2_147) rfl rfl rfl (hN _ zn_2_145) (htz _ zw_1_5) (by decide +kernel) ⟨Nat.le_of_ble_eq_true rfl, Nat.le_of_ble_eq_true rfl⟩, htz _ zw_2_146, trivial⟩ rq_pre rfl rfl hl.1 rfl (lv_room (Nat.le_of_ble_eq_true rfl)) dR_join_2 ⟨Nat.zero_le _, Nat.zero_le _⟩) ?_
  refine W.eq (g2 := F0 m 5 ls [.int (sh_b (sh_settled s0 f0))]) rfl ?_
  refine lv_if_eq (tgt := 31) hx hb dR_join_5 (by decide) (fun c_1 => ?_) (fun c_1 => ?_)
  · skip
    have e_5 : sh_settled s0 f0 = false := by grind [sh_b]
    have e_un : un + (if sh_settled s0 f0 = true then 1 else 0) = un := by rw [if_neg (by rw [e_5]; decide)]; rfl
    rw [e_un] at hP hD
    have hP : va_P (dC, dI) vwCl ((a0, .inr (2, [.ref aR, .ref aN, .ref aS, .ref aF, .int (nI wt), .int (nI tx.length), .int pl, .int (nI un), .long rs])) :: (aR, .inl (kC, 300, .inl fx)) :: (aN, .inr (1, [.ref aK, .int (nI ns.length)])) :: (aK, .inl (kQ, 64, .inr (.inr (.inr (.inr q))))) :: (aS, .inl (kI, 150, .inl sg)) :: (aF, .inl (kJ, 150, .inr (.inl ff))) :: (fr ++ rw_p 0 kC ns)) _ := hP
    have hD : va_D A ((a0, .inr (2, [.ref aR, .ref aN, .ref aS, .ref aF, .int (nI wt), .int (nI tx.length), .int pl, .int (nI un), .long rs])) :: (aR, .inl (kC, 300, .inl fx)) :: (aN, .inr (1, [.ref aK, .int (nI ns.length)])) :: (aK, .inl (kQ, 64, .inr (.inr (.inr (.inr q))))) :: (aS, .inl (kI, 150, .inl sg)) :: (aF, .inl (kJ, 150, .inr (.inl ff))) :: (fr ++ rw_p 0 kC ns)) := hD
    refine lv_aload_n hx hb dR_join_31 rfl (lv_at hl 0 rfl) ?_
    refine va_get (D := (dC, dI)) (ci := 2) (v := .int (nI un)) (C := "ShellSum$Reckoner") (T := TR) (N := 9) hx hb htz zu_R hown hK hP 0 rfl rfl 7 (by decide) (htz _ zw_1_52) (fun _ h9 => h9) rfl dR_join_32 ?_
    refine lv_if_le (tgt := 42) hx hb dR_join_35 (by decide) (fun c_2 => ?_) (fun c_2 => ?_)
    · skip
      have e_u : ¬ 0 < un := Nat.not_lt.mpr (xi_le (b := 0) c_2 (by omega) (by decide))
      have e_r : sh_join un s0 f0 v0 = sh_apply s0 f0 v0 := by unfold sh_join; rw [if_neg (by rw [e_5]; decide), if_neg e_u]
      refine lv_iload_n hx hb dR_join_42 rfl (lv_at hl 1 rfl) ?_
      refine lv_lload_n hx hb dR_join_43 rfl (lv_at hl 2 rfl) ?_
      refine lv_lload hx hb dR_join_44 (lv_at hl 3 rfl) ?_
      have e_zk : zk (sh_join un s0 f0 v0) = zk (sh_apply s0 f0 v0) := by rw [e_r]
      refine zX_call (vx_runSN (As := [.int s0, .long f0, .long v0]) (rest := []) ⟨hx, hb, hml, hown, htz⟩ (k_G_apply l hl9 dC dI _ _ _ s0 f0 v0) ⟨va_cnB 3 htz (zg_c zw_2_84) rfl rfl rfl (hN _ zn_2_82) (htz _ zw_1_5) (by decide +kernel) ⟨Nat.le_of_ble_eq_true rfl, Nat.le_of_ble_eq_true rfl⟩, htz _ zw_2_83, trivial⟩ (zV_S hP hK hD hN hT hU hS hA) rfl rfl hl.1 rfl (lv_room (Nat.le_of_ble_eq_true rfl)) dR_join_46 ⟨by show 0 + (zk (sh_apply s0 f0 v0)) ≤ zk (sh_join un s0 f0 v0); omega, by show 0 + (6 * zk (sh_apply s0 f0 v0)) ≤ 6 * zk (sh_join un s0 f0 v0); omega⟩) hD hS hA (fun ce q9 w H locs hp hP hD hS hce hcv hcl => ?_) (fun v w H locs hp hP hD hS => ?_)
      · skip
        obtain ⟨h1, hw⟩ := hp
        rw [hw] at hP hD
        exact zX_out hEx hlocks ⟨by rw [e_r, h1], rfl⟩ hP hD hS hce hcv hcl (by omega) (by omega)
      obtain ⟨x, h1, rfl, hw⟩ := hp
      rw [hw] at hP hD
      refine W.eq (g2 := F0 m 49 ls [.long x]) rfl ?_
      refine W.widen (k := zk (sh_join un s0 f0 v0)) (n := 6 * zk (sh_join un s0 f0 v0)) (by omega) (by omega) ?_
      exact vx_ret (W.lret (v := x) hx hb hr (fun t ht _ => ⟨_, _, rfl, ⟨x, by rw [e_r, h1], rfl, rfl⟩, by rw [ht]; exact hP, hD, hS.F ht⟩) hS.2.2 dR_join_49)
    have e_u : 0 < un := xi_nle (b := 0) c_2 (by omega) (by decide)
    have e_r : sh_join un s0 f0 v0 = some 0 := by unfold sh_join; rw [if_neg (by rw [e_5]; decide), if_pos e_u]
    refine lv_lconst (v := 0) hx hb dR_join_38 (by decide) ?_
    refine lv_goto (tgt := 49) hx hb dR_join_39 (by decide) ?_
    refine W.widen (k := zk (sh_join un s0 f0 v0)) (n := 6 * zk (sh_join un s0 f0 v0)) (Nat.zero_le _) (Nat.zero_le _) ?_
    exact vx_ret (W.lret (v := 0) hx hb hr (fun t ht _ => ⟨_, _, rfl, ⟨0, e_r, rfl, rfl⟩, by rw [ht]; exact hP, hD, hS.F ht⟩) hS.2.2 dR_join_49)
  have e_5 : sh_settled s0 f0 = true := by grind [sh_b]
  have e_un : un + (if sh_settled s0 f0 = true then 1 else 0) = un + 1 := by rw [if_pos e_5]
  rw [e_un] at hP hD
  have hP : va_P (dC, dI) vwCl ((a0, .inr (2, [.ref aR, .ref aN, .ref aS, .ref aF, .int (nI wt), .int (nI tx.length), .int pl, .int (nI (un + 1)), .long rs])) :: (aR, .inl (kC, 300, .inl fx)) :: (aN, .inr (1, [.ref aK, .int (nI ns.length)])) :: (aK, .inl (kQ, 64, .inr (.inr (.inr (.inr q))))) :: (aS, .inl (kI, 150, .inl sg)) :: (aF, .inl (kJ, 150, .inr (.inl ff))) :: (fr ++ rw_p 0 kC ns)) _ := hP
  have hD : va_D A ((a0, .inr (2, [.ref aR, .ref aN, .ref aS, .ref aF, .int (nI wt), .int (nI tx.length), .int pl, .int (nI (un + 1)), .long rs])) :: (aR, .inl (kC, 300, .inl fx)) :: (aN, .inr (1, [.ref aK, .int (nI ns.length)])) :: (aK, .inl (kQ, 64, .inr (.inr (.inr (.inr q))))) :: (aS, .inl (kI, 150, .inl sg)) :: (aF, .inl (kJ, 150, .inr (.inl ff))) :: (fr ++ rw_p 0 kC ns)) := hD
  refine lv_aload_n hx hb dR_join_8 rfl (lv_at hl 0 rfl) ?_
  refine lv_dup hx hb dR_join_9 rfl ?_
  refine va_get (D := (dC, dI)) (ci := 2) (v := .int (nI (un + 1))) (C := "ShellSum$Reckoner") (T := TR) (N := 9) hx hb htz zu_R hown hK hP 0 rfl rfl 7 (by decide) (htz _ zw_1_52) (fun _ h9 => h9) rfl dR_join_10 ?_
  refine lv_iconst (v := 1) hx hb dR_join_13 (by decide) ?_
  refine lv_isub hx hb dR_join_14 ?_
  refine xw_topi (y := nI un) (by rw [show nI (un + 1) - 1 = nI (un + 1 - 1) from pk_sub (b := 1) (by omega)]; rfl) ?_
  refine va_put (D := (dC, dI)) (ci := 2) (v := .int (nI un)) (ty := .int) (C := "ShellSum$Reckoner") (T := TR) (N := 9) hx hb htz zu_R tyR tyR_ok nmR hown hK hP hD hS 0 rfl rfl 7 (by decide) (htz _ zw_1_52) (fun _ h9 => h9) rfl (by decide +kernel) rfl rfl (Nat.le_of_ble_eq_true rfl) dR_join_15 (fun H locs hP hD hS => ?_)
  have hP : va_P (dC, dI) vwCl ((a0, .inr (2, [.ref aR, .ref aN, .ref aS, .ref aF, .int (nI wt), .int (nI tx.length), .int pl, .int (nI un), .long rs])) :: (aR, .inl (kC, 300, .inl fx)) :: (aN, .inr (1, [.ref aK, .int (nI ns.length)])) :: (aK, .inl (kQ, 64, .inr (.inr (.inr (.inr q))))) :: (aS, .inl (kI, 150, .inl sg)) :: (aF, .inl (kJ, 150, .inr (.inl ff))) :: (fr ++ rw_p 0 kC ns)) _ := hP
  have hD : va_D A ((a0, .inr (2, [.ref aR, .ref aN, .ref aS, .ref aF, .int (nI wt), .int (nI tx.length), .int pl, .int (nI un), .long rs])) :: (aR, .inl (kC, 300, .inl fx)) :: (aN, .inr (1, [.ref aK, .int (nI ns.length)])) :: (aK, .inl (kQ, 64, .inr (.inr (.inr (.inr q))))) :: (aS, .inl (kI, 150, .inl sg)) :: (aF, .inl (kJ, 150, .inr (.inl ff))) :: (fr ++ rw_p 0 kC ns)) := hD
  refine lv_iload_n hx hb dR_join_18 rfl (lv_at hl 1 rfl) ?_
  refine lv_sipush (v := 31868) hx hb dR_join_19 (by decide) ?_
  refine lv_icmp_ne (tgt := 29) hx hb dR_join_22 (by decide) (fun c_3 => ?_) (fun c_3 => ?_)
  · skip
    refine lv_lconst (v := 0) hx hb dR_join_29 (by decide) ?_
    refine W.widen (k := zk (sh_join un s0 f0 v0)) (n := 6 * zk (sh_join un s0 f0 v0)) (Nat.zero_le _) (Nat.zero_le _) ?_
    exact vx_ret (W.lret (v := 0) hx hb hr (fun t ht _ => ⟨_, _, rfl, ⟨0, by unfold sh_join; rw [if_pos e_5]; simp [c_3], rfl, rfl⟩, by rw [ht]; exact hP, hD, hS.F ht⟩) hS.2.2 dR_join_30)
  refine lv_lconst (v := 1) hx hb dR_join_25 (by decide) ?_
  refine lv_goto (tgt := 30) hx hb dR_join_26 (by decide) ?_
  refine W.widen (k := zk (sh_join un s0 f0 v0)) (n := 6 * zk (sh_join un s0 f0 v0)) (Nat.zero_le _) (Nat.zero_le _) ?_
  exact vx_ret (W.lret (v := 1) hx hb hr (fun t ht _ => ⟨_, _, rfl, ⟨1, by unfold sh_join; rw [if_pos e_5]; simp [c_3], rfl, rfl⟩, by rw [ht]; exact hP, hD, hS.F ht⟩) hS.2.2 dR_join_30)
set_option maxHeartbeats 4000000 in
set_option maxRecDepth 100000 in
/-- settle(bottom, rank, last) -/
theorem k_R_settle (l : Launch) (hl9 : l.stackTraces = false) (dC : Nat → ClassId) (dI : Nat → Nat → Nat) (kC kI kJ kQ : ClassId) (a0 aR aN aS aF aK : Nat) (wt un : Nat) (rs : Int64) (fx sg : Nat → Int32) (ff : Nat → Int64) (q : Nat → Option Nat) (tx : List Int32) (ns : List rw_N) (env : sh_Env) (fr : va_W) (hx3 : tx.length ≤ 300) (hB : sh_B tx) (hfx : ∀ j, j < tx.length → fx j = sh_at tx j) (hE : zEn q ns env) (sz : Nat) (pl : Int32) (sk : List (Int32 × Int64)) (r0 : Nat) (v0 : Int64) (hr0 : r0 ≤ 10) (hwt : wt + sk.length ≤ 150) (hun : un + sh_cnt sk ≤ 200) (hpd : zPd sg ff wt sk) : vx_Met l yR_settle wsR_settle ({ frames := 9, cells := zk (sh_settle un sk r0 v0), slots := 6 * zk (sh_settle un sk r0 v0), locals := 180 }) (va_Pc [.ref a0, .int (nI wt), .int (nI r0), .long v0] (zV dC dI ([(kC, .char), (kI, .int), (kJ, .long), (kQ, .object "ShellSum$Named")]) ((a0, .inr (2, [.ref aR, .ref aN, .ref aS, .ref aF, .int (nI (wt + sk.length)), .int (nI tx.length), .int pl, .int (nI (un + sh_cnt sk)), .long rs])) :: (aR, .inl (kC, 300, .inl fx)) :: (aN, .inr (1, [.ref aK, .int (nI ns.length)])) :: (aK, .inl (kQ, 64, .inr (.inr (.inr (.inr q))))) :: (aS, .inl (kI, 150, .inl sg)) :: (aF, .inl (kJ, 150, .inr (.inl ff))) :: (fr ++ rw_p 0 kC ns)) sz)) (zQ dC dI (va_A ((a0, .inr (2, [.ref aR, .ref aN, .ref aS, .ref aF, .int (nI (wt + sk.length)), .int (nI tx.length), .int pl, .int (nI (un + sh_cnt sk)), .long rs])) :: (aR, .inl (kC, 300, .inl fx)) :: (aN, .inr (1, [.ref aK, .int (nI ns.length)])) :: (aK, .inl (kQ, 64, .inr (.inr (.inr (.inr q))))) :: (aS, .inl (kI, 150, .inl sg)) :: (aF, .inl (kJ, 150, .inr (.inl ff))) :: (fr ++ rw_p 0 kC ns)) sz) (fun v w => ∃ z, sh_settle un sk r0 v0 = some z ∧ v = some (.long z.1) ∧ w = ((a0, .inr (2, [.ref aR, .ref aN, .ref aS, .ref aF, .int (nI (wt + z.2.length)), .int (nI tx.length), .int pl, .int (nI (un + sh_cnt z.2)), .long rs])) :: (aR, .inl (kC, 300, .inl fx)) :: (aN, .inr (1, [.ref aK, .int (nI ns.length)])) :: (aK, .inl (kQ, 64, .inr (.inr (.inr (.inr q))))) :: (aS, .inl (kI, 150, .inl sg)) :: (aF, .inl (kJ, 150, .inr (.inl ff))) :: (fr ++ rw_p 0 kC ns)))) (zX dC dI (va_A ((a0, .inr (2, [.ref aR, .ref aN, .ref aS, .ref aF, .int (nI (wt + sk.length)), .int (nI tx.length), .int pl, .int (nI (un + sh_cnt sk)), .long rs])) :: (aR, .inl (kC, 300, .inl fx)) :: (aN, .inr (1, [.ref aK, .int (nI ns.length)])) :: (aK, .inl (kQ, 64, .inr (.inr (.inr (.inr q))))) :: (aS, .inl (kI, 150, .inl sg)) :: (aF, .inl (kJ, 150, .inr (.inl ff))) :: (fr ++ rw_p 0 kC ns)) sz) (fun w => sh_settle un sk r0 v0 = none ∧ ∃ wt2 un2, w = ((a0, .inr (2, [.ref aR, .ref aN, .ref aS, .ref aF, .int wt2, .int (nI tx.length), .int pl, .int un2, .long rs])) :: (aR, .inl (kC, 300, .inl fx)) :: (aN, .inr (1, [.ref aK, .int (nI ns.length)])) :: (aK, .inl (kQ, 64, .inr (.inr (.inr (.inr q))))) :: (aS, .inl (kI, 150, .inl sg)) :: (aF, .inl (kJ, 150, .inr (.inl ff))) :: (fr ++ rw_p 0 kC ns)))) (zk (sh_settle un sk r0 v0)) (6 * zk (sh_settle un sk r0 v0)) (va_A ((a0, .inr (2, [.ref aR, .ref aN, .ref aS, .ref aF, .int (nI (wt + sk.length)), .int (nI tx.length), .int pl, .int (nI (un + sh_cnt sk)), .long rs])) :: (aR, .inl (kC, 300, .inl fx)) :: (aN, .inr (1, [.ref aK, .int (nI ns.length)])) :: (aK, .inl (kQ, 64, .inr (.inr (.inr (.inr q))))) :: (aS, .inl (kI, 150, .inl sg)) :: (aF, .inl (kJ, 150, .inr (.inl ff))) :: (fr ++ rw_p 0 kC ns)) sz) := by
  refine vx_ofW (cc := cR_settle) (maxL := 9) (ret := (some .long)) (by decide) rfl ?_
  intro p e s m args below meth c s₁ B hml hEx hv
  obtain ⟨rfl, ⟨hsz, hP, hK, hD0, hN⟩, hT, hU⟩ := hv
  subst hsz
  have hD := hD0.self (sz := s.heap.size)
  generalize hAe : va_A ((a0, .inr (2, [.ref aR, .ref aN, .ref aS, .ref aF, .int (nI (wt + sk.length)), .int (nI tx.length), .int pl, .int (nI (un + sh_cnt sk)), .long rs])) :: (aR, .inl (kC, 300, .inl fx)) :: (aN, .inr (1, [.ref aK, .int (nI ns.length)])) :: (aK, .inl (kQ, 64, .inr (.inr (.inr (.inr q))))) :: (aS, .inl (kI, 150, .inl sg)) :: (aF, .inl (kJ, 150, .inr (.inl ff))) :: (fr ++ rw_p 0 kC ns)) s.heap.size = A at hD hU ⊢
  have hA : ∀ q : Nat, s.heap.size ≤ q → A q := fun q h => by rw [← hAe]; exact Or.inr h
  have hS : va_S A s.heap s.heap [] := va_S.rf
  have hx := B.exec
  have hb := B.bytes
  have hr := B.returns
  have htz : ∀ w ∈ zw, w.before _ s = true := fun w h => atoms_spec (ws := wsR_settle) B.pre w (List.mem_cons_of_mem _ h)
  have hown : s.vm.findClass "ShellSum$Reckoner" = some m.cls := findClass_of_methodNamed B.named
  have hlocks := B.notSynchronized
  have hl := lv_entry ([.ref a0, .int (nI wt), .int (nI r0), .long v0]) (n := 9) (Nat.le_of_ble_eq_true rfl)
  rw [lg_entry_eq]
  generalize (lg_sl ([.ref a0, .int (nI wt), .int (nI r0), .long v0]) ++ List.replicate (9 - (lg_sl ([.ref a0, .int (nI wt), .int (nI r0), .long v0])).length) Slot.unset).toArray = ls at hl ⊢
  have hl : lv_has ls 9 [(0, .ref a0), (1, .int (nI wt)), (2, .int (nI r0)), (3, .long v0)] := hl
  refine lv_lload_n hx hb dR_settle_0 rfl (lv_at hl 3 rfl) ?_
  refine lv_lstore (lv' := [(5, .long v0), (0, .ref a0), (1, .int (nI wt)), (2, .int (nI r0)), (3, .long v0)]) hx hb dR_settle_1 hl (by decide) rfl (fun ls hl => ?_)
  refine lv_aload_n hx hb dR_settle_3 rfl (lv_at hl 1 rfl) ?_
  refine va_get (D := (dC, dI)) (ci := 2) (v := .int (nI (wt + sk.length))) (C := "ShellSum$Reckoner") (T := TR) (N := 9) hx hb htz zu_R hown hK hP 0 rfl rfl 4 (by decide) (htz _ zw_1_49) (fun _ h9 => h9) rfl dR_settle_4 ?_
  refine lv_iconst (v := 1) hx hb dR_settle_7 (by decide) ?_
  refine lv_isub hx hb dR_settle_8 ?_
  refine xw_topi (y := nI (wt + sk.length) - 1) (rfl) ?_
  refine lv_istore (lv' := [(7, .int (nI (wt + sk.length) - 1)), (5, .long v0), (0, .ref a0), (1, .int (nI wt)), (2, .int (nI r0)), (3, .long v0)]) hx hb dR_settle_9 hl (by decide) rfl (fun ls hl => ?_)
  have loop_11 : ∀ (f_loop_11 : Nat) (k : List (Int32 × Int64)) (x : Int64), k.length < f_loop_11 → (wt + k.length ≤ 150) → (un + sh_cnt k ≤ 200) → (zPd sg ff wt k) → (sh_settle un k r0 x = sh_settle un sk r0 v0) → ∀ (H : Heap) (locs : List Loc), va_P (dC, dI) vwCl ((a0, .inr (2, [.ref aR, .ref aN, .ref aS, .ref aF, .int (nI (wt + k.length)), .int (nI tx.length), .int pl, .int (nI (un + sh_cnt k)), .long rs])) :: (aR, .inl (kC, 300, .inl fx)) :: (aN, .inr (1, [.ref aK, .int (nI ns.length)])) :: (aK, .inl (kQ, 64, .inr (.inr (.inr (.inr q))))) :: (aS, .inl (kI, 150, .inl sg)) :: (aF, .inl (kJ, 150, .inr (.inl ff))) :: (fr ++ rw_p 0 kC ns)) H → va_D A ((a0, .inr (2, [.ref aR, .ref aN, .ref aS, .ref aF, .int (nI (wt + k.length)), .int (nI tx.length), .int pl, .int (nI (un + sh_cnt k)), .long rs])) :: (aR, .inl (kC, 300, .inl fx)) :: (aN, .inr (1, [.ref aK, .int (nI ns.length)])) :: (aK, .inl (kQ, 64, .inr (.inr (.inr (.inr q))))) :: (aS, .inl (kI, 150, .inl sg)) :: (aF, .inl (kJ, 150, .inr (.inl ff))) :: (fr ++ rw_p 0 kC ns)) → va_S A s.heap H locs → ∀ ls : Array Slot, lv_has ls 9 [(7, .int (nI (wt + k.length) - 1)), (5, .long x), (0, .ref a0), (1, .int (nI wt)), (2, .int (nI r0))] → W p l e (headSpec wsR_settle ({ frames := 9, cells := zk (sh_settle un sk r0 v0), slots := 6 * zk (sh_settle un sk r0 v0), locals := 180 })).room s m ([.ref a0, .int (nI wt), .int (nI r0), .long v0] : List Value).toArray below meth c H locs 0 0 (vx_MQ below (zQ dC dI A (fun v w => ∃ z, sh_settle un sk r0 v0 = some z ∧ v = some (.long z.1) ∧ w = ((a0, .inr (2, [.ref aR, .ref aN, .ref aS, .ref aF, .int (nI (wt + z.2.length)), .int (nI tx.length), .int pl, .int (nI (un + sh_cnt z.2)), .long rs])) :: (aR, .inl (kC, 300, .inl fx)) :: (aN, .inr (1, [.ref aK, .int (nI ns.length)])) :: (aK, .inl (kQ, 64, .inr (.inr (.inr (.inr q))))) :: (aS, .inl (kI, 150, .inl sg)) :: (aF, .inl (kJ, 150, .inr (.inl ff))) :: (fr ++ rw_p 0 kC ns)))) (zX dC dI A (fun w => sh_settle un sk r0 v0 = none ∧ ∃ wt2 un2, w = ((a0, .inr (2, [.ref aR, .ref aN, .ref aS, .ref aF, .int wt2, .int (nI tx.length), .int pl, .int un2, .long rs])) :: (aR, .inl (kC, 300, .inl fx)) :: (aN, .inr (1, [.ref aK, .int (nI ns.length)])) :: (aK, .inl (kQ, 64, .inr (.inr (.inr (.inr q))))) :: (aS, .inl (kI, 150, .inl sg)) :: (aF, .inl (kJ, 150, .inr (.inl ff))) :: (fr ++ rw_p 0 kC ns)))) ([.ref a0, .int (nI wt), .int (nI r0), .long v0] : List Value).toArray s (zk (sh_settle un sk r0 v0)) (6 * zk (sh_settle un sk r0 v0)) A) (F0 m 11 ls []) := by
    intro f_loop_11
    induction f_loop_11 with
    | zero => intro k x hf; exact absurd hf (Nat.not_lt_zero _)
    | succ f_loop_11 ih_loop_11 =>
      intro k x hf_loop_11 hk hku hkp he H locs hP hD hS ls hl
      refine lv_iload hx hb dR_settle_11 (lv_at hl 0 rfl) ?_
      refine lv_iload_n hx hb dR_settle_13 rfl (lv_at hl 3 rfl) ?_
      refine lv_icmp_lt (tgt := 80) hx hb dR_settle_14 (by decide) (fun c_1 => ?_) (fun c_1 => ?_)
      · skip
        have e_14 : k = [] := by
          rcases k with _ | ⟨z, k2⟩
          · rfl
          · exact absurd c_1 (by rw [show nI (wt + (z :: k2).length) - 1 = nI (wt + k2.length) from pk_sub (b := 1) (by rw [List.length_cons]; omega)]; exact fun h9 => absurd (xi_lt h9 (by simp at hk; omega) (by omega)) (by omega))
        refine lv_lload hx hb dR_settle_80 (lv_at hl 1 rfl) ?_
        subst e_14
        refine W.widen (k := zk (sh_settle un sk r0 v0)) (n := 6 * zk (sh_settle un sk r0 v0)) (Nat.zero_le _) (Nat.zero_le _) ?_
        exact vx_ret (W.lret (v := x) hx hb hr (fun t ht _ => ⟨_, _, rfl, ⟨(x, []), by rw [← he]; rfl, rfl, rfl⟩, by rw [ht]; exact hP, hD, hS.F ht⟩) hS.2.2 dR_settle_82)
      rcases k with _ | ⟨⟨s9, f9⟩, k2⟩
      · exact absurd (zst_0 (by simp at hk; omega)) c_1
      have e_i : nI (wt + ((s9, f9) :: k2).length) - 1 = nI (wt + k2.length) := pk_sub (b := 1) (by rw [List.length_cons]; omega)
      have e_l : ((s9, f9) :: k2).length = k2.length + 1 := rfl
      rw [e_i] at hl
      refine lv_iload hx hb dR_settle_17 (lv_at hl 0 rfl) ?_
      refine lv_if_lt (tgt := 80) hx hb dR_settle_19 (by decide) (fun c_2 => ?_) (fun c_2 => ?_)
      · skip
        exact absurd c_2 (nI_pos (by omega))
      refine lv_iload hx hb dR_settle_22 (lv_at hl 0 rfl) ?_
      refine lv_sipush (v := 150) hx hb dR_settle_24 (by decide) ?_
      refine lv_icmp_ge (tgt := 80) hx hb dR_settle_27 (by decide) (fun c_3 => ?_) (fun c_3 => ?_)
      · skip
        exact absurd (xi_le (a := 150) c_3 (by decide) (by omega)) (by omega)
      refine lv_aload_n hx hb dR_settle_30 rfl (lv_at hl 2 rfl) ?_
      refine va_get (D := (dC, dI)) (ci := 2) (v := .ref aS) (C := "ShellSum$Reckoner") (T := TR) (N := 9) hx hb htz zu_R hown hK hP 0 rfl rfl 2 (by decide) (htz _ zw_1_47) (fun _ h9 => h9) rfl dR_settle_31 ?_
      refine lv_iload hx hb dR_settle_34 (lv_at hl 0 rfl) ?_
      refine va_iald hx hb hK hP 4 1 rfl rfl (vp_in_nI (by omega) (by omega)) dR_settle_36 ?_
      refine xw_topi (y := sg (wt + k2.length)) (by rw [nI_clamp (by omega)]) ?_
      refine xw_topi (y := s9) (hkp.1) ?_
      refine lv_istore (lv' := [(8, .int s9), (7, .int (nI (wt + k2.length))), (5, .long x), (0, .ref a0), (1, .int (nI wt)), (2, .int (nI r0))]) hx hb dR_settle_37 hl (by decide) rfl (fun ls hl => ?_)
      refine lv_iload hx hb dR_settle_39 (lv_at hl 0 rfl) ?_
      have hr_41 := sh_rank_le s9
      refine rq_call (va_runSN (As := [.int s9]) (rest := []) ⟨hx, hb, hml, hown, htz⟩ (k_G_rankOf l s9) ⟨va_cnB 1 htz (zg_c zw_1_230) rfl rfl rfl (hN _ zn_1_228) (htz _ zw_1_5) (by decide +kernel) ⟨Nat.le_of_ble_eq_true rfl, Nat.le_of_ble_eq_true rfl⟩, htz _ zw_1_229, trivial⟩ rq_pre rfl rfl hl.1 rfl (lv_room (Nat.le_of_ble_eq_true rfl)) dR_settle_41 ⟨Nat.zero_le _, Nat.zero_le _⟩) ?_
      refine W.eq (g2 := F0 m 44 ls [.int (nI (sh_rank s9))]) rfl ?_
      refine lv_iload_n hx hb dR_settle_44 rfl (lv_at hl 5 rfl) ?_
      refine lv_icmp_ge (tgt := 51) hx hb dR_settle_45 (by decide) (fun c_4 => ?_) (fun c_4 => ?_)
      · skip
        have e_45 : ¬ sh_rank s9 < r0 := Nat.not_lt.mpr (xi_le c_4 (by omega) (by omega))
        have e_un : un + sh_cnt ((s9, f9) :: k2) = un + sh_cnt k2 + (if sh_settled s9 f9 = true then 1 else 0) := by show un + ((if sh_settled s9 f9 = true then 1 else 0) + sh_cnt k2) = _; omega
        rw [e_un] at hP hD hku
        have hP : va_P (dC, dI) vwCl ((a0, .inr (2, [.ref aR, .ref aN, .ref aS, .ref aF, .int (nI (wt + ((s9, f9) :: k2).length)), .int (nI tx.length), .int pl, .int (nI (un + sh_cnt k2 + (if sh_settled s9 f9 = true then 1 else 0))), .long rs])) :: (aR, .inl (kC, 300, .inl fx)) :: (aN, .inr (1, [.ref aK, .int (nI ns.length)])) :: (aK, .inl (kQ, 64, .inr (.inr (.inr (.inr q))))) :: (aS, .inl (kI, 150, .inl sg)) :: (aF, .inl (kJ, 150, .inr (.inl ff))) :: (fr ++ rw_p 0 kC ns)) _ := hP
        have hD : va_D A ((a0, .inr (2, [.ref aR, .ref aN, .ref aS, .ref aF, .int (nI (wt + ((s9, f9) :: k2).length)), .int (nI tx.length), .int pl, .int (nI (un + sh_cnt k2 + (if sh_settled s9 f9 = true then 1 else 0))), .long rs])) :: (aR, .inl (kC, 300, .inl fx)) :: (aN, .inr (1, [.ref aK, .int (nI ns.length)])) :: (aK, .inl (kQ, 64, .inr (.inr (.inr (.inr q))))) :: (aS, .inl (kI, 150, .inl sg)) :: (aF, .inl (kJ, 150, .inr (.inl ff))) :: (fr ++ rw_p 0 kC ns)) := hD
        refine lv_aload_n hx hb dR_settle_51 rfl (lv_at hl 3 rfl) ?_
        refine lv_iload hx hb dR_settle_52 (lv_at hl 1 rfl) ?_
        refine va_put (D := (dC, dI)) (ci := 2) (v := .int (nI (wt + k2.length))) (ty := .int) (C := "ShellSum$Reckoner") (T := TR) (N := 9) hx hb htz zu_R tyR tyR_ok nmR hown hK hP hD hS 0 rfl rfl 4 (by decide) (htz _ zw_1_49) (fun _ h9 => h9) rfl (by decide +kernel) rfl rfl (Nat.le_of_ble_eq_true rfl) dR_settle_54 (fun H locs hP hD hS => ?_)
        have hP : va_P (dC, dI) vwCl ((a0, .inr (2, [.ref aR, .ref aN, .ref aS, .ref aF, .int (nI (wt + k2.length)), .int (nI tx.length), .int pl, .int (nI (un + sh_cnt k2 + (if sh_settled s9 f9 = true then 1 else 0))), .long rs])) :: (aR, .inl (kC, 300, .inl fx)) :: (aN, .inr (1, [.ref aK, .int (nI ns.length)])) :: (aK, .inl (kQ, 64, .inr (.inr (.inr (.inr q))))) :: (aS, .inl (kI, 150, .inl sg)) :: (aF, .inl (kJ, 150, .inr (.inl ff))) :: (fr ++ rw_p 0 kC ns)) _ := hP
        have hD : va_D A ((a0, .inr (2, [.ref aR, .ref aN, .ref aS, .ref aF, .int (nI (wt + k2.length)), .int (nI tx.length), .int pl, .int (nI (un + sh_cnt k2 + (if sh_settled s9 f9 = true then 1 else 0))), .long rs])) :: (aR, .inl (kC, 300, .inl fx)) :: (aN, .inr (1, [.ref aK, .int (nI ns.length)])) :: (aK, .inl (kQ, 64, .inr (.inr (.inr (.inr q))))) :: (aS, .inl (kI, 150, .inl sg)) :: (aF, .inl (kJ, 150, .inr (.inl ff))) :: (fr ++ rw_p 0 kC ns)) := hD
        refine lv_aload_n hx hb dR_settle_57 rfl (lv_at hl 3 rfl) ?_
        refine lv_iload hx hb dR_settle_58 (lv_at hl 0 rfl) ?_
        refine lv_aload_n hx hb dR_settle_60 rfl (lv_at hl 3 rfl) ?_
        refine va_get (D := (dC, dI)) (ci := 2) (v := .ref aF) (C := "ShellSum$Reckoner") (T := TR) (N := 9) hx hb htz zu_R hown hK hP 0 rfl rfl 3 (by decide) (htz _ zw_1_48) (fun _ h9 => h9) rfl dR_settle_61 ?_
        refine lv_iload hx hb dR_settle_64 (lv_at hl 1 rfl) ?_
        refine va_lald hx hb hK hP 5 2 rfl rfl (vp_in_nI (by omega) (by omega)) dR_settle_66 ?_
        refine xw_topl (y := ff (wt + k2.length)) (by rw [nI_clamp (by omega)]) ?_
        refine xw_topl (y := f9) (hkp.2.1) ?_
        refine lv_lload hx hb dR_settle_67 (lv_at hl 2 rfl) ?_
        have e_zj : zk (sh_join (un + sh_cnt k2) s9 f9 x) ≤ zk (sh_settle un sk r0 v0) := by rw [← he]; exact sh_settle_zk e_45
        refine zX_call (vx_runV (As := [.int s9, .long f9, .long x]) (rest := []) ⟨hx, hb, hml, hown, htz⟩ (k_R_join l hl9 dC dI kC kI kJ kQ a0 aR aN aS aF aK (wt + k2.length) (un + sh_cnt k2) rs fx sg ff q tx ns env fr hx3 hB hfx hE _ pl s9 f9 x (by omega)) (cwV 3 htz (zg_V zw_2_141 zw_2_143 zs_R_join zw_1_2 zw_2_144) rfl rfl rfl (by decide +kernel) ⟨Nat.le_of_ble_eq_true rfl, Nat.le_of_ble_eq_true rfl⟩) (zV_V hP hK hD hN hT hU hS hA (va_recv hK hP (ci := 2) (q0 := 0) rfl rfl)) rfl rfl hl.1 rfl (lv_room (Nat.le_of_ble_eq_true rfl)) dR_settle_69 ⟨by show 0 + (zk (sh_join (un + sh_cnt k2) s9 f9 x)) ≤ zk (sh_settle un sk r0 v0); omega, by show 0 + (6 * zk (sh_join (un + sh_cnt k2) s9 f9 x)) ≤ 6 * zk (sh_settle un sk r0 v0); omega⟩) hD hS hA (fun ce q9 w H locs hp hP hD hS hce hcv hcl => ?_) (fun v w H locs hp hP hD hS => ?_)
        · skip
          obtain ⟨h1, hw⟩ := hp
          rw [hw] at hP hD
          exact zX_out hEx hlocks ⟨by rw [← he]; exact sh_settle_no e_45 h1, _, _, rfl⟩ hP hD hS hce hcv hcl (by omega) (by omega)
        obtain ⟨v9, h1, rfl, hw⟩ := hp
        rw [hw] at hP hD
        have hP : va_P (dC, dI) vwCl ((a0, .inr (2, [.ref aR, .ref aN, .ref aS, .ref aF, .int (nI (wt + k2.length)), .int (nI tx.length), .int pl, .int (nI (un + sh_cnt k2)), .long rs])) :: (aR, .inl (kC, 300, .inl fx)) :: (aN, .inr (1, [.ref aK, .int (nI ns.length)])) :: (aK, .inl (kQ, 64, .inr (.inr (.inr (.inr q))))) :: (aS, .inl (kI, 150, .inl sg)) :: (aF, .inl (kJ, 150, .inr (.inl ff))) :: (fr ++ rw_p 0 kC ns)) _ := hP
        have hD : va_D A ((a0, .inr (2, [.ref aR, .ref aN, .ref aS, .ref aF, .int (nI (wt + k2.length)), .int (nI tx.length), .int pl, .int (nI (un + sh_cnt k2)), .long rs])) :: (aR, .inl (kC, 300, .inl fx)) :: (aN, .inr (1, [.ref aK, .int (nI ns.length)])) :: (aK, .inl (kQ, 64, .inr (.inr (.inr (.inr q))))) :: (aS, .inl (kI, 150, .inl sg)) :: (aF, .inl (kJ, 150, .inr (.inl ff))) :: (fr ++ rw_p 0 kC ns)) := hD
        refine W.eq (g2 := F0 m 72 ls [.long v9]) rfl ?_
        have e_z0 : zk (sh_join (un + sh_cnt k2) s9 f9 x) = 0 := by rw [h1]; rfl
        refine W.widen (k := 0) (n := 0) (by omega) (by omega) ?_
        refine lv_lstore (lv' := [(5, .long v9), (8, .int s9), (7, .int (nI (wt + k2.length))), (0, .ref a0), (1, .int (nI wt)), (2, .int (nI r0))]) hx hb dR_settle_72 hl (by decide) rfl (fun ls hl => ?_)
        refine lv_iinc (v := nI (wt + k2.length) - 1) (lv' := [(7, .int (nI (wt + k2.length) - 1)), (5, .long v9), (8, .int s9), (0, .ref a0), (1, .int (nI wt)), (2, .int (nI r0))]) hx hb dR_settle_74 hl (k := 2) rfl (by rw [Int32.sub_eq_add_neg]; congr 1) (by decide) rfl (fun ls hl => ?_)
        refine lv_goto (tgt := 11) hx hb dR_settle_77 (by decide) ?_
        exact ih_loop_11 k2 v9 (by omega) (by omega) (by omega) (hkp.2.2) (by rw [← he]; exact (sh_settle_go e_45 h1).symm) _ _ hP hD hS ls (lv_sub hl [0, 1, 3, 4, 5] rfl)
      have e_45 : sh_rank s9 < r0 := xi_nle c_4 (by omega) (by omega)
      refine lv_goto (tgt := 80) hx hb dR_settle_48 (by decide) ?_
      refine lv_lload hx hb dR_settle_80 (lv_at hl 2 rfl) ?_
      refine W.widen (k := zk (sh_settle un sk r0 v0)) (n := 6 * zk (sh_settle un sk r0 v0)) (Nat.zero_le _) (Nat.zero_le _) ?_
      exact vx_ret (W.lret (v := x) hx hb hr (fun t ht _ => ⟨_, _, rfl, ⟨(x, (s9, f9) :: k2), by rw [← he]; exact sh_settle_st e_45, rfl, rfl⟩, by rw [ht]; exact hP, hD, hS.F ht⟩) hS.2.2 dR_settle_82)
  exact loop_11 _ sk v0 (Nat.lt_succ_self _) (hwt) (hun) (hpd) (rfl) _ _ hP hD hS ls (lv_sub hl [0, 1, 2, 3, 4] rfl)
