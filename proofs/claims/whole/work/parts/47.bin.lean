set_option maxHeartbeats 8000000 in
set_option maxRecDepth 100000 in
/-- binary(depth) -/
theorem k_R_binary (l : Launch) (hl9 : l.stackTraces = false) (k : Nat) (hk0 : 0 < k) (hKU : KU l k) : KB l k := by
  intro dC dI kC kI kJ kQ a0 aR aN aS aF aK wt un rs fx sg ff q tx ns env fr hx3 hB hfx hE sz p0 d hp0 hkd hwt hun
  refine vx_ofW (cc := cR_binary) (maxL := 9) (ret := (some .long)) (by decide) rfl ?_
  intro p e s m args below meth c s₁ B hml hEx hv
  obtain ⟨rfl, ⟨hsz, hP, hK, hD0, hN⟩, hT, hU⟩ := hv
  subst hsz
  have hD := hD0.self (sz := s.heap.size)
  generalize hAe : va_A ((a0, .inr (2, [.ref aR, .ref aN, .ref aS, .ref aF, .int (nI wt), .int (nI tx.length), .int (nI p0), .int (nI un), .long rs])) :: (aR, .inl (kC, 300, .inl fx)) :: (aN, .inr (1, [.ref aK, .int (nI ns.length)])) :: (aK, .inl (kQ, 64, .inr (.inr (.inr (.inr q))))) :: (aS, .inl (kI, 150, .inl sg)) :: (aF, .inl (kJ, 150, .inr (.inl ff))) :: (fr ++ rw_p 0 kC ns)) s.heap.size = A at hD hU ⊢
  have hA : ∀ q : Nat, s.heap.size ≤ q → A q := fun q h => by rw [← hAe]; exact Or.inr h
  have hS : va_S A s.heap s.heap [] := va_S.rf
  have hx := B.exec
  have hb := B.bytes
  have hr := B.returns
  have htz : ∀ w ∈ zw, w.before _ s = true := fun w h => atoms_spec (ws := wsR_binary) B.pre w (List.mem_cons_of_mem _ h)
  have hown : s.vm.findClass "ShellSum$Reckoner" = some m.cls := findClass_of_methodNamed B.named
  have hlocks := B.notSynchronized
  have hl := lv_entry ([.ref a0, .int (nI d)]) (n := 9) (Nat.le_of_ble_eq_true rfl)
  rw [lg_entry_eq]
  generalize (lg_sl ([.ref a0, .int (nI d)]) ++ List.replicate (9 - (lg_sl ([.ref a0, .int (nI d)])).length) Slot.unset).toArray = ls at hl ⊢
  have e_gd := (sh_gd_lv hB k).1
  have e_gB := sh_gd_Bin hB e_gd un p0 env hp0
  have hl : lv_has ls 9 [(0, .ref a0), (1, .int (nI d))] := hl
  refine lv_aload_n hx hb dR_binary_0 rfl (lv_at hl 0 rfl) ?_
  refine va_get (D := (dC, dI)) (ci := 2) (v := .int (nI wt)) (C := "ShellSum$Reckoner") (T := TR) (N := 9) hx hb htz zu_R hown hK hP 0 rfl rfl 4 (by decide) (htz _ zw_1_49) (fun _ h9 => h9) rfl dR_binary_1 ?_
  refine lv_istore_n (lv' := [(2, .int (nI wt)), (0, .ref a0), (1, .int (nI d))]) hx hb dR_binary_4 rfl hl (by decide) rfl (fun ls hl => ?_)
  refine lv_aload_n hx hb dR_binary_5 rfl (lv_at hl 1 rfl) ?_
  refine lv_iload_n hx hb dR_binary_6 rfl (lv_at hl 2 rfl) ?_
  have e_u := e_gd un p0 env hp0
  have e_z : zmc env (lU tx k un p0 env) ≤ zmc env (sh_Bin tx (lU tx k) un p0 env) ∧ zms env (lU tx k un p0 env) ≤ zms env (sh_Bin tx (lU tx k) un p0 env) := zm_Bin hB e_gd hp0
  refine zX_call (vx_runV (As := [.int (nI d)]) (rest := []) ⟨hx, hb, hml, hown, htz⟩ (hKU dC dI kC kI kJ kQ a0 aR aN aS aF aK wt un rs fx sg ff q tx ns env fr hx3 hB hfx hE _ p0 d hp0 hkd hwt hun) (cwV 1 htz (zg_V zw_2_117 zw_2_119 zs_R_unary zw_1_2 zw_2_120) rfl rfl rfl (by decide +kernel) ⟨by dsimp only [headSpec]; omega, by dsimp only [headSpec]; omega⟩) (zV_V hP hK hD hN hT hU hS hA (va_recv hK hP (ci := 2) (q0 := 0) rfl rfl)) rfl rfl hl.1 rfl (lv_room (Nat.le_of_ble_eq_true rfl)) dR_binary_7 ⟨by show 0 + (zmc env (lU tx k un p0 env)) ≤ zmc env (sh_Bin tx (lU tx k) un p0 env); omega, by show 0 + (zms env (lU tx k un p0 env)) ≤ zms env (sh_Bin tx (lU tx k) un p0 env); omega⟩) hD hS hA (fun ce q9 w H locs hp hP hD hS hce hcv hcl => ?_) (fun v w H locs hp hP hD hS => ?_)
  · skip
    obtain ⟨e2, wt9, pl9, un9, sg9, ff9, q9_, ns9, h1, hE9, hw⟩ := hp
    rw [hw] at hP hD
    exact zX_out hEx hlocks ⟨e2, _, _, _, _, _, _, _, sh_Bin_no h1, hE9, rfl⟩ hP hD hS hce hcv hcl (by omega) (by omega)
  obtain ⟨z, e2, sg2, ff2, q2, ns2, h1, rfl, hE2, hsf2, hw⟩ := hp
  rw [hw] at hP hD
  have hP : va_P (dC, dI) vwCl ((a0, .inr (2, [.ref aR, .ref aN, .ref aS, .ref aF, .int (nI wt), .int (nI tx.length), .int (nI z.2), .int (nI un), .long rs])) :: (aR, .inl (kC, 300, .inl fx)) :: (aN, .inr (1, [.ref aK, .int (nI ns2.length)])) :: (aK, .inl (kQ, 64, .inr (.inr (.inr (.inr q2))))) :: (aS, .inl (kI, 150, .inl sg2)) :: (aF, .inl (kJ, 150, .inr (.inl ff2))) :: (fr ++ rw_p 0 kC ns2)) _ := hP
  have hD : va_D A ((a0, .inr (2, [.ref aR, .ref aN, .ref aS, .ref aF, .int (nI wt), .int (nI tx.length), .int (nI z.2), .int (nI un), .long rs])) :: (aR, .inl (kC, 300, .inl fx)) :: (aN, .inr (1, [.ref aK, .int (nI ns2.length)])) :: (aK, .inl (kQ, 64, .inr (.inr (.inr (.inr q2))))) :: (aS, .inl (kI, 150, .inl sg2)) :: (aF, .inl (kJ, 150, .inr (.inl ff2))) :: (fr ++ rw_p 0 kC ns2)) := hD
  refine W.eq (g2 := F0 m 10 ls [.long z.1]) rfl ?_
  rw [h1] at e_u
  have e_zp := e_u.2 z rfl
  have e_z1 : zmc env (lU tx k un p0 env) = 3 * (e2.length - env.length) ∧ zms env (lU tx k un p0 env) = 323 * (e2.length - env.length) := by rw [h1]; exact ⟨rfl, rfl⟩
  refine W.widen (k := 3 * (e2.length - env.length)) (n := 323 * (e2.length - env.length)) (by omega) (by omega) ?_
  have e_R : (sh_Bin tx (lU tx k) un p0 env) = sh_bl tx (lU tx k) un 300 [] z.1 z.2 e2 := sh_Bin_go h1
  refine lv_lstore_n (lv' := [(3, .long z.1), (2, .int (nI wt)), (0, .ref a0), (1, .int (nI d))]) hx hb dR_binary_10 rfl hl (by decide) rfl (fun ls hl => ?_)
  refine lv_aload_n hx hb dR_binary_11 rfl (lv_at hl 2 rfl) ?_
  refine zQ_call (va_runV (As := []) (rest := []) ⟨hx, hb, hml, hown, htz⟩ (k_R_signOfTwo l dC dI kC kI kJ kQ a0 aR aN aS aF (nI wt) (nI un) rs fx tx ((aN, .inr (1, [.ref aK, .int (nI ns2.length)])) :: (aK, .inl (kQ, 64, .inr (.inr (.inr (.inr q2))))) :: (aS, .inl (kI, 150, .inl sg2)) :: (aF, .inl (kJ, 150, .inr (.inl ff2))) :: (fr ++ rw_p 0 kC ns2)) hx3 hB hfx _ z.2 e_zp.2) (cwV 0 htz (zg_V zw_2_133 zw_2_135 zs_R_signOfTwo zw_1_2 zw_2_136) rfl rfl rfl (by decide +kernel) ⟨by dsimp only [headSpec]; omega, by dsimp only [headSpec]; omega⟩) (zW_V hP hK hD hN (va_recv hK hP (ci := 2) (q0 := 0) rfl rfl)) rfl rfl hl.1 rfl (lv_room (Nat.le_of_ble_eq_true rfl)) dR_binary_12 ⟨by show 3 * (e2.length - env.length) + 0 ≤ zmc env (sh_Bin tx (lU tx k) un p0 env); omega, by show 323 * (e2.length - env.length) + 0 ≤ zms env (sh_Bin tx (lU tx k) un p0 env); omega⟩) hD hS hA (fun v w H locs hp hP hD hS => ?_)
  obtain ⟨rfl, hw⟩ := hp
  rw [hw] at hP hD
  have hP : va_P (dC, dI) vwCl ((a0, .inr (2, [.ref aR, .ref aN, .ref aS, .ref aF, .int (nI wt), .int (nI tx.length), .int (nI (sh_sign2 tx z.2).2), .int (nI un), .long rs])) :: (aR, .inl (kC, 300, .inl fx)) :: (aN, .inr (1, [.ref aK, .int (nI ns2.length)])) :: (aK, .inl (kQ, 64, .inr (.inr (.inr (.inr q2))))) :: (aS, .inl (kI, 150, .inl sg2)) :: (aF, .inl (kJ, 150, .inr (.inl ff2))) :: (fr ++ rw_p 0 kC ns2)) _ := hP
  have hD : va_D A ((a0, .inr (2, [.ref aR, .ref aN, .ref aS, .ref aF, .int (nI wt), .int (nI tx.length), .int (nI (sh_sign2 tx z.2).2), .int (nI un), .long rs])) :: (aR, .inl (kC, 300, .inl fx)) :: (aN, .inr (1, [.ref aK, .int (nI ns2.length)])) :: (aK, .inl (kQ, 64, .inr (.inr (.inr (.inr q2))))) :: (aS, .inl (kI, 150, .inl sg2)) :: (aF, .inl (kJ, 150, .inr (.inl ff2))) :: (fr ++ rw_p 0 kC ns2)) := hD
  refine W.eq (g2 := F0 m 15 ls [.int ((sh_sign2 tx z.2).1)]) rfl ?_
  refine W.widen (k := 3 * (e2.length - env.length)) (n := 323 * (e2.length - env.length)) (by omega) (by omega) ?_
  refine lv_istore (lv' := [(5, .int ((sh_sign2 tx z.2).1)), (3, .long z.1), (2, .int (nI wt)), (0, .ref a0), (1, .int (nI d))]) hx hb dR_binary_15 hl (by decide) rfl (fun ls hl => ?_)
  refine lv_iconst (v := 0) hx hb dR_binary_17 (by decide) ?_
  refine xw_topi (y := nI 0) (nI_0.symm) ?_
  refine lv_istore (lv' := [(6, .int (nI 0)), (5, .int ((sh_sign2 tx z.2).1)), (3, .long z.1), (2, .int (nI wt)), (0, .ref a0), (1, .int (nI d))]) hx hb dR_binary_18 hl (by decide) rfl (fun ls hl => ?_)
  have loop_20 : ∀ (f_loop_20 : Nat) (i : Nat) (sk : List (Int32 × Int64)) (v : Int64) (pl : Nat) (e3 : sh_Env) (sg3 : Nat → Int32) (ff3 : Nat → Int64) (q3 : Nat → Option Nat) (ns3 : List rw_N), 300 - i < f_loop_20 → (i ≤ 300) → (zEn q3 ns3 e3) → (pl ≤ tx.length) → (2 * (wt + sk.length) + 1 ≤ pl) → (zPd sg3 ff3 wt sk) → (∀ j, j < wt → sg3 j = sg j ∧ ff3 j = ff j) → (env.length ≤ e3.length) → (sh_bl tx (lU tx k) un (300 - i) sk v pl e3 = (sh_Bin tx (lU tx k) un p0 env)) → ∀ (H : Heap) (locs : List Loc), va_P (dC, dI) vwCl ((a0, .inr (2, [.ref aR, .ref aN, .ref aS, .ref aF, .int (nI (wt + sk.length)), .int (nI tx.length), .int (nI (sh_sign2 tx pl).2), .int (nI (un + sh_cnt sk)), .long rs])) :: (aR, .inl (kC, 300, .inl fx)) :: (aN, .inr (1, [.ref aK, .int (nI ns3.length)])) :: (aK, .inl (kQ, 64, .inr (.inr (.inr (.inr q3))))) :: (aS, .inl (kI, 150, .inl sg3)) :: (aF, .inl (kJ, 150, .inr (.inl ff3))) :: (fr ++ rw_p 0 kC ns3)) H → va_D A ((a0, .inr (2, [.ref aR, .ref aN, .ref aS, .ref aF, .int (nI (wt + sk.length)), .int (nI tx.length), .int (nI (sh_sign2 tx pl).2), .int (nI (un + sh_cnt sk)), .long rs])) :: (aR, .inl (kC, 300, .inl fx)) :: (aN, .inr (1, [.ref aK, .int (nI ns3.length)])) :: (aK, .inl (kQ, 64, .inr (.inr (.inr (.inr q3))))) :: (aS, .inl (kI, 150, .inl sg3)) :: (aF, .inl (kJ, 150, .inr (.inl ff3))) :: (fr ++ rw_p 0 kC ns3)) → va_S A s.heap H locs → ∀ ls : Array Slot, lv_has ls 9 [(6, .int (nI i)), (5, .int ((sh_sign2 tx pl).1)), (3, .long v), (2, .int (nI wt)), (0, .ref a0), (1, .int (nI d))] → W p l e (headSpec wsR_binary ({ frames := 4 * k + 11, cells := zmc env (sh_Bin tx (lU tx k) un p0 env), slots := zms env (sh_Bin tx (lU tx k) un p0 env), locals := 120 * k + 230 })).room s m ([.ref a0, .int (nI d)] : List Value).toArray below meth c H locs (3 * (e3.length - env.length)) (323 * (e3.length - env.length)) (vx_MQ below (zQ dC dI A (zOK kC kI kJ kQ a0 aR aN aS aF aK wt tx.length un rs fx sg ff fr (sh_Bin tx (lU tx k) un p0 env))) (zX dC dI A (zER kC kI kJ kQ a0 aR aN aS aF aK tx.length rs fx fr (sh_Bin tx (lU tx k) un p0 env))) ([.ref a0, .int (nI d)] : List Value).toArray s (zmc env (sh_Bin tx (lU tx k) un p0 env)) (zms env (sh_Bin tx (lU tx k) un p0 env)) A) (F0 m 20 ls []) := by
    intro f_loop_20
    induction f_loop_20 with
    | zero => intro i sk v pl e3 sg3 ff3 q3 ns3 hf; exact absurd hf (Nat.not_lt_zero _)
    | succ f_loop_20 ih_loop_20 =>
      intro i sk v pl e3 sg3 ff3 q3 ns3 hf_loop_20 hi hE3 hpl h2w hpd hsf3 hen he H locs hP hD hS ls hl
      have e_s2 := sh_sign2_ok hB hpl
      have e_cn := sh_cnt_le sk
      have e_bl := sh_gd_bl hB e_gd un (300 - i) sk v pl e3 hpl
      rw [he] at e_bl
      have e_zz : 3 * (e3.length - env.length) ≤ zmc env (sh_Bin tx (lU tx k) un p0 env) ∧ 323 * (e3.length - env.length) ≤ zms env (sh_Bin tx (lU tx k) un p0 env) := zm_ge hen e_bl.1
      refine lv_iload hx hb dR_binary_20 (lv_at hl 0 rfl) ?_
      refine lv_sipush (v := 300) hx hb dR_binary_22 (by decide) ?_
      refine lv_icmp_ge (tgt := 72) hx hb dR_binary_25 (by decide) (fun c_1 => ?_) (fun c_1 => ?_)
      · skip
        have e_25 : 300 - i = 0 := by have := xi_le (a := 300) c_1 (by decide) (by omega); omega
        have e_fin : (sh_Bin tx (lU tx k) un p0 env) = sh_fin un sk v (sh_sign2 tx pl).2 e3 := by rw [← he, e_25]; rfl
        refine lv_aload_n hx hb dR_binary_72 rfl (lv_at hl 4 rfl) ?_
        refine lv_iload_n hx hb dR_binary_73 rfl (lv_at hl 3 rfl) ?_
        refine lv_iconst (v := 0) hx hb dR_binary_74 (by decide) ?_
        refine xw_topi (y := nI 0) (nI_0.symm) ?_
        refine lv_lload_n hx hb dR_binary_75 rfl (lv_at hl 2 rfl) ?_
        have e_sz : 3 * (e3.length - env.length) + zk (sh_settle un sk 0 v) ≤ zmc env (sh_Bin tx (lU tx k) un p0 env) ∧ 323 * (e3.length - env.length) + 6 * zk (sh_settle un sk 0 v) ≤ zms env (sh_Bin tx (lU tx k) un p0 env) := zm_add e_zz (fun h2 => by rw [e_fin]; unfold sh_fin; rw [h2]; rfl)
        refine zX_call (vx_runV (As := [.int (nI wt), .int (nI 0), .long v]) (rest := []) ⟨hx, hb, hml, hown, htz⟩ (k_R_settle l hl9 dC dI kC kI kJ kQ a0 aR aN aS aF aK wt un rs fx sg3 ff3 q3 tx ns3 e3 fr hx3 hB hfx hE3 _ (nI (sh_sign2 tx pl).2) sk 0 v (by omega) (by omega) (by omega) hpd) (cwV 3 htz (zg_V zw_2_137 zw_2_139 zs_R_settle zw_1_2 zw_2_140) rfl rfl rfl (by decide +kernel) ⟨by dsimp only [headSpec]; omega, by dsimp only [headSpec]; omega⟩) (zV_V hP hK hD hN hT hU hS hA (va_recv hK hP (ci := 2) (q0 := 0) rfl rfl)) rfl rfl hl.1 rfl (lv_room (Nat.le_of_ble_eq_true rfl)) dR_binary_76 ⟨by show 3 * (e3.length - env.length) + (zk (sh_settle un sk 0 v)) ≤ zmc env (sh_Bin tx (lU tx k) un p0 env); omega, by show 323 * (e3.length - env.length) + (6 * zk (sh_settle un sk 0 v)) ≤ zms env (sh_Bin tx (lU tx k) un p0 env); omega⟩) hD hS hA (fun ce q9 w H locs hp hP hD hS hce hcv hcl => ?_) (fun v w H locs hp hP hD hS => ?_)
        · skip
          obtain ⟨h2, wt9, un9, hw⟩ := hp
          rw [hw] at hP hD
          exact zX_out hEx hlocks ⟨e3, _, _, _, _, _, _, _, by rw [e_fin]; unfold sh_fin; rw [h2]; rfl, hE3, rfl⟩ hP hD hS hce hcv hcl (by omega) (by omega)
        obtain ⟨y, h2, rfl, hw⟩ := hp
        rw [hw] at hP hD
        have hP : va_P (dC, dI) vwCl ((a0, .inr (2, [.ref aR, .ref aN, .ref aS, .ref aF, .int (nI (wt + y.2.length)), .int (nI tx.length), .int (nI (sh_sign2 tx pl).2), .int (nI (un + sh_cnt y.2)), .long rs])) :: (aR, .inl (kC, 300, .inl fx)) :: (aN, .inr (1, [.ref aK, .int (nI ns3.length)])) :: (aK, .inl (kQ, 64, .inr (.inr (.inr (.inr q3))))) :: (aS, .inl (kI, 150, .inl sg3)) :: (aF, .inl (kJ, 150, .inr (.inl ff3))) :: (fr ++ rw_p 0 kC ns3)) _ := hP
        have hD : va_D A ((a0, .inr (2, [.ref aR, .ref aN, .ref aS, .ref aF, .int (nI (wt + y.2.length)), .int (nI tx.length), .int (nI (sh_sign2 tx pl).2), .int (nI (un + sh_cnt y.2)), .long rs])) :: (aR, .inl (kC, 300, .inl fx)) :: (aN, .inr (1, [.ref aK, .int (nI ns3.length)])) :: (aK, .inl (kQ, 64, .inr (.inr (.inr (.inr q3))))) :: (aS, .inl (kI, 150, .inl sg3)) :: (aF, .inl (kJ, 150, .inr (.inl ff3))) :: (fr ++ rw_p 0 kC ns3)) := hD
        refine W.eq (g2 := F0 m 79 ls [.long y.1]) rfl ?_
        have e_sl := sh_settle_le hpd h2
        have e_s0 : zk (sh_settle un sk 0 v) = 0 := by rw [h2]; rfl
        refine W.widen (k := 3 * (e3.length - env.length)) (n := 323 * (e3.length - env.length)) (by omega) (by omega) ?_
        have e_y : y.2 = [] := sh_settle_0 h2
        rw [e_y] at hP hD
        refine W.widen (k := zmc env (sh_Bin tx (lU tx k) un p0 env)) (n := zms env (sh_Bin tx (lU tx k) un p0 env)) (by omega) (by omega) ?_
        exact vx_ret (W.lret (v := y.1) hx hb hr (fun t ht _ => ⟨_, _, rfl, ⟨(y.1, (sh_sign2 tx pl).2), e3, sg3, ff3, q3, ns3, by rw [e_fin]; unfold sh_fin; rw [h2]; rfl, rfl, hE3, hsf3, rfl⟩, by rw [ht]; exact hP, hD, hS.F ht⟩) hS.2.2 dR_binary_79)
      have e_25 : i < 300 := xi_nle (a := 300) c_1 (by decide) (by omega)
      have e_f : 300 - i = (300 - (i + 1)) + 1 := by omega
      refine lv_iload hx hb dR_binary_28 (lv_at hl 1 rfl) ?_
      refine lv_if_eq (tgt := 72) hx hb dR_binary_30 (by decide) (fun c_2 => ?_) (fun c_2 => ?_)
      · skip
        have c_s : (sh_sign2 tx pl).1 = 0 := c_2
        have e_fin : (sh_Bin tx (lU tx k) un p0 env) = sh_fin un sk v (sh_sign2 tx pl).2 e3 := by rw [← he, e_f]; exact sh_bl_fin c_s
        refine lv_aload_n hx hb dR_binary_72 rfl (lv_at hl 4 rfl) ?_
        refine lv_iload_n hx hb dR_binary_73 rfl (lv_at hl 3 rfl) ?_
        refine lv_iconst (v := 0) hx hb dR_binary_74 (by decide) ?_
        refine xw_topi (y := nI 0) (nI_0.symm) ?_
        refine lv_lload_n hx hb dR_binary_75 rfl (lv_at hl 2 rfl) ?_
        have e_sz : 3 * (e3.length - env.length) + zk (sh_settle un sk 0 v) ≤ zmc env (sh_Bin tx (lU tx k) un p0 env) ∧ 323 * (e3.length - env.length) + 6 * zk (sh_settle un sk 0 v) ≤ zms env (sh_Bin tx (lU tx k) un p0 env) := zm_add e_zz (fun h2 => by rw [e_fin]; unfold sh_fin; rw [h2]; rfl)
        refine zX_call (vx_runV (As := [.int (nI wt), .int (nI 0), .long v]) (rest := []) ⟨hx, hb, hml, hown, htz⟩ (k_R_settle l hl9 dC dI kC kI kJ kQ a0 aR aN aS aF aK wt un rs fx sg3 ff3 q3 tx ns3 e3 fr hx3 hB hfx hE3 _ (nI (sh_sign2 tx pl).2) sk 0 v (by omega) (by omega) (by omega) hpd) (cwV 3 htz (zg_V zw_2_137 zw_2_139 zs_R_settle zw_1_2 zw_2_140) rfl rfl rfl (by decide +kernel) ⟨by dsimp only [headSpec]; omega, by dsimp only [headSpec]; omega⟩) (zV_V hP hK hD hN hT hU hS hA (va_recv hK hP (ci := 2) (q0 := 0) rfl rfl)) rfl rfl hl.1 rfl (lv_room (Nat.le_of_ble_eq_true rfl)) dR_binary_76 ⟨by show 3 * (e3.length - env.length) + (zk (sh_settle un sk 0 v)) ≤ zmc env (sh_Bin tx (lU tx k) un p0 env); omega, by show 323 * (e3.length - env.length) + (6 * zk (sh_settle un sk 0 v)) ≤ zms env (sh_Bin tx (lU tx k) un p0 env); omega⟩) hD hS hA (fun ce q9 w H locs hp hP hD hS hce hcv hcl => ?_) (fun v w H locs hp hP hD hS => ?_)
        · skip
          obtain ⟨h2, wt9, un9, hw⟩ := hp
          rw [hw] at hP hD
          exact zX_out hEx hlocks ⟨e3, _, _, _, _, _, _, _, by rw [e_fin]; unfold sh_fin; rw [h2]; rfl, hE3, rfl⟩ hP hD hS hce hcv hcl (by omega) (by omega)
        obtain ⟨y, h2, rfl, hw⟩ := hp
        rw [hw] at hP hD
        have hP : va_P (dC, dI) vwCl ((a0, .inr (2, [.ref aR, .ref aN, .ref aS, .ref aF, .int (nI (wt + y.2.length)), .int (nI tx.length), .int (nI (sh_sign2 tx pl).2), .int (nI (un + sh_cnt y.2)), .long rs])) :: (aR, .inl (kC, 300, .inl fx)) :: (aN, .inr (1, [.ref aK, .int (nI ns3.length)])) :: (aK, .inl (kQ, 64, .inr (.inr (.inr (.inr q3))))) :: (aS, .inl (kI, 150, .inl sg3)) :: (aF, .inl (kJ, 150, .inr (.inl ff3))) :: (fr ++ rw_p 0 kC ns3)) _ := hP
        have hD : va_D A ((a0, .inr (2, [.ref aR, .ref aN, .ref aS, .ref aF, .int (nI (wt + y.2.length)), .int (nI tx.length), .int (nI (sh_sign2 tx pl).2), .int (nI (un + sh_cnt y.2)), .long rs])) :: (aR, .inl (kC, 300, .inl fx)) :: (aN, .inr (1, [.ref aK, .int (nI ns3.length)])) :: (aK, .inl (kQ, 64, .inr (.inr (.inr (.inr q3))))) :: (aS, .inl (kI, 150, .inl sg3)) :: (aF, .inl (kJ, 150, .inr (.inl ff3))) :: (fr ++ rw_p 0 kC ns3)) := hD
        refine W.eq (g2 := F0 m 79 ls [.long y.1]) rfl ?_
        have e_sl := sh_settle_le hpd h2
        have e_s0 : zk (sh_settle un sk 0 v) = 0 := by rw [h2]; rfl
        refine W.widen (k := 3 * (e3.length - env.length)) (n := 323 * (e3.length - env.length)) (by omega) (by omega) ?_
        have e_y : y.2 = [] := sh_settle_0 h2
        rw [e_y] at hP hD
        refine W.widen (k := zmc env (sh_Bin tx (lU tx k) un p0 env)) (n := zms env (sh_Bin tx (lU tx k) un p0 env)) (by omega) (by omega) ?_
        exact vx_ret (W.lret (v := y.1) hx hb hr (fun t ht _ => ⟨_, _, rfl, ⟨(y.1, (sh_sign2 tx pl).2), e3, sg3, ff3, q3, ns3, by rw [e_fin]; unfold sh_fin; rw [h2]; rfl, rfl, hE3, hsf3, rfl⟩, by rw [ht]; exact hP, hD, hS.F ht⟩) hS.2.2 dR_binary_79)
      have c_s : ¬ (sh_sign2 tx pl).1 = 0 := c_2
      have e_s3 := e_s2.2.2 c_s
      refine lv_aload_n hx hb dR_binary_33 rfl (lv_at hl 4 rfl) ?_
      refine lv_iload_n hx hb dR_binary_34 rfl (lv_at hl 3 rfl) ?_
      refine lv_iload hx hb dR_binary_35 (lv_at hl 1 rfl) ?_
      have hr_37 := sh_rank_le (sh_sign2 tx pl).1
      refine rq_call (va_runSN (As := [.int ((sh_sign2 tx pl).1)]) (rest := [.int (nI wt), .ref a0]) ⟨hx, hb, hml, hown, htz⟩ (k_G_rankOf l (sh_sign2 tx pl).1) ⟨va_cnB 1 htz (zg_c zw_1_230) rfl rfl rfl (hN _ zn_1_228) (htz _ zw_1_5) (by decide +kernel) ⟨by dsimp only [headSpec]; omega, by dsimp only [headSpec]; omega⟩, htz _ zw_1_229, trivial⟩ rq_pre rfl rfl hl.1 rfl (lv_room (Nat.le_of_ble_eq_true rfl)) dR_binary_37 ⟨by show 3 * (e3.length - env.length) + 0 ≤ zmc env (sh_Bin tx (lU tx k) un p0 env); omega, by show 323 * (e3.length - env.length) + 0 ≤ zms env (sh_Bin tx (lU tx k) un p0 env); omega⟩) ?_
      refine W.eq (g2 := F0 m 40 ls [.int (nI (sh_rank (sh_sign2 tx pl).1)), .int (nI wt), .ref a0]) rfl ?_
      refine lv_lload_n hx hb dR_binary_40 rfl (lv_at hl 2 rfl) ?_
      have e_sz : 3 * (e3.length - env.length) + zk (sh_settle un sk (sh_rank (sh_sign2 tx pl).1) v) ≤ zmc env (sh_Bin tx (lU tx k) un p0 env) ∧ 323 * (e3.length - env.length) + 6 * zk (sh_settle un sk (sh_rank (sh_sign2 tx pl).1) v) ≤ zms env (sh_Bin tx (lU tx k) un p0 env) := zm_add e_zz (fun h2 => by rw [← he, e_f]; exact sh_bl_n1 c_s h2)
      refine zX_call (vx_runV (As := [.int (nI wt), .int (nI (sh_rank (sh_sign2 tx pl).1)), .long v]) (rest := []) ⟨hx, hb, hml, hown, htz⟩ (k_R_settle l hl9 dC dI kC kI kJ kQ a0 aR aN aS aF aK wt un rs fx sg3 ff3 q3 tx ns3 e3 fr hx3 hB hfx hE3 _ (nI (sh_sign2 tx pl).2) sk (sh_rank (sh_sign2 tx pl).1) v (by omega) (by omega) (by omega) hpd) (cwV 3 htz (zg_V zw_2_137 zw_2_139 zs_R_settle zw_1_2 zw_2_140) rfl rfl rfl (by decide +kernel) ⟨by dsimp only [headSpec]; omega, by dsimp only [headSpec]; omega⟩) (zV_V hP hK hD hN hT hU hS hA (va_recv hK hP (ci := 2) (q0 := 0) rfl rfl)) rfl rfl hl.1 rfl (lv_room (Nat.le_of_ble_eq_true rfl)) dR_binary_41 ⟨by show 3 * (e3.length - env.length) + (zk (sh_settle un sk (sh_rank (sh_sign2 tx pl).1) v)) ≤ zmc env (sh_Bin tx (lU tx k) un p0 env); omega, by show 323 * (e3.length - env.length) + (6 * zk (sh_settle un sk (sh_rank (sh_sign2 tx pl).1) v)) ≤ zms env (sh_Bin tx (lU tx k) un p0 env); omega⟩) hD hS hA (fun ce q9 w H locs hp hP hD hS hce hcv hcl => ?_) (fun v w H locs hp hP hD hS => ?_)
      · skip
        obtain ⟨h2, wt9, un9, hw⟩ := hp
        rw [hw] at hP hD
        exact zX_out hEx hlocks ⟨e3, _, _, _, _, _, _, _, by rw [← he, e_f]; exact sh_bl_n1 c_s h2, hE3, rfl⟩ hP hD hS hce hcv hcl (by omega) (by omega)
      obtain ⟨y, h2, rfl, hw⟩ := hp
      rw [hw] at hP hD
      have hP : va_P (dC, dI) vwCl ((a0, .inr (2, [.ref aR, .ref aN, .ref aS, .ref aF, .int (nI (wt + y.2.length)), .int (nI tx.length), .int (nI (sh_sign2 tx pl).2), .int (nI (un + sh_cnt y.2)), .long rs])) :: (aR, .inl (kC, 300, .inl fx)) :: (aN, .inr (1, [.ref aK, .int (nI ns3.length)])) :: (aK, .inl (kQ, 64, .inr (.inr (.inr (.inr q3))))) :: (aS, .inl (kI, 150, .inl sg3)) :: (aF, .inl (kJ, 150, .inr (.inl ff3))) :: (fr ++ rw_p 0 kC ns3)) _ := hP
      have hD : va_D A ((a0, .inr (2, [.ref aR, .ref aN, .ref aS, .ref aF, .int (nI (wt + y.2.length)), .int (nI tx.length), .int (nI (sh_sign2 tx pl).2), .int (nI (un + sh_cnt y.2)), .long rs])) :: (aR, .inl (kC, 300, .inl fx)) :: (aN, .inr (1, [.ref aK, .int (nI ns3.length)])) :: (aK, .inl (kQ, 64, .inr (.inr (.inr (.inr q3))))) :: (aS, .inl (kI, 150, .inl sg3)) :: (aF, .inl (kJ, 150, .inr (.inl ff3))) :: (fr ++ rw_p 0 kC ns3)) := hD
      refine W.eq (g2 := F0 m 44 ls [.long y.1]) rfl ?_
      have e_sl := sh_settle_le hpd h2
      have e_s0 : zk (sh_settle un sk (sh_rank (sh_sign2 tx pl).1) v) = 0 := by rw [h2]; rfl
      refine W.widen (k := 3 * (e3.length - env.length)) (n := 323 * (e3.length - env.length)) (by omega) (by omega) ?_
      refine lv_lstore (lv' := [(7, .long y.1), (6, .int (nI i)), (5, .int ((sh_sign2 tx pl).1)), (3, .long v), (2, .int (nI wt)), (0, .ref a0), (1, .int (nI d))]) hx hb dR_binary_44 hl (by decide) rfl (fun ls hl => ?_)
      refine lv_aload_n hx hb dR_binary_46 rfl (lv_at hl 5 rfl) ?_
      refine lv_iload hx hb dR_binary_47 (lv_at hl 2 rfl) ?_
      refine lv_lload hx hb dR_binary_49 (lv_at hl 0 rfl) ?_
      have e_cy := sh_cnt_le y.2
      refine zQ_call (va_runV (As := [.int ((sh_sign2 tx pl).1), .long y.1]) (rest := []) ⟨hx, hb, hml, hown, htz⟩ (k_R_await l dC dI kC kI kJ kQ a0 aR aN aS aF aK (wt + y.2.length) (un + sh_cnt y.2) rs fx sg3 ff3 q3 tx ns3 e3 fr hx3 hB hfx hE3 _ (nI (sh_sign2 tx pl).2) (sh_sign2 tx pl).1 y.1 (by omega) (by omega)) (cwV 2 htz (zg_V zw_2_148 zw_2_150 zs_R_await zw_1_2 zw_2_151) rfl rfl rfl (by decide +kernel) ⟨by dsimp only [headSpec]; omega, by dsimp only [headSpec]; omega⟩) (zW_V hP hK hD hN (va_recv hK hP (ci := 2) (q0 := 0) rfl rfl)) rfl rfl hl.1 rfl (lv_room (Nat.le_of_ble_eq_true rfl)) dR_binary_51 ⟨by show 3 * (e3.length - env.length) + 0 ≤ zmc env (sh_Bin tx (lU tx k) un p0 env); omega, by show 323 * (e3.length - env.length) + 0 ≤ zms env (sh_Bin tx (lU tx k) un p0 env); omega⟩) hD hS hA (fun v w H locs hp hP hD hS => ?_)
      obtain ⟨rfl, hw⟩ := hp
      have e_u : un + sh_cnt y.2 + (if sh_settled (sh_sign2 tx pl).1 y.1 = true then 1 else 0) = un + sh_cnt (((sh_sign2 tx pl).1, y.1) :: y.2) := by show _ = un + ((if sh_settled (sh_sign2 tx pl).1 y.1 = true then 1 else 0) + sh_cnt y.2); omega
      rw [hw, e_u] at hP hD
      have hP : va_P (dC, dI) vwCl ((a0, .inr (2, [.ref aR, .ref aN, .ref aS, .ref aF, .int (nI (wt + (((sh_sign2 tx pl).1, y.1) :: y.2).length)), .int (nI tx.length), .int (nI (sh_sign2 tx pl).2), .int (nI (un + sh_cnt (((sh_sign2 tx pl).1, y.1) :: y.2))), .long rs])) :: (aR, .inl (kC, 300, .inl fx)) :: (aN, .inr (1, [.ref aK, .int (nI ns3.length)])) :: (aK, .inl (kQ, 64, .inr (.inr (.inr (.inr q3))))) :: (aS, .inl (kI, 150, .inl (upd sg3 (wt + y.2.length) (sh_sign2 tx pl).1))) :: (aF, .inl (kJ, 150, .inr (.inl (vp_updL ff3 (wt + y.2.length) y.1)))) :: (fr ++ rw_p 0 kC ns3)) _ := hP
      have hD : va_D A ((a0, .inr (2, [.ref aR, .ref aN, .ref aS, .ref aF, .int (nI (wt + (((sh_sign2 tx pl).1, y.1) :: y.2).length)), .int (nI tx.length), .int (nI (sh_sign2 tx pl).2), .int (nI (un + sh_cnt (((sh_sign2 tx pl).1, y.1) :: y.2))), .long rs])) :: (aR, .inl (kC, 300, .inl fx)) :: (aN, .inr (1, [.ref aK, .int (nI ns3.length)])) :: (aK, .inl (kQ, 64, .inr (.inr (.inr (.inr q3))))) :: (aS, .inl (kI, 150, .inl (upd sg3 (wt + y.2.length) (sh_sign2 tx pl).1))) :: (aF, .inl (kJ, 150, .inr (.inl (vp_updL ff3 (wt + y.2.length) y.1)))) :: (fr ++ rw_p 0 kC ns3)) := hD
      refine W.eq (g2 := F0 m 54 ls []) rfl ?_
      refine W.widen (k := 3 * (e3.length - env.length)) (n := 323 * (e3.length - env.length)) (by omega) (by omega) ?_
      have e_pd : zPd (upd sg3 (wt + y.2.length) (sh_sign2 tx pl).1) (vp_updL ff3 (wt + y.2.length) y.1) wt (((sh_sign2 tx pl).1, y.1) :: y.2) := zPd_push e_sl.2
      have e_ck := sh_cnt_le (((sh_sign2 tx pl).1, y.1) :: y.2)
      have e_lk : (((sh_sign2 tx pl).1, y.1) :: y.2).length = y.2.length + 1 := rfl
      refine lv_aload_n hx hb dR_binary_54 rfl (lv_at hl 5 rfl) ?_
      refine lv_iload_n hx hb dR_binary_55 rfl (lv_at hl 6 rfl) ?_
      have e_u4 := e_gd (un + sh_cnt (((sh_sign2 tx pl).1, y.1) :: y.2)) (sh_sign2 tx pl).2 e3 e_s2.2.1
      have e_z4a : 3 * (e3.length - env.length) + zmc e3 (lU tx k (un + sh_cnt (((sh_sign2 tx pl).1, y.1) :: y.2)) (sh_sign2 tx pl).2 e3) ≤ zmc env (sh_Bin tx (lU tx k) un p0 env) ∧ 323 * (e3.length - env.length) + zms e3 (lU tx k (un + sh_cnt (((sh_sign2 tx pl).1, y.1) :: y.2)) (sh_sign2 tx pl).2 e3) ≤ zms env (sh_Bin tx (lU tx k) un p0 env) := by
        rw [← he, e_f]
        exact zm_bl hB e_gd hen e_u4 c_s h2
      refine zX_call (vx_runV (As := [.int (nI d)]) (rest := []) ⟨hx, hb, hml, hown, htz⟩ (hKU dC dI kC kI kJ kQ a0 aR aN aS aF aK (wt + (((sh_sign2 tx pl).1, y.1) :: y.2).length) (un + sh_cnt (((sh_sign2 tx pl).1, y.1) :: y.2)) rs fx (upd sg3 (wt + y.2.length) (sh_sign2 tx pl).1) (vp_updL ff3 (wt + y.2.length) y.1) q3 tx ns3 e3 fr hx3 hB hfx hE3 _ ((sh_sign2 tx pl).2) d e_s2.2.1 hkd (by omega) (by omega)) (cwV 1 htz (zg_V zw_2_117 zw_2_119 zs_R_unary zw_1_2 zw_2_120) rfl rfl rfl (by decide +kernel) ⟨by dsimp only [headSpec]; omega, by dsimp only [headSpec]; omega⟩) (zV_V hP hK hD hN hT hU hS hA (va_recv hK hP (ci := 2) (q0 := 0) rfl rfl)) rfl rfl hl.1 rfl (lv_room (Nat.le_of_ble_eq_true rfl)) dR_binary_56 ⟨by show 3 * (e3.length - env.length) + (zmc e3 (lU tx k (un + sh_cnt (((sh_sign2 tx pl).1, y.1) :: y.2)) ((sh_sign2 tx pl).2) e3)) ≤ zmc env (sh_Bin tx (lU tx k) un p0 env); omega, by show 323 * (e3.length - env.length) + (zms e3 (lU tx k (un + sh_cnt (((sh_sign2 tx pl).1, y.1) :: y.2)) ((sh_sign2 tx pl).2) e3)) ≤ zms env (sh_Bin tx (lU tx k) un p0 env); omega⟩) hD hS hA (fun ce q9 w H locs hp hP hD hS hce hcv hcl => ?_) (fun v w H locs hp hP hD hS => ?_)
      · skip
        obtain ⟨e4, wt9, pl9, un9, sg9, ff9, q9_, ns9, h4, hE9, hw⟩ := hp
        rw [hw] at hP hD
        exact zX_out hEx hlocks ⟨e4, _, _, _, _, _, _, _, by rw [← he, e_f]; exact sh_bl_n2 c_s h2 h4, hE9, rfl⟩ hP hD hS hce hcv hcl (by omega) (by omega)
      obtain ⟨z4, e4, sg4, ff4, q4, ns4, h4, rfl, hE4, hsf4, hw⟩ := hp
      rw [hw] at hP hD
      have hP : va_P (dC, dI) vwCl ((a0, .inr (2, [.ref aR, .ref aN, .ref aS, .ref aF, .int (nI (wt + (((sh_sign2 tx pl).1, y.1) :: y.2).length)), .int (nI tx.length), .int (nI z4.2), .int (nI (un + sh_cnt (((sh_sign2 tx pl).1, y.1) :: y.2))), .long rs])) :: (aR, .inl (kC, 300, .inl fx)) :: (aN, .inr (1, [.ref aK, .int (nI ns4.length)])) :: (aK, .inl (kQ, 64, .inr (.inr (.inr (.inr q4))))) :: (aS, .inl (kI, 150, .inl sg4)) :: (aF, .inl (kJ, 150, .inr (.inl ff4))) :: (fr ++ rw_p 0 kC ns4)) _ := hP
      have hD : va_D A ((a0, .inr (2, [.ref aR, .ref aN, .ref aS, .ref aF, .int (nI (wt + (((sh_sign2 tx pl).1, y.1) :: y.2).length)), .int (nI tx.length), .int (nI z4.2), .int (nI (un + sh_cnt (((sh_sign2 tx pl).1, y.1) :: y.2))), .long rs])) :: (aR, .inl (kC, 300, .inl fx)) :: (aN, .inr (1, [.ref aK, .int (nI ns4.length)])) :: (aK, .inl (kQ, 64, .inr (.inr (.inr (.inr q4))))) :: (aS, .inl (kI, 150, .inl sg4)) :: (aF, .inl (kJ, 150, .inr (.inl ff4))) :: (fr ++ rw_p 0 kC ns4)) := hD
      refine W.eq (g2 := F0 m 59 ls [.long z4.1]) rfl ?_
      rw [h4] at e_u4
      have e_z4 := e_u4.2 z4 rfl
      have e_l4 : e3.length ≤ e4.length := e_u4.1
      have e_z5 : zmc e3 (lU tx k (un + sh_cnt (((sh_sign2 tx pl).1, y.1) :: y.2)) (sh_sign2 tx pl).2 e3) = 3 * (e4.length - e3.length) ∧ zms e3 (lU tx k (un + sh_cnt (((sh_sign2 tx pl).1, y.1) :: y.2)) (sh_sign2 tx pl).2 e3) = 323 * (e4.length - e3.length) := by rw [h4]; exact ⟨rfl, rfl⟩
      refine W.widen (k := 3 * (e4.length - env.length)) (n := 323 * (e4.length - env.length)) (by omega) (by omega) ?_
      refine lv_lstore_n (lv' := [(3, .long z4.1), (7, .long y.1), (6, .int (nI i)), (5, .int ((sh_sign2 tx pl).1)), (2, .int (nI wt)), (0, .ref a0), (1, .int (nI d))]) hx hb dR_binary_59 rfl hl (by decide) rfl (fun ls hl => ?_)
      refine lv_aload_n hx hb dR_binary_60 rfl (lv_at hl 5 rfl) ?_
      refine zQ_call (va_runV (As := []) (rest := []) ⟨hx, hb, hml, hown, htz⟩ (k_R_signOfTwo l dC dI kC kI kJ kQ a0 aR aN aS aF (nI (wt + (((sh_sign2 tx pl).1, y.1) :: y.2).length)) (nI (un + sh_cnt (((sh_sign2 tx pl).1, y.1) :: y.2))) rs fx tx ((aN, .inr (1, [.ref aK, .int (nI ns4.length)])) :: (aK, .inl (kQ, 64, .inr (.inr (.inr (.inr q4))))) :: (aS, .inl (kI, 150, .inl sg4)) :: (aF, .inl (kJ, 150, .inr (.inl ff4))) :: (fr ++ rw_p 0 kC ns4)) hx3 hB hfx _ z4.2 e_z4.2) (cwV 0 htz (zg_V zw_2_133 zw_2_135 zs_R_signOfTwo zw_1_2 zw_2_136) rfl rfl rfl (by decide +kernel) ⟨by dsimp only [headSpec]; omega, by dsimp only [headSpec]; omega⟩) (zW_V hP hK hD hN (va_recv hK hP (ci := 2) (q0 := 0) rfl rfl)) rfl rfl hl.1 rfl (lv_room (Nat.le_of_ble_eq_true rfl)) dR_binary_61 ⟨by show 3 * (e4.length - env.length) + 0 ≤ zmc env (sh_Bin tx (lU tx k) un p0 env); omega, by show 323 * (e4.length - env.length) + 0 ≤ zms env (sh_Bin tx (lU tx k) un p0 env); omega⟩) hD hS hA (fun v w H locs hp hP hD hS => ?_)
      obtain ⟨rfl, hw⟩ := hp
      rw [hw] at hP hD
      have hP : va_P (dC, dI) vwCl ((a0, .inr (2, [.ref aR, .ref aN, .ref aS, .ref aF, .int (nI (wt + (((sh_sign2 tx pl).1, y.1) :: y.2).length)), .int (nI tx.length), .int (nI (sh_sign2 tx z4.2).2), .int (nI (un + sh_cnt (((sh_sign2 tx pl).1, y.1) :: y.2))), .long rs])) :: (aR, .inl (kC, 300, .inl fx)) :: (aN, .inr (1, [.ref aK, .int (nI ns4.length)])) :: (aK, .inl (kQ, 64, .inr (.inr (.inr (.inr q4))))) :: (aS, .inl (kI, 150, .inl sg4)) :: (aF, .inl (kJ, 150, .inr (.inl ff4))) :: (fr ++ rw_p 0 kC ns4)) _ := hP
      have hD : va_D A ((a0, .inr (2, [.ref aR, .ref aN, .ref aS, .ref aF, .int (nI (wt + (((sh_sign2 tx pl).1, y.1) :: y.2).length)), .int (nI tx.length), .int (nI (sh_sign2 tx z4.2).2), .int (nI (un + sh_cnt (((sh_sign2 tx pl).1, y.1) :: y.2))), .long rs])) :: (aR, .inl (kC, 300, .inl fx)) :: (aN, .inr (1, [.ref aK, .int (nI ns4.length)])) :: (aK, .inl (kQ, 64, .inr (.inr (.inr (.inr q4))))) :: (aS, .inl (kI, 150, .inl sg4)) :: (aF, .inl (kJ, 150, .inr (.inl ff4))) :: (fr ++ rw_p 0 kC ns4)) := hD
      refine W.eq (g2 := F0 m 64 ls [.int ((sh_sign2 tx z4.2).1)]) rfl ?_
      refine W.widen (k := 3 * (e4.length - env.length)) (n := 323 * (e4.length - env.length)) (by omega) (by omega) ?_
      refine lv_istore (lv' := [(5, .int ((sh_sign2 tx z4.2).1)), (3, .long z4.1), (7, .long y.1), (6, .int (nI i)), (2, .int (nI wt)), (0, .ref a0), (1, .int (nI d))]) hx hb dR_binary_64 hl (by decide) rfl (fun ls hl => ?_)
      refine lv_iinc (v := nI (i + 1)) (lv' := [(6, .int (nI (i + 1))), (5, .int ((sh_sign2 tx z4.2).1)), (3, .long z4.1), (7, .long y.1), (2, .int (nI wt)), (0, .ref a0), (1, .int (nI d))]) hx hb dR_binary_66 hl (k := 3) rfl (nI_1 i) (by decide) rfl (fun ls hl => ?_)
      refine lv_goto (tgt := 20) hx hb dR_binary_69 (by decide) ?_
      exact ih_loop_20 (i + 1) (((sh_sign2 tx pl).1, y.1) :: y.2) z4.1 z4.2 e4 sg4 ff4 q4 ns4 (by omega) (by omega) (hE4) (e_z4.2) (by rw [List.length_cons]; omega) (zPd_same hsf4 e_pd) (fun j h => ⟨((hsf4 j (by rw [List.length_cons]; omega)).1.trans (pk_un (by omega))).trans (hsf3 j h).1, ((hsf4 j (by rw [List.length_cons]; omega)).2.trans (if_neg (by omega))).trans (hsf3 j h).2⟩) (Nat.le_trans hen e_u4.1) (by rw [← he, e_f]; exact (sh_bl_go c_s h2 h4).symm) _ _ hP hD hS ls (lv_sub hl [0, 1, 2, 4, 5, 6] rfl)
  exact loop_20 _ 0 ([]) z.1 z.2 e2 sg2 ff2 q2 ns2 (Nat.lt_succ_self _) (Nat.zero_le _) (hE2) (e_zp.2) (by show 2 * (wt + 0) + 1 ≤ z.2; omega) (trivial) (hsf2) (e_u.1) (e_R.symm) _ _ hP hD hS ls (lv_sub hl [0, 1, 2, 3, 4, 5] rfl)
