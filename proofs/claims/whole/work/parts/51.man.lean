set_option maxHeartbeats 8000000 in
set_option maxRecDepth 100000 in
/-- manages(length) -/
theorem k_R_manages (l : Launch) (hl9 : l.stackTraces = false) (dC : Nat → ClassId) (dI : Nat → Nat → Nat) (kC kI kJ kQ : ClassId) (a0 aR aN aS aF aK : Nat) (wt0 un0 pl0 ln0 : Int32) (rs : Int64) (fx sg : Nat → Int32) (ff : Nat → Int64) (q : Nat → Option Nat) (tx : List Int32) (ns : List rw_N) (env : sh_Env) (fr : va_W) (hx3 : tx.length ≤ 300) (hB : sh_B tx) (hfx : ∀ j, j < tx.length → fx j = sh_at tx j) (hE : zEn q ns env) (sz : Nat) : Met l yR_manages wsR_manages ({ frames := 178, cells := zmc env (sh_val tx env), slots := zms env (sh_val tx env), locals := 5240 }) (va_Pc [.ref a0, .int (nI tx.length)] (zV dC dI [(kC, .char), (kI, .int), (kJ, .long), (kQ, .object "ShellSum$Named")] ((a0, .inr (2, [.ref aR, .ref aN, .ref aS, .ref aF, .int wt0, .int ln0, .int pl0, .int un0, .long rs])) :: (aR, .inl (kC, 300, .inl fx)) :: (aN, .inr (1, [.ref aK, .int (nI ns.length)])) :: (aK, .inl (kQ, 64, .inr (.inr (.inr (.inr q))))) :: (aS, .inl (kI, 150, .inl sg)) :: (aF, .inl (kJ, 150, .inr (.inl ff))) :: (fr ++ rw_p 0 kC ns)) sz)) (zQ dC dI (va_A ((a0, .inr (2, [.ref aR, .ref aN, .ref aS, .ref aF, .int wt0, .int ln0, .int pl0, .int un0, .long rs])) :: (aR, .inl (kC, 300, .inl fx)) :: (aN, .inr (1, [.ref aK, .int (nI ns.length)])) :: (aK, .inl (kQ, 64, .inr (.inr (.inr (.inr q))))) :: (aS, .inl (kI, 150, .inl sg)) :: (aF, .inl (kJ, 150, .inr (.inl ff))) :: (fr ++ rw_p 0 kC ns)) sz) (fun v w => v = some (.int (sh_b (sh_val tx env).1.isSome)) ∧ ∃ (wt2 pl2 un2 : Int32) (rs2 : Int64) (sg2 : Nat → Int32) (ff2 : Nat → Int64) (q2 : Nat → Option Nat) (ns2 : List rw_N), zEn q2 ns2 (sh_val tx env).2 ∧ (∀ x, (sh_val tx env).1 = some x → rs2 = x) ∧ w = ((a0, .inr (2, [.ref aR, .ref aN, .ref aS, .ref aF, .int wt2, .int (nI tx.length), .int pl2, .int un2, .long rs2])) :: (aR, .inl (kC, 300, .inl fx)) :: (aN, .inr (1, [.ref aK, .int (nI ns2.length)])) :: (aK, .inl (kQ, 64, .inr (.inr (.inr (.inr q2))))) :: (aS, .inl (kI, 150, .inl sg2)) :: (aF, .inl (kJ, 150, .inr (.inl ff2))) :: (fr ++ rw_p 0 kC ns2)))) (zmc env (sh_val tx env)) (zms env (sh_val tx env)) (va_A ((a0, .inr (2, [.ref aR, .ref aN, .ref aS, .ref aF, .int wt0, .int ln0, .int pl0, .int un0, .long rs])) :: (aR, .inl (kC, 300, .inl fx)) :: (aN, .inr (1, [.ref aK, .int (nI ns.length)])) :: (aK, .inl (kQ, 64, .inr (.inr (.inr (.inr q))))) :: (aS, .inl (kI, 150, .inl sg)) :: (aF, .inl (kJ, 150, .inr (.inl ff))) :: (fr ++ rw_p 0 kC ns)) sz) := by
  refine va_MetW (cc := cR_manages) (maxL := 3) (ret := (some .boolean)) (hh := [(42, 51, 54, 54)]) (by decide) rfl ?_
  intro p e s m args below meth c s₁ B hml hv
  obtain ⟨rfl, ⟨hsz, hP, hK, hD0, hN⟩, hT, hU⟩ := hv
  subst hsz
  have hD := hD0.self (sz := s.heap.size)
  generalize hAe : va_A ((a0, .inr (2, [.ref aR, .ref aN, .ref aS, .ref aF, .int wt0, .int ln0, .int pl0, .int un0, .long rs])) :: (aR, .inl (kC, 300, .inl fx)) :: (aN, .inr (1, [.ref aK, .int (nI ns.length)])) :: (aK, .inl (kQ, 64, .inr (.inr (.inr (.inr q))))) :: (aS, .inl (kI, 150, .inl sg)) :: (aF, .inl (kJ, 150, .inr (.inl ff))) :: (fr ++ rw_p 0 kC ns)) s.heap.size = A at hD hU ⊢
  have hA : ∀ q : Nat, s.heap.size ≤ q → A q := fun q h => by rw [← hAe]; exact Or.inr h
  have hS : va_S A s.heap s.heap [] := va_S.rf
  have hx := B.exec
  have hb := B.bytes
  have hr := B.returns
  have htz : ∀ w ∈ zw, w.before _ s = true := fun w h => atoms_spec (ws := wsR_manages) B.pre w (List.mem_cons_of_mem _ h)
  have hown : s.vm.findClass "ShellSum$Reckoner" = some m.cls := findClass_of_methodNamed B.named
  have hlocks := B.notSynchronized
  have hl := lv_entry ([.ref a0, .int (nI tx.length)]) (n := 3) (Nat.le_of_ble_eq_true rfl)
  rw [lg_entry_eq]
  generalize (lg_sl ([.ref a0, .int (nI tx.length)]) ++ List.replicate (3 - (lg_sl ([.ref a0, .int (nI tx.length)])).length) Slot.unset).toArray = ls at hl ⊢
  have hTb : c.exceptionTable.toList = tableOf [(42, 51, 54, 54)] := vx_table (x := yR_manages) B (htz _ zw_1_200)
  have hsl := sh_skip_le (tx := tx) (Nat.zero_le _)
  have hl : lv_has ls 3 [(0, .ref a0), (1, .int (nI tx.length))] := hl
  refine lv_aload_n hx hb dR_manages_0 rfl (lv_at hl 0 rfl) ?_
  refine lv_iload_n hx hb dR_manages_1 rfl (lv_at hl 1 rfl) ?_
  refine va_put (D := (dC, dI)) (ci := 2) (v := .int (nI tx.length)) (ty := .int) (C := "ShellSum$Reckoner") (T := TR) (N := 9) hx hb htz zu_R tyR tyR_ok nmR hown hK hP hD hS 0 rfl rfl 5 (by decide) (htz _ zw_1_50) (fun _ h9 => h9) rfl (by decide +kernel) rfl rfl (Nat.le_of_ble_eq_true rfl) dR_manages_2 (fun H locs hP hD hS => ?_)
  have hP : va_P (dC, dI) vwCl ((a0, .inr (2, [.ref aR, .ref aN, .ref aS, .ref aF, .int wt0, .int (nI tx.length), .int pl0, .int un0, .long rs])) :: (aR, .inl (kC, 300, .inl fx)) :: (aN, .inr (1, [.ref aK, .int (nI ns.length)])) :: (aK, .inl (kQ, 64, .inr (.inr (.inr (.inr q))))) :: (aS, .inl (kI, 150, .inl sg)) :: (aF, .inl (kJ, 150, .inr (.inl ff))) :: (fr ++ rw_p 0 kC ns)) _ := hP
  have hD : va_D A ((a0, .inr (2, [.ref aR, .ref aN, .ref aS, .ref aF, .int wt0, .int (nI tx.length), .int pl0, .int un0, .long rs])) :: (aR, .inl (kC, 300, .inl fx)) :: (aN, .inr (1, [.ref aK, .int (nI ns.length)])) :: (aK, .inl (kQ, 64, .inr (.inr (.inr (.inr q))))) :: (aS, .inl (kI, 150, .inl sg)) :: (aF, .inl (kJ, 150, .inr (.inl ff))) :: (fr ++ rw_p 0 kC ns)) := hD
  refine lv_aload_n hx hb dR_manages_5 rfl (lv_at hl 0 rfl) ?_
  refine lv_iconst (v := 0) hx hb dR_manages_6 (by decide) ?_
  refine xw_topi (y := nI 0) (nI_0.symm) ?_
  refine va_put (D := (dC, dI)) (ci := 2) (v := .int (nI 0)) (ty := .int) (C := "ShellSum$Reckoner") (T := TR) (N := 9) hx hb htz zu_R tyR tyR_ok nmR hown hK hP hD hS 0 rfl rfl 6 (by decide) (htz _ zw_1_51) (fun _ h9 => h9) rfl (by decide +kernel) rfl rfl (Nat.le_of_ble_eq_true rfl) dR_manages_7 (fun H locs hP hD hS => ?_)
  have hP : va_P (dC, dI) vwCl ((a0, .inr (2, [.ref aR, .ref aN, .ref aS, .ref aF, .int wt0, .int (nI tx.length), .int (nI 0), .int un0, .long rs])) :: (aR, .inl (kC, 300, .inl fx)) :: (aN, .inr (1, [.ref aK, .int (nI ns.length)])) :: (aK, .inl (kQ, 64, .inr (.inr (.inr (.inr q))))) :: (aS, .inl (kI, 150, .inl sg)) :: (aF, .inl (kJ, 150, .inr (.inl ff))) :: (fr ++ rw_p 0 kC ns)) _ := hP
  have hD : va_D A ((a0, .inr (2, [.ref aR, .ref aN, .ref aS, .ref aF, .int wt0, .int (nI tx.length), .int (nI 0), .int un0, .long rs])) :: (aR, .inl (kC, 300, .inl fx)) :: (aN, .inr (1, [.ref aK, .int (nI ns.length)])) :: (aK, .inl (kQ, 64, .inr (.inr (.inr (.inr q))))) :: (aS, .inl (kI, 150, .inl sg)) :: (aF, .inl (kJ, 150, .inr (.inl ff))) :: (fr ++ rw_p 0 kC ns)) := hD
  refine lv_aload_n hx hb dR_manages_10 rfl (lv_at hl 0 rfl) ?_
  refine lv_iconst (v := 0) hx hb dR_manages_11 (by decide) ?_
  refine xw_topi (y := nI 0) (nI_0.symm) ?_
  refine va_put (D := (dC, dI)) (ci := 2) (v := .int (nI 0)) (ty := .int) (C := "ShellSum$Reckoner") (T := TR) (N := 9) hx hb htz zu_R tyR tyR_ok nmR hown hK hP hD hS 0 rfl rfl 4 (by decide) (htz _ zw_1_49) (fun _ h9 => h9) rfl (by decide +kernel) rfl rfl (Nat.le_of_ble_eq_true rfl) dR_manages_12 (fun H locs hP hD hS => ?_)
  have hP : va_P (dC, dI) vwCl ((a0, .inr (2, [.ref aR, .ref aN, .ref aS, .ref aF, .int (nI 0), .int (nI tx.length), .int (nI 0), .int un0, .long rs])) :: (aR, .inl (kC, 300, .inl fx)) :: (aN, .inr (1, [.ref aK, .int (nI ns.length)])) :: (aK, .inl (kQ, 64, .inr (.inr (.inr (.inr q))))) :: (aS, .inl (kI, 150, .inl sg)) :: (aF, .inl (kJ, 150, .inr (.inl ff))) :: (fr ++ rw_p 0 kC ns)) _ := hP
  have hD : va_D A ((a0, .inr (2, [.ref aR, .ref aN, .ref aS, .ref aF, .int (nI 0), .int (nI tx.length), .int (nI 0), .int un0, .long rs])) :: (aR, .inl (kC, 300, .inl fx)) :: (aN, .inr (1, [.ref aK, .int (nI ns.length)])) :: (aK, .inl (kQ, 64, .inr (.inr (.inr (.inr q))))) :: (aS, .inl (kI, 150, .inl sg)) :: (aF, .inl (kJ, 150, .inr (.inl ff))) :: (fr ++ rw_p 0 kC ns)) := hD
  refine lv_aload_n hx hb dR_manages_15 rfl (lv_at hl 0 rfl) ?_
  refine lv_iconst (v := 0) hx hb dR_manages_16 (by decide) ?_
  refine xw_topi (y := nI 0) (nI_0.symm) ?_
  refine va_put (D := (dC, dI)) (ci := 2) (v := .int (nI 0)) (ty := .int) (C := "ShellSum$Reckoner") (T := TR) (N := 9) hx hb htz zu_R tyR tyR_ok nmR hown hK hP hD hS 0 rfl rfl 7 (by decide) (htz _ zw_1_52) (fun _ h9 => h9) rfl (by decide +kernel) rfl rfl (Nat.le_of_ble_eq_true rfl) dR_manages_17 (fun H locs hP hD hS => ?_)
  have hP : va_P (dC, dI) vwCl ((a0, .inr (2, [.ref aR, .ref aN, .ref aS, .ref aF, .int (nI 0), .int (nI tx.length), .int (nI 0), .int (nI 0), .long rs])) :: (aR, .inl (kC, 300, .inl fx)) :: (aN, .inr (1, [.ref aK, .int (nI ns.length)])) :: (aK, .inl (kQ, 64, .inr (.inr (.inr (.inr q))))) :: (aS, .inl (kI, 150, .inl sg)) :: (aF, .inl (kJ, 150, .inr (.inl ff))) :: (fr ++ rw_p 0 kC ns)) _ := hP
  have hD : va_D A ((a0, .inr (2, [.ref aR, .ref aN, .ref aS, .ref aF, .int (nI 0), .int (nI tx.length), .int (nI 0), .int (nI 0), .long rs])) :: (aR, .inl (kC, 300, .inl fx)) :: (aN, .inr (1, [.ref aK, .int (nI ns.length)])) :: (aK, .inl (kQ, 64, .inr (.inr (.inr (.inr q))))) :: (aS, .inl (kI, 150, .inl sg)) :: (aF, .inl (kJ, 150, .inr (.inl ff))) :: (fr ++ rw_p 0 kC ns)) := hD
  refine lv_aload_n hx hb dR_manages_20 rfl (lv_at hl 0 rfl) ?_
  refine zQ_call (va_runV (As := []) (rest := []) ⟨hx, hb, hml, hown, htz⟩ (k_R_skipBlanks l dC dI kC kI kJ kQ a0 aR aN aS aF (nI 0) (nI 0) rs fx tx ((aN, .inr (1, [.ref aK, .int (nI ns.length)])) :: (aK, .inl (kQ, 64, .inr (.inr (.inr (.inr q))))) :: (aS, .inl (kI, 150, .inl sg)) :: (aF, .inl (kJ, 150, .inr (.inl ff))) :: (fr ++ rw_p 0 kC ns)) hx3 hB hfx _ 0 (Nat.zero_le _)) (cwV 0 htz (zg_V zw_1_202 zw_1_204 zs_R_skipBlanks zw_1_2 zw_1_205) rfl rfl rfl (by decide +kernel) ⟨Nat.le_of_ble_eq_true rfl, Nat.le_of_ble_eq_true rfl⟩) (zW_V hP hK hD hN (va_recv hK hP (ci := 2) (q0 := 0) rfl rfl)) rfl rfl hl.1 rfl (lv_room (Nat.le_of_ble_eq_true rfl)) dR_manages_21 ⟨by show 0 + 0 ≤ zmc env (sh_val tx env); omega, by show 0 + 0 ≤ zms env (sh_val tx env); omega⟩) hD hS hA (fun v w H locs hp hP hD hS => ?_)
  obtain ⟨rfl, hw⟩ := hp
  rw [hw] at hP hD
  have hP : va_P (dC, dI) vwCl ((a0, .inr (2, [.ref aR, .ref aN, .ref aS, .ref aF, .int (nI 0), .int (nI tx.length), .int (nI (sh_skip tx 0)), .int (nI 0), .long rs])) :: (aR, .inl (kC, 300, .inl fx)) :: (aN, .inr (1, [.ref aK, .int (nI ns.length)])) :: (aK, .inl (kQ, 64, .inr (.inr (.inr (.inr q))))) :: (aS, .inl (kI, 150, .inl sg)) :: (aF, .inl (kJ, 150, .inr (.inl ff))) :: (fr ++ rw_p 0 kC ns)) _ := hP
  have hD : va_D A ((a0, .inr (2, [.ref aR, .ref aN, .ref aS, .ref aF, .int (nI 0), .int (nI tx.length), .int (nI (sh_skip tx 0)), .int (nI 0), .long rs])) :: (aR, .inl (kC, 300, .inl fx)) :: (aN, .inr (1, [.ref aK, .int (nI ns.length)])) :: (aK, .inl (kQ, 64, .inr (.inr (.inr (.inr q))))) :: (aS, .inl (kI, 150, .inl sg)) :: (aF, .inl (kJ, 150, .inr (.inl ff))) :: (fr ++ rw_p 0 kC ns)) := hD
  refine W.eq (g2 := F0 m 24 ls []) rfl ?_
  refine W.widen (k := 0) (n := 0) (by omega) (by omega) ?_
  refine lv_aload_n hx hb dR_manages_24 rfl (lv_at hl 0 rfl) ?_
  refine va_get (D := (dC, dI)) (ci := 2) (v := .int (nI (sh_skip tx 0))) (C := "ShellSum$Reckoner") (T := TR) (N := 9) hx hb htz zu_R hown hK hP 0 rfl rfl 6 (by decide) (htz _ zw_1_51) (fun _ h9 => h9) rfl dR_manages_25 ?_
  refine lv_aload_n hx hb dR_manages_28 rfl (lv_at hl 0 rfl) ?_
  refine va_get (D := (dC, dI)) (ci := 2) (v := .int (nI tx.length)) (C := "ShellSum$Reckoner") (T := TR) (N := 9) hx hb htz zu_R hown hK hP 0 rfl rfl 5 (by decide) (htz _ zw_1_50) (fun _ h9 => h9) rfl dR_manages_29 ?_
  refine lv_icmp_lt (tgt := 42) hx hb dR_manages_32 (by decide) (fun c_1 => ?_) (fun c_1 => ?_)
  · skip
    have e_32 : ¬ tx.length ≤ sh_skip tx 0 := Nat.not_le.mpr (xi_lt c_1 (by omega) (by omega))
    have e_r : (sh_val tx env) = match lE tx 41 0 (sh_skip tx 0) env with | (none, e2) => (none, e2) | (some z, e2) => if tx.length ≤ sh_skip tx z.2 then (some z.1, e2) else (none, e2) := by unfold sh_val; rw [if_neg e_32]; rfl
    refine lv_aload_n hx hb dR_manages_42 rfl (lv_at hl 0 rfl) ?_
    refine lv_aload_n hx hb dR_manages_43 rfl (lv_at hl 0 rfl) ?_
    refine lv_iconst (v := 0) hx hb dR_manages_44 (by decide) ?_
    refine xw_topi (y := nI 0) (nI_0.symm) ?_
    have e_gd := (sh_gd_lv hB 41).2.2 0 (sh_skip tx 0) env hsl
    have e_zz : zmc env (lE tx 41 0 (sh_skip tx 0) env) ≤ zmc env (sh_val tx env) ∧ zms env (lE tx 41 0 (sh_skip tx 0) env) ≤ zms env (sh_val tx env) := by rw [e_r]; exact zm_val
    refine zX_call (vx_runV (As := [.int (nI 0)]) (rest := [.ref a0]) ⟨hx, hb, hml, hown, htz⟩ ((k_lv l hl9 41 (by decide)).2.2 dC dI kC kI kJ kQ a0 aR aN aS aF aK 0 0 rs fx sg ff q tx ns env fr hx3 hB hfx hE _ (sh_skip tx 0) 0 hsl (by omega) (by omega) (by omega)) (cwV 1 htz (zg_V zw_1_211 zw_1_213 zs_R_expression zw_1_2 zw_1_214) rfl rfl rfl (by decide +kernel) ⟨Nat.le_of_ble_eq_true rfl, Nat.le_of_ble_eq_true rfl⟩) (zV_V hP hK hD hN hT hU hS hA (va_recv hK hP (ci := 2) (q0 := 0) rfl rfl)) rfl rfl hl.1 rfl (lv_room (Nat.le_of_ble_eq_true rfl)) dR_manages_45 ⟨by show 0 + zmc env (lE tx 41 0 (sh_skip tx 0) env) ≤ zmc env (sh_val tx env); omega, by show 0 + zms env (lE tx 41 0 (sh_skip tx 0) env) ≤ zms env (sh_val tx env); omega⟩) hD hS hA (fun ce q9 w H locs hp hP hD hS hce hcv hcl => ?_) (fun v w H locs hp hP hD hS => ?_)
    · skip
      obtain ⟨e2, wt9, pl9, un9, sg9, ff9, q9_, ns9, h1, hE9, hw⟩ := hp
      rw [hw] at hP hD
      refine vx_catch (own := "ShellSum$Reckoner") (name := zE) (E := zE) hown [] ⟨42, 51, 54, 54⟩ [] hTb (fun z h => nomatch h) rfl (by decide) (htz _ zw_1_201) (va_Nw.use rfl (hN _ zn_1_235)) hce hcv hcl ?_
      refine W.eq (g2 := F0 m 54 ls [.ref q9]) rfl ?_
      rw [h1] at e_r
      refine lv_astore_n (lv' := [(2, .ref q9), (0, .ref a0), (1, .int (nI tx.length))]) hx hb dR_manages_54 rfl hl (by decide) rfl (fun ls hl => ?_)
      refine lv_iconst (v := 0) hx hb dR_manages_55 (by decide) ?_
      refine W.widen (k := zmc env (sh_val tx env)) (n := zms env (sh_val tx env)) (by omega) (by omega) ?_
      exact W.zret (v := 0) hx hb hr (rfl) (fun t ht _ => ⟨_, _, rfl, ⟨by rw [e_r]; rfl, _, _, _, _, _, _, _, _, by rw [e_r]; exact hE9, fun x hx => (by rw [e_r] at hx; cases hx), rfl⟩, by rw [ht]; exact hP, hD, hS.F ht⟩) hS.2.2 dR_manages_56
    obtain ⟨z, e2, sg2, ff2, q2, ns2, h1, rfl, hE2, hsf2, hw⟩ := hp
    rw [hw] at hP hD
    have hP : va_P (dC, dI) vwCl ((a0, .inr (2, [.ref aR, .ref aN, .ref aS, .ref aF, .int (nI 0), .int (nI tx.length), .int (nI z.2), .int (nI 0), .long rs])) :: (aR, .inl (kC, 300, .inl fx)) :: (aN, .inr (1, [.ref aK, .int (nI ns2.length)])) :: (aK, .inl (kQ, 64, .inr (.inr (.inr (.inr q2))))) :: (aS, .inl (kI, 150, .inl sg2)) :: (aF, .inl (kJ, 150, .inr (.inl ff2))) :: (fr ++ rw_p 0 kC ns2)) _ := hP
    have hD : va_D A ((a0, .inr (2, [.ref aR, .ref aN, .ref aS, .ref aF, .int (nI 0), .int (nI tx.length), .int (nI z.2), .int (nI 0), .long rs])) :: (aR, .inl (kC, 300, .inl fx)) :: (aN, .inr (1, [.ref aK, .int (nI ns2.length)])) :: (aK, .inl (kQ, 64, .inr (.inr (.inr (.inr q2))))) :: (aS, .inl (kI, 150, .inl sg2)) :: (aF, .inl (kJ, 150, .inr (.inl ff2))) :: (fr ++ rw_p 0 kC ns2)) := hD
    refine W.eq (g2 := F0 m 48 ls [.long z.1, .ref a0]) rfl ?_
    rw [h1] at e_gd
    have e_z := e_gd.2 z rfl
    rw [h1] at e_r
    refine va_put (D := (dC, dI)) (ci := 2) (v := .long z.1) (ty := .long) (C := "ShellSum$Reckoner") (T := TR) (N := 9) hx hb htz zu_R tyR tyR_ok nmR hown hK hP hD hS 0 rfl rfl 8 (by decide) (htz _ zw_1_53) (fun _ h9 => h9) rfl (by decide +kernel) rfl rfl (Nat.le_of_ble_eq_true rfl) dR_manages_48 (fun H locs hP hD hS => ?_)
    have hP : va_P (dC, dI) vwCl ((a0, .inr (2, [.ref aR, .ref aN, .ref aS, .ref aF, .int (nI 0), .int (nI tx.length), .int (nI z.2), .int (nI 0), .long z.1])) :: (aR, .inl (kC, 300, .inl fx)) :: (aN, .inr (1, [.ref aK, .int (nI ns2.length)])) :: (aK, .inl (kQ, 64, .inr (.inr (.inr (.inr q2))))) :: (aS, .inl (kI, 150, .inl sg2)) :: (aF, .inl (kJ, 150, .inr (.inl ff2))) :: (fr ++ rw_p 0 kC ns2)) _ := hP
    have hD : va_D A ((a0, .inr (2, [.ref aR, .ref aN, .ref aS, .ref aF, .int (nI 0), .int (nI tx.length), .int (nI z.2), .int (nI 0), .long z.1])) :: (aR, .inl (kC, 300, .inl fx)) :: (aN, .inr (1, [.ref aK, .int (nI ns2.length)])) :: (aK, .inl (kQ, 64, .inr (.inr (.inr (.inr q2))))) :: (aS, .inl (kI, 150, .inl sg2)) :: (aF, .inl (kJ, 150, .inr (.inl ff2))) :: (fr ++ rw_p 0 kC ns2)) := hD
    refine lv_goto (tgt := 57) hx hb dR_manages_51 (by decide) ?_
    refine lv_aload_n hx hb dR_manages_57 rfl (lv_at hl 0 rfl) ?_
    refine zQ_call (va_runV (As := []) (rest := []) ⟨hx, hb, hml, hown, htz⟩ (k_R_skipBlanks l dC dI kC kI kJ kQ a0 aR aN aS aF (nI 0) (nI 0) z.1 fx tx ((aN, .inr (1, [.ref aK, .int (nI ns2.length)])) :: (aK, .inl (kQ, 64, .inr (.inr (.inr (.inr q2))))) :: (aS, .inl (kI, 150, .inl sg2)) :: (aF, .inl (kJ, 150, .inr (.inl ff2))) :: (fr ++ rw_p 0 kC ns2)) hx3 hB hfx _ z.2 e_z.2) (cwV 0 htz (zg_V zw_1_202 zw_1_204 zs_R_skipBlanks zw_1_2 zw_1_205) rfl rfl rfl (by decide +kernel) ⟨Nat.le_of_ble_eq_true rfl, Nat.le_of_ble_eq_true rfl⟩) (zW_V hP hK hD hN (va_recv hK hP (ci := 2) (q0 := 0) rfl rfl)) rfl rfl hl.1 rfl (lv_room (Nat.le_of_ble_eq_true rfl)) dR_manages_58 ⟨by show 0 + zmc env (lE tx 41 0 (sh_skip tx 0) env) + 0 ≤ zmc env (sh_val tx env); omega, by show 0 + zms env (lE tx 41 0 (sh_skip tx 0) env) + 0 ≤ zms env (sh_val tx env); omega⟩) hD hS hA (fun v w H locs hp hP hD hS => ?_)
    obtain ⟨rfl, hw⟩ := hp
    rw [hw] at hP hD
    have hP : va_P (dC, dI) vwCl ((a0, .inr (2, [.ref aR, .ref aN, .ref aS, .ref aF, .int (nI 0), .int (nI tx.length), .int (nI (sh_skip tx z.2)), .int (nI 0), .long z.1])) :: (aR, .inl (kC, 300, .inl fx)) :: (aN, .inr (1, [.ref aK, .int (nI ns2.length)])) :: (aK, .inl (kQ, 64, .inr (.inr (.inr (.inr q2))))) :: (aS, .inl (kI, 150, .inl sg2)) :: (aF, .inl (kJ, 150, .inr (.inl ff2))) :: (fr ++ rw_p 0 kC ns2)) _ := hP
    have hD : va_D A ((a0, .inr (2, [.ref aR, .ref aN, .ref aS, .ref aF, .int (nI 0), .int (nI tx.length), .int (nI (sh_skip tx z.2)), .int (nI 0), .long z.1])) :: (aR, .inl (kC, 300, .inl fx)) :: (aN, .inr (1, [.ref aK, .int (nI ns2.length)])) :: (aK, .inl (kQ, 64, .inr (.inr (.inr (.inr q2))))) :: (aS, .inl (kI, 150, .inl sg2)) :: (aF, .inl (kJ, 150, .inr (.inl ff2))) :: (fr ++ rw_p 0 kC ns2)) := hD
    refine W.eq (g2 := F0 m 61 ls []) rfl ?_
    refine W.widen (k := 0 + zmc env (lE tx 41 0 (sh_skip tx 0) env)) (n := 0 + zms env (lE tx 41 0 (sh_skip tx 0) env)) (by omega) (by omega) ?_
    refine lv_aload_n hx hb dR_manages_61 rfl (lv_at hl 0 rfl) ?_
    refine va_get (D := (dC, dI)) (ci := 2) (v := .int (nI (sh_skip tx z.2))) (C := "ShellSum$Reckoner") (T := TR) (N := 9) hx hb htz zu_R hown hK hP 0 rfl rfl 6 (by decide) (htz _ zw_1_51) (fun _ h9 => h9) rfl dR_manages_62 ?_
    refine lv_aload_n hx hb dR_manages_65 rfl (lv_at hl 0 rfl) ?_
    refine va_get (D := (dC, dI)) (ci := 2) (v := .int (nI tx.length)) (C := "ShellSum$Reckoner") (T := TR) (N := 9) hx hb htz zu_R hown hK hP 0 rfl rfl 5 (by decide) (htz _ zw_1_50) (fun _ h9 => h9) rfl dR_manages_66 ?_
    refine lv_icmp_lt (tgt := 76) hx hb dR_manages_69 (by decide) (fun c_2 => ?_) (fun c_2 => ?_)
    · skip
      have e_69 : ¬ tx.length ≤ sh_skip tx z.2 := Nat.not_le.mpr (xi_lt c_2 (by have := sh_skip_le e_z.2; omega) (by omega))
      dsimp only at e_r
      rw [if_neg e_69] at e_r
      refine lv_iconst (v := 0) hx hb dR_manages_76 (by decide) ?_
      refine W.widen (k := zmc env (sh_val tx env)) (n := zms env (sh_val tx env)) (by omega) (by omega) ?_
      exact W.zret (v := 0) hx hb hr (rfl) (fun t ht _ => ⟨_, _, rfl, ⟨by rw [e_r]; rfl, _, _, _, _, _, _, _, _, by rw [e_r]; exact hE2, fun x hx => (by rw [e_r] at hx; cases hx), rfl⟩, by rw [ht]; exact hP, hD, hS.F ht⟩) hS.2.2 dR_manages_77
    have e_69 : tx.length ≤ sh_skip tx z.2 := xi_nlt c_2 (by have := sh_skip_le e_z.2; omega) (by omega)
    dsimp only at e_r
    rw [if_pos e_69] at e_r
    refine lv_iconst (v := 1) hx hb dR_manages_72 (by decide) ?_
    refine lv_goto (tgt := 77) hx hb dR_manages_73 (by decide) ?_
    refine W.widen (k := zmc env (sh_val tx env)) (n := zms env (sh_val tx env)) (by omega) (by omega) ?_
    exact W.zret (v := 1) hx hb hr (rfl) (fun t ht _ => ⟨_, _, rfl, ⟨by rw [e_r]; rfl, _, _, _, _, _, _, _, _, by rw [e_r]; exact hE2, fun x hx => (by rw [e_r] at hx; cases hx; rfl), rfl⟩, by rw [ht]; exact hP, hD, hS.F ht⟩) hS.2.2 dR_manages_77
  have e_32 : tx.length ≤ sh_skip tx 0 := xi_nlt c_1 (by omega) (by omega)
  have e_r : (sh_val tx env) = (some 0, env) := by unfold sh_val; rw [if_pos e_32]
  refine lv_aload_n hx hb dR_manages_35 rfl (lv_at hl 0 rfl) ?_
  refine lv_lconst (v := 0) hx hb dR_manages_36 (by decide) ?_
  refine va_put (D := (dC, dI)) (ci := 2) (v := .long 0) (ty := .long) (C := "ShellSum$Reckoner") (T := TR) (N := 9) hx hb htz zu_R tyR tyR_ok nmR hown hK hP hD hS 0 rfl rfl 8 (by decide) (htz _ zw_1_53) (fun _ h9 => h9) rfl (by decide +kernel) rfl rfl (Nat.le_of_ble_eq_true rfl) dR_manages_37 (fun H locs hP hD hS => ?_)
  have hP : va_P (dC, dI) vwCl ((a0, .inr (2, [.ref aR, .ref aN, .ref aS, .ref aF, .int (nI 0), .int (nI tx.length), .int (nI (sh_skip tx 0)), .int (nI 0), .long 0])) :: (aR, .inl (kC, 300, .inl fx)) :: (aN, .inr (1, [.ref aK, .int (nI ns.length)])) :: (aK, .inl (kQ, 64, .inr (.inr (.inr (.inr q))))) :: (aS, .inl (kI, 150, .inl sg)) :: (aF, .inl (kJ, 150, .inr (.inl ff))) :: (fr ++ rw_p 0 kC ns)) _ := hP
  have hD : va_D A ((a0, .inr (2, [.ref aR, .ref aN, .ref aS, .ref aF, .int (nI 0), .int (nI tx.length), .int (nI (sh_skip tx 0)), .int (nI 0), .long 0])) :: (aR, .inl (kC, 300, .inl fx)) :: (aN, .inr (1, [.ref aK, .int (nI ns.length)])) :: (aK, .inl (kQ, 64, .inr (.inr (.inr (.inr q))))) :: (aS, .inl (kI, 150, .inl sg)) :: (aF, .inl (kJ, 150, .inr (.inl ff))) :: (fr ++ rw_p 0 kC ns)) := hD
  refine lv_iconst (v := 1) hx hb dR_manages_40 (by decide) ?_
  refine W.widen (k := zmc env (sh_val tx env)) (n := zms env (sh_val tx env)) (Nat.zero_le _) (Nat.zero_le _) ?_
  exact W.zret (v := 1) hx hb hr (rfl) (fun t ht _ => ⟨_, _, rfl, ⟨by rw [e_r]; rfl, _, _, _, _, _, _, _, _, by rw [e_r]; exact hE, fun x hx => by rw [e_r] at hx; cases hx; rfl, rfl⟩, by rw [ht]; exact hP, hD, hS.F ht⟩) hS.2.2 dR_manages_41
