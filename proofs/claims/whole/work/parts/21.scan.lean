set_option maxHeartbeats 4000000 in
set_option maxRecDepth 100000 in
/-- charAt(i) -/
theorem k_R_charAt (l : Launch) (dC : Nat → ClassId) (dI : Nat → Nat → Nat) (kC kI kJ kQ : ClassId) (a0 aR aN aS aF : Nat) (wt un : Int32) (rs : Int64) (fx : Nat → Int32) (tx : List Int32) (tl : va_W) (hx3 : tx.length ≤ 300) (hB : sh_B tx) (hfx : ∀ j, j < tx.length → fx j = sh_at tx j) (pl : Int32) (i : Nat) (hi : i < 1000) : Met l yR_charAt wsR_charAt ({ frames := 0, cells := 0, slots := 0, locals := 0 }) (va_Pc [.ref a0, .int (nI i)] (zR dC dI [(kC, .char), (kI, .int), (kJ, .long), (kQ, .object "ShellSum$Named")] ((a0, .inr (2, [.ref aR, .ref aN, .ref aS, .ref aF, .int wt, .int (nI tx.length), .int pl, .int un, .long rs])) :: (aR, .inl (kC, 300, .inl fx)) :: tl))) (rq_ (some (.int (sh_at tx i)))) 0 0 (fun _ => False) := by
  refine Met.ofW (cc := cR_charAt) (maxL := 2) (ret := (some .char)) (by decide) rfl ?_
  intro p e s m args below meth c s₁ B hml hv
  obtain ⟨rfl, hP, hK, hN⟩ := hv
  have hx := B.exec
  have hb := B.bytes
  have hr := B.returns
  have htz : ∀ w ∈ zw, w.before _ s = true := fun w h => atoms_spec (ws := wsR_charAt) B.pre w (List.mem_cons_of_mem _ h)
  have hown : s.vm.findClass "ShellSum$Reckoner" = some m.cls := findClass_of_methodNamed B.named
  have hlocks := B.notSynchronized
  have hl := lv_entry ([.ref a0, .int (nI i)]) (n := 2) (Nat.le_of_ble_eq_true rfl)
  rw [lg_entry_eq]
  generalize (lg_sl ([.ref a0, .int (nI i)]) ++ List.replicate (2 - (lg_sl ([.ref a0, .int (nI i)])).length) Slot.unset).toArray = ls at hl ⊢
  have hl : lv_has ls 2 [(0, .ref a0), (1, .int (nI i))] := hl
  refine lv_iload_n hx hb dR_charAt_0 rfl (lv_at hl 1 rfl) ?_
  refine lv_if_lt (tgt := 21) hx hb dR_charAt_1 (by decide) (fun c_1 => ?_) (fun c_1 => ?_)
  · skip
    exact absurd c_1 (nI_pos (by omega))
  refine lv_iload_n hx hb dR_charAt_4 rfl (lv_at hl 1 rfl) ?_
  refine lv_aload_n hx hb dR_charAt_5 rfl (lv_at hl 0 rfl) ?_
  refine va_get (D := (dC, dI)) (ci := 2) (v := .int (nI tx.length)) (C := "ShellSum$Reckoner") (T := TR) (N := 9) hx hb htz zu_R hown hK hP 0 rfl rfl 5 (by decide) (htz _ zw_1_50) (fun _ h9 => h9) rfl dR_charAt_6 ?_
  refine lv_icmp_ge (tgt := 21) hx hb dR_charAt_9 (by decide) (fun c_2 => ?_) (fun c_2 => ?_)
  · skip
    have e_9 : tx.length ≤ i := xi_le c_2 (by omega) (by omega)
    refine lv_iconst (v := 0) hx hb dR_charAt_21 (by decide) ?_
    refine lv_goto (tgt := 31) hx hb dR_charAt_22 (by decide) ?_
    exact W.zret (v := 0) hx hb hr rfl (fun t ht _ => ⟨by rw [sh_at_out e_9], ht⟩) t_nil dR_charAt_31
  have e_9 : i < tx.length := xi_nle c_2 (by omega) (by omega)
  refine lv_iload_n hx hb dR_charAt_12 rfl (lv_at hl 1 rfl) ?_
  refine lv_aload_n hx hb dR_charAt_13 rfl (lv_at hl 0 rfl) ?_
  refine va_get (D := (dC, dI)) (ci := 2) (v := .ref aR) (C := "ShellSum$Reckoner") (T := TR) (N := 9) hx hb htz zu_R hown hK hP 0 rfl rfl 0 (by decide) (htz _ zw_1_43) (fun _ h9 => h9) rfl dR_charAt_14 ?_
  refine va_alen hx hb hK hP 1 0 rfl (ty := .char) rfl (v := nI 300) rfl dR_charAt_17 ?_
  refine lv_icmp_lt (tgt := 25) hx hb dR_charAt_18 (by decide) (fun c_3 => ?_) (fun c_3 => ?_)
  · skip
    refine lv_aload_n hx hb dR_charAt_25 rfl (lv_at hl 0 rfl) ?_
    refine va_get (D := (dC, dI)) (ci := 2) (v := .ref aR) (C := "ShellSum$Reckoner") (T := TR) (N := 9) hx hb htz zu_R hown hK hP 0 rfl rfl 0 (by decide) (htz _ zw_1_43) (fun _ h9 => h9) rfl dR_charAt_26 ?_
    refine lv_iload_n hx hb dR_charAt_29 rfl (lv_at hl 1 rfl) ?_
    refine va_cald hx hb hK hP 1 0 rfl rfl (vp_in_nI (by omega) (by omega)) dR_charAt_30 ?_
    refine xw_topi (y := fx i) (by rw [nI_clamp (by omega)]) ?_
    refine xw_topi (y := sh_at tx i) (hfx i e_9) ?_
    exact W.zret (v := sh_at tx i) hx hb hr (sh_at_nar hB i) (fun t ht _ => ⟨rfl, ht⟩) t_nil dR_charAt_31
  exact absurd (xi_nlt (b := 300) c_3 (by omega) (by decide)) (by omega)
set_option maxHeartbeats 4000000 in
set_option maxRecDepth 100000 in
/-- skipBlanks() -/
theorem k_R_skipBlanks (l : Launch) (dC : Nat → ClassId) (dI : Nat → Nat → Nat) (kC kI kJ kQ : ClassId) (a0 aR aN aS aF : Nat) (wt un : Int32) (rs : Int64) (fx : Nat → Int32) (tx : List Int32) (tl : va_W) (hx3 : tx.length ≤ 300) (hB : sh_B tx) (hfx : ∀ j, j < tx.length → fx j = sh_at tx j) (sz : Nat) (p0 : Nat) (hp0 : p0 ≤ tx.length) : Met l yR_skipBlanks wsR_skipBlanks ({ frames := 1, cells := 0, slots := 0, locals := 21 }) (va_Pc [.ref a0] (zW dC dI ([(kC, .char), (kI, .int), (kJ, .long), (kQ, .object "ShellSum$Named")]) ((a0, .inr (2, [.ref aR, .ref aN, .ref aS, .ref aF, .int wt, .int (nI tx.length), .int (nI p0), .int un, .long rs])) :: (aR, .inl (kC, 300, .inl fx)) :: tl) sz)) (zQ dC dI (va_A ((a0, .inr (2, [.ref aR, .ref aN, .ref aS, .ref aF, .int wt, .int (nI tx.length), .int (nI p0), .int un, .long rs])) :: (aR, .inl (kC, 300, .inl fx)) :: tl) sz) (fun v w => v = none ∧ w = ((a0, .inr (2, [.ref aR, .ref aN, .ref aS, .ref aF, .int wt, .int (nI tx.length), .int (nI (sh_skip tx p0)), .int un, .long rs])) :: (aR, .inl (kC, 300, .inl fx)) :: tl))) 0 0 (va_A ((a0, .inr (2, [.ref aR, .ref aN, .ref aS, .ref aF, .int wt, .int (nI tx.length), .int (nI p0), .int un, .long rs])) :: (aR, .inl (kC, 300, .inl fx)) :: tl) sz) := by
  refine Met.ofW (cc := cR_skipBlanks) (maxL := 2) (ret := none) (by decide) rfl ?_
  intro p e s m args below meth c s₁ B hml hv
  obtain ⟨rfl, hsz, hP, hK, hD0, hN⟩ := hv
  subst hsz
  have hD := hD0.self (sz := s.heap.size)
  generalize hAe : va_A ((a0, .inr (2, [.ref aR, .ref aN, .ref aS, .ref aF, .int wt, .int (nI tx.length), .int (nI p0), .int un, .long rs])) :: (aR, .inl (kC, 300, .inl fx)) :: tl) s.heap.size = A at hD ⊢
  have hA : ∀ q : Nat, s.heap.size ≤ q → A q := fun q h => by rw [← hAe]; exact Or.inr h
  have hS : va_S A s.heap s.heap [] := va_S.rf
  have hx := B.exec
  have hb := B.bytes
  have hr := B.returns
  have htz : ∀ w ∈ zw, w.before _ s = true := fun w h => atoms_spec (ws := wsR_skipBlanks) B.pre w (List.mem_cons_of_mem _ h)
  have hown : s.vm.findClass "ShellSum$Reckoner" = some m.cls := findClass_of_methodNamed B.named
  have hlocks := B.notSynchronized
  have hl := lv_entry ([.ref a0]) (n := 2) (Nat.le_of_ble_eq_true rfl)
  rw [lg_entry_eq]
  generalize (lg_sl ([.ref a0]) ++ List.replicate (2 - (lg_sl ([.ref a0])).length) Slot.unset).toArray = ls at hl ⊢
  have hl : lv_has ls 2 [(0, .ref a0)] := hl
  refine lv_aload_n hx hb dR_skipBlanks_0 rfl (lv_at hl 0 rfl) ?_
  refine va_get (D := (dC, dI)) (ci := 2) (v := .int (nI p0)) (C := "ShellSum$Reckoner") (T := TR) (N := 9) hx hb htz zu_R hown hK hP 0 rfl rfl 6 (by decide) (htz _ zw_1_51) (fun _ h9 => h9) rfl dR_skipBlanks_1 ?_
  refine lv_istore_n (lv' := [(1, .int (nI p0)), (0, .ref a0)]) hx hb dR_skipBlanks_4 rfl hl (by decide) rfl (fun ls hl => ?_)
  have loop_5 : ∀ (f_loop_5 : Nat) (k : Nat), tx.length - k < f_loop_5 → (k ≤ tx.length) → (sh_skip tx k = sh_skip tx p0) → ∀ (H : Heap) (locs : List Loc), va_P (dC, dI) vwCl ((a0, .inr (2, [.ref aR, .ref aN, .ref aS, .ref aF, .int wt, .int (nI tx.length), .int (nI k), .int un, .long rs])) :: (aR, .inl (kC, 300, .inl fx)) :: tl) H → va_D A ((a0, .inr (2, [.ref aR, .ref aN, .ref aS, .ref aF, .int wt, .int (nI tx.length), .int (nI k), .int un, .long rs])) :: (aR, .inl (kC, 300, .inl fx)) :: tl) → va_S A s.heap H locs → ∀ ls : Array Slot, lv_has ls 2 [(1, .int (nI k)), (0, .ref a0)] → W p l e (headSpec wsR_skipBlanks ({ frames := 1, cells := 0, slots := 0, locals := 21 })).room s m ([.ref a0] : List Value).toArray below meth c H locs 0 0 (MQ below (zQ dC dI A (fun v w => v = none ∧ w = ((a0, .inr (2, [.ref aR, .ref aN, .ref aS, .ref aF, .int wt, .int (nI tx.length), .int (nI (sh_skip tx p0)), .int un, .long rs])) :: (aR, .inl (kC, 300, .inl fx)) :: tl))) ([.ref a0] : List Value).toArray s 0 0 A) (F0 m 5 ls []) := by
    intro f_loop_5
    induction f_loop_5 with
    | zero => intro k hf; exact absurd hf (Nat.not_lt_zero _)
    | succ f_loop_5 ih_loop_5 =>
      intro k hf_loop_5 hk he H locs hP hD hS ls hl
      refine lv_iload_n hx hb dR_skipBlanks_5 rfl (lv_at hl 0 rfl) ?_
      refine lv_aload_n hx hb dR_skipBlanks_6 rfl (lv_at hl 1 rfl) ?_
      refine va_get (D := (dC, dI)) (ci := 2) (v := .int (nI tx.length)) (C := "ShellSum$Reckoner") (T := TR) (N := 9) hx hb htz zu_R hown hK hP 0 rfl rfl 5 (by decide) (htz _ zw_1_50) (fun _ h9 => h9) rfl dR_skipBlanks_7 ?_
      refine lv_icmp_ge (tgt := 37) hx hb dR_skipBlanks_10 (by decide) (fun c_1 => ?_) (fun c_1 => ?_)
      · skip
        have e_10 : tx.length ≤ k := xi_le c_1 (by omega) (by omega)
        have e_s : sh_skip tx p0 = k := by rw [← he]; exact sh_run_stop (Or.inl e_10)
        refine W.widen (k := 0) (n := 0) (Nat.le_refl _) (Nat.le_refl _) ?_
        exact W.vret hx hb hr (fun t ht _ => ⟨_, _, rfl, ⟨rfl, by rw [e_s]⟩, by rw [ht]; exact hP, hD, hS.F ht⟩) hS.2.2 dR_skipBlanks_37
      have e_10 : k < tx.length := xi_nle c_1 (by omega) (by omega)
      refine lv_aload_n hx hb dR_skipBlanks_13 rfl (lv_at hl 1 rfl) ?_
      refine lv_iload_n hx hb dR_skipBlanks_14 rfl (lv_at hl 0 rfl) ?_
      refine rq_call (va_runV (As := [.int (nI k)]) (rest := []) ⟨hx, hb, hml, hown, htz⟩ (k_R_charAt l dC dI kC kI kJ kQ a0 aR aN aS aF wt un rs fx tx tl hx3 hB hfx (nI k) k (by omega)) (cwV 1 htz (zg_V zw_1_206 zw_1_208 zs_R_charAt zw_1_2 zw_1_209) rfl rfl rfl (by decide +kernel) ⟨Nat.le_of_ble_eq_true rfl, Nat.le_of_ble_eq_true rfl⟩) (zR_V hP hK hN (va_recv hK hP (ci := 2) (q0 := 0) rfl rfl)) rfl rfl hl.1 rfl (lv_room (Nat.le_of_ble_eq_true rfl)) dR_skipBlanks_15 ⟨Nat.zero_le _, Nat.zero_le _⟩) ?_
      refine W.eq (g2 := F0 m 18 ls [.int (sh_at tx k)]) rfl ?_
      refine rq_call (va_runSN (As := [.int (sh_at tx k)]) (rest := []) ⟨hx, hb, hml, hown, htz⟩ (k_A_isBlank l (sh_at tx k)) ⟨va_cnB 1 htz (zg_c zw_1_114) rfl rfl rfl (hN _ zn_1_210) (htz _ zw_1_1) (by decide +kernel) ⟨Nat.le_of_ble_eq_true rfl, Nat.le_of_ble_eq_true rfl⟩, htz _ zw_1_113, trivial⟩ rq_pre rfl rfl hl.1 rfl (lv_room (Nat.le_of_ble_eq_true rfl)) dR_skipBlanks_18 ⟨Nat.zero_le _, Nat.zero_le _⟩) ?_
      refine W.eq (g2 := F0 m 21 ls [.int (sh_b (sh_blank (sh_at tx k)))]) rfl ?_
      refine lv_if_eq (tgt := 37) hx hb dR_skipBlanks_21 (by decide) (fun c_2 => ?_) (fun c_2 => ?_)
      · skip
        have e_s : sh_skip tx p0 = k := by rw [← he]; exact sh_run_stop (Or.inr (by grind [sh_b]))
        refine W.widen (k := 0) (n := 0) (Nat.le_refl _) (Nat.le_refl _) ?_
        exact W.vret hx hb hr (fun t ht _ => ⟨_, _, rfl, ⟨rfl, by rw [e_s]⟩, by rw [ht]; exact hP, hD, hS.F ht⟩) hS.2.2 dR_skipBlanks_37
      refine lv_aload_n hx hb dR_skipBlanks_24 rfl (lv_at hl 1 rfl) ?_
      refine lv_iload_n hx hb dR_skipBlanks_25 rfl (lv_at hl 0 rfl) ?_
      refine lv_iconst (v := 1) hx hb dR_skipBlanks_26 (by decide) ?_
      refine lv_iadd hx hb dR_skipBlanks_27 ?_
      refine xw_topi (y := nI (k + 1)) (nI_add k 1) ?_
      refine va_put (D := (dC, dI)) (ci := 2) (v := .int (nI (k + 1))) (ty := .int) (C := "ShellSum$Reckoner") (T := TR) (N := 9) hx hb htz zu_R tyR tyR_ok nmR hown hK hP hD hS 0 rfl rfl 6 (by decide) (htz _ zw_1_51) (fun _ h9 => h9) rfl (by decide +kernel) rfl rfl (Nat.le_of_ble_eq_true rfl) dR_skipBlanks_28 (fun H locs hP hD hS => ?_)
      have hP : va_P (dC, dI) vwCl ((a0, .inr (2, [.ref aR, .ref aN, .ref aS, .ref aF, .int wt, .int (nI tx.length), .int (nI (k + 1)), .int un, .long rs])) :: (aR, .inl (kC, 300, .inl fx)) :: tl) H := hP
      have hD : va_D A ((a0, .inr (2, [.ref aR, .ref aN, .ref aS, .ref aF, .int wt, .int (nI tx.length), .int (nI (k + 1)), .int un, .long rs])) :: (aR, .inl (kC, 300, .inl fx)) :: tl) := hD
      refine lv_iinc (v := nI (k + 1)) (lv' := [(1, .int (nI (k + 1))), (0, .ref a0)]) hx hb dR_skipBlanks_31 hl (k := 0) rfl (nI_1 k) (by decide) rfl (fun ls hl => ?_)
      refine lv_goto (tgt := 5) hx hb dR_skipBlanks_34 (by decide) ?_
      exact ih_loop_5 (k + 1) (by omega) (e_10) (by rw [← he]; exact (sh_run_go e_10 (by grind [sh_b])).symm) _ _ hP hD hS ls (lv_sub hl [0, 1] rfl)
  exact loop_5 _ p0 (Nat.lt_succ_self _) (hp0) (rfl) _ _ hP hD hS ls (lv_sub hl [0, 1] rfl)
set_option maxHeartbeats 4000000 in
set_option maxRecDepth 100000 in
/-- wordEnd() -/
theorem k_R_wordEnd (l : Launch) (dC : Nat → ClassId) (dI : Nat → Nat → Nat) (kC kI kJ kQ : ClassId) (a0 aR aN aS aF : Nat) (wt un : Int32) (rs : Int64) (fx : Nat → Int32) (tx : List Int32) (tl : va_W) (hx3 : tx.length ≤ 300) (hB : sh_B tx) (hfx : ∀ j, j < tx.length → fx j = sh_at tx j) (p0 : Nat) (hp0 : p0 ≤ tx.length) : Met l yR_wordEnd wsR_wordEnd ({ frames := 2, cells := 0, slots := 0, locals := 40 }) (va_Pc [.ref a0] (zR dC dI [(kC, .char), (kI, .int), (kJ, .long), (kQ, .object "ShellSum$Named")] ((a0, .inr (2, [.ref aR, .ref aN, .ref aS, .ref aF, .int wt, .int (nI tx.length), .int (nI p0), .int un, .long rs])) :: (aR, .inl (kC, 300, .inl fx)) :: tl))) (rq_ (some (.int (nI (sh_wend tx p0))))) 0 0 (fun _ => False) := by
  refine Met.ofW (cc := cR_wordEnd) (maxL := 3) (ret := (some .int)) (by decide) rfl ?_
  intro p e s m args below meth c s₁ B hml hv
  obtain ⟨rfl, hP, hK, hN⟩ := hv
  have hx := B.exec
  have hb := B.bytes
  have hr := B.returns
  have htz : ∀ w ∈ zw, w.before _ s = true := fun w h => atoms_spec (ws := wsR_wordEnd) B.pre w (List.mem_cons_of_mem _ h)
  have hown : s.vm.findClass "ShellSum$Reckoner" = some m.cls := findClass_of_methodNamed B.named
  have hlocks := B.notSynchronized
  have hl := lv_entry ([.ref a0]) (n := 3) (Nat.le_of_ble_eq_true rfl)
  rw [lg_entry_eq]
  generalize (lg_sl ([.ref a0]) ++ List.replicate (3 - (lg_sl ([.ref a0])).length) Slot.unset).toArray = ls at hl ⊢
  have hl : lv_has ls 3 [(0, .ref a0)] := hl
  refine lv_aload_n hx hb dR_wordEnd_0 rfl (lv_at hl 0 rfl) ?_
  refine va_get (D := (dC, dI)) (ci := 2) (v := .int (nI p0)) (C := "ShellSum$Reckoner") (T := TR) (N := 9) hx hb htz zu_R hown hK hP 0 rfl rfl 6 (by decide) (htz _ zw_1_51) (fun _ h9 => h9) rfl dR_wordEnd_1 ?_
  refine lv_istore_n (lv' := [(1, .int (nI p0)), (0, .ref a0)]) hx hb dR_wordEnd_4 rfl hl (by decide) rfl (fun ls hl => ?_)
  refine lv_aload_n hx hb dR_wordEnd_5 rfl (lv_at hl 1 rfl) ?_
  refine va_get (D := (dC, dI)) (ci := 2) (v := .int (nI p0)) (C := "ShellSum$Reckoner") (T := TR) (N := 9) hx hb htz zu_R hown hK hP 0 rfl rfl 6 (by decide) (htz _ zw_1_51) (fun _ h9 => h9) rfl dR_wordEnd_6 ?_
  refine lv_istore_n (lv' := [(2, .int (nI p0)), (1, .int (nI p0)), (0, .ref a0)]) hx hb dR_wordEnd_9 rfl hl (by decide) rfl (fun ls hl => ?_)
  have loop_10 : ∀ (f_loop_10 : Nat) (k : Nat), tx.length - k < f_loop_10 → (k ≤ tx.length) → (sh_wend tx k = sh_wend tx p0) → ∀ ls : Array Slot, lv_has ls 3 [(1, .int (nI k)), (2, .int (nI k)), (0, .ref a0)] → W p l e (headSpec wsR_wordEnd ({ frames := 2, cells := 0, slots := 0, locals := 40 })).room s m ([.ref a0] : List Value).toArray below meth c s.heap [] 0 0 (MQ below (rq_ (some (.int (nI (sh_wend tx p0))))) ([.ref a0] : List Value).toArray s 0 0 (fun _ => False)) (F0 m 10 ls []) := by
    intro f_loop_10
    induction f_loop_10 with
    | zero => intro k hf; exact absurd hf (Nat.not_lt_zero _)
    | succ f_loop_10 ih_loop_10 =>
      intro k hf_loop_10 hk he ls hl
      refine lv_iload_n hx hb dR_wordEnd_10 rfl (lv_at hl 1 rfl) ?_
      refine lv_aload_n hx hb dR_wordEnd_11 rfl (lv_at hl 2 rfl) ?_
      refine va_get (D := (dC, dI)) (ci := 2) (v := .int (nI tx.length)) (C := "ShellSum$Reckoner") (T := TR) (N := 9) hx hb htz zu_R hown hK hP 0 rfl rfl 5 (by decide) (htz _ zw_1_50) (fun _ h9 => h9) rfl dR_wordEnd_12 ?_
      refine lv_icmp_ge (tgt := 39) hx hb dR_wordEnd_15 (by decide) (fun c_1 => ?_) (fun c_1 => ?_)
      · skip
        have e_10 : tx.length ≤ k := xi_le c_1 (by omega) (by omega)
        refine lv_iload_n hx hb dR_wordEnd_39 rfl (lv_at hl 0 rfl) ?_
        have e_s : sh_wend tx p0 = k := by rw [← he]; exact sh_run_stop (Or.inl e_10)
        exact W.iret (v := nI k) hx hb hr (fun t ht _ => ⟨by rw [e_s], ht⟩) t_nil dR_wordEnd_40
      have e_10 : k < tx.length := xi_nle c_1 (by omega) (by omega)
      refine lv_aload_n hx hb dR_wordEnd_18 rfl (lv_at hl 2 rfl) ?_
      refine lv_iload_n hx hb dR_wordEnd_19 rfl (lv_at hl 1 rfl) ?_
      refine rq_call (va_runV (As := [.int (nI k)]) (rest := []) ⟨hx, hb, hml, hown, htz⟩ (k_R_charAt l dC dI kC kI kJ kQ a0 aR aN aS aF wt un rs fx tx tl hx3 hB hfx (nI p0) k (by omega)) (cwV 1 htz (zg_V zw_1_206 zw_1_208 zs_R_charAt zw_1_2 zw_1_209) rfl rfl rfl (by decide +kernel) ⟨Nat.le_of_ble_eq_true rfl, Nat.le_of_ble_eq_true rfl⟩) (zR_V hP hK hN (va_recv hK hP (ci := 2) (q0 := 0) rfl rfl)) rfl rfl hl.1 rfl (lv_room (Nat.le_of_ble_eq_true rfl)) dR_wordEnd_20 ⟨Nat.zero_le _, Nat.zero_le _⟩) ?_
      refine W.eq (g2 := F0 m 23 ls [.int (sh_at tx k)]) rfl ?_
      refine rq_call (va_runSN (As := [.int (sh_at tx k)]) (rest := []) ⟨hx, hb, hml, hown, htz⟩ (k_A_isOfWord l (sh_at tx k)) ⟨va_cnB 1 htz (zg_c zw_1_130) rfl rfl rfl (hN _ zn_1_220) (htz _ zw_1_1) (by decide +kernel) ⟨Nat.le_of_ble_eq_true rfl, Nat.le_of_ble_eq_true rfl⟩, htz _ zw_1_129, trivial⟩ rq_pre rfl rfl hl.1 rfl (lv_room (Nat.le_of_ble_eq_true rfl)) dR_wordEnd_23 ⟨Nat.zero_le _, Nat.zero_le _⟩) ?_
      refine W.eq (g2 := F0 m 26 ls [.int (sh_b (sh_word (sh_at tx k)))]) rfl ?_
      refine lv_if_eq (tgt := 39) hx hb dR_wordEnd_26 (by decide) (fun c_2 => ?_) (fun c_2 => ?_)
      · skip
        refine lv_iload_n hx hb dR_wordEnd_39 rfl (lv_at hl 0 rfl) ?_
        have e_s : sh_wend tx p0 = k := by rw [← he]; exact sh_run_stop (Or.inr (by grind [sh_b]))
        exact W.iret (v := nI k) hx hb hr (fun t ht _ => ⟨by rw [e_s], ht⟩) t_nil dR_wordEnd_40
      refine lv_iload_n hx hb dR_wordEnd_29 rfl (lv_at hl 1 rfl) ?_
      refine lv_iconst (v := 1) hx hb dR_wordEnd_30 (by decide) ?_
      refine lv_iadd hx hb dR_wordEnd_31 ?_
      refine xw_topi (y := nI (k + 1)) (nI_add k 1) ?_
      refine lv_istore_n (lv' := [(1, .int (nI (k + 1))), (2, .int (nI k)), (0, .ref a0)]) hx hb dR_wordEnd_32 rfl hl (by decide) rfl (fun ls hl => ?_)
      refine lv_iinc (v := nI (k + 1)) (lv' := [(2, .int (nI (k + 1))), (1, .int (nI (k + 1))), (0, .ref a0)]) hx hb dR_wordEnd_33 hl (k := 1) rfl (nI_1 k) (by decide) rfl (fun ls hl => ?_)
      refine lv_goto (tgt := 10) hx hb dR_wordEnd_36 (by decide) ?_
      exact ih_loop_10 (k + 1) (by omega) (e_10) (by rw [← he]; exact (sh_run_go e_10 (by grind [sh_b])).symm) ls (lv_sub hl [1, 0, 2] rfl)
  exact loop_10 _ p0 (Nat.lt_succ_self _) (hp0) (rfl) ls (lv_sub hl [1, 0, 2] rfl)
set_option maxHeartbeats 4000000 in
set_option maxRecDepth 100000 in
/-- signOfTwo() -/
theorem k_R_signOfTwo (l : Launch) (dC : Nat → ClassId) (dI : Nat → Nat → Nat) (kC kI kJ kQ : ClassId) (a0 aR aN aS aF : Nat) (wt un : Int32) (rs : Int64) (fx : Nat → Int32) (tx : List Int32) (tl : va_W) (hx3 : tx.length ≤ 300) (hB : sh_B tx) (hfx : ∀ j, j < tx.length → fx j = sh_at tx j) (sz : Nat) (p0 : Nat) (hp0 : p0 ≤ tx.length) : Met l yR_signOfTwo wsR_signOfTwo ({ frames := 2, cells := 0, slots := 0, locals := 42 }) (va_Pc [.ref a0] (zW dC dI ([(kC, .char), (kI, .int), (kJ, .long), (kQ, .object "ShellSum$Named")]) ((a0, .inr (2, [.ref aR, .ref aN, .ref aS, .ref aF, .int wt, .int (nI tx.length), .int (nI p0), .int un, .long rs])) :: (aR, .inl (kC, 300, .inl fx)) :: tl) sz)) (zQ dC dI (va_A ((a0, .inr (2, [.ref aR, .ref aN, .ref aS, .ref aF, .int wt, .int (nI tx.length), .int (nI p0), .int un, .long rs])) :: (aR, .inl (kC, 300, .inl fx)) :: tl) sz) (fun v w => v = some (.int (sh_sign2 tx p0).1) ∧ w = ((a0, .inr (2, [.ref aR, .ref aN, .ref aS, .ref aF, .int wt, .int (nI tx.length), .int (nI (sh_sign2 tx p0).2), .int un, .long rs])) :: (aR, .inl (kC, 300, .inl fx)) :: tl))) 0 0 (va_A ((a0, .inr (2, [.ref aR, .ref aN, .ref aS, .ref aF, .int wt, .int (nI tx.length), .int (nI p0), .int un, .long rs])) :: (aR, .inl (kC, 300, .inl fx)) :: tl) sz) := by
  refine Met.ofW (cc := cR_signOfTwo) (maxL := 3) (ret := (some .int)) (by decide) rfl ?_
  intro p e s m args below meth c s₁ B hml hv
  obtain ⟨rfl, hsz, hP, hK, hD0, hN⟩ := hv
  subst hsz
  have hD := hD0.self (sz := s.heap.size)
  generalize hAe : va_A ((a0, .inr (2, [.ref aR, .ref aN, .ref aS, .ref aF, .int wt, .int (nI tx.length), .int (nI p0), .int un, .long rs])) :: (aR, .inl (kC, 300, .inl fx)) :: tl) s.heap.size = A at hD ⊢
  have hA : ∀ q : Nat, s.heap.size ≤ q → A q := fun q h => by rw [← hAe]; exact Or.inr h
  have hS : va_S A s.heap s.heap [] := va_S.rf
  have hx := B.exec
  have hb := B.bytes
  have hr := B.returns
  have htz : ∀ w ∈ zw, w.before _ s = true := fun w h => atoms_spec (ws := wsR_signOfTwo) B.pre w (List.mem_cons_of_mem _ h)
  have hown : s.vm.findClass "ShellSum$Reckoner" = some m.cls := findClass_of_methodNamed B.named
  have hlocks := B.notSynchronized
  have hl := lv_entry ([.ref a0]) (n := 3) (Nat.le_of_ble_eq_true rfl)
  rw [lg_entry_eq]
  generalize (lg_sl ([.ref a0]) ++ List.replicate (3 - (lg_sl ([.ref a0])).length) Slot.unset).toArray = ls at hl ⊢
  have hq : sh_skip tx p0 ≤ tx.length := sh_skip_le hp0
  have hl : lv_has ls 3 [(0, .ref a0)] := hl
  refine lv_aload_n hx hb dR_signOfTwo_0 rfl (lv_at hl 0 rfl) ?_
  refine zQ_call (va_runV (As := []) (rest := []) ⟨hx, hb, hml, hown, htz⟩ (k_R_skipBlanks l dC dI kC kI kJ kQ a0 aR aN aS aF wt un rs fx tx tl hx3 hB hfx _ p0 hp0) (cwV 0 htz (zg_V zw_1_202 zw_1_204 zs_R_skipBlanks zw_1_2 zw_1_205) rfl rfl rfl (by decide +kernel) ⟨Nat.le_of_ble_eq_true rfl, Nat.le_of_ble_eq_true rfl⟩) (zW_V hP hK hD hN (va_recv hK hP (ci := 2) (q0 := 0) rfl rfl)) rfl rfl hl.1 rfl (lv_room (Nat.le_of_ble_eq_true rfl)) dR_signOfTwo_1 ⟨Nat.zero_le _, Nat.zero_le _⟩) hD hS hA (fun v w H locs hp hP hD hS => ?_)
  obtain ⟨rfl, hw⟩ := hp
  rw [hw] at hP hD
  have hP : va_P (dC, dI) vwCl ((a0, .inr (2, [.ref aR, .ref aN, .ref aS, .ref aF, .int wt, .int (nI tx.length), .int (nI (sh_skip tx p0)), .int un, .long rs])) :: (aR, .inl (kC, 300, .inl fx)) :: tl) H := hP
  have hD : va_D A ((a0, .inr (2, [.ref aR, .ref aN, .ref aS, .ref aF, .int wt, .int (nI tx.length), .int (nI (sh_skip tx p0)), .int un, .long rs])) :: (aR, .inl (kC, 300, .inl fx)) :: tl) := hD
  refine W.eq (g2 := F0 m 4 ls []) rfl ?_
  refine lv_aload_n hx hb dR_signOfTwo_4 rfl (lv_at hl 0 rfl) ?_
  refine lv_aload_n hx hb dR_signOfTwo_5 rfl (lv_at hl 0 rfl) ?_
  refine va_get (D := (dC, dI)) (ci := 2) (v := .int (nI (sh_skip tx p0))) (C := "ShellSum$Reckoner") (T := TR) (N := 9) hx hb htz zu_R hown hK hP 0 rfl rfl 6 (by decide) (htz _ zw_1_51) (fun _ h9 => h9) rfl dR_signOfTwo_6 ?_
  refine rq_call (va_runV (As := [.int (nI (sh_skip tx p0))]) (rest := []) ⟨hx, hb, hml, hown, htz⟩ (k_R_charAt l dC dI kC kI kJ kQ a0 aR aN aS aF wt un rs fx tx tl hx3 hB hfx (nI (sh_skip tx p0)) (sh_skip tx p0) (by omega)) (cwV 1 htz (zg_V zw_1_206 zw_1_208 zs_R_charAt zw_1_2 zw_1_209) rfl rfl rfl (by decide +kernel) ⟨Nat.le_of_ble_eq_true rfl, Nat.le_of_ble_eq_true rfl⟩) (zR_V hP hK hN (va_recv hK hP (ci := 2) (q0 := 0) rfl rfl)) rfl rfl hl.1 rfl (lv_room (Nat.le_of_ble_eq_true rfl)) dR_signOfTwo_9 ⟨Nat.zero_le _, Nat.zero_le _⟩) ?_
  refine W.eq (g2 := F0 m 12 ls [.int (sh_at tx (sh_skip tx p0))]) rfl ?_
  refine lv_istore_n (lv' := [(1, .int (sh_at tx (sh_skip tx p0))), (0, .ref a0)]) hx hb dR_signOfTwo_12 rfl hl (by decide) rfl (fun ls hl => ?_)
  refine lv_iload_n hx hb dR_signOfTwo_13 rfl (lv_at hl 0 rfl) ?_
  refine lv_bipush (v := 8) hx hb dR_signOfTwo_14 (by decide) ?_
  refine lv_ishl hx hb dR_signOfTwo_16 ?_
  refine lv_aload_n hx hb dR_signOfTwo_17 rfl (lv_at hl 1 rfl) ?_
  refine lv_aload_n hx hb dR_signOfTwo_18 rfl (lv_at hl 1 rfl) ?_
  refine va_get (D := (dC, dI)) (ci := 2) (v := .int (nI (sh_skip tx p0))) (C := "ShellSum$Reckoner") (T := TR) (N := 9) hx hb htz zu_R hown hK hP 0 rfl rfl 6 (by decide) (htz _ zw_1_51) (fun _ h9 => h9) rfl dR_signOfTwo_19 ?_
  refine lv_iconst (v := 1) hx hb dR_signOfTwo_22 (by decide) ?_
  refine lv_iadd hx hb dR_signOfTwo_23 ?_
  refine xw_topi (y := nI (sh_skip tx p0 + 1)) (nI_add (sh_skip tx p0) 1) ?_
  refine rq_call (va_runV (As := [.int (nI (sh_skip tx p0 + 1))]) (rest := [.int ((sh_at tx (sh_skip tx p0)) <<< (8 &&& 31))]) ⟨hx, hb, hml, hown, htz⟩ (k_R_charAt l dC dI kC kI kJ kQ a0 aR aN aS aF wt un rs fx tx tl hx3 hB hfx (nI (sh_skip tx p0)) (sh_skip tx p0 + 1) (by omega)) (cwV 1 htz (zg_V zw_1_206 zw_1_208 zs_R_charAt zw_1_2 zw_1_209) rfl rfl rfl (by decide +kernel) ⟨Nat.le_of_ble_eq_true rfl, Nat.le_of_ble_eq_true rfl⟩) (zR_V hP hK hN (va_recv hK hP (ci := 2) (q0 := 0) rfl rfl)) rfl rfl hl.1 rfl (lv_room (Nat.le_of_ble_eq_true rfl)) dR_signOfTwo_24 ⟨Nat.zero_le _, Nat.zero_le _⟩) ?_
  refine W.eq (g2 := F0 m 27 ls [.int (sh_at tx (sh_skip tx p0 + 1)), .int ((sh_at tx (sh_skip tx p0)) <<< (8 &&& 31))]) rfl ?_
  refine lv_ior hx hb dR_signOfTwo_27 ?_
  refine xw_topi (y := sh_two (sh_at tx (sh_skip tx p0)) (sh_at tx (sh_skip tx p0 + 1))) (rfl) ?_
  refine lv_istore_n (lv' := [(2, .int (sh_two (sh_at tx (sh_skip tx p0)) (sh_at tx (sh_skip tx p0 + 1)))), (1, .int (sh_at tx (sh_skip tx p0))), (0, .ref a0)]) hx hb dR_signOfTwo_28 rfl hl (by decide) rfl (fun ls hl => ?_)
  refine lv_iload_n hx hb dR_signOfTwo_29 rfl (lv_at hl 0 rfl) ?_
  have hr_30 := sh_rank_le (sh_two (sh_at tx (sh_skip tx p0)) (sh_at tx (sh_skip tx p0 + 1)))
  refine rq_call (va_runSN (As := [.int (sh_two (sh_at tx (sh_skip tx p0)) (sh_at tx (sh_skip tx p0 + 1)))]) (rest := []) ⟨hx, hb, hml, hown, htz⟩ (k_G_rankOf l (sh_two (sh_at tx (sh_skip tx p0)) (sh_at tx (sh_skip tx p0 + 1)))) ⟨va_cnB 1 htz (zg_c zw_1_230) rfl rfl rfl (hN _ zn_1_228) (htz _ zw_1_5) (by decide +kernel) ⟨Nat.le_of_ble_eq_true rfl, Nat.le_of_ble_eq_true rfl⟩, htz _ zw_1_229, trivial⟩ rq_pre rfl rfl hl.1 rfl (lv_room (Nat.le_of_ble_eq_true rfl)) dR_signOfTwo_30 ⟨Nat.zero_le _, Nat.zero_le _⟩) ?_
  refine W.eq (g2 := F0 m 33 ls [.int (nI (sh_rank (sh_two (sh_at tx (sh_skip tx p0)) (sh_at tx (sh_skip tx p0 + 1)))))]) rfl ?_
  refine lv_if_le (tgt := 72) hx hb dR_signOfTwo_33 (by decide) (fun c_1 => ?_) (fun c_1 => ?_)
  · skip
    have e_33 : sh_rank (sh_two (sh_at tx (sh_skip tx p0)) (sh_at tx (sh_skip tx p0 + 1))) = 0 := Nat.le_zero.mp (xi_le (b := 0) c_1 (by omega) (by decide))
    refine lv_iload_n hx hb dR_signOfTwo_72 rfl (lv_at hl 1 rfl) ?_
    have hr_73 := sh_rank_le (sh_at tx (sh_skip tx p0))
    refine rq_call (va_runSN (As := [.int (sh_at tx (sh_skip tx p0))]) (rest := []) ⟨hx, hb, hml, hown, htz⟩ (k_G_rankOf l (sh_at tx (sh_skip tx p0))) ⟨va_cnB 1 htz (zg_c zw_1_230) rfl rfl rfl (hN _ zn_1_228) (htz _ zw_1_5) (by decide +kernel) ⟨Nat.le_of_ble_eq_true rfl, Nat.le_of_ble_eq_true rfl⟩, htz _ zw_1_229, trivial⟩ rq_pre rfl rfl hl.1 rfl (lv_room (Nat.le_of_ble_eq_true rfl)) dR_signOfTwo_73 ⟨Nat.zero_le _, Nat.zero_le _⟩) ?_
    refine W.eq (g2 := F0 m 76 ls [.int (nI (sh_rank (sh_at tx (sh_skip tx p0))))]) rfl ?_
    refine lv_if_eq (tgt := 94) hx hb dR_signOfTwo_76 (by decide) (fun c_2 => ?_) (fun c_2 => ?_)
    · skip
      have e_76 : sh_rank (sh_at tx (sh_skip tx p0)) = 0 := xi_eq (b := 0) c_2 (by omega) (by decide)
      refine lv_iconst (v := 0) hx hb dR_signOfTwo_94 (by decide) ?_
      have e_s : sh_sign2 tx p0 = (0, sh_skip tx p0) := by grind [sh_sign2]
      refine W.widen (k := 0) (n := 0) (Nat.le_refl _) (Nat.le_refl _) ?_
      exact W.iret (v := 0) hx hb hr (fun t ht _ => ⟨_, _, rfl, ⟨by rw [e_s], by rw [e_s]⟩, by rw [ht]; exact hP, hD, hS.F ht⟩) hS.2.2 dR_signOfTwo_95
    have e_76 : ¬ sh_rank (sh_at tx (sh_skip tx p0)) = 0 := xi_ne (b := 0) c_2 (by omega) (by decide)
    refine lv_aload_n hx hb dR_signOfTwo_79 rfl (lv_at hl 2 rfl) ?_
    refine lv_aload_n hx hb dR_signOfTwo_80 rfl (lv_at hl 2 rfl) ?_
    refine va_get (D := (dC, dI)) (ci := 2) (v := .int (nI (sh_skip tx p0))) (C := "ShellSum$Reckoner") (T := TR) (N := 9) hx hb htz zu_R hown hK hP 0 rfl rfl 6 (by decide) (htz _ zw_1_51) (fun _ h9 => h9) rfl dR_signOfTwo_81 ?_
    refine lv_iconst (v := 1) hx hb dR_signOfTwo_84 (by decide) ?_
    refine lv_iadd hx hb dR_signOfTwo_85 ?_
    refine xw_topi (y := nI (sh_skip tx p0 + 1)) (nI_add (sh_skip tx p0) 1) ?_
    refine rq_call (va_runV (As := [.int (nI (sh_skip tx p0 + 1))]) (rest := []) ⟨hx, hb, hml, hown, htz⟩ (k_R_charAt l dC dI kC kI kJ kQ a0 aR aN aS aF wt un rs fx tx tl hx3 hB hfx (nI (sh_skip tx p0)) (sh_skip tx p0 + 1) (by omega)) (cwV 1 htz (zg_V zw_1_206 zw_1_208 zs_R_charAt zw_1_2 zw_1_209) rfl rfl rfl (by decide +kernel) ⟨Nat.le_of_ble_eq_true rfl, Nat.le_of_ble_eq_true rfl⟩) (zR_V hP hK hN (va_recv hK hP (ci := 2) (q0 := 0) rfl rfl)) rfl rfl hl.1 rfl (lv_room (Nat.le_of_ble_eq_true rfl)) dR_signOfTwo_86 ⟨Nat.zero_le _, Nat.zero_le _⟩) ?_
    refine W.eq (g2 := F0 m 89 ls [.int (sh_at tx (sh_skip tx p0 + 1))]) rfl ?_
    refine lv_bipush (v := 61) hx hb dR_signOfTwo_89 (by decide) ?_
    refine lv_icmp_ne (tgt := 96) hx hb dR_signOfTwo_91 (by decide) (fun c_3 => ?_) (fun c_3 => ?_)
    · skip
      refine lv_aload_n hx hb dR_signOfTwo_96 rfl (lv_at hl 2 rfl) ?_
      refine lv_dup hx hb dR_signOfTwo_97 rfl ?_
      refine va_get (D := (dC, dI)) (ci := 2) (v := .int (nI (sh_skip tx p0))) (C := "ShellSum$Reckoner") (T := TR) (N := 9) hx hb htz zu_R hown hK hP 0 rfl rfl 6 (by decide) (htz _ zw_1_51) (fun _ h9 => h9) rfl dR_signOfTwo_98 ?_
      refine lv_iconst (v := 1) hx hb dR_signOfTwo_101 (by decide) ?_
      refine lv_iadd hx hb dR_signOfTwo_102 ?_
      refine xw_topi (y := nI (sh_skip tx p0 + 1)) (nI_add (sh_skip tx p0) 1) ?_
      refine va_put (D := (dC, dI)) (ci := 2) (v := .int (nI (sh_skip tx p0 + 1))) (ty := .int) (C := "ShellSum$Reckoner") (T := TR) (N := 9) hx hb htz zu_R tyR tyR_ok nmR hown hK hP hD hS 0 rfl rfl 6 (by decide) (htz _ zw_1_51) (fun _ h9 => h9) rfl (by decide +kernel) rfl rfl (Nat.le_of_ble_eq_true rfl) dR_signOfTwo_103 (fun H locs hP hD hS => ?_)
      have hP : va_P (dC, dI) vwCl ((a0, .inr (2, [.ref aR, .ref aN, .ref aS, .ref aF, .int wt, .int (nI tx.length), .int (nI (sh_skip tx p0 + 1)), .int un, .long rs])) :: (aR, .inl (kC, 300, .inl fx)) :: tl) H := hP
      have hD : va_D A ((a0, .inr (2, [.ref aR, .ref aN, .ref aS, .ref aF, .int wt, .int (nI tx.length), .int (nI (sh_skip tx p0 + 1)), .int un, .long rs])) :: (aR, .inl (kC, 300, .inl fx)) :: tl) := hD
      refine lv_iload_n hx hb dR_signOfTwo_106 rfl (lv_at hl 1 rfl) ?_
      have e_s : sh_sign2 tx p0 = (sh_at tx (sh_skip tx p0), sh_skip tx p0 + 1) := by grind [sh_sign2]
      refine W.widen (k := 0) (n := 0) (Nat.le_refl _) (Nat.le_refl _) ?_
      exact W.iret (v := sh_at tx (sh_skip tx p0)) hx hb hr (fun t ht _ => ⟨_, _, rfl, ⟨by rw [e_s], by rw [e_s]⟩, by rw [ht]; exact hP, hD, hS.F ht⟩) hS.2.2 dR_signOfTwo_107
    refine lv_iconst (v := 0) hx hb dR_signOfTwo_94 (by decide) ?_
    have e_s : sh_sign2 tx p0 = (0, sh_skip tx p0) := by grind [sh_sign2]
    refine W.widen (k := 0) (n := 0) (Nat.le_refl _) (Nat.le_refl _) ?_
    exact W.iret (v := 0) hx hb hr (fun t ht _ => ⟨_, _, rfl, ⟨by rw [e_s], by rw [e_s]⟩, by rw [ht]; exact hP, hD, hS.F ht⟩) hS.2.2 dR_signOfTwo_95
  have e_33 : 0 < sh_rank (sh_two (sh_at tx (sh_skip tx p0)) (sh_at tx (sh_skip tx p0 + 1))) := xi_nle (b := 0) c_1 (by omega) (by decide)
  refine lv_iload_n hx hb dR_signOfTwo_36 rfl (lv_at hl 0 rfl) ?_
  refine rq_call (va_runS (As := [.int (sh_two (sh_at tx (sh_skip tx p0)) (sh_at tx (sh_skip tx p0 + 1)))]) (rest := []) ⟨hx, hb, hml, hown, htz⟩ (k_R_isShift l (sh_two (sh_at tx (sh_skip tx p0)) (sh_at tx (sh_skip tx p0 + 1)))) (cwS 1 htz (zg_S zw_1_225 zw_1_226 zw_1_2 zw_1_227) rfl rfl rfl (by decide +kernel) ⟨Nat.le_of_ble_eq_true rfl, Nat.le_of_ble_eq_true rfl⟩) rq_pre rfl rfl hl.1 rfl (lv_room (Nat.le_of_ble_eq_true rfl)) dR_signOfTwo_37 ⟨Nat.zero_le _, Nat.zero_le _⟩) ?_
  refine W.eq (g2 := F0 m 40 ls [.int (sh_b (sh_shift (sh_two (sh_at tx (sh_skip tx p0)) (sh_at tx (sh_skip tx p0 + 1)))))]) rfl ?_
  refine lv_if_eq (tgt := 60) hx hb dR_signOfTwo_40 (by decide) (fun c_4 => ?_) (fun c_4 => ?_)
  · skip
    have e_40 : sh_shift (sh_two (sh_at tx (sh_skip tx p0)) (sh_at tx (sh_skip tx p0 + 1))) = false := by grind [sh_b]
    refine lv_aload_n hx hb dR_signOfTwo_60 rfl (lv_at hl 2 rfl) ?_
    refine lv_dup hx hb dR_signOfTwo_61 rfl ?_
    refine va_get (D := (dC, dI)) (ci := 2) (v := .int (nI (sh_skip tx p0))) (C := "ShellSum$Reckoner") (T := TR) (N := 9) hx hb htz zu_R hown hK hP 0 rfl rfl 6 (by decide) (htz _ zw_1_51) (fun _ h9 => h9) rfl dR_signOfTwo_62 ?_
    refine lv_iconst (v := 2) hx hb dR_signOfTwo_65 (by decide) ?_
    refine lv_iadd hx hb dR_signOfTwo_66 ?_
    refine xw_topi (y := nI (sh_skip tx p0 + 2)) (nI_add (sh_skip tx p0) 2) ?_
    refine va_put (D := (dC, dI)) (ci := 2) (v := .int (nI (sh_skip tx p0 + 2))) (ty := .int) (C := "ShellSum$Reckoner") (T := TR) (N := 9) hx hb htz zu_R tyR tyR_ok nmR hown hK hP hD hS 0 rfl rfl 6 (by decide) (htz _ zw_1_51) (fun _ h9 => h9) rfl (by decide +kernel) rfl rfl (Nat.le_of_ble_eq_true rfl) dR_signOfTwo_67 (fun H locs hP hD hS => ?_)
    have hP : va_P (dC, dI) vwCl ((a0, .inr (2, [.ref aR, .ref aN, .ref aS, .ref aF, .int wt, .int (nI tx.length), .int (nI (sh_skip tx p0 + 2)), .int un, .long rs])) :: (aR, .inl (kC, 300, .inl fx)) :: tl) H := hP
    have hD : va_D A ((a0, .inr (2, [.ref aR, .ref aN, .ref aS, .ref aF, .int wt, .int (nI tx.length), .int (nI (sh_skip tx p0 + 2)), .int un, .long rs])) :: (aR, .inl (kC, 300, .inl fx)) :: tl) := hD
    refine lv_iload_n hx hb dR_signOfTwo_70 rfl (lv_at hl 0 rfl) ?_
    have e_s : sh_sign2 tx p0 = (sh_two (sh_at tx (sh_skip tx p0)) (sh_at tx (sh_skip tx p0 + 1)), sh_skip tx p0 + 2) := by grind [sh_sign2]
    refine W.widen (k := 0) (n := 0) (Nat.le_refl _) (Nat.le_refl _) ?_
    exact W.iret (v := sh_two (sh_at tx (sh_skip tx p0)) (sh_at tx (sh_skip tx p0 + 1))) hx hb hr (fun t ht _ => ⟨_, _, rfl, ⟨by rw [e_s], by rw [e_s]⟩, by rw [ht]; exact hP, hD, hS.F ht⟩) hS.2.2 dR_signOfTwo_71
  have e_40 : sh_shift (sh_two (sh_at tx (sh_skip tx p0)) (sh_at tx (sh_skip tx p0 + 1))) = true := by grind [sh_b]
  refine lv_aload_n hx hb dR_signOfTwo_43 rfl (lv_at hl 2 rfl) ?_
  refine lv_aload_n hx hb dR_signOfTwo_44 rfl (lv_at hl 2 rfl) ?_
  refine va_get (D := (dC, dI)) (ci := 2) (v := .int (nI (sh_skip tx p0))) (C := "ShellSum$Reckoner") (T := TR) (N := 9) hx hb htz zu_R hown hK hP 0 rfl rfl 6 (by decide) (htz _ zw_1_51) (fun _ h9 => h9) rfl dR_signOfTwo_45 ?_
  refine lv_iconst (v := 2) hx hb dR_signOfTwo_48 (by decide) ?_
  refine lv_iadd hx hb dR_signOfTwo_49 ?_
  refine xw_topi (y := nI (sh_skip tx p0 + 2)) (nI_add (sh_skip tx p0) 2) ?_
  refine rq_call (va_runV (As := [.int (nI (sh_skip tx p0 + 2))]) (rest := []) ⟨hx, hb, hml, hown, htz⟩ (k_R_charAt l dC dI kC kI kJ kQ a0 aR aN aS aF wt un rs fx tx tl hx3 hB hfx (nI (sh_skip tx p0)) (sh_skip tx p0 + 2) (by omega)) (cwV 1 htz (zg_V zw_1_206 zw_1_208 zs_R_charAt zw_1_2 zw_1_209) rfl rfl rfl (by decide +kernel) ⟨Nat.le_of_ble_eq_true rfl, Nat.le_of_ble_eq_true rfl⟩) (zR_V hP hK hN (va_recv hK hP (ci := 2) (q0 := 0) rfl rfl)) rfl rfl hl.1 rfl (lv_room (Nat.le_of_ble_eq_true rfl)) dR_signOfTwo_50 ⟨Nat.zero_le _, Nat.zero_le _⟩) ?_
  refine W.eq (g2 := F0 m 53 ls [.int (sh_at tx (sh_skip tx p0 + 2))]) rfl ?_
  refine lv_bipush (v := 61) hx hb dR_signOfTwo_53 (by decide) ?_
  refine lv_icmp_ne (tgt := 60) hx hb dR_signOfTwo_55 (by decide) (fun c_5 => ?_) (fun c_5 => ?_)
  · skip
    refine lv_aload_n hx hb dR_signOfTwo_60 rfl (lv_at hl 2 rfl) ?_
    refine lv_dup hx hb dR_signOfTwo_61 rfl ?_
    refine va_get (D := (dC, dI)) (ci := 2) (v := .int (nI (sh_skip tx p0))) (C := "ShellSum$Reckoner") (T := TR) (N := 9) hx hb htz zu_R hown hK hP 0 rfl rfl 6 (by decide) (htz _ zw_1_51) (fun _ h9 => h9) rfl dR_signOfTwo_62 ?_
    refine lv_iconst (v := 2) hx hb dR_signOfTwo_65 (by decide) ?_
    refine lv_iadd hx hb dR_signOfTwo_66 ?_
    refine xw_topi (y := nI (sh_skip tx p0 + 2)) (nI_add (sh_skip tx p0) 2) ?_
    refine va_put (D := (dC, dI)) (ci := 2) (v := .int (nI (sh_skip tx p0 + 2))) (ty := .int) (C := "ShellSum$Reckoner") (T := TR) (N := 9) hx hb htz zu_R tyR tyR_ok nmR hown hK hP hD hS 0 rfl rfl 6 (by decide) (htz _ zw_1_51) (fun _ h9 => h9) rfl (by decide +kernel) rfl rfl (Nat.le_of_ble_eq_true rfl) dR_signOfTwo_67 (fun H locs hP hD hS => ?_)
    have hP : va_P (dC, dI) vwCl ((a0, .inr (2, [.ref aR, .ref aN, .ref aS, .ref aF, .int wt, .int (nI tx.length), .int (nI (sh_skip tx p0 + 2)), .int un, .long rs])) :: (aR, .inl (kC, 300, .inl fx)) :: tl) H := hP
    have hD : va_D A ((a0, .inr (2, [.ref aR, .ref aN, .ref aS, .ref aF, .int wt, .int (nI tx.length), .int (nI (sh_skip tx p0 + 2)), .int un, .long rs])) :: (aR, .inl (kC, 300, .inl fx)) :: tl) := hD
    refine lv_iload_n hx hb dR_signOfTwo_70 rfl (lv_at hl 0 rfl) ?_
    have e_s : sh_sign2 tx p0 = (sh_two (sh_at tx (sh_skip tx p0)) (sh_at tx (sh_skip tx p0 + 1)), sh_skip tx p0 + 2) := by grind [sh_sign2]
    refine W.widen (k := 0) (n := 0) (Nat.le_refl _) (Nat.le_refl _) ?_
    exact W.iret (v := sh_two (sh_at tx (sh_skip tx p0)) (sh_at tx (sh_skip tx p0 + 1))) hx hb hr (fun t ht _ => ⟨_, _, rfl, ⟨by rw [e_s], by rw [e_s]⟩, by rw [ht]; exact hP, hD, hS.F ht⟩) hS.2.2 dR_signOfTwo_71
  refine lv_iconst (v := 0) hx hb dR_signOfTwo_58 (by decide) ?_
  have e_s : sh_sign2 tx p0 = (0, sh_skip tx p0) := by grind [sh_sign2]
  refine W.widen (k := 0) (n := 0) (Nat.le_refl _) (Nat.le_refl _) ?_
  exact W.iret (v := 0) hx hb hr (fun t ht _ => ⟨_, _, rfl, ⟨by rw [e_s], by rw [e_s]⟩, by rw [ht]; exact hP, hD, hS.F ht⟩) hS.2.2 dR_signOfTwo_59
set_option maxHeartbeats 4000000 in
set_option maxRecDepth 100000 in
/-- assignmentSign() -/
theorem k_R_assignmentSign (l : Launch) (dC : Nat → ClassId) (dI : Nat → Nat → Nat) (kC kI kJ kQ : ClassId) (a0 aR aN aS aF : Nat) (wt un : Int32) (rs : Int64) (fx : Nat → Int32) (tx : List Int32) (tl : va_W) (hx3 : tx.length ≤ 300) (hB : sh_B tx) (hfx : ∀ j, j < tx.length → fx j = sh_at tx j) (sz : Nat) (p0 : Nat) (hp0 : p0 ≤ tx.length) : Met l yR_assignmentSign wsR_assignmentSign ({ frames := 2, cells := 0, slots := 0, locals := 42 }) (va_Pc [.ref a0] (zW dC dI ([(kC, .char), (kI, .int), (kJ, .long), (kQ, .object "ShellSum$Named")]) ((a0, .inr (2, [.ref aR, .ref aN, .ref aS, .ref aF, .int wt, .int (nI tx.length), .int (nI p0), .int un, .long rs])) :: (aR, .inl (kC, 300, .inl fx)) :: tl) sz)) (zQ dC dI (va_A ((a0, .inr (2, [.ref aR, .ref aN, .ref aS, .ref aF, .int wt, .int (nI tx.length), .int (nI p0), .int un, .long rs])) :: (aR, .inl (kC, 300, .inl fx)) :: tl) sz) (fun v w => v = some (.int (sh_signA tx p0).1) ∧ w = ((a0, .inr (2, [.ref aR, .ref aN, .ref aS, .ref aF, .int wt, .int (nI tx.length), .int (nI (sh_signA tx p0).2), .int un, .long rs])) :: (aR, .inl (kC, 300, .inl fx)) :: tl))) 0 0 (va_A ((a0, .inr (2, [.ref aR, .ref aN, .ref aS, .ref aF, .int wt, .int (nI tx.length), .int (nI p0), .int un, .long rs])) :: (aR, .inl (kC, 300, .inl fx)) :: tl) sz) := by
  refine Met.ofW (cc := cR_assignmentSign) (maxL := 4) (ret := (some .int)) (by decide) rfl ?_
  intro p e s m args below meth c s₁ B hml hv
  obtain ⟨rfl, hsz, hP, hK, hD0, hN⟩ := hv
  subst hsz
  have hD := hD0.self (sz := s.heap.size)
  generalize hAe : va_A ((a0, .inr (2, [.ref aR, .ref aN, .ref aS, .ref aF, .int wt, .int (nI tx.length), .int (nI p0), .int un, .long rs])) :: (aR, .inl (kC, 300, .inl fx)) :: tl) s.heap.size = A at hD ⊢
  have hA : ∀ q : Nat, s.heap.size ≤ q → A q := fun q h => by rw [← hAe]; exact Or.inr h
  have hS : va_S A s.heap s.heap [] := va_S.rf
  have hx := B.exec
  have hb := B.bytes
  have hr := B.returns
  have htz : ∀ w ∈ zw, w.before _ s = true := fun w h => atoms_spec (ws := wsR_assignmentSign) B.pre w (List.mem_cons_of_mem _ h)
  have hown : s.vm.findClass "ShellSum$Reckoner" = some m.cls := findClass_of_methodNamed B.named
  have hlocks := B.notSynchronized
  have hl := lv_entry ([.ref a0]) (n := 4) (Nat.le_of_ble_eq_true rfl)
  rw [lg_entry_eq]
  generalize (lg_sl ([.ref a0]) ++ List.replicate (4 - (lg_sl ([.ref a0])).length) Slot.unset).toArray = ls at hl ⊢
  have hq : sh_skip tx p0 ≤ tx.length := sh_skip_le hp0
  have hl : lv_has ls 4 [(0, .ref a0)] := hl
  refine lv_aload_n hx hb dR_assignmentSign_0 rfl (lv_at hl 0 rfl) ?_
  refine zQ_call (va_runV (As := []) (rest := []) ⟨hx, hb, hml, hown, htz⟩ (k_R_skipBlanks l dC dI kC kI kJ kQ a0 aR aN aS aF wt un rs fx tx tl hx3 hB hfx _ p0 hp0) (cwV 0 htz (zg_V zw_1_202 zw_1_204 zs_R_skipBlanks zw_1_2 zw_1_205) rfl rfl rfl (by decide +kernel) ⟨Nat.le_of_ble_eq_true rfl, Nat.le_of_ble_eq_true rfl⟩) (zW_V hP hK hD hN (va_recv hK hP (ci := 2) (q0 := 0) rfl rfl)) rfl rfl hl.1 rfl (lv_room (Nat.le_of_ble_eq_true rfl)) dR_assignmentSign_1 ⟨Nat.zero_le _, Nat.zero_le _⟩) hD hS hA (fun v w H locs hp hP hD hS => ?_)
  obtain ⟨rfl, hw⟩ := hp
  rw [hw] at hP hD
  have hP : va_P (dC, dI) vwCl ((a0, .inr (2, [.ref aR, .ref aN, .ref aS, .ref aF, .int wt, .int (nI tx.length), .int (nI (sh_skip tx p0)), .int un, .long rs])) :: (aR, .inl (kC, 300, .inl fx)) :: tl) H := hP
  have hD : va_D A ((a0, .inr (2, [.ref aR, .ref aN, .ref aS, .ref aF, .int wt, .int (nI tx.length), .int (nI (sh_skip tx p0)), .int un, .long rs])) :: (aR, .inl (kC, 300, .inl fx)) :: tl) := hD
  refine W.eq (g2 := F0 m 4 ls []) rfl ?_
  refine lv_aload_n hx hb dR_assignmentSign_4 rfl (lv_at hl 0 rfl) ?_
  refine lv_aload_n hx hb dR_assignmentSign_5 rfl (lv_at hl 0 rfl) ?_
  refine va_get (D := (dC, dI)) (ci := 2) (v := .int (nI (sh_skip tx p0))) (C := "ShellSum$Reckoner") (T := TR) (N := 9) hx hb htz zu_R hown hK hP 0 rfl rfl 6 (by decide) (htz _ zw_1_51) (fun _ h9 => h9) rfl dR_assignmentSign_6 ?_
  refine rq_call (va_runV (As := [.int (nI (sh_skip tx p0))]) (rest := []) ⟨hx, hb, hml, hown, htz⟩ (k_R_charAt l dC dI kC kI kJ kQ a0 aR aN aS aF wt un rs fx tx tl hx3 hB hfx (nI (sh_skip tx p0)) (sh_skip tx p0) (by omega)) (cwV 1 htz (zg_V zw_1_206 zw_1_208 zs_R_charAt zw_1_2 zw_1_209) rfl rfl rfl (by decide +kernel) ⟨Nat.le_of_ble_eq_true rfl, Nat.le_of_ble_eq_true rfl⟩) (zR_V hP hK hN (va_recv hK hP (ci := 2) (q0 := 0) rfl rfl)) rfl rfl hl.1 rfl (lv_room (Nat.le_of_ble_eq_true rfl)) dR_assignmentSign_9 ⟨Nat.zero_le _, Nat.zero_le _⟩) ?_
  refine W.eq (g2 := F0 m 12 ls [.int (sh_at tx (sh_skip tx p0))]) rfl ?_
  refine lv_istore_n (lv' := [(1, .int (sh_at tx (sh_skip tx p0))), (0, .ref a0)]) hx hb dR_assignmentSign_12 rfl hl (by decide) rfl (fun ls hl => ?_)
  refine lv_aload_n hx hb dR_assignmentSign_13 rfl (lv_at hl 1 rfl) ?_
  refine lv_aload_n hx hb dR_assignmentSign_14 rfl (lv_at hl 1 rfl) ?_
  refine va_get (D := (dC, dI)) (ci := 2) (v := .int (nI (sh_skip tx p0))) (C := "ShellSum$Reckoner") (T := TR) (N := 9) hx hb htz zu_R hown hK hP 0 rfl rfl 6 (by decide) (htz _ zw_1_51) (fun _ h9 => h9) rfl dR_assignmentSign_15 ?_
  refine lv_iconst (v := 1) hx hb dR_assignmentSign_18 (by decide) ?_
  refine lv_iadd hx hb dR_assignmentSign_19 ?_
  refine xw_topi (y := nI (sh_skip tx p0 + 1)) (nI_add (sh_skip tx p0) 1) ?_
  refine rq_call (va_runV (As := [.int (nI (sh_skip tx p0 + 1))]) (rest := []) ⟨hx, hb, hml, hown, htz⟩ (k_R_charAt l dC dI kC kI kJ kQ a0 aR aN aS aF wt un rs fx tx tl hx3 hB hfx (nI (sh_skip tx p0)) (sh_skip tx p0 + 1) (by omega)) (cwV 1 htz (zg_V zw_1_206 zw_1_208 zs_R_charAt zw_1_2 zw_1_209) rfl rfl rfl (by decide +kernel) ⟨Nat.le_of_ble_eq_true rfl, Nat.le_of_ble_eq_true rfl⟩) (zR_V hP hK hN (va_recv hK hP (ci := 2) (q0 := 0) rfl rfl)) rfl rfl hl.1 rfl (lv_room (Nat.le_of_ble_eq_true rfl)) dR_assignmentSign_20 ⟨Nat.zero_le _, Nat.zero_le _⟩) ?_
  refine W.eq (g2 := F0 m 23 ls [.int (sh_at tx (sh_skip tx p0 + 1))]) rfl ?_
  refine lv_istore_n (lv' := [(2, .int (sh_at tx (sh_skip tx p0 + 1))), (1, .int (sh_at tx (sh_skip tx p0))), (0, .ref a0)]) hx hb dR_assignmentSign_23 rfl hl (by decide) rfl (fun ls hl => ?_)
  refine lv_iload_n hx hb dR_assignmentSign_24 rfl (lv_at hl 1 rfl) ?_
  refine lv_bipush (v := 8) hx hb dR_assignmentSign_25 (by decide) ?_
  refine lv_ishl hx hb dR_assignmentSign_27 ?_
  refine lv_iload_n hx hb dR_assignmentSign_28 rfl (lv_at hl 0 rfl) ?_
  refine lv_ior hx hb dR_assignmentSign_29 ?_
  refine xw_topi (y := sh_two (sh_at tx (sh_skip tx p0)) (sh_at tx (sh_skip tx p0 + 1))) (rfl) ?_
  refine lv_istore_n (lv' := [(3, .int (sh_two (sh_at tx (sh_skip tx p0)) (sh_at tx (sh_skip tx p0 + 1)))), (2, .int (sh_at tx (sh_skip tx p0 + 1))), (1, .int (sh_at tx (sh_skip tx p0))), (0, .ref a0)]) hx hb dR_assignmentSign_30 rfl hl (by decide) rfl (fun ls hl => ?_)
  refine lv_iload_n hx hb dR_assignmentSign_31 rfl (lv_at hl 2 rfl) ?_
  refine lv_bipush (v := 61) hx hb dR_assignmentSign_32 (by decide) ?_
  refine lv_icmp_ne (tgt := 55) hx hb dR_assignmentSign_34 (by decide) (fun c_1 => ?_) (fun c_1 => ?_)
  · skip
    refine lv_iload_n hx hb dR_assignmentSign_55 rfl (lv_at hl 0 rfl) ?_
    refine rq_call (va_runS (As := [.int (sh_two (sh_at tx (sh_skip tx p0)) (sh_at tx (sh_skip tx p0 + 1)))]) (rest := []) ⟨hx, hb, hml, hown, htz⟩ (k_R_isShift l (sh_two (sh_at tx (sh_skip tx p0)) (sh_at tx (sh_skip tx p0 + 1)))) (cwS 1 htz (zg_S zw_1_225 zw_1_226 zw_1_2 zw_1_227) rfl rfl rfl (by decide +kernel) ⟨Nat.le_of_ble_eq_true rfl, Nat.le_of_ble_eq_true rfl⟩) rq_pre rfl rfl hl.1 rfl (lv_room (Nat.le_of_ble_eq_true rfl)) dR_assignmentSign_56 ⟨Nat.zero_le _, Nat.zero_le _⟩) ?_
    refine W.eq (g2 := F0 m 59 ls [.int (sh_b (sh_shift (sh_two (sh_at tx (sh_skip tx p0)) (sh_at tx (sh_skip tx p0 + 1)))))]) rfl ?_
    refine lv_if_eq (tgt := 89) hx hb dR_assignmentSign_59 (by decide) (fun c_2 => ?_) (fun c_2 => ?_)
    · skip
      have e_59 : sh_shift (sh_two (sh_at tx (sh_skip tx p0)) (sh_at tx (sh_skip tx p0 + 1))) = false := by grind [sh_b]
      refine lv_iload_n hx hb dR_assignmentSign_89 rfl (lv_at hl 1 rfl) ?_
      refine lv_bipush (v := 61) hx hb dR_assignmentSign_90 (by decide) ?_
      refine lv_icmp_ne (tgt := 126) hx hb dR_assignmentSign_92 (by decide) (fun c_3 => ?_) (fun c_3 => ?_)
      · skip
        refine lv_iconst (v := 0) hx hb dR_assignmentSign_126 (by decide) ?_
        have e_s : sh_signA tx p0 = (0, sh_skip tx p0) := by grind [sh_signA]
        refine W.widen (k := 0) (n := 0) (Nat.le_refl _) (Nat.le_refl _) ?_
        exact W.iret (v := 0) hx hb hr (fun t ht _ => ⟨_, _, rfl, ⟨by rw [e_s], by rw [e_s]⟩, by rw [ht]; exact hP, hD, hS.F ht⟩) hS.2.2 dR_assignmentSign_127
      refine lv_iload_n hx hb dR_assignmentSign_95 rfl (lv_at hl 2 rfl) ?_
      refine lv_bipush (v := 60) hx hb dR_assignmentSign_96 (by decide) ?_
      refine lv_icmp_eq (tgt := 126) hx hb dR_assignmentSign_98 (by decide) (fun c_4 => ?_) (fun c_4 => ?_)
      · skip
        refine lv_iconst (v := 0) hx hb dR_assignmentSign_126 (by decide) ?_
        have e_s : sh_signA tx p0 = (0, sh_skip tx p0) := by grind [sh_signA]
        refine W.widen (k := 0) (n := 0) (Nat.le_refl _) (Nat.le_refl _) ?_
        exact W.iret (v := 0) hx hb hr (fun t ht _ => ⟨_, _, rfl, ⟨by rw [e_s], by rw [e_s]⟩, by rw [ht]; exact hP, hD, hS.F ht⟩) hS.2.2 dR_assignmentSign_127
      refine lv_iload_n hx hb dR_assignmentSign_101 rfl (lv_at hl 2 rfl) ?_
      refine lv_bipush (v := 62) hx hb dR_assignmentSign_102 (by decide) ?_
      refine lv_icmp_eq (tgt := 126) hx hb dR_assignmentSign_104 (by decide) (fun c_5 => ?_) (fun c_5 => ?_)
      · skip
        refine lv_iconst (v := 0) hx hb dR_assignmentSign_126 (by decide) ?_
        have e_s : sh_signA tx p0 = (0, sh_skip tx p0) := by grind [sh_signA]
        refine W.widen (k := 0) (n := 0) (Nat.le_refl _) (Nat.le_refl _) ?_
        exact W.iret (v := 0) hx hb hr (fun t ht _ => ⟨_, _, rfl, ⟨by rw [e_s], by rw [e_s]⟩, by rw [ht]; exact hP, hD, hS.F ht⟩) hS.2.2 dR_assignmentSign_127
      refine lv_iload_n hx hb dR_assignmentSign_107 rfl (lv_at hl 2 rfl) ?_
      have hr_108 := sh_rank_le (sh_at tx (sh_skip tx p0))
      refine rq_call (va_runSN (As := [.int (sh_at tx (sh_skip tx p0))]) (rest := []) ⟨hx, hb, hml, hown, htz⟩ (k_G_rankOf l (sh_at tx (sh_skip tx p0))) ⟨va_cnB 1 htz (zg_c zw_1_230) rfl rfl rfl (hN _ zn_1_228) (htz _ zw_1_5) (by decide +kernel) ⟨Nat.le_of_ble_eq_true rfl, Nat.le_of_ble_eq_true rfl⟩, htz _ zw_1_229, trivial⟩ rq_pre rfl rfl hl.1 rfl (lv_room (Nat.le_of_ble_eq_true rfl)) dR_assignmentSign_108 ⟨Nat.zero_le _, Nat.zero_le _⟩) ?_
      refine W.eq (g2 := F0 m 111 ls [.int (nI (sh_rank (sh_at tx (sh_skip tx p0))))]) rfl ?_
      refine lv_if_le (tgt := 126) hx hb dR_assignmentSign_111 (by decide) (fun c_6 => ?_) (fun c_6 => ?_)
      · skip
        have e_111 : sh_rank (sh_at tx (sh_skip tx p0)) = 0 := Nat.le_zero.mp (xi_le (b := 0) c_6 (by omega) (by decide))
        refine lv_iconst (v := 0) hx hb dR_assignmentSign_126 (by decide) ?_
        have e_s : sh_signA tx p0 = (0, sh_skip tx p0) := by grind [sh_signA]
        refine W.widen (k := 0) (n := 0) (Nat.le_refl _) (Nat.le_refl _) ?_
        exact W.iret (v := 0) hx hb hr (fun t ht _ => ⟨_, _, rfl, ⟨by rw [e_s], by rw [e_s]⟩, by rw [ht]; exact hP, hD, hS.F ht⟩) hS.2.2 dR_assignmentSign_127
      have e_111 : 0 < sh_rank (sh_at tx (sh_skip tx p0)) := xi_nle (b := 0) c_6 (by omega) (by decide)
      refine lv_aload_n hx hb dR_assignmentSign_114 rfl (lv_at hl 3 rfl) ?_
      refine lv_dup hx hb dR_assignmentSign_115 rfl ?_
      refine va_get (D := (dC, dI)) (ci := 2) (v := .int (nI (sh_skip tx p0))) (C := "ShellSum$Reckoner") (T := TR) (N := 9) hx hb htz zu_R hown hK hP 0 rfl rfl 6 (by decide) (htz _ zw_1_51) (fun _ h9 => h9) rfl dR_assignmentSign_116 ?_
      refine lv_iconst (v := 2) hx hb dR_assignmentSign_119 (by decide) ?_
      refine lv_iadd hx hb dR_assignmentSign_120 ?_
      refine xw_topi (y := nI (sh_skip tx p0 + 2)) (nI_add (sh_skip tx p0) 2) ?_
      refine va_put (D := (dC, dI)) (ci := 2) (v := .int (nI (sh_skip tx p0 + 2))) (ty := .int) (C := "ShellSum$Reckoner") (T := TR) (N := 9) hx hb htz zu_R tyR tyR_ok nmR hown hK hP hD hS 0 rfl rfl 6 (by decide) (htz _ zw_1_51) (fun _ h9 => h9) rfl (by decide +kernel) rfl rfl (Nat.le_of_ble_eq_true rfl) dR_assignmentSign_121 (fun H locs hP hD hS => ?_)
      have hP : va_P (dC, dI) vwCl ((a0, .inr (2, [.ref aR, .ref aN, .ref aS, .ref aF, .int wt, .int (nI tx.length), .int (nI (sh_skip tx p0 + 2)), .int un, .long rs])) :: (aR, .inl (kC, 300, .inl fx)) :: tl) H := hP
      have hD : va_D A ((a0, .inr (2, [.ref aR, .ref aN, .ref aS, .ref aF, .int wt, .int (nI tx.length), .int (nI (sh_skip tx p0 + 2)), .int un, .long rs])) :: (aR, .inl (kC, 300, .inl fx)) :: tl) := hD
      refine lv_iload_n hx hb dR_assignmentSign_124 rfl (lv_at hl 2 rfl) ?_
      have e_s : sh_signA tx p0 = (sh_at tx (sh_skip tx p0), sh_skip tx p0 + 2) := by grind [sh_signA]
      refine W.widen (k := 0) (n := 0) (Nat.le_refl _) (Nat.le_refl _) ?_
      exact W.iret (v := sh_at tx (sh_skip tx p0)) hx hb hr (fun t ht _ => ⟨_, _, rfl, ⟨by rw [e_s], by rw [e_s]⟩, by rw [ht]; exact hP, hD, hS.F ht⟩) hS.2.2 dR_assignmentSign_125
    have e_59 : sh_shift (sh_two (sh_at tx (sh_skip tx p0)) (sh_at tx (sh_skip tx p0 + 1))) = true := by grind [sh_b]
    refine lv_aload_n hx hb dR_assignmentSign_62 rfl (lv_at hl 3 rfl) ?_
    refine lv_aload_n hx hb dR_assignmentSign_63 rfl (lv_at hl 3 rfl) ?_
    refine va_get (D := (dC, dI)) (ci := 2) (v := .int (nI (sh_skip tx p0))) (C := "ShellSum$Reckoner") (T := TR) (N := 9) hx hb htz zu_R hown hK hP 0 rfl rfl 6 (by decide) (htz _ zw_1_51) (fun _ h9 => h9) rfl dR_assignmentSign_64 ?_
    refine lv_iconst (v := 2) hx hb dR_assignmentSign_67 (by decide) ?_
    refine lv_iadd hx hb dR_assignmentSign_68 ?_
    refine xw_topi (y := nI (sh_skip tx p0 + 2)) (nI_add (sh_skip tx p0) 2) ?_
    refine rq_call (va_runV (As := [.int (nI (sh_skip tx p0 + 2))]) (rest := []) ⟨hx, hb, hml, hown, htz⟩ (k_R_charAt l dC dI kC kI kJ kQ a0 aR aN aS aF wt un rs fx tx tl hx3 hB hfx (nI (sh_skip tx p0)) (sh_skip tx p0 + 2) (by omega)) (cwV 1 htz (zg_V zw_1_206 zw_1_208 zs_R_charAt zw_1_2 zw_1_209) rfl rfl rfl (by decide +kernel) ⟨Nat.le_of_ble_eq_true rfl, Nat.le_of_ble_eq_true rfl⟩) (zR_V hP hK hN (va_recv hK hP (ci := 2) (q0 := 0) rfl rfl)) rfl rfl hl.1 rfl (lv_room (Nat.le_of_ble_eq_true rfl)) dR_assignmentSign_69 ⟨Nat.zero_le _, Nat.zero_le _⟩) ?_
    refine W.eq (g2 := F0 m 72 ls [.int (sh_at tx (sh_skip tx p0 + 2))]) rfl ?_
    refine lv_bipush (v := 61) hx hb dR_assignmentSign_72 (by decide) ?_
    refine lv_icmp_ne (tgt := 89) hx hb dR_assignmentSign_74 (by decide) (fun c_7 => ?_) (fun c_7 => ?_)
    · skip
      refine lv_iload_n hx hb dR_assignmentSign_89 rfl (lv_at hl 1 rfl) ?_
      refine lv_bipush (v := 61) hx hb dR_assignmentSign_90 (by decide) ?_
      refine lv_icmp_ne (tgt := 126) hx hb dR_assignmentSign_92 (by decide) (fun c_8 => ?_) (fun c_8 => ?_)
      · skip
        refine lv_iconst (v := 0) hx hb dR_assignmentSign_126 (by decide) ?_
        have e_s : sh_signA tx p0 = (0, sh_skip tx p0) := by grind [sh_signA]
        refine W.widen (k := 0) (n := 0) (Nat.le_refl _) (Nat.le_refl _) ?_
        exact W.iret (v := 0) hx hb hr (fun t ht _ => ⟨_, _, rfl, ⟨by rw [e_s], by rw [e_s]⟩, by rw [ht]; exact hP, hD, hS.F ht⟩) hS.2.2 dR_assignmentSign_127
      refine lv_iload_n hx hb dR_assignmentSign_95 rfl (lv_at hl 2 rfl) ?_
      refine lv_bipush (v := 60) hx hb dR_assignmentSign_96 (by decide) ?_
      refine lv_icmp_eq (tgt := 126) hx hb dR_assignmentSign_98 (by decide) (fun c_9 => ?_) (fun c_9 => ?_)
      · skip
        refine lv_iconst (v := 0) hx hb dR_assignmentSign_126 (by decide) ?_
        have e_s : sh_signA tx p0 = (0, sh_skip tx p0) := by grind [sh_signA]
        refine W.widen (k := 0) (n := 0) (Nat.le_refl _) (Nat.le_refl _) ?_
        exact W.iret (v := 0) hx hb hr (fun t ht _ => ⟨_, _, rfl, ⟨by rw [e_s], by rw [e_s]⟩, by rw [ht]; exact hP, hD, hS.F ht⟩) hS.2.2 dR_assignmentSign_127
      refine lv_iload_n hx hb dR_assignmentSign_101 rfl (lv_at hl 2 rfl) ?_
      refine lv_bipush (v := 62) hx hb dR_assignmentSign_102 (by decide) ?_
      refine lv_icmp_eq (tgt := 126) hx hb dR_assignmentSign_104 (by decide) (fun c_10 => ?_) (fun c_10 => ?_)
      · skip
        refine lv_iconst (v := 0) hx hb dR_assignmentSign_126 (by decide) ?_
        have e_s : sh_signA tx p0 = (0, sh_skip tx p0) := by grind [sh_signA]
        refine W.widen (k := 0) (n := 0) (Nat.le_refl _) (Nat.le_refl _) ?_
        exact W.iret (v := 0) hx hb hr (fun t ht _ => ⟨_, _, rfl, ⟨by rw [e_s], by rw [e_s]⟩, by rw [ht]; exact hP, hD, hS.F ht⟩) hS.2.2 dR_assignmentSign_127
      refine lv_iload_n hx hb dR_assignmentSign_107 rfl (lv_at hl 2 rfl) ?_
      have hr_108 := sh_rank_le (sh_at tx (sh_skip tx p0))
      refine rq_call (va_runSN (As := [.int (sh_at tx (sh_skip tx p0))]) (rest := []) ⟨hx, hb, hml, hown, htz⟩ (k_G_rankOf l (sh_at tx (sh_skip tx p0))) ⟨va_cnB 1 htz (zg_c zw_1_230) rfl rfl rfl (hN _ zn_1_228) (htz _ zw_1_5) (by decide +kernel) ⟨Nat.le_of_ble_eq_true rfl, Nat.le_of_ble_eq_true rfl⟩, htz _ zw_1_229, trivial⟩ rq_pre rfl rfl hl.1 rfl (lv_room (Nat.le_of_ble_eq_true rfl)) dR_assignmentSign_108 ⟨Nat.zero_le _, Nat.zero_le _⟩) ?_
      refine W.eq (g2 := F0 m 111 ls [.int (nI (sh_rank (sh_at tx (sh_skip tx p0))))]) rfl ?_
      refine lv_if_le (tgt := 126) hx hb dR_assignmentSign_111 (by decide) (fun c_11 => ?_) (fun c_11 => ?_)
      · skip
        have e_111 : sh_rank (sh_at tx (sh_skip tx p0)) = 0 := Nat.le_zero.mp (xi_le (b := 0) c_11 (by omega) (by decide))
        refine lv_iconst (v := 0) hx hb dR_assignmentSign_126 (by decide) ?_
        have e_s : sh_signA tx p0 = (0, sh_skip tx p0) := by grind [sh_signA]
        refine W.widen (k := 0) (n := 0) (Nat.le_refl _) (Nat.le_refl _) ?_
        exact W.iret (v := 0) hx hb hr (fun t ht _ => ⟨_, _, rfl, ⟨by rw [e_s], by rw [e_s]⟩, by rw [ht]; exact hP, hD, hS.F ht⟩) hS.2.2 dR_assignmentSign_127
      have e_111 : 0 < sh_rank (sh_at tx (sh_skip tx p0)) := xi_nle (b := 0) c_11 (by omega) (by decide)
      refine lv_aload_n hx hb dR_assignmentSign_114 rfl (lv_at hl 3 rfl) ?_
      refine lv_dup hx hb dR_assignmentSign_115 rfl ?_
      refine va_get (D := (dC, dI)) (ci := 2) (v := .int (nI (sh_skip tx p0))) (C := "ShellSum$Reckoner") (T := TR) (N := 9) hx hb htz zu_R hown hK hP 0 rfl rfl 6 (by decide) (htz _ zw_1_51) (fun _ h9 => h9) rfl dR_assignmentSign_116 ?_
      refine lv_iconst (v := 2) hx hb dR_assignmentSign_119 (by decide) ?_
      refine lv_iadd hx hb dR_assignmentSign_120 ?_
      refine xw_topi (y := nI (sh_skip tx p0 + 2)) (nI_add (sh_skip tx p0) 2) ?_
      refine va_put (D := (dC, dI)) (ci := 2) (v := .int (nI (sh_skip tx p0 + 2))) (ty := .int) (C := "ShellSum$Reckoner") (T := TR) (N := 9) hx hb htz zu_R tyR tyR_ok nmR hown hK hP hD hS 0 rfl rfl 6 (by decide) (htz _ zw_1_51) (fun _ h9 => h9) rfl (by decide +kernel) rfl rfl (Nat.le_of_ble_eq_true rfl) dR_assignmentSign_121 (fun H locs hP hD hS => ?_)
      have hP : va_P (dC, dI) vwCl ((a0, .inr (2, [.ref aR, .ref aN, .ref aS, .ref aF, .int wt, .int (nI tx.length), .int (nI (sh_skip tx p0 + 2)), .int un, .long rs])) :: (aR, .inl (kC, 300, .inl fx)) :: tl) H := hP
      have hD : va_D A ((a0, .inr (2, [.ref aR, .ref aN, .ref aS, .ref aF, .int wt, .int (nI tx.length), .int (nI (sh_skip tx p0 + 2)), .int un, .long rs])) :: (aR, .inl (kC, 300, .inl fx)) :: tl) := hD
      refine lv_iload_n hx hb dR_assignmentSign_124 rfl (lv_at hl 2 rfl) ?_
      have e_s : sh_signA tx p0 = (sh_at tx (sh_skip tx p0), sh_skip tx p0 + 2) := by grind [sh_signA]
      refine W.widen (k := 0) (n := 0) (Nat.le_refl _) (Nat.le_refl _) ?_
      exact W.iret (v := sh_at tx (sh_skip tx p0)) hx hb hr (fun t ht _ => ⟨_, _, rfl, ⟨by rw [e_s], by rw [e_s]⟩, by rw [ht]; exact hP, hD, hS.F ht⟩) hS.2.2 dR_assignmentSign_125
    refine lv_aload_n hx hb dR_assignmentSign_77 rfl (lv_at hl 3 rfl) ?_
    refine lv_dup hx hb dR_assignmentSign_78 rfl ?_
    refine va_get (D := (dC, dI)) (ci := 2) (v := .int (nI (sh_skip tx p0))) (C := "ShellSum$Reckoner") (T := TR) (N := 9) hx hb htz zu_R hown hK hP 0 rfl rfl 6 (by decide) (htz _ zw_1_51) (fun _ h9 => h9) rfl dR_assignmentSign_79 ?_
    refine lv_iconst (v := 3) hx hb dR_assignmentSign_82 (by decide) ?_
    refine lv_iadd hx hb dR_assignmentSign_83 ?_
    refine xw_topi (y := nI (sh_skip tx p0 + 3)) (nI_add (sh_skip tx p0) 3) ?_
    refine va_put (D := (dC, dI)) (ci := 2) (v := .int (nI (sh_skip tx p0 + 3))) (ty := .int) (C := "ShellSum$Reckoner") (T := TR) (N := 9) hx hb htz zu_R tyR tyR_ok nmR hown hK hP hD hS 0 rfl rfl 6 (by decide) (htz _ zw_1_51) (fun _ h9 => h9) rfl (by decide +kernel) rfl rfl (Nat.le_of_ble_eq_true rfl) dR_assignmentSign_84 (fun H locs hP hD hS => ?_)
    have hP : va_P (dC, dI) vwCl ((a0, .inr (2, [.ref aR, .ref aN, .ref aS, .ref aF, .int wt, .int (nI tx.length), .int (nI (sh_skip tx p0 + 3)), .int un, .long rs])) :: (aR, .inl (kC, 300, .inl fx)) :: tl) H := hP
    have hD : va_D A ((a0, .inr (2, [.ref aR, .ref aN, .ref aS, .ref aF, .int wt, .int (nI tx.length), .int (nI (sh_skip tx p0 + 3)), .int un, .long rs])) :: (aR, .inl (kC, 300, .inl fx)) :: tl) := hD
    refine lv_iload_n hx hb dR_assignmentSign_87 rfl (lv_at hl 0 rfl) ?_
    have e_s : sh_signA tx p0 = (sh_two (sh_at tx (sh_skip tx p0)) (sh_at tx (sh_skip tx p0 + 1)), sh_skip tx p0 + 3) := by grind [sh_signA]
    refine W.widen (k := 0) (n := 0) (Nat.le_refl _) (Nat.le_refl _) ?_
    exact W.iret (v := sh_two (sh_at tx (sh_skip tx p0)) (sh_at tx (sh_skip tx p0 + 1))) hx hb hr (fun t ht _ => ⟨_, _, rfl, ⟨by rw [e_s], by rw [e_s]⟩, by rw [ht]; exact hP, hD, hS.F ht⟩) hS.2.2 dR_assignmentSign_88
  refine lv_iload_n hx hb dR_assignmentSign_37 rfl (lv_at hl 1 rfl) ?_
  refine lv_bipush (v := 61) hx hb dR_assignmentSign_38 (by decide) ?_
  refine lv_icmp_eq (tgt := 55) hx hb dR_assignmentSign_40 (by decide) (fun c_12 => ?_) (fun c_12 => ?_)
  · skip
    refine lv_iload_n hx hb dR_assignmentSign_55 rfl (lv_at hl 0 rfl) ?_
    refine rq_call (va_runS (As := [.int (sh_two (sh_at tx (sh_skip tx p0)) (sh_at tx (sh_skip tx p0 + 1)))]) (rest := []) ⟨hx, hb, hml, hown, htz⟩ (k_R_isShift l (sh_two (sh_at tx (sh_skip tx p0)) (sh_at tx (sh_skip tx p0 + 1)))) (cwS 1 htz (zg_S zw_1_225 zw_1_226 zw_1_2 zw_1_227) rfl rfl rfl (by decide +kernel) ⟨Nat.le_of_ble_eq_true rfl, Nat.le_of_ble_eq_true rfl⟩) rq_pre rfl rfl hl.1 rfl (lv_room (Nat.le_of_ble_eq_true rfl)) dR_assignmentSign_56 ⟨Nat.zero_le _, Nat.zero_le _⟩) ?_
    refine W.eq (g2 := F0 m 59 ls [.int (sh_b (sh_shift (sh_two (sh_at tx (sh_skip tx p0)) (sh_at tx (sh_skip tx p0 + 1)))))]) rfl ?_
    refine lv_if_eq (tgt := 89) hx hb dR_assignmentSign_59 (by decide) (fun c_13 => ?_) (fun c_13 => ?_)
    · skip
      have e_59 : sh_shift (sh_two (sh_at tx (sh_skip tx p0)) (sh_at tx (sh_skip tx p0 + 1))) = false := by grind [sh_b]
      refine lv_iload_n hx hb dR_assignmentSign_89 rfl (lv_at hl 1 rfl) ?_
      refine lv_bipush (v := 61) hx hb dR_assignmentSign_90 (by decide) ?_
      refine lv_icmp_ne (tgt := 126) hx hb dR_assignmentSign_92 (by decide) (fun c_14 => ?_) (fun c_14 => ?_)
      · skip
        refine lv_iconst (v := 0) hx hb dR_assignmentSign_126 (by decide) ?_
        have e_s : sh_signA tx p0 = (0, sh_skip tx p0) := by grind [sh_signA]
        refine W.widen (k := 0) (n := 0) (Nat.le_refl _) (Nat.le_refl _) ?_
        exact W.iret (v := 0) hx hb hr (fun t ht _ => ⟨_, _, rfl, ⟨by rw [e_s], by rw [e_s]⟩, by rw [ht]; exact hP, hD, hS.F ht⟩) hS.2.2 dR_assignmentSign_127
      refine lv_iload_n hx hb dR_assignmentSign_95 rfl (lv_at hl 2 rfl) ?_
      refine lv_bipush (v := 60) hx hb dR_assignmentSign_96 (by decide) ?_
      refine lv_icmp_eq (tgt := 126) hx hb dR_assignmentSign_98 (by decide) (fun c_15 => ?_) (fun c_15 => ?_)
      · skip
        refine lv_iconst (v := 0) hx hb dR_assignmentSign_126 (by decide) ?_
        have e_s : sh_signA tx p0 = (0, sh_skip tx p0) := by grind [sh_signA]
        refine W.widen (k := 0) (n := 0) (Nat.le_refl _) (Nat.le_refl _) ?_
        exact W.iret (v := 0) hx hb hr (fun t ht _ => ⟨_, _, rfl, ⟨by rw [e_s], by rw [e_s]⟩, by rw [ht]; exact hP, hD, hS.F ht⟩) hS.2.2 dR_assignmentSign_127
      refine lv_iload_n hx hb dR_assignmentSign_101 rfl (lv_at hl 2 rfl) ?_
      refine lv_bipush (v := 62) hx hb dR_assignmentSign_102 (by decide) ?_
      refine lv_icmp_eq (tgt := 126) hx hb dR_assignmentSign_104 (by decide) (fun c_16 => ?_) (fun c_16 => ?_)
      · skip
        refine lv_iconst (v := 0) hx hb dR_assignmentSign_126 (by decide) ?_
        have e_s : sh_signA tx p0 = (0, sh_skip tx p0) := by grind [sh_signA]
        refine W.widen (k := 0) (n := 0) (Nat.le_refl _) (Nat.le_refl _) ?_
        exact W.iret (v := 0) hx hb hr (fun t ht _ => ⟨_, _, rfl, ⟨by rw [e_s], by rw [e_s]⟩, by rw [ht]; exact hP, hD, hS.F ht⟩) hS.2.2 dR_assignmentSign_127
      refine lv_iload_n hx hb dR_assignmentSign_107 rfl (lv_at hl 2 rfl) ?_
      have hr_108 := sh_rank_le (sh_at tx (sh_skip tx p0))
      refine rq_call (va_runSN (As := [.int (sh_at tx (sh_skip tx p0))]) (rest := []) ⟨hx, hb, hml, hown, htz⟩ (k_G_rankOf l (sh_at tx (sh_skip tx p0))) ⟨va_cnB 1 htz (zg_c zw_1_230) rfl rfl rfl (hN _ zn_1_228) (htz _ zw_1_5) (by decide +kernel) ⟨Nat.le_of_ble_eq_true rfl, Nat.le_of_ble_eq_true rfl⟩, htz _ zw_1_229, trivial⟩ rq_pre rfl rfl hl.1 rfl (lv_room (Nat.le_of_ble_eq_true rfl)) dR_assignmentSign_108 ⟨Nat.zero_le _, Nat.zero_le _⟩) ?_
      refine W.eq (g2 := F0 m 111 ls [.int (nI (sh_rank (sh_at tx (sh_skip tx p0))))]) rfl ?_
      refine lv_if_le (tgt := 126) hx hb dR_assignmentSign_111 (by decide) (fun c_17 => ?_) (fun c_17 => ?_)
      · skip
        have e_111 : sh_rank (sh_at tx (sh_skip tx p0)) = 0 := Nat.le_zero.mp (xi_le (b := 0) c_17 (by omega) (by decide))
        refine lv_iconst (v := 0) hx hb dR_assignmentSign_126 (by decide) ?_
        have e_s : sh_signA tx p0 = (0, sh_skip tx p0) := by grind [sh_signA]
        refine W.widen (k := 0) (n := 0) (Nat.le_refl _) (Nat.le_refl _) ?_
        exact W.iret (v := 0) hx hb hr (fun t ht _ => ⟨_, _, rfl, ⟨by rw [e_s], by rw [e_s]⟩, by rw [ht]; exact hP, hD, hS.F ht⟩) hS.2.2 dR_assignmentSign_127
      have e_111 : 0 < sh_rank (sh_at tx (sh_skip tx p0)) := xi_nle (b := 0) c_17 (by omega) (by decide)
      refine lv_aload_n hx hb dR_assignmentSign_114 rfl (lv_at hl 3 rfl) ?_
      refine lv_dup hx hb dR_assignmentSign_115 rfl ?_
      refine va_get (D := (dC, dI)) (ci := 2) (v := .int (nI (sh_skip tx p0))) (C := "ShellSum$Reckoner") (T := TR) (N := 9) hx hb htz zu_R hown hK hP 0 rfl rfl 6 (by decide) (htz _ zw_1_51) (fun _ h9 => h9) rfl dR_assignmentSign_116 ?_
      refine lv_iconst (v := 2) hx hb dR_assignmentSign_119 (by decide) ?_
      refine lv_iadd hx hb dR_assignmentSign_120 ?_
      refine xw_topi (y := nI (sh_skip tx p0 + 2)) (nI_add (sh_skip tx p0) 2) ?_
      refine va_put (D := (dC, dI)) (ci := 2) (v := .int (nI (sh_skip tx p0 + 2))) (ty := .int) (C := "ShellSum$Reckoner") (T := TR) (N := 9) hx hb htz zu_R tyR tyR_ok nmR hown hK hP hD hS 0 rfl rfl 6 (by decide) (htz _ zw_1_51) (fun _ h9 => h9) rfl (by decide +kernel) rfl rfl (Nat.le_of_ble_eq_true rfl) dR_assignmentSign_121 (fun H locs hP hD hS => ?_)
      have hP : va_P (dC, dI) vwCl ((a0, .inr (2, [.ref aR, .ref aN, .ref aS, .ref aF, .int wt, .int (nI tx.length), .int (nI (sh_skip tx p0 + 2)), .int un, .long rs])) :: (aR, .inl (kC, 300, .inl fx)) :: tl) H := hP
      have hD : va_D A ((a0, .inr (2, [.ref aR, .ref aN, .ref aS, .ref aF, .int wt, .int (nI tx.length), .int (nI (sh_skip tx p0 + 2)), .int un, .long rs])) :: (aR, .inl (kC, 300, .inl fx)) :: tl) := hD
      refine lv_iload_n hx hb dR_assignmentSign_124 rfl (lv_at hl 2 rfl) ?_
      have e_s : sh_signA tx p0 = (sh_at tx (sh_skip tx p0), sh_skip tx p0 + 2) := by grind [sh_signA]
      refine W.widen (k := 0) (n := 0) (Nat.le_refl _) (Nat.le_refl _) ?_
      exact W.iret (v := sh_at tx (sh_skip tx p0)) hx hb hr (fun t ht _ => ⟨_, _, rfl, ⟨by rw [e_s], by rw [e_s]⟩, by rw [ht]; exact hP, hD, hS.F ht⟩) hS.2.2 dR_assignmentSign_125
    have e_59 : sh_shift (sh_two (sh_at tx (sh_skip tx p0)) (sh_at tx (sh_skip tx p0 + 1))) = true := by grind [sh_b]
    refine lv_aload_n hx hb dR_assignmentSign_62 rfl (lv_at hl 3 rfl) ?_
    refine lv_aload_n hx hb dR_assignmentSign_63 rfl (lv_at hl 3 rfl) ?_
    refine va_get (D := (dC, dI)) (ci := 2) (v := .int (nI (sh_skip tx p0))) (C := "ShellSum$Reckoner") (T := TR) (N := 9) hx hb htz zu_R hown hK hP 0 rfl rfl 6 (by decide) (htz _ zw_1_51) (fun _ h9 => h9) rfl dR_assignmentSign_64 ?_
    refine lv_iconst (v := 2) hx hb dR_assignmentSign_67 (by decide) ?_
    refine lv_iadd hx hb dR_assignmentSign_68 ?_
    refine xw_topi (y := nI (sh_skip tx p0 + 2)) (nI_add (sh_skip tx p0) 2) ?_
    refine rq_call (va_runV (As := [.int (nI (sh_skip tx p0 + 2))]) (rest := []) ⟨hx, hb, hml, hown, htz⟩ (k_R_charAt l dC dI kC kI kJ kQ a0 aR aN aS aF wt un rs fx tx tl hx3 hB hfx (nI (sh_skip tx p0)) (sh_skip tx p0 + 2) (by omega)) (cwV 1 htz (zg_V zw_1_206 zw_1_208 zs_R_charAt zw_1_2 zw_1_209) rfl rfl rfl (by decide +kernel) ⟨Nat.le_of_ble_eq_true rfl, Nat.le_of_ble_eq_true rfl⟩) (zR_V hP hK hN (va_recv hK hP (ci := 2) (q0 := 0) rfl rfl)) rfl rfl hl.1 rfl (lv_room (Nat.le_of_ble_eq_true rfl)) dR_assignmentSign_69 ⟨Nat.zero_le _, Nat.zero_le _⟩) ?_
    refine W.eq (g2 := F0 m 72 ls [.int (sh_at tx (sh_skip tx p0 + 2))]) rfl ?_
    refine lv_bipush (v := 61) hx hb dR_assignmentSign_72 (by decide) ?_
    refine lv_icmp_ne (tgt := 89) hx hb dR_assignmentSign_74 (by decide) (fun c_18 => ?_) (fun c_18 => ?_)
    · skip
      refine lv_iload_n hx hb dR_assignmentSign_89 rfl (lv_at hl 1 rfl) ?_
      refine lv_bipush (v := 61) hx hb dR_assignmentSign_90 (by decide) ?_
      refine lv_icmp_ne (tgt := 126) hx hb dR_assignmentSign_92 (by decide) (fun c_19 => ?_) (fun c_19 => ?_)
      · skip
        refine lv_iconst (v := 0) hx hb dR_assignmentSign_126 (by decide) ?_
        have e_s : sh_signA tx p0 = (0, sh_skip tx p0) := by grind [sh_signA]
        refine W.widen (k := 0) (n := 0) (Nat.le_refl _) (Nat.le_refl _) ?_
        exact W.iret (v := 0) hx hb hr (fun t ht _ => ⟨_, _, rfl, ⟨by rw [e_s], by rw [e_s]⟩, by rw [ht]; exact hP, hD, hS.F ht⟩) hS.2.2 dR_assignmentSign_127
      refine lv_iload_n hx hb dR_assignmentSign_95 rfl (lv_at hl 2 rfl) ?_
      refine lv_bipush (v := 60) hx hb dR_assignmentSign_96 (by decide) ?_
      refine lv_icmp_eq (tgt := 126) hx hb dR_assignmentSign_98 (by decide) (fun c_20 => ?_) (fun c_20 => ?_)
      · skip
        refine lv_iconst (v := 0) hx hb dR_assignmentSign_126 (by decide) ?_
        have e_s : sh_signA tx p0 = (0, sh_skip tx p0) := by grind [sh_signA]
        refine W.widen (k := 0) (n := 0) (Nat.le_refl _) (Nat.le_refl _) ?_
        exact W.iret (v := 0) hx hb hr (fun t ht _ => ⟨_, _, rfl, ⟨by rw [e_s], by rw [e_s]⟩, by rw [ht]; exact hP, hD, hS.F ht⟩) hS.2.2 dR_assignmentSign_127
      refine lv_iload_n hx hb dR_assignmentSign_101 rfl (lv_at hl 2 rfl) ?_
      refine lv_bipush (v := 62) hx hb dR_assignmentSign_102 (by decide) ?_
      refine lv_icmp_eq (tgt := 126) hx hb dR_assignmentSign_104 (by decide) (fun c_21 => ?_) (fun c_21 => ?_)
      · skip
        refine lv_iconst (v := 0) hx hb dR_assignmentSign_126 (by decide) ?_
        have e_s : sh_signA tx p0 = (0, sh_skip tx p0) := by grind [sh_signA]
        refine W.widen (k := 0) (n := 0) (Nat.le_refl _) (Nat.le_refl _) ?_
        exact W.iret (v := 0) hx hb hr (fun t ht _ => ⟨_, _, rfl, ⟨by rw [e_s], by rw [e_s]⟩, by rw [ht]; exact hP, hD, hS.F ht⟩) hS.2.2 dR_assignmentSign_127
      refine lv_iload_n hx hb dR_assignmentSign_107 rfl (lv_at hl 2 rfl) ?_
      have hr_108 := sh_rank_le (sh_at tx (sh_skip tx p0))
      refine rq_call (va_runSN (As := [.int (sh_at tx (sh_skip tx p0))]) (rest := []) ⟨hx, hb, hml, hown, htz⟩ (k_G_rankOf l (sh_at tx (sh_skip tx p0))) ⟨va_cnB 1 htz (zg_c zw_1_230) rfl rfl rfl (hN _ zn_1_228) (htz _ zw_1_5) (by decide +kernel) ⟨Nat.le_of_ble_eq_true rfl, Nat.le_of_ble_eq_true rfl⟩, htz _ zw_1_229, trivial⟩ rq_pre rfl rfl hl.1 rfl (lv_room (Nat.le_of_ble_eq_true rfl)) dR_assignmentSign_108 ⟨Nat.zero_le _, Nat.zero_le _⟩) ?_
      refine W.eq (g2 := F0 m 111 ls [.int (nI (sh_rank (sh_at tx (sh_skip tx p0))))]) rfl ?_
      refine lv_if_le (tgt := 126) hx hb dR_assignmentSign_111 (by decide) (fun c_22 => ?_) (fun c_22 => ?_)
      · skip
        have e_111 : sh_rank (sh_at tx (sh_skip tx p0)) = 0 := Nat.le_zero.mp (xi_le (b := 0) c_22 (by omega) (by decide))
        refine lv_iconst (v := 0) hx hb dR_assignmentSign_126 (by decide) ?_
        have e_s : sh_signA tx p0 = (0, sh_skip tx p0) := by grind [sh_signA]
        refine W.widen (k := 0) (n := 0) (Nat.le_refl _) (Nat.le_refl _) ?_
        exact W.iret (v := 0) hx hb hr (fun t ht _ => ⟨_, _, rfl, ⟨by rw [e_s], by rw [e_s]⟩, by rw [ht]; exact hP, hD, hS.F ht⟩) hS.2.2 dR_assignmentSign_127
      have e_111 : 0 < sh_rank (sh_at tx (sh_skip tx p0)) := xi_nle (b := 0) c_22 (by omega) (by decide)
      refine lv_aload_n hx hb dR_assignmentSign_114 rfl (lv_at hl 3 rfl) ?_
      refine lv_dup hx hb dR_assignmentSign_115 rfl ?_
      refine va_get (D := (dC, dI)) (ci := 2) (v := .int (nI (sh_skip tx p0))) (C := "ShellSum$Reckoner") (T := TR) (N := 9) hx hb htz zu_R hown hK hP 0 rfl rfl 6 (by decide) (htz _ zw_1_51) (fun _ h9 => h9) rfl dR_assignmentSign_116 ?_
      refine lv_iconst (v := 2) hx hb dR_assignmentSign_119 (by decide) ?_
      refine lv_iadd hx hb dR_assignmentSign_120 ?_
      refine xw_topi (y := nI (sh_skip tx p0 + 2)) (nI_add (sh_skip tx p0) 2) ?_
      refine va_put (D := (dC, dI)) (ci := 2) (v := .int (nI (sh_skip tx p0 + 2))) (ty := .int) (C := "ShellSum$Reckoner") (T := TR) (N := 9) hx hb htz zu_R tyR tyR_ok nmR hown hK hP hD hS 0 rfl rfl 6 (by decide) (htz _ zw_1_51) (fun _ h9 => h9) rfl (by decide +kernel) rfl rfl (Nat.le_of_ble_eq_true rfl) dR_assignmentSign_121 (fun H locs hP hD hS => ?_)
      have hP : va_P (dC, dI) vwCl ((a0, .inr (2, [.ref aR, .ref aN, .ref aS, .ref aF, .int wt, .int (nI tx.length), .int (nI (sh_skip tx p0 + 2)), .int un, .long rs])) :: (aR, .inl (kC, 300, .inl fx)) :: tl) H := hP
      have hD : va_D A ((a0, .inr (2, [.ref aR, .ref aN, .ref aS, .ref aF, .int wt, .int (nI tx.length), .int (nI (sh_skip tx p0 + 2)), .int un, .long rs])) :: (aR, .inl (kC, 300, .inl fx)) :: tl) := hD
      refine lv_iload_n hx hb dR_assignmentSign_124 rfl (lv_at hl 2 rfl) ?_
      have e_s : sh_signA tx p0 = (sh_at tx (sh_skip tx p0), sh_skip tx p0 + 2) := by grind [sh_signA]
      refine W.widen (k := 0) (n := 0) (Nat.le_refl _) (Nat.le_refl _) ?_
      exact W.iret (v := sh_at tx (sh_skip tx p0)) hx hb hr (fun t ht _ => ⟨_, _, rfl, ⟨by rw [e_s], by rw [e_s]⟩, by rw [ht]; exact hP, hD, hS.F ht⟩) hS.2.2 dR_assignmentSign_125
    refine lv_aload_n hx hb dR_assignmentSign_77 rfl (lv_at hl 3 rfl) ?_
    refine lv_dup hx hb dR_assignmentSign_78 rfl ?_
    refine va_get (D := (dC, dI)) (ci := 2) (v := .int (nI (sh_skip tx p0))) (C := "ShellSum$Reckoner") (T := TR) (N := 9) hx hb htz zu_R hown hK hP 0 rfl rfl 6 (by decide) (htz _ zw_1_51) (fun _ h9 => h9) rfl dR_assignmentSign_79 ?_
    refine lv_iconst (v := 3) hx hb dR_assignmentSign_82 (by decide) ?_
    refine lv_iadd hx hb dR_assignmentSign_83 ?_
    refine xw_topi (y := nI (sh_skip tx p0 + 3)) (nI_add (sh_skip tx p0) 3) ?_
    refine va_put (D := (dC, dI)) (ci := 2) (v := .int (nI (sh_skip tx p0 + 3))) (ty := .int) (C := "ShellSum$Reckoner") (T := TR) (N := 9) hx hb htz zu_R tyR tyR_ok nmR hown hK hP hD hS 0 rfl rfl 6 (by decide) (htz _ zw_1_51) (fun _ h9 => h9) rfl (by decide +kernel) rfl rfl (Nat.le_of_ble_eq_true rfl) dR_assignmentSign_84 (fun H locs hP hD hS => ?_)
    have hP : va_P (dC, dI) vwCl ((a0, .inr (2, [.ref aR, .ref aN, .ref aS, .ref aF, .int wt, .int (nI tx.length), .int (nI (sh_skip tx p0 + 3)), .int un, .long rs])) :: (aR, .inl (kC, 300, .inl fx)) :: tl) H := hP
    have hD : va_D A ((a0, .inr (2, [.ref aR, .ref aN, .ref aS, .ref aF, .int wt, .int (nI tx.length), .int (nI (sh_skip tx p0 + 3)), .int un, .long rs])) :: (aR, .inl (kC, 300, .inl fx)) :: tl) := hD
    refine lv_iload_n hx hb dR_assignmentSign_87 rfl (lv_at hl 0 rfl) ?_
    have e_s : sh_signA tx p0 = (sh_two (sh_at tx (sh_skip tx p0)) (sh_at tx (sh_skip tx p0 + 1)), sh_skip tx p0 + 3) := by grind [sh_signA]
    refine W.widen (k := 0) (n := 0) (Nat.le_refl _) (Nat.le_refl _) ?_
    exact W.iret (v := sh_two (sh_at tx (sh_skip tx p0)) (sh_at tx (sh_skip tx p0 + 1))) hx hb hr (fun t ht _ => ⟨_, _, rfl, ⟨by rw [e_s], by rw [e_s]⟩, by rw [ht]; exact hP, hD, hS.F ht⟩) hS.2.2 dR_assignmentSign_88
  refine lv_aload_n hx hb dR_assignmentSign_43 rfl (lv_at hl 3 rfl) ?_
  refine lv_dup hx hb dR_assignmentSign_44 rfl ?_
  refine va_get (D := (dC, dI)) (ci := 2) (v := .int (nI (sh_skip tx p0))) (C := "ShellSum$Reckoner") (T := TR) (N := 9) hx hb htz zu_R hown hK hP 0 rfl rfl 6 (by decide) (htz _ zw_1_51) (fun _ h9 => h9) rfl dR_assignmentSign_45 ?_
  refine lv_iconst (v := 1) hx hb dR_assignmentSign_48 (by decide) ?_
  refine lv_iadd hx hb dR_assignmentSign_49 ?_
  refine xw_topi (y := nI (sh_skip tx p0 + 1)) (nI_add (sh_skip tx p0) 1) ?_
  refine va_put (D := (dC, dI)) (ci := 2) (v := .int (nI (sh_skip tx p0 + 1))) (ty := .int) (C := "ShellSum$Reckoner") (T := TR) (N := 9) hx hb htz zu_R tyR tyR_ok nmR hown hK hP hD hS 0 rfl rfl 6 (by decide) (htz _ zw_1_51) (fun _ h9 => h9) rfl (by decide +kernel) rfl rfl (Nat.le_of_ble_eq_true rfl) dR_assignmentSign_50 (fun H locs hP hD hS => ?_)
  have hP : va_P (dC, dI) vwCl ((a0, .inr (2, [.ref aR, .ref aN, .ref aS, .ref aF, .int wt, .int (nI tx.length), .int (nI (sh_skip tx p0 + 1)), .int un, .long rs])) :: (aR, .inl (kC, 300, .inl fx)) :: tl) H := hP
  have hD : va_D A ((a0, .inr (2, [.ref aR, .ref aN, .ref aS, .ref aF, .int wt, .int (nI tx.length), .int (nI (sh_skip tx p0 + 1)), .int un, .long rs])) :: (aR, .inl (kC, 300, .inl fx)) :: tl) := hD
  refine lv_iload_n hx hb dR_assignmentSign_53 rfl (lv_at hl 2 rfl) ?_
  have e_s : sh_signA tx p0 = (sh_at tx (sh_skip tx p0), sh_skip tx p0 + 1) := by grind [sh_signA]
  refine W.widen (k := 0) (n := 0) (Nat.le_refl _) (Nat.le_refl _) ?_
  exact W.iret (v := sh_at tx (sh_skip tx p0)) hx hb hr (fun t ht _ => ⟨_, _, rfl, ⟨by rw [e_s], by rw [e_s]⟩, by rw [ht]; exact hP, hD, hS.F ht⟩) hS.2.2 dR_assignmentSign_54
set_option maxHeartbeats 4000000 in
set_option maxRecDepth 100000 in
/-- expect(c) -/
theorem k_R_expect (l : Launch) (hl9 : l.stackTraces = false) (dC : Nat → ClassId) (dI : Nat → Nat → Nat) (kC kI kJ kQ : ClassId) (a0 aR aN aS aF : Nat) (wt un : Int32) (rs : Int64) (fx : Nat → Int32) (tx : List Int32) (tl : va_W) (hx3 : tx.length ≤ 300) (hB : sh_B tx) (hfx : ∀ j, j < tx.length → fx j = sh_at tx j) (sz : Nat) (p0 : Nat) (hp0 : p0 ≤ tx.length) (k0 : Int32) : vx_Met l yR_expect wsR_expect ({ frames := 6, cells := zk (if sh_at tx (sh_skip tx p0) = k0 then some () else none), slots := 6 * zk (if sh_at tx (sh_skip tx p0) = k0 then some () else none), locals := 82 }) (va_Pc [.ref a0, .int k0] (zV dC dI ([(kC, .char), (kI, .int), (kJ, .long), (kQ, .object "ShellSum$Named")]) ((a0, .inr (2, [.ref aR, .ref aN, .ref aS, .ref aF, .int wt, .int (nI tx.length), .int (nI p0), .int un, .long rs])) :: (aR, .inl (kC, 300, .inl fx)) :: tl) sz)) (zQ dC dI (va_A ((a0, .inr (2, [.ref aR, .ref aN, .ref aS, .ref aF, .int wt, .int (nI tx.length), .int (nI p0), .int un, .long rs])) :: (aR, .inl (kC, 300, .inl fx)) :: tl) sz) (fun v w => sh_at tx (sh_skip tx p0) = k0 ∧ v = none ∧ w = ((a0, .inr (2, [.ref aR, .ref aN, .ref aS, .ref aF, .int wt, .int (nI tx.length), .int (nI (sh_skip tx p0 + 1)), .int un, .long rs])) :: (aR, .inl (kC, 300, .inl fx)) :: tl))) (zX dC dI (va_A ((a0, .inr (2, [.ref aR, .ref aN, .ref aS, .ref aF, .int wt, .int (nI tx.length), .int (nI p0), .int un, .long rs])) :: (aR, .inl (kC, 300, .inl fx)) :: tl) sz) (fun w => ¬ sh_at tx (sh_skip tx p0) = k0 ∧ w = ((a0, .inr (2, [.ref aR, .ref aN, .ref aS, .ref aF, .int wt, .int (nI tx.length), .int (nI (sh_skip tx p0)), .int un, .long rs])) :: (aR, .inl (kC, 300, .inl fx)) :: tl))) (zk (if sh_at tx (sh_skip tx p0) = k0 then some () else none)) (6 * zk (if sh_at tx (sh_skip tx p0) = k0 then some () else none)) (va_A ((a0, .inr (2, [.ref aR, .ref aN, .ref aS, .ref aF, .int wt, .int (nI tx.length), .int (nI p0), .int un, .long rs])) :: (aR, .inl (kC, 300, .inl fx)) :: tl) sz) := by
  refine vx_ofW (cc := cR_expect) (maxL := 2) (ret := none) (by decide) rfl ?_
  intro p e s m args below meth c s₁ B hml hEx hv
  obtain ⟨rfl, ⟨hsz, hP, hK, hD0, hN⟩, hT, hU⟩ := hv
  subst hsz
  have hD := hD0.self (sz := s.heap.size)
  generalize hAe : va_A ((a0, .inr (2, [.ref aR, .ref aN, .ref aS, .ref aF, .int wt, .int (nI tx.length), .int (nI p0), .int un, .long rs])) :: (aR, .inl (kC, 300, .inl fx)) :: tl) s.heap.size = A at hD hU ⊢
  have hA : ∀ q : Nat, s.heap.size ≤ q → A q := fun q h => by rw [← hAe]; exact Or.inr h
  have hS : va_S A s.heap s.heap [] := va_S.rf
  have hx := B.exec
  have hb := B.bytes
  have hr := B.returns
  have htz : ∀ w ∈ zw, w.before _ s = true := fun w h => atoms_spec (ws := wsR_expect) B.pre w (List.mem_cons_of_mem _ h)
  have hown : s.vm.findClass "ShellSum$Reckoner" = some m.cls := findClass_of_methodNamed B.named
  have hlocks := B.notSynchronized
  have hl := lv_entry ([.ref a0, .int k0]) (n := 2) (Nat.le_of_ble_eq_true rfl)
  rw [lg_entry_eq]
  generalize (lg_sl ([.ref a0, .int k0]) ++ List.replicate (2 - (lg_sl ([.ref a0, .int k0])).length) Slot.unset).toArray = ls at hl ⊢
  have hq : sh_skip tx p0 ≤ tx.length := sh_skip_le hp0
  have hl : lv_has ls 2 [(0, .ref a0), (1, .int k0)] := hl
  refine lv_aload_n hx hb dR_expect_0 rfl (lv_at hl 0 rfl) ?_
  refine zQ_call (va_runV (As := []) (rest := []) ⟨hx, hb, hml, hown, htz⟩ (k_R_skipBlanks l dC dI kC kI kJ kQ a0 aR aN aS aF wt un rs fx tx tl hx3 hB hfx _ p0 hp0) (cwV 0 htz (zg_V zw_1_202 zw_1_204 zs_R_skipBlanks zw_1_2 zw_1_205) rfl rfl rfl (by decide +kernel) ⟨Nat.le_of_ble_eq_true rfl, Nat.le_of_ble_eq_true rfl⟩) (zW_V hP hK hD hN (va_recv hK hP (ci := 2) (q0 := 0) rfl rfl)) rfl rfl hl.1 rfl (lv_room (Nat.le_of_ble_eq_true rfl)) dR_expect_1 ⟨Nat.zero_le _, Nat.zero_le _⟩) hD hS hA (fun v w H locs hp hP hD hS => ?_)
  obtain ⟨rfl, hw⟩ := hp
  rw [hw] at hP hD
  have hP : va_P (dC, dI) vwCl ((a0, .inr (2, [.ref aR, .ref aN, .ref aS, .ref aF, .int wt, .int (nI tx.length), .int (nI (sh_skip tx p0)), .int un, .long rs])) :: (aR, .inl (kC, 300, .inl fx)) :: tl) H := hP
  have hD : va_D A ((a0, .inr (2, [.ref aR, .ref aN, .ref aS, .ref aF, .int wt, .int (nI tx.length), .int (nI (sh_skip tx p0)), .int un, .long rs])) :: (aR, .inl (kC, 300, .inl fx)) :: tl) := hD
  refine W.eq (g2 := F0 m 4 ls []) rfl ?_
  refine lv_aload_n hx hb dR_expect_4 rfl (lv_at hl 0 rfl) ?_
  refine lv_aload_n hx hb dR_expect_5 rfl (lv_at hl 0 rfl) ?_
  refine va_get (D := (dC, dI)) (ci := 2) (v := .int (nI (sh_skip tx p0))) (C := "ShellSum$Reckoner") (T := TR) (N := 9) hx hb htz zu_R hown hK hP 0 rfl rfl 6 (by decide) (htz _ zw_1_51) (fun _ h9 => h9) rfl dR_expect_6 ?_
  refine rq_call (va_runV (As := [.int (nI (sh_skip tx p0))]) (rest := []) ⟨hx, hb, hml, hown, htz⟩ (k_R_charAt l dC dI kC kI kJ kQ a0 aR aN aS aF wt un rs fx tx tl hx3 hB hfx (nI (sh_skip tx p0)) (sh_skip tx p0) (by omega)) (cwV 1 htz (zg_V zw_1_206 zw_1_208 zs_R_charAt zw_1_2 zw_1_209) rfl rfl rfl (by decide +kernel) ⟨Nat.le_of_ble_eq_true rfl, Nat.le_of_ble_eq_true rfl⟩) (zR_V hP hK hN (va_recv hK hP (ci := 2) (q0 := 0) rfl rfl)) rfl rfl hl.1 rfl (lv_room (Nat.le_of_ble_eq_true rfl)) dR_expect_9 ⟨Nat.zero_le _, Nat.zero_le _⟩) ?_
  refine W.eq (g2 := F0 m 12 ls [.int (sh_at tx (sh_skip tx p0))]) rfl ?_
  refine lv_iload_n hx hb dR_expect_12 rfl (lv_at hl 1 rfl) ?_
  refine lv_icmp_eq (tgt := 26) hx hb dR_expect_13 (by decide) (fun c_1 => ?_) (fun c_1 => ?_)
  · skip
    refine lv_aload_n hx hb dR_expect_26 rfl (lv_at hl 0 rfl) ?_
    refine lv_dup hx hb dR_expect_27 rfl ?_
    refine va_get (D := (dC, dI)) (ci := 2) (v := .int (nI (sh_skip tx p0))) (C := "ShellSum$Reckoner") (T := TR) (N := 9) hx hb htz zu_R hown hK hP 0 rfl rfl 6 (by decide) (htz _ zw_1_51) (fun _ h9 => h9) rfl dR_expect_28 ?_
    refine lv_iconst (v := 1) hx hb dR_expect_31 (by decide) ?_
    refine lv_iadd hx hb dR_expect_32 ?_
    refine xw_topi (y := nI (sh_skip tx p0 + 1)) (nI_add (sh_skip tx p0) 1) ?_
    refine va_put (D := (dC, dI)) (ci := 2) (v := .int (nI (sh_skip tx p0 + 1))) (ty := .int) (C := "ShellSum$Reckoner") (T := TR) (N := 9) hx hb htz zu_R tyR tyR_ok nmR hown hK hP hD hS 0 rfl rfl 6 (by decide) (htz _ zw_1_51) (fun _ h9 => h9) rfl (by decide +kernel) rfl rfl (Nat.le_of_ble_eq_true rfl) dR_expect_33 (fun H locs hP hD hS => ?_)
    have hP : va_P (dC, dI) vwCl ((a0, .inr (2, [.ref aR, .ref aN, .ref aS, .ref aF, .int wt, .int (nI tx.length), .int (nI (sh_skip tx p0 + 1)), .int un, .long rs])) :: (aR, .inl (kC, 300, .inl fx)) :: tl) H := hP
    have hD : va_D A ((a0, .inr (2, [.ref aR, .ref aN, .ref aS, .ref aF, .int wt, .int (nI tx.length), .int (nI (sh_skip tx p0 + 1)), .int un, .long rs])) :: (aR, .inl (kC, 300, .inl fx)) :: tl) := hD
    refine W.widen (k := zk (if sh_at tx (sh_skip tx p0) = k0 then some () else none)) (n := 6 * zk (if sh_at tx (sh_skip tx p0) = k0 then some () else none)) (Nat.zero_le _) (Nat.zero_le _) ?_
    exact vx_ret (W.vret hx hb hr (fun t ht _ => ⟨_, _, rfl, ⟨c_1, rfl, rfl⟩, by rw [ht]; exact hP, hD, hS.F ht⟩) hS.2.2 dR_expect_36)
  have e_k : zk (if sh_at tx (sh_skip tx p0) = k0 then some () else none) = 1 := by rw [if_neg c_1]; rfl
  exact zThrow (own := "ShellSum$Reckoner") (text := "a bracket or a choice has no end") (ik := 54) (is := 166) (ic := 116) hx hb hl9 hown (htz _ zw_1_201) (htz _ zw_1_9) (hT _ _ _ zstr_R_166) (zx_R htz hN) zx_oR hU (hl.1.trans hml.symm) dR_expect_16 dR_expect_19 dR_expect_20 dR_expect_22 dR_expect_25 hEx hlocks (Nat.le_of_ble_eq_true rfl) (Nat.le_of_ble_eq_true rfl) (by show 0 + 0 + 1 ≤ zk (if sh_at tx (sh_skip tx p0) = k0 then some () else none); omega) (by show 0 + 0 + 6 ≤ 6 * zk (if sh_at tx (sh_skip tx p0) = k0 then some () else none); omega) (⟨c_1, rfl⟩) hP hD hS (by omega) (by omega)
