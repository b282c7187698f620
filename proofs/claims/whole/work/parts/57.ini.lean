set_option maxHeartbeats 4000000 in
set_option maxRecDepth 100000 in
/-- Names() -/
theorem k_S_init (l : Launch) (dC : Nat → ClassId) (dI : Nat → Nat → Nat) (kC kI kJ kQ : ClassId) (ws : va_W) (sz : Nat) (aN : Nat) : Met l yS_init wsS_init ({ frames := 1, cells := 1, slots := 64, locals := 30 }) (va_Pc [.ref aN] (zWo dC dI ([(kC, .char), (kI, .int), (kJ, .long), (kQ, .object "ShellSum$Named")]) (ws ++ [(aN, .inr (1, [.null, .int 0]))]) sz)) (zQ dC dI (va_A (ws ++ [(aN, .inr (1, [.null, .int 0]))]) sz) (fun v w => v = none ∧ ∃ aK : Nat, w = ws ++ [(aN, .inr (1, [.ref aK, .int 0])), (aK, .inl (kQ, 64, .inr (.inr (.inr (.inr (fun _ => none))))))])) 1 64 (va_A (ws ++ [(aN, .inr (1, [.null, .int 0]))]) sz) := by
  refine Met.ofW (cc := cS_init) (maxL := 1) (ret := none) (by decide) rfl ?_
  intro p e s m args below meth c s₁ B hml hv
  obtain ⟨rfl, ⟨hsz, hP, hK, hD0, hN⟩, hAO⟩ := hv
  subst hsz
  have hD := hD0.self (sz := s.heap.size)
  generalize hAe : va_A (ws ++ [(aN, .inr (1, [.null, .int 0]))]) s.heap.size = A at hD ⊢
  have hA : ∀ q : Nat, s.heap.size ≤ q → A q := fun q h => by rw [← hAe]; exact Or.inr h
  have hS : va_S A s.heap s.heap [] := va_S.rf
  have hx := B.exec
  have hb := B.bytes
  have hr := B.returns
  have htz : ∀ w ∈ zw, w.before _ s = true := fun w h => atoms_spec (ws := wsS_init) B.pre w (List.mem_cons_of_mem _ h)
  have hown : s.vm.findClass "ShellSum$Names" = some m.cls := findClass_of_methodNamed B.named
  have hlocks := B.notSynchronized
  have hl := lv_entry ([.ref aN]) (n := 1) (Nat.le_of_ble_eq_true rfl)
  rw [lg_entry_eq]
  generalize (lg_sl ([.ref aN]) ++ List.replicate (1 - (lg_sl ([.ref aN])).length) Slot.unset).toArray = ls at hl ⊢
  have hin : meth.name = "<init>" := (name_of_methodNamed B.named B.method).1
  have hl : lv_has ls 1 [(0, .ref aN)] := hl
  refine lv_aload_n hx hb dS_init_0 rfl (lv_at hl 0 rfl) ?_
  refine W.objInit hx hb hown (htz _ zw_1_31) (htz _ zw_1_18) (htz _ zw_1_19) rfl (by rw [hml]; exact hl.1) rfl dS_init_1 (Nat.le_of_ble_eq_true rfl) (Nat.le_of_ble_eq_true rfl) ?_
  refine W.eq (g2 := F0 m 4 ls []) rfl ?_
  refine lv_aload_n hx hb dS_init_4 rfl (lv_at hl 0 rfl) ?_
  refine lv_bipush (v := 64) hx hb dS_init_5 (by decide) ?_
  refine va_newq (C := "ShellSum$Named") (N' := 64) hx hb hown (htz _ zw_1_32) hAO hK hP hD hS hA (by decide) rfl (by decide) (by show 0 + 1 ≤ 1; decide) (by show 0 + 64 ≤ 64; decide) dS_init_7 (fun aK cA H hK hP hD hS => ?_)
  have e9 : cA = kQ := va_RAq (hK.2 4 _ rfl).2 (hK.2 3 _ rfl).2
  rw [e9] at hK hP hD
  have hK := hK.sub (tys' := [(kC, .char), (kI, .int), (kJ, .long), (kQ, .object "ShellSum$Named")]) [0, 1, 2, 3] rfl
  rw [List.append_assoc] at hP hD
  have hP : va_P (dC, dI) vwCl (ws ++ [(aN, .inr (1, [.null, .int 0])), (aK, .inl (kQ, 64, .inr (.inr (.inr (.inr (fun _ => none))))))]) H := hP
  have hD : va_D A (ws ++ [(aN, .inr (1, [.null, .int 0])), (aK, .inl (kQ, 64, .inr (.inr (.inr (.inr (fun _ => none))))))]) := hD
  refine va_putF (D := (dC, dI)) (ci := 1) (v := .ref aK) (ty := .array (.object "ShellSum$Named")) (C := "ShellSum$Names") (T := TS) (N := 2) hx hb htz zu_S tyS tyS_ok nmS hown hK hP hD hS (ws.length + 0) ((xa_get _ _ 0).trans rfl) rfl 0 (by decide) (htz _ zw_1_34) (fun _ h9 => h9) rfl hin rfl (by decide +kernel) rfl rfl (Nat.le_of_ble_eq_true rfl) dS_init_10 (fun H locs hP hD hS => ?_)
  rw [xa_set] at hP hD
  have hP : va_P (dC, dI) vwCl (ws ++ [(aN, .inr (1, [.ref aK, .int 0])), (aK, .inl (kQ, 64, .inr (.inr (.inr (.inr (fun _ => none))))))]) H := hP
  have hD : va_D A (ws ++ [(aN, .inr (1, [.ref aK, .int 0])), (aK, .inl (kQ, 64, .inr (.inr (.inr (.inr (fun _ => none))))))]) := hD
  refine lv_aload_n hx hb dS_init_13 rfl (lv_at hl 0 rfl) ?_
  refine lv_iconst (v := 0) hx hb dS_init_14 (by decide) ?_
  refine va_put (D := (dC, dI)) (ci := 1) (v := .int 0) (ty := .int) (C := "ShellSum$Names") (T := TS) (N := 2) hx hb htz zu_S tyS tyS_ok nmS hown hK hP hD hS (ws.length + 0) ((xa_get _ _ 0).trans rfl) rfl 1 (by decide) (htz _ zw_1_35) (fun _ h9 => h9) rfl (by decide +kernel) rfl rfl (Nat.le_of_ble_eq_true rfl) dS_init_15 (fun H locs hP hD hS => ?_)
  rw [xa_set] at hP hD
  have hP : va_P (dC, dI) vwCl (ws ++ [(aN, .inr (1, [.ref aK, .int 0])), (aK, .inl (kQ, 64, .inr (.inr (.inr (.inr (fun _ => none))))))]) H := hP
  have hD : va_D A (ws ++ [(aN, .inr (1, [.ref aK, .int 0])), (aK, .inl (kQ, 64, .inr (.inr (.inr (.inr (fun _ => none))))))]) := hD
  refine W.widen (k := 1) (n := 64) (Nat.le_refl _) (Nat.le_refl _) ?_
  exact W.vret hx hb hr (fun t ht _ => ⟨_, _, rfl, ⟨rfl, aK, rfl⟩, by rw [ht]; exact hP, hD, hS.F ht⟩) hS.2.2 dS_init_18
set_option maxHeartbeats 4000000 in
set_option maxRecDepth 100000 in
/-- Reckoner() -/
theorem k_R_init (l : Launch) (dC : Nat → ClassId) (dI : Nat → Nat → Nat) (kC kI kJ kQ : ClassId) (ws : va_W) (sz : Nat) (a0 : Nat) : Met l yR_init wsR_init ({ frames := 2, cells := 5, slots := 666, locals := 60 }) (va_Pc [.ref a0] (zWo dC dI ([(kC, .char), (kI, .int), (kJ, .long), (kQ, .object "ShellSum$Named")]) (ws ++ [(a0, .inr (2, [.null, .null, .null, .null, .int 0, .int 0, .int 0, .int 0, .long 0]))]) sz)) (zQ dC dI (va_A (ws ++ [(a0, .inr (2, [.null, .null, .null, .null, .int 0, .int 0, .int 0, .int 0, .long 0]))]) sz) (fun v w => v = none ∧ ∃ (aR aN aK aS aF : Nat), w = ws ++ [(a0, .inr (2, [.ref aR, .ref aN, .ref aS, .ref aF, .int 0, .int 0, .int 0, .int 0, .long 0])), (aR, .inl (kC, 300, .inl (fun _ => 0))), (aN, .inr (1, [.ref aK, .int 0])), (aK, .inl (kQ, 64, .inr (.inr (.inr (.inr (fun _ => none)))))), (aS, .inl (kI, 150, .inl (fun _ => 0))), (aF, .inl (kJ, 150, .inr (.inl (fun _ => 0))))])) 5 666 (va_A (ws ++ [(a0, .inr (2, [.null, .null, .null, .null, .int 0, .int 0, .int 0, .int 0, .long 0]))]) sz) := by
  refine Met.ofW (cc := cR_init) (maxL := 1) (ret := none) (by decide) rfl ?_
  intro p e s m args below meth c s₁ B hml hv
  obtain ⟨rfl, ⟨hsz, hP, hK, hD0, hN⟩, hAO⟩ := hv
  subst hsz
  have hD := hD0.self (sz := s.heap.size)
  generalize hAe : va_A (ws ++ [(a0, .inr (2, [.null, .null, .null, .null, .int 0, .int 0, .int 0, .int 0, .long 0]))]) s.heap.size = A at hD ⊢
  have hA : ∀ q : Nat, s.heap.size ≤ q → A q := fun q h => by rw [← hAe]; exact Or.inr h
  have hS : va_S A s.heap s.heap [] := va_S.rf
  have hx := B.exec
  have hb := B.bytes
  have hr := B.returns
  have htz : ∀ w ∈ zw, w.before _ s = true := fun w h => atoms_spec (ws := wsR_init) B.pre w (List.mem_cons_of_mem _ h)
  have hown : s.vm.findClass "ShellSum$Reckoner" = some m.cls := findClass_of_methodNamed B.named
  have hlocks := B.notSynchronized
  have hl := lv_entry ([.ref a0]) (n := 1) (Nat.le_of_ble_eq_true rfl)
  rw [lg_entry_eq]
  generalize (lg_sl ([.ref a0]) ++ List.replicate (1 - (lg_sl ([.ref a0])).length) Slot.unset).toArray = ls at hl ⊢
  have hin : meth.name = "<init>" := (name_of_methodNamed B.named B.method).1
  have hl : lv_has ls 1 [(0, .ref a0)] := hl
  refine lv_aload_n hx hb dR_init_0 rfl (lv_at hl 0 rfl) ?_
  refine W.objInit hx hb hown (htz _ zw_1_25) (htz _ zw_1_18) (htz _ zw_1_19) rfl (by rw [hml]; exact hl.1) rfl dR_init_1 (Nat.le_of_ble_eq_true rfl) (Nat.le_of_ble_eq_true rfl) ?_
  refine W.eq (g2 := F0 m 4 ls []) rfl ?_
  refine lv_aload_n hx hb dR_init_4 rfl (lv_at hl 0 rfl) ?_
  refine lv_sipush (v := 300) hx hb dR_init_5 (by decide) ?_
  refine va_newa (atype := .char) (N' := 300) (a0 := (300, .inl (fun _ => 0))) (ty := .char) (n := 300) hx hb (htz _ zw_1_42) rfl hK hP hD hS hA (fun _ => rfl) (by decide) (rfl) (by show 300 * 2 ≤ 536870912; omega) (by show 0 + 1 ≤ 5; decide) (by show 0 + 300 ≤ 666; decide) dR_init_8 (fun aR cA H hK hP hD hS => ?_)
  have e9 : cA = kC := Option.some.inj ((va_nm_char (hK.2 4 _ rfl).2).symm.trans (va_nm_char (hK.2 0 _ rfl).2))
  rw [e9] at hK hP hD
  have hK := hK.sub (tys' := [(kC, .char), (kI, .int), (kJ, .long), (kQ, .object "ShellSum$Named")]) [0, 1, 2, 3] rfl
  rw [List.append_assoc] at hP hD
  have hP : va_P (dC, dI) vwCl (ws ++ [(a0, .inr (2, [.null, .null, .null, .null, .int 0, .int 0, .int 0, .int 0, .long 0])), (aR, .inl (kC, 300, .inl (fun _ => 0)))]) H := hP
  have hD : va_D A (ws ++ [(a0, .inr (2, [.null, .null, .null, .null, .int 0, .int 0, .int 0, .int 0, .long 0])), (aR, .inl (kC, 300, .inl (fun _ => 0)))]) := hD
  refine va_putF (D := (dC, dI)) (ci := 2) (v := .ref aR) (ty := .array .char) (C := "ShellSum$Reckoner") (T := TR) (N := 9) hx hb htz zu_R tyR tyR_ok nmR hown hK hP hD hS (ws.length + 0) ((xa_get _ _ 0).trans rfl) rfl 0 (by decide) (htz _ zw_1_43) (fun _ h9 => h9) rfl hin rfl (by decide +kernel) rfl rfl (Nat.le_of_ble_eq_true rfl) dR_init_10 (fun H locs hP hD hS => ?_)
  rw [xa_set] at hP hD
  have hP : va_P (dC, dI) vwCl (ws ++ [(a0, .inr (2, [.ref aR, .null, .null, .null, .int 0, .int 0, .int 0, .int 0, .long 0])), (aR, .inl (kC, 300, .inl (fun _ => 0)))]) H := hP
  have hD : va_D A (ws ++ [(a0, .inr (2, [.ref aR, .null, .null, .null, .int 0, .int 0, .int 0, .int 0, .long 0])), (aR, .inl (kC, 300, .inl (fun _ => 0)))]) := hD
  refine lv_aload_n hx hb dR_init_13 rfl (lv_at hl 0 rfl) ?_
  refine va_new (ci := 1) (fs := [.null, .int 0]) (C := "ShellSum$Names") (T := TS) (N := 2) hx hb htz zu_S tyS tyS_ok hown (htz _ zw_1_26) (htz _ zw_1_27) (htz _ zw_1_3) hK hP hD hS hA rfl (fun j hj => by rcases (show j = 0 ∨ j = 1 by omega) with rfl | rfl <;> rfl) (by show 0 + 1 + 1 ≤ 5; decide) (by show 0 + 300 + 2 ≤ 666; decide) dR_init_14 (fun aN H hP hD hS => ?_)
  refine lv_dup hx hb dR_init_17 rfl ?_
  refine zQ_call (va_runIN (As := []) (rest := [.ref aN, .ref a0]) ⟨hx, hb, hml, hown, htz⟩ (k_S_init l dC dI kC kI kJ kQ (ws ++ [(a0, .inr (2, [.ref aR, .null, .null, .null, .int 0, .int 0, .int 0, .int 0, .long 0])), (aR, .inl (kC, 300, .inl (fun _ => 0)))]) _ aN) ⟨va_cnB 0 htz (zg_c zw_1_30) rfl rfl rfl (hN _ zn_1_28) (htz _ zw_1_3) (by decide +kernel) ⟨Nat.le_of_ble_eq_true rfl, Nat.le_of_ble_eq_true rfl⟩, rfl, htz _ zw_1_29⟩ (zWo_S hP hK hD hN hAO) rfl rfl hl.1 rfl (lv_room (Nat.le_of_ble_eq_true rfl)) dR_init_18 ⟨by show 0 + 1 + 1 + 1 ≤ 5; decide, by show 0 + 300 + 2 + 64 ≤ 666; decide⟩) hD hS hA (fun v w H locs hp hP hD hS => ?_)
  obtain ⟨rfl, aK, hw⟩ := hp
  rw [hw] at hP hD
  rw [List.append_assoc] at hP hD
  have hP : va_P (dC, dI) vwCl (ws ++ [(a0, .inr (2, [.ref aR, .null, .null, .null, .int 0, .int 0, .int 0, .int 0, .long 0])), (aR, .inl (kC, 300, .inl (fun _ => 0))), (aN, .inr (1, [.ref aK, .int 0])), (aK, .inl (kQ, 64, .inr (.inr (.inr (.inr (fun _ => none))))))]) H := hP
  have hD : va_D A (ws ++ [(a0, .inr (2, [.ref aR, .null, .null, .null, .int 0, .int 0, .int 0, .int 0, .long 0])), (aR, .inl (kC, 300, .inl (fun _ => 0))), (aN, .inr (1, [.ref aK, .int 0])), (aK, .inl (kQ, 64, .inr (.inr (.inr (.inr (fun _ => none))))))]) := hD
  refine W.eq (g2 := F0 m 21 ls [.ref aN, .ref a0]) rfl ?_
  refine va_putF (D := (dC, dI)) (ci := 2) (v := .ref aN) (ty := .object "ShellSum$Names") (C := "ShellSum$Reckoner") (T := TR) (N := 9) hx hb htz zu_R tyR tyR_ok nmR hown hK hP hD hS (ws.length + 0) ((xa_get _ _ 0).trans rfl) rfl 1 (by decide) (htz _ zw_1_45) (fun _ h9 => h9) rfl hin rfl (by decide +kernel) rfl rfl (Nat.le_of_ble_eq_true rfl) dR_init_21 (fun H locs hP hD hS => ?_)
  rw [xa_set] at hP hD
  have hP : va_P (dC, dI) vwCl (ws ++ [(a0, .inr (2, [.ref aR, .ref aN, .null, .null, .int 0, .int 0, .int 0, .int 0, .long 0])), (aR, .inl (kC, 300, .inl (fun _ => 0))), (aN, .inr (1, [.ref aK, .int 0])), (aK, .inl (kQ, 64, .inr (.inr (.inr (.inr (fun _ => none))))))]) H := hP
  have hD : va_D A (ws ++ [(a0, .inr (2, [.ref aR, .ref aN, .null, .null, .int 0, .int 0, .int 0, .int 0, .long 0])), (aR, .inl (kC, 300, .inl (fun _ => 0))), (aN, .inr (1, [.ref aK, .int 0])), (aK, .inl (kQ, 64, .inr (.inr (.inr (.inr (fun _ => none))))))]) := hD
  refine lv_aload_n hx hb dR_init_24 rfl (lv_at hl 0 rfl) ?_
  refine lv_sipush (v := 150) hx hb dR_init_25 (by decide) ?_
  refine va_newa (atype := .int) (N' := 150) (a0 := (150, .inl (fun _ => 0))) (ty := .int) (n := 150) hx hb (htz _ zw_1_74) rfl hK hP hD hS hA (fun _ => rfl) (by decide) (rfl) (by show 150 * 4 ≤ 536870912; omega) (by show 0 + 1 + 1 + 1 + 1 ≤ 5; decide) (by show 0 + 300 + 2 + 64 + 150 ≤ 666; decide) dR_init_28 (fun aS cA H hK hP hD hS => ?_)
  have e9 : cA = kI := Option.some.inj ((va_nm_int (hK.2 4 _ rfl).2).symm.trans (va_nm_int (hK.2 1 _ rfl).2))
  rw [e9] at hK hP hD
  have hK := hK.sub (tys' := [(kC, .char), (kI, .int), (kJ, .long), (kQ, .object "ShellSum$Named")]) [0, 1, 2, 3] rfl
  rw [List.append_assoc] at hP hD
  have hP : va_P (dC, dI) vwCl (ws ++ [(a0, .inr (2, [.ref aR, .ref aN, .null, .null, .int 0, .int 0, .int 0, .int 0, .long 0])), (aR, .inl (kC, 300, .inl (fun _ => 0))), (aN, .inr (1, [.ref aK, .int 0])), (aK, .inl (kQ, 64, .inr (.inr (.inr (.inr (fun _ => none)))))), (aS, .inl (kI, 150, .inl (fun _ => 0)))]) H := hP
  have hD : va_D A (ws ++ [(a0, .inr (2, [.ref aR, .ref aN, .null, .null, .int 0, .int 0, .int 0, .int 0, .long 0])), (aR, .inl (kC, 300, .inl (fun _ => 0))), (aN, .inr (1, [.ref aK, .int 0])), (aK, .inl (kQ, 64, .inr (.inr (.inr (.inr (fun _ => none)))))), (aS, .inl (kI, 150, .inl (fun _ => 0)))]) := hD
  refine va_putF (D := (dC, dI)) (ci := 2) (v := .ref aS) (ty := .array .int) (C := "ShellSum$Reckoner") (T := TR) (N := 9) hx hb htz zu_R tyR tyR_ok nmR hown hK hP hD hS (ws.length + 0) ((xa_get _ _ 0).trans rfl) rfl 2 (by decide) (htz _ zw_1_47) (fun _ h9 => h9) rfl hin rfl (by decide +kernel) rfl rfl (Nat.le_of_ble_eq_true rfl) dR_init_30 (fun H locs hP hD hS => ?_)
  rw [xa_set] at hP hD
  have hP : va_P (dC, dI) vwCl (ws ++ [(a0, .inr (2, [.ref aR, .ref aN, .ref aS, .null, .int 0, .int 0, .int 0, .int 0, .long 0])), (aR, .inl (kC, 300, .inl (fun _ => 0))), (aN, .inr (1, [.ref aK, .int 0])), (aK, .inl (kQ, 64, .inr (.inr (.inr (.inr (fun _ => none)))))), (aS, .inl (kI, 150, .inl (fun _ => 0)))]) H := hP
  have hD : va_D A (ws ++ [(a0, .inr (2, [.ref aR, .ref aN, .ref aS, .null, .int 0, .int 0, .int 0, .int 0, .long 0])), (aR, .inl (kC, 300, .inl (fun _ => 0))), (aN, .inr (1, [.ref aK, .int 0])), (aK, .inl (kQ, 64, .inr (.inr (.inr (.inr (fun _ => none)))))), (aS, .inl (kI, 150, .inl (fun _ => 0)))]) := hD
  refine lv_aload_n hx hb dR_init_33 rfl (lv_at hl 0 rfl) ?_
  refine lv_sipush (v := 150) hx hb dR_init_34 (by decide) ?_
  refine va_newa (atype := .long) (N' := 150) (a0 := (150, .inr (.inl (fun _ => 0)))) (ty := .long) (n := 150) hx hb (htz _ zw_1_75) rfl hK hP hD hS hA (fun _ => rfl) (by decide) (rfl) (by show 150 * 8 ≤ 536870912; omega) (by show 0 + 1 + 1 + 1 + 1 + 1 ≤ 5; decide) (by show 0 + 300 + 2 + 64 + 150 + 150 ≤ 666; decide) dR_init_37 (fun aF cA H hK hP hD hS => ?_)
  have e9 : cA = kJ := Option.some.inj ((va_nm_long (hK.2 4 _ rfl).2).symm.trans (va_nm_long (hK.2 2 _ rfl).2))
  rw [e9] at hK hP hD
  have hK := hK.sub (tys' := [(kC, .char), (kI, .int), (kJ, .long), (kQ, .object "ShellSum$Named")]) [0, 1, 2, 3] rfl
  rw [List.append_assoc] at hP hD
  have hP : va_P (dC, dI) vwCl (ws ++ [(a0, .inr (2, [.ref aR, .ref aN, .ref aS, .null, .int 0, .int 0, .int 0, .int 0, .long 0])), (aR, .inl (kC, 300, .inl (fun _ => 0))), (aN, .inr (1, [.ref aK, .int 0])), (aK, .inl (kQ, 64, .inr (.inr (.inr (.inr (fun _ => none)))))), (aS, .inl (kI, 150, .inl (fun _ => 0))), (aF, .inl (kJ, 150, .inr (.inl (fun _ => 0))))]) H := hP
  have hD : va_D A (ws ++ [(a0, .inr (2, [.ref aR, .ref aN, .ref aS, .null, .int 0, .int 0, .int 0, .int 0, .long 0])), (aR, .inl (kC, 300, .inl (fun _ => 0))), (aN, .inr (1, [.ref aK, .int 0])), (aK, .inl (kQ, 64, .inr (.inr (.inr (.inr (fun _ => none)))))), (aS, .inl (kI, 150, .inl (fun _ => 0))), (aF, .inl (kJ, 150, .inr (.inl (fun _ => 0))))]) := hD
  refine va_putF (D := (dC, dI)) (ci := 2) (v := .ref aF) (ty := .array .long) (C := "ShellSum$Reckoner") (T := TR) (N := 9) hx hb htz zu_R tyR tyR_ok nmR hown hK hP hD hS (ws.length + 0) ((xa_get _ _ 0).trans rfl) rfl 3 (by decide) (htz _ zw_1_48) (fun _ h9 => h9) rfl hin rfl (by decide +kernel) rfl rfl (Nat.le_of_ble_eq_true rfl) dR_init_39 (fun H locs hP hD hS => ?_)
  rw [xa_set] at hP hD
  have hP : va_P (dC, dI) vwCl (ws ++ [(a0, .inr (2, [.ref aR, .ref aN, .ref aS, .ref aF, .int 0, .int 0, .int 0, .int 0, .long 0])), (aR, .inl (kC, 300, .inl (fun _ => 0))), (aN, .inr (1, [.ref aK, .int 0])), (aK, .inl (kQ, 64, .inr (.inr (.inr (.inr (fun _ => none)))))), (aS, .inl (kI, 150, .inl (fun _ => 0))), (aF, .inl (kJ, 150, .inr (.inl (fun _ => 0))))]) H := hP
  have hD : va_D A (ws ++ [(a0, .inr (2, [.ref aR, .ref aN, .ref aS, .ref aF, .int 0, .int 0, .int 0, .int 0, .long 0])), (aR, .inl (kC, 300, .inl (fun _ => 0))), (aN, .inr (1, [.ref aK, .int 0])), (aK, .inl (kQ, 64, .inr (.inr (.inr (.inr (fun _ => none)))))), (aS, .inl (kI, 150, .inl (fun _ => 0))), (aF, .inl (kJ, 150, .inr (.inl (fun _ => 0))))]) := hD
  refine lv_aload_n hx hb dR_init_42 rfl (lv_at hl 0 rfl) ?_
  refine lv_iconst (v := 0) hx hb dR_init_43 (by decide) ?_
  refine va_put (D := (dC, dI)) (ci := 2) (v := .int 0) (ty := .int) (C := "ShellSum$Reckoner") (T := TR) (N := 9) hx hb htz zu_R tyR tyR_ok nmR hown hK hP hD hS (ws.length + 0) ((xa_get _ _ 0).trans rfl) rfl 4 (by decide) (htz _ zw_1_49) (fun _ h9 => h9) rfl (by decide +kernel) rfl rfl (Nat.le_of_ble_eq_true rfl) dR_init_44 (fun H locs hP hD hS => ?_)
  rw [xa_set] at hP hD
  have hP : va_P (dC, dI) vwCl (ws ++ [(a0, .inr (2, [.ref aR, .ref aN, .ref aS, .ref aF, .int 0, .int 0, .int 0, .int 0, .long 0])), (aR, .inl (kC, 300, .inl (fun _ => 0))), (aN, .inr (1, [.ref aK, .int 0])), (aK, .inl (kQ, 64, .inr (.inr (.inr (.inr (fun _ => none)))))), (aS, .inl (kI, 150, .inl (fun _ => 0))), (aF, .inl (kJ, 150, .inr (.inl (fun _ => 0))))]) H := hP
  have hD : va_D A (ws ++ [(a0, .inr (2, [.ref aR, .ref aN, .ref aS, .ref aF, .int 0, .int 0, .int 0, .int 0, .long 0])), (aR, .inl (kC, 300, .inl (fun _ => 0))), (aN, .inr (1, [.ref aK, .int 0])), (aK, .inl (kQ, 64, .inr (.inr (.inr (.inr (fun _ => none)))))), (aS, .inl (kI, 150, .inl (fun _ => 0))), (aF, .inl (kJ, 150, .inr (.inl (fun _ => 0))))]) := hD
  refine lv_aload_n hx hb dR_init_47 rfl (lv_at hl 0 rfl) ?_
  refine lv_iconst (v := 0) hx hb dR_init_48 (by decide) ?_
  refine va_put (D := (dC, dI)) (ci := 2) (v := .int 0) (ty := .int) (C := "ShellSum$Reckoner") (T := TR) (N := 9) hx hb htz zu_R tyR tyR_ok nmR hown hK hP hD hS (ws.length + 0) ((xa_get _ _ 0).trans rfl) rfl 5 (by decide) (htz _ zw_1_50) (fun _ h9 => h9) rfl (by decide +kernel) rfl rfl (Nat.le_of_ble_eq_true rfl) dR_init_49 (fun H locs hP hD hS => ?_)
  rw [xa_set] at hP hD
  have hP : va_P (dC, dI) vwCl (ws ++ [(a0, .inr (2, [.ref aR, .ref aN, .ref aS, .ref aF, .int 0, .int 0, .int 0, .int 0, .long 0])), (aR, .inl (kC, 300, .inl (fun _ => 0))), (aN, .inr (1, [.ref aK, .int 0])), (aK, .inl (kQ, 64, .inr (.inr (.inr (.inr (fun _ => none)))))), (aS, .inl (kI, 150, .inl (fun _ => 0))), (aF, .inl (kJ, 150, .inr (.inl (fun _ => 0))))]) H := hP
  have hD : va_D A (ws ++ [(a0, .inr (2, [.ref aR, .ref aN, .ref aS, .ref aF, .int 0, .int 0, .int 0, .int 0, .long 0])), (aR, .inl (kC, 300, .inl (fun _ => 0))), (aN, .inr (1, [.ref aK, .int 0])), (aK, .inl (kQ, 64, .inr (.inr (.inr (.inr (fun _ => none)))))), (aS, .inl (kI, 150, .inl (fun _ => 0))), (aF, .inl (kJ, 150, .inr (.inl (fun _ => 0))))]) := hD
  refine lv_aload_n hx hb dR_init_52 rfl (lv_at hl 0 rfl) ?_
  refine lv_iconst (v := 0) hx hb dR_init_53 (by decide) ?_
  refine va_put (D := (dC, dI)) (ci := 2) (v := .int 0) (ty := .int) (C := "ShellSum$Reckoner") (T := TR) (N := 9) hx hb htz zu_R tyR tyR_ok nmR hown hK hP hD hS (ws.length + 0) ((xa_get _ _ 0).trans rfl) rfl 6 (by decide) (htz _ zw_1_51) (fun _ h9 => h9) rfl (by decide +kernel) rfl rfl (Nat.le_of_ble_eq_true rfl) dR_init_54 (fun H locs hP hD hS => ?_)
  rw [xa_set] at hP hD
  have hP : va_P (dC, dI) vwCl (ws ++ [(a0, .inr (2, [.ref aR, .ref aN, .ref aS, .ref aF, .int 0, .int 0, .int 0, .int 0, .long 0])), (aR, .inl (kC, 300, .inl (fun _ => 0))), (aN, .inr (1, [.ref aK, .int 0])), (aK, .inl (kQ, 64, .inr (.inr (.inr (.inr (fun _ => none)))))), (aS, .inl (kI, 150, .inl (fun _ => 0))), (aF, .inl (kJ, 150, .inr (.inl (fun _ => 0))))]) H := hP
  have hD : va_D A (ws ++ [(a0, .inr (2, [.ref aR, .ref aN, .ref aS, .ref aF, .int 0, .int 0, .int 0, .int 0, .long 0])), (aR, .inl (kC, 300, .inl (fun _ => 0))), (aN, .inr (1, [.ref aK, .int 0])), (aK, .inl (kQ, 64, .inr (.inr (.inr (.inr (fun _ => none)))))), (aS, .inl (kI, 150, .inl (fun _ => 0))), (aF, .inl (kJ, 150, .inr (.inl (fun _ => 0))))]) := hD
  refine lv_aload_n hx hb dR_init_57 rfl (lv_at hl 0 rfl) ?_
  refine lv_iconst (v := 0) hx hb dR_init_58 (by decide) ?_
  refine va_put (D := (dC, dI)) (ci := 2) (v := .int 0) (ty := .int) (C := "ShellSum$Reckoner") (T := TR) (N := 9) hx hb htz zu_R tyR tyR_ok nmR hown hK hP hD hS (ws.length + 0) ((xa_get _ _ 0).trans rfl) rfl 7 (by decide) (htz _ zw_1_52) (fun _ h9 => h9) rfl (by decide +kernel) rfl rfl (Nat.le_of_ble_eq_true rfl) dR_init_59 (fun H locs hP hD hS => ?_)
  rw [xa_set] at hP hD
  have hP : va_P (dC, dI) vwCl (ws ++ [(a0, .inr (2, [.ref aR, .ref aN, .ref aS, .ref aF, .int 0, .int 0, .int 0, .int 0, .long 0])), (aR, .inl (kC, 300, .inl (fun _ => 0))), (aN, .inr (1, [.ref aK, .int 0])), (aK, .inl (kQ, 64, .inr (.inr (.inr (.inr (fun _ => none)))))), (aS, .inl (kI, 150, .inl (fun _ => 0))), (aF, .inl (kJ, 150, .inr (.inl (fun _ => 0))))]) H := hP
  have hD : va_D A (ws ++ [(a0, .inr (2, [.ref aR, .ref aN, .ref aS, .ref aF, .int 0, .int 0, .int 0, .int 0, .long 0])), (aR, .inl (kC, 300, .inl (fun _ => 0))), (aN, .inr (1, [.ref aK, .int 0])), (aK, .inl (kQ, 64, .inr (.inr (.inr (.inr (fun _ => none)))))), (aS, .inl (kI, 150, .inl (fun _ => 0))), (aF, .inl (kJ, 150, .inr (.inl (fun _ => 0))))]) := hD
  refine lv_aload_n hx hb dR_init_62 rfl (lv_at hl 0 rfl) ?_
  refine lv_lconst (v := 0) hx hb dR_init_63 (by decide) ?_
  refine va_put (D := (dC, dI)) (ci := 2) (v := .long 0) (ty := .long) (C := "ShellSum$Reckoner") (T := TR) (N := 9) hx hb htz zu_R tyR tyR_ok nmR hown hK hP hD hS (ws.length + 0) ((xa_get _ _ 0).trans rfl) rfl 8 (by decide) (htz _ zw_1_53) (fun _ h9 => h9) rfl (by decide +kernel) rfl rfl (Nat.le_of_ble_eq_true rfl) dR_init_64 (fun H locs hP hD hS => ?_)
  rw [xa_set] at hP hD
  have hP : va_P (dC, dI) vwCl (ws ++ [(a0, .inr (2, [.ref aR, .ref aN, .ref aS, .ref aF, .int 0, .int 0, .int 0, .int 0, .long 0])), (aR, .inl (kC, 300, .inl (fun _ => 0))), (aN, .inr (1, [.ref aK, .int 0])), (aK, .inl (kQ, 64, .inr (.inr (.inr (.inr (fun _ => none)))))), (aS, .inl (kI, 150, .inl (fun _ => 0))), (aF, .inl (kJ, 150, .inr (.inl (fun _ => 0))))]) H := hP
  have hD : va_D A (ws ++ [(a0, .inr (2, [.ref aR, .ref aN, .ref aS, .ref aF, .int 0, .int 0, .int 0, .int 0, .long 0])), (aR, .inl (kC, 300, .inl (fun _ => 0))), (aN, .inr (1, [.ref aK, .int 0])), (aK, .inl (kQ, 64, .inr (.inr (.inr (.inr (fun _ => none)))))), (aS, .inl (kI, 150, .inl (fun _ => 0))), (aF, .inl (kJ, 150, .inr (.inl (fun _ => 0))))]) := hD
  refine W.widen (k := 5) (n := 666) (Nat.le_refl _) (Nat.le_refl _) ?_
  exact W.vret hx hb hr (fun t ht _ => ⟨_, _, rfl, ⟨rfl, aR, aN, aK, aS, aF, rfl⟩, by rw [ht]; exact hP, hD, hS.F ht⟩) hS.2.2 dR_init_67
set_option maxHeartbeats 4000000 in
set_option maxRecDepth 100000 in
/-- ShellSum() -/
theorem k_A_init (l : Launch) (dC : Nat → ClassId) (dI : Nat → Nat → Nat) (kC kI kJ kQ : ClassId) (ws : va_W) (sz : Nat) (aA : Nat) : Met l yA_init wsA_init ({ frames := 3, cells := 7, slots := 683, locals := 90 }) (va_Pc [.ref aA] (zWo dC dI ([(kC, .char), (kI, .int), (kJ, .long), (kQ, .object "ShellSum$Named")]) (ws ++ [(aA, .inr (3, [.null, .null, .null, .int 0, .null, .int 0, .int 0, .int 0]))]) sz)) (zQ dC dI (va_A (ws ++ [(aA, .inr (3, [.null, .null, .null, .int 0, .null, .int 0, .int 0, .int 0]))]) sz) (fun v w => v = none ∧ ∃ (a0 aR aN aK aS aF aH : Nat) (fh : Nat → Int32), fh 0 = 97 ∧ w = ws ++ [(aA, .inr (3, [.ref a0, .ref aR, .ref aN, .int 0, .ref aH, .int 1, .int 0, .int 0])), (a0, .inr (2, [.ref aR, .ref aN, .ref aS, .ref aF, .int 0, .int 0, .int 0, .int 0, .long 0])), (aR, .inl (kC, 300, .inl (fun _ => 0))), (aN, .inr (1, [.ref aK, .int 0])), (aK, .inl (kQ, 64, .inr (.inr (.inr (.inr (fun _ => none)))))), (aS, .inl (kI, 150, .inl (fun _ => 0))), (aF, .inl (kJ, 150, .inr (.inl (fun _ => 0)))), (aH, .inl (kC, 8, .inl fh))])) 7 683 (va_A (ws ++ [(aA, .inr (3, [.null, .null, .null, .int 0, .null, .int 0, .int 0, .int 0]))]) sz) := by
  refine Met.ofW (cc := cA_init) (maxL := 1) (ret := none) (by decide) rfl ?_
  intro p e s m args below meth c s₁ B hml hv
  obtain ⟨rfl, ⟨hsz, hP, hK, hD0, hN⟩, hAO⟩ := hv
  subst hsz
  have hD := hD0.self (sz := s.heap.size)
  generalize hAe : va_A (ws ++ [(aA, .inr (3, [.null, .null, .null, .int 0, .null, .int 0, .int 0, .int 0]))]) s.heap.size = A at hD ⊢
  have hA : ∀ q : Nat, s.heap.size ≤ q → A q := fun q h => by rw [← hAe]; exact Or.inr h
  have hS : va_S A s.heap s.heap [] := va_S.rf
  have hx := B.exec
  have hb := B.bytes
  have hr := B.returns
  have htz : ∀ w ∈ zw, w.before _ s = true := fun w h => atoms_spec (ws := wsA_init) B.pre w (List.mem_cons_of_mem _ h)
  have hown : s.vm.findClass "ShellSum" = some m.cls := findClass_of_methodNamed B.named
  have hlocks := B.notSynchronized
  have hl := lv_entry ([.ref aA]) (n := 1) (Nat.le_of_ble_eq_true rfl)
  rw [lg_entry_eq]
  generalize (lg_sl ([.ref aA]) ++ List.replicate (1 - (lg_sl ([.ref aA])).length) Slot.unset).toArray = ls at hl ⊢
  have hin : meth.name = "<init>" := (name_of_methodNamed B.named B.method).1
  have hl : lv_has ls 1 [(0, .ref aA)] := hl
  refine lv_aload_n hx hb dA_init_0 rfl (lv_at hl 0 rfl) ?_
  refine W.objInit hx hb hown (htz _ zw_1_17) (htz _ zw_1_18) (htz _ zw_1_19) rfl (by rw [hml]; exact hl.1) rfl dA_init_1 (Nat.le_of_ble_eq_true rfl) (Nat.le_of_ble_eq_true rfl) ?_
  refine W.eq (g2 := F0 m 4 ls []) rfl ?_
  refine lv_aload_n hx hb dA_init_4 rfl (lv_at hl 0 rfl) ?_
  refine va_new (ci := 2) (fs := [.null, .null, .null, .null, .int 0, .int 0, .int 0, .int 0, .long 0]) (C := "ShellSum$Reckoner") (T := TR) (N := 9) hx hb htz zu_R tyR tyR_ok hown (htz _ zw_1_20) (htz _ zw_1_21) (htz _ zw_1_2) hK hP hD hS hA rfl (fun j hj => by rcases (show j = 0 ∨ j = 1 ∨ j = 2 ∨ j = 3 ∨ j = 4 ∨ j = 5 ∨ j = 6 ∨ j = 7 ∨ j = 8 by omega) with rfl | rfl | rfl | rfl | rfl | rfl | rfl | rfl | rfl <;> rfl) (by show 0 + 1 ≤ 7; decide) (by show 0 + 9 ≤ 683; decide) dA_init_5 (fun a0 H hP hD hS => ?_)
  refine lv_dup hx hb dA_init_8 rfl ?_
  refine zQ_call (va_runIN (As := []) (rest := [.ref a0, .ref aA]) ⟨hx, hb, hml, hown, htz⟩ (k_R_init l dC dI kC kI kJ kQ (ws ++ [(aA, .inr (3, [.null, .null, .null, .int 0, .null, .int 0, .int 0, .int 0]))]) _ a0) ⟨va_cnB 0 htz (zg_c zw_1_24) rfl rfl rfl (hN _ zn_1_22) (htz _ zw_1_2) (by decide +kernel) ⟨Nat.le_of_ble_eq_true rfl, Nat.le_of_ble_eq_true rfl⟩, rfl, htz _ zw_1_23⟩ (zWo_S hP hK hD hN hAO) rfl rfl hl.1 rfl (lv_room (Nat.le_of_ble_eq_true rfl)) dA_init_9 ⟨by show 0 + 1 + 5 ≤ 7; decide, by show 0 + 9 + 666 ≤ 683; decide⟩) hD hS hA (fun v w H locs hp hP hD hS => ?_)
  obtain ⟨rfl, aR, aN, aK, aS, aF, hw⟩ := hp
  rw [hw] at hP hD
  rw [List.append_assoc] at hP hD
  have hP : va_P (dC, dI) vwCl (ws ++ [(aA, .inr (3, [.null, .null, .null, .int 0, .null, .int 0, .int 0, .int 0])), (a0, .inr (2, [.ref aR, .ref aN, .ref aS, .ref aF, .int 0, .int 0, .int 0, .int 0, .long 0])), (aR, .inl (kC, 300, .inl (fun _ => 0))), (aN, .inr (1, [.ref aK, .int 0])), (aK, .inl (kQ, 64, .inr (.inr (.inr (.inr (fun _ => none)))))), (aS, .inl (kI, 150, .inl (fun _ => 0))), (aF, .inl (kJ, 150, .inr (.inl (fun _ => 0))))]) H := hP
  have hD : va_D A (ws ++ [(aA, .inr (3, [.null, .null, .null, .int 0, .null, .int 0, .int 0, .int 0])), (a0, .inr (2, [.ref aR, .ref aN, .ref aS, .ref aF, .int 0, .int 0, .int 0, .int 0, .long 0])), (aR, .inl (kC, 300, .inl (fun _ => 0))), (aN, .inr (1, [.ref aK, .int 0])), (aK, .inl (kQ, 64, .inr (.inr (.inr (.inr (fun _ => none)))))), (aS, .inl (kI, 150, .inl (fun _ => 0))), (aF, .inl (kJ, 150, .inr (.inl (fun _ => 0))))]) := hD
  refine W.eq (g2 := F0 m 12 ls [.ref a0, .ref aA]) rfl ?_
  refine va_putF (D := (dC, dI)) (ci := 3) (v := .ref a0) (ty := .object "ShellSum$Reckoner") (C := "ShellSum") (T := TA) (N := 8) hx hb htz zu_A tyA tyA_ok nmA hown hK hP hD hS (ws.length + 0) ((xa_get _ _ 0).trans rfl) rfl 0 (by decide) (htz _ zw_1_76) (fun _ h9 => h9) rfl hin rfl (by decide +kernel) rfl rfl (Nat.le_of_ble_eq_true rfl) dA_init_12 (fun H locs hP hD hS => ?_)
  rw [xa_set] at hP hD
  have hP : va_P (dC, dI) vwCl (ws ++ [(aA, .inr (3, [.ref a0, .null, .null, .int 0, .null, .int 0, .int 0, .int 0])), (a0, .inr (2, [.ref aR, .ref aN, .ref aS, .ref aF, .int 0, .int 0, .int 0, .int 0, .long 0])), (aR, .inl (kC, 300, .inl (fun _ => 0))), (aN, .inr (1, [.ref aK, .int 0])), (aK, .inl (kQ, 64, .inr (.inr (.inr (.inr (fun _ => none)))))), (aS, .inl (kI, 150, .inl (fun _ => 0))), (aF, .inl (kJ, 150, .inr (.inl (fun _ => 0))))]) H := hP
  have hD : va_D A (ws ++ [(aA, .inr (3, [.ref a0, .null, .null, .int 0, .null, .int 0, .int 0, .int 0])), (a0, .inr (2, [.ref aR, .ref aN, .ref aS, .ref aF, .int 0, .int 0, .int 0, .int 0, .long 0])), (aR, .inl (kC, 300, .inl (fun _ => 0))), (aN, .inr (1, [.ref aK, .int 0])), (aK, .inl (kQ, 64, .inr (.inr (.inr (.inr (fun _ => none)))))), (aS, .inl (kI, 150, .inl (fun _ => 0))), (aF, .inl (kJ, 150, .inr (.inl (fun _ => 0))))]) := hD
  refine lv_aload_n hx hb dA_init_15 rfl (lv_at hl 0 rfl) ?_
  refine lv_aload_n hx hb dA_init_16 rfl (lv_at hl 0 rfl) ?_
  refine va_get (D := (dC, dI)) (ci := 3) (v := .ref a0) (C := "ShellSum") (T := TA) (N := 8) hx hb htz zu_A hown hK hP (ws.length + 0) ((xa_get _ _ 0).trans rfl) rfl 0 (by decide) (htz _ zw_1_76) (fun _ h9 => h9) rfl dA_init_17 ?_
  refine va_getN (D := (dC, dI)) (ci := 2) (v := .ref aR) (C := "ShellSum$Reckoner") (T := TR) (N := 9) hx hb htz zu_R hown hK hP (ws.length + 1) ((xa_get _ _ 1).trans rfl) rfl 0 (by decide) (va_Nw.use rfl (hN _ zn_1_44)) (fun _ h9 => h9) rfl dA_init_20 ?_
  refine va_putF (D := (dC, dI)) (ci := 3) (v := .ref aR) (ty := .array .char) (C := "ShellSum") (T := TA) (N := 8) hx hb htz zu_A tyA tyA_ok nmA hown hK hP hD hS (ws.length + 0) ((xa_get _ _ 0).trans rfl) rfl 1 (by decide) (htz _ zw_1_77) (fun _ h9 => h9) rfl hin rfl (by decide +kernel) rfl rfl (Nat.le_of_ble_eq_true rfl) dA_init_23 (fun H locs hP hD hS => ?_)
  rw [xa_set] at hP hD
  have hP : va_P (dC, dI) vwCl (ws ++ [(aA, .inr (3, [.ref a0, .ref aR, .null, .int 0, .null, .int 0, .int 0, .int 0])), (a0, .inr (2, [.ref aR, .ref aN, .ref aS, .ref aF, .int 0, .int 0, .int 0, .int 0, .long 0])), (aR, .inl (kC, 300, .inl (fun _ => 0))), (aN, .inr (1, [.ref aK, .int 0])), (aK, .inl (kQ, 64, .inr (.inr (.inr (.inr (fun _ => none)))))), (aS, .inl (kI, 150, .inl (fun _ => 0))), (aF, .inl (kJ, 150, .inr (.inl (fun _ => 0))))]) H := hP
  have hD : va_D A (ws ++ [(aA, .inr (3, [.ref a0, .ref aR, .null, .int 0, .null, .int 0, .int 0, .int 0])), (a0, .inr (2, [.ref aR, .ref aN, .ref aS, .ref aF, .int 0, .int 0, .int 0, .int 0, .long 0])), (aR, .inl (kC, 300, .inl (fun _ => 0))), (aN, .inr (1, [.ref aK, .int 0])), (aK, .inl (kQ, 64, .inr (.inr (.inr (.inr (fun _ => none)))))), (aS, .inl (kI, 150, .inl (fun _ => 0))), (aF, .inl (kJ, 150, .inr (.inl (fun _ => 0))))]) := hD
  refine lv_aload_n hx hb dA_init_26 rfl (lv_at hl 0 rfl) ?_
  refine lv_aload_n hx hb dA_init_27 rfl (lv_at hl 0 rfl) ?_
  refine va_get (D := (dC, dI)) (ci := 3) (v := .ref a0) (C := "ShellSum") (T := TA) (N := 8) hx hb htz zu_A hown hK hP (ws.length + 0) ((xa_get _ _ 0).trans rfl) rfl 0 (by decide) (htz _ zw_1_76) (fun _ h9 => h9) rfl dA_init_28 ?_
  refine va_getN (D := (dC, dI)) (ci := 2) (v := .ref aN) (C := "ShellSum$Reckoner") (T := TR) (N := 9) hx hb htz zu_R hown hK hP (ws.length + 1) ((xa_get _ _ 1).trans rfl) rfl 1 (by decide) (va_Nw.use rfl (hN _ zn_1_46)) (fun _ h9 => h9) rfl dA_init_31 ?_
  refine va_putF (D := (dC, dI)) (ci := 3) (v := .ref aN) (ty := .object "ShellSum$Names") (C := "ShellSum") (T := TA) (N := 8) hx hb htz zu_A tyA tyA_ok nmA hown hK hP hD hS (ws.length + 0) ((xa_get _ _ 0).trans rfl) rfl 2 (by decide) (htz _ zw_1_78) (fun _ h9 => h9) rfl hin rfl (by decide +kernel) rfl rfl (Nat.le_of_ble_eq_true rfl) dA_init_34 (fun H locs hP hD hS => ?_)
  rw [xa_set] at hP hD
  have hP : va_P (dC, dI) vwCl (ws ++ [(aA, .inr (3, [.ref a0, .ref aR, .ref aN, .int 0, .null, .int 0, .int 0, .int 0])), (a0, .inr (2, [.ref aR, .ref aN, .ref aS, .ref aF, .int 0, .int 0, .int 0, .int 0, .long 0])), (aR, .inl (kC, 300, .inl (fun _ => 0))), (aN, .inr (1, [.ref aK, .int 0])), (aK, .inl (kQ, 64, .inr (.inr (.inr (.inr (fun _ => none)))))), (aS, .inl (kI, 150, .inl (fun _ => 0))), (aF, .inl (kJ, 150, .inr (.inl (fun _ => 0))))]) H := hP
  have hD : va_D A (ws ++ [(aA, .inr (3, [.ref a0, .ref aR, .ref aN, .int 0, .null, .int 0, .int 0, .int 0])), (a0, .inr (2, [.ref aR, .ref aN, .ref aS, .ref aF, .int 0, .int 0, .int 0, .int 0, .long 0])), (aR, .inl (kC, 300, .inl (fun _ => 0))), (aN, .inr (1, [.ref aK, .int 0])), (aK, .inl (kQ, 64, .inr (.inr (.inr (.inr (fun _ => none)))))), (aS, .inl (kI, 150, .inl (fun _ => 0))), (aF, .inl (kJ, 150, .inr (.inl (fun _ => 0))))]) := hD
  refine lv_aload_n hx hb dA_init_37 rfl (lv_at hl 0 rfl) ?_
  refine lv_iconst (v := 0) hx hb dA_init_38 (by decide) ?_
  refine va_put (D := (dC, dI)) (ci := 3) (v := .int 0) (ty := .int) (C := "ShellSum") (T := TA) (N := 8) hx hb htz zu_A tyA tyA_ok nmA hown hK hP hD hS (ws.length + 0) ((xa_get _ _ 0).trans rfl) rfl 3 (by decide) (htz _ zw_1_79) (fun _ h9 => h9) rfl (by decide +kernel) rfl rfl (Nat.le_of_ble_eq_true rfl) dA_init_39 (fun H locs hP hD hS => ?_)
  rw [xa_set] at hP hD
  have hP : va_P (dC, dI) vwCl (ws ++ [(aA, .inr (3, [.ref a0, .ref aR, .ref aN, .int 0, .null, .int 0, .int 0, .int 0])), (a0, .inr (2, [.ref aR, .ref aN, .ref aS, .ref aF, .int 0, .int 0, .int 0, .int 0, .long 0])), (aR, .inl (kC, 300, .inl (fun _ => 0))), (aN, .inr (1, [.ref aK, .int 0])), (aK, .inl (kQ, 64, .inr (.inr (.inr (.inr (fun _ => none)))))), (aS, .inl (kI, 150, .inl (fun _ => 0))), (aF, .inl (kJ, 150, .inr (.inl (fun _ => 0))))]) H := hP
  have hD : va_D A (ws ++ [(aA, .inr (3, [.ref a0, .ref aR, .ref aN, .int 0, .null, .int 0, .int 0, .int 0])), (a0, .inr (2, [.ref aR, .ref aN, .ref aS, .ref aF, .int 0, .int 0, .int 0, .int 0, .long 0])), (aR, .inl (kC, 300, .inl (fun _ => 0))), (aN, .inr (1, [.ref aK, .int 0])), (aK, .inl (kQ, 64, .inr (.inr (.inr (.inr (fun _ => none)))))), (aS, .inl (kI, 150, .inl (fun _ => 0))), (aF, .inl (kJ, 150, .inr (.inl (fun _ => 0))))]) := hD
  refine lv_aload_n hx hb dA_init_42 rfl (lv_at hl 0 rfl) ?_
  refine lv_bipush (v := 8) hx hb dA_init_43 (by decide) ?_
  refine va_newa (atype := .char) (N' := 8) (a0 := (8, .inl (fun _ => 0))) (ty := .char) (n := 8) hx hb (htz _ zw_1_42) rfl hK hP hD hS hA (fun _ => rfl) (by decide) (rfl) (by show 8 * 2 ≤ 536870912; omega) (by show 0 + 1 + 5 + 1 ≤ 7; decide) (by show 0 + 9 + 666 + 8 ≤ 683; decide) dA_init_45 (fun aH cA H hK hP hD hS => ?_)
  have e9 : cA = kC := Option.some.inj ((va_nm_char (hK.2 4 _ rfl).2).symm.trans (va_nm_char (hK.2 0 _ rfl).2))
  rw [e9] at hK hP hD
  have hK := hK.sub (tys' := [(kC, .char), (kI, .int), (kJ, .long), (kQ, .object "ShellSum$Named")]) [0, 1, 2, 3] rfl
  rw [List.append_assoc] at hP hD
  have hP : va_P (dC, dI) vwCl (ws ++ [(aA, .inr (3, [.ref a0, .ref aR, .ref aN, .int 0, .null, .int 0, .int 0, .int 0])), (a0, .inr (2, [.ref aR, .ref aN, .ref aS, .ref aF, .int 0, .int 0, .int 0, .int 0, .long 0])), (aR, .inl (kC, 300, .inl (fun _ => 0))), (aN, .inr (1, [.ref aK, .int 0])), (aK, .inl (kQ, 64, .inr (.inr (.inr (.inr (fun _ => none)))))), (aS, .inl (kI, 150, .inl (fun _ => 0))), (aF, .inl (kJ, 150, .inr (.inl (fun _ => 0)))), (aH, .inl (kC, 8, .inl (fun _ => 0)))]) H := hP
  have hD : va_D A (ws ++ [(aA, .inr (3, [.ref a0, .ref aR, .ref aN, .int 0, .null, .int 0, .int 0, .int 0])), (a0, .inr (2, [.ref aR, .ref aN, .ref aS, .ref aF, .int 0, .int 0, .int 0, .int 0, .long 0])), (aR, .inl (kC, 300, .inl (fun _ => 0))), (aN, .inr (1, [.ref aK, .int 0])), (aK, .inl (kQ, 64, .inr (.inr (.inr (.inr (fun _ => none)))))), (aS, .inl (kI, 150, .inl (fun _ => 0))), (aF, .inl (kJ, 150, .inr (.inl (fun _ => 0)))), (aH, .inl (kC, 8, .inl (fun _ => 0)))]) := hD
  refine va_putF (D := (dC, dI)) (ci := 3) (v := .ref aH) (ty := .array .char) (C := "ShellSum") (T := TA) (N := 8) hx hb htz zu_A tyA tyA_ok nmA hown hK hP hD hS (ws.length + 0) ((xa_get _ _ 0).trans rfl) rfl 4 (by decide) (htz _ zw_1_80) (fun _ h9 => h9) rfl hin rfl (by decide +kernel) rfl rfl (Nat.le_of_ble_eq_true rfl) dA_init_47 (fun H locs hP hD hS => ?_)
  rw [xa_set] at hP hD
  have hP : va_P (dC, dI) vwCl (ws ++ [(aA, .inr (3, [.ref a0, .ref aR, .ref aN, .int 0, .ref aH, .int 0, .int 0, .int 0])), (a0, .inr (2, [.ref aR, .ref aN, .ref aS, .ref aF, .int 0, .int 0, .int 0, .int 0, .long 0])), (aR, .inl (kC, 300, .inl (fun _ => 0))), (aN, .inr (1, [.ref aK, .int 0])), (aK, .inl (kQ, 64, .inr (.inr (.inr (.inr (fun _ => none)))))), (aS, .inl (kI, 150, .inl (fun _ => 0))), (aF, .inl (kJ, 150, .inr (.inl (fun _ => 0)))), (aH, .inl (kC, 8, .inl (fun _ => 0)))]) H := hP
  have hD : va_D A (ws ++ [(aA, .inr (3, [.ref a0, .ref aR, .ref aN, .int 0, .ref aH, .int 0, .int 0, .int 0])), (a0, .inr (2, [.ref aR, .ref aN, .ref aS, .ref aF, .int 0, .int 0, .int 0, .int 0, .long 0])), (aR, .inl (kC, 300, .inl (fun _ => 0))), (aN, .inr (1, [.ref aK, .int 0])), (aK, .inl (kQ, 64, .inr (.inr (.inr (.inr (fun _ => none)))))), (aS, .inl (kI, 150, .inl (fun _ => 0))), (aF, .inl (kJ, 150, .inr (.inl (fun _ => 0)))), (aH, .inl (kC, 8, .inl (fun _ => 0)))]) := hD
  refine lv_aload_n hx hb dA_init_50 rfl (lv_at hl 0 rfl) ?_
  refine lv_iconst (v := 1) hx hb dA_init_51 (by decide) ?_
  refine va_put (D := (dC, dI)) (ci := 3) (v := .int 1) (ty := .int) (C := "ShellSum") (T := TA) (N := 8) hx hb htz zu_A tyA tyA_ok nmA hown hK hP hD hS (ws.length + 0) ((xa_get _ _ 0).trans rfl) rfl 5 (by decide) (htz _ zw_1_81) (fun _ h9 => h9) rfl (by decide +kernel) rfl rfl (Nat.le_of_ble_eq_true rfl) dA_init_52 (fun H locs hP hD hS => ?_)
  rw [xa_set] at hP hD
  have hP : va_P (dC, dI) vwCl (ws ++ [(aA, .inr (3, [.ref a0, .ref aR, .ref aN, .int 0, .ref aH, .int 1, .int 0, .int 0])), (a0, .inr (2, [.ref aR, .ref aN, .ref aS, .ref aF, .int 0, .int 0, .int 0, .int 0, .long 0])), (aR, .inl (kC, 300, .inl (fun _ => 0))), (aN, .inr (1, [.ref aK, .int 0])), (aK, .inl (kQ, 64, .inr (.inr (.inr (.inr (fun _ => none)))))), (aS, .inl (kI, 150, .inl (fun _ => 0))), (aF, .inl (kJ, 150, .inr (.inl (fun _ => 0)))), (aH, .inl (kC, 8, .inl (fun _ => 0)))]) H := hP
  have hD : va_D A (ws ++ [(aA, .inr (3, [.ref a0, .ref aR, .ref aN, .int 0, .ref aH, .int 1, .int 0, .int 0])), (a0, .inr (2, [.ref aR, .ref aN, .ref aS, .ref aF, .int 0, .int 0, .int 0, .int 0, .long 0])), (aR, .inl (kC, 300, .inl (fun _ => 0))), (aN, .inr (1, [.ref aK, .int 0])), (aK, .inl (kQ, 64, .inr (.inr (.inr (.inr (fun _ => none)))))), (aS, .inl (kI, 150, .inl (fun _ => 0))), (aF, .inl (kJ, 150, .inr (.inl (fun _ => 0)))), (aH, .inl (kC, 8, .inl (fun _ => 0)))]) := hD
  refine lv_aload_n hx hb dA_init_55 rfl (lv_at hl 0 rfl) ?_
  refine lv_iconst (v := 0) hx hb dA_init_56 (by decide) ?_
  refine va_put (D := (dC, dI)) (ci := 3) (v := .int 0) (ty := .int) (C := "ShellSum") (T := TA) (N := 8) hx hb htz zu_A tyA tyA_ok nmA hown hK hP hD hS (ws.length + 0) ((xa_get _ _ 0).trans rfl) rfl 6 (by decide) (htz _ zw_1_82) (fun _ h9 => h9) rfl (by decide +kernel) rfl rfl (Nat.le_of_ble_eq_true rfl) dA_init_57 (fun H locs hP hD hS => ?_)
  rw [xa_set] at hP hD
  have hP : va_P (dC, dI) vwCl (ws ++ [(aA, .inr (3, [.ref a0, .ref aR, .ref aN, .int 0, .ref aH, .int 1, .int 0, .int 0])), (a0, .inr (2, [.ref aR, .ref aN, .ref aS, .ref aF, .int 0, .int 0, .int 0, .int 0, .long 0])), (aR, .inl (kC, 300, .inl (fun _ => 0))), (aN, .inr (1, [.ref aK, .int 0])), (aK, .inl (kQ, 64, .inr (.inr (.inr (.inr (fun _ => none)))))), (aS, .inl (kI, 150, .inl (fun _ => 0))), (aF, .inl (kJ, 150, .inr (.inl (fun _ => 0)))), (aH, .inl (kC, 8, .inl (fun _ => 0)))]) H := hP
  have hD : va_D A (ws ++ [(aA, .inr (3, [.ref a0, .ref aR, .ref aN, .int 0, .ref aH, .int 1, .int 0, .int 0])), (a0, .inr (2, [.ref aR, .ref aN, .ref aS, .ref aF, .int 0, .int 0, .int 0, .int 0, .long 0])), (aR, .inl (kC, 300, .inl (fun _ => 0))), (aN, .inr (1, [.ref aK, .int 0])), (aK, .inl (kQ, 64, .inr (.inr (.inr (.inr (fun _ => none)))))), (aS, .inl (kI, 150, .inl (fun _ => 0))), (aF, .inl (kJ, 150, .inr (.inl (fun _ => 0)))), (aH, .inl (kC, 8, .inl (fun _ => 0)))]) := hD
  refine lv_aload_n hx hb dA_init_60 rfl (lv_at hl 0 rfl) ?_
  refine lv_iconst (v := 0) hx hb dA_init_61 (by decide) ?_
  refine va_put (D := (dC, dI)) (ci := 3) (v := .int 0) (ty := .int) (C := "ShellSum") (T := TA) (N := 8) hx hb htz zu_A tyA tyA_ok nmA hown hK hP hD hS (ws.length + 0) ((xa_get _ _ 0).trans rfl) rfl 7 (by decide) (htz _ zw_1_83) (fun _ h9 => h9) rfl (by decide +kernel) rfl rfl (Nat.le_of_ble_eq_true rfl) dA_init_62 (fun H locs hP hD hS => ?_)
  rw [xa_set] at hP hD
  have hP : va_P (dC, dI) vwCl (ws ++ [(aA, .inr (3, [.ref a0, .ref aR, .ref aN, .int 0, .ref aH, .int 1, .int 0, .int 0])), (a0, .inr (2, [.ref aR, .ref aN, .ref aS, .ref aF, .int 0, .int 0, .int 0, .int 0, .long 0])), (aR, .inl (kC, 300, .inl (fun _ => 0))), (aN, .inr (1, [.ref aK, .int 0])), (aK, .inl (kQ, 64, .inr (.inr (.inr (.inr (fun _ => none)))))), (aS, .inl (kI, 150, .inl (fun _ => 0))), (aF, .inl (kJ, 150, .inr (.inl (fun _ => 0)))), (aH, .inl (kC, 8, .inl (fun _ => 0)))]) H := hP
  have hD : va_D A (ws ++ [(aA, .inr (3, [.ref a0, .ref aR, .ref aN, .int 0, .ref aH, .int 1, .int 0, .int 0])), (a0, .inr (2, [.ref aR, .ref aN, .ref aS, .ref aF, .int 0, .int 0, .int 0, .int 0, .long 0])), (aR, .inl (kC, 300, .inl (fun _ => 0))), (aN, .inr (1, [.ref aK, .int 0])), (aK, .inl (kQ, 64, .inr (.inr (.inr (.inr (fun _ => none)))))), (aS, .inl (kI, 150, .inl (fun _ => 0))), (aF, .inl (kJ, 150, .inr (.inl (fun _ => 0)))), (aH, .inl (kC, 8, .inl (fun _ => 0)))]) := hD
  refine lv_aload_n hx hb dA_init_65 rfl (lv_at hl 0 rfl) ?_
  refine va_get (D := (dC, dI)) (ci := 3) (v := .ref aH) (C := "ShellSum") (T := TA) (N := 8) hx hb htz zu_A hown hK hP (ws.length + 0) ((xa_get _ _ 0).trans rfl) rfl 4 (by decide) (htz _ zw_1_80) (fun _ h9 => h9) rfl dA_init_66 ?_
  refine lv_iconst (v := 0) hx hb dA_init_69 (by decide) ?_
  refine xw_topi (y := nI 0) (nI_0.symm) ?_
  refine lv_bipush (v := 97) hx hb dA_init_70 (by decide) ?_
  refine va_cast hx hb hK hP hD hS (ws.length + 7) 0 ((xa_get _ _ 7).trans rfl) rfl (vp_in_nI (n := 0) (by decide) (by decide)) dA_init_72 (fun H locs hP hD hS => ?_)
  rw [xa_set] at hP hD
  have hP : va_P (dC, dI) vwCl (ws ++ [(aA, .inr (3, [.ref a0, .ref aR, .ref aN, .int 0, .ref aH, .int 1, .int 0, .int 0])), (a0, .inr (2, [.ref aR, .ref aN, .ref aS, .ref aF, .int 0, .int 0, .int 0, .int 0, .long 0])), (aR, .inl (kC, 300, .inl (fun _ => 0))), (aN, .inr (1, [.ref aK, .int 0])), (aK, .inl (kQ, 64, .inr (.inr (.inr (.inr (fun _ => none)))))), (aS, .inl (kI, 150, .inl (fun _ => 0))), (aF, .inl (kJ, 150, .inr (.inl (fun _ => 0)))), (aH, .inl (kC, 8, .inl (upd (fun _ => 0) (nI 0).toNatClampNeg (vp_nar .char 97))))]) H := hP
  have hD : va_D A (ws ++ [(aA, .inr (3, [.ref a0, .ref aR, .ref aN, .int 0, .ref aH, .int 1, .int 0, .int 0])), (a0, .inr (2, [.ref aR, .ref aN, .ref aS, .ref aF, .int 0, .int 0, .int 0, .int 0, .long 0])), (aR, .inl (kC, 300, .inl (fun _ => 0))), (aN, .inr (1, [.ref aK, .int 0])), (aK, .inl (kQ, 64, .inr (.inr (.inr (.inr (fun _ => none)))))), (aS, .inl (kI, 150, .inl (fun _ => 0))), (aF, .inl (kJ, 150, .inr (.inl (fun _ => 0)))), (aH, .inl (kC, 8, .inl (upd (fun _ => 0) (nI 0).toNatClampNeg (vp_nar .char 97))))]) := hD
  refine W.widen (k := 7) (n := 683) (Nat.le_refl _) (Nat.le_refl _) ?_
  exact W.vret hx hb hr (fun t ht _ => ⟨_, _, rfl, ⟨rfl, a0, aR, aN, aK, aS, aF, aH, _, (by show upd _ _ _ 0 = 97; rw [nI_clamp (by decide), pk_us]; rfl), rfl⟩, by rw [ht]; exact hP, hD, hS.F ht⟩) hS.2.2 dA_init_73
