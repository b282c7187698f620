set_option maxHeartbeats 4000000 in
set_option maxRecDepth 100000 in
/-- findOrAdd(from, start, end) -/
theorem k_S_findOrAdd (l : Launch) (dC : Nat → ClassId) (dI : Nat → Nat → Nat) (kC kI kJ kQ : ClassId) (ws : va_W) (sz : Nat) (aN aK kn kk kp : Nat) (q : Nat → Option Nat) (ns : List rw_N) (hn : ws[kn]? = some (aN, .inr (1, [.ref aK, .int (nI ns.length)]))) (hkk : ws[kk]? = some (aK, .inl (kQ, 64, .inr (.inr (.inr (.inr q)))))) (hpo : sh_pool ws kp kC q ns) (hns : ns.length ≤ 64) (fr kf N b0 : Nat) (f : Nat → Int32) (ql : List Int32) (hfr : ws[kf]? = some (fr, .inl (kC, N, .inl f))) (hql : ∀ j, j < ql.length → f (b0 + j) = sh_at ql j) (hN1 : b0 + ql.length ≤ N) (hN3 : N ≤ 1000) (hBq : sh_B ql) (hnk : kn ≠ kk) : Met l yS_findOrAdd wsS_findOrAdd ({ frames := 2, cells := 3 * sh_ac ns ql, slots := (23 + ql.length) * sh_ac ns ql, locals := 60 }) (va_Pc [.ref aN, .ref fr, .int (nI b0), .int (nI (b0 + ql.length))] (zW dC dI ([(kC, .char), (kI, .int), (kJ, .long), (kQ, .object "ShellSum$Named")]) ws sz)) (zQ dC dI (va_A ws sz) (fun v w => (∃ x, sh_fi ns ql = some x ∧ v = some (.ref x.1.1) ∧ w = ws) ∨ (sh_fi ns ql = none ∧ 64 ≤ ns.length ∧ v = some .null ∧ w = ws) ∨ (sh_fi ns ql = none ∧ ns.length < 64 ∧ ∃ (a la ra : Nat) (g : Nat → Int32), v = some (.ref a) ∧ w = ((ws.set kk (aK, .inl (kQ, 64, .inr (.inr (.inr (.inr (va_up q ns.length (some a)))))))).set kn (aN, .inr (1, [.ref aK, .int (nI (ns.length + 1))]))) ++ rw_c 0 kC ((a, la, ra), ql, g, 0)))) (3 * sh_ac ns ql) ((23 + ql.length) * sh_ac ns ql) (va_A ws sz) := by
  refine Met.ofW (cc := cS_findOrAdd) (maxL := 6) (ret := (some (.object "ShellSum$Named"))) (by decide) rfl ?_
  intro p e s m args below meth c s₁ B hml hv
  obtain ⟨rfl, hsz, hP, hK, hD0, hN⟩ := hv
  subst hsz
  have hD := hD0.self (sz := s.heap.size)
  generalize hAe : va_A ws s.heap.size = A at hD ⊢
  have hA : ∀ q : Nat, s.heap.size ≤ q → A q := fun q h => by rw [← hAe]; exact Or.inr h
  have hS : va_S A s.heap s.heap [] := va_S.rf
  have hx := B.exec
  have hb := B.bytes
  have hr := B.returns
  have htz : ∀ w ∈ zw, w.before _ s = true := fun w h => atoms_spec (ws := wsS_findOrAdd) B.pre w (List.mem_cons_of_mem _ h)
  have hown : s.vm.findClass "ShellSum$Names" = some m.cls := findClass_of_methodNamed B.named
  have hlocks := B.notSynchronized
  have hl := lv_entry ([.ref aN, .ref fr, .int (nI b0), .int (nI (b0 + ql.length))]) (n := 6) (Nat.le_of_ble_eq_true rfl)
  rw [lg_entry_eq]
  generalize (lg_sl ([.ref aN, .ref fr, .int (nI b0), .int (nI (b0 + ql.length))]) ++ List.replicate (6 - (lg_sl ([.ref aN, .ref fr, .int (nI b0), .int (nI (b0 + ql.length))])).length) Slot.unset).toArray = ls at hl ⊢
  have hl : lv_has ls 6 [(0, .ref aN), (1, .ref fr), (2, .int (nI b0)), (3, .int (nI (b0 + ql.length)))] := hl
  refine lv_aload_n hx hb dS_findOrAdd_0 rfl (lv_at hl 0 rfl) ?_
  refine lv_aload_n hx hb dS_findOrAdd_1 rfl (lv_at hl 1 rfl) ?_
  refine lv_iload_n hx hb dS_findOrAdd_2 rfl (lv_at hl 2 rfl) ?_
  refine lv_iload_n hx hb dS_findOrAdd_3 rfl (lv_at hl 3 rfl) ?_
  refine rq_call (va_runV (As := [.ref fr, .int (nI b0), .int (nI (b0 + ql.length))]) (rest := []) ⟨hx, hb, hml, hown, htz⟩ (k_S_find l dC dI kC kI kJ kQ ws aN aK kn kk kp q ns hn hkk hpo hns fr kf N b0 f ql hfr hql hN1 hN3) (cwV 3 htz (zg_V zw_1_142 zw_1_144 zs_S_find zw_1_3 zw_1_145) rfl rfl rfl (by decide +kernel) ⟨Nat.le_of_ble_eq_true rfl, Nat.le_of_ble_eq_true rfl⟩) (zR_V hP hK hN (va_recv hK hP (ci := 1) (q0 := kn) rfl hn)) rfl rfl hl.1 rfl (lv_room (Nat.le_of_ble_eq_true rfl)) dS_findOrAdd_4 ⟨Nat.zero_le _, Nat.zero_le _⟩) ?_
  refine W.eq (g2 := F0 m 7 ls [va_rf ((sh_fi ns ql).map (fun x => x.1.1))]) rfl ?_
  rcases xo_or (sh_fi ns ql) with hfi | ⟨x, hfi⟩
  · skip
    have e_c : sh_fi ns ql = none := hfi
    refine W.eq (g2 := F0 m 7 ls [.null]) (by rw [hfi]; rfl) ?_
    refine lv_astoreN (lv' := [(4, .null), (0, .ref aN), (1, .ref fr), (2, .int (nI b0)), (3, .int (nI (b0 + ql.length)))]) hx hb dS_findOrAdd_7 hl (by decide) rfl (fun ls hl => ?_)
    refine lv_aloadN hx hb dS_findOrAdd_9 (lv_at hl 0 rfl) ?_
    refine lv_ifnonnullN hx hb dS_findOrAdd_11 ?_
    refine lv_aload_n hx hb dS_findOrAdd_14 rfl (lv_at hl 1 rfl) ?_
    refine va_get (D := (dC, dI)) (ci := 1) (v := .int (nI ns.length)) (C := "ShellSum$Names") (T := TS) (N := 2) hx hb htz zu_S hown hK hP kn hn rfl 1 (by decide) (htz _ zw_1_35) (fun _ h9 => h9) rfl dS_findOrAdd_15 ?_
    refine lv_aload_n hx hb dS_findOrAdd_18 rfl (lv_at hl 1 rfl) ?_
    refine va_get (D := (dC, dI)) (ci := 1) (v := .ref aK) (C := "ShellSum$Names") (T := TS) (N := 2) hx hb htz zu_S hown hK hP kn hn rfl 0 (by decide) (htz _ zw_1_34) (fun _ h9 => h9) rfl dS_findOrAdd_19 ?_
    refine va_alen hx hb hK hP kk 3 hkk (ty := (.object "ShellSum$Named")) rfl (v := nI 64) rfl dS_findOrAdd_22 ?_
    refine lv_icmp_lt (tgt := 29) hx hb dS_findOrAdd_23 (by decide) (fun c_1 => ?_) (fun c_1 => ?_)
    · skip
      have e_23 : ns.length < 64 := xi_lt (b := 64) c_1 (by omega) (by decide)
      have e_ac : sh_ac ns ql = 1 := if_pos ⟨hfi, e_23⟩
      refine va_new (ci := 0) (fs := [.null, .null, .int 0]) (C := "ShellSum$Named") (T := TN) (N := 3) hx hb htz zu_N tyN tyN_ok hown (htz _ zw_1_32) (htz _ zw_1_149) (htz _ zw_1_10) hK hP hD hS hA rfl (fun j hj => by rcases (show j = 0 ∨ j = 1 ∨ j = 2 by omega) with rfl | rfl | rfl <;> rfl) (by show 0 + 1 ≤ 3 * sh_ac ns ql; omega) (by show 0 + 3 ≤ (23 + ql.length) * sh_ac ns ql; rw [e_ac]; omega) dS_findOrAdd_29 (fun a H hP hD hS => ?_)
      refine lv_dup hx hb dS_findOrAdd_32 rfl ?_
      refine lv_aload_n hx hb dS_findOrAdd_33 rfl (lv_at hl 2 rfl) ?_
      refine lv_iload_n hx hb dS_findOrAdd_34 rfl (lv_at hl 3 rfl) ?_
      refine lv_iload_n hx hb dS_findOrAdd_35 rfl (lv_at hl 4 rfl) ?_
      refine zQ_call (va_runIN (As := [.ref fr, .int (nI b0), .int (nI (b0 + ql.length))]) (rest := [.ref a]) ⟨hx, hb, hml, hown, htz⟩ (k_N_init l dC dI kC kI kJ kQ ws _ a fr kf N b0 f ql hfr hql hN1 hN3 hBq) ⟨va_cnB 3 htz (zg_c zw_1_153) rfl rfl rfl (hN _ zn_1_151) (htz _ zw_1_10) (by decide +kernel) ⟨Nat.le_of_ble_eq_true rfl, Nat.le_of_ble_eq_true rfl⟩, rfl, htz _ zw_1_152⟩ (zW_S hP hK hD hN) rfl rfl hl.1 rfl (lv_room (Nat.le_of_ble_eq_true rfl)) dS_findOrAdd_36 ⟨by show 0 + 1 + 2 ≤ 3 * sh_ac ns ql; omega, by show 0 + 3 + (20 + ql.length) ≤ (23 + ql.length) * sh_ac ns ql; rw [e_ac]; omega⟩) hD hS hA (fun v w H locs hp hP hD hS => ?_)
      obtain ⟨rfl, la, ra, g, hw⟩ := hp
      rw [hw] at hP hD
      refine W.eq (g2 := F0 m 39 ls [.ref a]) rfl ?_
      refine lv_astore (lv' := [(5, .ref a), (4, .null), (0, .ref aN), (1, .ref fr), (2, .int (nI b0)), (3, .int (nI (b0 + ql.length)))]) hx hb dS_findOrAdd_39 hl (by decide) rfl (fun ls hl => ?_)
      refine lv_aload_n hx hb dS_findOrAdd_41 rfl (lv_at hl 2 rfl) ?_
      refine va_get (D := (dC, dI)) (ci := 1) (v := .ref aK) (C := "ShellSum$Names") (T := TS) (N := 2) hx hb htz zu_S hown hK hP kn (xa_old hn) rfl 0 (by decide) (htz _ zw_1_34) (fun _ h9 => h9) rfl dS_findOrAdd_42 ?_
      refine lv_aload_n hx hb dS_findOrAdd_45 rfl (lv_at hl 2 rfl) ?_
      refine va_get (D := (dC, dI)) (ci := 1) (v := .int (nI ns.length)) (C := "ShellSum$Names") (T := TS) (N := 2) hx hb htz zu_S hown hK hP kn (xa_old hn) rfl 1 (by decide) (htz _ zw_1_35) (fun _ h9 => h9) rfl dS_findOrAdd_46 ?_
      refine lv_aload hx hb dS_findOrAdd_49 (lv_at hl 0 rfl) ?_
      refine va_astq hx hb hK hP hD hS kk 3 (ws.length + 0) 0 (xa_old hkk) rfl ((xa_get _ _ 0).trans rfl) rfl (vp_in_nI (by omega) (by decide)) dS_findOrAdd_51 (fun H locs hP hD hS => ?_)
      rw [nI_clamp (by omega), xa_setl (xl_of hkk)] at hP hD
      refine lv_aload_n hx hb dS_findOrAdd_52 rfl (lv_at hl 2 rfl) ?_
      refine lv_dup hx hb dS_findOrAdd_53 rfl ?_
      refine va_get (D := (dC, dI)) (ci := 1) (v := .int (nI ns.length)) (C := "ShellSum$Names") (T := TS) (N := 2) hx hb htz zu_S hown hK hP kn (xa_old ((List.getElem?_set_ne (Ne.symm hnk)).trans hn)) rfl 1 (by decide) (htz _ zw_1_35) (fun _ h9 => h9) rfl dS_findOrAdd_54 ?_
      refine lv_iconst (v := 1) hx hb dS_findOrAdd_57 (by decide) ?_
      refine lv_iadd hx hb dS_findOrAdd_58 ?_
      refine xw_topi (y := nI (ns.length + 1)) (nI_add ns.length 1) ?_
      refine va_put (D := (dC, dI)) (ci := 1) (v := .int (nI (ns.length + 1))) (ty := .int) (C := "ShellSum$Names") (T := TS) (N := 2) hx hb htz zu_S tyS tyS_ok nmS hown hK hP hD hS kn (xa_old ((List.getElem?_set_ne (Ne.symm hnk)).trans hn)) rfl 1 (by decide) (htz _ zw_1_35) (fun _ h9 => h9) rfl (by decide +kernel) rfl rfl (Nat.le_of_ble_eq_true rfl) dS_findOrAdd_59 (fun H locs hP hD hS => ?_)
      have hP : va_P (dC, dI) vwCl (List.set (ws.set kk (aK, .inl (kQ, 64, .inr (.inr (.inr (.inr (va_up q ns.length (some a))))))) ++ rw_c 0 kC ((a, la, ra), ql, g, 0)) kn (aN, .inr (1, [.ref aK, .int (nI (ns.length + 1))]))) H := hP
      have hD : va_D A (List.set (ws.set kk (aK, .inl (kQ, 64, .inr (.inr (.inr (.inr (va_up q ns.length (some a))))))) ++ rw_c 0 kC ((a, la, ra), ql, g, 0)) kn (aN, .inr (1, [.ref aK, .int (nI (ns.length + 1))]))) := hD
      rw [xa_setl (by rw [List.length_set]; exact xl_of hn)] at hP hD
      refine lv_aload hx hb dS_findOrAdd_62 (lv_at hl 0 rfl) ?_
      refine W.widen (k := 3 * sh_ac ns ql) (n := (23 + ql.length) * sh_ac ns ql) (by omega) (by rw [e_ac]; omega) ?_
      exact W.aret (v := .ref a) hx hb hr (Or.inl ⟨_, rfl⟩) (Or.inr ⟨_, rfl⟩) (fun t ht _ => ⟨_, _, rfl, Or.inr (Or.inr ⟨hfi, e_23, a, la, ra, g, rfl, rfl⟩), by rw [ht]; exact hP, hD, hS.F ht⟩) hS.2.2 dS_findOrAdd_64
    have e_23 : 64 ≤ ns.length := xi_nlt (b := 64) c_1 (by omega) (by decide)
    refine lv_aloadN hx hb dS_findOrAdd_26 (lv_at hl 0 rfl) ?_
    refine W.widen (k := 3 * sh_ac ns ql) (n := (23 + ql.length) * sh_ac ns ql) (Nat.zero_le _) (Nat.zero_le _) ?_
    exact W.aret (v := .null) hx hb hr (Or.inl ⟨_, rfl⟩) (Or.inl rfl) (fun t ht _ => ⟨_, _, rfl, Or.inr (Or.inl ⟨hfi, e_23, rfl, rfl⟩), by rw [ht]; exact hP, hD, hS.F ht⟩) hS.2.2 dS_findOrAdd_28
  refine W.eq (g2 := F0 m 7 ls [.ref x.1.1]) (by rw [hfi]; rfl) ?_
  refine lv_astore (lv' := [(4, .ref x.1.1), (0, .ref aN), (1, .ref fr), (2, .int (nI b0)), (3, .int (nI (b0 + ql.length)))]) hx hb dS_findOrAdd_7 hl (by decide) rfl (fun ls hl => ?_)
  refine lv_aload hx hb dS_findOrAdd_9 (lv_at hl 0 rfl) ?_
  refine lv_ifnonnull (tgt := 26) hx hb dS_findOrAdd_11 (by decide) ?_
  refine lv_aload hx hb dS_findOrAdd_26 (lv_at hl 0 rfl) ?_
  refine W.widen (k := 3 * sh_ac ns ql) (n := (23 + ql.length) * sh_ac ns ql) (Nat.zero_le _) (Nat.zero_le _) ?_
  exact W.aret (v := .ref x.1.1) hx hb hr (Or.inl ⟨_, rfl⟩) (Or.inr ⟨_, rfl⟩) (fun t ht _ => ⟨_, _, rfl, Or.inl ⟨x, hfi, rfl, rfl⟩, by rw [ht]; exact hP, hD, hS.F ht⟩) hS.2.2 dS_findOrAdd_28
set_option maxHeartbeats 4000000 in
set_option maxRecDepth 100000 in
/-- remove(from, start, end) -/
theorem k_S_remove (l : Launch) (dC : Nat → ClassId) (dI : Nat → Nat → Nat) (kC kI kJ kQ : ClassId) (ws : va_W) (sz : Nat) (aN aK kn kk kp : Nat) (q : Nat → Option Nat) (ns : List rw_N) (hn : ws[kn]? = some (aN, .inr (1, [.ref aK, .int (nI ns.length)]))) (hkk : ws[kk]? = some (aK, .inl (kQ, 64, .inr (.inr (.inr (.inr q)))))) (hpo : sh_pool ws kp kC q ns) (hns : ns.length ≤ 64) (fr kf N b0 : Nat) (f : Nat → Int32) (ql : List Int32) (hfr : ws[kf]? = some (fr, .inl (kC, N, .inl f))) (hql : ∀ j, j < ql.length → f (b0 + j) = sh_at ql j) (hN1 : b0 + ql.length ≤ N) (hN3 : N ≤ 1000) (hnk : kn ≠ kk) (hkp : kn < kp ∧ kk < kp) : Met l yS_remove wsS_remove ({ frames := 2, cells := 0, slots := 0, locals := 60 }) (va_Pc [.ref aN, .ref fr, .int (nI b0), .int (nI (b0 + ql.length))] (zW dC dI ([(kC, .char), (kI, .int), (kJ, .long), (kQ, .object "ShellSum$Named")]) ws sz)) (zQ dC dI (va_A ws sz) (fun v w => (sh_fi ns ql = none ∧ v = some (.int 0) ∧ w = ws) ∨ (∃ (x : rw_N) (j : Nat) (q2 : Nat → Option Nat), sh_fi ns ql = some x ∧ ns[j]? = some x ∧ v = some (.int 1) ∧ (∀ i, i < ns.length - 1 → q2 i = if i = j then q (ns.length - 1) else q i) ∧ w = ((ws.set kn (aN, .inr (1, [.ref aK, .int (nI (ns.length - 1))]))).set kk (aK, .inl (kQ, 64, .inr (.inr (.inr (.inr q2))))))))) 0 0 (va_A ws sz) := by
  refine Met.ofW (cc := cS_remove) (maxL := 6) (ret := (some .boolean)) (by decide) rfl ?_
  intro p e s m args below meth c s₁ B hml hv
  obtain ⟨rfl, hsz, hP, hK, hD0, hN⟩ := hv
  subst hsz
  have hD := hD0.self (sz := s.heap.size)
  generalize hAe : va_A ws s.heap.size = A at hD ⊢
  have hA : ∀ q : Nat, s.heap.size ≤ q → A q := fun q h => by rw [← hAe]; exact Or.inr h
  have hS : va_S A s.heap s.heap [] := va_S.rf
  have hx := B.exec
  have hb := B.bytes
  have hr := B.returns
  have htz : ∀ w ∈ zw, w.before _ s = true := fun w h => atoms_spec (ws := wsS_remove) B.pre w (List.mem_cons_of_mem _ h)
  have hown : s.vm.findClass "ShellSum$Names" = some m.cls := findClass_of_methodNamed B.named
  have hlocks := B.notSynchronized
  have hl := lv_entry ([.ref aN, .ref fr, .int (nI b0), .int (nI (b0 + ql.length))]) (n := 6) (Nat.le_of_ble_eq_true rfl)
  rw [lg_entry_eq]
  generalize (lg_sl ([.ref aN, .ref fr, .int (nI b0), .int (nI (b0 + ql.length))]) ++ List.replicate (6 - (lg_sl ([.ref aN, .ref fr, .int (nI b0), .int (nI (b0 + ql.length))])).length) Slot.unset).toArray = ls at hl ⊢
  have hl : lv_has ls 6 [(0, .ref aN), (1, .ref fr), (2, .int (nI b0)), (3, .int (nI (b0 + ql.length)))] := hl
  refine lv_aload_n hx hb dS_remove_0 rfl (lv_at hl 0 rfl) ?_
  refine lv_aload_n hx hb dS_remove_1 rfl (lv_at hl 1 rfl) ?_
  refine lv_iload_n hx hb dS_remove_2 rfl (lv_at hl 2 rfl) ?_
  refine lv_iload_n hx hb dS_remove_3 rfl (lv_at hl 3 rfl) ?_
  refine rq_call (va_runV (As := [.ref fr, .int (nI b0), .int (nI (b0 + ql.length))]) (rest := []) ⟨hx, hb, hml, hown, htz⟩ (k_S_find l dC dI kC kI kJ kQ ws aN aK kn kk kp q ns hn hkk hpo hns fr kf N b0 f ql hfr hql hN1 hN3) (cwV 3 htz (zg_V zw_1_142 zw_1_144 zs_S_find zw_1_3 zw_1_145) rfl rfl rfl (by decide +kernel) ⟨Nat.le_of_ble_eq_true rfl, Nat.le_of_ble_eq_true rfl⟩) (zR_V hP hK hN (va_recv hK hP (ci := 1) (q0 := kn) rfl hn)) rfl rfl hl.1 rfl (lv_room (Nat.le_of_ble_eq_true rfl)) dS_remove_4 ⟨Nat.zero_le _, Nat.zero_le _⟩) ?_
  refine W.eq (g2 := F0 m 7 ls [va_rf ((sh_fi ns ql).map (fun x => x.1.1))]) rfl ?_
  rcases xo_or (sh_fi ns ql) with hfi | ⟨x, hfi⟩
  · skip
    refine W.eq (g2 := F0 m 7 ls [.null]) (by rw [hfi]; rfl) ?_
    refine lv_astoreN (lv' := [(4, .null), (0, .ref aN), (1, .ref fr), (2, .int (nI b0)), (3, .int (nI (b0 + ql.length)))]) hx hb dS_remove_7 hl (by decide) rfl (fun ls hl => ?_)
    refine lv_aloadN hx hb dS_remove_9 (lv_at hl 0 rfl) ?_
    refine lv_ifnonnullN hx hb dS_remove_11 ?_
    refine lv_iconst (v := 0) hx hb dS_remove_14 (by decide) ?_
    refine W.widen (k := 0) (n := 0) (Nat.zero_le _) (Nat.zero_le _) ?_
    exact W.zret (v := 0) hx hb hr (rfl) (fun t ht _ => ⟨_, _, rfl, Or.inl ⟨hfi, rfl, rfl⟩, by rw [ht]; exact hP, hD, hS.F ht⟩) hS.2.2 dS_remove_15
  refine W.eq (g2 := F0 m 7 ls [.ref x.1.1]) (by rw [hfi]; rfl) ?_
  obtain ⟨⟨j, hxj⟩, -⟩ := sh_fi_mem hfi
  have hjn := xl_of hxj
  have hDw := hD
  refine lv_astore (lv' := [(4, .ref x.1.1), (0, .ref aN), (1, .ref fr), (2, .int (nI b0)), (3, .int (nI (b0 + ql.length)))]) hx hb dS_remove_7 hl (by decide) rfl (fun ls hl => ?_)
  refine lv_aload hx hb dS_remove_9 (lv_at hl 0 rfl) ?_
  refine lv_ifnonnull (tgt := 16) hx hb dS_remove_11 (by decide) ?_
  refine lv_aload_n hx hb dS_remove_16 rfl (lv_at hl 1 rfl) ?_
  refine lv_dup hx hb dS_remove_17 rfl ?_
  refine va_get (D := (dC, dI)) (ci := 1) (v := .int (nI ns.length)) (C := "ShellSum$Names") (T := TS) (N := 2) hx hb htz zu_S hown hK hP kn hn rfl 1 (by decide) (htz _ zw_1_35) (fun _ h9 => h9) rfl dS_remove_18 ?_
  refine lv_iconst (v := 1) hx hb dS_remove_21 (by decide) ?_
  refine lv_isub hx hb dS_remove_22 ?_
  refine xw_topi (y := nI (ns.length - 1)) (pk_sub (b := 1) (by omega)) ?_
  refine va_put (D := (dC, dI)) (ci := 1) (v := .int (nI (ns.length - 1))) (ty := .int) (C := "ShellSum$Names") (T := TS) (N := 2) hx hb htz zu_S tyS tyS_ok nmS hown hK hP hD hS kn hn rfl 1 (by decide) (htz _ zw_1_35) (fun _ h9 => h9) rfl (by decide +kernel) rfl rfl (Nat.le_of_ble_eq_true rfl) dS_remove_23 (fun H locs hP hD hS => ?_)
  have hP : va_P (dC, dI) vwCl (ws.set kn (aN, .inr (1, [.ref aK, .int (nI (ns.length - 1))]))) H := hP
  have hD : va_D A (ws.set kn (aN, .inr (1, [.ref aK, .int (nI (ns.length - 1))]))) := hD
  have e_w : (ws.set kn (aN, .inr (1, [.ref aK, .int (nI (ns.length - 1))]))) = ((ws.set kn (aN, .inr (1, [.ref aK, .int (nI (ns.length - 1))]))).set kk (aK, .inl (kQ, 64, .inr (.inr (.inr (.inr q)))))) := by rw [List.set_comm _ _ hnk, (show ws.set kk (aK, .inl (kQ, 64, .inr (.inr (.inr (.inr q))))) = ws from by obtain ⟨h1, h2⟩ := List.getElem?_eq_some_iff.mp hkk; rw [← h2, List.set_getElem_self])]
  rw [e_w] at hP hD
  refine lv_iconst (v := 0) hx hb dS_remove_26 (by decide) ?_
  refine xw_topi (y := nI 0) (nI_0.symm) ?_
  refine lv_istore (lv' := [(5, .int (nI 0)), (4, .ref x.1.1), (0, .ref aN), (1, .ref fr), (2, .int (nI b0)), (3, .int (nI (b0 + ql.length)))]) hx hb dS_remove_27 hl (by decide) rfl (fun ls hl => ?_)
  have loop_29 : ∀ (f_loop_29 : Nat) (k : Nat) (q2 : Nat → Option Nat), ns.length - 1 - k < f_loop_29 → (k ≤ ns.length - 1) → (∀ i, i < ns.length → q2 i = if i < k ∧ i = j then q (ns.length - 1) else q i) → ∀ (H : Heap) (locs : List Loc), va_P (dC, dI) vwCl ((ws.set kn (aN, .inr (1, [.ref aK, .int (nI (ns.length - 1))]))).set kk (aK, .inl (kQ, 64, .inr (.inr (.inr (.inr q2)))))) H → va_D A ((ws.set kn (aN, .inr (1, [.ref aK, .int (nI (ns.length - 1))]))).set kk (aK, .inl (kQ, 64, .inr (.inr (.inr (.inr q2)))))) → va_S A s.heap H locs → ∀ ls : Array Slot, lv_has ls 6 [(5, .int (nI k)), (4, .ref x.1.1), (0, .ref aN), (1, .ref fr), (2, .int (nI b0)), (3, .int (nI (b0 + ql.length)))] → W p l e (headSpec wsS_remove ({ frames := 2, cells := 0, slots := 0, locals := 60 })).room s m ([.ref aN, .ref fr, .int (nI b0), .int (nI (b0 + ql.length))] : List Value).toArray below meth c H locs 0 0 (MQ below (zQ dC dI A (fun v w => (sh_fi ns ql = none ∧ v = some (.int 0) ∧ w = ws) ∨ (∃ (x : rw_N) (j : Nat) (q2 : Nat → Option Nat), sh_fi ns ql = some x ∧ ns[j]? = some x ∧ v = some (.int 1) ∧ (∀ i, i < ns.length - 1 → q2 i = if i = j then q (ns.length - 1) else q i) ∧ w = ((ws.set kn (aN, .inr (1, [.ref aK, .int (nI (ns.length - 1))]))).set kk (aK, .inl (kQ, 64, .inr (.inr (.inr (.inr q2))))))))) ([.ref aN, .ref fr, .int (nI b0), .int (nI (b0 + ql.length))] : List Value).toArray s 0 0 A) (F0 m 29 ls []) := by
    intro f_loop_29
    induction f_loop_29 with
    | zero => intro k q2 hf; exact absurd hf (Nat.not_lt_zero _)
    | succ f_loop_29 ih_loop_29 =>
      intro k q2 hf_loop_29 hk hq2 H locs hP hD hS ls hl
      refine lv_iload hx hb dS_remove_29 (lv_at hl 0 rfl) ?_
      refine lv_aload_n hx hb dS_remove_31 rfl (lv_at hl 2 rfl) ?_
      refine va_get (D := (dC, dI)) (ci := 1) (v := .int (nI (ns.length - 1))) (C := "ShellSum$Names") (T := TS) (N := 2) hx hb htz zu_S hown hK hP kn ((List.getElem?_set_ne (Ne.symm hnk)).trans (List.getElem?_set_self (xl_of hn))) rfl 1 (by decide) (htz _ zw_1_35) (fun _ h9 => h9) rfl dS_remove_32 ?_
      refine lv_icmp_ge (tgt := 84) hx hb dS_remove_35 (by decide) (fun c_1 => ?_) (fun c_1 => ?_)
      · skip
        have e_35 : ns.length - 1 ≤ k := xi_le c_1 (by omega) (by omega)
        refine lv_iconst (v := 1) hx hb dS_remove_84 (by decide) ?_
        refine W.widen (k := 0) (n := 0) (Nat.le_refl _) (Nat.le_refl _) ?_
        exact W.zret (v := 1) hx hb hr (rfl) (fun t ht _ => ⟨_, _, rfl, Or.inr ⟨x, j, q2, hfi, hxj, rfl, fun i h => by rw [hq2 i (by omega)]; grind, rfl⟩, by rw [ht]; exact hP, hD, hS.F ht⟩) hS.2.2 dS_remove_85
      have e_35 : k < ns.length - 1 := xi_nle c_1 (by omega) (by omega)
      refine lv_aload_n hx hb dS_remove_38 rfl (lv_at hl 2 rfl) ?_
      refine va_get (D := (dC, dI)) (ci := 1) (v := .int (nI (ns.length - 1))) (C := "ShellSum$Names") (T := TS) (N := 2) hx hb htz zu_S hown hK hP kn ((List.getElem?_set_ne (Ne.symm hnk)).trans (List.getElem?_set_self (xl_of hn))) rfl 1 (by decide) (htz _ zw_1_35) (fun _ h9 => h9) rfl dS_remove_39 ?_
      refine lv_aload_n hx hb dS_remove_42 rfl (lv_at hl 2 rfl) ?_
      refine va_get (D := (dC, dI)) (ci := 1) (v := .ref aK) (C := "ShellSum$Names") (T := TS) (N := 2) hx hb htz zu_S hown hK hP kn ((List.getElem?_set_ne (Ne.symm hnk)).trans (List.getElem?_set_self (xl_of hn))) rfl 0 (by decide) (htz _ zw_1_34) (fun _ h9 => h9) rfl dS_remove_43 ?_
      refine va_alen hx hb hK hP kk 3 (List.getElem?_set_self (by rw [List.length_set]; exact xl_of hkk)) (ty := (.object "ShellSum$Named")) rfl (v := nI 64) rfl dS_remove_46 ?_
      refine lv_icmp_ge (tgt := 84) hx hb dS_remove_47 (by decide) (fun c_2 => ?_) (fun c_2 => ?_)
      · skip
        exact absurd (xi_le (a := 64) c_2 (by decide) (by omega)) (by omega)
      obtain ⟨y, hyk⟩ : ∃ y, ns[k]? = some y := ⟨_, List.getElem?_eq_getElem (by omega)⟩
      have hqk : q2 k = some y.1.1 := by rw [hq2 k (by omega), if_neg (by omega)]; exact (hpo k y hyk).1
      refine lv_aload_n hx hb dS_remove_50 rfl (lv_at hl 2 rfl) ?_
      refine va_get (D := (dC, dI)) (ci := 1) (v := .ref aK) (C := "ShellSum$Names") (T := TS) (N := 2) hx hb htz zu_S hown hK hP kn ((List.getElem?_set_ne (Ne.symm hnk)).trans (List.getElem?_set_self (xl_of hn))) rfl 0 (by decide) (htz _ zw_1_34) (fun _ h9 => h9) rfl dS_remove_51 ?_
      refine lv_iload hx hb dS_remove_54 (lv_at hl 0 rfl) ?_
      refine va_aldq hx hb hK hP kk 3 (List.getElem?_set_self (by rw [List.length_set]; exact xl_of hkk)) rfl (vp_in_nI (by omega) (by omega)) dS_remove_56 ?_
      refine xw_topv (y := va_rf (some y.1.1)) (by rw [nI_clamp (by omega), hqk]) ?_
      refine lv_aload hx hb dS_remove_57 (lv_at hl 1 rfl) ?_
      refine lv_acmp_ne (rx := some y.1.1) (ry := some x.1.1) (tgt := 78) hx hb dS_remove_59 (by decide) (fun c_a => ?_) (fun c_a => ?_)
      · skip
        have e_j : k ≠ j := fun e => c_a (by rw [e] at hyk; rw [hxj] at hyk; cases hyk; rfl)
        refine lv_iinc (v := nI (k + 1)) (lv' := [(5, .int (nI (k + 1))), (4, .ref x.1.1), (0, .ref aN), (1, .ref fr), (2, .int (nI b0)), (3, .int (nI (b0 + ql.length)))]) hx hb dS_remove_78 hl (k := 0) rfl (nI_1 k) (by decide) rfl (fun ls hl => ?_)
        refine lv_goto (tgt := 29) hx hb dS_remove_81 (by decide) ?_
        exact ih_loop_29 (k + 1) q2 (by omega) (by omega) (fun i h => by rw [hq2 i h]; grind) _ _ hP hD hS ls (lv_sub hl [0, 1, 2, 3, 4, 5] rfl)
      have e_j : k = j := sh_pool_inj hDw hpo hyk hxj (Option.some.inj c_a)
      obtain ⟨z, hzk⟩ : ∃ z, ns[ns.length - 1]? = some z := ⟨_, List.getElem?_eq_getElem (by omega)⟩
      have hqz : q2 (ns.length - 1) = some z.1.1 := by rw [hq2 _ (by omega), if_neg (by omega)]; exact (hpo _ z hzk).1
      refine lv_aload_n hx hb dS_remove_62 rfl (lv_at hl 2 rfl) ?_
      refine va_get (D := (dC, dI)) (ci := 1) (v := .ref aK) (C := "ShellSum$Names") (T := TS) (N := 2) hx hb htz zu_S hown hK hP kn ((List.getElem?_set_ne (Ne.symm hnk)).trans (List.getElem?_set_self (xl_of hn))) rfl 0 (by decide) (htz _ zw_1_34) (fun _ h9 => h9) rfl dS_remove_63 ?_
      refine lv_iload hx hb dS_remove_66 (lv_at hl 0 rfl) ?_
      refine lv_aload_n hx hb dS_remove_68 rfl (lv_at hl 2 rfl) ?_
      refine va_get (D := (dC, dI)) (ci := 1) (v := .ref aK) (C := "ShellSum$Names") (T := TS) (N := 2) hx hb htz zu_S hown hK hP kn ((List.getElem?_set_ne (Ne.symm hnk)).trans (List.getElem?_set_self (xl_of hn))) rfl 0 (by decide) (htz _ zw_1_34) (fun _ h9 => h9) rfl dS_remove_69 ?_
      refine lv_aload_n hx hb dS_remove_72 rfl (lv_at hl 2 rfl) ?_
      refine va_get (D := (dC, dI)) (ci := 1) (v := .int (nI (ns.length - 1))) (C := "ShellSum$Names") (T := TS) (N := 2) hx hb htz zu_S hown hK hP kn ((List.getElem?_set_ne (Ne.symm hnk)).trans (List.getElem?_set_self (xl_of hn))) rfl 1 (by decide) (htz _ zw_1_35) (fun _ h9 => h9) rfl dS_remove_73 ?_
      refine va_aldq hx hb hK hP kk 3 (List.getElem?_set_self (by rw [List.length_set]; exact xl_of hkk)) rfl (vp_in_nI (by omega) (by omega)) dS_remove_76 ?_
      refine xw_topv (y := .ref z.1.1) (by rw [nI_clamp (by omega), hqz]; rfl) ?_
      refine va_astq hx hb hK hP hD hS kk 3 (kp + 3 * (ns.length - 1)) 0 (List.getElem?_set_self (by rw [List.length_set]; exact xl_of hkk)) rfl ((List.getElem?_set_ne (by omega)).trans ((List.getElem?_set_ne (by omega)).trans (hpo _ z hzk).2.1)) rfl (vp_in_nI (by omega) (by decide)) dS_remove_77 (fun H locs hP hD hS => ?_)
      rw [nI_clamp (by omega), List.set_set] at hP hD
      have hqz9 := (hpo _ z hzk).1
      refine lv_iinc (v := nI (k + 1)) (lv' := [(5, .int (nI (k + 1))), (4, .ref x.1.1), (0, .ref aN), (1, .ref fr), (2, .int (nI b0)), (3, .int (nI (b0 + ql.length)))]) hx hb dS_remove_78 hl (k := 0) rfl (nI_1 k) (by decide) rfl (fun ls hl => ?_)
      refine lv_goto (tgt := 29) hx hb dS_remove_81 (by decide) ?_
      exact ih_loop_29 (k + 1) (va_up q2 k (some z.1.1)) (by omega) (by omega) (fun i h => by unfold va_up; have := hq2 i h; grind) _ _ hP hD hS ls (lv_sub hl [0, 1, 2, 3, 4, 5] rfl)
  exact loop_29 _ 0 q (Nat.lt_succ_self _) (Nat.zero_le _) (fun i h => by rw [if_neg (by omega)]) _ _ hP hD hS ls (lv_sub hl [0, 1, 2, 3, 4, 5] rfl)
