set_option maxHeartbeats 4000000 in
set_option maxRecDepth 100000 in
/-- Math.max(x, y) -/
theorem k_J_max (l : Launch) (x0 y0 : Int32) : Met l yJ_max wsJ_max ({ frames := 0, cells := 0, slots := 0, locals := 0 }) (va_Pc [.int x0, .int y0] (fun _ => True)) (rq_ (some (.int ((if x0 < y0 then y0 else x0))))) 0 0 (fun _ => False) := by
  refine va_MetF (cc := cJ_max) (maxL := 2) (ret := (some .int)) (by decide +kernel) rfl ?_
  intro p e s m args below meth c s₁ B hml hv
  obtain ⟨rfl, -⟩ := hv
  have hx := B.exec
  have hb := B.bytes
  have hr := B.returns
  have htz : ∀ w ∈ zw, w.before _ s = true := fun w h => atoms_spec (ws := wsJ_max) B.pre w (List.mem_cons_of_mem _ h)
  have hown : s.vm.findClass "java/lang/Math" = some m.cls := findClass_of_methodNamed B.named
  have hlocks := B.notSynchronized
  have hl := lv_entry ([.int x0, .int y0]) (n := 2) (Nat.le_of_ble_eq_true rfl)
  rw [lg_entry_eq]
  generalize (lg_sl ([.int x0, .int y0]) ++ List.replicate (2 - (lg_sl ([.int x0, .int y0])).length) Slot.unset).toArray = ls at hl ⊢
  have hl : lv_has ls 2 [(0, .int x0), (1, .int y0)] := hl
  refine lv_iload_n hx hb dJ_max_0 rfl (lv_at hl 0 rfl) ?_
  refine lv_iload_n hx hb dJ_max_1 rfl (lv_at hl 1 rfl) ?_
  refine lv_icmp_lt (tgt := 9) hx hb dJ_max_2 (by decide) (fun c_1 => ?_) (fun c_1 => ?_)
  · skip
    refine lv_iload_n hx hb dJ_max_9 rfl (lv_at hl 1 rfl) ?_
    exact W.iret (v := y0) hx hb hr (fun t ht _ => ⟨by rw [show (if x0 < y0 then y0 else x0) = y0 from by first | (simp [c_1]; done) | grind []], ht⟩) t_nil dJ_max_10
  refine lv_iload_n hx hb dJ_max_5 rfl (lv_at hl 0 rfl) ?_
  refine lv_goto (tgt := 10) hx hb dJ_max_6 (by decide) ?_
  exact W.iret (v := x0) hx hb hr (fun t ht _ => ⟨by rw [show (if x0 < y0 then y0 else x0) = x0 from by first | (simp [c_1]; done) | grind []], ht⟩) t_nil dJ_max_10
set_option maxHeartbeats 4000000 in
set_option maxRecDepth 100000 in
/-- Named(from, start, end) -/
theorem k_N_init (l : Launch) (dC : Nat → ClassId) (dI : Nat → Nat → Nat) (kC kI kJ kQ : ClassId) (ws : va_W) (sz : Nat) (a : Nat) (fr kf N b0 : Nat) (f : Nat → Int32) (ql : List Int32) (hfr : ws[kf]? = some (fr, .inl (kC, N, .inl f))) (hql : ∀ j, j < ql.length → f (b0 + j) = sh_at ql j) (hN1 : b0 + ql.length ≤ N) (hN3 : N ≤ 1000) (hBq : sh_B ql) : Met l yN_init wsN_init ({ frames := 1, cells := 2, slots := 20 + ql.length, locals := 30 }) (va_Pc [.ref a, .ref fr, .int (nI b0), .int (nI (b0 + ql.length))] (zW dC dI ([(kC, .char), (kI, .int), (kJ, .long), (kQ, .object "ShellSum$Named")]) (ws ++ [(a, .inr (0, [.null, .null, .int 0]))]) sz)) (zQ dC dI (va_A (ws ++ [(a, .inr (0, [.null, .null, .int 0]))]) sz) (fun v w => v = none ∧ ∃ (la ra : Nat) (g : Nat → Int32), w = ws ++ rw_c 0 kC ((a, la, ra), ql, g, 0))) 2 (20 + ql.length) (va_A (ws ++ [(a, .inr (0, [.null, .null, .int 0]))]) sz) := by
  refine Met.ofW (cc := cN_init) (maxL := 5) (ret := none) (by decide) rfl ?_
  intro p e s m args below meth c s₁ B hml hv
  obtain ⟨rfl, hsz, hP, hK, hD0, hN⟩ := hv
  subst hsz
  have hD := hD0.self (sz := s.heap.size)
  generalize hAe : va_A (ws ++ [(a, .inr (0, [.null, .null, .int 0]))]) s.heap.size = A at hD ⊢
  have hA : ∀ q : Nat, s.heap.size ≤ q → A q := fun q h => by rw [← hAe]; exact Or.inr h
  have hS : va_S A s.heap s.heap [] := va_S.rf
  have hx := B.exec
  have hb := B.bytes
  have hr := B.returns
  have htz : ∀ w ∈ zw, w.before _ s = true := fun w h => atoms_spec (ws := wsN_init) B.pre w (List.mem_cons_of_mem _ h)
  have hown : s.vm.findClass "ShellSum$Named" = some m.cls := findClass_of_methodNamed B.named
  have hlocks := B.notSynchronized
  have hl := lv_entry ([.ref a, .ref fr, .int (nI b0), .int (nI (b0 + ql.length))]) (n := 5) (Nat.le_of_ble_eq_true rfl)
  rw [lg_entry_eq]
  generalize (lg_sl ([.ref a, .ref fr, .int (nI b0), .int (nI (b0 + ql.length))]) ++ List.replicate (5 - (lg_sl ([.ref a, .ref fr, .int (nI b0), .int (nI (b0 + ql.length))])).length) Slot.unset).toArray = ls at hl ⊢
  have hin : meth.name = "<init>" := (name_of_methodNamed B.named B.method).1
  have hl : lv_has ls 5 [(0, .ref a), (1, .ref fr), (2, .int (nI b0)), (3, .int (nI (b0 + ql.length)))] := hl
  refine lv_aload_n hx hb dN_init_0 rfl (lv_at hl 0 rfl) ?_
  refine W.objInit hx hb hown (htz _ zw_1_154) (htz _ zw_1_18) (htz _ zw_1_19) rfl (by rw [hml]; exact hl.1) rfl dN_init_1 (Nat.le_of_ble_eq_true rfl) (Nat.le_of_ble_eq_true rfl) ?_
  refine W.eq (g2 := F0 m 4 ls []) rfl ?_
  refine lv_aload_n hx hb dN_init_4 rfl (lv_at hl 0 rfl) ?_
  refine lv_bipush (v := 20) hx hb dN_init_5 (by decide) ?_
  refine va_newa (atype := .char) (N' := 20) (a0 := (20, .inl (fun _ => 0))) (ty := .char) (n := 20) hx hb (htz _ zw_1_42) rfl hK hP hD hS hA (fun _ => rfl) (by decide) (rfl) (by show 20 * 2 ≤ 536870912; omega) (by show 0 + 1 ≤ 2; decide) (by show 0 + 20 ≤ 20 + ql.length; omega) dN_init_7 (fun ra cA H hK hP hD hS => ?_)
  have e9 : cA = kC := Option.some.inj ((va_nm_char (hK.2 4 _ rfl).2).symm.trans (va_nm_char (hK.2 0 _ rfl).2))
  rw [e9] at hK hP hD
  have hK := hK.sub (tys' := [(kC, .char), (kI, .int), (kJ, .long), (kQ, .object "ShellSum$Named")]) [0, 1, 2, 3] rfl
  rw [List.append_assoc] at hP hD
  have hP : va_P (dC, dI) vwCl (ws ++ [(a, .inr (0, [.null, .null, .int 0])), (ra, .inl (kC, 20, .inl (fun _ => 0)))]) H := hP
  have hD : va_D A (ws ++ [(a, .inr (0, [.null, .null, .int 0])), (ra, .inl (kC, 20, .inl (fun _ => 0)))]) := hD
  refine va_putF (D := (dC, dI)) (ci := 0) (v := .ref ra) (ty := .array .char) (C := "ShellSum$Named") (T := TN) (N := 3) hx hb htz zu_N tyN tyN_ok nmN hown hK hP hD hS (ws.length + 0) ((xa_get _ _ 0).trans rfl) rfl 1 (by decide) (htz _ zw_1_159) (fun _ h9 => h9) rfl hin rfl (by decide +kernel) rfl rfl (Nat.le_of_ble_eq_true rfl) dN_init_9 (fun H locs hP hD hS => ?_)
  rw [xa_set] at hP hD
  have hP : va_P (dC, dI) vwCl (ws ++ [(a, .inr (0, [.null, .ref ra, .int 0])), (ra, .inl (kC, 20, .inl (fun _ => 0)))]) H := hP
  have hD : va_D A (ws ++ [(a, .inr (0, [.null, .ref ra, .int 0])), (ra, .inl (kC, 20, .inl (fun _ => 0)))]) := hD
  refine lv_aload_n hx hb dN_init_12 rfl (lv_at hl 0 rfl) ?_
  refine lv_iconst (v := 0) hx hb dN_init_13 (by decide) ?_
  refine va_put (D := (dC, dI)) (ci := 0) (v := .int 0) (ty := .int) (C := "ShellSum$Named") (T := TN) (N := 3) hx hb htz zu_N tyN tyN_ok nmN hown hK hP hD hS (ws.length + 0) ((xa_get _ _ 0).trans rfl) rfl 2 (by decide) (htz _ zw_1_162) (fun _ h9 => h9) rfl (by decide +kernel) rfl rfl (Nat.le_of_ble_eq_true rfl) dN_init_14 (fun H locs hP hD hS => ?_)
  rw [xa_set] at hP hD
  have hP : va_P (dC, dI) vwCl (ws ++ [(a, .inr (0, [.null, .ref ra, .int 0])), (ra, .inl (kC, 20, .inl (fun _ => 0)))]) H := hP
  have hD : va_D A (ws ++ [(a, .inr (0, [.null, .ref ra, .int 0])), (ra, .inl (kC, 20, .inl (fun _ => 0)))]) := hD
  refine lv_aload_n hx hb dN_init_17 rfl (lv_at hl 0 rfl) ?_
  refine lv_iload_n hx hb dN_init_18 rfl (lv_at hl 3 rfl) ?_
  refine lv_iload_n hx hb dN_init_19 rfl (lv_at hl 2 rfl) ?_
  refine lv_isub hx hb dN_init_20 ?_
  refine xw_topi (y := nI ql.length) (by rw [pk_sub (by omega)]; congr 1; omega) ?_
  refine lv_iconst (v := 0) hx hb dN_init_21 (by decide) ?_
  refine rq_call (va_runS (As := [.int (nI ql.length), .int 0]) (rest := [.ref a]) ⟨hx, hb, hml, hown, htz⟩ (k_J_max l (nI ql.length) 0) (va_cwS 2 htz (zg_S zw_1_155 zw_1_156 zw_1_11 zw_1_157) rfl rfl rfl (by decide +kernel) ⟨Nat.le_of_ble_eq_true rfl, Nat.le_of_ble_eq_true rfl⟩) rq_pre rfl rfl hl.1 rfl (lv_room (Nat.le_of_ble_eq_true rfl)) dN_init_22 ⟨by show 0 + 1 + 0 ≤ 2; decide, by show 0 + 20 + 0 ≤ 20 + ql.length; omega⟩) ?_
  refine W.eq (g2 := F0 m 25 ls [.int (if nI ql.length < 0 then 0 else nI ql.length), .ref a]) rfl ?_
  refine xw_topi (y := nI ql.length) (if_neg (nI_pos (by omega))) ?_
  refine va_newa (atype := .char) (N' := ql.length) (a0 := (ql.length, .inl (fun _ => 0))) (ty := .char) (n := (nI ql.length)) hx hb (htz _ zw_1_42) rfl hK hP hD hS hA (fun _ => rfl) (nI_pos (by omega)) (nI_clamp (by omega)) (by show ql.length * 2 ≤ 536870912; omega) (by show 0 + 1 + 1 ≤ 2; decide) (by show 0 + 20 + ql.length ≤ 20 + ql.length; omega) dN_init_25 (fun la cA H hK hP hD hS => ?_)
  have e9 : cA = kC := Option.some.inj ((va_nm_char (hK.2 4 _ rfl).2).symm.trans (va_nm_char (hK.2 0 _ rfl).2))
  rw [e9] at hK hP hD
  have hK := hK.sub (tys' := [(kC, .char), (kI, .int), (kJ, .long), (kQ, .object "ShellSum$Named")]) [0, 1, 2, 3] rfl
  rw [List.append_assoc] at hP hD
  have hP : va_P (dC, dI) vwCl (ws ++ [(a, .inr (0, [.null, .ref ra, .int 0])), (ra, .inl (kC, 20, .inl (fun _ => 0))), (la, .inl (kC, ql.length, .inl (fun _ => 0)))]) H := hP
  have hD : va_D A (ws ++ [(a, .inr (0, [.null, .ref ra, .int 0])), (ra, .inl (kC, 20, .inl (fun _ => 0))), (la, .inl (kC, ql.length, .inl (fun _ => 0)))]) := hD
  refine va_putF (D := (dC, dI)) (ci := 0) (v := .ref la) (ty := .array .char) (C := "ShellSum$Named") (T := TN) (N := 3) hx hb htz zu_N tyN tyN_ok nmN hown hK hP hD hS (ws.length + 0) ((xa_get _ _ 0).trans rfl) rfl 0 (by decide) (htz _ zw_1_158) (fun _ h9 => h9) rfl hin rfl (by decide +kernel) rfl rfl (Nat.le_of_ble_eq_true rfl) dN_init_27 (fun H locs hP hD hS => ?_)
  rw [xa_set] at hP hD
  have hP : va_P (dC, dI) vwCl (ws ++ [(a, .inr (0, [.ref la, .ref ra, .int 0])), (ra, .inl (kC, 20, .inl (fun _ => 0))), (la, .inl (kC, ql.length, .inl (fun _ => 0)))]) H := hP
  have hD : va_D A (ws ++ [(a, .inr (0, [.ref la, .ref ra, .int 0])), (ra, .inl (kC, 20, .inl (fun _ => 0))), (la, .inl (kC, ql.length, .inl (fun _ => 0)))]) := hD
  refine lv_iconst (v := 0) hx hb dN_init_30 (by decide) ?_
  refine xw_topi (y := nI 0) (nI_0.symm) ?_
  refine lv_istore (lv' := [(4, .int (nI 0)), (0, .ref a), (1, .ref fr), (2, .int (nI b0)), (3, .int (nI (b0 + ql.length)))]) hx hb dN_init_31 hl (by decide) rfl (fun ls hl => ?_)
  have loop_33 : ∀ (f_loop_33 : Nat) (k : Nat) (g : Nat → Int32), ql.length - k < f_loop_33 → (k ≤ ql.length) → (∀ j, j < k → g j = sh_at ql j) → ∀ (H : Heap) (locs : List Loc), va_P (dC, dI) vwCl (ws ++ [(a, .inr (0, [.ref la, .ref ra, .int 0])), (ra, .inl (kC, 20, .inl (fun _ => 0))), (la, .inl (kC, ql.length, .inl g))]) H → va_D A (ws ++ [(a, .inr (0, [.ref la, .ref ra, .int 0])), (ra, .inl (kC, 20, .inl (fun _ => 0))), (la, .inl (kC, ql.length, .inl g))]) → va_S A s.heap H locs → ∀ ls : Array Slot, lv_has ls 5 [(4, .int (nI k)), (0, .ref a), (1, .ref fr), (2, .int (nI b0)), (3, .int (nI (b0 + ql.length)))] → W p l e (headSpec wsN_init ({ frames := 1, cells := 2, slots := 20 + ql.length, locals := 30 })).room s m ([.ref a, .ref fr, .int (nI b0), .int (nI (b0 + ql.length))] : List Value).toArray below meth c H locs (0 + 1 + 1) (0 + 20 + ql.length) (MQ below (zQ dC dI A (fun v w => v = none ∧ ∃ (la ra : Nat) (g : Nat → Int32), w = ws ++ rw_c 0 kC ((a, la, ra), ql, g, 0))) ([.ref a, .ref fr, .int (nI b0), .int (nI (b0 + ql.length))] : List Value).toArray s 2 (20 + ql.length) A) (F0 m 33 ls []) := by
    intro f_loop_33
    induction f_loop_33 with
    | zero => intro k g hf; exact absurd hf (Nat.not_lt_zero _)
    | succ f_loop_33 ih_loop_33 =>
      intro k g hf_loop_33 hk hg H locs hP hD hS ls hl
      refine lv_iload hx hb dN_init_33 (lv_at hl 0 rfl) ?_
      refine lv_aload_n hx hb dN_init_35 rfl (lv_at hl 1 rfl) ?_
      refine va_get (D := (dC, dI)) (ci := 0) (v := .ref la) (C := "ShellSum$Named") (T := TN) (N := 3) hx hb htz zu_N hown hK hP (ws.length + 0) ((xa_get _ _ 0).trans rfl) rfl 0 (by decide) (htz _ zw_1_158) (fun _ h9 => h9) rfl dN_init_36 ?_
      refine va_alen hx hb hK hP (ws.length + 2) 0 ((xa_get _ _ 2).trans rfl) (ty := .char) rfl (v := nI ql.length) rfl dN_init_39 ?_
      refine lv_icmp_ge (tgt := 71) hx hb dN_init_40 (by decide) (fun c_1 => ?_) (fun c_1 => ?_)
      · skip
        have e_40 : ql.length ≤ k := xi_le c_1 (by omega) (by omega)
        have e_g : g = g := rfl
        have hP : va_P (dC, dI) vwCl (ws ++ [(a, .inr (0, [.ref la, .ref ra, .int 0])), (la, .inl (kC, ql.length, .inl g)), (ra, .inl (kC, 20, .inl (fun _ => 0)))]) H := xw_Pmem hP (fun q hq => by simp only [List.mem_append, List.mem_cons, List.not_mem_nil, or_false] at hq ⊢; grind)
        have hD : va_D A (ws ++ [(a, .inr (0, [.ref la, .ref ra, .int 0])), (la, .inl (kC, ql.length, .inl g)), (ra, .inl (kC, 20, .inl (fun _ => 0)))]) := xw_Dperm hD (List.Perm.append_left _ (List.Perm.cons _ (List.Perm.swap _ _ _)))
        have hP := na_P hP (g2 := fun i => ql.getD i 0) (fun j h => hg j (by omega))
        have hD := na_D hD (g2 := fun i => ql.getD i 0)
        refine W.widen (k := 2) (n := 20 + ql.length) (by omega) (by omega) ?_
        exact W.vret hx hb hr (fun t ht _ => ⟨_, _, rfl, ⟨rfl, la, ra, fun _ => 0, rfl⟩, by rw [ht]; exact hP, hD, hS.F ht⟩) hS.2.2 dN_init_71
      have e_40 : k < ql.length := xi_nle c_1 (by omega) (by omega)
      refine lv_iload_n hx hb dN_init_43 rfl (lv_at hl 3 rfl) ?_
      refine lv_iload hx hb dN_init_44 (lv_at hl 0 rfl) ?_
      refine lv_iadd hx hb dN_init_46 ?_
      refine xw_topi (y := nI (b0 + k)) (nI_add b0 k) ?_
      refine lv_aload_n hx hb dN_init_47 rfl (lv_at hl 2 rfl) ?_
      refine va_alen hx hb hK hP kf 0 (xa_old hfr) (ty := .char) rfl (v := nI N) rfl dN_init_48 ?_
      refine lv_icmp_ge (tgt := 71) hx hb dN_init_49 (by decide) (fun c_2 => ?_) (fun c_2 => ?_)
      · skip
        exact absurd (xi_le c_2 (by omega) (by omega)) (by omega)
      refine lv_aload_n hx hb dN_init_52 rfl (lv_at hl 1 rfl) ?_
      refine va_get (D := (dC, dI)) (ci := 0) (v := .ref la) (C := "ShellSum$Named") (T := TN) (N := 3) hx hb htz zu_N hown hK hP (ws.length + 0) ((xa_get _ _ 0).trans rfl) rfl 0 (by decide) (htz _ zw_1_158) (fun _ h9 => h9) rfl dN_init_53 ?_
      refine lv_iload hx hb dN_init_56 (lv_at hl 0 rfl) ?_
      refine lv_aload_n hx hb dN_init_58 rfl (lv_at hl 2 rfl) ?_
      refine lv_iload_n hx hb dN_init_59 rfl (lv_at hl 3 rfl) ?_
      refine lv_iload hx hb dN_init_60 (lv_at hl 0 rfl) ?_
      refine lv_iadd hx hb dN_init_62 ?_
      refine xw_topi (y := nI (b0 + k)) (nI_add b0 k) ?_
      refine va_cald hx hb hK hP kf 0 (xa_old hfr) rfl (vp_in_nI (by omega) (by omega)) dN_init_63 ?_
      refine xw_topi (y := f (b0 + k)) (by rw [nI_clamp (by omega)]) ?_
      refine xw_topi (y := sh_at ql k) (hql k (by omega)) ?_
      refine va_cast hx hb hK hP hD hS (ws.length + 2) 0 ((xa_get _ _ 2).trans rfl) rfl (vp_in_nI (by omega) (by omega)) dN_init_64 (fun H locs hP hD hS => ?_)
      rw [xa_set] at hP hD
      have hP : va_P (dC, dI) vwCl (ws ++ [(a, .inr (0, [.ref la, .ref ra, .int 0])), (ra, .inl (kC, 20, .inl (fun _ => 0))), (la, .inl (kC, ql.length, .inl (upd g (nI k).toNatClampNeg (vp_nar .char (sh_at ql k)))))]) H := hP
      have hD : va_D A (ws ++ [(a, .inr (0, [.ref la, .ref ra, .int 0])), (ra, .inl (kC, 20, .inl (fun _ => 0))), (la, .inl (kC, ql.length, .inl (upd g (nI k).toNatClampNeg (vp_nar .char (sh_at ql k)))))]) := hD
      have e_f : upd g (nI k).toNatClampNeg (vp_nar .char (sh_at ql k)) = upd g k (sh_at ql k) := by rw [nI_clamp (by omega), show vp_nar .char (sh_at ql k) = sh_at ql k from by unfold vp_nar; rw [sh_at_nar hBq k]]
      rw [e_f] at hP hD
      refine lv_iinc (v := nI (k + 1)) (lv' := [(4, .int (nI (k + 1))), (0, .ref a), (1, .ref fr), (2, .int (nI b0)), (3, .int (nI (b0 + ql.length)))]) hx hb dN_init_65 hl (k := 0) rfl (nI_1 k) (by decide) rfl (fun ls hl => ?_)
      refine lv_goto (tgt := 33) hx hb dN_init_68 (by decide) ?_
      exact ih_loop_33 (k + 1) (upd g k (sh_at ql k)) (by omega) (by omega) (lt_s (fun j h => (pk_un (by omega)).trans (hg j h)) pk_us) _ _ hP hD hS ls (lv_sub hl [0, 1, 2, 3, 4] rfl)
  exact loop_33 _ 0 (fun _ => 0) (Nat.lt_succ_self _) (Nat.zero_le _) (fun j h => absurd h (Nat.not_lt_zero _)) _ _ hP hD hS ls (lv_sub hl [0, 1, 2, 3, 4] rfl)
