set_option maxHeartbeats 4000000 in
set_option maxRecDepth 100000 in
/-- isCalled(other, start, end) -/
theorem k_N_isCalled (l : Launch) (dC : Nat → ClassId) (dI : Nat → Nat → Nat) (kC kI kJ kQ : ClassId) (ws : va_W) (a la ra k0 k1 : Nat) (len : Int32) (nm : List Int32) (h0 : ws[k0]? = some (a, .inr (0, [.ref la, .ref ra, .int len]))) (h1 : ws[k1]? = some (la, .inl (kC, nm.length, .inl (fun i => nm.getD i 0)))) (hnm : nm.length ≤ 300) (fr kf N b0 : Nat) (f : Nat → Int32) (ql : List Int32) (hfr : ws[kf]? = some (fr, .inl (kC, N, .inl f))) (hql : ∀ j, j < ql.length → f (b0 + j) = sh_at ql j) (hN1 : b0 + ql.length ≤ N) (hN3 : N ≤ 1000) : Met l yN_isCalled wsN_isCalled ({ frames := 0, cells := 0, slots := 0, locals := 0 }) (va_Pc [.ref a, .ref fr, .int (nI b0), .int (nI (b0 + ql.length))] (zR dC dI [(kC, .char), (kI, .int), (kJ, .long), (kQ, .object "ShellSum$Named")] ws)) (rq_ (some (.int (sh_b (decide (nm = ql)))))) 0 0 (fun _ => False) := by
  refine Met.ofW (cc := cN_isCalled) (maxL := 5) (ret := (some .boolean)) (by decide) rfl ?_
  intro p e s m args below meth c s₁ B hml hv
  obtain ⟨rfl, hP, hK, hN⟩ := hv
  have hx := B.exec
  have hb := B.bytes
  have hr := B.returns
  have htz : ∀ w ∈ zw, w.before _ s = true := fun w h => atoms_spec (ws := wsN_isCalled) B.pre w (List.mem_cons_of_mem _ h)
  have hown : s.vm.findClass "ShellSum$Named" = some m.cls := findClass_of_methodNamed B.named
  have hlocks := B.notSynchronized
  have hl := lv_entry ([.ref a, .ref fr, .int (nI b0), .int (nI (b0 + ql.length))]) (n := 5) (Nat.le_of_ble_eq_true rfl)
  rw [lg_entry_eq]
  generalize (lg_sl ([.ref a, .ref fr, .int (nI b0), .int (nI (b0 + ql.length))]) ++ List.replicate (5 - (lg_sl ([.ref a, .ref fr, .int (nI b0), .int (nI (b0 + ql.length))])).length) Slot.unset).toArray = ls at hl ⊢
  have hl : lv_has ls 5 [(0, .ref a), (1, .ref fr), (2, .int (nI b0)), (3, .int (nI (b0 + ql.length)))] := hl
  refine lv_iload_n hx hb dN_isCalled_0 rfl (lv_at hl 2 rfl) ?_
  refine lv_if_lt (tgt := 21) hx hb dN_isCalled_1 (by decide) (fun c_1 => ?_) (fun c_1 => ?_)
  · skip
    exact absurd c_1 (nI_pos (by omega))
  refine lv_iload_n hx hb dN_isCalled_4 rfl (lv_at hl 3 rfl) ?_
  refine lv_aload_n hx hb dN_isCalled_5 rfl (lv_at hl 1 rfl) ?_
  refine va_alen hx hb hK hP kf 0 hfr (ty := .char) rfl (v := nI N) rfl dN_isCalled_6 ?_
  refine lv_icmp_gt (tgt := 21) hx hb dN_isCalled_7 (by decide) (fun c_2 => ?_) (fun c_2 => ?_)
  · skip
    exact absurd (xi_lt c_2 (by omega) (by omega)) (by omega)
  refine lv_iload_n hx hb dN_isCalled_10 rfl (lv_at hl 3 rfl) ?_
  refine lv_iload_n hx hb dN_isCalled_11 rfl (lv_at hl 2 rfl) ?_
  refine lv_isub hx hb dN_isCalled_12 ?_
  refine xw_topi (y := nI ql.length) (by rw [pk_sub (by omega)]; congr 1; omega) ?_
  refine lv_aload_n hx hb dN_isCalled_13 rfl (lv_at hl 0 rfl) ?_
  refine va_get (D := (dC, dI)) (ci := 0) (v := .ref la) (C := "ShellSum$Named") (T := TN) (N := 3) hx hb htz zu_N hown hK hP k0 h0 rfl 0 (by decide) (htz _ zw_1_158) (fun _ h9 => h9) rfl dN_isCalled_14 ?_
  refine va_alen hx hb hK hP k1 0 h1 (ty := .char) rfl (v := nI nm.length) rfl dN_isCalled_17 ?_
  refine lv_icmp_eq (tgt := 23) hx hb dN_isCalled_18 (by decide) (fun c_3 => ?_) (fun c_3 => ?_)
  · skip
    have e_18 : ql.length = nm.length := xi_eq c_3 (by omega) (by omega)
    refine lv_iconst (v := 0) hx hb dN_isCalled_23 (by decide) ?_
    refine xw_topi (y := nI 0) (nI_0.symm) ?_
    refine lv_istore (lv' := [(4, .int (nI 0)), (0, .ref a), (1, .ref fr), (2, .int (nI b0)), (3, .int (nI (b0 + ql.length)))]) hx hb dN_isCalled_24 hl (by decide) rfl (fun ls hl => ?_)
    have loop_26 : ∀ (f_loop_26 : Nat) (k : Nat), nm.length - k < f_loop_26 → (k ≤ nm.length) → (∀ j, j < k → sh_at nm j = sh_at ql j) → ∀ ls : Array Slot, lv_has ls 5 [(4, .int (nI k)), (0, .ref a), (1, .ref fr), (2, .int (nI b0)), (3, .int (nI (b0 + ql.length)))] → W p l e (headSpec wsN_isCalled ({ frames := 0, cells := 0, slots := 0, locals := 0 })).room s m ([.ref a, .ref fr, .int (nI b0), .int (nI (b0 + ql.length))] : List Value).toArray below meth c s.heap [] 0 0 (MQ below (rq_ (some (.int (sh_b (decide (nm = ql)))))) ([.ref a, .ref fr, .int (nI b0), .int (nI (b0 + ql.length))] : List Value).toArray s 0 0 (fun _ => False)) (F0 m 26 ls []) := by
      intro f_loop_26
      induction f_loop_26 with
      | zero => intro k hf; exact absurd hf (Nat.not_lt_zero _)
      | succ f_loop_26 ih_loop_26 =>
        intro k hf_loop_26 hk hj ls hl
        refine lv_iload hx hb dN_isCalled_26 (lv_at hl 0 rfl) ?_
        refine lv_aload_n hx hb dN_isCalled_28 rfl (lv_at hl 1 rfl) ?_
        refine va_get (D := (dC, dI)) (ci := 0) (v := .ref la) (C := "ShellSum$Named") (T := TN) (N := 3) hx hb htz zu_N hown hK hP k0 h0 rfl 0 (by decide) (htz _ zw_1_158) (fun _ h9 => h9) rfl dN_isCalled_29 ?_
        refine va_alen hx hb hK hP k1 0 h1 (ty := .char) rfl (v := nI nm.length) rfl dN_isCalled_32 ?_
        refine lv_icmp_ge (tgt := 60) hx hb dN_isCalled_33 (by decide) (fun c_4 => ?_) (fun c_4 => ?_)
        · skip
          have e_33 : nm.length ≤ k := xi_le c_4 (by omega) (by omega)
          refine lv_iconst (v := 1) hx hb dN_isCalled_60 (by decide) ?_
          exact W.zret (v := 1) hx hb hr rfl (fun t ht _ => ⟨by rw [decide_eq_true (sh_ext e_18.symm (fun j h => hj j (by omega)))]; rfl, ht⟩) t_nil dN_isCalled_61
        have e_33 : k < nm.length := xi_nle c_4 (by omega) (by omega)
        refine lv_aload_n hx hb dN_isCalled_36 rfl (lv_at hl 1 rfl) ?_
        refine va_get (D := (dC, dI)) (ci := 0) (v := .ref la) (C := "ShellSum$Named") (T := TN) (N := 3) hx hb htz zu_N hown hK hP k0 h0 rfl 0 (by decide) (htz _ zw_1_158) (fun _ h9 => h9) rfl dN_isCalled_37 ?_
        refine lv_iload hx hb dN_isCalled_40 (lv_at hl 0 rfl) ?_
        refine va_cald hx hb hK hP k1 0 h1 rfl (vp_in_nI (by omega) (by omega)) dN_isCalled_42 ?_
        refine xw_topi (y := (fun i => nm.getD i 0) k) (by rw [nI_clamp (by omega)]) ?_
        refine xw_topi (y := sh_at nm k) (rfl) ?_
        refine lv_aload_n hx hb dN_isCalled_43 rfl (lv_at hl 2 rfl) ?_
        refine lv_iload_n hx hb dN_isCalled_44 rfl (lv_at hl 3 rfl) ?_
        refine lv_iload hx hb dN_isCalled_45 (lv_at hl 0 rfl) ?_
        refine lv_iadd hx hb dN_isCalled_47 ?_
        refine xw_topi (y := nI (b0 + k)) (nI_add b0 k) ?_
        refine va_cald hx hb hK hP kf 0 hfr rfl (vp_in_nI (by omega) (by omega)) dN_isCalled_48 ?_
        refine xw_topi (y := f (b0 + k)) (by rw [nI_clamp (by omega)]) ?_
        refine xw_topi (y := sh_at ql k) (hql k (by omega)) ?_
        refine lv_icmp_eq (tgt := 54) hx hb dN_isCalled_49 (by decide) (fun c_5 => ?_) (fun c_5 => ?_)
        · skip
          refine lv_iinc (v := nI (k + 1)) (lv' := [(4, .int (nI (k + 1))), (0, .ref a), (1, .ref fr), (2, .int (nI b0)), (3, .int (nI (b0 + ql.length)))]) hx hb dN_isCalled_54 hl (k := 0) rfl (nI_1 k) (by decide) rfl (fun ls hl => ?_)
          refine lv_goto (tgt := 26) hx hb dN_isCalled_57 (by decide) ?_
          exact ih_loop_26 (k + 1) (by omega) (by omega) (lt_s hj c_5) ls (lv_sub hl [0, 1, 2, 3, 4] rfl)
        refine lv_iconst (v := 0) hx hb dN_isCalled_52 (by decide) ?_
        exact W.zret (v := 0) hx hb hr rfl (fun t ht _ => ⟨by rw [decide_eq_false (fun e => c_5 (by rw [e]))]; rfl, ht⟩) t_nil dN_isCalled_53
    exact loop_26 _ 0 (Nat.lt_succ_self _) (Nat.zero_le _) (fun j h => absurd h (Nat.not_lt_zero _)) ls (lv_sub hl [0, 1, 2, 3, 4] rfl)
  have e_18 : ql.length ≠ nm.length := xi_ne c_3 (by omega) (by omega)
  refine lv_iconst (v := 0) hx hb dN_isCalled_21 (by decide) ?_
  exact W.zret (v := 0) hx hb hr rfl (fun t ht _ => ⟨by rw [decide_eq_false (fun e => e_18 (by rw [e]))]; rfl, ht⟩) t_nil dN_isCalled_22
set_option maxHeartbeats 4000000 in
set_option maxRecDepth 100000 in
/-- find(from, start, end) -/
theorem k_S_find (l : Launch) (dC : Nat → ClassId) (dI : Nat → Nat → Nat) (kC kI kJ kQ : ClassId) (ws : va_W) (aN aK kn kk kp : Nat) (q : Nat → Option Nat) (ns : List rw_N) (hn : ws[kn]? = some (aN, .inr (1, [.ref aK, .int (nI ns.length)]))) (hkk : ws[kk]? = some (aK, .inl (kQ, 64, .inr (.inr (.inr (.inr q)))))) (hpo : sh_pool ws kp kC q ns) (hns : ns.length ≤ 64) (fr kf N b0 : Nat) (f : Nat → Int32) (ql : List Int32) (hfr : ws[kf]? = some (fr, .inl (kC, N, .inl f))) (hql : ∀ j, j < ql.length → f (b0 + j) = sh_at ql j) (hN1 : b0 + ql.length ≤ N) (hN3 : N ≤ 1000) : Met l yS_find wsS_find ({ frames := 1, cells := 0, slots := 0, locals := 30 }) (va_Pc [.ref aN, .ref fr, .int (nI b0), .int (nI (b0 + ql.length))] (zR dC dI [(kC, .char), (kI, .int), (kJ, .long), (kQ, .object "ShellSum$Named")] ws)) (rq_ (some (va_rf ((sh_fi ns ql).map (fun x => x.1.1))))) 0 0 (fun _ => False) := by
  refine Met.ofW (cc := cS_find) (maxL := 6) (ret := (some (.object "ShellSum$Named"))) (by decide) rfl ?_
  intro p e s m args below meth c s₁ B hml hv
  obtain ⟨rfl, hP, hK, hN⟩ := hv
  have hx := B.exec
  have hb := B.bytes
  have hr := B.returns
  have htz : ∀ w ∈ zw, w.before _ s = true := fun w h => atoms_spec (ws := wsS_find) B.pre w (List.mem_cons_of_mem _ h)
  have hown : s.vm.findClass "ShellSum$Names" = some m.cls := findClass_of_methodNamed B.named
  have hlocks := B.notSynchronized
  have hl := lv_entry ([.ref aN, .ref fr, .int (nI b0), .int (nI (b0 + ql.length))]) (n := 6) (Nat.le_of_ble_eq_true rfl)
  rw [lg_entry_eq]
  generalize (lg_sl ([.ref aN, .ref fr, .int (nI b0), .int (nI (b0 + ql.length))]) ++ List.replicate (6 - (lg_sl ([.ref aN, .ref fr, .int (nI b0), .int (nI (b0 + ql.length))])).length) Slot.unset).toArray = ls at hl ⊢
  have hl : lv_has ls 6 [(0, .ref aN), (1, .ref fr), (2, .int (nI b0)), (3, .int (nI (b0 + ql.length)))] := hl
  refine lv_iconst (v := 0) hx hb dS_find_0 (by decide) ?_
  refine xw_topi (y := nI 0) (nI_0.symm) ?_
  refine lv_istore (lv' := [(4, .int (nI 0)), (0, .ref aN), (1, .ref fr), (2, .int (nI b0)), (3, .int (nI (b0 + ql.length)))]) hx hb dS_find_1 hl (by decide) rfl (fun ls hl => ?_)
  have loop_3 : ∀ (f_loop_3 : Nat) (k : Nat), ns.length - k < f_loop_3 → (k ≤ ns.length) → (∀ j, j < k → ∀ x, ns[j]? = some x → ¬ x.2.1 = ql) → ∀ ls : Array Slot, lv_has ls 6 [(4, .int (nI k)), (0, .ref aN), (1, .ref fr), (2, .int (nI b0)), (3, .int (nI (b0 + ql.length)))] → W p l e (headSpec wsS_find ({ frames := 1, cells := 0, slots := 0, locals := 30 })).room s m ([.ref aN, .ref fr, .int (nI b0), .int (nI (b0 + ql.length))] : List Value).toArray below meth c s.heap [] 0 0 (MQ below (rq_ (some (va_rf ((sh_fi ns ql).map (fun x => x.1.1))))) ([.ref aN, .ref fr, .int (nI b0), .int (nI (b0 + ql.length))] : List Value).toArray s 0 0 (fun _ => False)) (F0 m 3 ls []) := by
    intro f_loop_3
    induction f_loop_3 with
    | zero => intro k hf; exact absurd hf (Nat.not_lt_zero _)
    | succ f_loop_3 ih_loop_3 =>
      intro k hf_loop_3 hk hj ls hl
      refine lv_iload hx hb dS_find_3 (lv_at hl 0 rfl) ?_
      refine lv_aload_n hx hb dS_find_5 rfl (lv_at hl 1 rfl) ?_
      refine va_get (D := (dC, dI)) (ci := 1) (v := .int (nI ns.length)) (C := "ShellSum$Names") (T := TS) (N := 2) hx hb htz zu_S hown hK hP kn hn rfl 1 (by decide) (htz _ zw_1_35) (fun _ h9 => h9) rfl dS_find_6 ?_
      refine lv_icmp_ge (tgt := 56) hx hb dS_find_9 (by decide) (fun c_1 => ?_) (fun c_1 => ?_)
      · skip
        have e_9 : ns.length ≤ k := xi_le c_1 (by omega) (by omega)
        refine lv_null hx hb dS_find_56 ?_
        exact W.aret (v := .null) hx hb hr (Or.inl ⟨_, rfl⟩) (Or.inl rfl) (fun t ht _ => ⟨by rw [sh_fi_none (fun j h => hj j (by omega))]; rfl, ht⟩) t_nil dS_find_57
      have e_9 : k < ns.length := xi_nle c_1 (by omega) (by omega)
      refine lv_iload hx hb dS_find_12 (lv_at hl 0 rfl) ?_
      refine lv_aload_n hx hb dS_find_14 rfl (lv_at hl 1 rfl) ?_
      refine va_get (D := (dC, dI)) (ci := 1) (v := .ref aK) (C := "ShellSum$Names") (T := TS) (N := 2) hx hb htz zu_S hown hK hP kn hn rfl 0 (by decide) (htz _ zw_1_34) (fun _ h9 => h9) rfl dS_find_15 ?_
      refine va_alen hx hb hK hP kk 3 hkk (ty := (.object "ShellSum$Named")) rfl (v := nI 64) rfl dS_find_18 ?_
      refine lv_icmp_ge (tgt := 56) hx hb dS_find_19 (by decide) (fun c_2 => ?_) (fun c_2 => ?_)
      · skip
        exact absurd (xi_le (a := 64) c_2 (by decide) (by omega)) (by omega)
      obtain ⟨x, hxk⟩ : ∃ x, ns[k]? = some x := ⟨_, List.getElem?_eq_getElem e_9⟩
      obtain ⟨hq, ho, hlt, -, hx9⟩ := hpo k x hxk
      refine lv_aload_n hx hb dS_find_22 rfl (lv_at hl 1 rfl) ?_
      refine va_get (D := (dC, dI)) (ci := 1) (v := .ref aK) (C := "ShellSum$Names") (T := TS) (N := 2) hx hb htz zu_S hown hK hP kn hn rfl 0 (by decide) (htz _ zw_1_34) (fun _ h9 => h9) rfl dS_find_23 ?_
      refine lv_iload hx hb dS_find_26 (lv_at hl 0 rfl) ?_
      refine va_aldq hx hb hK hP kk 3 hkk rfl (vp_in_nI (by omega) (by omega)) dS_find_28 ?_
      refine xw_topv (y := .ref x.1.1) (by rw [nI_clamp (by omega), hq]; rfl) ?_
      refine lv_astore (lv' := [(5, .ref x.1.1), (4, .int (nI k)), (0, .ref aN), (1, .ref fr), (2, .int (nI b0)), (3, .int (nI (b0 + ql.length)))]) hx hb dS_find_29 hl (by decide) rfl (fun ls hl => ?_)
      refine lv_aload hx hb dS_find_31 (lv_at hl 0 rfl) ?_
      refine lv_ifnull hx hb dS_find_33 ?_
      refine lv_aload hx hb dS_find_36 (lv_at hl 0 rfl) ?_
      refine lv_aload_n hx hb dS_find_38 rfl (lv_at hl 3 rfl) ?_
      refine lv_iload_n hx hb dS_find_39 rfl (lv_at hl 4 rfl) ?_
      refine lv_iload_n hx hb dS_find_40 rfl (lv_at hl 5 rfl) ?_
      refine rq_call (va_runVN (As := [.ref fr, .int (nI b0), .int (nI (b0 + ql.length))]) (rest := []) ⟨hx, hb, hml, hown, htz⟩ (k_N_isCalled l dC dI kC kI kJ kQ ws x.1.1 x.1.2.1 x.1.2.2 (kp + 3 * k) (kp + 3 * k + 1) x.2.2.2 x.2.1 ho hlt hx9 fr kf N b0 f ql hfr hql hN1 hN3) ⟨va_cnB 3 htz (zg_c zw_1_150) rfl rfl rfl (hN _ zn_1_146) (htz _ zw_1_10) (by decide +kernel) ⟨Nat.le_of_ble_eq_true rfl, Nat.le_of_ble_eq_true rfl⟩, htz _ zw_1_148, htz _ zs_N_isCalled⟩ (zR_V hP hK hN (va_recv hK hP (ci := 0) (q0 := kp + 3 * k) rfl ho)) rfl rfl hl.1 rfl (lv_room (Nat.le_of_ble_eq_true rfl)) dS_find_41 ⟨Nat.zero_le _, Nat.zero_le _⟩) ?_
      refine W.eq (g2 := F0 m 44 ls [.int (sh_b (decide (x.2.1 = ql)))]) rfl ?_
      refine lv_if_eq (tgt := 50) hx hb dS_find_44 (by decide) (fun c_3 => ?_) (fun c_3 => ?_)
      · skip
        refine lv_iinc (v := nI (k + 1)) (lv' := [(4, .int (nI (k + 1))), (5, .ref x.1.1), (0, .ref aN), (1, .ref fr), (2, .int (nI b0)), (3, .int (nI (b0 + ql.length)))]) hx hb dS_find_50 hl (k := 1) rfl (nI_1 k) (by decide) rfl (fun ls hl => ?_)
        refine lv_goto (tgt := 3) hx hb dS_find_53 (by decide) ?_
        exact ih_loop_3 (k + 1) (by omega) (by omega) (lt_s hj (fun z hz => by rw [hxk] at hz; cases hz; grind [sh_b])) ls (lv_sub hl [0, 2, 3, 4, 5] rfl)
      refine lv_aload hx hb dS_find_47 (lv_at hl 0 rfl) ?_
      exact W.aret (v := .ref x.1.1) hx hb hr (Or.inl ⟨_, rfl⟩) (Or.inr ⟨_, rfl⟩) (fun t ht _ => ⟨by rw [sh_fi_some hxk (by grind [sh_b]) hj]; rfl, ht⟩) t_nil dS_find_49
  exact loop_3 _ 0 (Nat.lt_succ_self _) (Nat.zero_le _) (fun j h => absurd h (Nat.not_lt_zero _)) ls (lv_sub hl [0, 1, 2, 3, 4] rfl)
