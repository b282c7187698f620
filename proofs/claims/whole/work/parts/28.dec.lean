set_option maxHeartbeats 4000000 in
set_option maxRecDepth 100000 in
/-- Math.abs(x) -/
theorem k_J_abs (l : Launch) (x0 : Int64) : Met l yJ_abs wsJ_abs ({ frames := 0, cells := 0, slots := 0, locals := 0 }) (va_Pc [.long x0] (fun _ => True)) (rq_ (some (.long (sh_abs x0)))) 0 0 (fun _ => False) := by
  refine va_MetF (cc := cJ_abs) (maxL := 2) (ret := (some .long)) (by decide +kernel) rfl ?_
  intro p e s m args below meth c s₁ B hml hv
  obtain ⟨rfl, -⟩ := hv
  have hx := B.exec
  have hb := B.bytes
  have hr := B.returns
  have htz : ∀ w ∈ zw, w.before _ s = true := fun w h => atoms_spec (ws := wsJ_abs) B.pre w (List.mem_cons_of_mem _ h)
  have hown : s.vm.findClass "java/lang/Math" = some m.cls := findClass_of_methodNamed B.named
  have hlocks := B.notSynchronized
  have hl := lv_entry ([.long x0]) (n := 2) (Nat.le_of_ble_eq_true rfl)
  rw [lg_entry_eq]
  generalize (lg_sl ([.long x0]) ++ List.replicate (2 - (lg_sl ([.long x0])).length) Slot.unset).toArray = ls at hl ⊢
  have hl : lv_has ls 2 [(0, .long x0)] := hl
  refine lv_lload_n hx hb dJ_abs_0 rfl (lv_at hl 0 rfl) ?_
  refine lv_lconst (v := 0) hx hb dJ_abs_1 (by decide) ?_
  refine W.lcmp hx hb dJ_abs_2 ?_
  refine lv_if_ge (tgt := 11) hx hb dJ_abs_3 (by decide) (fun c_1 => ?_) (fun c_1 => ?_)
  · skip
    rw [lg_cmp_ge] at c_1
    refine lv_lload_n hx hb dJ_abs_11 rfl (lv_at hl 0 rfl) ?_
    exact W.lret (v := x0) hx hb hr (fun t ht _ => ⟨by rw [show sh_abs x0 = x0 from by first | (simp [sh_abs, c_1]; done) | grind [sh_abs]], ht⟩) t_nil dJ_abs_12
  rw [lg_cmp_ge] at c_1
  refine lv_lload_n hx hb dJ_abs_6 rfl (lv_at hl 0 rfl) ?_
  refine lv_lneg hx hb dJ_abs_7 ?_
  refine lv_goto (tgt := 12) hx hb dJ_abs_8 (by decide) ?_
  exact W.lret (v := -x0) hx hb hr (fun t ht _ => ⟨by rw [show sh_abs x0 = -x0 from by first | (simp [sh_abs, c_1]; done) | grind [sh_abs]], ht⟩) t_nil dJ_abs_12
set_option maxHeartbeats 4000000 in
set_option maxRecDepth 100000 in
/-- decimalLength(value) -/
theorem k_N_decimalLength (l : Launch) (v0 : Int64) : Met l yN_decimalLength wsN_decimalLength ({ frames := 0, cells := 0, slots := 0, locals := 0 }) (va_Pc [.long v0] (fun _ => True)) (rq_ (some (.int (nI (sh_dec v0).length)))) 0 0 (fun _ => False) := by
  refine Met.ofW (cc := cN_decimalLength) (maxL := 5) (ret := (some .int)) (by decide) rfl ?_
  intro p e s m args below meth c s₁ B hml hv
  obtain ⟨rfl, -⟩ := hv
  have hx := B.exec
  have hb := B.bytes
  have hr := B.returns
  have htz : ∀ w ∈ zw, w.before _ s = true := fun w h => atoms_spec (ws := wsN_decimalLength) B.pre w (List.mem_cons_of_mem _ h)
  have hown : s.vm.findClass "ShellSum$Named" = some m.cls := findClass_of_methodNamed B.named
  have hlocks := B.notSynchronized
  have hl := lv_entry ([.long v0]) (n := 5) (Nat.le_of_ble_eq_true rfl)
  rw [lg_entry_eq]
  generalize (lg_sl ([.long v0]) ++ List.replicate (5 - (lg_sl ([.long v0])).length) Slot.unset).toArray = ls at hl ⊢
  have hl : lv_has ls 5 [(0, .long v0)] := hl
  have hle := sh_dec_le v0
  have hln := sh_dec_len v0
  refine lv_iconst (v := 1) hx hb dN_decimalLength_0 (by decide) ?_
  refine xw_topi (y := nI 1) (rfl) ?_
  refine lv_istore_n (lv' := [(2, .int (nI 1)), (0, .long v0)]) hx hb dN_decimalLength_1 rfl hl (by decide) rfl (fun ls hl => ?_)
  refine lv_lload_n hx hb dN_decimalLength_2 rfl (lv_at hl 1 rfl) ?_
  refine lv_ldc2 (v := 10) hx hb hown (htz _ zw_2_104) dN_decimalLength_3 ?_
  refine lv_ldiv hx hb dN_decimalLength_6 (by decide) ?_
  refine lv_lstore_n (lv' := [(3, .long (v0 / 10)), (2, .int (nI 1)), (0, .long v0)]) hx hb dN_decimalLength_7 rfl hl (by decide) rfl (fun ls hl => ?_)
  have loop_8 : ∀ (f_loop_8 : Nat) (d : Nat) (r : Int64), 20 - d < f_loop_8 → (1 ≤ d) → (d ≤ 20) → (r.toInt.natAbs < 10 ^ (20 - d)) → (d + (if r.toInt.natAbs = 0 then 0 else (sh_rd (20 - d) r.toInt.natAbs).length) = (sh_rd 20 v0.toInt.natAbs).length) → ∀ ls : Array Slot, lv_has ls 5 [(3, .long r), (2, .int (nI d)), (0, .long v0)] → W p l e (headSpec wsN_decimalLength ({ frames := 0, cells := 0, slots := 0, locals := 0 })).room s m ([.long v0] : List Value).toArray below meth c s.heap [] 0 0 (MQ below (rq_ (some (.int (nI (sh_dec v0).length)))) ([.long v0] : List Value).toArray s 0 0 (fun _ => False)) (F0 m 8 ls []) := by
    intro f_loop_8
    induction f_loop_8 with
    | zero => intro d r hf; exact absurd hf (Nat.not_lt_zero _)
    | succ f_loop_8 ih_loop_8 =>
      intro d r hf_loop_8 h1 h20 hm he ls hl
      refine lv_lload_n hx hb dN_decimalLength_8 rfl (lv_at hl 0 rfl) ?_
      refine lv_lconst (v := 0) hx hb dN_decimalLength_9 (by decide) ?_
      refine W.lcmp hx hb dN_decimalLength_10 ?_
      refine lv_if_eq (tgt := 32) hx hb dN_decimalLength_11 (by decide) (fun c_1 => ?_) (fun c_1 => ?_)
      · skip
        rw [lg_cmp_eq] at c_1
        have e_0 : r.toInt.natAbs = 0 := dz_zero.mp c_1
        refine lv_lload_n hx hb dN_decimalLength_32 rfl (lv_at hl 2 rfl) ?_
        refine lv_lconst (v := 0) hx hb dN_decimalLength_33 (by decide) ?_
        refine W.lcmp hx hb dN_decimalLength_34 ?_
        refine lv_if_ge (tgt := 44) hx hb dN_decimalLength_35 (by decide) (fun c_2 => ?_) (fun c_2 => ?_)
        · skip
          rw [lg_cmp_ge] at c_2
          refine lv_iload_n hx hb dN_decimalLength_44 rfl (lv_at hl 1 rfl) ?_
          rw [if_pos e_0] at he
          exact W.iret (v := nI d) hx hb hr (fun t ht _ => ⟨by rw [hln, if_neg (by grind), ← he]; congr 4; omega, ht⟩) t_nil dN_decimalLength_45
        rw [lg_cmp_ge] at c_2
        refine lv_iload_n hx hb dN_decimalLength_38 rfl (lv_at hl 1 rfl) ?_
        refine lv_iconst (v := 1) hx hb dN_decimalLength_39 (by decide) ?_
        refine lv_iadd hx hb dN_decimalLength_40 ?_
        refine xw_topi (y := nI (d + 1)) (nI_add d 1) ?_
        refine lv_goto (tgt := 45) hx hb dN_decimalLength_41 (by decide) ?_
        rw [if_pos e_0] at he
        exact W.iret (v := nI (d + 1)) hx hb hr (fun t ht _ => ⟨by rw [hln, if_pos (by grind), ← he]; congr 4; omega, ht⟩) t_nil dN_decimalLength_45
      rw [lg_cmp_eq] at c_1
      have e_0 : ¬ r.toInt.natAbs = 0 := mt dz_zero.mpr c_1
      refine lv_iload_n hx hb dN_decimalLength_14 rfl (lv_at hl 1 rfl) ?_
      refine lv_bipush (v := 20) hx hb dN_decimalLength_15 (by decide) ?_
      refine lv_icmp_ge (tgt := 32) hx hb dN_decimalLength_17 (by decide) (fun c_3 => ?_) (fun c_3 => ?_)
      · skip
        have e_17 : 20 ≤ d := xi_le (a := 20) c_3 (by decide) (by omega)
        rw [show 20 - d = 0 by omega] at hm
        exact absurd (show r.toInt.natAbs = 0 by omega) e_0
      have e_17 : d < 20 := xi_nle (a := 20) c_3 (by decide) (by omega)
      refine lv_iinc (v := nI (d + 1)) (lv' := [(2, .int (nI (d + 1))), (3, .long r), (0, .long v0)]) hx hb dN_decimalLength_20 hl (k := 1) rfl (nI_1 d) (by decide) rfl (fun ls hl => ?_)
      refine lv_lload_n hx hb dN_decimalLength_23 rfl (lv_at hl 1 rfl) ?_
      refine lv_ldc2 (v := 10) hx hb hown (htz _ zw_2_104) dN_decimalLength_24 ?_
      refine lv_ldiv hx hb dN_decimalLength_27 (by decide) ?_
      refine lv_lstore_n (lv' := [(3, .long (r / 10)), (2, .int (nI (d + 1))), (0, .long v0)]) hx hb dN_decimalLength_28 rfl hl (by decide) rfl (fun ls hl => ?_)
      refine lv_goto (tgt := 8) hx hb dN_decimalLength_29 (by decide) ?_
      exact ih_loop_8 (d + 1) (r / 10) (by omega) (by omega) (by omega) (by rw [dz_nd]; rw [show 20 - d = (20 - (d + 1)) + 1 by omega, Nat.pow_succ] at hm; omega) (by rw [dz_nd, ← he, if_neg e_0, show 20 - d = (20 - (d + 1)) + 1 by omega, sh_rd_step]; omega) ls (lv_sub hl [0, 1, 2] rfl)
  exact loop_8 _ 1 (v0 / 10) (Nat.lt_succ_self _) (by decide) (by decide) (by rw [dz_nd]; have := dz_lt v0; omega) (by rw [dz_nd]; exact (sh_rd_step 19 _).symm) ls (lv_sub hl [0, 1, 2] rfl)
set_option maxHeartbeats 4000000 in
set_option maxRecDepth 100000 in
/-- writeDecimal(value) -/
theorem k_N_writeDecimal (l : Launch) (dC : Nat → ClassId) (dI : Nat → Nat → Nat) (kC kI kJ kQ : ClassId) (ws : va_W) (sz : Nat) (k0 k2 a la ra : Nat) (len0 : Int32) (g0 : Nat → Int32) (v0 : Int64) (hk : k0 ≠ k2) (h0 : k0 < ws.length) (h2 : k2 < ws.length) : Met l yN_writeDecimal wsN_writeDecimal ({ frames := 1, cells := 0, slots := 0, locals := 30 }) (va_Pc [.ref a, .long v0] (zW dC dI ([(kC, .char), (kI, .int), (kJ, .long), (kQ, .object "ShellSum$Named")]) (nw ws k0 k2 a la ra kC len0 g0) sz)) (zQ dC dI (va_A (nw ws k0 k2 a la ra kC len0 g0) sz) (fun v w => v = none ∧ ∃ g, (∀ j, j < (sh_dec v0).length → g j = sh_at (sh_dec v0) j) ∧ w = nw ws k0 k2 a la ra kC (nI (sh_dec v0).length) g)) 0 0 (va_A (nw ws k0 k2 a la ra kC len0 g0) sz) := by
  refine Met.ofW (cc := cN_writeDecimal) (maxL := 6) (ret := none) (by decide) rfl ?_
  intro p e s m args below meth c s₁ B hml hv
  obtain ⟨rfl, hsz, hP, hK, hD0, hN⟩ := hv
  subst hsz
  have hD := hD0.self (sz := s.heap.size)
  generalize hAe : va_A (nw ws k0 k2 a la ra kC len0 g0) s.heap.size = A at hD ⊢
  have hA : ∀ q : Nat, s.heap.size ≤ q → A q := fun q h => by rw [← hAe]; exact Or.inr h
  have hS : va_S A s.heap s.heap [] := va_S.rf
  have hx := B.exec
  have hb := B.bytes
  have hr := B.returns
  have htz : ∀ w ∈ zw, w.before _ s = true := fun w h => atoms_spec (ws := wsN_writeDecimal) B.pre w (List.mem_cons_of_mem _ h)
  have hown : s.vm.findClass "ShellSum$Named" = some m.cls := findClass_of_methodNamed B.named
  have hlocks := B.notSynchronized
  have hl := lv_entry ([.ref a, .long v0]) (n := 6) (Nat.le_of_ble_eq_true rfl)
  rw [lg_entry_eq]
  generalize (lg_sl ([.ref a, .long v0]) ++ List.replicate (6 - (lg_sl ([.ref a, .long v0])).length) Slot.unset).toArray = ls at hl ⊢
  have hle := sh_dec_le v0
  have hd9 := fun j (h : j < (sh_dec v0).length) => sh_dec_get (v := v0) h
  have hl : lv_has ls 6 [(0, .ref a), (1, .long v0)] := hl
  refine lv_aload_n hx hb dN_writeDecimal_0 rfl (lv_at hl 0 rfl) ?_
  refine lv_lload_n hx hb dN_writeDecimal_1 rfl (lv_at hl 1 rfl) ?_
  refine rq_call (va_runS (As := [.long v0]) (rest := [.ref a]) ⟨hx, hb, hml, hown, htz⟩ (k_N_decimalLength l v0) (cwS 1 htz (zg_S zw_2_101 zw_2_102 zw_1_10 zw_2_103) rfl rfl rfl (by decide +kernel) ⟨Nat.le_of_ble_eq_true rfl, Nat.le_of_ble_eq_true rfl⟩) rq_pre rfl rfl hl.1 rfl (lv_room (Nat.le_of_ble_eq_true rfl)) dN_writeDecimal_2 ⟨Nat.zero_le _, Nat.zero_le _⟩) ?_
  refine W.eq (g2 := F0 m 5 ls [.int (nI (sh_dec v0).length), .ref a]) rfl ?_
  refine va_put (D := (dC, dI)) (ci := 0) (v := .int (nI (sh_dec v0).length)) (ty := .int) (C := "ShellSum$Named") (T := TN) (N := 3) hx hb htz zu_N tyN tyN_ok nmN hown hK hP hD hS k0 (nw_0 hk h0) rfl 2 (by decide) (htz _ zw_1_162) (fun _ h9 => h9) rfl (by decide +kernel) rfl rfl (Nat.le_of_ble_eq_true rfl) dN_writeDecimal_5 (fun H locs hP hD hS => ?_)
  have hP : va_P (dC, dI) vwCl (List.set (nw ws k0 k2 a la ra kC len0 g0) k0 (a, .inr (0, [.ref la, .ref ra, .int (nI (sh_dec v0).length)]))) H := hP
  have hD : va_D A (List.set (nw ws k0 k2 a la ra kC len0 g0) k0 (a, .inr (0, [.ref la, .ref ra, .int (nI (sh_dec v0).length)]))) := hD
  rw [nw_s0 hk] at hP hD
  have hP : va_P (dC, dI) vwCl (nw ws k0 k2 a la ra kC (nI (sh_dec v0).length) g0) H := hP
  have hD : va_D A (nw ws k0 k2 a la ra kC (nI (sh_dec v0).length) g0) := hD
  refine lv_lload_n hx hb dN_writeDecimal_8 rfl (lv_at hl 1 rfl) ?_
  refine lv_lstore_n (lv' := [(3, .long v0), (0, .ref a), (1, .long v0)]) hx hb dN_writeDecimal_9 rfl hl (by decide) rfl (fun ls hl => ?_)
  refine lv_aload_n hx hb dN_writeDecimal_10 rfl (lv_at hl 1 rfl) ?_
  refine va_get (D := (dC, dI)) (ci := 0) (v := .int (nI (sh_dec v0).length)) (C := "ShellSum$Named") (T := TN) (N := 3) hx hb htz zu_N hown hK hP k0 (nw_0 hk h0) rfl 2 (by decide) (htz _ zw_1_162) (fun _ h9 => h9) rfl dN_writeDecimal_11 ?_
  refine lv_iconst (v := 1) hx hb dN_writeDecimal_14 (by decide) ?_
  refine lv_isub hx hb dN_writeDecimal_15 ?_
  refine xw_topi (y := nI ((sh_dec v0).length) - 1) (rfl) ?_
  refine lv_istore (lv' := [(5, .int (nI ((sh_dec v0).length) - 1)), (3, .long v0), (0, .ref a), (1, .long v0)]) hx hb dN_writeDecimal_16 hl (by decide) rfl (fun ls hl => ?_)
  have loop_18 : ∀ (f_loop_18 : Nat) (k : Nat) (r : Int64) (g : Nat → Int32), k < f_loop_18 → (k ≤ (sh_dec v0).length) → (r.toInt.natAbs = v0.toInt.natAbs / 10 ^ ((sh_dec v0).length - k)) → (∀ j, k ≤ j → j < (sh_dec v0).length → g j = nI (48 + v0.toInt.natAbs / 10 ^ ((sh_dec v0).length - 1 - j) % 10)) → ∀ (H : Heap) (locs : List Loc), va_P (dC, dI) vwCl (nw ws k0 k2 a la ra kC (nI (sh_dec v0).length) g) H → va_D A (nw ws k0 k2 a la ra kC (nI (sh_dec v0).length) g) → va_S A s.heap H locs → ∀ ls : Array Slot, lv_has ls 6 [(5, .int (nI k - 1)), (3, .long r), (0, .ref a), (1, .long v0)] → W p l e (headSpec wsN_writeDecimal ({ frames := 1, cells := 0, slots := 0, locals := 30 })).room s m ([.ref a, .long v0] : List Value).toArray below meth c H locs 0 0 (MQ below (zQ dC dI A (fun v w => v = none ∧ ∃ g, (∀ j, j < (sh_dec v0).length → g j = sh_at (sh_dec v0) j) ∧ w = nw ws k0 k2 a la ra kC (nI (sh_dec v0).length) g)) ([.ref a, .long v0] : List Value).toArray s 0 0 A) (F0 m 18 ls []) := by
    intro f_loop_18
    induction f_loop_18 with
    | zero => intro k r g hf; exact absurd hf (Nat.not_lt_zero _)
    | succ f_loop_18 ih_loop_18 =>
      intro k r g hf_loop_18 hk7 hr7 hg H locs hP hD hS ls hl
      refine lv_iload hx hb dN_writeDecimal_18 (lv_at hl 0 rfl) ?_
      refine lv_if_lt (tgt := 66) hx hb dN_writeDecimal_20 (by decide) (fun c_1 => ?_) (fun c_1 => ?_)
      · skip
        have e_20 : k = 0 := by
          rcases Nat.eq_zero_or_pos k with q | q
          · exact q
          · exact absurd c_1 (by rw [show nI k - 1 = nI (k - 1) from pk_sub (b := 1) q]; exact nI_pos (by omega))
        refine lv_lload_n hx hb dN_writeDecimal_66 rfl (lv_at hl 3 rfl) ?_
        refine lv_lconst (v := 0) hx hb dN_writeDecimal_67 (by decide) ?_
        refine W.lcmp hx hb dN_writeDecimal_68 ?_
        refine lv_if_ge (tgt := 80) hx hb dN_writeDecimal_69 (by decide) (fun c_2 => ?_) (fun c_2 => ?_)
        · skip
          rw [lg_cmp_ge] at c_2
          refine W.widen (k := 0) (n := 0) (Nat.le_refl _) (Nat.le_refl _) ?_
          exact W.vret hx hb hr (fun t ht _ => ⟨_, _, rfl, ⟨rfl, g, fun j h => by rw [hd9 j h, if_neg (by grind)]; exact hg j (by omega) h, rfl⟩, by rw [ht]; exact hP, hD, hS.F ht⟩) hS.2.2 dN_writeDecimal_80
        rw [lg_cmp_ge] at c_2
        refine lv_aload_n hx hb dN_writeDecimal_72 rfl (lv_at hl 2 rfl) ?_
        refine va_get (D := (dC, dI)) (ci := 0) (v := .ref ra) (C := "ShellSum$Named") (T := TN) (N := 3) hx hb htz zu_N hown hK hP k0 (nw_0 hk h0) rfl 1 (by decide) (htz _ zw_1_159) (fun _ h9 => h9) rfl dN_writeDecimal_73 ?_
        refine lv_iconst (v := 0) hx hb dN_writeDecimal_76 (by decide) ?_
        refine xw_topi (y := nI 0) (nI_0.symm) ?_
        refine lv_bipush (v := 45) hx hb dN_writeDecimal_77 (by decide) ?_
        refine va_cast hx hb hK hP hD hS k2 0 (nw_2 h2) rfl (vp_in_nI (n := 0) (by decide) (by decide)) dN_writeDecimal_79 (fun H locs hP hD hS => ?_)
        rw [nw_s2] at hP hD
        have hP : va_P (dC, dI) vwCl (nw ws k0 k2 a la ra kC (nI (sh_dec v0).length) (upd g (nI 0).toNatClampNeg (vp_nar .char 45))) H := hP
        have hD : va_D A (nw ws k0 k2 a la ra kC (nI (sh_dec v0).length) (upd g (nI 0).toNatClampNeg (vp_nar .char 45))) := hD
        have e_f : upd g (nI 0).toNatClampNeg (vp_nar .char 45) = upd g 0 45 := by rw [nI_clamp (by decide), show vp_nar .char 45 = 45 from rfl]
        rw [e_f] at hP hD
        refine W.widen (k := 0) (n := 0) (Nat.le_refl _) (Nat.le_refl _) ?_
        exact W.vret hx hb hr (fun t ht _ => ⟨_, _, rfl, ⟨rfl, (upd g 0 45), fun j h => if hj : j = 0 then (by subst hj; rw [hd9 0 h, if_pos ⟨by grind, rfl⟩]; rfl) else (by rw [hd9 j h, if_neg (fun q => hj q.2)]; exact (pk_un hj).trans (hg j (by omega) h)), rfl⟩, by rw [ht]; exact hP, hD, hS.F ht⟩) hS.2.2 dN_writeDecimal_80
      have e_20 : 0 < k := by
        rcases Nat.eq_zero_or_pos k with q | q
        · exact absurd (by rw [q]; decide) c_1
        · exact q
      have e_i : nI k - 1 = nI (k - 1) := pk_sub (b := 1) e_20
      rw [e_i] at hl
      refine lv_iload hx hb dN_writeDecimal_23 (lv_at hl 0 rfl) ?_
      refine lv_aload_n hx hb dN_writeDecimal_25 rfl (lv_at hl 2 rfl) ?_
      refine va_get (D := (dC, dI)) (ci := 0) (v := .ref ra) (C := "ShellSum$Named") (T := TN) (N := 3) hx hb htz zu_N hown hK hP k0 (nw_0 hk h0) rfl 1 (by decide) (htz _ zw_1_159) (fun _ h9 => h9) rfl dN_writeDecimal_26 ?_
      refine va_alen hx hb hK hP k2 0 (nw_2 h2) (ty := .char) rfl (v := nI 20) rfl dN_writeDecimal_29 ?_
      refine lv_icmp_ge (tgt := 66) hx hb dN_writeDecimal_30 (by decide) (fun c_3 => ?_) (fun c_3 => ?_)
      · skip
        exact absurd (xi_le (a := 20) c_3 (by decide) (by omega)) (by omega)
      refine lv_aload_n hx hb dN_writeDecimal_33 rfl (lv_at hl 2 rfl) ?_
      refine va_get (D := (dC, dI)) (ci := 0) (v := .ref ra) (C := "ShellSum$Named") (T := TN) (N := 3) hx hb htz zu_N hown hK hP k0 (nw_0 hk h0) rfl 1 (by decide) (htz _ zw_1_159) (fun _ h9 => h9) rfl dN_writeDecimal_34 ?_
      refine lv_iload hx hb dN_writeDecimal_37 (lv_at hl 0 rfl) ?_
      refine lv_ldc2 (v := 48) hx hb hown (htz _ zw_2_105) dN_writeDecimal_39 ?_
      refine lv_lload_n hx hb dN_writeDecimal_42 rfl (lv_at hl 1 rfl) ?_
      refine lv_ldc2 (v := 10) hx hb hown (htz _ zw_2_104) dN_writeDecimal_43 ?_
      refine lv_lrem hx hb dN_writeDecimal_46 (by decide) ?_
      refine rq_call (va_runS (As := [.long (r - r / 10 * 10)]) (rest := [.long 48, .int (nI (k - 1)), .ref ra]) ⟨hx, hb, hml, hown, htz⟩ (k_J_abs l (r - r / 10 * 10)) (va_cwS 1 htz (zg_S zw_2_106 zw_2_107 zw_1_11 zw_2_108) rfl rfl rfl (by decide +kernel) ⟨Nat.le_of_ble_eq_true rfl, Nat.le_of_ble_eq_true rfl⟩) rq_pre rfl rfl hl.1 rfl (lv_room (Nat.le_of_ble_eq_true rfl)) dN_writeDecimal_47 ⟨Nat.zero_le _, Nat.zero_le _⟩) ?_
      refine W.eq (g2 := F0 m 50 ls [.long (sh_abs (r - r / 10 * 10)), .long 48, .int (nI (k - 1)), .ref ra]) rfl ?_
      refine lv_ladd hx hb dN_writeDecimal_50 ?_
      refine lv_l2i hx hb dN_writeDecimal_51 rfl ?_
      refine lv_i2c hx hb dN_writeDecimal_52 rfl ?_
      refine xw_topi (y := nI (48 + r.toInt.natAbs % 10)) (dz_dig r) ?_
      refine va_cast hx hb hK hP hD hS k2 0 (nw_2 h2) rfl (vp_in_nI (by omega) (by omega)) dN_writeDecimal_53 (fun H locs hP hD hS => ?_)
      rw [nw_s2] at hP hD
      have hP : va_P (dC, dI) vwCl (nw ws k0 k2 a la ra kC (nI (sh_dec v0).length) (upd g (nI (k - 1)).toNatClampNeg (vp_nar .char (nI (48 + r.toInt.natAbs % 10))))) H := hP
      have hD : va_D A (nw ws k0 k2 a la ra kC (nI (sh_dec v0).length) (upd g (nI (k - 1)).toNatClampNeg (vp_nar .char (nI (48 + r.toInt.natAbs % 10))))) := hD
      have e_f : upd g (nI (k - 1)).toNatClampNeg (vp_nar .char (nI (48 + r.toInt.natAbs % 10))) = upd g (k - 1) (nI (48 + r.toInt.natAbs % 10)) := by rw [nI_clamp (by omega), show vp_nar .char (nI (48 + r.toInt.natAbs % 10)) = nI (48 + r.toInt.natAbs % 10) from by unfold vp_nar; rw [(pk_charN (by omega)).1]]
      rw [e_f] at hP hD
      refine lv_lload_n hx hb dN_writeDecimal_54 rfl (lv_at hl 1 rfl) ?_
      refine lv_ldc2 (v := 10) hx hb hown (htz _ zw_2_104) dN_writeDecimal_55 ?_
      refine lv_ldiv hx hb dN_writeDecimal_58 (by decide) ?_
      refine lv_lstore_n (lv' := [(3, .long (r / 10)), (5, .int (nI (k - 1))), (0, .ref a), (1, .long v0)]) hx hb dN_writeDecimal_59 rfl hl (by decide) rfl (fun ls hl => ?_)
      refine lv_iinc (v := nI (k - 1) - 1) (lv' := [(5, .int (nI (k - 1) - 1)), (3, .long (r / 10)), (0, .ref a), (1, .long v0)]) hx hb dN_writeDecimal_60 hl (k := 1) rfl (by rw [Int32.sub_eq_add_neg]; congr 1) (by decide) rfl (fun ls hl => ?_)
      refine lv_goto (tgt := 18) hx hb dN_writeDecimal_63 (by decide) ?_
      exact ih_loop_18 (k - 1) (r / 10) (upd g (k - 1) (nI (48 + r.toInt.natAbs % 10))) (by omega) (by omega) (by rw [dz_nd, hr7, Nat.div_div_eq_div_mul, ← Nat.pow_succ]; congr 2; omega) (fun j h1 h2 => if hj : j = k - 1 then (by rw [hj, pk_us, hr7]; congr 5; omega) else (by rw [pk_un hj]; exact hg j (by omega) h2)) _ _ hP hD hS ls (lv_sub hl [0, 1, 2, 3] rfl)
  exact loop_18 _ ((sh_dec v0).length) v0 g0 (Nat.lt_succ_self _) (Nat.le_refl _) (by rw [Nat.sub_self]; simp) (fun j h1 h2 => absurd h1 (by omega)) _ _ hP hD hS ls (lv_sub hl [0, 1, 2, 3] rfl)
