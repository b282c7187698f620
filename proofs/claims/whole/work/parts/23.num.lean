set_option maxHeartbeats 4000000 in
set_option maxRecDepth 100000 in
/-- numberIn(from, start, end) -/
theorem k_A_numberIn (l : Launch) (hl9 : l.stackTraces = false) (dC : Nat → ClassId) (dI : Nat → Nat → Nat) (kC kI kJ kQ : ClassId) (ws : va_W) (sz : Nat) (kf N a fr : Nat) (f : Nat → Int32) (nl : List Int32) (hk : ws[kf]? = some (fr, .inl (kC, N, .inl f))) (hnl : ∀ j, j < nl.length → f (a + j) = sh_at nl j) (hN1 : a + nl.length ≤ N) (hN3 : N ≤ 1000) : vx_Met l yA_numberIn wsA_numberIn ({ frames := 6, cells := zk (sh_num nl), slots := 6 * zk (sh_num nl), locals := 82 }) (va_Pc [.ref fr, .int (nI a), .int (nI (a + nl.length))] (zV dC dI ([(kC, .char), (kI, .int), (kJ, .long), (kQ, .object "ShellSum$Named")]) ws sz)) (zQ dC dI (va_A ws sz) (fun v w => ∃ x, sh_num nl = some x ∧ v = some (.long x) ∧ w = ws)) (zX dC dI (va_A ws sz) (fun w => sh_num nl = none ∧ w = ws)) (zk (sh_num nl)) (6 * zk (sh_num nl)) (va_A ws sz) := by
  refine vx_ofW (cc := cA_numberIn) (maxL := 9) (ret := (some .long)) (by decide) rfl ?_
  intro p e s m args below meth c s₁ B hml hEx hv
  obtain ⟨rfl, ⟨hsz, hP, hK, hD0, hN⟩, hT, hU⟩ := hv
  subst hsz
  have hD := hD0.self (sz := s.heap.size)
  generalize hAe : va_A ws s.heap.size = A at hD hU ⊢
  have hA : ∀ q : Nat, s.heap.size ≤ q → A q := fun q h => by rw [← hAe]; exact Or.inr h
  have hS : va_S A s.heap s.heap [] := va_S.rf
  have hx := B.exec
  have hb := B.bytes
  have hr := B.returns
  have htz : ∀ w ∈ zw, w.before _ s = true := fun w h => atoms_spec (ws := wsA_numberIn) B.pre w (List.mem_cons_of_mem _ h)
  have hown : s.vm.findClass "ShellSum" = some m.cls := findClass_of_methodNamed B.named
  have hlocks := B.notSynchronized
  have hl := lv_entry ([.ref fr, .int (nI a), .int (nI (a + nl.length))]) (n := 9) (Nat.le_of_ble_eq_true rfl)
  rw [lg_entry_eq]
  generalize (lg_sl ([.ref fr, .int (nI a), .int (nI (a + nl.length))]) ++ List.replicate (9 - (lg_sl ([.ref fr, .int (nI a), .int (nI (a + nl.length))])).length) Slot.unset).toArray = ls at hl ⊢
  have hl : lv_has ls 9 [(0, .ref fr), (1, .int (nI a)), (2, .int (nI (a + nl.length)))] := hl
  refine lv_iload_n hx hb dA_numberIn_0 rfl (lv_at hl 1 rfl) ?_
  refine lv_if_lt (tgt := 15) hx hb dA_numberIn_1 (by decide) (fun c_1 => ?_) (fun c_1 => ?_)
  · skip
    exact absurd c_1 (nI_pos (by omega))
  refine lv_iload_n hx hb dA_numberIn_4 rfl (lv_at hl 1 rfl) ?_
  refine lv_iload_n hx hb dA_numberIn_5 rfl (lv_at hl 2 rfl) ?_
  refine lv_icmp_ge (tgt := 15) hx hb dA_numberIn_6 (by decide) (fun c_2 => ?_) (fun c_2 => ?_)
  · skip
    have e_6 : a + nl.length ≤ a := xi_le c_2 (by omega) (by omega)
    have e_r : sh_num nl = none := sh_num_nil (by omega)
    have e_k : zk (sh_num nl) = 1 := by rw [e_r]; rfl
    exact zThrow (own := "ShellSum") (text := "a number has no digit") (ik := 54) (is := 107) (ic := 58) hx hb hl9 hown (htz _ zw_2_71) (htz _ zw_1_9) (hT _ _ _ zstr_A_107) (zx_A htz hN) zx_oA hU (hl.1.trans hml.symm) dA_numberIn_15 dA_numberIn_18 dA_numberIn_19 dA_numberIn_21 dA_numberIn_24 hEx hlocks (Nat.le_of_ble_eq_true rfl) (Nat.le_of_ble_eq_true rfl) (by show 0 + 1 ≤ zk (sh_num nl); omega) (by show 0 + 6 ≤ 6 * zk (sh_num nl); omega) (⟨e_r, rfl⟩) hP hD hS (by omega) (by omega)
  have e_6 : a < a + nl.length := xi_nle c_2 (by omega) (by omega)
  refine lv_iload_n hx hb dA_numberIn_9 rfl (lv_at hl 2 rfl) ?_
  refine lv_aload_n hx hb dA_numberIn_10 rfl (lv_at hl 0 rfl) ?_
  refine va_alen hx hb hK hP kf 0 hk (ty := .char) rfl (v := nI N) rfl dA_numberIn_11 ?_
  refine lv_icmp_le (tgt := 25) hx hb dA_numberIn_12 (by decide) (fun c_3 => ?_) (fun c_3 => ?_)
  · skip
    refine lv_aload_n hx hb dA_numberIn_25 rfl (lv_at hl 0 rfl) ?_
    refine lv_iload_n hx hb dA_numberIn_26 rfl (lv_at hl 1 rfl) ?_
    refine va_cald hx hb hK hP kf 0 hk rfl (vp_in_nI (by omega) (by omega)) dA_numberIn_27 ?_
    refine xw_topi (y := f a) (by rw [nI_clamp (by omega)]) ?_
    refine xw_topi (y := sh_at nl 0) (hnl 0 (by omega)) ?_
    have j_45 : ∀ (x1 : Int32), (x1 = (if nl.length ≤ 1 then 48 else sh_at nl 1)) → ∀ (H : Heap) (locs : List Loc), va_P (dC, dI) vwCl ws H → va_D A ws → va_S A s.heap H locs → ∀ ls : Array Slot, lv_has ls 9 [(0, .ref fr), (1, .int (nI a)), (2, .int (nI (a + nl.length)))] → W p l e (headSpec wsA_numberIn ({ frames := 6, cells := zk (sh_num nl), slots := 6 * zk (sh_num nl), locals := 82 })).room s m ([.ref fr, .int (nI a), .int (nI (a + nl.length))] : List Value).toArray below meth c H locs 0 0 (vx_MQ below (zQ dC dI A (fun v w => ∃ x, sh_num nl = some x ∧ v = some (.long x) ∧ w = ws)) (zX dC dI A (fun w => sh_num nl = none ∧ w = ws)) ([.ref fr, .int (nI a), .int (nI (a + nl.length))] : List Value).toArray s (zk (sh_num nl)) (6 * zk (sh_num nl)) A) (F0 m 45 ls [.int x1, .int (sh_at nl 0)]) := by
      intro x1 hx1 H locs hP hD hS ls hl
      refine rq_call (va_runS (As := [.int (sh_at nl 0), .int x1]) (rest := []) ⟨hx, hb, hml, hown, htz⟩ (k_A_baseOf l (sh_at nl 0) x1) (cwS 2 htz (zg_S zw_2_74 zw_2_75 zw_1_1 zw_2_76) rfl rfl rfl (by decide +kernel) ⟨Nat.le_of_ble_eq_true rfl, Nat.le_of_ble_eq_true rfl⟩) rq_pre rfl rfl hl.1 rfl (lv_room (Nat.le_of_ble_eq_true rfl)) dA_numberIn_45 ⟨Nat.zero_le _, Nat.zero_le _⟩) ?_
      refine W.eq (g2 := F0 m 48 ls [.int (sh_base (sh_at nl 0) x1)]) rfl ?_
      refine xw_topi (y := sh_nb nl) (by rw [hx1]; rfl) ?_
      have e_b := sh_base_le (sh_at nl 0) (if nl.length ≤ 1 then 48 else sh_at nl 1)
      refine lv_istore_n (lv' := [(3, .int (sh_nb nl)), (0, .ref fr), (1, .int (nI a)), (2, .int (nI (a + nl.length)))]) hx hb dA_numberIn_48 rfl hl (by decide) rfl (fun ls hl => ?_)
      have j_62 : ∀ (i0 : Nat), (i0 ≤ 2) → (sh_num nl = if nl.length ≤ i0 then none else sh_digs (sh_nb nl) (nl.drop i0) 0) → ∀ (H : Heap) (locs : List Loc), va_P (dC, dI) vwCl ws H → va_D A ws → va_S A s.heap H locs → ∀ ls : Array Slot, lv_has ls 9 [(3, .int (sh_nb nl)), (0, .ref fr), (1, .int (nI a)), (2, .int (nI (a + nl.length)))] → W p l e (headSpec wsA_numberIn ({ frames := 6, cells := zk (sh_num nl), slots := 6 * zk (sh_num nl), locals := 82 })).room s m ([.ref fr, .int (nI a), .int (nI (a + nl.length))] : List Value).toArray below meth c H locs 0 0 (vx_MQ below (zQ dC dI A (fun v w => ∃ x, sh_num nl = some x ∧ v = some (.long x) ∧ w = ws)) (zX dC dI A (fun w => sh_num nl = none ∧ w = ws)) ([.ref fr, .int (nI a), .int (nI (a + nl.length))] : List Value).toArray s (zk (sh_num nl)) (6 * zk (sh_num nl)) A) (F0 m 62 ls [.int (nI (a + i0))]) := by
        intro i0 h0 hd H locs hP hD hS ls hl
        refine lv_istore (lv' := [(4, .int (nI (a + i0))), (3, .int (sh_nb nl)), (0, .ref fr), (1, .int (nI a)), (2, .int (nI (a + nl.length)))]) hx hb dA_numberIn_62 hl (by decide) rfl (fun ls hl => ?_)
        refine lv_iload hx hb dA_numberIn_64 (lv_at hl 0 rfl) ?_
        refine lv_iload_n hx hb dA_numberIn_66 rfl (lv_at hl 4 rfl) ?_
        refine lv_icmp_lt (tgt := 80) hx hb dA_numberIn_67 (by decide) (fun c_4 => ?_) (fun c_4 => ?_)
        · skip
          have e_67 : a + i0 < a + nl.length := xi_lt c_4 (by omega) (by omega)
          refine lv_lconst (v := 0) hx hb dA_numberIn_80 (by decide) ?_
          refine lv_lstore (lv' := [(5, .long 0), (4, .int (nI (a + i0))), (3, .int (sh_nb nl)), (0, .ref fr), (1, .int (nI a)), (2, .int (nI (a + nl.length)))]) hx hb dA_numberIn_81 hl (by decide) rfl (fun ls hl => ?_)
          refine lv_iload hx hb dA_numberIn_83 (lv_at hl 1 rfl) ?_
          refine lv_istore (lv' := [(7, .int (nI (a + i0))), (5, .long 0), (4, .int (nI (a + i0))), (3, .int (sh_nb nl)), (0, .ref fr), (1, .int (nI a)), (2, .int (nI (a + nl.length)))]) hx hb dA_numberIn_85 hl (by decide) rfl (fun ls hl => ?_)
          have loop_87 : ∀ (f_loop_87 : Nat) (k : Nat) (v : Int64), nl.length - k < f_loop_87 → (k ≤ nl.length) → (sh_num nl = sh_digs (sh_nb nl) (nl.drop k) v) → ∀ (H : Heap) (locs : List Loc), va_P (dC, dI) vwCl ws H → va_D A ws → va_S A s.heap H locs → ∀ ls : Array Slot, lv_has ls 9 [(7, .int (nI (a + k))), (5, .long v), (3, .int (sh_nb nl)), (0, .ref fr), (1, .int (nI a)), (2, .int (nI (a + nl.length)))] → W p l e (headSpec wsA_numberIn ({ frames := 6, cells := zk (sh_num nl), slots := 6 * zk (sh_num nl), locals := 82 })).room s m ([.ref fr, .int (nI a), .int (nI (a + nl.length))] : List Value).toArray below meth c H locs 0 0 (vx_MQ below (zQ dC dI A (fun v w => ∃ x, sh_num nl = some x ∧ v = some (.long x) ∧ w = ws)) (zX dC dI A (fun w => sh_num nl = none ∧ w = ws)) ([.ref fr, .int (nI a), .int (nI (a + nl.length))] : List Value).toArray s (zk (sh_num nl)) (6 * zk (sh_num nl)) A) (F0 m 87 ls []) := by
            intro f_loop_87
            induction f_loop_87 with
            | zero => intro k v hf; exact absurd hf (Nat.not_lt_zero _)
            | succ f_loop_87 ih_loop_87 =>
              intro k v hf_loop_87 hk7 he H locs hP hD hS ls hl
              refine lv_iload hx hb dA_numberIn_87 (lv_at hl 0 rfl) ?_
              refine lv_iload_n hx hb dA_numberIn_89 rfl (lv_at hl 5 rfl) ?_
              refine lv_icmp_ge (tgt := 140) hx hb dA_numberIn_90 (by decide) (fun c_5 => ?_) (fun c_5 => ?_)
              · skip
                have e_90 : a + nl.length ≤ a + k := xi_le c_5 (by omega) (by omega)
                refine lv_lload hx hb dA_numberIn_140 (lv_at hl 1 rfl) ?_
                refine W.widen (k := zk (sh_num nl)) (n := 6 * zk (sh_num nl)) (Nat.zero_le _) (Nat.zero_le _) ?_
                exact vx_ret (W.lret (v := v) hx hb hr (fun t ht _ => ⟨_, _, rfl, ⟨v, by rw [he, sh_digs_end (by omega)], rfl, rfl⟩, by rw [ht]; exact hP, hD, hS.F ht⟩) hS.2.2 dA_numberIn_142)
              have e_90 : a + k < a + nl.length := xi_nle c_5 (by omega) (by omega)
              refine lv_aload_n hx hb dA_numberIn_93 rfl (lv_at hl 3 rfl) ?_
              refine lv_iload hx hb dA_numberIn_94 (lv_at hl 0 rfl) ?_
              refine va_cald hx hb hK hP kf 0 hk rfl (vp_in_nI (by omega) (by omega)) dA_numberIn_96 ?_
              refine xw_topi (y := f (a + k)) (by rw [nI_clamp (by omega)]) ?_
              refine xw_topi (y := sh_at nl k) (hnl k (by omega)) ?_
              refine rq_call (va_runS (As := [.int (sh_at nl k)]) (rest := []) ⟨hx, hb, hml, hown, htz⟩ (k_A_digitOf l (sh_at nl k)) (cwS 1 htz (zg_S zw_2_78 zw_2_79 zw_1_1 zw_2_80) rfl rfl rfl (by decide +kernel) ⟨Nat.le_of_ble_eq_true rfl, Nat.le_of_ble_eq_true rfl⟩) rq_pre rfl rfl hl.1 rfl (lv_room (Nat.le_of_ble_eq_true rfl)) dA_numberIn_97 ⟨Nat.zero_le _, Nat.zero_le _⟩) ?_
              refine W.eq (g2 := F0 m 100 ls [.int (sh_digOf (sh_at nl k))]) rfl ?_
              refine lv_istore (lv' := [(8, .int (sh_digOf (sh_at nl k))), (7, .int (nI (a + k))), (5, .long v), (3, .int (sh_nb nl)), (0, .ref fr), (1, .int (nI a)), (2, .int (nI (a + nl.length)))]) hx hb dA_numberIn_100 hl (by decide) rfl (fun ls hl => ?_)
              refine lv_iload hx hb dA_numberIn_102 (lv_at hl 0 rfl) ?_
              refine lv_if_lt (tgt := 113) hx hb dA_numberIn_104 (by decide) (fun c_6 => ?_) (fun c_6 => ?_)
              · skip
                have e_r : sh_num nl = none := by rw [he, sh_digs_step (by omega), if_pos (by grind)]
                have e_k : zk (sh_num nl) = 1 := by rw [e_r]; rfl
                exact zThrow (own := "ShellSum") (text := "a number has a wrong digit") (ik := 54) (is := 119) (ic := 58) hx hb hl9 hown (htz _ zw_2_71) (htz _ zw_1_9) (hT _ _ _ zstr_A_119) (zx_A htz hN) zx_oA hU (hl.1.trans hml.symm) dA_numberIn_113 dA_numberIn_116 dA_numberIn_117 dA_numberIn_119 dA_numberIn_122 hEx hlocks (Nat.le_of_ble_eq_true rfl) (Nat.le_of_ble_eq_true rfl) (by show 0 + 1 ≤ zk (sh_num nl); omega) (by show 0 + 6 ≤ 6 * zk (sh_num nl); omega) (⟨e_r, rfl⟩) hP hD hS (by omega) (by omega)
              refine lv_iload hx hb dA_numberIn_107 (lv_at hl 0 rfl) ?_
              refine lv_iload_n hx hb dA_numberIn_109 rfl (lv_at hl 3 rfl) ?_
              refine lv_icmp_lt (tgt := 123) hx hb dA_numberIn_110 (by decide) (fun c_7 => ?_) (fun c_7 => ?_)
              · skip
                refine lv_lload hx hb dA_numberIn_123 (lv_at hl 2 rfl) ?_
                refine lv_iload_n hx hb dA_numberIn_125 rfl (lv_at hl 3 rfl) ?_
                refine lv_i2l hx hb dA_numberIn_126 rfl ?_
                refine lv_lmul hx hb dA_numberIn_127 ?_
                refine lv_iload hx hb dA_numberIn_128 (lv_at hl 0 rfl) ?_
                refine lv_i2l hx hb dA_numberIn_130 rfl ?_
                refine lv_ladd hx hb dA_numberIn_131 ?_
                refine xw_topl (y := v * (sh_nb nl).toInt64 + (sh_digOf (sh_at nl k)).toInt64) (rfl) ?_
                refine lv_lstore (lv' := [(5, .long (v * (sh_nb nl).toInt64 + (sh_digOf (sh_at nl k)).toInt64)), (8, .int (sh_digOf (sh_at nl k))), (7, .int (nI (a + k))), (3, .int (sh_nb nl)), (0, .ref fr), (1, .int (nI a)), (2, .int (nI (a + nl.length)))]) hx hb dA_numberIn_132 hl (by decide) rfl (fun ls hl => ?_)
                refine lv_iinc (v := nI (a + (k + 1))) (lv' := [(7, .int (nI (a + (k + 1)))), (5, .long (v * (sh_nb nl).toInt64 + (sh_digOf (sh_at nl k)).toInt64)), (8, .int (sh_digOf (sh_at nl k))), (3, .int (sh_nb nl)), (0, .ref fr), (1, .int (nI a)), (2, .int (nI (a + nl.length)))]) hx hb dA_numberIn_134 hl (k := 2) rfl (nI_1 (a + k)) (by decide) rfl (fun ls hl => ?_)
                refine lv_goto (tgt := 87) hx hb dA_numberIn_137 (by decide) ?_
                exact ih_loop_87 (k + 1) (v * (sh_nb nl).toInt64 + (sh_digOf (sh_at nl k)).toInt64) (by omega) (by omega) (by rw [he, sh_digs_step (by omega), if_neg (by grind)]) _ _ hP hD hS ls (lv_sub hl [0, 1, 3, 4, 5, 6] rfl)
              have e_r : sh_num nl = none := by rw [he, sh_digs_step (by omega), if_pos (by grind)]
              have e_k : zk (sh_num nl) = 1 := by rw [e_r]; rfl
              exact zThrow (own := "ShellSum") (text := "a number has a wrong digit") (ik := 54) (is := 119) (ic := 58) hx hb hl9 hown (htz _ zw_2_71) (htz _ zw_1_9) (hT _ _ _ zstr_A_119) (zx_A htz hN) zx_oA hU (hl.1.trans hml.symm) dA_numberIn_113 dA_numberIn_116 dA_numberIn_117 dA_numberIn_119 dA_numberIn_122 hEx hlocks (Nat.le_of_ble_eq_true rfl) (Nat.le_of_ble_eq_true rfl) (by show 0 + 1 ≤ zk (sh_num nl); omega) (by show 0 + 6 ≤ 6 * zk (sh_num nl); omega) (⟨e_r, rfl⟩) hP hD hS (by omega) (by omega)
          exact loop_87 _ i0 0 (Nat.lt_succ_self _) (by omega) (by rw [hd, if_neg (by omega)]) _ _ hP hD hS ls (lv_sub hl [0, 1, 3, 4, 5, 6] rfl)
        have e_67 : a + nl.length ≤ a + i0 := xi_nlt c_4 (by omega) (by omega)
        have e_r : sh_num nl = none := by rw [hd, if_pos (by omega)]
        have e_k : zk (sh_num nl) = 1 := by rw [e_r]; rfl
        exact zThrow (own := "ShellSum") (text := "a number of sixteen has no digit") (ik := 54) (is := 113) (ic := 58) hx hb hl9 hown (htz _ zw_2_71) (htz _ zw_1_9) (hT _ _ _ zstr_A_113) (zx_A htz hN) zx_oA hU (hl.1.trans hml.symm) dA_numberIn_70 dA_numberIn_73 dA_numberIn_74 dA_numberIn_76 dA_numberIn_79 hEx hlocks (Nat.le_of_ble_eq_true rfl) (Nat.le_of_ble_eq_true rfl) (by show 0 + 1 ≤ zk (sh_num nl); omega) (by show 0 + 6 ≤ 6 * zk (sh_num nl); omega) (⟨e_r, rfl⟩) hP hD hS (by omega) (by omega)
      refine lv_iload_n hx hb dA_numberIn_49 rfl (lv_at hl 0 rfl) ?_
      refine lv_bipush (v := 16) hx hb dA_numberIn_50 (by decide) ?_
      refine lv_icmp_ne (tgt := 61) hx hb dA_numberIn_52 (by decide) (fun c_8 => ?_) (fun c_8 => ?_)
      · skip
        refine lv_iload_n hx hb dA_numberIn_61 rfl (lv_at hl 2 rfl) ?_
        refine xw_topi (y := nI (a + 0)) (rfl) ?_
        exact j_62 0 (by omega) (by rw [sh_num_eq (by omega), if_neg c_8, if_neg (by omega)]; rfl) _ _ hP hD hS ls (lv_sub hl [0, 1, 2, 3] rfl)
      refine lv_iload_n hx hb dA_numberIn_55 rfl (lv_at hl 2 rfl) ?_
      refine lv_iconst (v := 2) hx hb dA_numberIn_56 (by decide) ?_
      refine lv_iadd hx hb dA_numberIn_57 ?_
      refine xw_topi (y := nI (a + 2)) (nI_add a 2) ?_
      refine lv_goto (tgt := 62) hx hb dA_numberIn_58 (by decide) ?_
      exact j_62 2 (by omega) (by rw [sh_num_eq (by omega), if_pos c_8, c_8]) _ _ hP hD hS ls (lv_sub hl [0, 1, 2, 3] rfl)
    refine lv_iload_n hx hb dA_numberIn_28 rfl (lv_at hl 1 rfl) ?_
    refine lv_iconst (v := 1) hx hb dA_numberIn_29 (by decide) ?_
    refine lv_iadd hx hb dA_numberIn_30 ?_
    refine xw_topi (y := nI (a + 1)) (nI_add a 1) ?_
    refine lv_iload_n hx hb dA_numberIn_31 rfl (lv_at hl 2 rfl) ?_
    refine lv_icmp_ge (tgt := 43) hx hb dA_numberIn_32 (by decide) (fun c_9 => ?_) (fun c_9 => ?_)
    · skip
      have e_32 : a + nl.length ≤ a + 1 := xi_le c_9 (by omega) (by omega)
      refine lv_bipush (v := 48) hx hb dA_numberIn_43 (by decide) ?_
      exact j_45 48 (by rw [if_pos (by omega)]) _ _ hP hD hS ls (lv_sub hl [0, 1, 2] rfl)
    have e_32 : a + 1 < a + nl.length := xi_nle c_9 (by omega) (by omega)
    refine lv_aload_n hx hb dA_numberIn_35 rfl (lv_at hl 0 rfl) ?_
    refine lv_iload_n hx hb dA_numberIn_36 rfl (lv_at hl 1 rfl) ?_
    refine lv_iconst (v := 1) hx hb dA_numberIn_37 (by decide) ?_
    refine lv_iadd hx hb dA_numberIn_38 ?_
    refine xw_topi (y := nI (a + 1)) (nI_add a 1) ?_
    refine va_cald hx hb hK hP kf 0 hk rfl (vp_in_nI (by omega) (by omega)) dA_numberIn_39 ?_
    refine xw_topi (y := f (a + 1)) (by rw [nI_clamp (by omega)]) ?_
    refine xw_topi (y := sh_at nl 1) (hnl 1 (by omega)) ?_
    refine lv_goto (tgt := 45) hx hb dA_numberIn_40 (by decide) ?_
    exact j_45 (sh_at nl 1) (by rw [if_neg (by omega)]) _ _ hP hD hS ls (lv_sub hl [0, 1, 2] rfl)
  exact absurd (xi_nle c_3 (by omega) (by omega)) (by omega)
