set_option maxHeartbeats 4000000 in
set_option maxRecDepth 100000 in
/-- areTexts(chars, n) -/
theorem k_M_areTexts (l : Launch) (x0 : Int64) (n0 : Int32) : Met l yM_areTexts wsM_areTexts ({ frames := 1, cells := 0, slots := 0, locals := 30 }) (va_Pc [.long x0, .int n0] (fun _ => True)) (rq_ (some (.int (sh_b (sh_areT x0 n0))))) 0 0 (fun _ => False) := by
  refine Met.ofW (cc := cM_areTexts) (maxL := 5) (ret := (some .boolean)) (by decide) rfl ?_
  intro p e s m args below meth c s₁ B hml hv
  obtain ⟨rfl, -⟩ := hv
  have hx := B.exec
  have hb := B.bytes
  have hr := B.returns
  have htz : ∀ w ∈ zw, w.before _ s = true := fun w h => atoms_spec (ws := wsM_areTexts) B.pre w (List.mem_cons_of_mem _ h)
  have hown : s.vm.findClass "ShellSumModel" = some m.cls := findClass_of_methodNamed B.named
  have hlocks := B.notSynchronized
  have hl := lv_entry ([.long x0, .int n0]) (n := 5) (Nat.le_of_ble_eq_true rfl)
  rw [lg_entry_eq]
  generalize (lg_sl ([.long x0, .int n0]) ++ List.replicate (5 - (lg_sl ([.long x0, .int n0])).length) Slot.unset).toArray = ls at hl ⊢
  have hl : lv_has ls 5 [(0, .long x0), (2, .int n0)] := hl
  refine lv_iload_n hx hb dM_areTexts_0 rfl (lv_at hl 1 rfl) ?_
  refine lv_if_lt (tgt := 14) hx hb dM_areTexts_1 (by decide) (fun c_1 => ?_) (fun c_1 => ?_)
  · skip
    refine lv_iconst (v := 0) hx hb dM_areTexts_14 (by decide) ?_
    refine lv_istore_n (lv' := [(3, .int 0), (0, .long x0), (2, .int n0)]) hx hb dM_areTexts_15 rfl hl (by decide) rfl (fun ls hl => ?_)
    refine lv_iconst (v := 0) hx hb dM_areTexts_16 (by decide) ?_
    refine xw_topi (y := nI 0) (nI_0.symm) ?_
    refine lv_istore (lv' := [(4, .int (nI 0)), (3, .int 0), (0, .long x0), (2, .int n0)]) hx hb dM_areTexts_17 hl (by decide) rfl (fun ls hl => ?_)
    refine lv_iload hx hb dM_areTexts_19 (lv_at hl 0 rfl) ?_
    refine lv_iload_n hx hb dM_areTexts_21 rfl (lv_at hl 3 rfl) ?_
    refine lv_icmp_ge (tgt := 46) hx hb dM_areTexts_22 (by decide) (fun c_2 => ?_) (fun c_2 => ?_)
    · skip
      refine lv_iload_n hx hb dM_areTexts_46 rfl (lv_at hl 1 rfl) ?_
      exact W.zret (v := 0) hx hb hr (rfl) (fun t ht _ => ⟨by rw [show sh_b (sh_areT x0 n0) = 0 from by grind [sh_b, sh_areT]], ht⟩) t_nil dM_areTexts_47
    refine lv_iload_n hx hb dM_areTexts_25 rfl (lv_at hl 1 rfl) ?_
    refine lv_if_eq (tgt := 46) hx hb dM_areTexts_26 (by decide) (fun c_3 => ?_) (fun c_3 => ?_)
    · skip
      refine lv_iload_n hx hb dM_areTexts_46 rfl (lv_at hl 1 rfl) ?_
      exact W.zret (v := 0) hx hb hr (rfl) (fun t ht _ => ⟨by rw [show sh_b (sh_areT x0 n0) = 0 from by grind [sh_b, sh_areT]], ht⟩) t_nil dM_areTexts_47
    exact absurd rfl c_3
  refine lv_iload_n hx hb dM_areTexts_4 rfl (lv_at hl 1 rfl) ?_
  refine lv_bipush (v := 9) hx hb dM_areTexts_5 (by decide) ?_
  refine lv_icmp_ge (tgt := 14) hx hb dM_areTexts_7 (by decide) (fun c_4 => ?_) (fun c_4 => ?_)
  · skip
    refine lv_iconst (v := 0) hx hb dM_areTexts_14 (by decide) ?_
    refine lv_istore_n (lv' := [(3, .int 0), (0, .long x0), (2, .int n0)]) hx hb dM_areTexts_15 rfl hl (by decide) rfl (fun ls hl => ?_)
    refine lv_iconst (v := 0) hx hb dM_areTexts_16 (by decide) ?_
    refine xw_topi (y := nI 0) (nI_0.symm) ?_
    refine lv_istore (lv' := [(4, .int (nI 0)), (3, .int 0), (0, .long x0), (2, .int n0)]) hx hb dM_areTexts_17 hl (by decide) rfl (fun ls hl => ?_)
    refine lv_iload hx hb dM_areTexts_19 (lv_at hl 0 rfl) ?_
    refine lv_iload_n hx hb dM_areTexts_21 rfl (lv_at hl 3 rfl) ?_
    refine lv_icmp_ge (tgt := 46) hx hb dM_areTexts_22 (by decide) (fun c_5 => ?_) (fun c_5 => ?_)
    · skip
      refine lv_iload_n hx hb dM_areTexts_46 rfl (lv_at hl 1 rfl) ?_
      exact W.zret (v := 0) hx hb hr (rfl) (fun t ht _ => ⟨by rw [show sh_b (sh_areT x0 n0) = 0 from by grind [sh_b, sh_areT]], ht⟩) t_nil dM_areTexts_47
    refine lv_iload_n hx hb dM_areTexts_25 rfl (lv_at hl 1 rfl) ?_
    refine lv_if_eq (tgt := 46) hx hb dM_areTexts_26 (by decide) (fun c_6 => ?_) (fun c_6 => ?_)
    · skip
      refine lv_iload_n hx hb dM_areTexts_46 rfl (lv_at hl 1 rfl) ?_
      exact W.zret (v := 0) hx hb hr (rfl) (fun t ht _ => ⟨by rw [show sh_b (sh_areT x0 n0) = 0 from by grind [sh_b, sh_areT]], ht⟩) t_nil dM_areTexts_47
    exact absurd rfl c_6
  refine lv_iconst (v := 1) hx hb dM_areTexts_10 (by decide) ?_
  refine lv_goto (tgt := 15) hx hb dM_areTexts_11 (by decide) ?_
  obtain ⟨n, hn, rfl⟩ : ∃ n : Nat, n ≤ 8 ∧ n0 = nI n := nI_of2 (M := 8) rfl (by grind) (by grind)
  refine xw_topi (y := sh_b true) (rfl) ?_
  refine lv_istore_n (lv' := [(3, .int (sh_b true)), (0, .long x0), (2, .int (nI n))]) hx hb dM_areTexts_15 rfl hl (by decide) rfl (fun ls hl => ?_)
  refine lv_iconst (v := 0) hx hb dM_areTexts_16 (by decide) ?_
  refine xw_topi (y := nI 0) (nI_0.symm) ?_
  refine lv_istore (lv' := [(4, .int (nI 0)), (3, .int (sh_b true)), (0, .long x0), (2, .int (nI n))]) hx hb dM_areTexts_17 hl (by decide) rfl (fun ls hl => ?_)
  have loop_19 : ∀ (f_loop_19 : Nat) (k : Nat) (b : Bool), n - k < f_loop_19 → (k ≤ n) → (b = true → ∀ j, j < k → sh_ok (sh_byte x0 n j) = true) → (b = false → ∃ j, j < n ∧ sh_ok (sh_byte x0 n j) = false) → ∀ ls : Array Slot, lv_has ls 5 [(4, .int (nI k)), (3, .int (sh_b b)), (0, .long x0), (2, .int (nI n))] → W p l e (headSpec wsM_areTexts ({ frames := 1, cells := 0, slots := 0, locals := 30 })).room s m ([.long x0, .int (nI n)] : List Value).toArray below meth c s.heap [] 0 0 (MQ below (rq_ (some (.int (sh_b (sh_areT x0 (nI n)))))) ([.long x0, .int (nI n)] : List Value).toArray s 0 0 (fun _ => False)) (F0 m 19 ls []) := by
    intro f_loop_19
    induction f_loop_19 with
    | zero => intro k b hf; exact absurd hf (Nat.not_lt_zero _)
    | succ f_loop_19 ih_loop_19 =>
      intro k b hf_loop_19 hk h1 h2 ls hl
      refine lv_iload hx hb dM_areTexts_19 (lv_at hl 0 rfl) ?_
      refine lv_iload_n hx hb dM_areTexts_21 rfl (lv_at hl 3 rfl) ?_
      refine lv_icmp_ge (tgt := 46) hx hb dM_areTexts_22 (by decide) (fun c_7 => ?_) (fun c_7 => ?_)
      · skip
        have e_22 : n ≤ k := xi_le c_7 (by omega) (by omega)
        refine lv_iload_n hx hb dM_areTexts_46 rfl (lv_at hl 1 rfl) ?_
        exact W.zret (v := sh_b b) hx hb hr (by cases b <;> rfl) (fun t ht _ => ⟨by rw [show sh_b (sh_areT x0 (nI n)) = sh_b b from by exact areT_end hn h1 h2 (Or.inl e_22)], ht⟩) t_nil dM_areTexts_47
      have e_22 : k < n := xi_nle c_7 (by omega) (by omega)
      refine lv_iload_n hx hb dM_areTexts_25 rfl (lv_at hl 1 rfl) ?_
      refine lv_if_eq (tgt := 46) hx hb dM_areTexts_26 (by decide) (fun c_8 => ?_) (fun c_8 => ?_)
      · skip
        refine lv_iload_n hx hb dM_areTexts_46 rfl (lv_at hl 1 rfl) ?_
        exact W.zret (v := sh_b b) hx hb hr (by cases b <;> rfl) (fun t ht _ => ⟨by rw [show sh_b (sh_areT x0 (nI n)) = sh_b b from by exact areT_end hn h1 h2 (Or.inr c_8)], ht⟩) t_nil dM_areTexts_47
      refine lv_lload_n hx hb dM_areTexts_29 rfl (lv_at hl 2 rfl) ?_
      refine lv_iload_n hx hb dM_areTexts_30 rfl (lv_at hl 3 rfl) ?_
      refine lv_iload hx hb dM_areTexts_31 (lv_at hl 0 rfl) ?_
      refine rq_call (va_runS (As := [.long x0, .int (nI n), .int (nI k)]) (rest := []) ⟨hx, hb, hml, hown, htz⟩ (k_M_byteOf l x0 (nI n) (nI k)) (cwS 3 htz (zg_S zw_3_11 zw_3_12 zw_1_4 zw_3_13) rfl rfl rfl (by decide +kernel) ⟨Nat.le_of_ble_eq_true rfl, Nat.le_of_ble_eq_true rfl⟩) rq_pre rfl rfl hl.1 rfl (lv_room (Nat.le_of_ble_eq_true rfl)) dM_areTexts_33 ⟨Nat.zero_le _, Nat.zero_le _⟩) ?_
      refine W.eq (g2 := F0 m 36 ls [.int (sh_bM x0 (nI n) (nI k))]) rfl ?_
      refine xw_topi (y := sh_byte x0 n k) (sh_bM_eq (by omega) hn) ?_
      refine rq_call (va_runS (As := [.int (sh_byte x0 n k)]) (rest := []) ⟨hx, hb, hml, hown, htz⟩ (k_M_isText l (sh_byte x0 n k)) (cwS 1 htz (zg_S zw_3_15 zw_3_16 zw_1_4 zw_3_17) rfl rfl rfl (by decide +kernel) ⟨Nat.le_of_ble_eq_true rfl, Nat.le_of_ble_eq_true rfl⟩) rq_pre rfl rfl hl.1 rfl (lv_room (Nat.le_of_ble_eq_true rfl)) dM_areTexts_36 ⟨Nat.zero_le _, Nat.zero_le _⟩) ?_
      refine W.eq (g2 := F0 m 39 ls [.int (sh_b (sh_ok (sh_byte x0 n k)))]) rfl ?_
      refine lv_istore_n (lv' := [(3, .int (sh_b (sh_ok (sh_byte x0 n k)))), (4, .int (nI k)), (0, .long x0), (2, .int (nI n))]) hx hb dM_areTexts_39 rfl hl (by decide) rfl (fun ls hl => ?_)
      refine lv_iinc (v := nI (k + 1)) (lv' := [(4, .int (nI (k + 1))), (3, .int (sh_b (sh_ok (sh_byte x0 n k)))), (0, .long x0), (2, .int (nI n))]) hx hb dM_areTexts_40 hl (k := 1) rfl (nI_1 k) (by decide) rfl (fun ls hl => ?_)
      refine lv_goto (tgt := 19) hx hb dM_areTexts_43 (by decide) ?_
      exact ih_loop_19 (k + 1) (sh_ok (sh_byte x0 n k)) (by omega) (by omega) (fun h => lt_s (h1 (by grind [sh_b])) h) (fun h => ⟨k, by omega, h⟩) ls (lv_sub hl [0, 1, 2, 3] rfl)
  exact loop_19 _ 0 true (Nat.lt_succ_self _) (Nat.zero_le _) (fun _ j h => absurd h (Nat.not_lt_zero _)) (fun h => by cases h) ls (lv_sub hl [0, 1, 2, 3] rfl)
set_option maxHeartbeats 4000000 in
set_option maxRecDepth 100000 in
/-- find(row, from, n) -/
theorem k_M_findU (l : Launch) (dC : Nat → ClassId) (dI : Nat → Nat → Nat) (kI kJ kZ : ClassId) (am bT bU bS b1 b2 bL bK bV bN bX bA bB bH : Nat) (cd fsz ln pl ne bd wa hi my gd wr hs : Int32) (nu : Int64) (fT fU fS f1 f2 fL fN fX fA fB fH : Nat → Int32) (fK fV : Nat → Int64) (tl : va_W) (a : Nat) (ql : List Int32) (sl : List mO) (env : sh_Env) (hrow : ∀ j, j < ql.length → fU (a + j) = sh_at ql j) (ha : a + ql.length ≤ 300) (h1 : 1 ≤ ql.length) (hM : zMn fN fX fA fB sl env) : Met l yM_find wsM_find ({ frames := 0, cells := 0, slots := 0, locals := 0 }) (va_Pc [.ref am, .ref bU, .int (nI a), .int (nI ql.length)] (zR dC dI [(kI, .int), (kJ, .long), (kZ, .boolean)] ((am, .inr (4, [.int cd, .ref bT, .ref bU, .int fsz, .int ln, .int pl, .int ne, .int bd, .ref bS, .ref b1, .ref b2, .ref bL, .ref bK, .ref bV, .int wa, .int hi, .ref bN, .ref bX, .ref bA, .ref bB, .int my, .int gd, .int wr, .ref bH, .int hs, .long nu])) :: (bT, .inl (kI, 300, .inl fT)) :: (bU, .inl (kI, 300, .inl fU)) :: (bS, .inl (kI, 2000, .inl fS)) :: (b1, .inl (kI, 2000, .inl f1)) :: (b2, .inl (kI, 2000, .inl f2)) :: (bL, .inl (kZ, 2000, .inl fL)) :: (bK, .inl (kJ, 2000, .inr (.inl fK))) :: (bV, .inl (kJ, 400, .inr (.inl fV))) :: (bN, .inl (kI, 19200, .inl fN)) :: (bX, .inl (kI, 1536, .inl fX)) :: (bA, .inl (kI, 64, .inl fA)) :: (bB, .inl (kI, 64, .inl fB)) :: (bH, .inl (kI, 8, .inl fH)) :: tl))) (rq_ (some (.int (m_fk sl ql 64)))) 0 0 (fun _ => False) := by
  refine Met.ofW (cc := cM_find) (maxL := 8) (ret := (some .int)) (by decide) rfl ?_
  intro p e s m args below meth c s₁ B hml hv
  obtain ⟨rfl, hP, hK, hN⟩ := hv
  have hx := B.exec
  have hb := B.bytes
  have hr := B.returns
  have htz : ∀ w ∈ zw, w.before _ s = true := fun w h => atoms_spec (ws := wsM_find) B.pre w (List.mem_cons_of_mem _ h)
  have hown : s.vm.findClass "ShellSumModel" = some m.cls := findClass_of_methodNamed B.named
  have hlocks := B.notSynchronized
  have hl := lv_entry ([.ref am, .ref bU, .int (nI a), .int (nI ql.length)]) (n := 8) (Nat.le_of_ble_eq_true rfl)
  rw [lg_entry_eq]
  generalize (lg_sl ([.ref am, .ref bU, .int (nI a), .int (nI ql.length)]) ++ List.replicate (8 - (lg_sl ([.ref am, .ref bU, .int (nI a), .int (nI ql.length)])).length) Slot.unset).toArray = ls at hl ⊢
  have hl : lv_has ls 8 [(0, .ref am), (1, .ref bU), (2, .int (nI a)), (3, .int (nI ql.length))] := hl
  refine lv_iconst (v := (-1)) hx hb dM_find_0 (by decide) ?_
  refine xw_topi (y := m_fk sl ql 0) (rfl) ?_
  refine lv_istore (lv' := [(4, .int (m_fk sl ql 0)), (0, .ref am), (1, .ref bU), (2, .int (nI a)), (3, .int (nI ql.length))]) hx hb dM_find_1 hl (by decide) rfl (fun ls hl => ?_)
  refine lv_iconst (v := 0) hx hb dM_find_3 (by decide) ?_
  refine xw_topi (y := nI 0) (nI_0.symm) ?_
  refine lv_istore (lv' := [(5, .int (nI 0)), (4, .int (m_fk sl ql 0)), (0, .ref am), (1, .ref bU), (2, .int (nI a)), (3, .int (nI ql.length))]) hx hb dM_find_4 hl (by decide) rfl (fun ls hl => ?_)
  have loop_6 : ∀ (f_loop_6 : Nat) (k : Nat), 64 - k < f_loop_6 → (k ≤ 64) → ∀ ls : Array Slot, lv_has ls 8 [(5, .int (nI k)), (4, .int (m_fk sl ql k)), (0, .ref am), (1, .ref bU), (2, .int (nI a)), (3, .int (nI ql.length))] → W p l e (headSpec wsM_find ({ frames := 0, cells := 0, slots := 0, locals := 0 })).room s m ([.ref am, .ref bU, .int (nI a), .int (nI ql.length)] : List Value).toArray below meth c s.heap [] 0 0 (MQ below (rq_ (some (.int (m_fk sl ql 64)))) ([.ref am, .ref bU, .int (nI a), .int (nI ql.length)] : List Value).toArray s 0 0 (fun _ => False)) (F0 m 6 ls []) := by
    intro f_loop_6
    induction f_loop_6 with
    | zero => intro k hf; exact absurd hf (Nat.not_lt_zero _)
    | succ f_loop_6 ih_loop_6 =>
      intro k hf_loop_6 hk ls hl
      refine lv_iload hx hb dM_find_6 (lv_at hl 0 rfl) ?_
      refine lv_bipush (v := 64) hx hb dM_find_8 (by decide) ?_
      refine lv_icmp_ge (tgt := 101) hx hb dM_find_10 (by decide) (fun c_1 => ?_) (fun c_1 => ?_)
      · skip
        have e_10 : 64 ≤ k := xi_le (a := 64) c_1 (by decide) (by omega)
        refine lv_iload hx hb dM_find_101 (lv_at hl 1 rfl) ?_
        exact W.iret (v := m_fk sl ql k) hx hb hr (fun t ht _ => ⟨by rw [show k = 64 by omega], ht⟩) t_nil dM_find_103
      have e_10 : k < 64 := xi_nle (a := 64) c_1 (by decide) (by omega)
      obtain ⟨o, ho, hz⟩ := zMn_slot hM e_10
      have hmt := zSl_match ho hz h1 (by omega)
      have j_29 : ∀ (sm : Bool), (sm = true ↔ fA k = nI ql.length) → ∀ ls : Array Slot, lv_has ls 8 [(5, .int (nI k)), (4, .int (m_fk sl ql k)), (0, .ref am), (1, .ref bU), (2, .int (nI a)), (3, .int (nI ql.length))] → W p l e (headSpec wsM_find ({ frames := 0, cells := 0, slots := 0, locals := 0 })).room s m ([.ref am, .ref bU, .int (nI a), .int (nI ql.length)] : List Value).toArray below meth c s.heap [] 0 0 (MQ below (rq_ (some (.int (m_fk sl ql 64)))) ([.ref am, .ref bU, .int (nI a), .int (nI ql.length)] : List Value).toArray s 0 0 (fun _ => False)) (F0 m 29 ls [.int (sh_b sm)]) := by
        intro sm hsm ls hl
        refine lv_istore (lv' := [(6, .int (sh_b sm)), (5, .int (nI k)), (4, .int (m_fk sl ql k)), (0, .ref am), (1, .ref bU), (2, .int (nI a)), (3, .int (nI ql.length))]) hx hb dM_find_29 hl (by decide) rfl (fun ls hl => ?_)
        refine lv_iconst (v := 0) hx hb dM_find_31 (by decide) ?_
        refine xw_topi (y := nI 0) (nI_0.symm) ?_
        refine lv_istore (lv' := [(7, .int (nI 0)), (6, .int (sh_b sm)), (5, .int (nI k)), (4, .int (m_fk sl ql k)), (0, .ref am), (1, .ref bU), (2, .int (nI a)), (3, .int (nI ql.length))]) hx hb dM_find_32 hl (by decide) rfl (fun ls hl => ?_)
        have loop_34 : ∀ (f_loop_34 : Nat) (i : Nat) (sb : Bool), ql.length - i < f_loop_34 → (i ≤ ql.length) → (sb = true ↔ fA k = nI ql.length ∧ ∀ j, j < i → fN (300 * k + j) = sh_at ql j) → ∀ ls : Array Slot, lv_has ls 8 [(7, .int (nI i)), (6, .int (sh_b sb)), (5, .int (nI k)), (4, .int (m_fk sl ql k)), (0, .ref am), (1, .ref bU), (2, .int (nI a)), (3, .int (nI ql.length))] → W p l e (headSpec wsM_find ({ frames := 0, cells := 0, slots := 0, locals := 0 })).room s m ([.ref am, .ref bU, .int (nI a), .int (nI ql.length)] : List Value).toArray below meth c s.heap [] 0 0 (MQ below (rq_ (some (.int (m_fk sl ql 64)))) ([.ref am, .ref bU, .int (nI a), .int (nI ql.length)] : List Value).toArray s 0 0 (fun _ => False)) (F0 m 34 ls []) := by
          intro f_loop_34
          induction f_loop_34 with
          | zero => intro i sb hf; exact absurd hf (Nat.not_lt_zero _)
          | succ f_loop_34 ih_loop_34 =>
            intro i sb hf_loop_34 hii hsb ls hl
            refine lv_iload hx hb dM_find_34 (lv_at hl 0 rfl) ?_
            refine lv_iload_n hx hb dM_find_36 rfl (lv_at hl 7 rfl) ?_
            refine lv_icmp_ge (tgt := 81) hx hb dM_find_37 (by decide) (fun c_2 => ?_) (fun c_2 => ?_)
            · skip
              have e_37 : ql.length ≤ i := xi_le c_2 (by omega) (by omega)
              refine lv_iload hx hb dM_find_81 (lv_at hl 1 rfl) ?_
              refine lv_if_eq (tgt := 91) hx hb dM_find_83 (by decide) (fun c_3 => ?_) (fun c_3 => ?_)
              · skip
                have e_83 : sb = false := sh_bf c_3
                refine lv_iload hx hb dM_find_91 (lv_at hl 3 rfl) ?_
                refine xw_topi (y := m_fk sl ql (k + 1)) (fk_no hmt hsb e_83 hii) ?_
                refine lv_istore (lv' := [(4, .int (m_fk sl ql (k + 1))), (7, .int (nI i)), (6, .int (sh_b sb)), (5, .int (nI k)), (0, .ref am), (1, .ref bU), (2, .int (nI a)), (3, .int (nI ql.length))]) hx hb dM_find_93 hl (by decide) rfl (fun ls hl => ?_)
                refine lv_iinc (v := nI (k + 1)) (lv' := [(5, .int (nI (k + 1))), (4, .int (m_fk sl ql (k + 1))), (7, .int (nI i)), (6, .int (sh_b sb)), (0, .ref am), (1, .ref bU), (2, .int (nI a)), (3, .int (nI ql.length))]) hx hb dM_find_95 hl (k := 3) rfl (nI_1 k) (by decide) rfl (fun ls hl => ?_)
                refine lv_goto (tgt := 6) hx hb dM_find_98 (by decide) ?_
                exact ih_loop_6 (k + 1) (by omega) (by omega) ls (lv_sub hl [0, 1, 4, 5, 6, 7] rfl)
              have e_83 : sb = true := sh_bt c_3
              refine lv_iload hx hb dM_find_86 (lv_at hl 2 rfl) ?_
              refine lv_goto (tgt := 93) hx hb dM_find_88 (by decide) ?_
              refine xw_topi (y := m_fk sl ql (k + 1)) (fk_yes hmt hsb e_83 (Or.inl e_37)) ?_
              refine lv_istore (lv' := [(4, .int (m_fk sl ql (k + 1))), (7, .int (nI i)), (6, .int (sh_b sb)), (5, .int (nI k)), (0, .ref am), (1, .ref bU), (2, .int (nI a)), (3, .int (nI ql.length))]) hx hb dM_find_93 hl (by decide) rfl (fun ls hl => ?_)
              refine lv_iinc (v := nI (k + 1)) (lv' := [(5, .int (nI (k + 1))), (4, .int (m_fk sl ql (k + 1))), (7, .int (nI i)), (6, .int (sh_b sb)), (0, .ref am), (1, .ref bU), (2, .int (nI a)), (3, .int (nI ql.length))]) hx hb dM_find_95 hl (k := 3) rfl (nI_1 k) (by decide) rfl (fun ls hl => ?_)
              refine lv_goto (tgt := 6) hx hb dM_find_98 (by decide) ?_
              exact ih_loop_6 (k + 1) (by omega) (by omega) ls (lv_sub hl [0, 1, 4, 5, 6, 7] rfl)
            have e_37 : i < ql.length := xi_nle c_2 (by omega) (by omega)
            refine lv_iload hx hb dM_find_40 (lv_at hl 1 rfl) ?_
            refine lv_if_eq (tgt := 81) hx hb dM_find_42 (by decide) (fun c_4 => ?_) (fun c_4 => ?_)
            · skip
              have e_42 : sb = false := sh_bf c_4
              refine lv_iload hx hb dM_find_81 (lv_at hl 1 rfl) ?_
              refine lv_if_eq (tgt := 91) hx hb dM_find_83 (by decide) (fun c_5 => ?_) (fun c_5 => ?_)
              · skip
                have e_83 : sb = false := sh_bf c_5
                refine lv_iload hx hb dM_find_91 (lv_at hl 3 rfl) ?_
                refine xw_topi (y := m_fk sl ql (k + 1)) (fk_no hmt hsb e_83 hii) ?_
                refine lv_istore (lv' := [(4, .int (m_fk sl ql (k + 1))), (7, .int (nI i)), (6, .int (sh_b sb)), (5, .int (nI k)), (0, .ref am), (1, .ref bU), (2, .int (nI a)), (3, .int (nI ql.length))]) hx hb dM_find_93 hl (by decide) rfl (fun ls hl => ?_)
                refine lv_iinc (v := nI (k + 1)) (lv' := [(5, .int (nI (k + 1))), (4, .int (m_fk sl ql (k + 1))), (7, .int (nI i)), (6, .int (sh_b sb)), (0, .ref am), (1, .ref bU), (2, .int (nI a)), (3, .int (nI ql.length))]) hx hb dM_find_95 hl (k := 3) rfl (nI_1 k) (by decide) rfl (fun ls hl => ?_)
                refine lv_goto (tgt := 6) hx hb dM_find_98 (by decide) ?_
                exact ih_loop_6 (k + 1) (by omega) (by omega) ls (lv_sub hl [0, 1, 4, 5, 6, 7] rfl)
              have e_83 : sb = true := sh_bt c_5
              refine lv_iload hx hb dM_find_86 (lv_at hl 2 rfl) ?_
              refine lv_goto (tgt := 93) hx hb dM_find_88 (by decide) ?_
              refine xw_topi (y := m_fk sl ql (k + 1)) (fk_yes hmt hsb e_83 (Or.inr e_42)) ?_
              refine lv_istore (lv' := [(4, .int (m_fk sl ql (k + 1))), (7, .int (nI i)), (6, .int (sh_b sb)), (5, .int (nI k)), (0, .ref am), (1, .ref bU), (2, .int (nI a)), (3, .int (nI ql.length))]) hx hb dM_find_93 hl (by decide) rfl (fun ls hl => ?_)
              refine lv_iinc (v := nI (k + 1)) (lv' := [(5, .int (nI (k + 1))), (4, .int (m_fk sl ql (k + 1))), (7, .int (nI i)), (6, .int (sh_b sb)), (0, .ref am), (1, .ref bU), (2, .int (nI a)), (3, .int (nI ql.length))]) hx hb dM_find_95 hl (k := 3) rfl (nI_1 k) (by decide) rfl (fun ls hl => ?_)
              refine lv_goto (tgt := 6) hx hb dM_find_98 (by decide) ?_
              exact ih_loop_6 (k + 1) (by omega) (by omega) ls (lv_sub hl [0, 1, 4, 5, 6, 7] rfl)
            have e_42 : sb = true := sh_bt c_4
            refine lv_aload_n hx hb dM_find_45 rfl (lv_at hl 4 rfl) ?_
            refine va_get (D := (dC, dI)) (ci := 4) (v := .ref bN) (C := "ShellSumModel") (T := TM) (N := 26) hx hb htz zu_M hown hK hP 0 rfl rfl 16 (by decide) (htz _ zw_2_176) (fun _ h9 => h9) rfl dM_find_46 ?_
            refine lv_sipush (v := 300) hx hb dM_find_49 (by decide) ?_
            refine lv_iload hx hb dM_find_52 (lv_at hl 2 rfl) ?_
            refine lv_imul hx hb dM_find_54 ?_
            refine xw_topi (y := nI (300 * k)) (pk_mul 300 k) ?_
            refine lv_iload hx hb dM_find_55 (lv_at hl 0 rfl) ?_
            refine lv_iadd hx hb dM_find_57 ?_
            refine xw_topi (y := nI (300 * k + i)) (nI_add (300 * k) i) ?_
            refine va_iald hx hb hK hP 9 0 rfl rfl (vp_in_nI (by omega) (by omega)) dM_find_58 ?_
            refine xw_topi (y := fN (300 * k + i)) (by rw [nI_clamp (by omega)]) ?_
            refine lv_aload_n hx hb dM_find_59 rfl (lv_at hl 5 rfl) ?_
            refine lv_iload_n hx hb dM_find_60 rfl (lv_at hl 6 rfl) ?_
            refine lv_iload hx hb dM_find_61 (lv_at hl 0 rfl) ?_
            refine lv_iadd hx hb dM_find_63 ?_
            refine xw_topi (y := nI (a + i)) (nI_add a i) ?_
            refine va_iald hx hb hK hP 2 0 rfl rfl (vp_in_nI (by omega) (by omega)) dM_find_64 ?_
            refine xw_topi (y := fU (a + i)) (by rw [nI_clamp (by omega)]) ?_
            refine xw_topi (y := sh_at ql i) (hrow i e_37) ?_
            refine lv_icmp_ne (tgt := 72) hx hb dM_find_65 (by decide) (fun c_6 => ?_) (fun c_6 => ?_)
            · skip
              refine lv_iconst (v := 0) hx hb dM_find_72 (by decide) ?_
              refine xw_topi (y := sh_b false) (rfl) ?_
              refine lv_istore (lv' := [(6, .int (sh_b false)), (7, .int (nI i)), (5, .int (nI k)), (4, .int (m_fk sl ql k)), (0, .ref am), (1, .ref bU), (2, .int (nI a)), (3, .int (nI ql.length))]) hx hb dM_find_73 hl (by decide) rfl (fun ls hl => ?_)
              refine lv_iinc (v := nI (i + 1)) (lv' := [(7, .int (nI (i + 1))), (6, .int (sh_b false)), (5, .int (nI k)), (4, .int (m_fk sl ql k)), (0, .ref am), (1, .ref bU), (2, .int (nI a)), (3, .int (nI ql.length))]) hx hb dM_find_75 hl (k := 1) rfl (nI_1 i) (by decide) rfl (fun ls hl => ?_)
              refine lv_goto (tgt := 34) hx hb dM_find_78 (by decide) ?_
              exact ih_loop_34 (i + 1) false (by omega) (by omega) (iff_of_false (by decide) (fun h => c_6 (h.2 i (by omega)))) ls (lv_sub hl [0, 1, 2, 3, 4, 5, 6, 7] rfl)
            refine lv_iconst (v := 1) hx hb dM_find_68 (by decide) ?_
            refine lv_goto (tgt := 73) hx hb dM_find_69 (by decide) ?_
            refine xw_topi (y := sh_b true) (rfl) ?_
            refine lv_istore (lv' := [(6, .int (sh_b true)), (7, .int (nI i)), (5, .int (nI k)), (4, .int (m_fk sl ql k)), (0, .ref am), (1, .ref bU), (2, .int (nI a)), (3, .int (nI ql.length))]) hx hb dM_find_73 hl (by decide) rfl (fun ls hl => ?_)
            refine lv_iinc (v := nI (i + 1)) (lv' := [(7, .int (nI (i + 1))), (6, .int (sh_b true)), (5, .int (nI k)), (4, .int (m_fk sl ql k)), (0, .ref am), (1, .ref bU), (2, .int (nI a)), (3, .int (nI ql.length))]) hx hb dM_find_75 hl (k := 1) rfl (nI_1 i) (by decide) rfl (fun ls hl => ?_)
            refine lv_goto (tgt := 34) hx hb dM_find_78 (by decide) ?_
            exact ih_loop_34 (i + 1) true (by omega) (by omega) (iff_of_true rfl ⟨(hsb.mp e_42).1, lt_s (hsb.mp e_42).2 c_6⟩) ls (lv_sub hl [0, 1, 2, 3, 4, 5, 6, 7] rfl)
        exact loop_34 _ 0 sm (Nat.lt_succ_self _) (Nat.zero_le _) (hsm.trans ⟨fun h => ⟨h, fun j hj => absurd hj (Nat.not_lt_zero _)⟩, fun h => h.1⟩) ls (lv_sub hl [0, 1, 2, 3, 4, 5, 6, 7] rfl)
      refine lv_aload_n hx hb dM_find_13 rfl (lv_at hl 2 rfl) ?_
      refine va_get (D := (dC, dI)) (ci := 4) (v := .ref bA) (C := "ShellSumModel") (T := TM) (N := 26) hx hb htz zu_M hown hK hP 0 rfl rfl 18 (by decide) (htz _ zw_2_178) (fun _ h9 => h9) rfl dM_find_14 ?_
      refine lv_iload hx hb dM_find_17 (lv_at hl 0 rfl) ?_
      refine va_iald hx hb hK hP 11 0 rfl rfl (vp_in_nI (by omega) (by omega)) dM_find_19 ?_
      refine xw_topi (y := fA k) (by rw [nI_clamp (by omega)]) ?_
      refine lv_iload_n hx hb dM_find_20 rfl (lv_at hl 5 rfl) ?_
      refine lv_icmp_ne (tgt := 28) hx hb dM_find_21 (by decide) (fun c_7 => ?_) (fun c_7 => ?_)
      · skip
        refine lv_iconst (v := 0) hx hb dM_find_28 (by decide) ?_
        exact j_29 false (iff_of_false (by decide) c_7) ls (lv_sub hl [0, 1, 2, 3, 4, 5] rfl)
      refine lv_iconst (v := 1) hx hb dM_find_24 (by decide) ?_
      refine lv_goto (tgt := 29) hx hb dM_find_25 (by decide) ?_
      exact j_29 true (iff_of_true rfl c_7) ls (lv_sub hl [0, 1, 2, 3, 4, 5] rfl)
  exact loop_6 _ 0 (Nat.lt_succ_self _) (Nat.zero_le _) ls (lv_sub hl [0, 1, 2, 3, 4, 5] rfl)
set_option maxHeartbeats 4000000 in
set_option maxRecDepth 100000 in
/-- find(row, from, n) -/
theorem k_M_findH (l : Launch) (dC : Nat → ClassId) (dI : Nat → Nat → Nat) (kI kJ kZ : ClassId) (am bT bU bS b1 b2 bL bK bV bN bX bA bB bH : Nat) (cd fsz ln pl ne bd wa hi my gd wr hs : Int32) (nu : Int64) (fT fU fS f1 f2 fL fN fX fA fB fH : Nat → Int32) (fK fV : Nat → Int64) (tl : va_W) (a : Nat) (ql : List Int32) (sl : List mO) (env : sh_Env) (hrow : ∀ j, j < ql.length → fH (a + j) = sh_at ql j) (ha : a + ql.length ≤ 8) (h1 : 1 ≤ ql.length) (hM : zMn fN fX fA fB sl env) : Met l yM_find wsM_find ({ frames := 0, cells := 0, slots := 0, locals := 0 }) (va_Pc [.ref am, .ref bH, .int (nI a), .int (nI ql.length)] (zR dC dI [(kI, .int), (kJ, .long), (kZ, .boolean)] ((am, .inr (4, [.int cd, .ref bT, .ref bU, .int fsz, .int ln, .int pl, .int ne, .int bd, .ref bS, .ref b1, .ref b2, .ref bL, .ref bK, .ref bV, .int wa, .int hi, .ref bN, .ref bX, .ref bA, .ref bB, .int my, .int gd, .int wr, .ref bH, .int hs, .long nu])) :: (bT, .inl (kI, 300, .inl fT)) :: (bU, .inl (kI, 300, .inl fU)) :: (bS, .inl (kI, 2000, .inl fS)) :: (b1, .inl (kI, 2000, .inl f1)) :: (b2, .inl (kI, 2000, .inl f2)) :: (bL, .inl (kZ, 2000, .inl fL)) :: (bK, .inl (kJ, 2000, .inr (.inl fK))) :: (bV, .inl (kJ, 400, .inr (.inl fV))) :: (bN, .inl (kI, 19200, .inl fN)) :: (bX, .inl (kI, 1536, .inl fX)) :: (bA, .inl (kI, 64, .inl fA)) :: (bB, .inl (kI, 64, .inl fB)) :: (bH, .inl (kI, 8, .inl fH)) :: tl))) (rq_ (some (.int (m_fk sl ql 64)))) 0 0 (fun _ => False) := by
  refine Met.ofW (cc := cM_find) (maxL := 8) (ret := (some .int)) (by decide) rfl ?_
  intro p e s m args below meth c s₁ B hml hv
  obtain ⟨rfl, hP, hK, hN⟩ := hv
  have hx := B.exec
  have hb := B.bytes
  have hr := B.returns
  have htz : ∀ w ∈ zw, w.before _ s = true := fun w h => atoms_spec (ws := wsM_find) B.pre w (List.mem_cons_of_mem _ h)
  have hown : s.vm.findClass "ShellSumModel" = some m.cls := findClass_of_methodNamed B.named
  have hlocks := B.notSynchronized
  have hl := lv_entry ([.ref am, .ref bH, .int (nI a), .int (nI ql.length)]) (n := 8) (Nat.le_of_ble_eq_true rfl)
  rw [lg_entry_eq]
  generalize (lg_sl ([.ref am, .ref bH, .int (nI a), .int (nI ql.length)]) ++ List.replicate (8 - (lg_sl ([.ref am, .ref bH, .int (nI a), .int (nI ql.length)])).length) Slot.unset).toArray = ls at hl ⊢
  have hl : lv_has ls 8 [(0, .ref am), (1, .ref bH), (2, .int (nI a)), (3, .int (nI ql.length))] := hl
  refine lv_iconst (v := (-1)) hx hb dM_find_0 (by decide) ?_
  refine xw_topi (y := m_fk sl ql 0) (rfl) ?_
  refine lv_istore (lv' := [(4, .int (m_fk sl ql 0)), (0, .ref am), (1, .ref bH), (2, .int (nI a)), (3, .int (nI ql.length))]) hx hb dM_find_1 hl (by decide) rfl (fun ls hl => ?_)
  refine lv_iconst (v := 0) hx hb dM_find_3 (by decide) ?_
  refine xw_topi (y := nI 0) (nI_0.symm) ?_
  refine lv_istore (lv' := [(5, .int (nI 0)), (4, .int (m_fk sl ql 0)), (0, .ref am), (1, .ref bH), (2, .int (nI a)), (3, .int (nI ql.length))]) hx hb dM_find_4 hl (by decide) rfl (fun ls hl => ?_)
  have loop_6 : ∀ (f_loop_6 : Nat) (k : Nat), 64 - k < f_loop_6 → (k ≤ 64) → ∀ ls : Array Slot, lv_has ls 8 [(5, .int (nI k)), (4, .int (m_fk sl ql k)), (0, .ref am), (1, .ref bH), (2, .int (nI a)), (3, .int (nI ql.length))] → W p l e (headSpec wsM_find ({ frames := 0, cells := 0, slots := 0, locals := 0 })).room s m ([.ref am, .ref bH, .int (nI a), .int (nI ql.length)] : List Value).toArray below meth c s.heap [] 0 0 (MQ below (rq_ (some (.int (m_fk sl ql 64)))) ([.ref am, .ref bH, .int (nI a), .int (nI ql.length)] : List Value).toArray s 0 0 (fun _ => False)) (F0 m 6 ls []) := by
    intro f_loop_6
    induction f_loop_6 with
    | zero => intro k hf; exact absurd hf (Nat.not_lt_zero _)
    | succ f_loop_6 ih_loop_6 =>
      intro k hf_loop_6 hk ls hl
      refine lv_iload hx hb dM_find_6 (lv_at hl 0 rfl) ?_
      refine lv_bipush (v := 64) hx hb dM_find_8 (by decide) ?_
      refine lv_icmp_ge (tgt := 101) hx hb dM_find_10 (by decide) (fun c_1 => ?_) (fun c_1 => ?_)
      · skip
        have e_10 : 64 ≤ k := xi_le (a := 64) c_1 (by decide) (by omega)
        refine lv_iload hx hb dM_find_101 (lv_at hl 1 rfl) ?_
        exact W.iret (v := m_fk sl ql k) hx hb hr (fun t ht _ => ⟨by rw [show k = 64 by omega], ht⟩) t_nil dM_find_103
      have e_10 : k < 64 := xi_nle (a := 64) c_1 (by decide) (by omega)
      obtain ⟨o, ho, hz⟩ := zMn_slot hM e_10
      have hmt := zSl_match ho hz h1 (by omega)
      have j_29 : ∀ (sm : Bool), (sm = true ↔ fA k = nI ql.length) → ∀ ls : Array Slot, lv_has ls 8 [(5, .int (nI k)), (4, .int (m_fk sl ql k)), (0, .ref am), (1, .ref bH), (2, .int (nI a)), (3, .int (nI ql.length))] → W p l e (headSpec wsM_find ({ frames := 0, cells := 0, slots := 0, locals := 0 })).room s m ([.ref am, .ref bH, .int (nI a), .int (nI ql.length)] : List Value).toArray below meth c s.heap [] 0 0 (MQ below (rq_ (some (.int (m_fk sl ql 64)))) ([.ref am, .ref bH, .int (nI a), .int (nI ql.length)] : List Value).toArray s 0 0 (fun _ => False)) (F0 m 29 ls [.int (sh_b sm)]) := by
        intro sm hsm ls hl
        refine lv_istore (lv' := [(6, .int (sh_b sm)), (5, .int (nI k)), (4, .int (m_fk sl ql k)), (0, .ref am), (1, .ref bH), (2, .int (nI a)), (3, .int (nI ql.length))]) hx hb dM_find_29 hl (by decide) rfl (fun ls hl => ?_)
        refine lv_iconst (v := 0) hx hb dM_find_31 (by decide) ?_
        refine xw_topi (y := nI 0) (nI_0.symm) ?_
        refine lv_istore (lv' := [(7, .int (nI 0)), (6, .int (sh_b sm)), (5, .int (nI k)), (4, .int (m_fk sl ql k)), (0, .ref am), (1, .ref bH), (2, .int (nI a)), (3, .int (nI ql.length))]) hx hb dM_find_32 hl (by decide) rfl (fun ls hl => ?_)
        have loop_34 : ∀ (f_loop_34 : Nat) (i : Nat) (sb : Bool), ql.length - i < f_loop_34 → (i ≤ ql.length) → (sb = true ↔ fA k = nI ql.length ∧ ∀ j, j < i → fN (300 * k + j) = sh_at ql j) → ∀ ls : Array Slot, lv_has ls 8 [(7, .int (nI i)), (6, .int (sh_b sb)), (5, .int (nI k)), (4, .int (m_fk sl ql k)), (0, .ref am), (1, .ref bH), (2, .int (nI a)), (3, .int (nI ql.length))] → W p l e (headSpec wsM_find ({ frames := 0, cells := 0, slots := 0, locals := 0 })).room s m ([.ref am, .ref bH, .int (nI a), .int (nI ql.length)] : List Value).toArray below meth c s.heap [] 0 0 (MQ below (rq_ (some (.int (m_fk sl ql 64)))) ([.ref am, .ref bH, .int (nI a), .int (nI ql.length)] : List Value).toArray s 0 0 (fun _ => False)) (F0 m 34 ls []) := by
          intro f_loop_34
          induction f_loop_34 with
          | zero => intro i sb hf; exact absurd hf (Nat.not_lt_zero _)
          | succ f_loop_34 ih_loop_34 =>
            intro i sb hf_loop_34 hii hsb ls hl
            refine lv_iload hx hb dM_find_34 (lv_at hl 0 rfl) ?_
            refine lv_iload_n hx hb dM_find_36 rfl (lv_at hl 7 rfl) ?_
            refine lv_icmp_ge (tgt := 81) hx hb dM_find_37 (by decide) (fun c_2 => ?_) (fun c_2 => ?_)
            · skip
              have e_37 : ql.length ≤ i := xi_le c_2 (by omega) (by omega)
              refine lv_iload hx hb dM_find_81 (lv_at hl 1 rfl) ?_
              refine lv_if_eq (tgt := 91) hx hb dM_find_83 (by decide) (fun c_3 => ?_) (fun c_3 => ?_)
              · skip
                have e_83 : sb = false := sh_bf c_3
                refine lv_iload hx hb dM_find_91 (lv_at hl 3 rfl) ?_
                refine xw_topi (y := m_fk sl ql (k + 1)) (fk_no hmt hsb e_83 hii) ?_
                refine lv_istore (lv' := [(4, .int (m_fk sl ql (k + 1))), (7, .int (nI i)), (6, .int (sh_b sb)), (5, .int (nI k)), (0, .ref am), (1, .ref bH), (2, .int (nI a)), (3, .int (nI ql.length))]) hx hb dM_find_93 hl (by decide) rfl (fun ls hl => ?_)
                refine lv_iinc (v := nI (k + 1)) (lv' := [(5, .int (nI (k + 1))), (4, .int (m_fk sl ql (k + 1))), (7, .int (nI i)), (6, .int (sh_b sb)), (0, .ref am), (1, .ref bH), (2, .int (nI a)), (3, .int (nI ql.length))]) hx hb dM_find_95 hl (k := 3) rfl (nI_1 k) (by decide) rfl (fun ls hl => ?_)
                refine lv_goto (tgt := 6) hx hb dM_find_98 (by decide) ?_
                exact ih_loop_6 (k + 1) (by omega) (by omega) ls (lv_sub hl [0, 1, 4, 5, 6, 7] rfl)
              have e_83 : sb = true := sh_bt c_3
              refine lv_iload hx hb dM_find_86 (lv_at hl 2 rfl) ?_
              refine lv_goto (tgt := 93) hx hb dM_find_88 (by decide) ?_
              refine xw_topi (y := m_fk sl ql (k + 1)) (fk_yes hmt hsb e_83 (Or.inl e_37)) ?_
              refine lv_istore (lv' := [(4, .int (m_fk sl ql (k + 1))), (7, .int (nI i)), (6, .int (sh_b sb)), (5, .int (nI k)), (0, .ref am), (1, .ref bH), (2, .int (nI a)), (3, .int (nI ql.length))]) hx hb dM_find_93 hl (by decide) rfl (fun ls hl => ?_)
              refine lv_iinc (v := nI (k + 1)) (lv' := [(5, .int (nI (k + 1))), (4, .int (m_fk sl ql (k + 1))), (7, .int (nI i)), (6, .int (sh_b sb)), (0, .ref am), (1, .ref bH), (2, .int (nI a)), (3, .int (nI ql.length))]) hx hb dM_find_95 hl (k := 3) rfl (nI_1 k) (by decide) rfl (fun ls hl => ?_)
              refine lv_goto (tgt := 6) hx hb dM_find_98 (by decide) ?_
              exact ih_loop_6 (k + 1) (by omega) (by omega) ls (lv_sub hl [0, 1, 4, 5, 6, 7] rfl)
            have e_37 : i < ql.length := xi_nle c_2 (by omega) (by omega)
            refine lv_iload hx hb dM_find_40 (lv_at hl 1 rfl) ?_
            refine lv_if_eq (tgt := 81) hx hb dM_find_42 (by decide) (fun c_4 => ?_) (fun c_4 => ?_)
            · skip
              have e_42 : sb = false := sh_bf c_4
              refine lv_iload hx hb dM_find_81 (lv_at hl 1 rfl) ?_
              refine lv_if_eq (tgt := 91) hx hb dM_find_83 (by decide) (fun c_5 => ?_) (fun c_5 => ?_)
              · skip
                have e_83 : sb = false := sh_bf c_5
                refine lv_iload hx hb dM_find_91 (lv_at hl 3 rfl) ?_
                refine xw_topi (y := m_fk sl ql (k + 1)) (fk_no hmt hsb e_83 hii) ?_
                refine lv_istore (lv' := [(4, .int (m_fk sl ql (k + 1))), (7, .int (nI i)), (6, .int (sh_b sb)), (5, .int (nI k)), (0, .ref am), (1, .ref bH), (2, .int (nI a)), (3, .int (nI ql.length))]) hx hb dM_find_93 hl (by decide) rfl (fun ls hl => ?_)
                refine lv_iinc (v := nI (k + 1)) (lv' := [(5, .int (nI (k + 1))), (4, .int (m_fk sl ql (k + 1))), (7, .int (nI i)), (6, .int (sh_b sb)), (0, .ref am), (1, .ref bH), (2, .int (nI a)), (3, .int (nI ql.length))]) hx hb dM_find_95 hl (k := 3) rfl (nI_1 k) (by decide) rfl (fun ls hl => ?_)
                refine lv_goto (tgt := 6) hx hb dM_find_98 (by decide) ?_
                exact ih_loop_6 (k + 1) (by omega) (by omega) ls (lv_sub hl [0, 1, 4, 5, 6, 7] rfl)
              have e_83 : sb = true := sh_bt c_5
              refine lv_iload hx hb dM_find_86 (lv_at hl 2 rfl) ?_
              refine lv_goto (tgt := 93) hx hb dM_find_88 (by decide) ?_
              refine xw_topi (y := m_fk sl ql (k + 1)) (fk_yes hmt hsb e_83 (Or.inr e_42)) ?_
              refine lv_istore (lv' := [(4, .int (m_fk sl ql (k + 1))), (7, .int (nI i)), (6, .int (sh_b sb)), (5, .int (nI k)), (0, .ref am), (1, .ref bH), (2, .int (nI a)), (3, .int (nI ql.length))]) hx hb dM_find_93 hl (by decide) rfl (fun ls hl => ?_)
              refine lv_iinc (v := nI (k + 1)) (lv' := [(5, .int (nI (k + 1))), (4, .int (m_fk sl ql (k + 1))), (7, .int (nI i)), (6, .int (sh_b sb)), (0, .ref am), (1, .ref bH), (2, .int (nI a)), (3, .int (nI ql.length))]) hx hb dM_find_95 hl (k := 3) rfl (nI_1 k) (by decide) rfl (fun ls hl => ?_)
              refine lv_goto (tgt := 6) hx hb dM_find_98 (by decide) ?_
              exact ih_loop_6 (k + 1) (by omega) (by omega) ls (lv_sub hl [0, 1, 4, 5, 6, 7] rfl)
            have e_42 : sb = true := sh_bt c_4
            refine lv_aload_n hx hb dM_find_45 rfl (lv_at hl 4 rfl) ?_
            refine va_get (D := (dC, dI)) (ci := 4) (v := .ref bN) (C := "ShellSumModel") (T := TM) (N := 26) hx hb htz zu_M hown hK hP 0 rfl rfl 16 (by decide) (htz _ zw_2_176) (fun _ h9 => h9) rfl dM_find_46 ?_
            refine lv_sipush (v := 300) hx hb dM_find_49 (by decide) ?_
            refine lv_iload hx hb dM_find_52 (lv_at hl 2 rfl) ?_
            refine lv_imul hx hb dM_find_54 ?_
            refine xw_topi (y := nI (300 * k)) (pk_mul 300 k) ?_
            refine lv_iload hx hb dM_find_55 (lv_at hl 0 rfl) ?_
            refine lv_iadd hx hb dM_find_57 ?_
            refine xw_topi (y := nI (300 * k + i)) (nI_add (300 * k) i) ?_
            refine va_iald hx hb hK hP 9 0 rfl rfl (vp_in_nI (by omega) (by omega)) dM_find_58 ?_
            refine xw_topi (y := fN (300 * k + i)) (by rw [nI_clamp (by omega)]) ?_
            refine lv_aload_n hx hb dM_find_59 rfl (lv_at hl 5 rfl) ?_
            refine lv_iload_n hx hb dM_find_60 rfl (lv_at hl 6 rfl) ?_
            refine lv_iload hx hb dM_find_61 (lv_at hl 0 rfl) ?_
            refine lv_iadd hx hb dM_find_63 ?_
            refine xw_topi (y := nI (a + i)) (nI_add a i) ?_
            refine va_iald hx hb hK hP 13 0 rfl rfl (vp_in_nI (by omega) (by omega)) dM_find_64 ?_
            refine xw_topi (y := fH (a + i)) (by rw [nI_clamp (by omega)]) ?_
            refine xw_topi (y := sh_at ql i) (hrow i e_37) ?_
            refine lv_icmp_ne (tgt := 72) hx hb dM_find_65 (by decide) (fun c_6 => ?_) (fun c_6 => ?_)
            · skip
              refine lv_iconst (v := 0) hx hb dM_find_72 (by decide) ?_
              refine xw_topi (y := sh_b false) (rfl) ?_
              refine lv_istore (lv' := [(6, .int (sh_b false)), (7, .int (nI i)), (5, .int (nI k)), (4, .int (m_fk sl ql k)), (0, .ref am), (1, .ref bH), (2, .int (nI a)), (3, .int (nI ql.length))]) hx hb dM_find_73 hl (by decide) rfl (fun ls hl => ?_)
              refine lv_iinc (v := nI (i + 1)) (lv' := [(7, .int (nI (i + 1))), (6, .int (sh_b false)), (5, .int (nI k)), (4, .int (m_fk sl ql k)), (0, .ref am), (1, .ref bH), (2, .int (nI a)), (3, .int (nI ql.length))]) hx hb dM_find_75 hl (k := 1) rfl (nI_1 i) (by decide) rfl (fun ls hl => ?_)
              refine lv_goto (tgt := 34) hx hb dM_find_78 (by decide) ?_
              exact ih_loop_34 (i + 1) false (by omega) (by omega) (iff_of_false (by decide) (fun h => c_6 (h.2 i (by omega)))) ls (lv_sub hl [0, 1, 2, 3, 4, 5, 6, 7] rfl)
            refine lv_iconst (v := 1) hx hb dM_find_68 (by decide) ?_
            refine lv_goto (tgt := 73) hx hb dM_find_69 (by decide) ?_
            refine xw_topi (y := sh_b true) (rfl) ?_
            refine lv_istore (lv' := [(6, .int (sh_b true)), (7, .int (nI i)), (5, .int (nI k)), (4, .int (m_fk sl ql k)), (0, .ref am), (1, .ref bH), (2, .int (nI a)), (3, .int (nI ql.length))]) hx hb dM_find_73 hl (by decide) rfl (fun ls hl => ?_)
            refine lv_iinc (v := nI (i + 1)) (lv' := [(7, .int (nI (i + 1))), (6, .int (sh_b true)), (5, .int (nI k)), (4, .int (m_fk sl ql k)), (0, .ref am), (1, .ref bH), (2, .int (nI a)), (3, .int (nI ql.length))]) hx hb dM_find_75 hl (k := 1) rfl (nI_1 i) (by decide) rfl (fun ls hl => ?_)
            refine lv_goto (tgt := 34) hx hb dM_find_78 (by decide) ?_
            exact ih_loop_34 (i + 1) true (by omega) (by omega) (iff_of_true rfl ⟨(hsb.mp e_42).1, lt_s (hsb.mp e_42).2 c_6⟩) ls (lv_sub hl [0, 1, 2, 3, 4, 5, 6, 7] rfl)
        exact loop_34 _ 0 sm (Nat.lt_succ_self _) (Nat.zero_le _) (hsm.trans ⟨fun h => ⟨h, fun j hj => absurd hj (Nat.not_lt_zero _)⟩, fun h => h.1⟩) ls (lv_sub hl [0, 1, 2, 3, 4, 5, 6, 7] rfl)
      refine lv_aload_n hx hb dM_find_13 rfl (lv_at hl 2 rfl) ?_
      refine va_get (D := (dC, dI)) (ci := 4) (v := .ref bA) (C := "ShellSumModel") (T := TM) (N := 26) hx hb htz zu_M hown hK hP 0 rfl rfl 18 (by decide) (htz _ zw_2_178) (fun _ h9 => h9) rfl dM_find_14 ?_
      refine lv_iload hx hb dM_find_17 (lv_at hl 0 rfl) ?_
      refine va_iald hx hb hK hP 11 0 rfl rfl (vp_in_nI (by omega) (by omega)) dM_find_19 ?_
      refine xw_topi (y := fA k) (by rw [nI_clamp (by omega)]) ?_
      refine lv_iload_n hx hb dM_find_20 rfl (lv_at hl 5 rfl) ?_
      refine lv_icmp_ne (tgt := 28) hx hb dM_find_21 (by decide) (fun c_7 => ?_) (fun c_7 => ?_)
      · skip
        refine lv_iconst (v := 0) hx hb dM_find_28 (by decide) ?_
        exact j_29 false (iff_of_false (by decide) c_7) ls (lv_sub hl [0, 1, 2, 3, 4, 5] rfl)
      refine lv_iconst (v := 1) hx hb dM_find_24 (by decide) ?_
      refine lv_goto (tgt := 29) hx hb dM_find_25 (by decide) ?_
      exact j_29 true (iff_of_true rfl c_7) ls (lv_sub hl [0, 1, 2, 3, 4, 5] rfl)
  exact loop_6 _ 0 (Nat.lt_succ_self _) (Nat.zero_le _) ls (lv_sub hl [0, 1, 2, 3, 4, 5] rfl)
set_option maxHeartbeats 4000000 in
set_option maxRecDepth 100000 in
/-- placeFor(row, from, n) -/
theorem k_M_placeForU (l : Launch) (dC : Nat → ClassId) (dI : Nat → Nat → Nat) (kI kJ kZ : ClassId) (am bT bU bS b1 b2 bL bK bV bN bX bA bB bH : Nat) (cd fsz ln pl ne bd wa hi my gd wr hs : Int32) (nu : Int64) (fT fU fS f1 f2 fL fN fX fA fB fH : Nat → Int32) (fK fV : Nat → Int64) (tl : va_W) (sz : Nat) (a : Nat) (ql : List Int32) (sl : List mO) (env : sh_Env) (hrow : ∀ j, j < ql.length → fU (a + j) = sh_at ql j) (ha : a + ql.length ≤ 300) (h1 : 1 ≤ ql.length) (hM : zMn fN fX fA fB sl env) : Met l yM_placeFor wsM_placeFor ({ frames := 1, cells := 0, slots := 0, locals := 40 }) (va_Pc [.ref am, .ref bU, .int (nI a), .int (nI ql.length)] (zW dC dI ([(kI, .int), (kJ, .long), (kZ, .boolean)]) ((am, .inr (4, [.int cd, .ref bT, .ref bU, .int fsz, .int ln, .int pl, .int ne, .int bd, .ref bS, .ref b1, .ref b2, .ref bL, .ref bK, .ref bV, .int wa, .int hi, .ref bN, .ref bX, .ref bA, .ref bB, .int (nI env.length), .int gd, .int wr, .ref bH, .int hs, .long nu])) :: (bT, .inl (kI, 300, .inl fT)) :: (bU, .inl (kI, 300, .inl fU)) :: (bS, .inl (kI, 2000, .inl fS)) :: (b1, .inl (kI, 2000, .inl f1)) :: (b2, .inl (kI, 2000, .inl f2)) :: (bL, .inl (kZ, 2000, .inl fL)) :: (bK, .inl (kJ, 2000, .inr (.inl fK))) :: (bV, .inl (kJ, 400, .inr (.inl fV))) :: (bN, .inl (kI, 19200, .inl fN)) :: (bX, .inl (kI, 1536, .inl fX)) :: (bA, .inl (kI, 64, .inl fA)) :: (bB, .inl (kI, 64, .inl fB)) :: (bH, .inl (kI, 8, .inl fH)) :: tl) sz)) (zQ dC dI (va_A ((am, .inr (4, [.int cd, .ref bT, .ref bU, .int fsz, .int ln, .int pl, .int ne, .int bd, .ref bS, .ref b1, .ref b2, .ref bL, .ref bK, .ref bV, .int wa, .int hi, .ref bN, .ref bX, .ref bA, .ref bB, .int (nI env.length), .int gd, .int wr, .ref bH, .int hs, .long nu])) :: (bT, .inl (kI, 300, .inl fT)) :: (bU, .inl (kI, 300, .inl fU)) :: (bS, .inl (kI, 2000, .inl fS)) :: (b1, .inl (kI, 2000, .inl f1)) :: (b2, .inl (kI, 2000, .inl f2)) :: (bL, .inl (kZ, 2000, .inl fL)) :: (bK, .inl (kJ, 2000, .inr (.inl fK))) :: (bV, .inl (kJ, 400, .inr (.inl fV))) :: (bN, .inl (kI, 19200, .inl fN)) :: (bX, .inl (kI, 1536, .inl fX)) :: (bA, .inl (kI, 64, .inl fA)) :: (bB, .inl (kI, 64, .inl fB)) :: (bH, .inl (kI, 8, .inl fH)) :: tl) sz) (fun v w => (∃ (k : Nat) (tt : List Int32), k < 64 ∧ sl[k]? = some (some (ql, tt)) ∧ sh_find env ql = some tt ∧ v = some (.int (nI k)) ∧ w = ((am, .inr (4, [.int cd, .ref bT, .ref bU, .int fsz, .int ln, .int pl, .int ne, .int bd, .ref bS, .ref b1, .ref b2, .ref bL, .ref bK, .ref bV, .int wa, .int hi, .ref bN, .ref bX, .ref bA, .ref bB, .int (nI env.length), .int gd, .int wr, .ref bH, .int hs, .long nu])) :: (bT, .inl (kI, 300, .inl fT)) :: (bU, .inl (kI, 300, .inl fU)) :: (bS, .inl (kI, 2000, .inl fS)) :: (b1, .inl (kI, 2000, .inl f1)) :: (b2, .inl (kI, 2000, .inl f2)) :: (bL, .inl (kZ, 2000, .inl fL)) :: (bK, .inl (kJ, 2000, .inr (.inl fK))) :: (bV, .inl (kJ, 400, .inr (.inl fV))) :: (bN, .inl (kI, 19200, .inl fN)) :: (bX, .inl (kI, 1536, .inl fX)) :: (bA, .inl (kI, 64, .inl fA)) :: (bB, .inl (kI, 64, .inl fB)) :: (bH, .inl (kI, 8, .inl fH)) :: tl)) ∨ (sh_find env ql = none ∧ env.length = 64 ∧ v = some (.int (-1)) ∧ w = ((am, .inr (4, [.int cd, .ref bT, .ref bU, .int fsz, .int ln, .int pl, .int ne, .int bd, .ref bS, .ref b1, .ref b2, .ref bL, .ref bK, .ref bV, .int wa, .int hi, .ref bN, .ref bX, .ref bA, .ref bB, .int (nI env.length), .int gd, .int wr, .ref bH, .int hs, .long nu])) :: (bT, .inl (kI, 300, .inl fT)) :: (bU, .inl (kI, 300, .inl fU)) :: (bS, .inl (kI, 2000, .inl fS)) :: (b1, .inl (kI, 2000, .inl f1)) :: (b2, .inl (kI, 2000, .inl f2)) :: (bL, .inl (kZ, 2000, .inl fL)) :: (bK, .inl (kJ, 2000, .inr (.inl fK))) :: (bV, .inl (kJ, 400, .inr (.inl fV))) :: (bN, .inl (kI, 19200, .inl fN)) :: (bX, .inl (kI, 1536, .inl fX)) :: (bA, .inl (kI, 64, .inl fA)) :: (bB, .inl (kI, 64, .inl fB)) :: (bH, .inl (kI, 8, .inl fH)) :: tl)) ∨ (∃ (k : Nat) (g : Nat → Int32), k < 64 ∧ sl[k]? = some none ∧ sh_find env ql = none ∧ env.length < 64 ∧ v = some (.int (nI k)) ∧ (∀ j, j < ql.length → g (300 * k + j) = sh_at ql j) ∧ (∀ j, (j < 300 * k ∨ 300 * k + 300 ≤ j) → g j = fN j) ∧ w = ((am, .inr (4, [.int cd, .ref bT, .ref bU, .int fsz, .int ln, .int pl, .int ne, .int bd, .ref bS, .ref b1, .ref b2, .ref bL, .ref bK, .ref bV, .int wa, .int hi, .ref bN, .ref bX, .ref bA, .ref bB, .int (nI (env.length + 1)), .int gd, .int wr, .ref bH, .int hs, .long nu])) :: (bT, .inl (kI, 300, .inl fT)) :: (bU, .inl (kI, 300, .inl fU)) :: (bS, .inl (kI, 2000, .inl fS)) :: (b1, .inl (kI, 2000, .inl f1)) :: (b2, .inl (kI, 2000, .inl f2)) :: (bL, .inl (kZ, 2000, .inl fL)) :: (bK, .inl (kJ, 2000, .inr (.inl fK))) :: (bV, .inl (kJ, 400, .inr (.inl fV))) :: (bN, .inl (kI, 19200, .inl g)) :: (bX, .inl (kI, 1536, .inl fX)) :: (bA, .inl (kI, 64, .inl (upd fA k (nI ql.length)))) :: (bB, .inl (kI, 64, .inl fB)) :: (bH, .inl (kI, 8, .inl fH)) :: tl)))) 0 0 (va_A ((am, .inr (4, [.int cd, .ref bT, .ref bU, .int fsz, .int ln, .int pl, .int ne, .int bd, .ref bS, .ref b1, .ref b2, .ref bL, .ref bK, .ref bV, .int wa, .int hi, .ref bN, .ref bX, .ref bA, .ref bB, .int (nI env.length), .int gd, .int wr, .ref bH, .int hs, .long nu])) :: (bT, .inl (kI, 300, .inl fT)) :: (bU, .inl (kI, 300, .inl fU)) :: (bS, .inl (kI, 2000, .inl fS)) :: (b1, .inl (kI, 2000, .inl f1)) :: (b2, .inl (kI, 2000, .inl f2)) :: (bL, .inl (kZ, 2000, .inl fL)) :: (bK, .inl (kJ, 2000, .inr (.inl fK))) :: (bV, .inl (kJ, 400, .inr (.inl fV))) :: (bN, .inl (kI, 19200, .inl fN)) :: (bX, .inl (kI, 1536, .inl fX)) :: (bA, .inl (kI, 64, .inl fA)) :: (bB, .inl (kI, 64, .inl fB)) :: (bH, .inl (kI, 8, .inl fH)) :: tl) sz) := by
  refine Met.ofW (cc := cM_placeFor) (maxL := 6) (ret := (some .int)) (by decide) rfl ?_
  intro p e s m args below meth c s₁ B hml hv
  obtain ⟨rfl, hsz, hP, hK, hD0, hN⟩ := hv
  subst hsz
  have hD := hD0.self (sz := s.heap.size)
  generalize hAe : va_A ((am, .inr (4, [.int cd, .ref bT, .ref bU, .int fsz, .int ln, .int pl, .int ne, .int bd, .ref bS, .ref b1, .ref b2, .ref bL, .ref bK, .ref bV, .int wa, .int hi, .ref bN, .ref bX, .ref bA, .ref bB, .int (nI env.length), .int gd, .int wr, .ref bH, .int hs, .long nu])) :: (bT, .inl (kI, 300, .inl fT)) :: (bU, .inl (kI, 300, .inl fU)) :: (bS, .inl (kI, 2000, .inl fS)) :: (b1, .inl (kI, 2000, .inl f1)) :: (b2, .inl (kI, 2000, .inl f2)) :: (bL, .inl (kZ, 2000, .inl fL)) :: (bK, .inl (kJ, 2000, .inr (.inl fK))) :: (bV, .inl (kJ, 400, .inr (.inl fV))) :: (bN, .inl (kI, 19200, .inl fN)) :: (bX, .inl (kI, 1536, .inl fX)) :: (bA, .inl (kI, 64, .inl fA)) :: (bB, .inl (kI, 64, .inl fB)) :: (bH, .inl (kI, 8, .inl fH)) :: tl) s.heap.size = A at hD ⊢
  have hA : ∀ q : Nat, s.heap.size ≤ q → A q := fun q h => by rw [← hAe]; exact Or.inr h
  have hS : va_S A s.heap s.heap [] := va_S.rf
  have hx := B.exec
  have hb := B.bytes
  have hr := B.returns
  have htz : ∀ w ∈ zw, w.before _ s = true := fun w h => atoms_spec (ws := wsM_placeFor) B.pre w (List.mem_cons_of_mem _ h)
  have hown : s.vm.findClass "ShellSumModel" = some m.cls := findClass_of_methodNamed B.named
  have hlocks := B.notSynchronized
  have hl := lv_entry ([.ref am, .ref bU, .int (nI a), .int (nI ql.length)]) (n := 6) (Nat.le_of_ble_eq_true rfl)
  rw [lg_entry_eq]
  generalize (lg_sl ([.ref am, .ref bU, .int (nI a), .int (nI ql.length)]) ++ List.replicate (6 - (lg_sl ([.ref am, .ref bU, .int (nI a), .int (nI ql.length)])).length) Slot.unset).toArray = ls at hl ⊢
  have hl : lv_has ls 6 [(0, .ref am), (1, .ref bU), (2, .int (nI a)), (3, .int (nI ql.length))] := hl
  have hl64 := hM.2.2.2.2
  refine lv_aload_n hx hb dM_placeFor_0 rfl (lv_at hl 0 rfl) ?_
  refine lv_aload_n hx hb dM_placeFor_1 rfl (lv_at hl 1 rfl) ?_
  refine lv_iload_n hx hb dM_placeFor_2 rfl (lv_at hl 2 rfl) ?_
  refine lv_iload_n hx hb dM_placeFor_3 rfl (lv_at hl 3 rfl) ?_
  refine rq_call (va_runV (As := [.ref bU, .int (nI a), .int (nI ql.length)]) (rest := []) ⟨hx, hb, hml, hown, htz⟩ (k_M_findU l dC dI kI kJ kZ am bT bU bS b1 b2 bL bK bV bN bX bA bB bH cd fsz ln pl ne bd wa hi (nI env.length) gd wr hs nu fT fU fS f1 f2 fL fN fX fA fB fH fK fV tl a ql sl env (hrow) (ha) h1 hM) (cwV 3 htz (zg_V zw_3_36 zw_3_38 zs_M_find zw_1_4 zw_3_39) rfl rfl rfl (by decide +kernel) ⟨Nat.le_of_ble_eq_true rfl, Nat.le_of_ble_eq_true rfl⟩) (zR_V hP hK hN (va_recv hK hP (ci := 4) (q0 := 0) rfl rfl)) rfl rfl hl.1 rfl (lv_room (Nat.le_of_ble_eq_true rfl)) dM_placeFor_4 ⟨Nat.zero_le _, Nat.zero_le _⟩) ?_
  refine W.eq (g2 := F0 m 7 ls [.int (m_fk sl ql 64)]) rfl ?_
  rcases zMn_find hM ql with ⟨hf, hfn, hno⟩ | ⟨k, tt, hk64, hf, hsk, hfd⟩
  · skip
    refine xw_topi (y := (-1)) (hf) ?_
    refine lv_istore (lv' := [(4, .int (-1)), (0, .ref am), (1, .ref bU), (2, .int (nI a)), (3, .int (nI ql.length))]) hx hb dM_placeFor_7 hl (by decide) rfl (fun ls hl => ?_)
    refine lv_iload hx hb dM_placeFor_9 (lv_at hl 0 rfl) ?_
    refine lv_iconst (v := (-1)) hx hb dM_placeFor_11 (by decide) ?_
    refine lv_icmp_ne (tgt := 24) hx hb dM_placeFor_12 (by decide) (fun c_1 => ?_) (fun c_1 => ?_)
    · skip
      exact absurd rfl c_1
    refine lv_aload_n hx hb dM_placeFor_15 rfl (lv_at hl 1 rfl) ?_
    refine va_get (D := (dC, dI)) (ci := 4) (v := .int (nI env.length)) (C := "ShellSumModel") (T := TM) (N := 26) hx hb htz zu_M hown hK hP 0 rfl rfl 20 (by decide) (htz _ zw_2_180) (fun _ h9 => h9) rfl dM_placeFor_16 ?_
    refine lv_bipush (v := 64) hx hb dM_placeFor_19 (by decide) ?_
    refine lv_icmp_ne (tgt := 27) hx hb dM_placeFor_21 (by decide) (fun c_2 => ?_) (fun c_2 => ?_)
    · skip
      have e_21 : env.length ≠ 64 := xi_ne (b := 64) c_2 (by omega) (by decide)
      refine lv_iconst (v := 0) hx hb dM_placeFor_27 (by decide) ?_
      obtain ⟨k0, hk0⟩ := zMn_free hM (by omega)
      have hk0L : k0 < 64 := by have := xl_of hk0; rw [hM.1] at this; exact this
      have hk0A : fA k0 = 0 := hM.2.1 k0 _ hk0
      refine xw_topi (y := nI 0) (nI_0.symm) ?_
      refine lv_istore (lv' := [(4, .int (nI 0)), (0, .ref am), (1, .ref bU), (2, .int (nI a)), (3, .int (nI ql.length))]) hx hb dM_placeFor_28 hl (by decide) rfl (fun ls hl => ?_)
      have loop_30 : ∀ (f_loop_30 : Nat) (k : Nat), k0 - k < f_loop_30 → (k ≤ k0) → ∀ (H : Heap) (locs : List Loc), va_P (dC, dI) vwCl ((am, .inr (4, [.int cd, .ref bT, .ref bU, .int fsz, .int ln, .int pl, .int ne, .int bd, .ref bS, .ref b1, .ref b2, .ref bL, .ref bK, .ref bV, .int wa, .int hi, .ref bN, .ref bX, .ref bA, .ref bB, .int (nI env.length), .int gd, .int wr, .ref bH, .int hs, .long nu])) :: (bT, .inl (kI, 300, .inl fT)) :: (bU, .inl (kI, 300, .inl fU)) :: (bS, .inl (kI, 2000, .inl fS)) :: (b1, .inl (kI, 2000, .inl f1)) :: (b2, .inl (kI, 2000, .inl f2)) :: (bL, .inl (kZ, 2000, .inl fL)) :: (bK, .inl (kJ, 2000, .inr (.inl fK))) :: (bV, .inl (kJ, 400, .inr (.inl fV))) :: (bN, .inl (kI, 19200, .inl fN)) :: (bX, .inl (kI, 1536, .inl fX)) :: (bA, .inl (kI, 64, .inl fA)) :: (bB, .inl (kI, 64, .inl fB)) :: (bH, .inl (kI, 8, .inl fH)) :: tl) H → va_D A ((am, .inr (4, [.int cd, .ref bT, .ref bU, .int fsz, .int ln, .int pl, .int ne, .int bd, .ref bS, .ref b1, .ref b2, .ref bL, .ref bK, .ref bV, .int wa, .int hi, .ref bN, .ref bX, .ref bA, .ref bB, .int (nI env.length), .int gd, .int wr, .ref bH, .int hs, .long nu])) :: (bT, .inl (kI, 300, .inl fT)) :: (bU, .inl (kI, 300, .inl fU)) :: (bS, .inl (kI, 2000, .inl fS)) :: (b1, .inl (kI, 2000, .inl f1)) :: (b2, .inl (kI, 2000, .inl f2)) :: (bL, .inl (kZ, 2000, .inl fL)) :: (bK, .inl (kJ, 2000, .inr (.inl fK))) :: (bV, .inl (kJ, 400, .inr (.inl fV))) :: (bN, .inl (kI, 19200, .inl fN)) :: (bX, .inl (kI, 1536, .inl fX)) :: (bA, .inl (kI, 64, .inl fA)) :: (bB, .inl (kI, 64, .inl fB)) :: (bH, .inl (kI, 8, .inl fH)) :: tl) → va_S A s.heap H locs → ∀ ls : Array Slot, lv_has ls 6 [(4, .int (nI k)), (0, .ref am), (1, .ref bU), (2, .int (nI a)), (3, .int (nI ql.length))] → W p l e (headSpec wsM_placeFor ({ frames := 1, cells := 0, slots := 0, locals := 40 })).room s m ([.ref am, .ref bU, .int (nI a), .int (nI ql.length)] : List Value).toArray below meth c H locs 0 0 (MQ below (zQ dC dI A (fun v w => (∃ (k : Nat) (tt : List Int32), k < 64 ∧ sl[k]? = some (some (ql, tt)) ∧ sh_find env ql = some tt ∧ v = some (.int (nI k)) ∧ w = ((am, .inr (4, [.int cd, .ref bT, .ref bU, .int fsz, .int ln, .int pl, .int ne, .int bd, .ref bS, .ref b1, .ref b2, .ref bL, .ref bK, .ref bV, .int wa, .int hi, .ref bN, .ref bX, .ref bA, .ref bB, .int (nI env.length), .int gd, .int wr, .ref bH, .int hs, .long nu])) :: (bT, .inl (kI, 300, .inl fT)) :: (bU, .inl (kI, 300, .inl fU)) :: (bS, .inl (kI, 2000, .inl fS)) :: (b1, .inl (kI, 2000, .inl f1)) :: (b2, .inl (kI, 2000, .inl f2)) :: (bL, .inl (kZ, 2000, .inl fL)) :: (bK, .inl (kJ, 2000, .inr (.inl fK))) :: (bV, .inl (kJ, 400, .inr (.inl fV))) :: (bN, .inl (kI, 19200, .inl fN)) :: (bX, .inl (kI, 1536, .inl fX)) :: (bA, .inl (kI, 64, .inl fA)) :: (bB, .inl (kI, 64, .inl fB)) :: (bH, .inl (kI, 8, .inl fH)) :: tl)) ∨ (sh_find env ql = none ∧ env.length = 64 ∧ v = some (.int (-1)) ∧ w = ((am, .inr (4, [.int cd, .ref bT, .ref bU, .int fsz, .int ln, .int pl, .int ne, .int bd, .ref bS, .ref b1, .ref b2, .ref bL, .ref bK, .ref bV, .int wa, .int hi, .ref bN, .ref bX, .ref bA, .ref bB, .int (nI env.length), .int gd, .int wr, .ref bH, .int hs, .long nu])) :: (bT, .inl (kI, 300, .inl fT)) :: (bU, .inl (kI, 300, .inl fU)) :: (bS, .inl (kI, 2000, .inl fS)) :: (b1, .inl (kI, 2000, .inl f1)) :: (b2, .inl (kI, 2000, .inl f2)) :: (bL, .inl (kZ, 2000, .inl fL)) :: (bK, .inl (kJ, 2000, .inr (.inl fK))) :: (bV, .inl (kJ, 400, .inr (.inl fV))) :: (bN, .inl (kI, 19200, .inl fN)) :: (bX, .inl (kI, 1536, .inl fX)) :: (bA, .inl (kI, 64, .inl fA)) :: (bB, .inl (kI, 64, .inl fB)) :: (bH, .inl (kI, 8, .inl fH)) :: tl)) ∨ (∃ (k : Nat) (g : Nat → Int32), k < 64 ∧ sl[k]? = some none ∧ sh_find env ql = none ∧ env.length < 64 ∧ v = some (.int (nI k)) ∧ (∀ j, j < ql.length → g (300 * k + j) = sh_at ql j) ∧ (∀ j, (j < 300 * k ∨ 300 * k + 300 ≤ j) → g j = fN j) ∧ w = ((am, .inr (4, [.int cd, .ref bT, .ref bU, .int fsz, .int ln, .int pl, .int ne, .int bd, .ref bS, .ref b1, .ref b2, .ref bL, .ref bK, .ref bV, .int wa, .int hi, .ref bN, .ref bX, .ref bA, .ref bB, .int (nI (env.length + 1)), .int gd, .int wr, .ref bH, .int hs, .long nu])) :: (bT, .inl (kI, 300, .inl fT)) :: (bU, .inl (kI, 300, .inl fU)) :: (bS, .inl (kI, 2000, .inl fS)) :: (b1, .inl (kI, 2000, .inl f1)) :: (b2, .inl (kI, 2000, .inl f2)) :: (bL, .inl (kZ, 2000, .inl fL)) :: (bK, .inl (kJ, 2000, .inr (.inl fK))) :: (bV, .inl (kJ, 400, .inr (.inl fV))) :: (bN, .inl (kI, 19200, .inl g)) :: (bX, .inl (kI, 1536, .inl fX)) :: (bA, .inl (kI, 64, .inl (upd fA k (nI ql.length)))) :: (bB, .inl (kI, 64, .inl fB)) :: (bH, .inl (kI, 8, .inl fH)) :: tl)))) ([.ref am, .ref bU, .int (nI a), .int (nI ql.length)] : List Value).toArray s 0 0 A) (F0 m 30 ls []) := by
        intro f_loop_30
        induction f_loop_30 with
        | zero => intro k hf; exact absurd hf (Nat.not_lt_zero _)
        | succ f_loop_30 ih_loop_30 =>
          intro k hf_loop_30 hk H locs hP hD hS ls hl
          refine lv_aload_n hx hb dM_placeFor_30 rfl (lv_at hl 1 rfl) ?_
          refine va_get (D := (dC, dI)) (ci := 4) (v := .ref bA) (C := "ShellSumModel") (T := TM) (N := 26) hx hb htz zu_M hown hK hP 0 rfl rfl 18 (by decide) (htz _ zw_2_178) (fun _ h9 => h9) rfl dM_placeFor_31 ?_
          refine lv_iload hx hb dM_placeFor_34 (lv_at hl 0 rfl) ?_
          refine va_iald hx hb hK hP 11 0 rfl rfl (vp_in_nI (by omega) (by omega)) dM_placeFor_36 ?_
          refine xw_topi (y := fA k) (by rw [nI_clamp (by omega)]) ?_
          refine lv_if_le (tgt := 46) hx hb dM_placeFor_37 (by decide) (fun c_3 => ?_) (fun c_3 => ?_)
          · skip
            have e_37 : sl[k]? = some none := by
              obtain ⟨o, ho, hz⟩ := zMn_slot hM (show k < 64 by omega)
              cases o with
              | none => exact ho
              | some q9 => exact absurd c_3 (by rw [hz.1]; exact mt (fun h9 => xi_le (b := 0) h9 (by have := hz.2.2.1; omega) (by decide)) (by have := hz.2.1; omega))
            refine lv_aload_n hx hb dM_placeFor_46 rfl (lv_at hl 1 rfl) ?_
            refine va_get (D := (dC, dI)) (ci := 4) (v := .ref bA) (C := "ShellSumModel") (T := TM) (N := 26) hx hb htz zu_M hown hK hP 0 rfl rfl 18 (by decide) (htz _ zw_2_178) (fun _ h9 => h9) rfl dM_placeFor_47 ?_
            refine lv_iload hx hb dM_placeFor_50 (lv_at hl 0 rfl) ?_
            refine lv_iload_n hx hb dM_placeFor_52 rfl (lv_at hl 4 rfl) ?_
            refine va_iast hx hb hK hP hD hS 11 0 rfl rfl (vp_in_nI (by omega) (by omega)) dM_placeFor_53 (fun H locs hP hD hS => ?_)
            have hP : va_P (dC, dI) vwCl ((am, .inr (4, [.int cd, .ref bT, .ref bU, .int fsz, .int ln, .int pl, .int ne, .int bd, .ref bS, .ref b1, .ref b2, .ref bL, .ref bK, .ref bV, .int wa, .int hi, .ref bN, .ref bX, .ref bA, .ref bB, .int (nI env.length), .int gd, .int wr, .ref bH, .int hs, .long nu])) :: (bT, .inl (kI, 300, .inl fT)) :: (bU, .inl (kI, 300, .inl fU)) :: (bS, .inl (kI, 2000, .inl fS)) :: (b1, .inl (kI, 2000, .inl f1)) :: (b2, .inl (kI, 2000, .inl f2)) :: (bL, .inl (kZ, 2000, .inl fL)) :: (bK, .inl (kJ, 2000, .inr (.inl fK))) :: (bV, .inl (kJ, 400, .inr (.inl fV))) :: (bN, .inl (kI, 19200, .inl fN)) :: (bX, .inl (kI, 1536, .inl fX)) :: (bA, .inl (kI, 64, .inl (upd fA (nI k).toNatClampNeg (nI ql.length)))) :: (bB, .inl (kI, 64, .inl fB)) :: (bH, .inl (kI, 8, .inl fH)) :: tl) _ := hP
            have hD : va_D A ((am, .inr (4, [.int cd, .ref bT, .ref bU, .int fsz, .int ln, .int pl, .int ne, .int bd, .ref bS, .ref b1, .ref b2, .ref bL, .ref bK, .ref bV, .int wa, .int hi, .ref bN, .ref bX, .ref bA, .ref bB, .int (nI env.length), .int gd, .int wr, .ref bH, .int hs, .long nu])) :: (bT, .inl (kI, 300, .inl fT)) :: (bU, .inl (kI, 300, .inl fU)) :: (bS, .inl (kI, 2000, .inl fS)) :: (b1, .inl (kI, 2000, .inl f1)) :: (b2, .inl (kI, 2000, .inl f2)) :: (bL, .inl (kZ, 2000, .inl fL)) :: (bK, .inl (kJ, 2000, .inr (.inl fK))) :: (bV, .inl (kJ, 400, .inr (.inl fV))) :: (bN, .inl (kI, 19200, .inl fN)) :: (bX, .inl (kI, 1536, .inl fX)) :: (bA, .inl (kI, 64, .inl (upd fA (nI k).toNatClampNeg (nI ql.length)))) :: (bB, .inl (kI, 64, .inl fB)) :: (bH, .inl (kI, 8, .inl fH)) :: tl) := hD
            have e_f : upd fA (nI k).toNatClampNeg (nI ql.length) = upd fA k (nI ql.length) := by rw [nI_clamp (by omega)]
            rw [e_f] at hP hD
            have hP : va_P (dC, dI) vwCl ((am, .inr (4, [.int cd, .ref bT, .ref bU, .int fsz, .int ln, .int pl, .int ne, .int bd, .ref bS, .ref b1, .ref b2, .ref bL, .ref bK, .ref bV, .int wa, .int hi, .ref bN, .ref bX, .ref bA, .ref bB, .int (nI env.length), .int gd, .int wr, .ref bH, .int hs, .long nu])) :: (bT, .inl (kI, 300, .inl fT)) :: (bU, .inl (kI, 300, .inl fU)) :: (bS, .inl (kI, 2000, .inl fS)) :: (b1, .inl (kI, 2000, .inl f1)) :: (b2, .inl (kI, 2000, .inl f2)) :: (bL, .inl (kZ, 2000, .inl fL)) :: (bK, .inl (kJ, 2000, .inr (.inl fK))) :: (bV, .inl (kJ, 400, .inr (.inl fV))) :: (bN, .inl (kI, 19200, .inl fN)) :: (bX, .inl (kI, 1536, .inl fX)) :: (bA, .inl (kI, 64, .inl (upd fA k (nI ql.length)))) :: (bB, .inl (kI, 64, .inl fB)) :: (bH, .inl (kI, 8, .inl fH)) :: tl) _ := hP
            have hD : va_D A ((am, .inr (4, [.int cd, .ref bT, .ref bU, .int fsz, .int ln, .int pl, .int ne, .int bd, .ref bS, .ref b1, .ref b2, .ref bL, .ref bK, .ref bV, .int wa, .int hi, .ref bN, .ref bX, .ref bA, .ref bB, .int (nI env.length), .int gd, .int wr, .ref bH, .int hs, .long nu])) :: (bT, .inl (kI, 300, .inl fT)) :: (bU, .inl (kI, 300, .inl fU)) :: (bS, .inl (kI, 2000, .inl fS)) :: (b1, .inl (kI, 2000, .inl f1)) :: (b2, .inl (kI, 2000, .inl f2)) :: (bL, .inl (kZ, 2000, .inl fL)) :: (bK, .inl (kJ, 2000, .inr (.inl fK))) :: (bV, .inl (kJ, 400, .inr (.inl fV))) :: (bN, .inl (kI, 19200, .inl fN)) :: (bX, .inl (kI, 1536, .inl fX)) :: (bA, .inl (kI, 64, .inl (upd fA k (nI ql.length)))) :: (bB, .inl (kI, 64, .inl fB)) :: (bH, .inl (kI, 8, .inl fH)) :: tl) := hD
            refine lv_iconst (v := 0) hx hb dM_placeFor_54 (by decide) ?_
            refine xw_topi (y := nI 0) (nI_0.symm) ?_
            refine lv_istore (lv' := [(5, .int (nI 0)), (4, .int (nI k)), (0, .ref am), (1, .ref bU), (2, .int (nI a)), (3, .int (nI ql.length))]) hx hb dM_placeFor_55 hl (by decide) rfl (fun ls hl => ?_)
            have loop_57 : ∀ (f_loop_57 : Nat) (i : Nat) (g : Nat → Int32), ql.length - i < f_loop_57 → (i ≤ ql.length) → (∀ j, j < i → g (300 * k + j) = sh_at ql j) → (∀ j, (j < 300 * k ∨ 300 * k + 300 ≤ j) → g j = fN j) → ∀ (H : Heap) (locs : List Loc), va_P (dC, dI) vwCl ((am, .inr (4, [.int cd, .ref bT, .ref bU, .int fsz, .int ln, .int pl, .int ne, .int bd, .ref bS, .ref b1, .ref b2, .ref bL, .ref bK, .ref bV, .int wa, .int hi, .ref bN, .ref bX, .ref bA, .ref bB, .int (nI env.length), .int gd, .int wr, .ref bH, .int hs, .long nu])) :: (bT, .inl (kI, 300, .inl fT)) :: (bU, .inl (kI, 300, .inl fU)) :: (bS, .inl (kI, 2000, .inl fS)) :: (b1, .inl (kI, 2000, .inl f1)) :: (b2, .inl (kI, 2000, .inl f2)) :: (bL, .inl (kZ, 2000, .inl fL)) :: (bK, .inl (kJ, 2000, .inr (.inl fK))) :: (bV, .inl (kJ, 400, .inr (.inl fV))) :: (bN, .inl (kI, 19200, .inl g)) :: (bX, .inl (kI, 1536, .inl fX)) :: (bA, .inl (kI, 64, .inl (upd fA k (nI ql.length)))) :: (bB, .inl (kI, 64, .inl fB)) :: (bH, .inl (kI, 8, .inl fH)) :: tl) H → va_D A ((am, .inr (4, [.int cd, .ref bT, .ref bU, .int fsz, .int ln, .int pl, .int ne, .int bd, .ref bS, .ref b1, .ref b2, .ref bL, .ref bK, .ref bV, .int wa, .int hi, .ref bN, .ref bX, .ref bA, .ref bB, .int (nI env.length), .int gd, .int wr, .ref bH, .int hs, .long nu])) :: (bT, .inl (kI, 300, .inl fT)) :: (bU, .inl (kI, 300, .inl fU)) :: (bS, .inl (kI, 2000, .inl fS)) :: (b1, .inl (kI, 2000, .inl f1)) :: (b2, .inl (kI, 2000, .inl f2)) :: (bL, .inl (kZ, 2000, .inl fL)) :: (bK, .inl (kJ, 2000, .inr (.inl fK))) :: (bV, .inl (kJ, 400, .inr (.inl fV))) :: (bN, .inl (kI, 19200, .inl g)) :: (bX, .inl (kI, 1536, .inl fX)) :: (bA, .inl (kI, 64, .inl (upd fA k (nI ql.length)))) :: (bB, .inl (kI, 64, .inl fB)) :: (bH, .inl (kI, 8, .inl fH)) :: tl) → va_S A s.heap H locs → ∀ ls : Array Slot, lv_has ls 6 [(5, .int (nI i)), (4, .int (nI k)), (0, .ref am), (1, .ref bU), (2, .int (nI a)), (3, .int (nI ql.length))] → W p l e (headSpec wsM_placeFor ({ frames := 1, cells := 0, slots := 0, locals := 40 })).room s m ([.ref am, .ref bU, .int (nI a), .int (nI ql.length)] : List Value).toArray below meth c H locs 0 0 (MQ below (zQ dC dI A (fun v w => (∃ (k : Nat) (tt : List Int32), k < 64 ∧ sl[k]? = some (some (ql, tt)) ∧ sh_find env ql = some tt ∧ v = some (.int (nI k)) ∧ w = ((am, .inr (4, [.int cd, .ref bT, .ref bU, .int fsz, .int ln, .int pl, .int ne, .int bd, .ref bS, .ref b1, .ref b2, .ref bL, .ref bK, .ref bV, .int wa, .int hi, .ref bN, .ref bX, .ref bA, .ref bB, .int (nI env.length), .int gd, .int wr, .ref bH, .int hs, .long nu])) :: (bT, .inl (kI, 300, .inl fT)) :: (bU, .inl (kI, 300, .inl fU)) :: (bS, .inl (kI, 2000, .inl fS)) :: (b1, .inl (kI, 2000, .inl f1)) :: (b2, .inl (kI, 2000, .inl f2)) :: (bL, .inl (kZ, 2000, .inl fL)) :: (bK, .inl (kJ, 2000, .inr (.inl fK))) :: (bV, .inl (kJ, 400, .inr (.inl fV))) :: (bN, .inl (kI, 19200, .inl fN)) :: (bX, .inl (kI, 1536, .inl fX)) :: (bA, .inl (kI, 64, .inl fA)) :: (bB, .inl (kI, 64, .inl fB)) :: (bH, .inl (kI, 8, .inl fH)) :: tl)) ∨ (sh_find env ql = none ∧ env.length = 64 ∧ v = some (.int (-1)) ∧ w = ((am, .inr (4, [.int cd, .ref bT, .ref bU, .int fsz, .int ln, .int pl, .int ne, .int bd, .ref bS, .ref b1, .ref b2, .ref bL, .ref bK, .ref bV, .int wa, .int hi, .ref bN, .ref bX, .ref bA, .ref bB, .int (nI env.length), .int gd, .int wr, .ref bH, .int hs, .long nu])) :: (bT, .inl (kI, 300, .inl fT)) :: (bU, .inl (kI, 300, .inl fU)) :: (bS, .inl (kI, 2000, .inl fS)) :: (b1, .inl (kI, 2000, .inl f1)) :: (b2, .inl (kI, 2000, .inl f2)) :: (bL, .inl (kZ, 2000, .inl fL)) :: (bK, .inl (kJ, 2000, .inr (.inl fK))) :: (bV, .inl (kJ, 400, .inr (.inl fV))) :: (bN, .inl (kI, 19200, .inl fN)) :: (bX, .inl (kI, 1536, .inl fX)) :: (bA, .inl (kI, 64, .inl fA)) :: (bB, .inl (kI, 64, .inl fB)) :: (bH, .inl (kI, 8, .inl fH)) :: tl)) ∨ (∃ (k : Nat) (g : Nat → Int32), k < 64 ∧ sl[k]? = some none ∧ sh_find env ql = none ∧ env.length < 64 ∧ v = some (.int (nI k)) ∧ (∀ j, j < ql.length → g (300 * k + j) = sh_at ql j) ∧ (∀ j, (j < 300 * k ∨ 300 * k + 300 ≤ j) → g j = fN j) ∧ w = ((am, .inr (4, [.int cd, .ref bT, .ref bU, .int fsz, .int ln, .int pl, .int ne, .int bd, .ref bS, .ref b1, .ref b2, .ref bL, .ref bK, .ref bV, .int wa, .int hi, .ref bN, .ref bX, .ref bA, .ref bB, .int (nI (env.length + 1)), .int gd, .int wr, .ref bH, .int hs, .long nu])) :: (bT, .inl (kI, 300, .inl fT)) :: (bU, .inl (kI, 300, .inl fU)) :: (bS, .inl (kI, 2000, .inl fS)) :: (b1, .inl (kI, 2000, .inl f1)) :: (b2, .inl (kI, 2000, .inl f2)) :: (bL, .inl (kZ, 2000, .inl fL)) :: (bK, .inl (kJ, 2000, .inr (.inl fK))) :: (bV, .inl (kJ, 400, .inr (.inl fV))) :: (bN, .inl (kI, 19200, .inl g)) :: (bX, .inl (kI, 1536, .inl fX)) :: (bA, .inl (kI, 64, .inl (upd fA k (nI ql.length)))) :: (bB, .inl (kI, 64, .inl fB)) :: (bH, .inl (kI, 8, .inl fH)) :: tl)))) ([.ref am, .ref bU, .int (nI a), .int (nI ql.length)] : List Value).toArray s 0 0 A) (F0 m 57 ls []) := by
              intro f_loop_57
              induction f_loop_57 with
              | zero => intro i g hf; exact absurd hf (Nat.not_lt_zero _)
              | succ f_loop_57 ih_loop_57 =>
                intro i g hf_loop_57 hii hg1 hg0 H locs hP hD hS ls hl
                refine lv_iload hx hb dM_placeFor_57 (lv_at hl 0 rfl) ?_
                refine lv_iload_n hx hb dM_placeFor_59 rfl (lv_at hl 5 rfl) ?_
                refine lv_icmp_ge (tgt := 89) hx hb dM_placeFor_60 (by decide) (fun c_4 => ?_) (fun c_4 => ?_)
                · skip
                  have e_60 : ql.length ≤ i := xi_le c_4 (by omega) (by omega)
                  refine lv_aload_n hx hb dM_placeFor_89 rfl (lv_at hl 2 rfl) ?_
                  refine lv_dup hx hb dM_placeFor_90 rfl ?_
                  refine va_get (D := (dC, dI)) (ci := 4) (v := .int (nI env.length)) (C := "ShellSumModel") (T := TM) (N := 26) hx hb htz zu_M hown hK hP 0 rfl rfl 20 (by decide) (htz _ zw_2_180) (fun _ h9 => h9) rfl dM_placeFor_91 ?_
                  refine lv_iconst (v := 1) hx hb dM_placeFor_94 (by decide) ?_
                  refine lv_iadd hx hb dM_placeFor_95 ?_
                  refine xw_topi (y := nI (env.length + 1)) (nI_add env.length 1) ?_
                  refine va_put (D := (dC, dI)) (ci := 4) (v := .int (nI (env.length + 1))) (ty := .int) (C := "ShellSumModel") (T := TM) (N := 26) hx hb htz zu_M tyM tyM_ok nmM hown hK hP hD hS 0 rfl rfl 20 (by decide) (htz _ zw_2_180) (fun _ h9 => h9) rfl (by decide +kernel) rfl rfl (Nat.le_of_ble_eq_true rfl) dM_placeFor_96 (fun H locs hP hD hS => ?_)
                  have hP : va_P (dC, dI) vwCl ((am, .inr (4, [.int cd, .ref bT, .ref bU, .int fsz, .int ln, .int pl, .int ne, .int bd, .ref bS, .ref b1, .ref b2, .ref bL, .ref bK, .ref bV, .int wa, .int hi, .ref bN, .ref bX, .ref bA, .ref bB, .int (nI (env.length + 1)), .int gd, .int wr, .ref bH, .int hs, .long nu])) :: (bT, .inl (kI, 300, .inl fT)) :: (bU, .inl (kI, 300, .inl fU)) :: (bS, .inl (kI, 2000, .inl fS)) :: (b1, .inl (kI, 2000, .inl f1)) :: (b2, .inl (kI, 2000, .inl f2)) :: (bL, .inl (kZ, 2000, .inl fL)) :: (bK, .inl (kJ, 2000, .inr (.inl fK))) :: (bV, .inl (kJ, 400, .inr (.inl fV))) :: (bN, .inl (kI, 19200, .inl g)) :: (bX, .inl (kI, 1536, .inl fX)) :: (bA, .inl (kI, 64, .inl (upd fA k (nI ql.length)))) :: (bB, .inl (kI, 64, .inl fB)) :: (bH, .inl (kI, 8, .inl fH)) :: tl) _ := hP
                  have hD : va_D A ((am, .inr (4, [.int cd, .ref bT, .ref bU, .int fsz, .int ln, .int pl, .int ne, .int bd, .ref bS, .ref b1, .ref b2, .ref bL, .ref bK, .ref bV, .int wa, .int hi, .ref bN, .ref bX, .ref bA, .ref bB, .int (nI (env.length + 1)), .int gd, .int wr, .ref bH, .int hs, .long nu])) :: (bT, .inl (kI, 300, .inl fT)) :: (bU, .inl (kI, 300, .inl fU)) :: (bS, .inl (kI, 2000, .inl fS)) :: (b1, .inl (kI, 2000, .inl f1)) :: (b2, .inl (kI, 2000, .inl f2)) :: (bL, .inl (kZ, 2000, .inl fL)) :: (bK, .inl (kJ, 2000, .inr (.inl fK))) :: (bV, .inl (kJ, 400, .inr (.inl fV))) :: (bN, .inl (kI, 19200, .inl g)) :: (bX, .inl (kI, 1536, .inl fX)) :: (bA, .inl (kI, 64, .inl (upd fA k (nI ql.length)))) :: (bB, .inl (kI, 64, .inl fB)) :: (bH, .inl (kI, 8, .inl fH)) :: tl) := hD
                  refine lv_iload hx hb dM_placeFor_99 (lv_at hl 1 rfl) ?_
                  refine W.widen (k := 0) (n := 0) (Nat.le_refl _) (Nat.le_refl _) ?_
                  exact W.iret (v := nI k) hx hb hr (fun t ht _ => ⟨_, _, rfl, Or.inr (Or.inr ⟨k, g, by omega, e_37, hfn, by omega, rfl, fun j h => hg1 j (by omega), hg0, rfl⟩), by rw [ht]; exact hP, hD, hS.F ht⟩) hS.2.2 dM_placeFor_101
                have e_60 : i < ql.length := xi_nle c_4 (by omega) (by omega)
                refine lv_aload_n hx hb dM_placeFor_63 rfl (lv_at hl 2 rfl) ?_
                refine va_get (D := (dC, dI)) (ci := 4) (v := .ref bN) (C := "ShellSumModel") (T := TM) (N := 26) hx hb htz zu_M hown hK hP 0 rfl rfl 16 (by decide) (htz _ zw_2_176) (fun _ h9 => h9) rfl dM_placeFor_64 ?_
                refine lv_sipush (v := 300) hx hb dM_placeFor_67 (by decide) ?_
                refine lv_iload hx hb dM_placeFor_70 (lv_at hl 1 rfl) ?_
                refine lv_imul hx hb dM_placeFor_72 ?_
                refine xw_topi (y := nI (300 * k)) (pk_mul 300 k) ?_
                refine lv_iload hx hb dM_placeFor_73 (lv_at hl 0 rfl) ?_
                refine lv_iadd hx hb dM_placeFor_75 ?_
                refine xw_topi (y := nI (300 * k + i)) (nI_add (300 * k) i) ?_
                refine lv_aload_n hx hb dM_placeFor_76 rfl (lv_at hl 3 rfl) ?_
                refine lv_iload_n hx hb dM_placeFor_77 rfl (lv_at hl 4 rfl) ?_
                refine lv_iload hx hb dM_placeFor_78 (lv_at hl 0 rfl) ?_
                refine lv_iadd hx hb dM_placeFor_80 ?_
                refine xw_topi (y := nI (a + i)) (nI_add a i) ?_
                refine va_iald hx hb hK hP 2 0 rfl rfl (vp_in_nI (by omega) (by omega)) dM_placeFor_81 ?_
                refine xw_topi (y := fU (a + i)) (by rw [nI_clamp (by omega)]) ?_
                refine xw_topi (y := sh_at ql i) (hrow i e_60) ?_
                refine va_iast hx hb hK hP hD hS 9 0 rfl rfl (vp_in_nI (by omega) (by omega)) dM_placeFor_82 (fun H locs hP hD hS => ?_)
                have hP : va_P (dC, dI) vwCl ((am, .inr (4, [.int cd, .ref bT, .ref bU, .int fsz, .int ln, .int pl, .int ne, .int bd, .ref bS, .ref b1, .ref b2, .ref bL, .ref bK, .ref bV, .int wa, .int hi, .ref bN, .ref bX, .ref bA, .ref bB, .int (nI env.length), .int gd, .int wr, .ref bH, .int hs, .long nu])) :: (bT, .inl (kI, 300, .inl fT)) :: (bU, .inl (kI, 300, .inl fU)) :: (bS, .inl (kI, 2000, .inl fS)) :: (b1, .inl (kI, 2000, .inl f1)) :: (b2, .inl (kI, 2000, .inl f2)) :: (bL, .inl (kZ, 2000, .inl fL)) :: (bK, .inl (kJ, 2000, .inr (.inl fK))) :: (bV, .inl (kJ, 400, .inr (.inl fV))) :: (bN, .inl (kI, 19200, .inl (upd g (nI (300 * k + i)).toNatClampNeg (sh_at ql i)))) :: (bX, .inl (kI, 1536, .inl fX)) :: (bA, .inl (kI, 64, .inl (upd fA k (nI ql.length)))) :: (bB, .inl (kI, 64, .inl fB)) :: (bH, .inl (kI, 8, .inl fH)) :: tl) _ := hP
                have hD : va_D A ((am, .inr (4, [.int cd, .ref bT, .ref bU, .int fsz, .int ln, .int pl, .int ne, .int bd, .ref bS, .ref b1, .ref b2, .ref bL, .ref bK, .ref bV, .int wa, .int hi, .ref bN, .ref bX, .ref bA, .ref bB, .int (nI env.length), .int gd, .int wr, .ref bH, .int hs, .long nu])) :: (bT, .inl (kI, 300, .inl fT)) :: (bU, .inl (kI, 300, .inl fU)) :: (bS, .inl (kI, 2000, .inl fS)) :: (b1, .inl (kI, 2000, .inl f1)) :: (b2, .inl (kI, 2000, .inl f2)) :: (bL, .inl (kZ, 2000, .inl fL)) :: (bK, .inl (kJ, 2000, .inr (.inl fK))) :: (bV, .inl (kJ, 400, .inr (.inl fV))) :: (bN, .inl (kI, 19200, .inl (upd g (nI (300 * k + i)).toNatClampNeg (sh_at ql i)))) :: (bX, .inl (kI, 1536, .inl fX)) :: (bA, .inl (kI, 64, .inl (upd fA k (nI ql.length)))) :: (bB, .inl (kI, 64, .inl fB)) :: (bH, .inl (kI, 8, .inl fH)) :: tl) := hD
                have e_f : upd g (nI (300 * k + i)).toNatClampNeg (sh_at ql i) = upd g (300 * k + i) (sh_at ql i) := by rw [nI_clamp (by omega)]
                rw [e_f] at hP hD
                have hP : va_P (dC, dI) vwCl ((am, .inr (4, [.int cd, .ref bT, .ref bU, .int fsz, .int ln, .int pl, .int ne, .int bd, .ref bS, .ref b1, .ref b2, .ref bL, .ref bK, .ref bV, .int wa, .int hi, .ref bN, .ref bX, .ref bA, .ref bB, .int (nI env.length), .int gd, .int wr, .ref bH, .int hs, .long nu])) :: (bT, .inl (kI, 300, .inl fT)) :: (bU, .inl (kI, 300, .inl fU)) :: (bS, .inl (kI, 2000, .inl fS)) :: (b1, .inl (kI, 2000, .inl f1)) :: (b2, .inl (kI, 2000, .inl f2)) :: (bL, .inl (kZ, 2000, .inl fL)) :: (bK, .inl (kJ, 2000, .inr (.inl fK))) :: (bV, .inl (kJ, 400, .inr (.inl fV))) :: (bN, .inl (kI, 19200, .inl (upd g (300 * k + i) (sh_at ql i)))) :: (bX, .inl (kI, 1536, .inl fX)) :: (bA, .inl (kI, 64, .inl (upd fA k (nI ql.length)))) :: (bB, .inl (kI, 64, .inl fB)) :: (bH, .inl (kI, 8, .inl fH)) :: tl) _ := hP
                have hD : va_D A ((am, .inr (4, [.int cd, .ref bT, .ref bU, .int fsz, .int ln, .int pl, .int ne, .int bd, .ref bS, .ref b1, .ref b2, .ref bL, .ref bK, .ref bV, .int wa, .int hi, .ref bN, .ref bX, .ref bA, .ref bB, .int (nI env.length), .int gd, .int wr, .ref bH, .int hs, .long nu])) :: (bT, .inl (kI, 300, .inl fT)) :: (bU, .inl (kI, 300, .inl fU)) :: (bS, .inl (kI, 2000, .inl fS)) :: (b1, .inl (kI, 2000, .inl f1)) :: (b2, .inl (kI, 2000, .inl f2)) :: (bL, .inl (kZ, 2000, .inl fL)) :: (bK, .inl (kJ, 2000, .inr (.inl fK))) :: (bV, .inl (kJ, 400, .inr (.inl fV))) :: (bN, .inl (kI, 19200, .inl (upd g (300 * k + i) (sh_at ql i)))) :: (bX, .inl (kI, 1536, .inl fX)) :: (bA, .inl (kI, 64, .inl (upd fA k (nI ql.length)))) :: (bB, .inl (kI, 64, .inl fB)) :: (bH, .inl (kI, 8, .inl fH)) :: tl) := hD
                refine lv_iinc (v := nI (i + 1)) (lv' := [(5, .int (nI (i + 1))), (4, .int (nI k)), (0, .ref am), (1, .ref bU), (2, .int (nI a)), (3, .int (nI ql.length))]) hx hb dM_placeFor_83 hl (k := 0) rfl (nI_1 i) (by decide) rfl (fun ls hl => ?_)
                refine lv_goto (tgt := 57) hx hb dM_placeFor_86 (by decide) ?_
                exact ih_loop_57 (i + 1) (upd g (300 * k + i) (sh_at ql i)) (by omega) (by omega) (lt_s (fun j h => (pk_un (by omega)).trans (hg1 j h)) pk_us) (fun j h => (pk_un (by omega)).trans (hg0 j h)) _ _ hP hD hS ls (lv_sub hl [0, 1, 2, 3, 4, 5] rfl)
            exact loop_57 _ 0 fN (Nat.lt_succ_self _) (Nat.zero_le _) (fun j h => absurd h (Nat.not_lt_zero _)) (fun j _ => rfl) _ _ hP hD hS ls (lv_sub hl [0, 1, 2, 3, 4, 5] rfl)
          have e_37 : k < k0 := (Nat.lt_or_ge k k0).elim id (fun q9 => absurd (show fA k ≤ 0 by rw [show k = k0 by omega, hk0A]; decide) c_3)
          refine lv_iinc (v := nI (k + 1)) (lv' := [(4, .int (nI (k + 1))), (0, .ref am), (1, .ref bU), (2, .int (nI a)), (3, .int (nI ql.length))]) hx hb dM_placeFor_40 hl (k := 0) rfl (nI_1 k) (by decide) rfl (fun ls hl => ?_)
          refine lv_goto (tgt := 30) hx hb dM_placeFor_43 (by decide) ?_
          exact ih_loop_30 (k + 1) (by omega) (by omega) _ _ hP hD hS ls (lv_sub hl [0, 1, 2, 3, 4] rfl)
      exact loop_30 _ 0 (Nat.lt_succ_self _) (Nat.zero_le _) _ _ hP hD hS ls (lv_sub hl [0, 1, 2, 3, 4] rfl)
    have e_21 : env.length = 64 := xi_eq (b := 64) c_2 (by omega) (by decide)
    refine lv_iload hx hb dM_placeFor_24 (lv_at hl 0 rfl) ?_
    refine W.widen (k := 0) (n := 0) (Nat.le_refl _) (Nat.le_refl _) ?_
    exact W.iret (v := (-1)) hx hb hr (fun t ht _ => ⟨_, _, rfl, Or.inr (Or.inl ⟨hfn, e_21, rfl, rfl⟩), by rw [ht]; exact hP, hD, hS.F ht⟩) hS.2.2 dM_placeFor_26
  refine xw_topi (y := nI k) (hf) ?_
  refine lv_istore (lv' := [(4, .int (nI k)), (0, .ref am), (1, .ref bU), (2, .int (nI a)), (3, .int (nI ql.length))]) hx hb dM_placeFor_7 hl (by decide) rfl (fun ls hl => ?_)
  refine lv_iload hx hb dM_placeFor_9 (lv_at hl 0 rfl) ?_
  refine lv_iconst (v := (-1)) hx hb dM_placeFor_11 (by decide) ?_
  refine lv_icmp_ne (tgt := 24) hx hb dM_placeFor_12 (by decide) (fun c_5 => ?_) (fun c_5 => ?_)
  · skip
    refine lv_iload hx hb dM_placeFor_24 (lv_at hl 0 rfl) ?_
    refine W.widen (k := 0) (n := 0) (Nat.le_refl _) (Nat.le_refl _) ?_
    exact W.iret (v := nI k) hx hb hr (fun t ht _ => ⟨_, _, rfl, Or.inl ⟨k, tt, hk64, hsk, hfd, rfl, rfl⟩, by rw [ht]; exact hP, hD, hS.F ht⟩) hS.2.2 dM_placeFor_26
  exact absurd c_5 (nI_nm (by omega))
set_option maxHeartbeats 4000000 in
set_option maxRecDepth 100000 in
/-- placeFor(row, from, n) -/
theorem k_M_placeForH (l : Launch) (dC : Nat → ClassId) (dI : Nat → Nat → Nat) (kI kJ kZ : ClassId) (am bT bU bS b1 b2 bL bK bV bN bX bA bB bH : Nat) (cd fsz ln pl ne bd wa hi my gd wr hs : Int32) (nu : Int64) (fT fU fS f1 f2 fL fN fX fA fB fH : Nat → Int32) (fK fV : Nat → Int64) (tl : va_W) (sz : Nat) (a : Nat) (ql : List Int32) (sl : List mO) (env : sh_Env) (hrow : ∀ j, j < ql.length → fH (a + j) = sh_at ql j) (ha : a + ql.length ≤ 8) (h1 : 1 ≤ ql.length) (hM : zMn fN fX fA fB sl env) : Met l yM_placeFor wsM_placeFor ({ frames := 1, cells := 0, slots := 0, locals := 40 }) (va_Pc [.ref am, .ref bH, .int (nI a), .int (nI ql.length)] (zW dC dI ([(kI, .int), (kJ, .long), (kZ, .boolean)]) ((am, .inr (4, [.int cd, .ref bT, .ref bU, .int fsz, .int ln, .int pl, .int ne, .int bd, .ref bS, .ref b1, .ref b2, .ref bL, .ref bK, .ref bV, .int wa, .int hi, .ref bN, .ref bX, .ref bA, .ref bB, .int (nI env.length), .int gd, .int wr, .ref bH, .int hs, .long nu])) :: (bT, .inl (kI, 300, .inl fT)) :: (bU, .inl (kI, 300, .inl fU)) :: (bS, .inl (kI, 2000, .inl fS)) :: (b1, .inl (kI, 2000, .inl f1)) :: (b2, .inl (kI, 2000, .inl f2)) :: (bL, .inl (kZ, 2000, .inl fL)) :: (bK, .inl (kJ, 2000, .inr (.inl fK))) :: (bV, .inl (kJ, 400, .inr (.inl fV))) :: (bN, .inl (kI, 19200, .inl fN)) :: (bX, .inl (kI, 1536, .inl fX)) :: (bA, .inl (kI, 64, .inl fA)) :: (bB, .inl (kI, 64, .inl fB)) :: (bH, .inl (kI, 8, .inl fH)) :: tl) sz)) (zQ dC dI (va_A ((am, .inr (4, [.int cd, .ref bT, .ref bU, .int fsz, .int ln, .int pl, .int ne, .int bd, .ref bS, .ref b1, .ref b2, .ref bL, .ref bK, .ref bV, .int wa, .int hi, .ref bN, .ref bX, .ref bA, .ref bB, .int (nI env.length), .int gd, .int wr, .ref bH, .int hs, .long nu])) :: (bT, .inl (kI, 300, .inl fT)) :: (bU, .inl (kI, 300, .inl fU)) :: (bS, .inl (kI, 2000, .inl fS)) :: (b1, .inl (kI, 2000, .inl f1)) :: (b2, .inl (kI, 2000, .inl f2)) :: (bL, .inl (kZ, 2000, .inl fL)) :: (bK, .inl (kJ, 2000, .inr (.inl fK))) :: (bV, .inl (kJ, 400, .inr (.inl fV))) :: (bN, .inl (kI, 19200, .inl fN)) :: (bX, .inl (kI, 1536, .inl fX)) :: (bA, .inl (kI, 64, .inl fA)) :: (bB, .inl (kI, 64, .inl fB)) :: (bH, .inl (kI, 8, .inl fH)) :: tl) sz) (fun v w => (∃ (k : Nat) (tt : List Int32), k < 64 ∧ sl[k]? = some (some (ql, tt)) ∧ sh_find env ql = some tt ∧ v = some (.int (nI k)) ∧ w = ((am, .inr (4, [.int cd, .ref bT, .ref bU, .int fsz, .int ln, .int pl, .int ne, .int bd, .ref bS, .ref b1, .ref b2, .ref bL, .ref bK, .ref bV, .int wa, .int hi, .ref bN, .ref bX, .ref bA, .ref bB, .int (nI env.length), .int gd, .int wr, .ref bH, .int hs, .long nu])) :: (bT, .inl (kI, 300, .inl fT)) :: (bU, .inl (kI, 300, .inl fU)) :: (bS, .inl (kI, 2000, .inl fS)) :: (b1, .inl (kI, 2000, .inl f1)) :: (b2, .inl (kI, 2000, .inl f2)) :: (bL, .inl (kZ, 2000, .inl fL)) :: (bK, .inl (kJ, 2000, .inr (.inl fK))) :: (bV, .inl (kJ, 400, .inr (.inl fV))) :: (bN, .inl (kI, 19200, .inl fN)) :: (bX, .inl (kI, 1536, .inl fX)) :: (bA, .inl (kI, 64, .inl fA)) :: (bB, .inl (kI, 64, .inl fB)) :: (bH, .inl (kI, 8, .inl fH)) :: tl)) ∨ (sh_find env ql = none ∧ env.length = 64 ∧ v = some (.int (-1)) ∧ w = ((am, .inr (4, [.int cd, .ref bT, .ref bU, .int fsz, .int ln, .int pl, .int ne, .int bd, .ref bS, .ref b1, .ref b2, .ref bL, .ref bK, .ref bV, .int wa, .int hi, .ref bN, .ref bX, .ref bA, .ref bB, .int (nI env.length), .int gd, .int wr, .ref bH, .int hs, .long nu])) :: (bT, .inl (kI, 300, .inl fT)) :: (bU, .inl (kI, 300, .inl fU)) :: (bS, .inl (kI, 2000, .inl fS)) :: (b1, .inl (kI, 2000, .inl f1)) :: (b2, .inl (kI, 2000, .inl f2)) :: (bL, .inl (kZ, 2000, .inl fL)) :: (bK, .inl (kJ, 2000, .inr (.inl fK))) :: (bV, .inl (kJ, 400, .inr (.inl fV))) :: (bN, .inl (kI, 19200, .inl fN)) :: (bX, .inl (kI, 1536, .inl fX)) :: (bA, .inl (kI, 64, .inl fA)) :: (bB, .inl (kI, 64, .inl fB)) :: (bH, .inl (kI, 8, .inl fH)) :: tl)) ∨ (∃ (k : Nat) (g : Nat → Int32), k < 64 ∧ sl[k]? = some none ∧ sh_find env ql = none ∧ env.length < 64 ∧ v = some (.int (nI k)) ∧ (∀ j, j < ql.length → g (300 * k + j) = sh_at ql j) ∧ (∀ j, (j < 300 * k ∨ 300 * k + 300 ≤ j) → g j = fN j) ∧ w = ((am, .inr (4, [.int cd, .ref bT, .ref bU, .int fsz, .int ln, .int pl, .int ne, .int bd, .ref bS, .ref b1, .ref b2, .ref bL, .ref bK, .ref bV, .int wa, .int hi, .ref bN, .ref bX, .ref bA, .ref bB, .int (nI (env.length + 1)), .int gd, .int wr, .ref bH, .int hs, .long nu])) :: (bT, .inl (kI, 300, .inl fT)) :: (bU, .inl (kI, 300, .inl fU)) :: (bS, .inl (kI, 2000, .inl fS)) :: (b1, .inl (kI, 2000, .inl f1)) :: (b2, .inl (kI, 2000, .inl f2)) :: (bL, .inl (kZ, 2000, .inl fL)) :: (bK, .inl (kJ, 2000, .inr (.inl fK))) :: (bV, .inl (kJ, 400, .inr (.inl fV))) :: (bN, .inl (kI, 19200, .inl g)) :: (bX, .inl (kI, 1536, .inl fX)) :: (bA, .inl (kI, 64, .inl (upd fA k (nI ql.length)))) :: (bB, .inl (kI, 64, .inl fB)) :: (bH, .inl (kI, 8, .inl fH)) :: tl)))) 0 0 (va_A ((am, .inr (4, [.int cd, .ref bT, .ref bU, .int fsz, .int ln, .int pl, .int ne, .int bd, .ref bS, .ref b1, .ref b2, .ref bL, .ref bK, .ref bV, .int wa, .int hi, .ref bN, .ref bX, .ref bA, .ref bB, .int (nI env.length), .int gd, .int wr, .ref bH, .int hs, .long nu])) :: (bT, .inl (kI, 300, .inl fT)) :: (bU, .inl (kI, 300, .inl fU)) :: (bS, .inl (kI, 2000, .inl fS)) :: (b1, .inl (kI, 2000, .inl f1)) :: (b2, .inl (kI, 2000, .inl f2)) :: (bL, .inl (kZ, 2000, .inl fL)) :: (bK, .inl (kJ, 2000, .inr (.inl fK))) :: (bV, .inl (kJ, 400, .inr (.inl fV))) :: (bN, .inl (kI, 19200, .inl fN)) :: (bX, .inl (kI, 1536, .inl fX)) :: (bA, .inl (kI, 64, .inl fA)) :: (bB, .inl (kI, 64, .inl fB)) :: (bH, .inl (kI, 8, .inl fH)) :: tl) sz) := by
  refine Met.ofW (cc := cM_placeFor) (maxL := 6) (ret := (some .int)) (by decide) rfl ?_
  intro p e s m args below meth c s₁ B hml hv
  obtain ⟨rfl, hsz, hP, hK, hD0, hN⟩ := hv
  subst hsz
  have hD := hD0.self (sz := s.heap.size)
  generalize hAe : va_A ((am, .inr (4, [.int cd, .ref bT, .ref bU, .int fsz, .int ln, .int pl, .int ne, .int bd, .ref bS, .ref b1, .ref b2, .ref bL, .ref bK, .ref bV, .int wa, .int hi, .ref bN, .ref bX, .ref bA, .ref bB, .int (nI env.length), .int gd, .int wr, .ref bH, .int hs, .long nu])) :: (bT, .inl (kI, 300, .inl fT)) :: (bU, .inl (kI, 300, .inl fU)) :: (bS, .inl (kI, 2000, .inl fS)) :: (b1, .inl (kI, 2000, .inl f1)) :: (b2, .inl (kI, 2000, .inl f2)) :: (bL, .inl (kZ, 2000, .inl fL)) :: (bK, .inl (kJ, 2000, .inr (.inl fK))) :: (bV, .inl (kJ, 400, .inr (.inl fV))) :: (bN, .inl (kI, 19200, .inl fN)) :: (bX, .inl (kI, 1536, .inl fX)) :: (bA, .inl (kI, 64, .inl fA)) :: (bB, .inl (kI, 64, .inl fB)) :: (bH, .inl (kI, 8, .inl fH)) :: tl) s.heap.size = A at hD ⊢
  have hA : ∀ q : Nat, s.heap.size ≤ q → A q := fun q h => by rw [← hAe]; exact Or.inr h
  have hS : va_S A s.heap s.heap [] := va_S.rf
  have hx := B.exec
  have hb := B.bytes
  have hr := B.returns
  have htz : ∀ w ∈ zw, w.before _ s = true := fun w h => atoms_spec (ws := wsM_placeFor) B.pre w (List.mem_cons_of_mem _ h)
  have hown : s.vm.findClass "ShellSumModel" = some m.cls := findClass_of_methodNamed B.named
  have hlocks := B.notSynchronized
  have hl := lv_entry ([.ref am, .ref bH, .int (nI a), .int (nI ql.length)]) (n := 6) (Nat.le_of_ble_eq_true rfl)
  rw [lg_entry_eq]
  generalize (lg_sl ([.ref am, .ref bH, .int (nI a), .int (nI ql.length)]) ++ List.replicate (6 - (lg_sl ([.ref am, .ref bH, .int (nI a), .int (nI ql.length)])).length) Slot.unset).toArray = ls at hl ⊢
  have hl : lv_has ls 6 [(0, .ref am), (1, .ref bH), (2, .int (nI a)), (3, .int (nI ql.length))] := hl
  have hl64 := hM.2.2.2.2
  refine lv_aload_n hx hb dM_placeFor_0 rfl (lv_at hl 0 rfl) ?_
  refine lv_aload_n hx hb dM_placeFor_1 rfl (lv_at hl 1 rfl) ?_
  refine lv_iload_n hx hb dM_placeFor_2 rfl (lv_at hl 2 rfl) ?_
  refine lv_iload_n hx hb dM_placeFor_3 rfl (lv_at hl 3 rfl) ?_
  refine rq_call (va_runV (As := [.ref bH, .int (nI a), .int (nI ql.length)]) (rest := []) ⟨hx, hb, hml, hown, htz⟩ (k_M_findH l dC dI kI kJ kZ am bT bU bS b1 b2 bL bK bV bN bX bA bB bH cd fsz ln pl ne bd wa hi (nI env.length) gd wr hs nu fT fU fS f1 f2 fL fN fX fA fB fH fK fV tl a ql sl env (hrow) (ha) h1 hM) (cwV 3 htz (zg_V zw_3_36 zw_3_38 zs_M_find zw_1_4 zw_3_39) rfl rfl rfl (by decide +kernel) ⟨Nat.le_of_ble_eq_true rfl, Nat.le_of_ble_eq_true rfl⟩) (zR_V hP hK hN (va_recv hK hP (ci := 4) (q0 := 0) rfl rfl)) rfl rfl hl.1 rfl (lv_room (Nat.le_of_ble_eq_true rfl)) dM_placeFor_4 ⟨Nat.zero_le _, Nat.zero_le _⟩) ?_
  refine W.eq (g2 := F0 m 7 ls [.int (m_fk sl ql 64)]) rfl ?_
  rcases zMn_find hM ql with ⟨hf, hfn, hno⟩ | ⟨k, tt, hk64, hf, hsk, hfd⟩
  · skip
    refine xw_topi (y := (-1)) (hf) ?_
    refine lv_istore (lv' := [(4, .int (-1)), (0, .ref am), (1, .ref bH), (2, .int (nI a)), (3, .int (nI ql.length))]) hx hb dM_placeFor_7 hl (by decide) rfl (fun ls hl => ?_)
    refine lv_iload hx hb dM_placeFor_9 (lv_at hl 0 rfl) ?_
    refine lv_iconst (v := (-1)) hx hb dM_placeFor_11 (by decide) ?_
    refine lv_icmp_ne (tgt := 24) hx hb dM_placeFor_12 (by decide) (fun c_1 => ?_) (fun c_1 => ?_)
    · skip
      exact absurd rfl c_1
    refine lv_aload_n hx hb dM_placeFor_15 rfl (lv_at hl 1 rfl) ?_
    refine va_get (D := (dC, dI)) (ci := 4) (v := .int (nI env.length)) (C := "ShellSumModel") (T := TM) (N := 26) hx hb htz zu_M hown hK hP 0 rfl rfl 20 (by decide) (htz _ zw_2_180) (fun _ h9 => h9) rfl dM_placeFor_16 ?_
    refine lv_bipush (v := 64) hx hb dM_placeFor_19 (by decide) ?_
    refine lv_icmp_ne (tgt := 27) hx hb dM_placeFor_21 (by decide) (fun c_2 => ?_) (fun c_2 => ?_)
    · skip
      have e_21 : env.length ≠ 64 := xi_ne (b := 64) c_2 (by omega) (by decide)
      refine lv_iconst (v := 0) hx hb dM_placeFor_27 (by decide) ?_
      obtain ⟨k0, hk0⟩ := zMn_free hM (by omega)
      have hk0L : k0 < 64 := by have := xl_of hk0; rw [hM.1] at this; exact this
      have hk0A : fA k0 = 0 := hM.2.1 k0 _ hk0
      refine xw_topi (y := nI 0) (nI_0.symm) ?_
      refine lv_istore (lv' := [(4, .int (nI 0)), (0, .ref am), (1, .ref bH), (2, .int (nI a)), (3, .int (nI ql.length))]) hx hb dM_placeFor_28 hl (by decide) rfl (fun ls hl => ?_)
      have loop_30 : ∀ (f_loop_30 : Nat) (k : Nat), k0 - k < f_loop_30 → (k ≤ k0) → ∀ (H : Heap) (locs : List Loc), va_P (dC, dI) vwCl ((am, .inr (4, [.int cd, .ref bT, .ref bU, .int fsz, .int ln, .int pl, .int ne, .int bd, .ref bS, .ref b1, .ref b2, .ref bL, .ref bK, .ref bV, .int wa, .int hi, .ref bN, .ref bX, .ref bA, .ref bB, .int (nI env.length), .int gd, .int wr, .ref bH, .int hs, .long nu])) :: (bT, .inl (kI, 300, .inl fT)) :: (bU, .inl (kI, 300, .inl fU)) :: (bS, .inl (kI, 2000, .inl fS)) :: (b1, .inl (kI, 2000, .inl f1)) :: (b2, .inl (kI, 2000, .inl f2)) :: (bL, .inl (kZ, 2000, .inl fL)) :: (bK, .inl (kJ, 2000, .inr (.inl fK))) :: (bV, .inl (kJ, 400, .inr (.inl fV))) :: (bN, .inl (kI, 19200, .inl fN)) :: (bX, .inl (kI, 1536, .inl fX)) :: (bA, .inl (kI, 64, .inl fA)) :: (bB, .inl (kI, 64, .inl fB)) :: (bH, .inl (kI, 8, .inl fH)) :: tl) H → va_D A ((am, .inr (4, [.int cd, .ref bT, .ref bU, .int fsz, .int ln, .int pl, .int ne, .int bd, .ref bS, .ref b1, .ref b2, .ref bL, .ref bK, .ref bV, .int wa, .int hi, .ref bN, .ref bX, .ref bA, .ref bB, .int (nI env.length), .int gd, .int wr, .ref bH, .int hs, .long nu])) :: (bT, .inl (kI, 300, .inl fT)) :: (bU, .inl (kI, 300, .inl fU)) :: (bS, .inl (kI, 2000, .inl fS)) :: (b1, .inl (kI, 2000, .inl f1)) :: (b2, .inl (kI, 2000, .inl f2)) :: (bL, .inl (kZ, 2000, .inl fL)) :: (bK, .inl (kJ, 2000, .inr (.inl fK))) :: (bV, .inl (kJ, 400, .inr (.inl fV))) :: (bN, .inl (kI, 19200, .inl fN)) :: (bX, .inl (kI, 1536, .inl fX)) :: (bA, .inl (kI, 64, .inl fA)) :: (bB, .inl (kI, 64, .inl fB)) :: (bH, .inl (kI, 8, .inl fH)) :: tl) → va_S A s.heap H locs → ∀ ls : Array Slot, lv_has ls 6 [(4, .int (nI k)), (0, .ref am), (1, .ref bH), (2, .int (nI a)), (3, .int (nI ql.length))] → W p l e (headSpec wsM_placeFor ({ frames := 1, cells := 0, slots := 0, locals := 40 })).room s m ([.ref am, .ref bH, .int (nI a), .int (nI ql.length)] : List Value).toArray below meth c H locs 0 0 (MQ below (zQ dC dI A (fun v w => (∃ (k : Nat) (tt : List Int32), k < 64 ∧ sl[k]? = some (some (ql, tt)) ∧ sh_find env ql = some tt ∧ v = some (.int (nI k)) ∧ w = ((am, .inr (4, [.int cd, .ref bT, .ref bU, .int fsz, .int ln, .int pl, .int ne, .int bd, .ref bS, .ref b1, .ref b2, .ref bL, .ref bK, .ref bV, .int wa, .int hi, .ref bN, .ref bX, .ref bA, .ref bB, .int (nI env.length), .int gd, .int wr, .ref bH, .int hs, .long nu])) :: (bT, .inl (kI, 300, .inl fT)) :: (bU, .inl (kI, 300, .inl fU)) :: (bS, .inl (kI, 2000, .inl fS)) :: (b1, .inl (kI, 2000, .inl f1)) :: (b2, .inl (kI, 2000, .inl f2)) :: (bL, .inl (kZ, 2000, .inl fL)) :: (bK, .inl (kJ, 2000, .inr (.inl fK))) :: (bV, .inl (kJ, 400, .inr (.inl fV))) :: (bN, .inl (kI, 19200, .inl fN)) :: (bX, .inl (kI, 1536, .inl fX)) :: (bA, .inl (kI, 64, .inl fA)) :: (bB, .inl (kI, 64, .inl fB)) :: (bH, .inl (kI, 8, .inl fH)) :: tl)) ∨ (sh_find env ql = none ∧ env.length = 64 ∧ v = some (.int (-1)) ∧ w = ((am, .inr (4, [.int cd, .ref bT, .ref bU, .int fsz, .int ln, .int pl, .int ne, .int bd, .ref bS, .ref b1, .ref b2, .ref bL, .ref bK, .ref bV, .int wa, .int hi, .ref bN, .ref bX, .ref bA, .ref bB, .int (nI env.length), .int gd, .int wr, .ref bH, .int hs, .long nu])) :: (bT, .inl (kI, 300, .inl fT)) :: (bU, .inl (kI, 300, .inl fU)) :: (bS, .inl (kI, 2000, .inl fS)) :: (b1, .inl (kI, 2000, .inl f1)) :: (b2, .inl (kI, 2000, .inl f2)) :: (bL, .inl (kZ, 2000, .inl fL)) :: (bK, .inl (kJ, 2000, .inr (.inl fK))) :: (bV, .inl (kJ, 400, .inr (.inl fV))) :: (bN, .inl (kI, 19200, .inl fN)) :: (bX, .inl (kI, 1536, .inl fX)) :: (bA, .inl (kI, 64, .inl fA)) :: (bB, .inl (kI, 64, .inl fB)) :: (bH, .inl (kI, 8, .inl fH)) :: tl)) ∨ (∃ (k : Nat) (g : Nat → Int32), k < 64 ∧ sl[k]? = some none ∧ sh_find env ql = none ∧ env.length < 64 ∧ v = some (.int (nI k)) ∧ (∀ j, j < ql.length → g (300 * k + j) = sh_at ql j) ∧ (∀ j, (j < 300 * k ∨ 300 * k + 300 ≤ j) → g j = fN j) ∧ w = ((am, .inr (4, [.int cd, .ref bT, .ref bU, .int fsz, .int ln, .int pl, .int ne, .int bd, .ref bS, .ref b1, .ref b2, .ref bL, .ref bK, .ref bV, .int wa, .int hi, .ref bN, .ref bX, .ref bA, .ref bB, .int (nI (env.length + 1)), .int gd, .int wr, .ref bH, .int hs, .long nu])) :: (bT, .inl (kI, 300, .inl fT)) :: (bU, .inl (kI, 300, .inl fU)) :: (bS, .inl (kI, 2000, .inl fS)) :: (b1, .inl (kI, 2000, .inl f1)) :: (b2, .inl (kI, 2000, .inl f2)) :: (bL, .inl (kZ, 2000, .inl fL)) :: (bK, .inl (kJ, 2000, .inr (.inl fK))) :: (bV, .inl (kJ, 400, .inr (.inl fV))) :: (bN, .inl (kI, 19200, .inl g)) :: (bX, .inl (kI, 1536, .inl fX)) :: (bA, .inl (kI, 64, .inl (upd fA k (nI ql.length)))) :: (bB, .inl (kI, 64, .inl fB)) :: (bH, .inl (kI, 8, .inl fH)) :: tl)))) ([.ref am, .ref bH, .int (nI a), .int (nI ql.length)] : List Value).toArray s 0 0 A) (F0 m 30 ls []) := by
        intro f_loop_30
        induction f_loop_30 with
        | zero => intro k hf; exact absurd hf (Nat.not_lt_zero _)
        | succ f_loop_30 ih_loop_30 =>
          intro k hf_loop_30 hk H locs hP hD hS ls hl
          refine lv_aload_n hx hb dM_placeFor_30 rfl (lv_at hl 1 rfl) ?_
          refine va_get (D := (dC, dI)) (ci := 4) (v := .ref bA) (C := "ShellSumModel") (T := TM) (N := 26) hx hb htz zu_M hown hK hP 0 rfl rfl 18 (by decide) (htz _ zw_2_178) (fun _ h9 => h9) rfl dM_placeFor_31 ?_
          refine lv_iload hx hb dM_placeFor_34 (lv_at hl 0 rfl) ?_
          refine va_iald hx hb hK hP 11 0 rfl rfl (vp_in_nI (by omega) (by omega)) dM_placeFor_36 ?_
          refine xw_topi (y := fA k) (by rw [nI_clamp (by omega)]) ?_
          refine lv_if_le (tgt := 46) hx hb dM_placeFor_37 (by decide) (fun c_3 => ?_) (fun c_3 => ?_)
          · skip
            have e_37 : sl[k]? = some none := by
              obtain ⟨o, ho, hz⟩ := zMn_slot hM (show k < 64 by omega)
              cases o with
              | none => exact ho
              | some q9 => exact absurd c_3 (by rw [hz.1]; exact mt (fun h9 => xi_le (b := 0) h9 (by have := hz.2.2.1; omega) (by decide)) (by have := hz.2.1; omega))
            refine lv_aload_n hx hb dM_placeFor_46 rfl (lv_at hl 1 rfl) ?_
            refine va_get (D := (dC, dI)) (ci := 4) (v := .ref bA) (C := "ShellSumModel") (T := TM) (N := 26) hx hb htz zu_M hown hK hP 0 rfl rfl 18 (by decide) (htz _ zw_2_178) (fun _ h9 => h9) rfl dM_placeFor_47 ?_
            refine lv_iload hx hb dM_placeFor_50 (lv_at hl 0 rfl) ?_
            refine lv_iload_n hx hb dM_placeFor_52 rfl (lv_at hl 4 rfl) ?_
            refine va_iast hx hb hK hP hD hS 11 0 rfl rfl (vp_in_nI (by omega) (by omega)) dM_placeFor_53 (fun H locs hP hD hS => ?_)
            have hP : va_P (dC, dI) vwCl ((am, .inr (4, [.int cd, .ref bT, .ref bU, .int fsz, .int ln, .int pl, .int ne, .int bd, .ref bS, .ref b1, .ref b2, .ref bL, .ref bK, .ref bV, .int wa, .int hi, .ref bN, .ref bX, .ref bA, .ref bB, .int (nI env.length), .int gd, .int wr, .ref bH, .int hs, .long nu])) :: (bT, .inl (kI, 300, .inl fT)) :: (bU, .inl (kI, 300, .inl fU)) :: (bS, .inl (kI, 2000, .inl fS)) :: (b1, .inl (kI, 2000, .inl f1)) :: (b2, .inl (kI, 2000, .inl f2)) :: (bL, .inl (kZ, 2000, .inl fL)) :: (bK, .inl (kJ, 2000, .inr (.inl fK))) :: (bV, .inl (kJ, 400, .inr (.inl fV))) :: (bN, .inl (kI, 19200, .inl fN)) :: (bX, .inl (kI, 1536, .inl fX)) :: (bA, .inl (kI, 64, .inl (upd fA (nI k).toNatClampNeg (nI ql.length)))) :: (bB, .inl (kI, 64, .inl fB)) :: (bH, .inl (kI, 8, .inl fH)) :: tl) _ := hP
            have hD : va_D A ((am, .inr (4, [.int cd, .ref bT, .ref bU, .int fsz, .int ln, .int pl, .int ne, .int bd, .ref bS, .ref b1, .ref b2, .ref bL, .ref bK, .ref bV, .int wa, .int hi, .ref bN, .ref bX, .ref bA, .ref bB, .int (nI env.length), .int gd, .int wr, .ref bH, .int hs, .long nu])) :: (bT, .inl (kI, 300, .inl fT)) :: (bU, .inl (kI, 300, .inl fU)) :: (bS, .inl (kI, 2000, .inl fS)) :: (b1, .inl (kI, 2000, .inl f1)) :: (b2, .inl (kI, 2000, .inl f2)) :: (bL, .inl (kZ, 2000, .inl fL)) :: (bK, .inl (kJ, 2000, .inr (.inl fK))) :: (bV, .inl (kJ, 400, .inr (.inl fV))) :: (bN, .inl (kI, 19200, .inl fN)) :: (bX, .inl (kI, 1536, .inl fX)) :: (bA, .inl (kI, 64, .inl (upd fA (nI k).toNatClampNeg (nI ql.length)))) :: (bB, .inl (kI, 64, .inl fB)) :: (bH, .inl (kI, 8, .inl fH)) :: tl) := hD
            have e_f : upd fA (nI k).toNatClampNeg (nI ql.length) = upd fA k (nI ql.length) := by rw [nI_clamp (by omega)]
            rw [e_f] at hP hD
            have hP : va_P (dC, dI) vwCl ((am, .inr (4, [.int cd, .ref bT, .ref bU, .int fsz, .int ln, .int pl, .int ne, .int bd, .ref bS, .ref b1, .ref b2, .ref bL, .ref bK, .ref bV, .int wa, .int hi, .ref bN, .ref bX, .ref bA, .ref bB, .int (nI env.length), .int gd, .int wr, .ref bH, .int hs, .long nu])) :: (bT, .inl (kI, 300, .inl fT)) :: (bU, .inl (kI, 300, .inl fU)) :: (bS, .inl (kI, 2000, .inl fS)) :: (b1, .inl (kI, 2000, .inl f1)) :: (b2, .inl (kI, 2000, .inl f2)) :: (bL, .inl (kZ, 2000, .inl fL)) :: (bK, .inl (kJ, 2000, .inr (.inl fK))) :: (bV, .inl (kJ, 400, .inr (.inl fV))) :: (bN, .inl (kI, 19200, .inl fN)) :: (bX, .inl (kI, 1536, .inl fX)) :: (bA, .inl (kI, 64, .inl (upd fA k (nI ql.length)))) :: (bB, .inl (kI, 64, .inl fB)) :: (bH, .inl (kI, 8, .inl fH)) :: tl) _ := hP
            have hD : va_D A ((am, .inr (4, [.int cd, .ref bT, .ref bU, .int fsz, .int ln, .int pl, .int ne, .int bd, .ref bS, .ref b1, .ref b2, .ref bL, .ref bK, .ref bV, .int wa, .int hi, .ref bN, .ref bX, .ref bA, .ref bB, .int (nI env.length), .int gd, .int wr, .ref bH, .int hs, .long nu])) :: (bT, .inl (kI, 300, .inl fT)) :: (bU, .inl (kI, 300, .inl fU)) :: (bS, .inl (kI, 2000, .inl fS)) :: (b1, .inl (kI, 2000, .inl f1)) :: (b2, .inl (kI, 2000, .inl f2)) :: (bL, .inl (kZ, 2000, .inl fL)) :: (bK, .inl (kJ, 2000, .inr (.inl fK))) :: (bV, .inl (kJ, 400, .inr (.inl fV))) :: (bN, .inl (kI, 19200, .inl fN)) :: (bX, .inl (kI, 1536, .inl fX)) :: (bA, .inl (kI, 64, .inl (upd fA k (nI ql.length)))) :: (bB, .inl (kI, 64, .inl fB)) :: (bH, .inl (kI, 8, .inl fH)) :: tl) := hD
            refine lv_iconst (v := 0) hx hb dM_placeFor_54 (by decide) ?_
            refine xw_topi (y := nI 0) (nI_0.symm) ?_
            refine lv_istore (lv' := [(5, .int (nI 0)), (4, .int (nI k)), (0, .ref am), (1, .ref bH), (2, .int (nI a)), (3, .int (nI ql.length))]) hx hb dM_placeFor_55 hl (by decide) rfl (fun ls hl => ?_)
            have loop_57 : ∀ (f_loop_57 : Nat) (i : Nat) (g : Nat → Int32), ql.length - i < f_loop_57 → (i ≤ ql.length) → (∀ j, j < i → g (300 * k + j) = sh_at ql j) → (∀ j, (j < 300 * k ∨ 300 * k + 300 ≤ j) → g j = fN j) → ∀ (H : Heap) (locs : List Loc), va_P (dC, dI) vwCl ((am, .inr (4, [.int cd, .ref bT, .ref bU, .int fsz, .int ln, .int pl, .int ne, .int bd, .ref bS, .ref b1, .ref b2, .ref bL, .ref bK, .ref bV, .int wa, .int hi, .ref bN, .ref bX, .ref bA, .ref bB, .int (nI env.length), .int gd, .int wr, .ref bH, .int hs, .long nu])) :: (bT, .inl (kI, 300, .inl fT)) :: (bU, .inl (kI, 300, .inl fU)) :: (bS, .inl (kI, 2000, .inl fS)) :: (b1, .inl (kI, 2000, .inl f1)) :: (b2, .inl (kI, 2000, .inl f2)) :: (bL, .inl (kZ, 2000, .inl fL)) :: (bK, .inl (kJ, 2000, .inr (.inl fK))) :: (bV, .inl (kJ, 400, .inr (.inl fV))) :: (bN, .inl (kI, 19200, .inl g)) :: (bX, .inl (kI, 1536, .inl fX)) :: (bA, .inl (kI, 64, .inl (upd fA k (nI ql.length)))) :: (bB, .inl (kI, 64, .inl fB)) :: (bH, .inl (kI, 8, .inl fH)) :: tl) H → va_D A ((am, .inr (4, [.int cd, .ref bT, .ref bU, .int fsz, .int ln, .int pl, .int ne, .int bd, .ref bS, .ref b1, .ref b2, .ref bL, .ref bK, .ref bV, .int wa, .int hi, .ref bN, .ref bX, .ref bA, .ref bB, .int (nI env.length), .int gd, .int wr, .ref bH, .int hs, .long nu])) :: (bT, .inl (kI, 300, .inl fT)) :: (bU, .inl (kI, 300, .inl fU)) :: (bS, .inl (kI, 2000, .inl fS)) :: (b1, .inl (kI, 2000, .inl f1)) :: (b2, .inl (kI, 2000, .inl f2)) :: (bL, .inl (kZ, 2000, .inl fL)) :: (bK, .inl (kJ, 2000, .inr (.inl fK))) :: (bV, .inl (kJ, 400, .inr (.inl fV))) :: (bN, .inl (kI, 19200, .inl g)) :: (bX, .inl (kI, 1536, .inl fX)) :: (bA, .inl (kI, 64, .inl (upd fA k (nI ql.length)))) :: (bB, .inl (kI, 64, .inl fB)) :: (bH, .inl (kI, 8, .inl fH)) :: tl) → va_S A s.heap H locs → ∀ ls : Array Slot, lv_has ls 6 [(5, .int (nI i)), (4, .int (nI k)), (0, .ref am), (1, .ref bH), (2, .int (nI a)), (3, .int (nI ql.length))] → W p l e (headSpec wsM_placeFor ({ frames := 1, cells := 0, slots := 0, locals := 40 })).room s m ([.ref am, .ref bH, .int (nI a), .int (nI ql.length)] : List Value).toArray below meth c H locs 0 0 (MQ below (zQ dC dI A (fun v w => (∃ (k : Nat) (tt : List Int32), k < 64 ∧ sl[k]? = some (some (ql, tt)) ∧ sh_find env ql = some tt ∧ v = some (.int (nI k)) ∧ w = ((am, .inr (4, [.int cd, .ref bT, .ref bU, .int fsz, .int ln, .int pl, .int ne, .int bd, .ref bS, .ref b1, .ref b2, .ref bL, .ref bK, .ref bV, .int wa, .int hi, .ref bN, .ref bX, .ref bA, .ref bB, .int (nI env.length), .int gd, .int wr, .ref bH, .int hs, .long nu])) :: (bT, .inl (kI, 300, .inl fT)) :: (bU, .inl (kI, 300, .inl fU)) :: (bS, .inl (kI, 2000, .inl fS)) :: (b1, .inl (kI, 2000, .inl f1)) :: (b2, .inl (kI, 2000, .inl f2)) :: (bL, .inl (kZ, 2000, .inl fL)) :: (bK, .inl (kJ, 2000, .inr (.inl fK))) :: (bV, .inl (kJ, 400, .inr (.inl fV))) :: (bN, .inl (kI, 19200, .inl fN)) :: (bX, .inl (kI, 1536, .inl fX)) :: (bA, .inl (kI, 64, .inl fA)) :: (bB, .inl (kI, 64, .inl fB)) :: (bH, .inl (kI, 8, .inl fH)) :: tl)) ∨ (sh_find env ql = none ∧ env.length = 64 ∧ v = some (.int (-1)) ∧ w = ((am, .inr (4, [.int cd, .ref bT, .ref bU, .int fsz, .int ln, .int pl, .int ne, .int bd, .ref bS, .ref b1, .ref b2, .ref bL, .ref bK, .ref bV, .int wa, .int hi, .ref bN, .ref bX, .ref bA, .ref bB, .int (nI env.length), .int gd, .int wr, .ref bH, .int hs, .long nu])) :: (bT, .inl (kI, 300, .inl fT)) :: (bU, .inl (kI, 300, .inl fU)) :: (bS, .inl (kI, 2000, .inl fS)) :: (b1, .inl (kI, 2000, .inl f1)) :: (b2, .inl (kI, 2000, .inl f2)) :: (bL, .inl (kZ, 2000, .inl fL)) :: (bK, .inl (kJ, 2000, .inr (.inl fK))) :: (bV, .inl (kJ, 400, .inr (.inl fV))) :: (bN, .inl (kI, 19200, .inl fN)) :: (bX, .inl (kI, 1536, .inl fX)) :: (bA, .inl (kI, 64, .inl fA)) :: (bB, .inl (kI, 64, .inl fB)) :: (bH, .inl (kI, 8, .inl fH)) :: tl)) ∨ (∃ (k : Nat) (g : Nat → Int32), k < 64 ∧ sl[k]? = some none ∧ sh_find env ql = none ∧ env.length < 64 ∧ v = some (.int (nI k)) ∧ (∀ j, j < ql.length → g (300 * k + j) = sh_at ql j) ∧ (∀ j, (j < 300 * k ∨ 300 * k + 300 ≤ j) → g j = fN j) ∧ w = ((am, .inr (4, [.int cd, .ref bT, .ref bU, .int fsz, .int ln, .int pl, .int ne, .int bd, .ref bS, .ref b1, .ref b2, .ref bL, .ref bK, .ref bV, .int wa, .int hi, .ref bN, .ref bX, .ref bA, .ref bB, .int (nI (env.length + 1)), .int gd, .int wr, .ref bH, .int hs, .long nu])) :: (bT, .inl (kI, 300, .inl fT)) :: (bU, .inl (kI, 300, .inl fU)) :: (bS, .inl (kI, 2000, .inl fS)) :: (b1, .inl (kI, 2000, .inl f1)) :: (b2, .inl (kI, 2000, .inl f2)) :: (bL, .inl (kZ, 2000, .inl fL)) :: (bK, .inl (kJ, 2000, .inr (.inl fK))) :: (bV, .inl (kJ, 400, .inr (.inl fV))) :: (bN, .inl (kI, 19200, .inl g)) :: (bX, .inl (kI, 1536, .inl fX)) :: (bA, .inl (kI, 64, .inl (upd fA k (nI ql.length)))) :: (bB, .inl (kI, 64, .inl fB)) :: (bH, .inl (kI, 8, .inl fH)) :: tl)))) ([.ref am, .ref bH, .int (nI a), .int (nI ql.length)] : List Value).toArray s 0 0 A) (F0 m 57 ls []) := by
              intro f_loop_57
              induction f_loop_57 with
              | zero => intro i g hf; exact absurd hf (Nat.not_lt_zero _)
              | succ f_loop_57 ih_loop_57 =>
                intro i g hf_loop_57 hii hg1 hg0 H locs hP hD hS ls hl
                refine lv_iload hx hb dM_placeFor_57 (lv_at hl 0 rfl) ?_
                refine lv_iload_n hx hb dM_placeFor_59 rfl (lv_at hl 5 rfl) ?_
                refine lv_icmp_ge (tgt := 89) hx hb dM_placeFor_60 (by decide) (fun c_4 => ?_) (fun c_4 => ?_)
                · skip
                  have e_60 : ql.length ≤ i := xi_le c_4 (by omega) (by omega)
                  refine lv_aload_n hx hb dM_placeFor_89 rfl (lv_at hl 2 rfl) ?_
                  refine lv_dup hx hb dM_placeFor_90 rfl ?_
                  refine va_get (D := (dC, dI)) (ci := 4) (v := .int (nI env.length)) (C := "ShellSumModel") (T := TM) (N := 26) hx hb htz zu_M hown hK hP 0 rfl rfl 20 (by decide) (htz _ zw_2_180) (fun _ h9 => h9) rfl dM_placeFor_91 ?_
                  refine lv_iconst (v := 1) hx hb dM_placeFor_94 (by decide) ?_
                  refine lv_iadd hx hb dM_placeFor_95 ?_
                  refine xw_topi (y := nI (env.length + 1)) (nI_add env.length 1) ?_
                  refine va_put (D := (dC, dI)) (ci := 4) (v := .int (nI (env.length + 1))) (ty := .int) (C := "ShellSumModel") (T := TM) (N := 26) hx hb htz zu_M tyM tyM_ok nmM hown hK hP hD hS 0 rfl rfl 20 (by decide) (htz _ zw_2_180) (fun _ h9 => h9) rfl (by decide +kernel) rfl rfl (Nat.le_of_ble_eq_true rfl) dM_placeFor_96 (fun H locs hP hD hS => ?_)
                  have hP : va_P (dC, dI) vwCl ((am, .inr (4, [.int cd, .ref bT, .ref bU, .int fsz, .int ln, .int pl, .int ne, .int bd, .ref bS, .ref b1, .ref b2, .ref bL, .ref bK, .ref bV, .int wa, .int hi, .ref bN, .ref bX, .ref bA, .ref bB, .int (nI (env.length + 1)), .int gd, .int wr, .ref bH, .int hs, .long nu])) :: (bT, .inl (kI, 300, .inl fT)) :: (bU, .inl (kI, 300, .inl fU)) :: (bS, .inl (kI, 2000, .inl fS)) :: (b1, .inl (kI, 2000, .inl f1)) :: (b2, .inl (kI, 2000, .inl f2)) :: (bL, .inl (kZ, 2000, .inl fL)) :: (bK, .inl (kJ, 2000, .inr (.inl fK))) :: (bV, .inl (kJ, 400, .inr (.inl fV))) :: (bN, .inl (kI, 19200, .inl g)) :: (bX, .inl (kI, 1536, .inl fX)) :: (bA, .inl (kI, 64, .inl (upd fA k (nI ql.length)))) :: (bB, .inl (kI, 64, .inl fB)) :: (bH, .inl (kI, 8, .inl fH)) :: tl) _ := hP
                  have hD : va_D A ((am, .inr (4, [.int cd, .ref bT, .ref bU, .int fsz, .int ln, .int pl, .int ne, .int bd, .ref bS, .ref b1, .ref b2, .ref bL, .ref bK, .ref bV, .int wa, .int hi, .ref bN, .ref bX, .ref bA, .ref bB, .int (nI (env.length + 1)), .int gd, .int wr, .ref bH, .int hs, .long nu])) :: (bT, .inl (kI, 300, .inl fT)) :: (bU, .inl (kI, 300, .inl fU)) :: (bS, .inl (kI, 2000, .inl fS)) :: (b1, .inl (kI, 2000, .inl f1)) :: (b2, .inl (kI, 2000, .inl f2)) :: (bL, .inl (kZ, 2000, .inl fL)) :: (bK, .inl (kJ, 2000, .inr (.inl fK))) :: (bV, .inl (kJ, 400, .inr (.inl fV))) :: (bN, .inl (kI, 19200, .inl g)) :: (bX, .inl (kI, 1536, .inl fX)) :: (bA, .inl (kI, 64, .inl (upd fA k (nI ql.length)))) :: (bB, .inl (kI, 64, .inl fB)) :: (bH, .inl (kI, 8, .inl fH)) :: tl) := hD
                  refine lv_iload hx hb dM_placeFor_99 (lv_at hl 1 rfl) ?_
                  refine W.widen (k := 0) (n := 0) (Nat.le_refl _) (Nat.le_refl _) ?_
                  exact W.iret (v := nI k) hx hb hr (fun t ht _ => ⟨_, _, rfl, Or.inr (Or.inr ⟨k, g, by omega, e_37, hfn, by omega, rfl, fun j h => hg1 j (by omega), hg0, rfl⟩), by rw [ht]; exact hP, hD, hS.F ht⟩) hS.2.2 dM_placeFor_101
                have e_60 : i < ql.length := xi_nle c_4 (by omega) (by omega)
                refine lv_aload_n hx hb dM_placeFor_63 rfl (lv_at hl 2 rfl) ?_
                refine va_get (D := (dC, dI)) (ci := 4) (v := .ref bN) (C := "ShellSumModel") (T := TM) (N := 26) hx hb htz zu_M hown hK hP 0 rfl rfl 16 (by decide) (htz _ zw_2_176) (fun _ h9 => h9) rfl dM_placeFor_64 ?_
                refine lv_sipush (v := 300) hx hb dM_placeFor_67 (by decide) ?_
                refine lv_iload hx hb dM_placeFor_70 (lv_at hl 1 rfl) ?_
                refine lv_imul hx hb dM_placeFor_72 ?_
                refine xw_topi (y := nI (300 * k)) (pk_mul 300 k) ?_
                refine lv_iload hx hb dM_placeFor_73 (lv_at hl 0 rfl) ?_
                refine lv_iadd hx hb dM_placeFor_75 ?_
                refine xw_topi (y := nI (300 * k + i)) (nI_add (300 * k) i) ?_
                refine lv_aload_n hx hb dM_placeFor_76 rfl (lv_at hl 3 rfl) ?_
                refine lv_iload_n hx hb dM_placeFor_77 rfl (lv_at hl 4 rfl) ?_
                refine lv_iload hx hb dM_placeFor_78 (lv_at hl 0 rfl) ?_
                refine lv_iadd hx hb dM_placeFor_80 ?_
                refine xw_topi (y := nI (a + i)) (nI_add a i) ?_
                refine va_iald hx hb hK hP 13 0 rfl rfl (vp_in_nI (by omega) (by omega)) dM_placeFor_81 ?_
                refine xw_topi (y := fH (a + i)) (by rw [nI_clamp (by omega)]) ?_
                refine xw_topi (y := sh_at ql i) (hrow i e_60) ?_
                refine va_iast hx hb hK hP hD hS 9 0 rfl rfl (vp_in_nI (by omega) (by omega)) dM_placeFor_82 (fun H locs hP hD hS => ?_)
                have hP : va_P (dC, dI) vwCl ((am, .inr (4, [.int cd, .ref bT, .ref bU, .int fsz, .int ln, .int pl, .int ne, .int bd, .ref bS, .ref b1, .ref b2, .ref bL, .ref bK, .ref bV, .int wa, .int hi, .ref bN, .ref bX, .ref bA, .ref bB, .int (nI env.length), .int gd, .int wr, .ref bH, .int hs, .long nu])) :: (bT, .inl (kI, 300, .inl fT)) :: (bU, .inl (kI, 300, .inl fU)) :: (bS, .inl (kI, 2000, .inl fS)) :: (b1, .inl (kI, 2000, .inl f1)) :: (b2, .inl (kI, 2000, .inl f2)) :: (bL, .inl (kZ, 2000, .inl fL)) :: (bK, .inl (kJ, 2000, .inr (.inl fK))) :: (bV, .inl (kJ, 400, .inr (.inl fV))) :: (bN, .inl (kI, 19200, .inl (upd g (nI (300 * k + i)).toNatClampNeg (sh_at ql i)))) :: (bX, .inl (kI, 1536, .inl fX)) :: (bA, .inl (kI, 64, .inl (upd fA k (nI ql.length)))) :: (bB, .inl (kI, 64, .inl fB)) :: (bH, .inl (kI, 8, .inl fH)) :: tl) _ := hP
                have hD : va_D A ((am, .inr (4, [.int cd, .ref bT, .ref bU, .int fsz, .int ln, .int pl, .int ne, .int bd, .ref bS, .ref b1, .ref b2, .ref bL, .ref bK, .ref bV, .int wa, .int hi, .ref bN, .ref bX, .ref bA, .ref bB, .int (nI env.length), .int gd, .int wr, .ref bH, .int hs, .long nu])) :: (bT, .inl (kI, 300, .inl fT)) :: (bU, .inl (kI, 300, .inl fU)) :: (bS, .inl (kI, 2000, .inl fS)) :: (b1, .inl (kI, 2000, .inl f1)) :: (b2, .inl (kI, 2000, .inl f2)) :: (bL, .inl (kZ, 2000, .inl fL)) :: (bK, .inl (kJ, 2000, .inr (.inl fK))) :: (bV, .inl (kJ, 400, .inr (.inl fV))) :: (bN, .inl (kI, 19200, .inl (upd g (nI (300 * k + i)).toNatClampNeg (sh_at ql i)))) :: (bX, .inl (kI, 1536, .inl fX)) :: (bA, .inl (kI, 64, .inl (upd fA k (nI ql.length)))) :: (bB, .inl (kI, 64, .inl fB)) :: (bH, .inl (kI, 8, .inl fH)) :: tl) := hD
                have e_f : upd g (nI (300 * k + i)).toNatClampNeg (sh_at ql i) = upd g (300 * k + i) (sh_at ql i) := by rw [nI_clamp (by omega)]
                rw [e_f] at hP hD
                have hP : va_P (dC, dI) vwCl ((am, .inr (4, [.int cd, .ref bT, .ref bU, .int fsz, .int ln, .int pl, .int ne, .int bd, .ref bS, .ref b1, .ref b2, .ref bL, .ref bK, .ref bV, .int wa, .int hi, .ref bN, .ref bX, .ref bA, .ref bB, .int (nI env.length), .int gd, .int wr, .ref bH, .int hs, .long nu])) :: (bT, .inl (kI, 300, .inl fT)) :: (bU, .inl (kI, 300, .inl fU)) :: (bS, .inl (kI, 2000, .inl fS)) :: (b1, .inl (kI, 2000, .inl f1)) :: (b2, .inl (kI, 2000, .inl f2)) :: (bL, .inl (kZ, 2000, .inl fL)) :: (bK, .inl (kJ, 2000, .inr (.inl fK))) :: (bV, .inl (kJ, 400, .inr (.inl fV))) :: (bN, .inl (kI, 19200, .inl (upd g (300 * k + i) (sh_at ql i)))) :: (bX, .inl (kI, 1536, .inl fX)) :: (bA, .inl (kI, 64, .inl (upd fA k (nI ql.length)))) :: (bB, .inl (kI, 64, .inl fB)) :: (bH, .inl (kI, 8, .inl fH)) :: tl) _ := hP
                have hD : va_D A ((am, .inr (4, [.int cd, .ref bT, .ref bU, .int fsz, .int ln, .int pl, .int ne, .int bd, .ref bS, .ref b1, .ref b2, .ref bL, .ref bK, .ref bV, .int wa, .int hi, .ref bN, .ref bX, .ref bA, .ref bB, .int (nI env.length), .int gd, .int wr, .ref bH, .int hs, .long nu])) :: (bT, .inl (kI, 300, .inl fT)) :: (bU, .inl (kI, 300, .inl fU)) :: (bS, .inl (kI, 2000, .inl fS)) :: (b1, .inl (kI, 2000, .inl f1)) :: (b2, .inl (kI, 2000, .inl f2)) :: (bL, .inl (kZ, 2000, .inl fL)) :: (bK, .inl (kJ, 2000, .inr (.inl fK))) :: (bV, .inl (kJ, 400, .inr (.inl fV))) :: (bN, .inl (kI, 19200, .inl (upd g (300 * k + i) (sh_at ql i)))) :: (bX, .inl (kI, 1536, .inl fX)) :: (bA, .inl (kI, 64, .inl (upd fA k (nI ql.length)))) :: (bB, .inl (kI, 64, .inl fB)) :: (bH, .inl (kI, 8, .inl fH)) :: tl) := hD
                refine lv_iinc (v := nI (i + 1)) (lv' := [(5, .int (nI (i + 1))), (4, .int (nI k)), (0, .ref am), (1, .ref bH), (2, .int (nI a)), (3, .int (nI ql.length))]) hx hb dM_placeFor_83 hl (k := 0) rfl (nI_1 i) (by decide) rfl (fun ls hl => ?_)
                refine lv_goto (tgt := 57) hx hb dM_placeFor_86 (by decide) ?_
                exact ih_loop_57 (i + 1) (upd g (300 * k + i) (sh_at ql i)) (by omega) (by omega) (lt_s (fun j h => (pk_un (by omega)).trans (hg1 j h)) pk_us) (fun j h => (pk_un (by omega)).trans (hg0 j h)) _ _ hP hD hS ls (lv_sub hl [0, 1, 2, 3, 4, 5] rfl)
            exact loop_57 _ 0 fN (Nat.lt_succ_self _) (Nat.zero_le _) (fun j h => absurd h (Nat.not_lt_zero _)) (fun j _ => rfl) _ _ hP hD hS ls (lv_sub hl [0, 1, 2, 3, 4, 5] rfl)
          have e_37 : k < k0 := (Nat.lt_or_ge k k0).elim id (fun q9 => absurd (show fA k ≤ 0 by rw [show k = k0 by omega, hk0A]; decide) c_3)
          refine lv_iinc (v := nI (k + 1)) (lv' := [(4, .int (nI (k + 1))), (0, .ref am), (1, .ref bH), (2, .int (nI a)), (3, .int (nI ql.length))]) hx hb dM_placeFor_40 hl (k := 0) rfl (nI_1 k) (by decide) rfl (fun ls hl => ?_)
          refine lv_goto (tgt := 30) hx hb dM_placeFor_43 (by decide) ?_
          exact ih_loop_30 (k + 1) (by omega) (by omega) _ _ hP hD hS ls (lv_sub hl [0, 1, 2, 3, 4] rfl)
      exact loop_30 _ 0 (Nat.lt_succ_self _) (Nat.zero_le _) _ _ hP hD hS ls (lv_sub hl [0, 1, 2, 3, 4] rfl)
    have e_21 : env.length = 64 := xi_eq (b := 64) c_2 (by omega) (by decide)
    refine lv_iload hx hb dM_placeFor_24 (lv_at hl 0 rfl) ?_
    refine W.widen (k := 0) (n := 0) (Nat.le_refl _) (Nat.le_refl _) ?_
    exact W.iret (v := (-1)) hx hb hr (fun t ht _ => ⟨_, _, rfl, Or.inr (Or.inl ⟨hfn, e_21, rfl, rfl⟩), by rw [ht]; exact hP, hD, hS.F ht⟩) hS.2.2 dM_placeFor_26
  refine xw_topi (y := nI k) (hf) ?_
  refine lv_istore (lv' := [(4, .int (nI k)), (0, .ref am), (1, .ref bH), (2, .int (nI a)), (3, .int (nI ql.length))]) hx hb dM_placeFor_7 hl (by decide) rfl (fun ls hl => ?_)
  refine lv_iload hx hb dM_placeFor_9 (lv_at hl 0 rfl) ?_
  refine lv_iconst (v := (-1)) hx hb dM_placeFor_11 (by decide) ?_
  refine lv_icmp_ne (tgt := 24) hx hb dM_placeFor_12 (by decide) (fun c_5 => ?_) (fun c_5 => ?_)
  · skip
    refine lv_iload hx hb dM_placeFor_24 (lv_at hl 0 rfl) ?_
    refine W.widen (k := 0) (n := 0) (Nat.le_refl _) (Nat.le_refl _) ?_
    exact W.iret (v := nI k) hx hb hr (fun t ht _ => ⟨_, _, rfl, Or.inl ⟨k, tt, hk64, hsk, hfd, rfl, rfl⟩, by rw [ht]; exact hP, hD, hS.F ht⟩) hS.2.2 dM_placeFor_26
  exact absurd c_5 (nI_nm (by omega))
