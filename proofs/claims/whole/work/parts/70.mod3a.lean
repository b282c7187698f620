set_option maxHeartbeats 4000000 in
set_option maxRecDepth 100000 in
/-- text(chars, n) -/
theorem k_M_text (l : Launch) (dC : Nat → ClassId) (dI : Nat → Nat → Nat) (kI kJ kZ : ClassId) (am bT bU bS b1 b2 bL bK bV bN bX bA bB bH : Nat) (cd fsz ln pl ne bd wa hi my gd wr hs : Int32) (nu : Int64) (fT fU fS f1 f2 fL fN fX fA fB fH : Nat → Int32) (fK fV : Nat → Int64) (tl : va_W) (sz : Nat) (tt : List Int32) (ht3 : tt.length ≤ 300) (hft : ∀ j, j < tt.length → fT j = sh_at tt j) (x0 : Int64) (n0 : Int32) : Met l yM_text wsM_text ({ frames := 2, cells := 0, slots := 0, locals := 60 }) (va_Pc [.ref am, .long x0, .int n0] (zW dC dI ([(kI, .int), (kJ, .long), (kZ, .boolean)]) ((am, .inr (4, [.int cd, .ref bT, .ref bU, .int (nI tt.length), .int ln, .int pl, .int ne, .int bd, .ref bS, .ref b1, .ref b2, .ref bL, .ref bK, .ref bV, .int wa, .int hi, .ref bN, .ref bX, .ref bA, .ref bB, .int my, .int gd, .int wr, .ref bH, .int hs, .long nu])) :: (bT, .inl (kI, 300, .inl fT)) :: (bU, .inl (kI, 300, .inl fU)) :: (bS, .inl (kI, 2000, .inl fS)) :: (b1, .inl (kI, 2000, .inl f1)) :: (b2, .inl (kI, 2000, .inl f2)) :: (bL, .inl (kZ, 2000, .inl fL)) :: (bK, .inl (kJ, 2000, .inr (.inl fK))) :: (bV, .inl (kJ, 400, .inr (.inl fV))) :: (bN, .inl (kI, 19200, .inl fN)) :: (bX, .inl (kI, 1536, .inl fX)) :: (bA, .inl (kI, 64, .inl fA)) :: (bB, .inl (kI, 64, .inl fB)) :: (bH, .inl (kI, 8, .inl fH)) :: tl) sz)) (zQ dC dI (va_A ((am, .inr (4, [.int cd, .ref bT, .ref bU, .int (nI tt.length), .int ln, .int pl, .int ne, .int bd, .ref bS, .ref b1, .ref b2, .ref bL, .ref bK, .ref bV, .int wa, .int hi, .ref bN, .ref bX, .ref bA, .ref bB, .int my, .int gd, .int wr, .ref bH, .int hs, .long nu])) :: (bT, .inl (kI, 300, .inl fT)) :: (bU, .inl (kI, 300, .inl fU)) :: (bS, .inl (kI, 2000, .inl fS)) :: (b1, .inl (kI, 2000, .inl f1)) :: (b2, .inl (kI, 2000, .inl f2)) :: (bL, .inl (kZ, 2000, .inl fL)) :: (bK, .inl (kJ, 2000, .inr (.inl fK))) :: (bV, .inl (kJ, 400, .inr (.inl fV))) :: (bN, .inl (kI, 19200, .inl fN)) :: (bX, .inl (kI, 1536, .inl fX)) :: (bA, .inl (kI, 64, .inl fA)) :: (bB, .inl (kI, 64, .inl fB)) :: (bH, .inl (kI, 8, .inl fH)) :: tl) sz) (fun v w => (¬ (sh_areT x0 n0 = true ∧ tt.length + n0.toNatClampNeg ≤ 300) ∧ v = some (.int (-1)) ∧ w = ((am, .inr (4, [.int 0, .ref bT, .ref bU, .int (nI tt.length), .int ln, .int pl, .int ne, .int bd, .ref bS, .ref b1, .ref b2, .ref bL, .ref bK, .ref bV, .int wa, .int hi, .ref bN, .ref bX, .ref bA, .ref bB, .int my, .int gd, .int wr, .ref bH, .int hs, .long nu])) :: (bT, .inl (kI, 300, .inl fT)) :: (bU, .inl (kI, 300, .inl fU)) :: (bS, .inl (kI, 2000, .inl fS)) :: (b1, .inl (kI, 2000, .inl f1)) :: (b2, .inl (kI, 2000, .inl f2)) :: (bL, .inl (kZ, 2000, .inl fL)) :: (bK, .inl (kJ, 2000, .inr (.inl fK))) :: (bV, .inl (kJ, 400, .inr (.inl fV))) :: (bN, .inl (kI, 19200, .inl fN)) :: (bX, .inl (kI, 1536, .inl fX)) :: (bA, .inl (kI, 64, .inl fA)) :: (bB, .inl (kI, 64, .inl fB)) :: (bH, .inl (kI, 8, .inl fH)) :: tl)) ∨ ((sh_areT x0 n0 = true ∧ tt.length + n0.toNatClampNeg ≤ 300) ∧ v = some (.int (nI (tt.length + n0.toNatClampNeg))) ∧ ∃ fT2, (∀ j, j < tt.length + n0.toNatClampNeg → fT2 j = sh_at (tt ++ sh_bytes x0 n0.toNatClampNeg) j) ∧ w = ((am, .inr (4, [.int 0, .ref bT, .ref bU, .int (nI (tt.length + n0.toNatClampNeg)), .int ln, .int pl, .int ne, .int bd, .ref bS, .ref b1, .ref b2, .ref bL, .ref bK, .ref bV, .int wa, .int hi, .ref bN, .ref bX, .ref bA, .ref bB, .int my, .int gd, .int wr, .ref bH, .int hs, .long nu])) :: (bT, .inl (kI, 300, .inl fT2)) :: (bU, .inl (kI, 300, .inl fU)) :: (bS, .inl (kI, 2000, .inl fS)) :: (b1, .inl (kI, 2000, .inl f1)) :: (b2, .inl (kI, 2000, .inl f2)) :: (bL, .inl (kZ, 2000, .inl fL)) :: (bK, .inl (kJ, 2000, .inr (.inl fK))) :: (bV, .inl (kJ, 400, .inr (.inl fV))) :: (bN, .inl (kI, 19200, .inl fN)) :: (bX, .inl (kI, 1536, .inl fX)) :: (bA, .inl (kI, 64, .inl fA)) :: (bB, .inl (kI, 64, .inl fB)) :: (bH, .inl (kI, 8, .inl fH)) :: tl)))) 0 0 (va_A ((am, .inr (4, [.int cd, .ref bT, .ref bU, .int (nI tt.length), .int ln, .int pl, .int ne, .int bd, .ref bS, .ref b1, .ref b2, .ref bL, .ref bK, .ref bV, .int wa, .int hi, .ref bN, .ref bX, .ref bA, .ref bB, .int my, .int gd, .int wr, .ref bH, .int hs, .long nu])) :: (bT, .inl (kI, 300, .inl fT)) :: (bU, .inl (kI, 300, .inl fU)) :: (bS, .inl (kI, 2000, .inl fS)) :: (b1, .inl (kI, 2000, .inl f1)) :: (b2, .inl (kI, 2000, .inl f2)) :: (bL, .inl (kZ, 2000, .inl fL)) :: (bK, .inl (kJ, 2000, .inr (.inl fK))) :: (bV, .inl (kJ, 400, .inr (.inl fV))) :: (bN, .inl (kI, 19200, .inl fN)) :: (bX, .inl (kI, 1536, .inl fX)) :: (bA, .inl (kI, 64, .inl fA)) :: (bB, .inl (kI, 64, .inl fB)) :: (bH, .inl (kI, 8, .inl fH)) :: tl) sz) := by
  refine Met.ofW (cc := cM_text) (maxL := 5) (ret := (some .int)) (by decide) rfl ?_
  intro p e s m args below meth c s₁ B hml hv
  obtain ⟨rfl, hsz, hP, hK, hD0, hN⟩ := hv
  subst hsz
  have hD := hD0.self (sz := s.heap.size)
  generalize hAe : va_A ((am, .inr (4, [.int cd, .ref bT, .ref bU, .int (nI tt.length), .int ln, .int pl, .int ne, .int bd, .ref bS, .ref b1, .ref b2, .ref bL, .ref bK, .ref bV, .int wa, .int hi, .ref bN, .ref bX, .ref bA, .ref bB, .int my, .int gd, .int wr, .ref bH, .int hs, .long nu])) :: (bT, .inl (kI, 300, .inl fT)) :: (bU, .inl (kI, 300, .inl fU)) :: (bS, .inl (kI, 2000, .inl fS)) :: (b1, .inl (kI, 2000, .inl f1)) :: (b2, .inl (kI, 2000, .inl f2)) :: (bL, .inl (kZ, 2000, .inl fL)) :: (bK, .inl (kJ, 2000, .inr (.inl fK))) :: (bV, .inl (kJ, 400, .inr (.inl fV))) :: (bN, .inl (kI, 19200, .inl fN)) :: (bX, .inl (kI, 1536, .inl fX)) :: (bA, .inl (kI, 64, .inl fA)) :: (bB, .inl (kI, 64, .inl fB)) :: (bH, .inl (kI, 8, .inl fH)) :: tl) s.heap.size = A at hD ⊢
  have hA : ∀ q : Nat, s.heap.size ≤ q → A q := fun q h => by rw [← hAe]; exact Or.inr h
  have hS : va_S A s.heap s.heap [] := va_S.rf
  have hx := B.exec
  have hb := B.bytes
  have hr := B.returns
  have htz : ∀ w ∈ zw, w.before _ s = true := fun w h => atoms_spec (ws := wsM_text) B.pre w (List.mem_cons_of_mem _ h)
  have hown : s.vm.findClass "ShellSumModel" = some m.cls := findClass_of_methodNamed B.named
  have hlocks := B.notSynchronized
  have hl := lv_entry ([.ref am, .long x0, .int n0]) (n := 5) (Nat.le_of_ble_eq_true rfl)
  rw [lg_entry_eq]
  generalize (lg_sl ([.ref am, .long x0, .int n0]) ++ List.replicate (5 - (lg_sl ([.ref am, .long x0, .int n0])).length) Slot.unset).toArray = ls at hl ⊢
  have hl : lv_has ls 5 [(0, .ref am), (1, .long x0), (3, .int n0)] := hl
  refine lv_aload_n hx hb dM_text_0 rfl (lv_at hl 0 rfl) ?_
  refine lv_iconst (v := 0) hx hb dM_text_1 (by decide) ?_
  refine va_put (D := (dC, dI)) (ci := 4) (v := .int 0) (ty := .int) (C := "ShellSumModel") (T := TM) (N := 26) hx hb htz zu_M tyM tyM_ok nmM hown hK hP hD hS 0 rfl rfl 0 (by decide) (htz _ zw_2_160) (fun _ h9 => h9) rfl (by decide +kernel) rfl rfl (Nat.le_of_ble_eq_true rfl) dM_text_2 (fun H locs hP hD hS => ?_)
  have hP : va_P (dC, dI) vwCl ((am, .inr (4, [.int 0, .ref bT, .ref bU, .int (nI tt.length), .int ln, .int pl, .int ne, .int bd, .ref bS, .ref b1, .ref b2, .ref bL, .ref bK, .ref bV, .int wa, .int hi, .ref bN, .ref bX, .ref bA, .ref bB, .int my, .int gd, .int wr, .ref bH, .int hs, .long nu])) :: (bT, .inl (kI, 300, .inl fT)) :: (bU, .inl (kI, 300, .inl fU)) :: (bS, .inl (kI, 2000, .inl fS)) :: (b1, .inl (kI, 2000, .inl f1)) :: (b2, .inl (kI, 2000, .inl f2)) :: (bL, .inl (kZ, 2000, .inl fL)) :: (bK, .inl (kJ, 2000, .inr (.inl fK))) :: (bV, .inl (kJ, 400, .inr (.inl fV))) :: (bN, .inl (kI, 19200, .inl fN)) :: (bX, .inl (kI, 1536, .inl fX)) :: (bA, .inl (kI, 64, .inl fA)) :: (bB, .inl (kI, 64, .inl fB)) :: (bH, .inl (kI, 8, .inl fH)) :: tl) _ := hP
  have hD : va_D A ((am, .inr (4, [.int 0, .ref bT, .ref bU, .int (nI tt.length), .int ln, .int pl, .int ne, .int bd, .ref bS, .ref b1, .ref b2, .ref bL, .ref bK, .ref bV, .int wa, .int hi, .ref bN, .ref bX, .ref bA, .ref bB, .int my, .int gd, .int wr, .ref bH, .int hs, .long nu])) :: (bT, .inl (kI, 300, .inl fT)) :: (bU, .inl (kI, 300, .inl fU)) :: (bS, .inl (kI, 2000, .inl fS)) :: (b1, .inl (kI, 2000, .inl f1)) :: (b2, .inl (kI, 2000, .inl f2)) :: (bL, .inl (kZ, 2000, .inl fL)) :: (bK, .inl (kJ, 2000, .inr (.inl fK))) :: (bV, .inl (kJ, 400, .inr (.inl fV))) :: (bN, .inl (kI, 19200, .inl fN)) :: (bX, .inl (kI, 1536, .inl fX)) :: (bA, .inl (kI, 64, .inl fA)) :: (bB, .inl (kI, 64, .inl fB)) :: (bH, .inl (kI, 8, .inl fH)) :: tl) := hD
  refine lv_lload_n hx hb dM_text_5 rfl (lv_at hl 1 rfl) ?_
  refine lv_iload_n hx hb dM_text_6 rfl (lv_at hl 2 rfl) ?_
  refine rq_call (va_runS (As := [.long x0, .int n0]) (rest := []) ⟨hx, hb, hml, hown, htz⟩ (k_M_areTexts l x0 n0) (cwS 2 htz (zg_S zw_3_8 zw_3_9 zw_1_4 zw_3_10) rfl rfl rfl (by decide +kernel) ⟨Nat.le_of_ble_eq_true rfl, Nat.le_of_ble_eq_true rfl⟩) rq_pre rfl rfl hl.1 rfl (lv_room (Nat.le_of_ble_eq_true rfl)) dM_text_7 ⟨Nat.zero_le _, Nat.zero_le _⟩) ?_
  refine W.eq (g2 := F0 m 10 ls [.int (sh_b (sh_areT x0 n0))]) rfl ?_
  refine lv_if_eq (tgt := 25) hx hb dM_text_10 (by decide) (fun c_1 => ?_) (fun c_1 => ?_)
  · skip
    have e_10 : sh_areT x0 n0 = false := sh_bf c_1
    refine lv_iconst (v := (-1)) hx hb dM_text_25 (by decide) ?_
    refine W.widen (k := 0) (n := 0) (Nat.le_refl _) (Nat.le_refl _) ?_
    exact W.iret (v := (-1)) hx hb hr (fun t ht _ => ⟨_, _, rfl, Or.inl ⟨fun h => by rw [e_10] at h; exact absurd h.1 (by decide), rfl, rfl⟩, by rw [ht]; exact hP, hD, hS.F ht⟩) hS.2.2 dM_text_26
  have e_10 : sh_areT x0 n0 = true := sh_bt c_1
  obtain ⟨n, hn, rfl⟩ := sh_areT_of e_10
  have e_n : (nI n).toNatClampNeg = n := nI_clamp (by omega)
  refine lv_aload_n hx hb dM_text_13 rfl (lv_at hl 0 rfl) ?_
  refine va_get (D := (dC, dI)) (ci := 4) (v := .int (nI tt.length)) (C := "ShellSumModel") (T := TM) (N := 26) hx hb htz zu_M hown hK hP 0 rfl rfl 3 (by decide) (htz _ zw_2_163) (fun _ h9 => h9) rfl dM_text_14 ?_
  refine lv_iload_n hx hb dM_text_17 rfl (lv_at hl 2 rfl) ?_
  refine lv_iadd hx hb dM_text_18 ?_
  refine xw_topi (y := nI (tt.length + n)) (nI_add tt.length n) ?_
  refine lv_sipush (v := 300) hx hb dM_text_19 (by decide) ?_
  refine lv_icmp_le (tgt := 27) hx hb dM_text_22 (by decide) (fun c_2 => ?_) (fun c_2 => ?_)
  · skip
    have e_22 : tt.length + n ≤ 300 := xi_le (b := 300) c_2 (by omega) (by decide)
    refine lv_iconst (v := 0) hx hb dM_text_27 (by decide) ?_
    refine xw_topi (y := nI 0) (nI_0.symm) ?_
    refine lv_istore (lv' := [(4, .int (nI 0)), (0, .ref am), (1, .long x0), (3, .int (nI n))]) hx hb dM_text_28 hl (by decide) rfl (fun ls hl => ?_)
    have loop_30 : ∀ (f_loop_30 : Nat) (k : Nat) (g : Nat → Int32), n - k < f_loop_30 → (k ≤ n) → (∀ j, j < k → g (tt.length + j) = sh_byte x0 n j) → (∀ j, j < tt.length → g j = fT j) → ∀ (H : Heap) (locs : List Loc), va_P (dC, dI) vwCl ((am, .inr (4, [.int 0, .ref bT, .ref bU, .int (nI tt.length), .int ln, .int pl, .int ne, .int bd, .ref bS, .ref b1, .ref b2, .ref bL, .ref bK, .ref bV, .int wa, .int hi, .ref bN, .ref bX, .ref bA, .ref bB, .int my, .int gd, .int wr, .ref bH, .int hs, .long nu])) :: (bT, .inl (kI, 300, .inl g)) :: (bU, .inl (kI, 300, .inl fU)) :: (bS, .inl (kI, 2000, .inl fS)) :: (b1, .inl (kI, 2000, .inl f1)) :: (b2, .inl (kI, 2000, .inl f2)) :: (bL, .inl (kZ, 2000, .inl fL)) :: (bK, .inl (kJ, 2000, .inr (.inl fK))) :: (bV, .inl (kJ, 400, .inr (.inl fV))) :: (bN, .inl (kI, 19200, .inl fN)) :: (bX, .inl (kI, 1536, .inl fX)) :: (bA, .inl (kI, 64, .inl fA)) :: (bB, .inl (kI, 64, .inl fB)) :: (bH, .inl (kI, 8, .inl fH)) :: tl) H → va_D A ((am, .inr (4, [.int 0, .ref bT, .ref bU, .int (nI tt.length), .int ln, .int pl, .int ne, .int bd, .ref bS, .ref b1, .ref b2, .ref bL, .ref bK, .ref bV, .int wa, .int hi, .ref bN, .ref bX, .ref bA, .ref bB, .int my, .int gd, .int wr, .ref bH, .int hs, .long nu])) :: (bT, .inl (kI, 300, .inl g)) :: (bU, .inl (kI, 300, .inl fU)) :: (bS, .inl (kI, 2000, .inl fS)) :: (b1, .inl (kI, 2000, .inl f1)) :: (b2, .inl (kI, 2000, .inl f2)) :: (bL, .inl (kZ, 2000, .inl fL)) :: (bK, .inl (kJ, 2000, .inr (.inl fK))) :: (bV, .inl (kJ, 400, .inr (.inl fV))) :: (bN, .inl (kI, 19200, .inl fN)) :: (bX, .inl (kI, 1536, .inl fX)) :: (bA, .inl (kI, 64, .inl fA)) :: (bB, .inl (kI, 64, .inl fB)) :: (bH, .inl (kI, 8, .inl fH)) :: tl) → va_S A s.heap H locs → ∀ ls : Array Slot, lv_has ls 5 [(4, .int (nI k)), (0, .ref am), (1, .long x0), (3, .int (nI n))] → W p l e (headSpec wsM_text ({ frames := 2, cells := 0, slots := 0, locals := 60 })).room s m ([.ref am, .long x0, .int (nI n)] : List Value).toArray below meth c H locs 0 0 (MQ below (zQ dC dI A (fun v w => (¬ (sh_areT x0 (nI n) = true ∧ tt.length + (nI n).toNatClampNeg ≤ 300) ∧ v = some (.int (-1)) ∧ w = ((am, .inr (4, [.int 0, .ref bT, .ref bU, .int (nI tt.length), .int ln, .int pl, .int ne, .int bd, .ref bS, .ref b1, .ref b2, .ref bL, .ref bK, .ref bV, .int wa, .int hi, .ref bN, .ref bX, .ref bA, .ref bB, .int my, .int gd, .int wr, .ref bH, .int hs, .long nu])) :: (bT, .inl (kI, 300, .inl fT)) :: (bU, .inl (kI, 300, .inl fU)) :: (bS, .inl (kI, 2000, .inl fS)) :: (b1, .inl (kI, 2000, .inl f1)) :: (b2, .inl (kI, 2000, .inl f2)) :: (bL, .inl (kZ, 2000, .inl fL)) :: (bK, .inl (kJ, 2000, .inr (.inl fK))) :: (bV, .inl (kJ, 400, .inr (.inl fV))) :: (bN, .inl (kI, 19200, .inl fN)) :: (bX, .inl (kI, 1536, .inl fX)) :: (bA, .inl (kI, 64, .inl fA)) :: (bB, .inl (kI, 64, .inl fB)) :: (bH, .inl (kI, 8, .inl fH)) :: tl)) ∨ ((sh_areT x0 (nI n) = true ∧ tt.length + (nI n).toNatClampNeg ≤ 300) ∧ v = some (.int (nI (tt.length + (nI n).toNatClampNeg))) ∧ ∃ fT2, (∀ j, j < tt.length + (nI n).toNatClampNeg → fT2 j = sh_at (tt ++ sh_bytes x0 (nI n).toNatClampNeg) j) ∧ w = ((am, .inr (4, [.int 0, .ref bT, .ref bU, .int (nI (tt.length + (nI n).toNatClampNeg)), .int ln, .int pl, .int ne, .int bd, .ref bS, .ref b1, .ref b2, .ref bL, .ref bK, .ref bV, .int wa, .int hi, .ref bN, .ref bX, .ref bA, .ref bB, .int my, .int gd, .int wr, .ref bH, .int hs, .long nu])) :: (bT, .inl (kI, 300, .inl fT2)) :: (bU, .inl (kI, 300, .inl fU)) :: (bS, .inl (kI, 2000, .inl fS)) :: (b1, .inl (kI, 2000, .inl f1)) :: (b2, .inl (kI, 2000, .inl f2)) :: (bL, .inl (kZ, 2000, .inl fL)) :: (bK, .inl (kJ, 2000, .inr (.inl fK))) :: (bV, .inl (kJ, 400, .inr (.inl fV))) :: (bN, .inl (kI, 19200, .inl fN)) :: (bX, .inl (kI, 1536, .inl fX)) :: (bA, .inl (kI, 64, .inl fA)) :: (bB, .inl (kI, 64, .inl fB)) :: (bH, .inl (kI, 8, .inl fH)) :: tl)))) ([.ref am, .long x0, .int (nI n)] : List Value).toArray s 0 0 A) (F0 m 30 ls []) := by
      intro f_loop_30
      induction f_loop_30 with
      | zero => intro k g hf; exact absurd hf (Nat.not_lt_zero _)
      | succ f_loop_30 ih_loop_30 =>
        intro k g hf_loop_30 hk hg hg0 H locs hP hD hS ls hl
        refine lv_iload hx hb dM_text_30 (lv_at hl 0 rfl) ?_
        refine lv_iload_n hx hb dM_text_32 rfl (lv_at hl 3 rfl) ?_
        refine lv_icmp_ge (tgt := 61) hx hb dM_text_33 (by decide) (fun c_3 => ?_) (fun c_3 => ?_)
        · skip
          have e_33 : n ≤ k := xi_le c_3 (by omega) (by omega)
          refine lv_aload_n hx hb dM_text_61 rfl (lv_at hl 1 rfl) ?_
          refine lv_dup hx hb dM_text_62 rfl ?_
          refine va_get (D := (dC, dI)) (ci := 4) (v := .int (nI tt.length)) (C := "ShellSumModel") (T := TM) (N := 26) hx hb htz zu_M hown hK hP 0 rfl rfl 3 (by decide) (htz _ zw_2_163) (fun _ h9 => h9) rfl dM_text_63 ?_
          refine lv_iload_n hx hb dM_text_66 rfl (lv_at hl 3 rfl) ?_
          refine lv_iadd hx hb dM_text_67 ?_
          refine xw_topi (y := nI (tt.length + n)) (nI_add tt.length n) ?_
          refine va_put (D := (dC, dI)) (ci := 4) (v := .int (nI (tt.length + n))) (ty := .int) (C := "ShellSumModel") (T := TM) (N := 26) hx hb htz zu_M tyM tyM_ok nmM hown hK hP hD hS 0 rfl rfl 3 (by decide) (htz _ zw_2_163) (fun _ h9 => h9) rfl (by decide +kernel) rfl rfl (Nat.le_of_ble_eq_true rfl) dM_text_68 (fun H locs hP hD hS => ?_)
          have hP : va_P (dC, dI) vwCl ((am, .inr (4, [.int 0, .ref bT, .ref bU, .int (nI (tt.length + n)), .int ln, .int pl, .int ne, .int bd, .ref bS, .ref b1, .ref b2, .ref bL, .ref bK, .ref bV, .int wa, .int hi, .ref bN, .ref bX, .ref bA, .ref bB, .int my, .int gd, .int wr, .ref bH, .int hs, .long nu])) :: (bT, .inl (kI, 300, .inl g)) :: (bU, .inl (kI, 300, .inl fU)) :: (bS, .inl (kI, 2000, .inl fS)) :: (b1, .inl (kI, 2000, .inl f1)) :: (b2, .inl (kI, 2000, .inl f2)) :: (bL, .inl (kZ, 2000, .inl fL)) :: (bK, .inl (kJ, 2000, .inr (.inl fK))) :: (bV, .inl (kJ, 400, .inr (.inl fV))) :: (bN, .inl (kI, 19200, .inl fN)) :: (bX, .inl (kI, 1536, .inl fX)) :: (bA, .inl (kI, 64, .inl fA)) :: (bB, .inl (kI, 64, .inl fB)) :: (bH, .inl (kI, 8, .inl fH)) :: tl) _ := hP
          have hD : va_D A ((am, .inr (4, [.int 0, .ref bT, .ref bU, .int (nI (tt.length + n)), .int ln, .int pl, .int ne, .int bd, .ref bS, .ref b1, .ref b2, .ref bL, .ref bK, .ref bV, .int wa, .int hi, .ref bN, .ref bX, .ref bA, .ref bB, .int my, .int gd, .int wr, .ref bH, .int hs, .long nu])) :: (bT, .inl (kI, 300, .inl g)) :: (bU, .inl (kI, 300, .inl fU)) :: (bS, .inl (kI, 2000, .inl fS)) :: (b1, .inl (kI, 2000, .inl f1)) :: (b2, .inl (kI, 2000, .inl f2)) :: (bL, .inl (kZ, 2000, .inl fL)) :: (bK, .inl (kJ, 2000, .inr (.inl fK))) :: (bV, .inl (kJ, 400, .inr (.inl fV))) :: (bN, .inl (kI, 19200, .inl fN)) :: (bX, .inl (kI, 1536, .inl fX)) :: (bA, .inl (kI, 64, .inl fA)) :: (bB, .inl (kI, 64, .inl fB)) :: (bH, .inl (kI, 8, .inl fH)) :: tl) := hD
          refine lv_aload_n hx hb dM_text_71 rfl (lv_at hl 1 rfl) ?_
          refine va_get (D := (dC, dI)) (ci := 4) (v := .int (nI (tt.length + n))) (C := "ShellSumModel") (T := TM) (N := 26) hx hb htz zu_M hown hK hP 0 rfl rfl 3 (by decide) (htz _ zw_2_163) (fun _ h9 => h9) rfl dM_text_72 ?_
          refine W.widen (k := 0) (n := 0) (Nat.le_refl _) (Nat.le_refl _) ?_
          exact W.iret (v := nI (tt.length + n)) hx hb hr (fun t ht _ => ⟨_, _, rfl, Or.inr ⟨⟨e_10, by rw [e_n]; exact e_22⟩, by rw [e_n], g, by rw [e_n]; exact fun j hj => sh_app_at hft hg0 (fun j h => hg j (by omega)) hj, by rw [e_n]⟩, by rw [ht]; exact hP, hD, hS.F ht⟩) hS.2.2 dM_text_75
        have e_33 : k < n := xi_nle c_3 (by omega) (by omega)
        refine lv_aload_n hx hb dM_text_36 rfl (lv_at hl 1 rfl) ?_
        refine va_get (D := (dC, dI)) (ci := 4) (v := .ref bT) (C := "ShellSumModel") (T := TM) (N := 26) hx hb htz zu_M hown hK hP 0 rfl rfl 1 (by decide) (htz _ zw_2_161) (fun _ h9 => h9) rfl dM_text_37 ?_
        refine lv_aload_n hx hb dM_text_40 rfl (lv_at hl 1 rfl) ?_
        refine va_get (D := (dC, dI)) (ci := 4) (v := .int (nI tt.length)) (C := "ShellSumModel") (T := TM) (N := 26) hx hb htz zu_M hown hK hP 0 rfl rfl 3 (by decide) (htz _ zw_2_163) (fun _ h9 => h9) rfl dM_text_41 ?_
        refine lv_iload hx hb dM_text_44 (lv_at hl 0 rfl) ?_
        refine lv_iadd hx hb dM_text_46 ?_
        refine xw_topi (y := nI (tt.length + k)) (nI_add tt.length k) ?_
        refine lv_lload_n hx hb dM_text_47 rfl (lv_at hl 2 rfl) ?_
        refine lv_iload_n hx hb dM_text_48 rfl (lv_at hl 3 rfl) ?_
        refine lv_iload hx hb dM_text_49 (lv_at hl 0 rfl) ?_
        refine rq_call (va_runS (As := [.long x0, .int (nI n), .int (nI k)]) (rest := [.int (nI (tt.length + k)), .ref bT]) ⟨hx, hb, hml, hown, htz⟩ (k_M_byteOf l x0 (nI n) (nI k)) (cwS 3 htz (zg_S zw_3_11 zw_3_12 zw_1_4 zw_3_13) rfl rfl rfl (by decide +kernel) ⟨Nat.le_of_ble_eq_true rfl, Nat.le_of_ble_eq_true rfl⟩) rq_pre rfl rfl hl.1 rfl (lv_room (Nat.le_of_ble_eq_true rfl)) dM_text_51 ⟨Nat.zero_le _, Nat.zero_le _⟩) ?_
        refine W.eq (g2 := F0 m 54 ls [.int (sh_bM x0 (nI n) (nI k)), .int (nI (tt.length + k)), .ref bT]) rfl ?_
        refine xw_topi (y := sh_byte x0 n k) (sh_bM_eq (by omega) hn) ?_
        refine va_iast hx hb hK hP hD hS 1 0 rfl rfl (vp_in_nI (by omega) (by omega)) dM_text_54 (fun H locs hP hD hS => ?_)
        have hP : va_P (dC, dI) vwCl ((am, .inr (4, [.int 0, .ref bT, .ref bU, .int (nI tt.length), .int ln, .int pl, .int ne, .int bd, .ref bS, .ref b1, .ref b2, .ref bL, .ref bK, .ref bV, .int wa, .int hi, .ref bN, .ref bX, .ref bA, .ref bB, .int my, .int gd, .int wr, .ref bH, .int hs, .long nu])) :: (bT, .inl (kI, 300, .inl (upd g (nI (tt.length + k)).toNatClampNeg (sh_byte x0 n k)))) :: (bU, .inl (kI, 300, .inl fU)) :: (bS, .inl (kI, 2000, .inl fS)) :: (b1, .inl (kI, 2000, .inl f1)) :: (b2, .inl (kI, 2000, .inl f2)) :: (bL, .inl (kZ, 2000, .inl fL)) :: (bK, .inl (kJ, 2000, .inr (.inl fK))) :: (bV, .inl (kJ, 400, .inr (.inl fV))) :: (bN, .inl (kI, 19200, .inl fN)) :: (bX, .inl (kI, 1536, .inl fX)) :: (bA, .inl (kI, 64, .inl fA)) :: (bB, .inl (kI, 64, .inl fB)) :: (bH, .inl (kI, 8, .inl fH)) :: tl) _ := hP
        have hD : va_D A ((am, .inr (4, [.int 0, .ref bT, .ref bU, .int (nI tt.length), .int ln, .int pl, .int ne, .int bd, .ref bS, .ref b1, .ref b2, .ref bL, .ref bK, .ref bV, .int wa, .int hi, .ref bN, .ref bX, .ref bA, .ref bB, .int my, .int gd, .int wr, .ref bH, .int hs, .long nu])) :: (bT, .inl (kI, 300, .inl (upd g (nI (tt.length + k)).toNatClampNeg (sh_byte x0 n k)))) :: (bU, .inl (kI, 300, .inl fU)) :: (bS, .inl (kI, 2000, .inl fS)) :: (b1, .inl (kI, 2000, .inl f1)) :: (b2, .inl (kI, 2000, .inl f2)) :: (bL, .inl (kZ, 2000, .inl fL)) :: (bK, .inl (kJ, 2000, .inr (.inl fK))) :: (bV, .inl (kJ, 400, .inr (.inl fV))) :: (bN, .inl (kI, 19200, .inl fN)) :: (bX, .inl (kI, 1536, .inl fX)) :: (bA, .inl (kI, 64, .inl fA)) :: (bB, .inl (kI, 64, .inl fB)) :: (bH, .inl (kI, 8, .inl fH)) :: tl) := hD
        have e_f : upd g (nI (tt.length + k)).toNatClampNeg (sh_byte x0 n k) = upd g (tt.length + k) (sh_byte x0 n k) := by rw [nI_clamp (by omega)]
        rw [e_f] at hP hD
        have hP : va_P (dC, dI) vwCl ((am, .inr (4, [.int 0, .ref bT, .ref bU, .int (nI tt.length), .int ln, .int pl, .int ne, .int bd, .ref bS, .ref b1, .ref b2, .ref bL, .ref bK, .ref bV, .int wa, .int hi, .ref bN, .ref bX, .ref bA, .ref bB, .int my, .int gd, .int wr, .ref bH, .int hs, .long nu])) :: (bT, .inl (kI, 300, .inl (upd g (tt.length + k) (sh_byte x0 n k)))) :: (bU, .inl (kI, 300, .inl fU)) :: (bS, .inl (kI, 2000, .inl fS)) :: (b1, .inl (kI, 2000, .inl f1)) :: (b2, .inl (kI, 2000, .inl f2)) :: (bL, .inl (kZ, 2000, .inl fL)) :: (bK, .inl (kJ, 2000, .inr (.inl fK))) :: (bV, .inl (kJ, 400, .inr (.inl fV))) :: (bN, .inl (kI, 19200, .inl fN)) :: (bX, .inl (kI, 1536, .inl fX)) :: (bA, .inl (kI, 64, .inl fA)) :: (bB, .inl (kI, 64, .inl fB)) :: (bH, .inl (kI, 8, .inl fH)) :: tl) _ := hP
        have hD : va_D A ((am, .inr (4, [.int 0, .ref bT, .ref bU, .int (nI tt.length), .int ln, .int pl, .int ne, .int bd, .ref bS, .ref b1, .ref b2, .ref bL, .ref bK, .ref bV, .int wa, .int hi, .ref bN, .ref bX, .ref bA, .ref bB, .int my, .int gd, .int wr, .ref bH, .int hs, .long nu])) :: (bT, .inl (kI, 300, .inl (upd g (tt.length + k) (sh_byte x0 n k)))) :: (bU, .inl (kI, 300, .inl fU)) :: (bS, .inl (kI, 2000, .inl fS)) :: (b1, .inl (kI, 2000, .inl f1)) :: (b2, .inl (kI, 2000, .inl f2)) :: (bL, .inl (kZ, 2000, .inl fL)) :: (bK, .inl (kJ, 2000, .inr (.inl fK))) :: (bV, .inl (kJ, 400, .inr (.inl fV))) :: (bN, .inl (kI, 19200, .inl fN)) :: (bX, .inl (kI, 1536, .inl fX)) :: (bA, .inl (kI, 64, .inl fA)) :: (bB, .inl (kI, 64, .inl fB)) :: (bH, .inl (kI, 8, .inl fH)) :: tl) := hD
        refine lv_iinc (v := nI (k + 1)) (lv' := [(4, .int (nI (k + 1))), (0, .ref am), (1, .long x0), (3, .int (nI n))]) hx hb dM_text_55 hl (k := 0) rfl (nI_1 k) (by decide) rfl (fun ls hl => ?_)
        refine lv_goto (tgt := 30) hx hb dM_text_58 (by decide) ?_
        exact ih_loop_30 (k + 1) (upd g (tt.length + k) (sh_byte x0 n k)) (by omega) (by omega) (lt_s (fun j h => (pk_un (by omega)).trans (hg j h)) pk_us) (fun j h => (pk_un (by omega)).trans (hg0 j h)) _ _ hP hD hS ls (lv_sub hl [0, 1, 2, 3] rfl)
    exact loop_30 _ 0 fT (Nat.lt_succ_self _) (Nat.zero_le _) (fun j h => absurd h (Nat.not_lt_zero _)) (fun j h => rfl) _ _ hP hD hS ls (lv_sub hl [0, 1, 2, 3] rfl)
  have e_22 : 300 < tt.length + n := xi_nle (b := 300) c_2 (by omega) (by decide)
  refine lv_iconst (v := (-1)) hx hb dM_text_25 (by decide) ?_
  refine W.widen (k := 0) (n := 0) (Nat.le_refl _) (Nat.le_refl _) ?_
  exact W.iret (v := (-1)) hx hb hr (fun t ht _ => ⟨_, _, rfl, Or.inl ⟨fun h => absurd h.2 (by rw [e_n]; omega), rfl, rfl⟩, by rw [ht]; exact hP, hD, hS.F ht⟩) hS.2.2 dM_text_26
set_option maxHeartbeats 4000000 in
set_option maxRecDepth 100000 in
/-- name(chars, n) -/
theorem k_M_name (l : Launch) (dC : Nat → ClassId) (dI : Nat → Nat → Nat) (kI kJ kZ : ClassId) (am bT bU bS b1 b2 bL bK bV bN bX bA bB bH : Nat) (cd fsz ln pl ne bd wa hi my gd wr hs : Int32) (nu : Int64) (fT fU fS f1 f2 fL fN fX fA fB fH : Nat → Int32) (fK fV : Nat → Int64) (tl : va_W) (sz : Nat) (x0 : Int64) (n0 : Int32) : Met l yM_name wsM_name ({ frames := 1, cells := 0, slots := 0, locals := 40 }) (va_Pc [.ref am, .long x0, .int n0] (zW dC dI ([(kI, .int), (kJ, .long), (kZ, .boolean)]) ((am, .inr (4, [.int cd, .ref bT, .ref bU, .int fsz, .int ln, .int pl, .int ne, .int bd, .ref bS, .ref b1, .ref b2, .ref bL, .ref bK, .ref bV, .int wa, .int hi, .ref bN, .ref bX, .ref bA, .ref bB, .int my, .int gd, .int wr, .ref bH, .int hs, .long nu])) :: (bT, .inl (kI, 300, .inl fT)) :: (bU, .inl (kI, 300, .inl fU)) :: (bS, .inl (kI, 2000, .inl fS)) :: (b1, .inl (kI, 2000, .inl f1)) :: (b2, .inl (kI, 2000, .inl f2)) :: (bL, .inl (kZ, 2000, .inl fL)) :: (bK, .inl (kJ, 2000, .inr (.inl fK))) :: (bV, .inl (kJ, 400, .inr (.inl fV))) :: (bN, .inl (kI, 19200, .inl fN)) :: (bX, .inl (kI, 1536, .inl fX)) :: (bA, .inl (kI, 64, .inl fA)) :: (bB, .inl (kI, 64, .inl fB)) :: (bH, .inl (kI, 8, .inl fH)) :: tl) sz)) (zQ dC dI (va_A ((am, .inr (4, [.int cd, .ref bT, .ref bU, .int fsz, .int ln, .int pl, .int ne, .int bd, .ref bS, .ref b1, .ref b2, .ref bL, .ref bK, .ref bV, .int wa, .int hi, .ref bN, .ref bX, .ref bA, .ref bB, .int my, .int gd, .int wr, .ref bH, .int hs, .long nu])) :: (bT, .inl (kI, 300, .inl fT)) :: (bU, .inl (kI, 300, .inl fU)) :: (bS, .inl (kI, 2000, .inl fS)) :: (b1, .inl (kI, 2000, .inl f1)) :: (b2, .inl (kI, 2000, .inl f2)) :: (bL, .inl (kZ, 2000, .inl fL)) :: (bK, .inl (kJ, 2000, .inr (.inl fK))) :: (bV, .inl (kJ, 400, .inr (.inl fV))) :: (bN, .inl (kI, 19200, .inl fN)) :: (bX, .inl (kI, 1536, .inl fX)) :: (bA, .inl (kI, 64, .inl fA)) :: (bB, .inl (kI, 64, .inl fB)) :: (bH, .inl (kI, 8, .inl fH)) :: tl) sz) (fun v w => (sh_areN x0 n0 = false ∧ v = some (.int 0) ∧ w = ((am, .inr (4, [.int 0, .ref bT, .ref bU, .int fsz, .int ln, .int pl, .int ne, .int bd, .ref bS, .ref b1, .ref b2, .ref bL, .ref bK, .ref bV, .int wa, .int hi, .ref bN, .ref bX, .ref bA, .ref bB, .int my, .int gd, .int wr, .ref bH, .int hs, .long nu])) :: (bT, .inl (kI, 300, .inl fT)) :: (bU, .inl (kI, 300, .inl fU)) :: (bS, .inl (kI, 2000, .inl fS)) :: (b1, .inl (kI, 2000, .inl f1)) :: (b2, .inl (kI, 2000, .inl f2)) :: (bL, .inl (kZ, 2000, .inl fL)) :: (bK, .inl (kJ, 2000, .inr (.inl fK))) :: (bV, .inl (kJ, 400, .inr (.inl fV))) :: (bN, .inl (kI, 19200, .inl fN)) :: (bX, .inl (kI, 1536, .inl fX)) :: (bA, .inl (kI, 64, .inl fA)) :: (bB, .inl (kI, 64, .inl fB)) :: (bH, .inl (kI, 8, .inl fH)) :: tl)) ∨ (sh_areN x0 n0 = true ∧ v = some (.int 1) ∧ ∃ fH2, (∀ j, j < n0.toNatClampNeg → fH2 j = sh_at (sh_bytes x0 n0.toNatClampNeg) j) ∧ w = ((am, .inr (4, [.int 0, .ref bT, .ref bU, .int fsz, .int ln, .int pl, .int ne, .int bd, .ref bS, .ref b1, .ref b2, .ref bL, .ref bK, .ref bV, .int wa, .int hi, .ref bN, .ref bX, .ref bA, .ref bB, .int my, .int gd, .int wr, .ref bH, .int n0, .long nu])) :: (bT, .inl (kI, 300, .inl fT)) :: (bU, .inl (kI, 300, .inl fU)) :: (bS, .inl (kI, 2000, .inl fS)) :: (b1, .inl (kI, 2000, .inl f1)) :: (b2, .inl (kI, 2000, .inl f2)) :: (bL, .inl (kZ, 2000, .inl fL)) :: (bK, .inl (kJ, 2000, .inr (.inl fK))) :: (bV, .inl (kJ, 400, .inr (.inl fV))) :: (bN, .inl (kI, 19200, .inl fN)) :: (bX, .inl (kI, 1536, .inl fX)) :: (bA, .inl (kI, 64, .inl fA)) :: (bB, .inl (kI, 64, .inl fB)) :: (bH, .inl (kI, 8, .inl fH2)) :: tl)))) 0 0 (va_A ((am, .inr (4, [.int cd, .ref bT, .ref bU, .int fsz, .int ln, .int pl, .int ne, .int bd, .ref bS, .ref b1, .ref b2, .ref bL, .ref bK, .ref bV, .int wa, .int hi, .ref bN, .ref bX, .ref bA, .ref bB, .int my, .int gd, .int wr, .ref bH, .int hs, .long nu])) :: (bT, .inl (kI, 300, .inl fT)) :: (bU, .inl (kI, 300, .inl fU)) :: (bS, .inl (kI, 2000, .inl fS)) :: (b1, .inl (kI, 2000, .inl f1)) :: (b2, .inl (kI, 2000, .inl f2)) :: (bL, .inl (kZ, 2000, .inl fL)) :: (bK, .inl (kJ, 2000, .inr (.inl fK))) :: (bV, .inl (kJ, 400, .inr (.inl fV))) :: (bN, .inl (kI, 19200, .inl fN)) :: (bX, .inl (kI, 1536, .inl fX)) :: (bA, .inl (kI, 64, .inl fA)) :: (bB, .inl (kI, 64, .inl fB)) :: (bH, .inl (kI, 8, .inl fH)) :: tl) sz) := by
  refine Met.ofW (cc := cM_name) (maxL := 6) (ret := (some .boolean)) (by decide) rfl ?_
  intro p e s m args below meth c s₁ B hml hv
  obtain ⟨rfl, hsz, hP, hK, hD0, hN⟩ := hv
  subst hsz
  have hD := hD0.self (sz := s.heap.size)
  generalize hAe : va_A ((am, .inr (4, [.int cd, .ref bT, .ref bU, .int fsz, .int ln, .int pl, .int ne, .int bd, .ref bS, .ref b1, .ref b2, .ref bL, .ref bK, .ref bV, .int wa, .int hi, .ref bN, .ref bX, .ref bA, .ref bB, .int my, .int gd, .int wr, .ref bH, .int hs, .long nu])) :: (bT, .inl (kI, 300, .inl fT)) :: (bU, .inl (kI, 300, .inl fU)) :: (bS, .inl (kI, 2000, .inl fS)) :: (b1, .inl (kI, 2000, .inl f1)) :: (b2, .inl (kI, 2000, .inl f2)) :: (bL, .inl (kZ, 2000, .inl fL)) :: (bK, .inl (kJ, 2000, .inr (.inl fK))) :: (bV, .inl (kJ, 400, .inr (.inl fV))) :: (bN, .inl (kI, 19200, .inl fN)) :: (bX, .inl (kI, 1536, .inl fX)) :: (bA, .inl (kI, 64, .inl fA)) :: (bB, .inl (kI, 64, .inl fB)) :: (bH, .inl (kI, 8, .inl fH)) :: tl) s.heap.size = A at hD ⊢
  have hA : ∀ q : Nat, s.heap.size ≤ q → A q := fun q h => by rw [← hAe]; exact Or.inr h
  have hS : va_S A s.heap s.heap [] := va_S.rf
  have hx := B.exec
  have hb := B.bytes
  have hr := B.returns
  have htz : ∀ w ∈ zw, w.before _ s = true := fun w h => atoms_spec (ws := wsM_name) B.pre w (List.mem_cons_of_mem _ h)
  have hown : s.vm.findClass "ShellSumModel" = some m.cls := findClass_of_methodNamed B.named
  have hlocks := B.notSynchronized
  have hl := lv_entry ([.ref am, .long x0, .int n0]) (n := 6) (Nat.le_of_ble_eq_true rfl)
  rw [lg_entry_eq]
  generalize (lg_sl ([.ref am, .long x0, .int n0]) ++ List.replicate (6 - (lg_sl ([.ref am, .long x0, .int n0])).length) Slot.unset).toArray = ls at hl ⊢
  have hl : lv_has ls 6 [(0, .ref am), (1, .long x0), (3, .int n0)] := hl
  refine lv_aload_n hx hb dM_name_0 rfl (lv_at hl 0 rfl) ?_
  refine lv_iconst (v := 0) hx hb dM_name_1 (by decide) ?_
  refine va_put (D := (dC, dI)) (ci := 4) (v := .int 0) (ty := .int) (C := "ShellSumModel") (T := TM) (N := 26) hx hb htz zu_M tyM tyM_ok nmM hown hK hP hD hS 0 rfl rfl 0 (by decide) (htz _ zw_2_160) (fun _ h9 => h9) rfl (by decide +kernel) rfl rfl (Nat.le_of_ble_eq_true rfl) dM_name_2 (fun H locs hP hD hS => ?_)
  have hP : va_P (dC, dI) vwCl ((am, .inr (4, [.int 0, .ref bT, .ref bU, .int fsz, .int ln, .int pl, .int ne, .int bd, .ref bS, .ref b1, .ref b2, .ref bL, .ref bK, .ref bV, .int wa, .int hi, .ref bN, .ref bX, .ref bA, .ref bB, .int my, .int gd, .int wr, .ref bH, .int hs, .long nu])) :: (bT, .inl (kI, 300, .inl fT)) :: (bU, .inl (kI, 300, .inl fU)) :: (bS, .inl (kI, 2000, .inl fS)) :: (b1, .inl (kI, 2000, .inl f1)) :: (b2, .inl (kI, 2000, .inl f2)) :: (bL, .inl (kZ, 2000, .inl fL)) :: (bK, .inl (kJ, 2000, .inr (.inl fK))) :: (bV, .inl (kJ, 400, .inr (.inl fV))) :: (bN, .inl (kI, 19200, .inl fN)) :: (bX, .inl (kI, 1536, .inl fX)) :: (bA, .inl (kI, 64, .inl fA)) :: (bB, .inl (kI, 64, .inl fB)) :: (bH, .inl (kI, 8, .inl fH)) :: tl) _ := hP
  have hD : va_D A ((am, .inr (4, [.int 0, .ref bT, .ref bU, .int fsz, .int ln, .int pl, .int ne, .int bd, .ref bS, .ref b1, .ref b2, .ref bL, .ref bK, .ref bV, .int wa, .int hi, .ref bN, .ref bX, .ref bA, .ref bB, .int my, .int gd, .int wr, .ref bH, .int hs, .long nu])) :: (bT, .inl (kI, 300, .inl fT)) :: (bU, .inl (kI, 300, .inl fU)) :: (bS, .inl (kI, 2000, .inl fS)) :: (b1, .inl (kI, 2000, .inl f1)) :: (b2, .inl (kI, 2000, .inl f2)) :: (bL, .inl (kZ, 2000, .inl fL)) :: (bK, .inl (kJ, 2000, .inr (.inl fK))) :: (bV, .inl (kJ, 400, .inr (.inl fV))) :: (bN, .inl (kI, 19200, .inl fN)) :: (bX, .inl (kI, 1536, .inl fX)) :: (bA, .inl (kI, 64, .inl fA)) :: (bB, .inl (kI, 64, .inl fB)) :: (bH, .inl (kI, 8, .inl fH)) :: tl) := hD
  refine lv_iload_n hx hb dM_name_5 rfl (lv_at hl 2 rfl) ?_
  refine lv_if_le (tgt := 31) hx hb dM_name_6 (by decide) (fun c_1 => ?_) (fun c_1 => ?_)
  · skip
    refine lv_iconst (v := 0) hx hb dM_name_31 (by decide) ?_
    have e_no : sh_areN x0 n0 = false := by unfold sh_areN; grind
    refine lv_istore (lv' := [(4, .int 0), (0, .ref am), (1, .long x0), (3, .int n0)]) hx hb dM_name_32 hl (by decide) rfl (fun ls hl => ?_)
    refine lv_iconst (v := 0) hx hb dM_name_34 (by decide) ?_
    refine xw_topi (y := nI 0) (nI_0.symm) ?_
    refine lv_istore (lv' := [(5, .int (nI 0)), (4, .int 0), (0, .ref am), (1, .long x0), (3, .int n0)]) hx hb dM_name_35 hl (by decide) rfl (fun ls hl => ?_)
    refine lv_iload hx hb dM_name_37 (lv_at hl 0 rfl) ?_
    refine lv_iload_n hx hb dM_name_39 rfl (lv_at hl 4 rfl) ?_
    refine lv_icmp_ge (tgt := 87) hx hb dM_name_40 (by decide) (fun c_2 => ?_) (fun c_2 => ?_)
    · skip
      refine lv_iconst (v := 0) hx hb dM_name_87 (by decide) ?_
      refine xw_topi (y := nI 0) (nI_0.symm) ?_
      refine lv_istore (lv' := [(5, .int (nI 0)), (4, .int 0), (0, .ref am), (1, .long x0), (3, .int n0)]) hx hb dM_name_88 hl (by decide) rfl (fun ls hl => ?_)
      refine lv_iload hx hb dM_name_90 (lv_at hl 0 rfl) ?_
      refine lv_iload_n hx hb dM_name_92 rfl (lv_at hl 4 rfl) ?_
      refine lv_icmp_ge (tgt := 121) hx hb dM_name_93 (by decide) (fun c_3 => ?_) (fun c_3 => ?_)
      · skip
        refine lv_aload_n hx hb dM_name_121 rfl (lv_at hl 2 rfl) ?_
        refine lv_iload hx hb dM_name_122 (lv_at hl 1 rfl) ?_
        refine lv_if_eq (tgt := 131) hx hb dM_name_124 (by decide) (fun c_4 => ?_) (fun c_4 => ?_)
        · skip
          refine lv_aload_n hx hb dM_name_131 rfl (lv_at hl 2 rfl) ?_
          refine va_get (D := (dC, dI)) (ci := 4) (v := .int hs) (C := "ShellSumModel") (T := TM) (N := 26) hx hb htz zu_M hown hK hP 0 rfl rfl 24 (by decide) (htz _ zw_2_184) (fun _ h9 => h9) rfl dM_name_132 ?_
          refine va_put (D := (dC, dI)) (ci := 4) (v := .int hs) (ty := .int) (C := "ShellSumModel") (T := TM) (N := 26) hx hb htz zu_M tyM tyM_ok nmM hown hK hP hD hS 0 rfl rfl 24 (by decide) (htz _ zw_2_184) (fun _ h9 => h9) rfl (by decide +kernel) rfl rfl (Nat.le_of_ble_eq_true rfl) dM_name_135 (fun H locs hP hD hS => ?_)
          have hP : va_P (dC, dI) vwCl ((am, .inr (4, [.int 0, .ref bT, .ref bU, .int fsz, .int ln, .int pl, .int ne, .int bd, .ref bS, .ref b1, .ref b2, .ref bL, .ref bK, .ref bV, .int wa, .int hi, .ref bN, .ref bX, .ref bA, .ref bB, .int my, .int gd, .int wr, .ref bH, .int hs, .long nu])) :: (bT, .inl (kI, 300, .inl fT)) :: (bU, .inl (kI, 300, .inl fU)) :: (bS, .inl (kI, 2000, .inl fS)) :: (b1, .inl (kI, 2000, .inl f1)) :: (b2, .inl (kI, 2000, .inl f2)) :: (bL, .inl (kZ, 2000, .inl fL)) :: (bK, .inl (kJ, 2000, .inr (.inl fK))) :: (bV, .inl (kJ, 400, .inr (.inl fV))) :: (bN, .inl (kI, 19200, .inl fN)) :: (bX, .inl (kI, 1536, .inl fX)) :: (bA, .inl (kI, 64, .inl fA)) :: (bB, .inl (kI, 64, .inl fB)) :: (bH, .inl (kI, 8, .inl fH)) :: tl) _ := hP
          have hD : va_D A ((am, .inr (4, [.int 0, .ref bT, .ref bU, .int fsz, .int ln, .int pl, .int ne, .int bd, .ref bS, .ref b1, .ref b2, .ref bL, .ref bK, .ref bV, .int wa, .int hi, .ref bN, .ref bX, .ref bA, .ref bB, .int my, .int gd, .int wr, .ref bH, .int hs, .long nu])) :: (bT, .inl (kI, 300, .inl fT)) :: (bU, .inl (kI, 300, .inl fU)) :: (bS, .inl (kI, 2000, .inl fS)) :: (b1, .inl (kI, 2000, .inl f1)) :: (b2, .inl (kI, 2000, .inl f2)) :: (bL, .inl (kZ, 2000, .inl fL)) :: (bK, .inl (kJ, 2000, .inr (.inl fK))) :: (bV, .inl (kJ, 400, .inr (.inl fV))) :: (bN, .inl (kI, 19200, .inl fN)) :: (bX, .inl (kI, 1536, .inl fX)) :: (bA, .inl (kI, 64, .inl fA)) :: (bB, .inl (kI, 64, .inl fB)) :: (bH, .inl (kI, 8, .inl fH)) :: tl) := hD
          refine lv_iload hx hb dM_name_138 (lv_at hl 1 rfl) ?_
          refine W.widen (k := 0) (n := 0) (Nat.le_refl _) (Nat.le_refl _) ?_
          exact W.zret (v := 0) hx hb hr (rfl) (fun t ht _ => ⟨_, _, rfl, Or.inl ⟨e_no, rfl, rfl⟩, by rw [ht]; exact hP, hD, hS.F ht⟩) hS.2.2 dM_name_140
        exact absurd rfl c_4
      refine lv_iload hx hb dM_name_96 (lv_at hl 1 rfl) ?_
      refine lv_if_eq (tgt := 121) hx hb dM_name_98 (by decide) (fun c_5 => ?_) (fun c_5 => ?_)
      · skip
        refine lv_aload_n hx hb dM_name_121 rfl (lv_at hl 2 rfl) ?_
        refine lv_iload hx hb dM_name_122 (lv_at hl 1 rfl) ?_
        refine lv_if_eq (tgt := 131) hx hb dM_name_124 (by decide) (fun c_6 => ?_) (fun c_6 => ?_)
        · skip
          refine lv_aload_n hx hb dM_name_131 rfl (lv_at hl 2 rfl) ?_
          refine va_get (D := (dC, dI)) (ci := 4) (v := .int hs) (C := "ShellSumModel") (T := TM) (N := 26) hx hb htz zu_M hown hK hP 0 rfl rfl 24 (by decide) (htz _ zw_2_184) (fun _ h9 => h9) rfl dM_name_132 ?_
          refine va_put (D := (dC, dI)) (ci := 4) (v := .int hs) (ty := .int) (C := "ShellSumModel") (T := TM) (N := 26) hx hb htz zu_M tyM tyM_ok nmM hown hK hP hD hS 0 rfl rfl 24 (by decide) (htz _ zw_2_184) (fun _ h9 => h9) rfl (by decide +kernel) rfl rfl (Nat.le_of_ble_eq_true rfl) dM_name_135 (fun H locs hP hD hS => ?_)
          have hP : va_P (dC, dI) vwCl ((am, .inr (4, [.int 0, .ref bT, .ref bU, .int fsz, .int ln, .int pl, .int ne, .int bd, .ref bS, .ref b1, .ref b2, .ref bL, .ref bK, .ref bV, .int wa, .int hi, .ref bN, .ref bX, .ref bA, .ref bB, .int my, .int gd, .int wr, .ref bH, .int hs, .long nu])) :: (bT, .inl (kI, 300, .inl fT)) :: (bU, .inl (kI, 300, .inl fU)) :: (bS, .inl (kI, 2000, .inl fS)) :: (b1, .inl (kI, 2000, .inl f1)) :: (b2, .inl (kI, 2000, .inl f2)) :: (bL, .inl (kZ, 2000, .inl fL)) :: (bK, .inl (kJ, 2000, .inr (.inl fK))) :: (bV, .inl (kJ, 400, .inr (.inl fV))) :: (bN, .inl (kI, 19200, .inl fN)) :: (bX, .inl (kI, 1536, .inl fX)) :: (bA, .inl (kI, 64, .inl fA)) :: (bB, .inl (kI, 64, .inl fB)) :: (bH, .inl (kI, 8, .inl fH)) :: tl) _ := hP
          have hD : va_D A ((am, .inr (4, [.int 0, .ref bT, .ref bU, .int fsz, .int ln, .int pl, .int ne, .int bd, .ref bS, .ref b1, .ref b2, .ref bL, .ref bK, .ref bV, .int wa, .int hi, .ref bN, .ref bX, .ref bA, .ref bB, .int my, .int gd, .int wr, .ref bH, .int hs, .long nu])) :: (bT, .inl (kI, 300, .inl fT)) :: (bU, .inl (kI, 300, .inl fU)) :: (bS, .inl (kI, 2000, .inl fS)) :: (b1, .inl (kI, 2000, .inl f1)) :: (b2, .inl (kI, 2000, .inl f2)) :: (bL, .inl (kZ, 2000, .inl fL)) :: (bK, .inl (kJ, 2000, .inr (.inl fK))) :: (bV, .inl (kJ, 400, .inr (.inl fV))) :: (bN, .inl (kI, 19200, .inl fN)) :: (bX, .inl (kI, 1536, .inl fX)) :: (bA, .inl (kI, 64, .inl fA)) :: (bB, .inl (kI, 64, .inl fB)) :: (bH, .inl (kI, 8, .inl fH)) :: tl) := hD
          refine lv_iload hx hb dM_name_138 (lv_at hl 1 rfl) ?_
          refine W.widen (k := 0) (n := 0) (Nat.le_refl _) (Nat.le_refl _) ?_
          exact W.zret (v := 0) hx hb hr (rfl) (fun t ht _ => ⟨_, _, rfl, Or.inl ⟨e_no, rfl, rfl⟩, by rw [ht]; exact hP, hD, hS.F ht⟩) hS.2.2 dM_name_140
        exact absurd rfl c_6
      exact absurd rfl c_5
    refine lv_iload hx hb dM_name_43 (lv_at hl 1 rfl) ?_
    refine lv_if_eq (tgt := 87) hx hb dM_name_45 (by decide) (fun c_7 => ?_) (fun c_7 => ?_)
    · skip
      refine lv_iconst (v := 0) hx hb dM_name_87 (by decide) ?_
      refine xw_topi (y := nI 0) (nI_0.symm) ?_
      refine lv_istore (lv' := [(5, .int (nI 0)), (4, .int 0), (0, .ref am), (1, .long x0), (3, .int n0)]) hx hb dM_name_88 hl (by decide) rfl (fun ls hl => ?_)
      refine lv_iload hx hb dM_name_90 (lv_at hl 0 rfl) ?_
      refine lv_iload_n hx hb dM_name_92 rfl (lv_at hl 4 rfl) ?_
      refine lv_icmp_ge (tgt := 121) hx hb dM_name_93 (by decide) (fun c_8 => ?_) (fun c_8 => ?_)
      · skip
        refine lv_aload_n hx hb dM_name_121 rfl (lv_at hl 2 rfl) ?_
        refine lv_iload hx hb dM_name_122 (lv_at hl 1 rfl) ?_
        refine lv_if_eq (tgt := 131) hx hb dM_name_124 (by decide) (fun c_9 => ?_) (fun c_9 => ?_)
        · skip
          refine lv_aload_n hx hb dM_name_131 rfl (lv_at hl 2 rfl) ?_
          refine va_get (D := (dC, dI)) (ci := 4) (v := .int hs) (C := "ShellSumModel") (T := TM) (N := 26) hx hb htz zu_M hown hK hP 0 rfl rfl 24 (by decide) (htz _ zw_2_184) (fun _ h9 => h9) rfl dM_name_132 ?_
          refine va_put (D := (dC, dI)) (ci := 4) (v := .int hs) (ty := .int) (C := "ShellSumModel") (T := TM) (N := 26) hx hb htz zu_M tyM tyM_ok nmM hown hK hP hD hS 0 rfl rfl 24 (by decide) (htz _ zw_2_184) (fun _ h9 => h9) rfl (by decide +kernel) rfl rfl (Nat.le_of_ble_eq_true rfl) dM_name_135 (fun H locs hP hD hS => ?_)
          have hP : va_P (dC, dI) vwCl ((am, .inr (4, [.int 0, .ref bT, .ref bU, .int fsz, .int ln, .int pl, .int ne, .int bd, .ref bS, .ref b1, .ref b2, .ref bL, .ref bK, .ref bV, .int wa, .int hi, .ref bN, .ref bX, .ref bA, .ref bB, .int my, .int gd, .int wr, .ref bH, .int hs, .long nu])) :: (bT, .inl (kI, 300, .inl fT)) :: (bU, .inl (kI, 300, .inl fU)) :: (bS, .inl (kI, 2000, .inl fS)) :: (b1, .inl (kI, 2000, .inl f1)) :: (b2, .inl (kI, 2000, .inl f2)) :: (bL, .inl (kZ, 2000, .inl fL)) :: (bK, .inl (kJ, 2000, .inr (.inl fK))) :: (bV, .inl (kJ, 400, .inr (.inl fV))) :: (bN, .inl (kI, 19200, .inl fN)) :: (bX, .inl (kI, 1536, .inl fX)) :: (bA, .inl (kI, 64, .inl fA)) :: (bB, .inl (kI, 64, .inl fB)) :: (bH, .inl (kI, 8, .inl fH)) :: tl) _ := hP
          have hD : va_D A ((am, .inr (4, [.int 0, .ref bT, .ref bU, .int fsz, .int ln, .int pl, .int ne, .int bd, .ref bS, .ref b1, .ref b2, .ref bL, .ref bK, .ref bV, .int wa, .int hi, .ref bN, .ref bX, .ref bA, .ref bB, .int my, .int gd, .int wr, .ref bH, .int hs, .long nu])) :: (bT, .inl (kI, 300, .inl fT)) :: (bU, .inl (kI, 300, .inl fU)) :: (bS, .inl (kI, 2000, .inl fS)) :: (b1, .inl (kI, 2000, .inl f1)) :: (b2, .inl (kI, 2000, .inl f2)) :: (bL, .inl (kZ, 2000, .inl fL)) :: (bK, .inl (kJ, 2000, .inr (.inl fK))) :: (bV, .inl (kJ, 400, .inr (.inl fV))) :: (bN, .inl (kI, 19200, .inl fN)) :: (bX, .inl (kI, 1536, .inl fX)) :: (bA, .inl (kI, 64, .inl fA)) :: (bB, .inl (kI, 64, .inl fB)) :: (bH, .inl (kI, 8, .inl fH)) :: tl) := hD
          refine lv_iload hx hb dM_name_138 (lv_at hl 1 rfl) ?_
          refine W.widen (k := 0) (n := 0) (Nat.le_refl _) (Nat.le_refl _) ?_
          exact W.zret (v := 0) hx hb hr (rfl) (fun t ht _ => ⟨_, _, rfl, Or.inl ⟨e_no, rfl, rfl⟩, by rw [ht]; exact hP, hD, hS.F ht⟩) hS.2.2 dM_name_140
        exact absurd rfl c_9
      refine lv_iload hx hb dM_name_96 (lv_at hl 1 rfl) ?_
      refine lv_if_eq (tgt := 121) hx hb dM_name_98 (by decide) (fun c_10 => ?_) (fun c_10 => ?_)
      · skip
        refine lv_aload_n hx hb dM_name_121 rfl (lv_at hl 2 rfl) ?_
        refine lv_iload hx hb dM_name_122 (lv_at hl 1 rfl) ?_
        refine lv_if_eq (tgt := 131) hx hb dM_name_124 (by decide) (fun c_11 => ?_) (fun c_11 => ?_)
        · skip
          refine lv_aload_n hx hb dM_name_131 rfl (lv_at hl 2 rfl) ?_
          refine va_get (D := (dC, dI)) (ci := 4) (v := .int hs) (C := "ShellSumModel") (T := TM) (N := 26) hx hb htz zu_M hown hK hP 0 rfl rfl 24 (by decide) (htz _ zw_2_184) (fun _ h9 => h9) rfl dM_name_132 ?_
          refine va_put (D := (dC, dI)) (ci := 4) (v := .int hs) (ty := .int) (C := "ShellSumModel") (T := TM) (N := 26) hx hb htz zu_M tyM tyM_ok nmM hown hK hP hD hS 0 rfl rfl 24 (by decide) (htz _ zw_2_184) (fun _ h9 => h9) rfl (by decide +kernel) rfl rfl (Nat.le_of_ble_eq_true rfl) dM_name_135 (fun H locs hP hD hS => ?_)
          have hP : va_P (dC, dI) vwCl ((am, .inr (4, [.int 0, .ref bT, .ref bU, .int fsz, .int ln, .int pl, .int ne, .int bd, .ref bS, .ref b1, .ref b2, .ref bL, .ref bK, .ref bV, .int wa, .int hi, .ref bN, .ref bX, .ref bA, .ref bB, .int my, .int gd, .int wr, .ref bH, .int hs, .long nu])) :: (bT, .inl (kI, 300, .inl fT)) :: (bU, .inl (kI, 300, .inl fU)) :: (bS, .inl (kI, 2000, .inl fS)) :: (b1, .inl (kI, 2000, .inl f1)) :: (b2, .inl (kI, 2000, .inl f2)) :: (bL, .inl (kZ, 2000, .inl fL)) :: (bK, .inl (kJ, 2000, .inr (.inl fK))) :: (bV, .inl (kJ, 400, .inr (.inl fV))) :: (bN, .inl (kI, 19200, .inl fN)) :: (bX, .inl (kI, 1536, .inl fX)) :: (bA, .inl (kI, 64, .inl fA)) :: (bB, .inl (kI, 64, .inl fB)) :: (bH, .inl (kI, 8, .inl fH)) :: tl) _ := hP
          have hD : va_D A ((am, .inr (4, [.int 0, .ref bT, .ref bU, .int fsz, .int ln, .int pl, .int ne, .int bd, .ref bS, .ref b1, .ref b2, .ref bL, .ref bK, .ref bV, .int wa, .int hi, .ref bN, .ref bX, .ref bA, .ref bB, .int my, .int gd, .int wr, .ref bH, .int hs, .long nu])) :: (bT, .inl (kI, 300, .inl fT)) :: (bU, .inl (kI, 300, .inl fU)) :: (bS, .inl (kI, 2000, .inl fS)) :: (b1, .inl (kI, 2000, .inl f1)) :: (b2, .inl (kI, 2000, .inl f2)) :: (bL, .inl (kZ, 2000, .inl fL)) :: (bK, .inl (kJ, 2000, .inr (.inl fK))) :: (bV, .inl (kJ, 400, .inr (.inl fV))) :: (bN, .inl (kI, 19200, .inl fN)) :: (bX, .inl (kI, 1536, .inl fX)) :: (bA, .inl (kI, 64, .inl fA)) :: (bB, .inl (kI, 64, .inl fB)) :: (bH, .inl (kI, 8, .inl fH)) :: tl) := hD
          refine lv_iload hx hb dM_name_138 (lv_at hl 1 rfl) ?_
          refine W.widen (k := 0) (n := 0) (Nat.le_refl _) (Nat.le_refl _) ?_
          exact W.zret (v := 0) hx hb hr (rfl) (fun t ht _ => ⟨_, _, rfl, Or.inl ⟨e_no, rfl, rfl⟩, by rw [ht]; exact hP, hD, hS.F ht⟩) hS.2.2 dM_name_140
        exact absurd rfl c_11
      exact absurd rfl c_10
    exact absurd rfl c_7
  refine lv_iload_n hx hb dM_name_9 rfl (lv_at hl 2 rfl) ?_
  refine lv_bipush (v := 9) hx hb dM_name_10 (by decide) ?_
  refine lv_icmp_ge (tgt := 31) hx hb dM_name_12 (by decide) (fun c_12 => ?_) (fun c_12 => ?_)
  · skip
    refine lv_iconst (v := 0) hx hb dM_name_31 (by decide) ?_
    have e_no : sh_areN x0 n0 = false := by unfold sh_areN; grind
    refine lv_istore (lv' := [(4, .int 0), (0, .ref am), (1, .long x0), (3, .int n0)]) hx hb dM_name_32 hl (by decide) rfl (fun ls hl => ?_)
    refine lv_iconst (v := 0) hx hb dM_name_34 (by decide) ?_
    refine xw_topi (y := nI 0) (nI_0.symm) ?_
    refine lv_istore (lv' := [(5, .int (nI 0)), (4, .int 0), (0, .ref am), (1, .long x0), (3, .int n0)]) hx hb dM_name_35 hl (by decide) rfl (fun ls hl => ?_)
    refine lv_iload hx hb dM_name_37 (lv_at hl 0 rfl) ?_
    refine lv_iload_n hx hb dM_name_39 rfl (lv_at hl 4 rfl) ?_
    refine lv_icmp_ge (tgt := 87) hx hb dM_name_40 (by decide) (fun c_13 => ?_) (fun c_13 => ?_)
    · skip
      refine lv_iconst (v := 0) hx hb dM_name_87 (by decide) ?_
      refine xw_topi (y := nI 0) (nI_0.symm) ?_
      refine lv_istore (lv' := [(5, .int (nI 0)), (4, .int 0), (0, .ref am), (1, .long x0), (3, .int n0)]) hx hb dM_name_88 hl (by decide) rfl (fun ls hl => ?_)
      refine lv_iload hx hb dM_name_90 (lv_at hl 0 rfl) ?_
      refine lv_iload_n hx hb dM_name_92 rfl (lv_at hl 4 rfl) ?_
      refine lv_icmp_ge (tgt := 121) hx hb dM_name_93 (by decide) (fun c_14 => ?_) (fun c_14 => ?_)
      · skip
        refine lv_aload_n hx hb dM_name_121 rfl (lv_at hl 2 rfl) ?_
        refine lv_iload hx hb dM_name_122 (lv_at hl 1 rfl) ?_
        refine lv_if_eq (tgt := 131) hx hb dM_name_124 (by decide) (fun c_15 => ?_) (fun c_15 => ?_)
        · skip
          refine lv_aload_n hx hb dM_name_131 rfl (lv_at hl 2 rfl) ?_
          refine va_get (D := (dC, dI)) (ci := 4) (v := .int hs) (C := "ShellSumModel") (T := TM) (N := 26) hx hb htz zu_M hown hK hP 0 rfl rfl 24 (by decide) (htz _ zw_2_184) (fun _ h9 => h9) rfl dM_name_132 ?_
          refine va_put (D := (dC, dI)) (ci := 4) (v := .int hs) (ty := .int) (C := "ShellSumModel") (T := TM) (N := 26) hx hb htz zu_M tyM tyM_ok nmM hown hK hP hD hS 0 rfl rfl 24 (by decide) (htz _ zw_2_184) (fun _ h9 => h9) rfl (by decide +kernel) rfl rfl (Nat.le_of_ble_eq_true rfl) dM_name_135 (fun H locs hP hD hS => ?_)
          have hP : va_P (dC, dI) vwCl ((am, .inr (4, [.int 0, .ref bT, .ref bU, .int fsz, .int ln, .int pl, .int ne, .int bd, .ref bS, .ref b1, .ref b2, .ref bL, .ref bK, .ref bV, .int wa, .int hi, .ref bN, .ref bX, .ref bA, .ref bB, .int my, .int gd, .int wr, .ref bH, .int hs, .long nu])) :: (bT, .inl (kI, 300, .inl fT)) :: (bU, .inl (kI, 300, .inl fU)) :: (bS, .inl (kI, 2000, .inl fS)) :: (b1, .inl (kI, 2000, .inl f1)) :: (b2, .inl (kI, 2000, .inl f2)) :: (bL, .inl (kZ, 2000, .inl fL)) :: (bK, .inl (kJ, 2000, .inr (.inl fK))) :: (bV, .inl (kJ, 400, .inr (.inl fV))) :: (bN, .inl (kI, 19200, .inl fN)) :: (bX, .inl (kI, 1536, .inl fX)) :: (bA, .inl (kI, 64, .inl fA)) :: (bB, .inl (kI, 64, .inl fB)) :: (bH, .inl (kI, 8, .inl fH)) :: tl) _ := hP
          have hD : va_D A ((am, .inr (4, [.int 0, .ref bT, .ref bU, .int fsz, .int ln, .int pl, .int ne, .int bd, .ref bS, .ref b1, .ref b2, .ref bL, .ref bK, .ref bV, .int wa, .int hi, .ref bN, .ref bX, .ref bA, .ref bB, .int my, .int gd, .int wr, .ref bH, .int hs, .long nu])) :: (bT, .inl (kI, 300, .inl fT)) :: (bU, .inl (kI, 300, .inl fU)) :: (bS, .inl (kI, 2000, .inl fS)) :: (b1, .inl (kI, 2000, .inl f1)) :: (b2, .inl (kI, 2000, .inl f2)) :: (bL, .inl (kZ, 2000, .inl fL)) :: (bK, .inl (kJ, 2000, .inr (.inl fK))) :: (bV, .inl (kJ, 400, .inr (.inl fV))) :: (bN, .inl (kI, 19200, .inl fN)) :: (bX, .inl (kI, 1536, .inl fX)) :: (bA, .inl (kI, 64, .inl fA)) :: (bB, .inl (kI, 64, .inl fB)) :: (bH, .inl (kI, 8, .inl fH)) :: tl) := hD
          refine lv_iload hx hb dM_name_138 (lv_at hl 1 rfl) ?_
          refine W.widen (k := 0) (n := 0) (Nat.le_refl _) (Nat.le_refl _) ?_
          exact W.zret (v := 0) hx hb hr (rfl) (fun t ht _ => ⟨_, _, rfl, Or.inl ⟨e_no, rfl, rfl⟩, by rw [ht]; exact hP, hD, hS.F ht⟩) hS.2.2 dM_name_140
        exact absurd rfl c_15
      refine lv_iload hx hb dM_name_96 (lv_at hl 1 rfl) ?_
      refine lv_if_eq (tgt := 121) hx hb dM_name_98 (by decide) (fun c_16 => ?_) (fun c_16 => ?_)
      · skip
        refine lv_aload_n hx hb dM_name_121 rfl (lv_at hl 2 rfl) ?_
        refine lv_iload hx hb dM_name_122 (lv_at hl 1 rfl) ?_
        refine lv_if_eq (tgt := 131) hx hb dM_name_124 (by decide) (fun c_17 => ?_) (fun c_17 => ?_)
        · skip
          refine lv_aload_n hx hb dM_name_131 rfl (lv_at hl 2 rfl) ?_
          refine va_get (D := (dC, dI)) (ci := 4) (v := .int hs) (C := "ShellSumModel") (T := TM) (N := 26) hx hb htz zu_M hown hK hP 0 rfl rfl 24 (by decide) (htz _ zw_2_184) (fun _ h9 => h9) rfl dM_name_132 ?_
          refine va_put (D := (dC, dI)) (ci := 4) (v := .int hs) (ty := .int) (C := "ShellSumModel") (T := TM) (N := 26) hx hb htz zu_M tyM tyM_ok nmM hown hK hP hD hS 0 rfl rfl 24 (by decide) (htz _ zw_2_184) (fun _ h9 => h9) rfl (by decide +kernel) rfl rfl (Nat.le_of_ble_eq_true rfl) dM_name_135 (fun H locs hP hD hS => ?_)
          have hP : va_P (dC, dI) vwCl ((am, .inr (4, [.int 0, .ref bT, .ref bU, .int fsz, .int ln, .int pl, .int ne, .int bd, .ref bS, .ref b1, .ref b2, .ref bL, .ref bK, .ref bV, .int wa, .int hi, .ref bN, .ref bX, .ref bA, .ref bB, .int my, .int gd, .int wr, .ref bH, .int hs, .long nu])) :: (bT, .inl (kI, 300, .inl fT)) :: (bU, .inl (kI, 300, .inl fU)) :: (bS, .inl (kI, 2000, .inl fS)) :: (b1, .inl (kI, 2000, .inl f1)) :: (b2, .inl (kI, 2000, .inl f2)) :: (bL, .inl (kZ, 2000, .inl fL)) :: (bK, .inl (kJ, 2000, .inr (.inl fK))) :: (bV, .inl (kJ, 400, .inr (.inl fV))) :: (bN, .inl (kI, 19200, .inl fN)) :: (bX, .inl (kI, 1536, .inl fX)) :: (bA, .inl (kI, 64, .inl fA)) :: (bB, .inl (kI, 64, .inl fB)) :: (bH, .inl (kI, 8, .inl fH)) :: tl) _ := hP
          have hD : va_D A ((am, .inr (4, [.int 0, .ref bT, .ref bU, .int fsz, .int ln, .int pl, .int ne, .int bd, .ref bS, .ref b1, .ref b2, .ref bL, .ref bK, .ref bV, .int wa, .int hi, .ref bN, .ref bX, .ref bA, .ref bB, .int my, .int gd, .int wr, .ref bH, .int hs, .long nu])) :: (bT, .inl (kI, 300, .inl fT)) :: (bU, .inl (kI, 300, .inl fU)) :: (bS, .inl (kI, 2000, .inl fS)) :: (b1, .inl (kI, 2000, .inl f1)) :: (b2, .inl (kI, 2000, .inl f2)) :: (bL, .inl (kZ, 2000, .inl fL)) :: (bK, .inl (kJ, 2000, .inr (.inl fK))) :: (bV, .inl (kJ, 400, .inr (.inl fV))) :: (bN, .inl (kI, 19200, .inl fN)) :: (bX, .inl (kI, 1536, .inl fX)) :: (bA, .inl (kI, 64, .inl fA)) :: (bB, .inl (kI, 64, .inl fB)) :: (bH, .inl (kI, 8, .inl fH)) :: tl) := hD
          refine lv_iload hx hb dM_name_138 (lv_at hl 1 rfl) ?_
          refine W.widen (k := 0) (n := 0) (Nat.le_refl _) (Nat.le_refl _) ?_
          exact W.zret (v := 0) hx hb hr (rfl) (fun t ht _ => ⟨_, _, rfl, Or.inl ⟨e_no, rfl, rfl⟩, by rw [ht]; exact hP, hD, hS.F ht⟩) hS.2.2 dM_name_140
        exact absurd rfl c_17
      exact absurd rfl c_16
    refine lv_iload hx hb dM_name_43 (lv_at hl 1 rfl) ?_
    refine lv_if_eq (tgt := 87) hx hb dM_name_45 (by decide) (fun c_18 => ?_) (fun c_18 => ?_)
    · skip
      refine lv_iconst (v := 0) hx hb dM_name_87 (by decide) ?_
      refine xw_topi (y := nI 0) (nI_0.symm) ?_
      refine lv_istore (lv' := [(5, .int (nI 0)), (4, .int 0), (0, .ref am), (1, .long x0), (3, .int n0)]) hx hb dM_name_88 hl (by decide) rfl (fun ls hl => ?_)
      refine lv_iload hx hb dM_name_90 (lv_at hl 0 rfl) ?_
      refine lv_iload_n hx hb dM_name_92 rfl (lv_at hl 4 rfl) ?_
      refine lv_icmp_ge (tgt := 121) hx hb dM_name_93 (by decide) (fun c_19 => ?_) (fun c_19 => ?_)
      · skip
        refine lv_aload_n hx hb dM_name_121 rfl (lv_at hl 2 rfl) ?_
        refine lv_iload hx hb dM_name_122 (lv_at hl 1 rfl) ?_
        refine lv_if_eq (tgt := 131) hx hb dM_name_124 (by decide) (fun c_20 => ?_) (fun c_20 => ?_)
        · skip
          refine lv_aload_n hx hb dM_name_131 rfl (lv_at hl 2 rfl) ?_
          refine va_get (D := (dC, dI)) (ci := 4) (v := .int hs) (C := "ShellSumModel") (T := TM) (N := 26) hx hb htz zu_M hown hK hP 0 rfl rfl 24 (by decide) (htz _ zw_2_184) (fun _ h9 => h9) rfl dM_name_132 ?_
          refine va_put (D := (dC, dI)) (ci := 4) (v := .int hs) (ty := .int) (C := "ShellSumModel") (T := TM) (N := 26) hx hb htz zu_M tyM tyM_ok nmM hown hK hP hD hS 0 rfl rfl 24 (by decide) (htz _ zw_2_184) (fun _ h9 => h9) rfl (by decide +kernel) rfl rfl (Nat.le_of_ble_eq_true rfl) dM_name_135 (fun H locs hP hD hS => ?_)
          have hP : va_P (dC, dI) vwCl ((am, .inr (4, [.int 0, .ref bT, .ref bU, .int fsz, .int ln, .int pl, .int ne, .int bd, .ref bS, .ref b1, .ref b2, .ref bL, .ref bK, .ref bV, .int wa, .int hi, .ref bN, .ref bX, .ref bA, .ref bB, .int my, .int gd, .int wr, .ref bH, .int hs, .long nu])) :: (bT, .inl (kI, 300, .inl fT)) :: (bU, .inl (kI, 300, .inl fU)) :: (bS, .inl (kI, 2000, .inl fS)) :: (b1, .inl (kI, 2000, .inl f1)) :: (b2, .inl (kI, 2000, .inl f2)) :: (bL, .inl (kZ, 2000, .inl fL)) :: (bK, .inl (kJ, 2000, .inr (.inl fK))) :: (bV, .inl (kJ, 400, .inr (.inl fV))) :: (bN, .inl (kI, 19200, .inl fN)) :: (bX, .inl (kI, 1536, .inl fX)) :: (bA, .inl (kI, 64, .inl fA)) :: (bB, .inl (kI, 64, .inl fB)) :: (bH, .inl (kI, 8, .inl fH)) :: tl) _ := hP
          have hD : va_D A ((am, .inr (4, [.int 0, .ref bT, .ref bU, .int fsz, .int ln, .int pl, .int ne, .int bd, .ref bS, .ref b1, .ref b2, .ref bL, .ref bK, .ref bV, .int wa, .int hi, .ref bN, .ref bX, .ref bA, .ref bB, .int my, .int gd, .int wr, .ref bH, .int hs, .long nu])) :: (bT, .inl (kI, 300, .inl fT)) :: (bU, .inl (kI, 300, .inl fU)) :: (bS, .inl (kI, 2000, .inl fS)) :: (b1, .inl (kI, 2000, .inl f1)) :: (b2, .inl (kI, 2000, .inl f2)) :: (bL, .inl (kZ, 2000, .inl fL)) :: (bK, .inl (kJ, 2000, .inr (.inl fK))) :: (bV, .inl (kJ, 400, .inr (.inl fV))) :: (bN, .inl (kI, 19200, .inl fN)) :: (bX, .inl (kI, 1536, .inl fX)) :: (bA, .inl (kI, 64, .inl fA)) :: (bB, .inl (kI, 64, .inl fB)) :: (bH, .inl (kI, 8, .inl fH)) :: tl) := hD
          refine lv_iload hx hb dM_name_138 (lv_at hl 1 rfl) ?_
          refine W.widen (k := 0) (n := 0) (Nat.le_refl _) (Nat.le_refl _) ?_
          exact W.zret (v := 0) hx hb hr (rfl) (fun t ht _ => ⟨_, _, rfl, Or.inl ⟨e_no, rfl, rfl⟩, by rw [ht]; exact hP, hD, hS.F ht⟩) hS.2.2 dM_name_140
        exact absurd rfl c_20
      refine lv_iload hx hb dM_name_96 (lv_at hl 1 rfl) ?_
      refine lv_if_eq (tgt := 121) hx hb dM_name_98 (by decide) (fun c_21 => ?_) (fun c_21 => ?_)
      · skip
        refine lv_aload_n hx hb dM_name_121 rfl (lv_at hl 2 rfl) ?_
        refine lv_iload hx hb dM_name_122 (lv_at hl 1 rfl) ?_
        refine lv_if_eq (tgt := 131) hx hb dM_name_124 (by decide) (fun c_22 => ?_) (fun c_22 => ?_)
        · skip
          refine lv_aload_n hx hb dM_name_131 rfl (lv_at hl 2 rfl) ?_
          refine va_get (D := (dC, dI)) (ci := 4) (v := .int hs) (C := "ShellSumModel") (T := TM) (N := 26) hx hb htz zu_M hown hK hP 0 rfl rfl 24 (by decide) (htz _ zw_2_184) (fun _ h9 => h9) rfl dM_name_132 ?_
          refine va_put (D := (dC, dI)) (ci := 4) (v := .int hs) (ty := .int) (C := "ShellSumModel") (T := TM) (N := 26) hx hb htz zu_M tyM tyM_ok nmM hown hK hP hD hS 0 rfl rfl 24 (by decide) (htz _ zw_2_184) (fun _ h9 => h9) rfl (by decide +kernel) rfl rfl (Nat.le_of_ble_eq_true rfl) dM_name_135 (fun H locs hP hD hS => ?_)
          have hP : va_P (dC, dI) vwCl ((am, .inr (4, [.int 0, .ref bT, .ref bU, .int fsz, .int ln, .int pl, .int ne, .int bd, .ref bS, .ref b1, .ref b2, .ref bL, .ref bK, .ref bV, .int wa, .int hi, .ref bN, .ref bX, .ref bA, .ref bB, .int my, .int gd, .int wr, .ref bH, .int hs, .long nu])) :: (bT, .inl (kI, 300, .inl fT)) :: (bU, .inl (kI, 300, .inl fU)) :: (bS, .inl (kI, 2000, .inl fS)) :: (b1, .inl (kI, 2000, .inl f1)) :: (b2, .inl (kI, 2000, .inl f2)) :: (bL, .inl (kZ, 2000, .inl fL)) :: (bK, .inl (kJ, 2000, .inr (.inl fK))) :: (bV, .inl (kJ, 400, .inr (.inl fV))) :: (bN, .inl (kI, 19200, .inl fN)) :: (bX, .inl (kI, 1536, .inl fX)) :: (bA, .inl (kI, 64, .inl fA)) :: (bB, .inl (kI, 64, .inl fB)) :: (bH, .inl (kI, 8, .inl fH)) :: tl) _ := hP
          have hD : va_D A ((am, .inr (4, [.int 0, .ref bT, .ref bU, .int fsz, .int ln, .int pl, .int ne, .int bd, .ref bS, .ref b1, .ref b2, .ref bL, .ref bK, .ref bV, .int wa, .int hi, .ref bN, .ref bX, .ref bA, .ref bB, .int my, .int gd, .int wr, .ref bH, .int hs, .long nu])) :: (bT, .inl (kI, 300, .inl fT)) :: (bU, .inl (kI, 300, .inl fU)) :: (bS, .inl (kI, 2000, .inl fS)) :: (b1, .inl (kI, 2000, .inl f1)) :: (b2, .inl (kI, 2000, .inl f2)) :: (bL, .inl (kZ, 2000, .inl fL)) :: (bK, .inl (kJ, 2000, .inr (.inl fK))) :: (bV, .inl (kJ, 400, .inr (.inl fV))) :: (bN, .inl (kI, 19200, .inl fN)) :: (bX, .inl (kI, 1536, .inl fX)) :: (bA, .inl (kI, 64, .inl fA)) :: (bB, .inl (kI, 64, .inl fB)) :: (bH, .inl (kI, 8, .inl fH)) :: tl) := hD
          refine lv_iload hx hb dM_name_138 (lv_at hl 1 rfl) ?_
          refine W.widen (k := 0) (n := 0) (Nat.le_refl _) (Nat.le_refl _) ?_
          exact W.zret (v := 0) hx hb hr (rfl) (fun t ht _ => ⟨_, _, rfl, Or.inl ⟨e_no, rfl, rfl⟩, by rw [ht]; exact hP, hD, hS.F ht⟩) hS.2.2 dM_name_140
        exact absurd rfl c_22
      exact absurd rfl c_21
    exact absurd rfl c_18
  obtain ⟨n, hn, rfl⟩ : ∃ n : Nat, n ≤ 8 ∧ n0 = nI n := nI_of2 (M := 8) rfl (by grind) (by grind)
  have hnn1 : 1 ≤ n := Nat.pos_of_ne_zero (fun q9 => c_1 (by rw [q9]; decide))
  have e_n : (nI n).toNatClampNeg = n := nI_clamp (by omega)
  refine lv_lload_n hx hb dM_name_15 rfl (lv_at hl 1 rfl) ?_
  refine lv_iload_n hx hb dM_name_16 rfl (lv_at hl 2 rfl) ?_
  refine lv_iconst (v := 0) hx hb dM_name_17 (by decide) ?_
  refine xw_topi (y := nI 0) (nI_0.symm) ?_
  refine rq_call (va_runS (As := [.long x0, .int (nI n), .int (nI 0)]) (rest := []) ⟨hx, hb, hml, hown, htz⟩ (k_M_byteOf l x0 (nI n) (nI 0)) (cwS 3 htz (zg_S zw_3_11 zw_3_12 zw_1_4 zw_3_13) rfl rfl rfl (by decide +kernel) ⟨Nat.le_of_ble_eq_true rfl, Nat.le_of_ble_eq_true rfl⟩) rq_pre rfl rfl hl.1 rfl (lv_room (Nat.le_of_ble_eq_true rfl)) dM_name_18 ⟨Nat.zero_le _, Nat.zero_le _⟩) ?_
  refine W.eq (g2 := F0 m 21 ls [.int (sh_bM x0 (nI n) (nI 0))]) rfl ?_
  refine xw_topi (y := sh_byte x0 n 0) (sh_bM_eq (by omega) hn) ?_
  refine rq_call (va_runS (As := [.int (sh_byte x0 n 0)]) (rest := []) ⟨hx, hb, hml, hown, htz⟩ (k_M_isLetter l (sh_byte x0 n 0)) (cwS 1 htz (zg_S zw_3_22 zw_3_23 zw_1_4 zw_3_24) rfl rfl rfl (by decide +kernel) ⟨Nat.le_of_ble_eq_true rfl, Nat.le_of_ble_eq_true rfl⟩) rq_pre rfl rfl hl.1 rfl (lv_room (Nat.le_of_ble_eq_true rfl)) dM_name_21 ⟨Nat.zero_le _, Nat.zero_le _⟩) ?_
  refine W.eq (g2 := F0 m 24 ls [.int (sh_b (sh_start (sh_byte x0 n 0)))]) rfl ?_
  refine lv_if_eq (tgt := 31) hx hb dM_name_24 (by decide) (fun c_23 => ?_) (fun c_23 => ?_)
  · skip
    have e_24 : sh_start (sh_byte x0 n 0) = false := sh_bf c_23
    refine lv_iconst (v := 0) hx hb dM_name_31 (by decide) ?_
    have e_no : sh_areN x0 (nI n) = false := by rw [sh_areN_n hnn1 hn, e_24]; rfl
    refine lv_istore (lv' := [(4, .int 0), (0, .ref am), (1, .long x0), (3, .int (nI n))]) hx hb dM_name_32 hl (by decide) rfl (fun ls hl => ?_)
    refine lv_iconst (v := 0) hx hb dM_name_34 (by decide) ?_
    refine xw_topi (y := nI 0) (nI_0.symm) ?_
    refine lv_istore (lv' := [(5, .int (nI 0)), (4, .int 0), (0, .ref am), (1, .long x0), (3, .int (nI n))]) hx hb dM_name_35 hl (by decide) rfl (fun ls hl => ?_)
    refine lv_iload hx hb dM_name_37 (lv_at hl 0 rfl) ?_
    refine lv_iload_n hx hb dM_name_39 rfl (lv_at hl 4 rfl) ?_
    refine lv_icmp_ge (tgt := 87) hx hb dM_name_40 (by decide) (fun c_24 => ?_) (fun c_24 => ?_)
    · skip
      refine lv_iconst (v := 0) hx hb dM_name_87 (by decide) ?_
      refine xw_topi (y := nI 0) (nI_0.symm) ?_
      refine lv_istore (lv' := [(5, .int (nI 0)), (4, .int 0), (0, .ref am), (1, .long x0), (3, .int (nI n))]) hx hb dM_name_88 hl (by decide) rfl (fun ls hl => ?_)
      refine lv_iload hx hb dM_name_90 (lv_at hl 0 rfl) ?_
      refine lv_iload_n hx hb dM_name_92 rfl (lv_at hl 4 rfl) ?_
      refine lv_icmp_ge (tgt := 121) hx hb dM_name_93 (by decide) (fun c_25 => ?_) (fun c_25 => ?_)
      · skip
        refine lv_aload_n hx hb dM_name_121 rfl (lv_at hl 2 rfl) ?_
        refine lv_iload hx hb dM_name_122 (lv_at hl 1 rfl) ?_
        refine lv_if_eq (tgt := 131) hx hb dM_name_124 (by decide) (fun c_26 => ?_) (fun c_26 => ?_)
        · skip
          refine lv_aload_n hx hb dM_name_131 rfl (lv_at hl 2 rfl) ?_
          refine va_get (D := (dC, dI)) (ci := 4) (v := .int hs) (C := "ShellSumModel") (T := TM) (N := 26) hx hb htz zu_M hown hK hP 0 rfl rfl 24 (by decide) (htz _ zw_2_184) (fun _ h9 => h9) rfl dM_name_132 ?_
          refine va_put (D := (dC, dI)) (ci := 4) (v := .int hs) (ty := .int) (C := "ShellSumModel") (T := TM) (N := 26) hx hb htz zu_M tyM tyM_ok nmM hown hK hP hD hS 0 rfl rfl 24 (by decide) (htz _ zw_2_184) (fun _ h9 => h9) rfl (by decide +kernel) rfl rfl (Nat.le_of_ble_eq_true rfl) dM_name_135 (fun H locs hP hD hS => ?_)
          have hP : va_P (dC, dI) vwCl ((am, .inr (4, [.int 0, .ref bT, .ref bU, .int fsz, .int ln, .int pl, .int ne, .int bd, .ref bS, .ref b1, .ref b2, .ref bL, .ref bK, .ref bV, .int wa, .int hi, .ref bN, .ref bX, .ref bA, .ref bB, .int my, .int gd, .int wr, .ref bH, .int hs, .long nu])) :: (bT, .inl (kI, 300, .inl fT)) :: (bU, .inl (kI, 300, .inl fU)) :: (bS, .inl (kI, 2000, .inl fS)) :: (b1, .inl (kI, 2000, .inl f1)) :: (b2, .inl (kI, 2000, .inl f2)) :: (bL, .inl (kZ, 2000, .inl fL)) :: (bK, .inl (kJ, 2000, .inr (.inl fK))) :: (bV, .inl (kJ, 400, .inr (.inl fV))) :: (bN, .inl (kI, 19200, .inl fN)) :: (bX, .inl (kI, 1536, .inl fX)) :: (bA, .inl (kI, 64, .inl fA)) :: (bB, .inl (kI, 64, .inl fB)) :: (bH, .inl (kI, 8, .inl fH)) :: tl) _ := hP
          have hD : va_D A ((am, .inr (4, [.int 0, .ref bT, .ref bU, .int fsz, .int ln, .int pl, .int ne, .int bd, .ref bS, .ref b1, .ref b2, .ref bL, .ref bK, .ref bV, .int wa, .int hi, .ref bN, .ref bX, .ref bA, .ref bB, .int my, .int gd, .int wr, .ref bH, .int hs, .long nu])) :: (bT, .inl (kI, 300, .inl fT)) :: (bU, .inl (kI, 300, .inl fU)) :: (bS, .inl (kI, 2000, .inl fS)) :: (b1, .inl (kI, 2000, .inl f1)) :: (b2, .inl (kI, 2000, .inl f2)) :: (bL, .inl (kZ, 2000, .inl fL)) :: (bK, .inl (kJ, 2000, .inr (.inl fK))) :: (bV, .inl (kJ, 400, .inr (.inl fV))) :: (bN, .inl (kI, 19200, .inl fN)) :: (bX, .inl (kI, 1536, .inl fX)) :: (bA, .inl (kI, 64, .inl fA)) :: (bB, .inl (kI, 64, .inl fB)) :: (bH, .inl (kI, 8, .inl fH)) :: tl) := hD
          refine lv_iload hx hb dM_name_138 (lv_at hl 1 rfl) ?_
          refine W.widen (k := 0) (n := 0) (Nat.le_refl _) (Nat.le_refl _) ?_
          exact W.zret (v := 0) hx hb hr (rfl) (fun t ht _ => ⟨_, _, rfl, Or.inl ⟨e_no, rfl, rfl⟩, by rw [ht]; exact hP, hD, hS.F ht⟩) hS.2.2 dM_name_140
        exact absurd rfl c_26
      refine lv_iload hx hb dM_name_96 (lv_at hl 1 rfl) ?_
      refine lv_if_eq (tgt := 121) hx hb dM_name_98 (by decide) (fun c_27 => ?_) (fun c_27 => ?_)
      · skip
        refine lv_aload_n hx hb dM_name_121 rfl (lv_at hl 2 rfl) ?_
        refine lv_iload hx hb dM_name_122 (lv_at hl 1 rfl) ?_
        refine lv_if_eq (tgt := 131) hx hb dM_name_124 (by decide) (fun c_28 => ?_) (fun c_28 => ?_)
        · skip
          refine lv_aload_n hx hb dM_name_131 rfl (lv_at hl 2 rfl) ?_
          refine va_get (D := (dC, dI)) (ci := 4) (v := .int hs) (C := "ShellSumModel") (T := TM) (N := 26) hx hb htz zu_M hown hK hP 0 rfl rfl 24 (by decide) (htz _ zw_2_184) (fun _ h9 => h9) rfl dM_name_132 ?_
          refine va_put (D := (dC, dI)) (ci := 4) (v := .int hs) (ty := .int) (C := "ShellSumModel") (T := TM) (N := 26) hx hb htz zu_M tyM tyM_ok nmM hown hK hP hD hS 0 rfl rfl 24 (by decide) (htz _ zw_2_184) (fun _ h9 => h9) rfl (by decide +kernel) rfl rfl (Nat.le_of_ble_eq_true rfl) dM_name_135 (fun H locs hP hD hS => ?_)
          have hP : va_P (dC, dI) vwCl ((am, .inr (4, [.int 0, .ref bT, .ref bU, .int fsz, .int ln, .int pl, .int ne, .int bd, .ref bS, .ref b1, .ref b2, .ref bL, .ref bK, .ref bV, .int wa, .int hi, .ref bN, .ref bX, .ref bA, .ref bB, .int my, .int gd, .int wr, .ref bH, .int hs, .long nu])) :: (bT, .inl (kI, 300, .inl fT)) :: (bU, .inl (kI, 300, .inl fU)) :: (bS, .inl (kI, 2000, .inl fS)) :: (b1, .inl (kI, 2000, .inl f1)) :: (b2, .inl (kI, 2000, .inl f2)) :: (bL, .inl (kZ, 2000, .inl fL)) :: (bK, .inl (kJ, 2000, .inr (.inl fK))) :: (bV, .inl (kJ, 400, .inr (.inl fV))) :: (bN, .inl (kI, 19200, .inl fN)) :: (bX, .inl (kI, 1536, .inl fX)) :: (bA, .inl (kI, 64, .inl fA)) :: (bB, .inl (kI, 64, .inl fB)) :: (bH, .inl (kI, 8, .inl fH)) :: tl) _ := hP
          have hD : va_D A ((am, .inr (4, [.int 0, .ref bT, .ref bU, .int fsz, .int ln, .int pl, .int ne, .int bd, .ref bS, .ref b1, .ref b2, .ref bL, .ref bK, .ref bV, .int wa, .int hi, .ref bN, .ref bX, .ref bA, .ref bB, .int my, .int gd, .int wr, .ref bH, .int hs, .long nu])) :: (bT, .inl (kI, 300, .inl fT)) :: (bU, .inl (kI, 300, .inl fU)) :: (bS, .inl (kI, 2000, .inl fS)) :: (b1, .inl (kI, 2000, .inl f1)) :: (b2, .inl (kI, 2000, .inl f2)) :: (bL, .inl (kZ, 2000, .inl fL)) :: (bK, .inl (kJ, 2000, .inr (.inl fK))) :: (bV, .inl (kJ, 400, .inr (.inl fV))) :: (bN, .inl (kI, 19200, .inl fN)) :: (bX, .inl (kI, 1536, .inl fX)) :: (bA, .inl (kI, 64, .inl fA)) :: (bB, .inl (kI, 64, .inl fB)) :: (bH, .inl (kI, 8, .inl fH)) :: tl) := hD
          refine lv_iload hx hb dM_name_138 (lv_at hl 1 rfl) ?_
          refine W.widen (k := 0) (n := 0) (Nat.le_refl _) (Nat.le_refl _) ?_
          exact W.zret (v := 0) hx hb hr (rfl) (fun t ht _ => ⟨_, _, rfl, Or.inl ⟨e_no, rfl, rfl⟩, by rw [ht]; exact hP, hD, hS.F ht⟩) hS.2.2 dM_name_140
        exact absurd rfl c_28
      exact absurd rfl c_27
    refine lv_iload hx hb dM_name_43 (lv_at hl 1 rfl) ?_
    refine lv_if_eq (tgt := 87) hx hb dM_name_45 (by decide) (fun c_29 => ?_) (fun c_29 => ?_)
    · skip
      refine lv_iconst (v := 0) hx hb dM_name_87 (by decide) ?_
      refine xw_topi (y := nI 0) (nI_0.symm) ?_
      refine lv_istore (lv' := [(5, .int (nI 0)), (4, .int 0), (0, .ref am), (1, .long x0), (3, .int (nI n))]) hx hb dM_name_88 hl (by decide) rfl (fun ls hl => ?_)
      refine lv_iload hx hb dM_name_90 (lv_at hl 0 rfl) ?_
      refine lv_iload_n hx hb dM_name_92 rfl (lv_at hl 4 rfl) ?_
      refine lv_icmp_ge (tgt := 121) hx hb dM_name_93 (by decide) (fun c_30 => ?_) (fun c_30 => ?_)
      · skip
        refine lv_aload_n hx hb dM_name_121 rfl (lv_at hl 2 rfl) ?_
        refine lv_iload hx hb dM_name_122 (lv_at hl 1 rfl) ?_
        refine lv_if_eq (tgt := 131) hx hb dM_name_124 (by decide) (fun c_31 => ?_) (fun c_31 => ?_)
        · skip
          refine lv_aload_n hx hb dM_name_131 rfl (lv_at hl 2 rfl) ?_
          refine va_get (D := (dC, dI)) (ci := 4) (v := .int hs) (C := "ShellSumModel") (T := TM) (N := 26) hx hb htz zu_M hown hK hP 0 rfl rfl 24 (by decide) (htz _ zw_2_184) (fun _ h9 => h9) rfl dM_name_132 ?_
          refine va_put (D := (dC, dI)) (ci := 4) (v := .int hs) (ty := .int) (C := "ShellSumModel") (T := TM) (N := 26) hx hb htz zu_M tyM tyM_ok nmM hown hK hP hD hS 0 rfl rfl 24 (by decide) (htz _ zw_2_184) (fun _ h9 => h9) rfl (by decide +kernel) rfl rfl (Nat.le_of_ble_eq_true rfl) dM_name_135 (fun H locs hP hD hS => ?_)
          have hP : va_P (dC, dI) vwCl ((am, .inr (4, [.int 0, .ref bT, .ref bU, .int fsz, .int ln, .int pl, .int ne, .int bd, .ref bS, .ref b1, .ref b2, .ref bL, .ref bK, .ref bV, .int wa, .int hi, .ref bN, .ref bX, .ref bA, .ref bB, .int my, .int gd, .int wr, .ref bH, .int hs, .long nu])) :: (bT, .inl (kI, 300, .inl fT)) :: (bU, .inl (kI, 300, .inl fU)) :: (bS, .inl (kI, 2000, .inl fS)) :: (b1, .inl (kI, 2000, .inl f1)) :: (b2, .inl (kI, 2000, .inl f2)) :: (bL, .inl (kZ, 2000, .inl fL)) :: (bK, .inl (kJ, 2000, .inr (.inl fK))) :: (bV, .inl (kJ, 400, .inr (.inl fV))) :: (bN, .inl (kI, 19200, .inl fN)) :: (bX, .inl (kI, 1536, .inl fX)) :: (bA, .inl (kI, 64, .inl fA)) :: (bB, .inl (kI, 64, .inl fB)) :: (bH, .inl (kI, 8, .inl fH)) :: tl) _ := hP
          have hD : va_D A ((am, .inr (4, [.int 0, .ref bT, .ref bU, .int fsz, .int ln, .int pl, .int ne, .int bd, .ref bS, .ref b1, .ref b2, .ref bL, .ref bK, .ref bV, .int wa, .int hi, .ref bN, .ref bX, .ref bA, .ref bB, .int my, .int gd, .int wr, .ref bH, .int hs, .long nu])) :: (bT, .inl (kI, 300, .inl fT)) :: (bU, .inl (kI, 300, .inl fU)) :: (bS, .inl (kI, 2000, .inl fS)) :: (b1, .inl (kI, 2000, .inl f1)) :: (b2, .inl (kI, 2000, .inl f2)) :: (bL, .inl (kZ, 2000, .inl fL)) :: (bK, .inl (kJ, 2000, .inr (.inl fK))) :: (bV, .inl (kJ, 400, .inr (.inl fV))) :: (bN, .inl (kI, 19200, .inl fN)) :: (bX, .inl (kI, 1536, .inl fX)) :: (bA, .inl (kI, 64, .inl fA)) :: (bB, .inl (kI, 64, .inl fB)) :: (bH, .inl (kI, 8, .inl fH)) :: tl) := hD
          refine lv_iload hx hb dM_name_138 (lv_at hl 1 rfl) ?_
          refine W.widen (k := 0) (n := 0) (Nat.le_refl _) (Nat.le_refl _) ?_
          exact W.zret (v := 0) hx hb hr (rfl) (fun t ht _ => ⟨_, _, rfl, Or.inl ⟨e_no, rfl, rfl⟩, by rw [ht]; exact hP, hD, hS.F ht⟩) hS.2.2 dM_name_140
        exact absurd rfl c_31
      refine lv_iload hx hb dM_name_96 (lv_at hl 1 rfl) ?_
      refine lv_if_eq (tgt := 121) hx hb dM_name_98 (by decide) (fun c_32 => ?_) (fun c_32 => ?_)
      · skip
        refine lv_aload_n hx hb dM_name_121 rfl (lv_at hl 2 rfl) ?_
        refine lv_iload hx hb dM_name_122 (lv_at hl 1 rfl) ?_
        refine lv_if_eq (tgt := 131) hx hb dM_name_124 (by decide) (fun c_33 => ?_) (fun c_33 => ?_)
        · skip
          refine lv_aload_n hx hb dM_name_131 rfl (lv_at hl 2 rfl) ?_
          refine va_get (D := (dC, dI)) (ci := 4) (v := .int hs) (C := "ShellSumModel") (T := TM) (N := 26) hx hb htz zu_M hown hK hP 0 rfl rfl 24 (by decide) (htz _ zw_2_184) (fun _ h9 => h9) rfl dM_name_132 ?_
          refine va_put (D := (dC, dI)) (ci := 4) (v := .int hs) (ty := .int) (C := "ShellSumModel") (T := TM) (N := 26) hx hb htz zu_M tyM tyM_ok nmM hown hK hP hD hS 0 rfl rfl 24 (by decide) (htz _ zw_2_184) (fun _ h9 => h9) rfl (by decide +kernel) rfl rfl (Nat.le_of_ble_eq_true rfl) dM_name_135 (fun H locs hP hD hS => ?_)
          have hP : va_P (dC, dI) vwCl ((am, .inr (4, [.int 0, .ref bT, .ref bU, .int fsz, .int ln, .int pl, .int ne, .int bd, .ref bS, .ref b1, .ref b2, .ref bL, .ref bK, .ref bV, .int wa, .int hi, .ref bN, .ref bX, .ref bA, .ref bB, .int my, .int gd, .int wr, .ref bH, .int hs, .long nu])) :: (bT, .inl (kI, 300, .inl fT)) :: (bU, .inl (kI, 300, .inl fU)) :: (bS, .inl (kI, 2000, .inl fS)) :: (b1, .inl (kI, 2000, .inl f1)) :: (b2, .inl (kI, 2000, .inl f2)) :: (bL, .inl (kZ, 2000, .inl fL)) :: (bK, .inl (kJ, 2000, .inr (.inl fK))) :: (bV, .inl (kJ, 400, .inr (.inl fV))) :: (bN, .inl (kI, 19200, .inl fN)) :: (bX, .inl (kI, 1536, .inl fX)) :: (bA, .inl (kI, 64, .inl fA)) :: (bB, .inl (kI, 64, .inl fB)) :: (bH, .inl (kI, 8, .inl fH)) :: tl) _ := hP
          have hD : va_D A ((am, .inr (4, [.int 0, .ref bT, .ref bU, .int fsz, .int ln, .int pl, .int ne, .int bd, .ref bS, .ref b1, .ref b2, .ref bL, .ref bK, .ref bV, .int wa, .int hi, .ref bN, .ref bX, .ref bA, .ref bB, .int my, .int gd, .int wr, .ref bH, .int hs, .long nu])) :: (bT, .inl (kI, 300, .inl fT)) :: (bU, .inl (kI, 300, .inl fU)) :: (bS, .inl (kI, 2000, .inl fS)) :: (b1, .inl (kI, 2000, .inl f1)) :: (b2, .inl (kI, 2000, .inl f2)) :: (bL, .inl (kZ, 2000, .inl fL)) :: (bK, .inl (kJ, 2000, .inr (.inl fK))) :: (bV, .inl (kJ, 400, .inr (.inl fV))) :: (bN, .inl (kI, 19200, .inl fN)) :: (bX, .inl (kI, 1536, .inl fX)) :: (bA, .inl (kI, 64, .inl fA)) :: (bB, .inl (kI, 64, .inl fB)) :: (bH, .inl (kI, 8, .inl fH)) :: tl) := hD
          refine lv_iload hx hb dM_name_138 (lv_at hl 1 rfl) ?_
          refine W.widen (k := 0) (n := 0) (Nat.le_refl _) (Nat.le_refl _) ?_
          exact W.zret (v := 0) hx hb hr (rfl) (fun t ht _ => ⟨_, _, rfl, Or.inl ⟨e_no, rfl, rfl⟩, by rw [ht]; exact hP, hD, hS.F ht⟩) hS.2.2 dM_name_140
        exact absurd rfl c_33
      exact absurd rfl c_32
    exact absurd rfl c_29
  have e_24 : sh_start (sh_byte x0 n 0) = true := sh_bt c_23
  refine lv_iconst (v := 1) hx hb dM_name_27 (by decide) ?_
  refine lv_goto (tgt := 32) hx hb dM_name_28 (by decide) ?_
  refine xw_topi (y := sh_b true) (rfl) ?_
  refine lv_istore (lv' := [(4, .int (sh_b true)), (0, .ref am), (1, .long x0), (3, .int (nI n))]) hx hb dM_name_32 hl (by decide) rfl (fun ls hl => ?_)
  refine lv_iconst (v := 0) hx hb dM_name_34 (by decide) ?_
  refine xw_topi (y := nI 0) (nI_0.symm) ?_
  refine lv_istore (lv' := [(5, .int (nI 0)), (4, .int (sh_b true)), (0, .ref am), (1, .long x0), (3, .int (nI n))]) hx hb dM_name_35 hl (by decide) rfl (fun ls hl => ?_)
  have j_87 : ∀ (b : Bool), (sh_areN x0 (nI n) = b) → ∀ (H : Heap) (locs : List Loc), va_P (dC, dI) vwCl ((am, .inr (4, [.int 0, .ref bT, .ref bU, .int fsz, .int ln, .int pl, .int ne, .int bd, .ref bS, .ref b1, .ref b2, .ref bL, .ref bK, .ref bV, .int wa, .int hi, .ref bN, .ref bX, .ref bA, .ref bB, .int my, .int gd, .int wr, .ref bH, .int hs, .long nu])) :: (bT, .inl (kI, 300, .inl fT)) :: (bU, .inl (kI, 300, .inl fU)) :: (bS, .inl (kI, 2000, .inl fS)) :: (b1, .inl (kI, 2000, .inl f1)) :: (b2, .inl (kI, 2000, .inl f2)) :: (bL, .inl (kZ, 2000, .inl fL)) :: (bK, .inl (kJ, 2000, .inr (.inl fK))) :: (bV, .inl (kJ, 400, .inr (.inl fV))) :: (bN, .inl (kI, 19200, .inl fN)) :: (bX, .inl (kI, 1536, .inl fX)) :: (bA, .inl (kI, 64, .inl fA)) :: (bB, .inl (kI, 64, .inl fB)) :: (bH, .inl (kI, 8, .inl fH)) :: tl) H → va_D A ((am, .inr (4, [.int 0, .ref bT, .ref bU, .int fsz, .int ln, .int pl, .int ne, .int bd, .ref bS, .ref b1, .ref b2, .ref bL, .ref bK, .ref bV, .int wa, .int hi, .ref bN, .ref bX, .ref bA, .ref bB, .int my, .int gd, .int wr, .ref bH, .int hs, .long nu])) :: (bT, .inl (kI, 300, .inl fT)) :: (bU, .inl (kI, 300, .inl fU)) :: (bS, .inl (kI, 2000, .inl fS)) :: (b1, .inl (kI, 2000, .inl f1)) :: (b2, .inl (kI, 2000, .inl f2)) :: (bL, .inl (kZ, 2000, .inl fL)) :: (bK, .inl (kJ, 2000, .inr (.inl fK))) :: (bV, .inl (kJ, 400, .inr (.inl fV))) :: (bN, .inl (kI, 19200, .inl fN)) :: (bX, .inl (kI, 1536, .inl fX)) :: (bA, .inl (kI, 64, .inl fA)) :: (bB, .inl (kI, 64, .inl fB)) :: (bH, .inl (kI, 8, .inl fH)) :: tl) → va_S A s.heap H locs → ∀ ls : Array Slot, lv_has ls 6 [(4, .int (sh_b b)), (0, .ref am), (1, .long x0), (3, .int (nI n))] → W p l e (headSpec wsM_name ({ frames := 1, cells := 0, slots := 0, locals := 40 })).room s m ([.ref am, .long x0, .int (nI n)] : List Value).toArray below meth c H locs 0 0 (MQ below (zQ dC dI A (fun v w => (sh_areN x0 (nI n) = false ∧ v = some (.int 0) ∧ w = ((am, .inr (4, [.int 0, .ref bT, .ref bU, .int fsz, .int ln, .int pl, .int ne, .int bd, .ref bS, .ref b1, .ref b2, .ref bL, .ref bK, .ref bV, .int wa, .int hi, .ref bN, .ref bX, .ref bA, .ref bB, .int my, .int gd, .int wr, .ref bH, .int hs, .long nu])) :: (bT, .inl (kI, 300, .inl fT)) :: (bU, .inl (kI, 300, .inl fU)) :: (bS, .inl (kI, 2000, .inl fS)) :: (b1, .inl (kI, 2000, .inl f1)) :: (b2, .inl (kI, 2000, .inl f2)) :: (bL, .inl (kZ, 2000, .inl fL)) :: (bK, .inl (kJ, 2000, .inr (.inl fK))) :: (bV, .inl (kJ, 400, .inr (.inl fV))) :: (bN, .inl (kI, 19200, .inl fN)) :: (bX, .inl (kI, 1536, .inl fX)) :: (bA, .inl (kI, 64, .inl fA)) :: (bB, .inl (kI, 64, .inl fB)) :: (bH, .inl (kI, 8, .inl fH)) :: tl)) ∨ (sh_areN x0 (nI n) = true ∧ v = some (.int 1) ∧ ∃ fH2, (∀ j, j < (nI n).toNatClampNeg → fH2 j = sh_at (sh_bytes x0 (nI n).toNatClampNeg) j) ∧ w = ((am, .inr (4, [.int 0, .ref bT, .ref bU, .int fsz, .int ln, .int pl, .int ne, .int bd, .ref bS, .ref b1, .ref b2, .ref bL, .ref bK, .ref bV, .int wa, .int hi, .ref bN, .ref bX, .ref bA, .ref bB, .int my, .int gd, .int wr, .ref bH, .int (nI n), .long nu])) :: (bT, .inl (kI, 300, .inl fT)) :: (bU, .inl (kI, 300, .inl fU)) :: (bS, .inl (kI, 2000, .inl fS)) :: (b1, .inl (kI, 2000, .inl f1)) :: (b2, .inl (kI, 2000, .inl f2)) :: (bL, .inl (kZ, 2000, .inl fL)) :: (bK, .inl (kJ, 2000, .inr (.inl fK))) :: (bV, .inl (kJ, 400, .inr (.inl fV))) :: (bN, .inl (kI, 19200, .inl fN)) :: (bX, .inl (kI, 1536, .inl fX)) :: (bA, .inl (kI, 64, .inl fA)) :: (bB, .inl (kI, 64, .inl fB)) :: (bH, .inl (kI, 8, .inl fH2)) :: tl)))) ([.ref am, .long x0, .int (nI n)] : List Value).toArray s 0 0 A) (F0 m 87 ls []) := by
    intro b hb9 H locs hP hD hS ls hl
    cases b with
    | false =>
      have hl : lv_has ls 6 [(4, .int 0), (0, .ref am), (1, .long x0), (3, .int (nI n))] := hl
      have e_no := hb9
      refine lv_iconst (v := 0) hx hb dM_name_87 (by decide) ?_
      refine xw_topi (y := nI 0) (nI_0.symm) ?_
      refine lv_istore (lv' := [(5, .int (nI 0)), (4, .int 0), (0, .ref am), (1, .long x0), (3, .int (nI n))]) hx hb dM_name_88 hl (by decide) rfl (fun ls hl => ?_)
      refine lv_iload hx hb dM_name_90 (lv_at hl 0 rfl) ?_
      refine lv_iload_n hx hb dM_name_92 rfl (lv_at hl 4 rfl) ?_
      refine lv_icmp_ge (tgt := 121) hx hb dM_name_93 (by decide) (fun c_34 => ?_) (fun c_34 => ?_)
      · skip
        refine lv_aload_n hx hb dM_name_121 rfl (lv_at hl 2 rfl) ?_
        refine lv_iload hx hb dM_name_122 (lv_at hl 1 rfl) ?_
        refine lv_if_eq (tgt := 131) hx hb dM_name_124 (by decide) (fun c_35 => ?_) (fun c_35 => ?_)
        · skip
          refine lv_aload_n hx hb dM_name_131 rfl (lv_at hl 2 rfl) ?_
          refine va_get (D := (dC, dI)) (ci := 4) (v := .int hs) (C := "ShellSumModel") (T := TM) (N := 26) hx hb htz zu_M hown hK hP 0 rfl rfl 24 (by decide) (htz _ zw_2_184) (fun _ h9 => h9) rfl dM_name_132 ?_
          refine va_put (D := (dC, dI)) (ci := 4) (v := .int hs) (ty := .int) (C := "ShellSumModel") (T := TM) (N := 26) hx hb htz zu_M tyM tyM_ok nmM hown hK hP hD hS 0 rfl rfl 24 (by decide) (htz _ zw_2_184) (fun _ h9 => h9) rfl (by decide +kernel) rfl rfl (Nat.le_of_ble_eq_true rfl) dM_name_135 (fun H locs hP hD hS => ?_)
          have hP : va_P (dC, dI) vwCl ((am, .inr (4, [.int 0, .ref bT, .ref bU, .int fsz, .int ln, .int pl, .int ne, .int bd, .ref bS, .ref b1, .ref b2, .ref bL, .ref bK, .ref bV, .int wa, .int hi, .ref bN, .ref bX, .ref bA, .ref bB, .int my, .int gd, .int wr, .ref bH, .int hs, .long nu])) :: (bT, .inl (kI, 300, .inl fT)) :: (bU, .inl (kI, 300, .inl fU)) :: (bS, .inl (kI, 2000, .inl fS)) :: (b1, .inl (kI, 2000, .inl f1)) :: (b2, .inl (kI, 2000, .inl f2)) :: (bL, .inl (kZ, 2000, .inl fL)) :: (bK, .inl (kJ, 2000, .inr (.inl fK))) :: (bV, .inl (kJ, 400, .inr (.inl fV))) :: (bN, .inl (kI, 19200, .inl fN)) :: (bX, .inl (kI, 1536, .inl fX)) :: (bA, .inl (kI, 64, .inl fA)) :: (bB, .inl (kI, 64, .inl fB)) :: (bH, .inl (kI, 8, .inl fH)) :: tl) _ := hP
          have hD : va_D A ((am, .inr (4, [.int 0, .ref bT, .ref bU, .int fsz, .int ln, .int pl, .int ne, .int bd, .ref bS, .ref b1, .ref b2, .ref bL, .ref bK, .ref bV, .int wa, .int hi, .ref bN, .ref bX, .ref bA, .ref bB, .int my, .int gd, .int wr, .ref bH, .int hs, .long nu])) :: (bT, .inl (kI, 300, .inl fT)) :: (bU, .inl (kI, 300, .inl fU)) :: (bS, .inl (kI, 2000, .inl fS)) :: (b1, .inl (kI, 2000, .inl f1)) :: (b2, .inl (kI, 2000, .inl f2)) :: (bL, .inl (kZ, 2000, .inl fL)) :: (bK, .inl (kJ, 2000, .inr (.inl fK))) :: (bV, .inl (kJ, 400, .inr (.inl fV))) :: (bN, .inl (kI, 19200, .inl fN)) :: (bX, .inl (kI, 1536, .inl fX)) :: (bA, .inl (kI, 64, .inl fA)) :: (bB, .inl (kI, 64, .inl fB)) :: (bH, .inl (kI, 8, .inl fH)) :: tl) := hD
          refine lv_iload hx hb dM_name_138 (lv_at hl 1 rfl) ?_
          refine W.widen (k := 0) (n := 0) (Nat.le_refl _) (Nat.le_refl _) ?_
          exact W.zret (v := 0) hx hb hr (rfl) (fun t ht _ => ⟨_, _, rfl, Or.inl ⟨e_no, rfl, rfl⟩, by rw [ht]; exact hP, hD, hS.F ht⟩) hS.2.2 dM_name_140
        exact absurd rfl c_35
      refine lv_iload hx hb dM_name_96 (lv_at hl 1 rfl) ?_
      refine lv_if_eq (tgt := 121) hx hb dM_name_98 (by decide) (fun c_36 => ?_) (fun c_36 => ?_)
      · skip
        refine lv_aload_n hx hb dM_name_121 rfl (lv_at hl 2 rfl) ?_
        refine lv_iload hx hb dM_name_122 (lv_at hl 1 rfl) ?_
        refine lv_if_eq (tgt := 131) hx hb dM_name_124 (by decide) (fun c_37 => ?_) (fun c_37 => ?_)
        · skip
          refine lv_aload_n hx hb dM_name_131 rfl (lv_at hl 2 rfl) ?_
          refine va_get (D := (dC, dI)) (ci := 4) (v := .int hs) (C := "ShellSumModel") (T := TM) (N := 26) hx hb htz zu_M hown hK hP 0 rfl rfl 24 (by decide) (htz _ zw_2_184) (fun _ h9 => h9) rfl dM_name_132 ?_
          refine va_put (D := (dC, dI)) (ci := 4) (v := .int hs) (ty := .int) (C := "ShellSumModel") (T := TM) (N := 26) hx hb htz zu_M tyM tyM_ok nmM hown hK hP hD hS 0 rfl rfl 24 (by decide) (htz _ zw_2_184) (fun _ h9 => h9) rfl (by decide +kernel) rfl rfl (Nat.le_of_ble_eq_true rfl) dM_name_135 (fun H locs hP hD hS => ?_)
          have hP : va_P (dC, dI) vwCl ((am, .inr (4, [.int 0, .ref bT, .ref bU, .int fsz, .int ln, .int pl, .int ne, .int bd, .ref bS, .ref b1, .ref b2, .ref bL, .ref bK, .ref bV, .int wa, .int hi, .ref bN, .ref bX, .ref bA, .ref bB, .int my, .int gd, .int wr, .ref bH, .int hs, .long nu])) :: (bT, .inl (kI, 300, .inl fT)) :: (bU, .inl (kI, 300, .inl fU)) :: (bS, .inl (kI, 2000, .inl fS)) :: (b1, .inl (kI, 2000, .inl f1)) :: (b2, .inl (kI, 2000, .inl f2)) :: (bL, .inl (kZ, 2000, .inl fL)) :: (bK, .inl (kJ, 2000, .inr (.inl fK))) :: (bV, .inl (kJ, 400, .inr (.inl fV))) :: (bN, .inl (kI, 19200, .inl fN)) :: (bX, .inl (kI, 1536, .inl fX)) :: (bA, .inl (kI, 64, .inl fA)) :: (bB, .inl (kI, 64, .inl fB)) :: (bH, .inl (kI, 8, .inl fH)) :: tl) _ := hP
          have hD : va_D A ((am, .inr (4, [.int 0, .ref bT, .ref bU, .int fsz, .int ln, .int pl, .int ne, .int bd, .ref bS, .ref b1, .ref b2, .ref bL, .ref bK, .ref bV, .int wa, .int hi, .ref bN, .ref bX, .ref bA, .ref bB, .int my, .int gd, .int wr, .ref bH, .int hs, .long nu])) :: (bT, .inl (kI, 300, .inl fT)) :: (bU, .inl (kI, 300, .inl fU)) :: (bS, .inl (kI, 2000, .inl fS)) :: (b1, .inl (kI, 2000, .inl f1)) :: (b2, .inl (kI, 2000, .inl f2)) :: (bL, .inl (kZ, 2000, .inl fL)) :: (bK, .inl (kJ, 2000, .inr (.inl fK))) :: (bV, .inl (kJ, 400, .inr (.inl fV))) :: (bN, .inl (kI, 19200, .inl fN)) :: (bX, .inl (kI, 1536, .inl fX)) :: (bA, .inl (kI, 64, .inl fA)) :: (bB, .inl (kI, 64, .inl fB)) :: (bH, .inl (kI, 8, .inl fH)) :: tl) := hD
          refine lv_iload hx hb dM_name_138 (lv_at hl 1 rfl) ?_
          refine W.widen (k := 0) (n := 0) (Nat.le_refl _) (Nat.le_refl _) ?_
          exact W.zret (v := 0) hx hb hr (rfl) (fun t ht _ => ⟨_, _, rfl, Or.inl ⟨e_no, rfl, rfl⟩, by rw [ht]; exact hP, hD, hS.F ht⟩) hS.2.2 dM_name_140
        exact absurd rfl c_37
      exact absurd rfl c_36
    | true =>
      have hl : lv_has ls 6 [(4, .int 1), (0, .ref am), (1, .long x0), (3, .int (nI n))] := hl
      refine lv_iconst (v := 0) hx hb dM_name_87 (by decide) ?_
      refine xw_topi (y := nI 0) (nI_0.symm) ?_
      refine lv_istore (lv' := [(5, .int (nI 0)), (4, .int 1), (0, .ref am), (1, .long x0), (3, .int (nI n))]) hx hb dM_name_88 hl (by decide) rfl (fun ls hl => ?_)
      have loop_90 : ∀ (f_loop_90 : Nat) (k : Nat) (g : Nat → Int32), n - k < f_loop_90 → (k ≤ n) → (∀ j, j < k → g j = sh_byte x0 n j) → ∀ (H : Heap) (locs : List Loc), va_P (dC, dI) vwCl ((am, .inr (4, [.int 0, .ref bT, .ref bU, .int fsz, .int ln, .int pl, .int ne, .int bd, .ref bS, .ref b1, .ref b2, .ref bL, .ref bK, .ref bV, .int wa, .int hi, .ref bN, .ref bX, .ref bA, .ref bB, .int my, .int gd, .int wr, .ref bH, .int hs, .long nu])) :: (bT, .inl (kI, 300, .inl fT)) :: (bU, .inl (kI, 300, .inl fU)) :: (bS, .inl (kI, 2000, .inl fS)) :: (b1, .inl (kI, 2000, .inl f1)) :: (b2, .inl (kI, 2000, .inl f2)) :: (bL, .inl (kZ, 2000, .inl fL)) :: (bK, .inl (kJ, 2000, .inr (.inl fK))) :: (bV, .inl (kJ, 400, .inr (.inl fV))) :: (bN, .inl (kI, 19200, .inl fN)) :: (bX, .inl (kI, 1536, .inl fX)) :: (bA, .inl (kI, 64, .inl fA)) :: (bB, .inl (kI, 64, .inl fB)) :: (bH, .inl (kI, 8, .inl g)) :: tl) H → va_D A ((am, .inr (4, [.int 0, .ref bT, .ref bU, .int fsz, .int ln, .int pl, .int ne, .int bd, .ref bS, .ref b1, .ref b2, .ref bL, .ref bK, .ref bV, .int wa, .int hi, .ref bN, .ref bX, .ref bA, .ref bB, .int my, .int gd, .int wr, .ref bH, .int hs, .long nu])) :: (bT, .inl (kI, 300, .inl fT)) :: (bU, .inl (kI, 300, .inl fU)) :: (bS, .inl (kI, 2000, .inl fS)) :: (b1, .inl (kI, 2000, .inl f1)) :: (b2, .inl (kI, 2000, .inl f2)) :: (bL, .inl (kZ, 2000, .inl fL)) :: (bK, .inl (kJ, 2000, .inr (.inl fK))) :: (bV, .inl (kJ, 400, .inr (.inl fV))) :: (bN, .inl (kI, 19200, .inl fN)) :: (bX, .inl (kI, 1536, .inl fX)) :: (bA, .inl (kI, 64, .inl fA)) :: (bB, .inl (kI, 64, .inl fB)) :: (bH, .inl (kI, 8, .inl g)) :: tl) → va_S A s.heap H locs → ∀ ls : Array Slot, lv_has ls 6 [(5, .int (nI k)), (4, .int 1), (0, .ref am), (1, .long x0), (3, .int (nI n))] → W p l e (headSpec wsM_name ({ frames := 1, cells := 0, slots := 0, locals := 40 })).room s m ([.ref am, .long x0, .int (nI n)] : List Value).toArray below meth c H locs 0 0 (MQ below (zQ dC dI A (fun v w => (sh_areN x0 (nI n) = false ∧ v = some (.int 0) ∧ w = ((am, .inr (4, [.int 0, .ref bT, .ref bU, .int fsz, .int ln, .int pl, .int ne, .int bd, .ref bS, .ref b1, .ref b2, .ref bL, .ref bK, .ref bV, .int wa, .int hi, .ref bN, .ref bX, .ref bA, .ref bB, .int my, .int gd, .int wr, .ref bH, .int hs, .long nu])) :: (bT, .inl (kI, 300, .inl fT)) :: (bU, .inl (kI, 300, .inl fU)) :: (bS, .inl (kI, 2000, .inl fS)) :: (b1, .inl (kI, 2000, .inl f1)) :: (b2, .inl (kI, 2000, .inl f2)) :: (bL, .inl (kZ, 2000, .inl fL)) :: (bK, .inl (kJ, 2000, .inr (.inl fK))) :: (bV, .inl (kJ, 400, .inr (.inl fV))) :: (bN, .inl (kI, 19200, .inl fN)) :: (bX, .inl (kI, 1536, .inl fX)) :: (bA, .inl (kI, 64, .inl fA)) :: (bB, .inl (kI, 64, .inl fB)) :: (bH, .inl (kI, 8, .inl fH)) :: tl)) ∨ (sh_areN x0 (nI n) = true ∧ v = some (.int 1) ∧ ∃ fH2, (∀ j, j < (nI n).toNatClampNeg → fH2 j = sh_at (sh_bytes x0 (nI n).toNatClampNeg) j) ∧ w = ((am, .inr (4, [.int 0, .ref bT, .ref bU, .int fsz, .int ln, .int pl, .int ne, .int bd, .ref bS, .ref b1, .ref b2, .ref bL, .ref bK, .ref bV, .int wa, .int hi, .ref bN, .ref bX, .ref bA, .ref bB, .int my, .int gd, .int wr, .ref bH, .int (nI n), .long nu])) :: (bT, .inl (kI, 300, .inl fT)) :: (bU, .inl (kI, 300, .inl fU)) :: (bS, .inl (kI, 2000, .inl fS)) :: (b1, .inl (kI, 2000, .inl f1)) :: (b2, .inl (kI, 2000, .inl f2)) :: (bL, .inl (kZ, 2000, .inl fL)) :: (bK, .inl (kJ, 2000, .inr (.inl fK))) :: (bV, .inl (kJ, 400, .inr (.inl fV))) :: (bN, .inl (kI, 19200, .inl fN)) :: (bX, .inl (kI, 1536, .inl fX)) :: (bA, .inl (kI, 64, .inl fA)) :: (bB, .inl (kI, 64, .inl fB)) :: (bH, .inl (kI, 8, .inl fH2)) :: tl)))) ([.ref am, .long x0, .int (nI n)] : List Value).toArray s 0 0 A) (F0 m 90 ls []) := by
        intro f_loop_90
        induction f_loop_90 with
        | zero => intro k g hf; exact absurd hf (Nat.not_lt_zero _)
        | succ f_loop_90 ih_loop_90 =>
          intro k g hf_loop_90 hk hg H locs hP hD hS ls hl
          refine lv_iload hx hb dM_name_90 (lv_at hl 0 rfl) ?_
          refine lv_iload_n hx hb dM_name_92 rfl (lv_at hl 4 rfl) ?_
          refine lv_icmp_ge (tgt := 121) hx hb dM_name_93 (by decide) (fun c_38 => ?_) (fun c_38 => ?_)
          · skip
            have e_93 : n ≤ k := xi_le c_38 (by omega) (by omega)
            refine lv_aload_n hx hb dM_name_121 rfl (lv_at hl 2 rfl) ?_
            refine lv_iload hx hb dM_name_122 (lv_at hl 1 rfl) ?_
            refine lv_if_eq (tgt := 131) hx hb dM_name_124 (by decide) (fun c_39 => ?_) (fun c_39 => ?_)
            · skip
              exact absurd c_39 (by decide)
            refine lv_iload_n hx hb dM_name_127 rfl (lv_at hl 4 rfl) ?_
            refine lv_goto (tgt := 135) hx hb dM_name_128 (by decide) ?_
            refine va_put (D := (dC, dI)) (ci := 4) (v := .int (nI n)) (ty := .int) (C := "ShellSumModel") (T := TM) (N := 26) hx hb htz zu_M tyM tyM_ok nmM hown hK hP hD hS 0 rfl rfl 24 (by decide) (htz _ zw_2_184) (fun _ h9 => h9) rfl (by decide +kernel) rfl rfl (Nat.le_of_ble_eq_true rfl) dM_name_135 (fun H locs hP hD hS => ?_)
            have hP : va_P (dC, dI) vwCl ((am, .inr (4, [.int 0, .ref bT, .ref bU, .int fsz, .int ln, .int pl, .int ne, .int bd, .ref bS, .ref b1, .ref b2, .ref bL, .ref bK, .ref bV, .int wa, .int hi, .ref bN, .ref bX, .ref bA, .ref bB, .int my, .int gd, .int wr, .ref bH, .int (nI n), .long nu])) :: (bT, .inl (kI, 300, .inl fT)) :: (bU, .inl (kI, 300, .inl fU)) :: (bS, .inl (kI, 2000, .inl fS)) :: (b1, .inl (kI, 2000, .inl f1)) :: (b2, .inl (kI, 2000, .inl f2)) :: (bL, .inl (kZ, 2000, .inl fL)) :: (bK, .inl (kJ, 2000, .inr (.inl fK))) :: (bV, .inl (kJ, 400, .inr (.inl fV))) :: (bN, .inl (kI, 19200, .inl fN)) :: (bX, .inl (kI, 1536, .inl fX)) :: (bA, .inl (kI, 64, .inl fA)) :: (bB, .inl (kI, 64, .inl fB)) :: (bH, .inl (kI, 8, .inl g)) :: tl) _ := hP
            have hD : va_D A ((am, .inr (4, [.int 0, .ref bT, .ref bU, .int fsz, .int ln, .int pl, .int ne, .int bd, .ref bS, .ref b1, .ref b2, .ref bL, .ref bK, .ref bV, .int wa, .int hi, .ref bN, .ref bX, .ref bA, .ref bB, .int my, .int gd, .int wr, .ref bH, .int (nI n), .long nu])) :: (bT, .inl (kI, 300, .inl fT)) :: (bU, .inl (kI, 300, .inl fU)) :: (bS, .inl (kI, 2000, .inl fS)) :: (b1, .inl (kI, 2000, .inl f1)) :: (b2, .inl (kI, 2000, .inl f2)) :: (bL, .inl (kZ, 2000, .inl fL)) :: (bK, .inl (kJ, 2000, .inr (.inl fK))) :: (bV, .inl (kJ, 400, .inr (.inl fV))) :: (bN, .inl (kI, 19200, .inl fN)) :: (bX, .inl (kI, 1536, .inl fX)) :: (bA, .inl (kI, 64, .inl fA)) :: (bB, .inl (kI, 64, .inl fB)) :: (bH, .inl (kI, 8, .inl g)) :: tl) := hD
            refine lv_iload hx hb dM_name_138 (lv_at hl 1 rfl) ?_
            refine W.widen (k := 0) (n := 0) (Nat.le_refl _) (Nat.le_refl _) ?_
            exact W.zret (v := 1) hx hb hr (rfl) (fun t ht _ => ⟨_, _, rfl, Or.inr ⟨hb9, rfl, g, by rw [e_n]; exact fun j hj => (by rw [hg j (by omega), sh_bytes_at hj]), rfl⟩, by rw [ht]; exact hP, hD, hS.F ht⟩) hS.2.2 dM_name_140
          have e_93 : k < n := xi_nle c_38 (by omega) (by omega)
          refine lv_iload hx hb dM_name_96 (lv_at hl 1 rfl) ?_
          refine lv_if_eq (tgt := 121) hx hb dM_name_98 (by decide) (fun c_40 => ?_) (fun c_40 => ?_)
          · skip
            exact absurd c_40 (by decide)
          refine lv_aload_n hx hb dM_name_101 rfl (lv_at hl 2 rfl) ?_
          refine va_get (D := (dC, dI)) (ci := 4) (v := .ref bH) (C := "ShellSumModel") (T := TM) (N := 26) hx hb htz zu_M hown hK hP 0 rfl rfl 23 (by decide) (htz _ zw_2_183) (fun _ h9 => h9) rfl dM_name_102 ?_
          refine lv_iload hx hb dM_name_105 (lv_at hl 0 rfl) ?_
          refine lv_lload_n hx hb dM_name_107 rfl (lv_at hl 3 rfl) ?_
          refine lv_iload_n hx hb dM_name_108 rfl (lv_at hl 4 rfl) ?_
          refine lv_iload hx hb dM_name_109 (lv_at hl 0 rfl) ?_
          refine rq_call (va_runS (As := [.long x0, .int (nI n), .int (nI k)]) (rest := [.int (nI k), .ref bH]) ⟨hx, hb, hml, hown, htz⟩ (k_M_byteOf l x0 (nI n) (nI k)) (cwS 3 htz (zg_S zw_3_11 zw_3_12 zw_1_4 zw_3_13) rfl rfl rfl (by decide +kernel) ⟨Nat.le_of_ble_eq_true rfl, Nat.le_of_ble_eq_true rfl⟩) rq_pre rfl rfl hl.1 rfl (lv_room (Nat.le_of_ble_eq_true rfl)) dM_name_111 ⟨Nat.zero_le _, Nat.zero_le _⟩) ?_
          refine W.eq (g2 := F0 m 114 ls [.int (sh_bM x0 (nI n) (nI k)), .int (nI k), .ref bH]) rfl ?_
          refine xw_topi (y := sh_byte x0 n k) (sh_bM_eq (by omega) hn) ?_
          refine va_iast hx hb hK hP hD hS 13 0 rfl rfl (vp_in_nI (by omega) (by omega)) dM_name_114 (fun H locs hP hD hS => ?_)
          have hP : va_P (dC, dI) vwCl ((am, .inr (4, [.int 0, .ref bT, .ref bU, .int fsz, .int ln, .int pl, .int ne, .int bd, .ref bS, .ref b1, .ref b2, .ref bL, .ref bK, .ref bV, .int wa, .int hi, .ref bN, .ref bX, .ref bA, .ref bB, .int my, .int gd, .int wr, .ref bH, .int hs, .long nu])) :: (bT, .inl (kI, 300, .inl fT)) :: (bU, .inl (kI, 300, .inl fU)) :: (bS, .inl (kI, 2000, .inl fS)) :: (b1, .inl (kI, 2000, .inl f1)) :: (b2, .inl (kI, 2000, .inl f2)) :: (bL, .inl (kZ, 2000, .inl fL)) :: (bK, .inl (kJ, 2000, .inr (.inl fK))) :: (bV, .inl (kJ, 400, .inr (.inl fV))) :: (bN, .inl (kI, 19200, .inl fN)) :: (bX, .inl (kI, 1536, .inl fX)) :: (bA, .inl (kI, 64, .inl fA)) :: (bB, .inl (kI, 64, .inl fB)) :: (bH, .inl (kI, 8, .inl (upd g (nI k).toNatClampNeg (sh_byte x0 n k)))) :: tl) _ := hP
          have hD : va_D A ((am, .inr (4, [.int 0, .ref bT, .ref bU, .int fsz, .int ln, .int pl, .int ne, .int bd, .ref bS, .ref b1, .ref b2, .ref bL, .ref bK, .ref bV, .int wa, .int hi, .ref bN, .ref bX, .ref bA, .ref bB, .int my, .int gd, .int wr, .ref bH, .int hs, .long nu])) :: (bT, .inl (kI, 300, .inl fT)) :: (bU, .inl (kI, 300, .inl fU)) :: (bS, .inl (kI, 2000, .inl fS)) :: (b1, .inl (kI, 2000, .inl f1)) :: (b2, .inl (kI, 2000, .inl f2)) :: (bL, .inl (kZ, 2000, .inl fL)) :: (bK, .inl (kJ, 2000, .inr (.inl fK))) :: (bV, .inl (kJ, 400, .inr (.inl fV))) :: (bN, .inl (kI, 19200, .inl fN)) :: (bX, .inl (kI, 1536, .inl fX)) :: (bA, .inl (kI, 64, .inl fA)) :: (bB, .inl (kI, 64, .inl fB)) :: (bH, .inl (kI, 8, .inl (upd g (nI k).toNatClampNeg (sh_byte x0 n k)))) :: tl) := hD
          have e_f : upd g (nI k).toNatClampNeg (sh_byte x0 n k) = upd g k (sh_byte x0 n k) := by rw [nI_clamp (by omega)]
          rw [e_f] at hP hD
          have hP : va_P (dC, dI) vwCl ((am, .inr (4, [.int 0, .ref bT, .ref bU, .int fsz, .int ln, .int pl, .int ne, .int bd, .ref bS, .ref b1, .ref b2, .ref bL, .ref bK, .ref bV, .int wa, .int hi, .ref bN, .ref bX, .ref bA, .ref bB, .int my, .int gd, .int wr, .ref bH, .int hs, .long nu])) :: (bT, .inl (kI, 300, .inl fT)) :: (bU, .inl (kI, 300, .inl fU)) :: (bS, .inl (kI, 2000, .inl fS)) :: (b1, .inl (kI, 2000, .inl f1)) :: (b2, .inl (kI, 2000, .inl f2)) :: (bL, .inl (kZ, 2000, .inl fL)) :: (bK, .inl (kJ, 2000, .inr (.inl fK))) :: (bV, .inl (kJ, 400, .inr (.inl fV))) :: (bN, .inl (kI, 19200, .inl fN)) :: (bX, .inl (kI, 1536, .inl fX)) :: (bA, .inl (kI, 64, .inl fA)) :: (bB, .inl (kI, 64, .inl fB)) :: (bH, .inl (kI, 8, .inl (upd g k (sh_byte x0 n k)))) :: tl) _ := hP
          have hD : va_D A ((am, .inr (4, [.int 0, .ref bT, .ref bU, .int fsz, .int ln, .int pl, .int ne, .int bd, .ref bS, .ref b1, .ref b2, .ref bL, .ref bK, .ref bV, .int wa, .int hi, .ref bN, .ref bX, .ref bA, .ref bB, .int my, .int gd, .int wr, .ref bH, .int hs, .long nu])) :: (bT, .inl (kI, 300, .inl fT)) :: (bU, .inl (kI, 300, .inl fU)) :: (bS, .inl (kI, 2000, .inl fS)) :: (b1, .inl (kI, 2000, .inl f1)) :: (b2, .inl (kI, 2000, .inl f2)) :: (bL, .inl (kZ, 2000, .inl fL)) :: (bK, .inl (kJ, 2000, .inr (.inl fK))) :: (bV, .inl (kJ, 400, .inr (.inl fV))) :: (bN, .inl (kI, 19200, .inl fN)) :: (bX, .inl (kI, 1536, .inl fX)) :: (bA, .inl (kI, 64, .inl fA)) :: (bB, .inl (kI, 64, .inl fB)) :: (bH, .inl (kI, 8, .inl (upd g k (sh_byte x0 n k)))) :: tl) := hD
          refine lv_iinc (v := nI (k + 1)) (lv' := [(5, .int (nI (k + 1))), (4, .int 1), (0, .ref am), (1, .long x0), (3, .int (nI n))]) hx hb dM_name_115 hl (k := 0) rfl (nI_1 k) (by decide) rfl (fun ls hl => ?_)
          refine lv_goto (tgt := 90) hx hb dM_name_118 (by decide) ?_
          exact ih_loop_90 (k + 1) (upd g k (sh_byte x0 n k)) (by omega) (by omega) (lt_s (fun j h => (pk_un (by omega)).trans (hg j h)) pk_us) _ _ hP hD hS ls (lv_sub hl [0, 1, 2, 3, 4] rfl)
      exact loop_90 _ 0 fH (Nat.lt_succ_self _) (Nat.zero_le _) (fun j h => absurd h (Nat.not_lt_zero _)) _ _ hP hD hS ls (lv_sub hl [0, 1, 2, 3, 4] rfl)
  have loop_37 : ∀ (f_loop_37 : Nat) (k : Nat) (b : Bool), n - k < f_loop_37 → (k ≤ n) → (b = true → ∀ j, j < k → sh_word (sh_byte x0 n j) = true) → (b = false → ∃ j, j < n ∧ sh_word (sh_byte x0 n j) = false) → ∀ (H : Heap) (locs : List Loc), va_P (dC, dI) vwCl ((am, .inr (4, [.int 0, .ref bT, .ref bU, .int fsz, .int ln, .int pl, .int ne, .int bd, .ref bS, .ref b1, .ref b2, .ref bL, .ref bK, .ref bV, .int wa, .int hi, .ref bN, .ref bX, .ref bA, .ref bB, .int my, .int gd, .int wr, .ref bH, .int hs, .long nu])) :: (bT, .inl (kI, 300, .inl fT)) :: (bU, .inl (kI, 300, .inl fU)) :: (bS, .inl (kI, 2000, .inl fS)) :: (b1, .inl (kI, 2000, .inl f1)) :: (b2, .inl (kI, 2000, .inl f2)) :: (bL, .inl (kZ, 2000, .inl fL)) :: (bK, .inl (kJ, 2000, .inr (.inl fK))) :: (bV, .inl (kJ, 400, .inr (.inl fV))) :: (bN, .inl (kI, 19200, .inl fN)) :: (bX, .inl (kI, 1536, .inl fX)) :: (bA, .inl (kI, 64, .inl fA)) :: (bB, .inl (kI, 64, .inl fB)) :: (bH, .inl (kI, 8, .inl fH)) :: tl) H → va_D A ((am, .inr (4, [.int 0, .ref bT, .ref bU, .int fsz, .int ln, .int pl, .int ne, .int bd, .ref bS, .ref b1, .ref b2, .ref bL, .ref bK, .ref bV, .int wa, .int hi, .ref bN, .ref bX, .ref bA, .ref bB, .int my, .int gd, .int wr, .ref bH, .int hs, .long nu])) :: (bT, .inl (kI, 300, .inl fT)) :: (bU, .inl (kI, 300, .inl fU)) :: (bS, .inl (kI, 2000, .inl fS)) :: (b1, .inl (kI, 2000, .inl f1)) :: (b2, .inl (kI, 2000, .inl f2)) :: (bL, .inl (kZ, 2000, .inl fL)) :: (bK, .inl (kJ, 2000, .inr (.inl fK))) :: (bV, .inl (kJ, 400, .inr (.inl fV))) :: (bN, .inl (kI, 19200, .inl fN)) :: (bX, .inl (kI, 1536, .inl fX)) :: (bA, .inl (kI, 64, .inl fA)) :: (bB, .inl (kI, 64, .inl fB)) :: (bH, .inl (kI, 8, .inl fH)) :: tl) → va_S A s.heap H locs → ∀ ls : Array Slot, lv_has ls 6 [(5, .int (nI k)), (4, .int (sh_b b)), (0, .ref am), (1, .long x0), (3, .int (nI n))] → W p l e (headSpec wsM_name ({ frames := 1, cells := 0, slots := 0, locals := 40 })).room s m ([.ref am, .long x0, .int (nI n)] : List Value).toArray below meth c H locs 0 0 (MQ below (zQ dC dI A (fun v w => (sh_areN x0 (nI n) = false ∧ v = some (.int 0) ∧ w = ((am, .inr (4, [.int 0, .ref bT, .ref bU, .int fsz, .int ln, .int pl, .int ne, .int bd, .ref bS, .ref b1, .ref b2, .ref bL, .ref bK, .ref bV, .int wa, .int hi, .ref bN, .ref bX, .ref bA, .ref bB, .int my, .int gd, .int wr, .ref bH, .int hs, .long nu])) :: (bT, .inl (kI, 300, .inl fT)) :: (bU, .inl (kI, 300, .inl fU)) :: (bS, .inl (kI, 2000, .inl fS)) :: (b1, .inl (kI, 2000, .inl f1)) :: (b2, .inl (kI, 2000, .inl f2)) :: (bL, .inl (kZ, 2000, .inl fL)) :: (bK, .inl (kJ, 2000, .inr (.inl fK))) :: (bV, .inl (kJ, 400, .inr (.inl fV))) :: (bN, .inl (kI, 19200, .inl fN)) :: (bX, .inl (kI, 1536, .inl fX)) :: (bA, .inl (kI, 64, .inl fA)) :: (bB, .inl (kI, 64, .inl fB)) :: (bH, .inl (kI, 8, .inl fH)) :: tl)) ∨ (sh_areN x0 (nI n) = true ∧ v = some (.int 1) ∧ ∃ fH2, (∀ j, j < (nI n).toNatClampNeg → fH2 j = sh_at (sh_bytes x0 (nI n).toNatClampNeg) j) ∧ w = ((am, .inr (4, [.int 0, .ref bT, .ref bU, .int fsz, .int ln, .int pl, .int ne, .int bd, .ref bS, .ref b1, .ref b2, .ref bL, .ref bK, .ref bV, .int wa, .int hi, .ref bN, .ref bX, .ref bA, .ref bB, .int my, .int gd, .int wr, .ref bH, .int (nI n), .long nu])) :: (bT, .inl (kI, 300, .inl fT)) :: (bU, .inl (kI, 300, .inl fU)) :: (bS, .inl (kI, 2000, .inl fS)) :: (b1, .inl (kI, 2000, .inl f1)) :: (b2, .inl (kI, 2000, .inl f2)) :: (bL, .inl (kZ, 2000, .inl fL)) :: (bK, .inl (kJ, 2000, .inr (.inl fK))) :: (bV, .inl (kJ, 400, .inr (.inl fV))) :: (bN, .inl (kI, 19200, .inl fN)) :: (bX, .inl (kI, 1536, .inl fX)) :: (bA, .inl (kI, 64, .inl fA)) :: (bB, .inl (kI, 64, .inl fB)) :: (bH, .inl (kI, 8, .inl fH2)) :: tl)))) ([.ref am, .long x0, .int (nI n)] : List Value).toArray s 0 0 A) (F0 m 37 ls []) := by
    intro f_loop_37
    induction f_loop_37 with
    | zero => intro k b hf; exact absurd hf (Nat.not_lt_zero _)
    | succ f_loop_37 ih_loop_37 =>
      intro k b hf_loop_37 hk h1 h2 H locs hP hD hS ls hl
      refine lv_iload hx hb dM_name_37 (lv_at hl 0 rfl) ?_
      refine lv_iload_n hx hb dM_name_39 rfl (lv_at hl 4 rfl) ?_
      refine lv_icmp_ge (tgt := 87) hx hb dM_name_40 (by decide) (fun c_41 => ?_) (fun c_41 => ?_)
      · skip
        have e_40 : n ≤ k := xi_le c_41 (by omega) (by omega)
        exact j_87 b (areN_end hnn1 hn e_24 h1 h2 (Or.inl e_40)) _ _ hP hD hS ls (lv_sub hl [1, 2, 3, 4] rfl)
      have e_40 : k < n := xi_nle c_41 (by omega) (by omega)
      refine lv_iload hx hb dM_name_43 (lv_at hl 1 rfl) ?_
      refine lv_if_eq (tgt := 87) hx hb dM_name_45 (by decide) (fun c_42 => ?_) (fun c_42 => ?_)
      · skip
        exact j_87 b (areN_end hnn1 hn e_24 h1 h2 (Or.inr c_42)) _ _ hP hD hS ls (lv_sub hl [1, 2, 3, 4] rfl)
      have e_45 : b = true := sh_bt c_42
      refine lv_lload_n hx hb dM_name_48 rfl (lv_at hl 3 rfl) ?_
      refine lv_iload_n hx hb dM_name_49 rfl (lv_at hl 4 rfl) ?_
      refine lv_iload hx hb dM_name_50 (lv_at hl 0 rfl) ?_
      refine rq_call (va_runS (As := [.long x0, .int (nI n), .int (nI k)]) (rest := []) ⟨hx, hb, hml, hown, htz⟩ (k_M_byteOf l x0 (nI n) (nI k)) (cwS 3 htz (zg_S zw_3_11 zw_3_12 zw_1_4 zw_3_13) rfl rfl rfl (by decide +kernel) ⟨Nat.le_of_ble_eq_true rfl, Nat.le_of_ble_eq_true rfl⟩) rq_pre rfl rfl hl.1 rfl (lv_room (Nat.le_of_ble_eq_true rfl)) dM_name_52 ⟨Nat.zero_le _, Nat.zero_le _⟩) ?_
      refine W.eq (g2 := F0 m 55 ls [.int (sh_bM x0 (nI n) (nI k))]) rfl ?_
      refine xw_topi (y := sh_byte x0 n k) (sh_bM_eq (by omega) hn) ?_
      refine rq_call (va_runS (As := [.int (sh_byte x0 n k)]) (rest := []) ⟨hx, hb, hml, hown, htz⟩ (k_M_isLetter l (sh_byte x0 n k)) (cwS 1 htz (zg_S zw_3_22 zw_3_23 zw_1_4 zw_3_24) rfl rfl rfl (by decide +kernel) ⟨Nat.le_of_ble_eq_true rfl, Nat.le_of_ble_eq_true rfl⟩) rq_pre rfl rfl hl.1 rfl (lv_room (Nat.le_of_ble_eq_true rfl)) dM_name_55 ⟨Nat.zero_le _, Nat.zero_le _⟩) ?_
      refine W.eq (g2 := F0 m 58 ls [.int (sh_b (sh_start (sh_byte x0 n k)))]) rfl ?_
      refine lv_if_ne (tgt := 74) hx hb dM_name_58 (by decide) (fun c_43 => ?_) (fun c_43 => ?_)
      · skip
        refine lv_iconst (v := 1) hx hb dM_name_74 (by decide) ?_
        refine lv_goto (tgt := 79) hx hb dM_name_75 (by decide) ?_
        refine xw_topi (y := sh_b true) (rfl) ?_
        refine lv_istore (lv' := [(4, .int (sh_b true)), (5, .int (nI k)), (0, .ref am), (1, .long x0), (3, .int (nI n))]) hx hb dM_name_79 hl (by decide) rfl (fun ls hl => ?_)
        refine lv_iinc (v := nI (k + 1)) (lv' := [(5, .int (nI (k + 1))), (4, .int (sh_b true)), (0, .ref am), (1, .long x0), (3, .int (nI n))]) hx hb dM_name_81 hl (k := 1) rfl (nI_1 k) (by decide) rfl (fun ls hl => ?_)
        refine lv_goto (tgt := 37) hx hb dM_name_84 (by decide) ?_
        exact ih_loop_37 (k + 1) true (by omega) (by omega) (fun _ => lt_s (h1 e_45) (by unfold sh_word; grind [sh_b])) (fun h => by cases h) _ _ hP hD hS ls (lv_sub hl [0, 1, 2, 3, 4] rfl)
      refine lv_lload_n hx hb dM_name_61 rfl (lv_at hl 3 rfl) ?_
      refine lv_iload_n hx hb dM_name_62 rfl (lv_at hl 4 rfl) ?_
      refine lv_iload hx hb dM_name_63 (lv_at hl 0 rfl) ?_
      refine rq_call (va_runS (As := [.long x0, .int (nI n), .int (nI k)]) (rest := []) ⟨hx, hb, hml, hown, htz⟩ (k_M_byteOf l x0 (nI n) (nI k)) (cwS 3 htz (zg_S zw_3_11 zw_3_12 zw_1_4 zw_3_13) rfl rfl rfl (by decide +kernel) ⟨Nat.le_of_ble_eq_true rfl, Nat.le_of_ble_eq_true rfl⟩) rq_pre rfl rfl hl.1 rfl (lv_room (Nat.le_of_ble_eq_true rfl)) dM_name_65 ⟨Nat.zero_le _, Nat.zero_le _⟩) ?_
      refine W.eq (g2 := F0 m 68 ls [.int (sh_bM x0 (nI n) (nI k))]) rfl ?_
      refine xw_topi (y := sh_byte x0 n k) (sh_bM_eq (by omega) hn) ?_
      refine rq_call (va_runS (As := [.int (sh_byte x0 n k)]) (rest := []) ⟨hx, hb, hml, hown, htz⟩ (k_M_isDigit l (sh_byte x0 n k)) (cwS 1 htz (zg_S zw_3_25 zw_3_26 zw_1_4 zw_3_27) rfl rfl rfl (by decide +kernel) ⟨Nat.le_of_ble_eq_true rfl, Nat.le_of_ble_eq_true rfl⟩) rq_pre rfl rfl hl.1 rfl (lv_room (Nat.le_of_ble_eq_true rfl)) dM_name_68 ⟨Nat.zero_le _, Nat.zero_le _⟩) ?_
      refine W.eq (g2 := F0 m 71 ls [.int (sh_b (sh_digit (sh_byte x0 n k)))]) rfl ?_
      refine lv_if_eq (tgt := 78) hx hb dM_name_71 (by decide) (fun c_44 => ?_) (fun c_44 => ?_)
      · skip
        refine lv_iconst (v := 0) hx hb dM_name_78 (by decide) ?_
        refine xw_topi (y := sh_b false) (rfl) ?_
        refine lv_istore (lv' := [(4, .int (sh_b false)), (5, .int (nI k)), (0, .ref am), (1, .long x0), (3, .int (nI n))]) hx hb dM_name_79 hl (by decide) rfl (fun ls hl => ?_)
        refine lv_iinc (v := nI (k + 1)) (lv' := [(5, .int (nI (k + 1))), (4, .int (sh_b false)), (0, .ref am), (1, .long x0), (3, .int (nI n))]) hx hb dM_name_81 hl (k := 1) rfl (nI_1 k) (by decide) rfl (fun ls hl => ?_)
        refine lv_goto (tgt := 37) hx hb dM_name_84 (by decide) ?_
        exact ih_loop_37 (k + 1) false (by omega) (by omega) (fun h => by cases h) (fun _ => ⟨k, by omega, by unfold sh_word; grind [sh_b]⟩) _ _ hP hD hS ls (lv_sub hl [0, 1, 2, 3, 4] rfl)
      refine lv_iconst (v := 1) hx hb dM_name_74 (by decide) ?_
      refine lv_goto (tgt := 79) hx hb dM_name_75 (by decide) ?_
      refine xw_topi (y := sh_b true) (rfl) ?_
      refine lv_istore (lv' := [(4, .int (sh_b true)), (5, .int (nI k)), (0, .ref am), (1, .long x0), (3, .int (nI n))]) hx hb dM_name_79 hl (by decide) rfl (fun ls hl => ?_)
      refine lv_iinc (v := nI (k + 1)) (lv' := [(5, .int (nI (k + 1))), (4, .int (sh_b true)), (0, .ref am), (1, .long x0), (3, .int (nI n))]) hx hb dM_name_81 hl (k := 1) rfl (nI_1 k) (by decide) rfl (fun ls hl => ?_)
      refine lv_goto (tgt := 37) hx hb dM_name_84 (by decide) ?_
      exact ih_loop_37 (k + 1) true (by omega) (by omega) (fun _ => lt_s (h1 e_45) (by unfold sh_word; grind [sh_b])) (fun h => by cases h) _ _ hP hD hS ls (lv_sub hl [0, 1, 2, 3, 4] rfl)
  exact loop_37 _ 0 true (Nat.lt_succ_self _) (Nat.zero_le _) (fun _ j h => absurd h (Nat.not_lt_zero _)) (fun h => by cases h) _ _ hP hD hS ls (lv_sub hl [0, 1, 2, 3, 4] rfl)
set_option maxHeartbeats 4000000 in
set_option maxRecDepth 100000 in
/-- put(chars, n) -/
theorem k_M_put (l : Launch) (dC : Nat → ClassId) (dI : Nat → Nat → Nat) (kI kJ kZ : ClassId) (am bT bU bS b1 b2 bL bK bV bN bX bA bB bH : Nat) (cd fsz ln pl ne bd wa hi my gd wr hs : Int32) (nu : Int64) (fT fU fS f1 f2 fL fN fX fA fB fH : Nat → Int32) (fK fV : Nat → Int64) (tl : va_W) (sz : Nat) (nl : List Int32) (hn1 : 1 ≤ nl.length) (hn8 : nl.length ≤ 8) (hfh : ∀ j, j < nl.length → fH j = sh_at nl j) (sl : List mO) (env : sh_Env) (hM : zMn fN fX fA fB sl env) (x0 : Int64) (n0 : Int32) : Met l yM_put wsM_put ({ frames := 2, cells := 0, slots := 0, locals := 80 }) (va_Pc [.ref am, .long x0, .int n0] (zW dC dI ([(kI, .int), (kJ, .long), (kZ, .boolean)]) ((am, .inr (4, [.int cd, .ref bT, .ref bU, .int fsz, .int ln, .int pl, .int ne, .int bd, .ref bS, .ref b1, .ref b2, .ref bL, .ref bK, .ref bV, .int wa, .int hi, .ref bN, .ref bX, .ref bA, .ref bB, .int (nI env.length), .int gd, .int wr, .ref bH, .int (nI nl.length), .long nu])) :: (bT, .inl (kI, 300, .inl fT)) :: (bU, .inl (kI, 300, .inl fU)) :: (bS, .inl (kI, 2000, .inl fS)) :: (b1, .inl (kI, 2000, .inl f1)) :: (b2, .inl (kI, 2000, .inl f2)) :: (bL, .inl (kZ, 2000, .inl fL)) :: (bK, .inl (kJ, 2000, .inr (.inl fK))) :: (bV, .inl (kJ, 400, .inr (.inl fV))) :: (bN, .inl (kI, 19200, .inl fN)) :: (bX, .inl (kI, 1536, .inl fX)) :: (bA, .inl (kI, 64, .inl fA)) :: (bB, .inl (kI, 64, .inl fB)) :: (bH, .inl (kI, 8, .inl fH)) :: tl) sz)) (zQ dC dI (va_A ((am, .inr (4, [.int cd, .ref bT, .ref bU, .int fsz, .int ln, .int pl, .int ne, .int bd, .ref bS, .ref b1, .ref b2, .ref bL, .ref bK, .ref bV, .int wa, .int hi, .ref bN, .ref bX, .ref bA, .ref bB, .int (nI env.length), .int gd, .int wr, .ref bH, .int (nI nl.length), .long nu])) :: (bT, .inl (kI, 300, .inl fT)) :: (bU, .inl (kI, 300, .inl fU)) :: (bS, .inl (kI, 2000, .inl fS)) :: (b1, .inl (kI, 2000, .inl f1)) :: (b2, .inl (kI, 2000, .inl f2)) :: (bL, .inl (kZ, 2000, .inl fL)) :: (bK, .inl (kJ, 2000, .inr (.inl fK))) :: (bV, .inl (kJ, 400, .inr (.inl fV))) :: (bN, .inl (kI, 19200, .inl fN)) :: (bX, .inl (kI, 1536, .inl fX)) :: (bA, .inl (kI, 64, .inl fA)) :: (bB, .inl (kI, 64, .inl fB)) :: (bH, .inl (kI, 8, .inl fH)) :: tl) sz) (fun v w => v = some (.int (sh_b (sh_aput env nl x0 n0).1)) ∧ ∃ (fN2 fX2 fA2 fB2 : Nat → Int32) (sl2 : List mO), zMn fN2 fX2 fA2 fB2 sl2 (sh_aput env nl x0 n0).2 ∧ w = ((am, .inr (4, [.int 0, .ref bT, .ref bU, .int fsz, .int ln, .int pl, .int ne, .int bd, .ref bS, .ref b1, .ref b2, .ref bL, .ref bK, .ref bV, .int wa, .int hi, .ref bN, .ref bX, .ref bA, .ref bB, .int (nI (sh_aput env nl x0 n0).2.length), .int gd, .int wr, .ref bH, .int (nI nl.length), .long nu])) :: (bT, .inl (kI, 300, .inl fT)) :: (bU, .inl (kI, 300, .inl fU)) :: (bS, .inl (kI, 2000, .inl fS)) :: (b1, .inl (kI, 2000, .inl f1)) :: (b2, .inl (kI, 2000, .inl f2)) :: (bL, .inl (kZ, 2000, .inl fL)) :: (bK, .inl (kJ, 2000, .inr (.inl fK))) :: (bV, .inl (kJ, 400, .inr (.inl fV))) :: (bN, .inl (kI, 19200, .inl fN2)) :: (bX, .inl (kI, 1536, .inl fX2)) :: (bA, .inl (kI, 64, .inl fA2)) :: (bB, .inl (kI, 64, .inl fB2)) :: (bH, .inl (kI, 8, .inl fH)) :: tl))) 0 0 (va_A ((am, .inr (4, [.int cd, .ref bT, .ref bU, .int fsz, .int ln, .int pl, .int ne, .int bd, .ref bS, .ref b1, .ref b2, .ref bL, .ref bK, .ref bV, .int wa, .int hi, .ref bN, .ref bX, .ref bA, .ref bB, .int (nI env.length), .int gd, .int wr, .ref bH, .int (nI nl.length), .long nu])) :: (bT, .inl (kI, 300, .inl fT)) :: (bU, .inl (kI, 300, .inl fU)) :: (bS, .inl (kI, 2000, .inl fS)) :: (b1, .inl (kI, 2000, .inl f1)) :: (b2, .inl (kI, 2000, .inl f2)) :: (bL, .inl (kZ, 2000, .inl fL)) :: (bK, .inl (kJ, 2000, .inr (.inl fK))) :: (bV, .inl (kJ, 400, .inr (.inl fV))) :: (bN, .inl (kI, 19200, .inl fN)) :: (bX, .inl (kI, 1536, .inl fX)) :: (bA, .inl (kI, 64, .inl fA)) :: (bB, .inl (kI, 64, .inl fB)) :: (bH, .inl (kI, 8, .inl fH)) :: tl) sz) := by
  refine Met.ofW (cc := cM_put) (maxL := 6) (ret := (some .boolean)) (by decide) rfl ?_
  intro p e s m args below meth c s₁ B hml hv
  obtain ⟨rfl, hsz, hP, hK, hD0, hN⟩ := hv
  subst hsz
  have hD := hD0.self (sz := s.heap.size)
  generalize hAe : va_A ((am, .inr (4, [.int cd, .ref bT, .ref bU, .int fsz, .int ln, .int pl, .int ne, .int bd, .ref bS, .ref b1, .ref b2, .ref bL, .ref bK, .ref bV, .int wa, .int hi, .ref bN, .ref bX, .ref bA, .ref bB, .int (nI env.length), .int gd, .int wr, .ref bH, .int (nI nl.length), .long nu])) :: (bT, .inl (kI, 300, .inl fT)) :: (bU, .inl (kI, 300, .inl fU)) :: (bS, .inl (kI, 2000, .inl fS)) :: (b1, .inl (kI, 2000, .inl f1)) :: (b2, .inl (kI, 2000, .inl f2)) :: (bL, .inl (kZ, 2000, .inl fL)) :: (bK, .inl (kJ, 2000, .inr (.inl fK))) :: (bV, .inl (kJ, 400, .inr (.inl fV))) :: (bN, .inl (kI, 19200, .inl fN)) :: (bX, .inl (kI, 1536, .inl fX)) :: (bA, .inl (kI, 64, .inl fA)) :: (bB, .inl (kI, 64, .inl fB)) :: (bH, .inl (kI, 8, .inl fH)) :: tl) s.heap.size = A at hD ⊢
  have hA : ∀ q : Nat, s.heap.size ≤ q → A q := fun q h => by rw [← hAe]; exact Or.inr h
  have hS : va_S A s.heap s.heap [] := va_S.rf
  have hx := B.exec
  have hb := B.bytes
  have hr := B.returns
  have htz : ∀ w ∈ zw, w.before _ s = true := fun w h => atoms_spec (ws := wsM_put) B.pre w (List.mem_cons_of_mem _ h)
  have hown : s.vm.findClass "ShellSumModel" = some m.cls := findClass_of_methodNamed B.named
  have hlocks := B.notSynchronized
  have hl := lv_entry ([.ref am, .long x0, .int n0]) (n := 6) (Nat.le_of_ble_eq_true rfl)
  rw [lg_entry_eq]
  generalize (lg_sl ([.ref am, .long x0, .int n0]) ++ List.replicate (6 - (lg_sl ([.ref am, .long x0, .int n0])).length) Slot.unset).toArray = ls at hl ⊢
  have hl : lv_has ls 6 [(0, .ref am), (1, .long x0), (3, .int n0)] := hl
  have hl64 := hM.2.2.2.2
  refine lv_aload_n hx hb dM_put_0 rfl (lv_at hl 0 rfl) ?_
  refine lv_iconst (v := 0) hx hb dM_put_1 (by decide) ?_
  refine va_put (D := (dC, dI)) (ci := 4) (v := .int 0) (ty := .int) (C := "ShellSumModel") (T := TM) (N := 26) hx hb htz zu_M tyM tyM_ok nmM hown hK hP hD hS 0 rfl rfl 0 (by decide) (htz _ zw_2_160) (fun _ h9 => h9) rfl (by decide +kernel) rfl rfl (Nat.le_of_ble_eq_true rfl) dM_put_2 (fun H locs hP hD hS => ?_)
  have hP : va_P (dC, dI) vwCl ((am, .inr (4, [.int 0, .ref bT, .ref bU, .int fsz, .int ln, .int pl, .int ne, .int bd, .ref bS, .ref b1, .ref b2, .ref bL, .ref bK, .ref bV, .int wa, .int hi, .ref bN, .ref bX, .ref bA, .ref bB, .int (nI env.length), .int gd, .int wr, .ref bH, .int (nI nl.length), .long nu])) :: (bT, .inl (kI, 300, .inl fT)) :: (bU, .inl (kI, 300, .inl fU)) :: (bS, .inl (kI, 2000, .inl fS)) :: (b1, .inl (kI, 2000, .inl f1)) :: (b2, .inl (kI, 2000, .inl f2)) :: (bL, .inl (kZ, 2000, .inl fL)) :: (bK, .inl (kJ, 2000, .inr (.inl fK))) :: (bV, .inl (kJ, 400, .inr (.inl fV))) :: (bN, .inl (kI, 19200, .inl fN)) :: (bX, .inl (kI, 1536, .inl fX)) :: (bA, .inl (kI, 64, .inl fA)) :: (bB, .inl (kI, 64, .inl fB)) :: (bH, .inl (kI, 8, .inl fH)) :: tl) _ := hP
  have hD : va_D A ((am, .inr (4, [.int 0, .ref bT, .ref bU, .int fsz, .int ln, .int pl, .int ne, .int bd, .ref bS, .ref b1, .ref b2, .ref bL, .ref bK, .ref bV, .int wa, .int hi, .ref bN, .ref bX, .ref bA, .ref bB, .int (nI env.length), .int gd, .int wr, .ref bH, .int (nI nl.length), .long nu])) :: (bT, .inl (kI, 300, .inl fT)) :: (bU, .inl (kI, 300, .inl fU)) :: (bS, .inl (kI, 2000, .inl fS)) :: (b1, .inl (kI, 2000, .inl f1)) :: (b2, .inl (kI, 2000, .inl f2)) :: (bL, .inl (kZ, 2000, .inl fL)) :: (bK, .inl (kJ, 2000, .inr (.inl fK))) :: (bV, .inl (kJ, 400, .inr (.inl fV))) :: (bN, .inl (kI, 19200, .inl fN)) :: (bX, .inl (kI, 1536, .inl fX)) :: (bA, .inl (kI, 64, .inl fA)) :: (bB, .inl (kI, 64, .inl fB)) :: (bH, .inl (kI, 8, .inl fH)) :: tl) := hD
  refine lv_lload_n hx hb dM_put_5 rfl (lv_at hl 1 rfl) ?_
  refine lv_iload_n hx hb dM_put_6 rfl (lv_at hl 2 rfl) ?_
  refine rq_call (va_runS (As := [.long x0, .int n0]) (rest := []) ⟨hx, hb, hml, hown, htz⟩ (k_M_areTexts l x0 n0) (cwS 2 htz (zg_S zw_3_8 zw_3_9 zw_1_4 zw_3_10) rfl rfl rfl (by decide +kernel) ⟨Nat.le_of_ble_eq_true rfl, Nat.le_of_ble_eq_true rfl⟩) rq_pre rfl rfl hl.1 rfl (lv_room (Nat.le_of_ble_eq_true rfl)) dM_put_7 ⟨Nat.zero_le _, Nat.zero_le _⟩) ?_
  refine W.eq (g2 := F0 m 10 ls [.int (sh_b (sh_areT x0 n0))]) rfl ?_
  refine lv_if_ne (tgt := 15) hx hb dM_put_10 (by decide) (fun c_1 => ?_) (fun c_1 => ?_)
  · skip
    have e_10 : sh_areT x0 n0 = true := sh_bt c_1
    have e_r : (sh_aput env nl x0 n0) = match sh_put env nl (sh_bytes x0 n0.toNatClampNeg) with | none => (false, env) | some e2 => (true, e2) := by unfold sh_aput; rw [if_pos e_10]; rfl
    obtain ⟨n, hn, rfl⟩ := sh_areT_of e_10
    have e_n : (nI n).toNatClampNeg = n := nI_clamp (by omega)
    rw [e_n] at e_r
    have hbl := sh_bytes_len x0 n
    refine lv_aload_n hx hb dM_put_15 rfl (lv_at hl 0 rfl) ?_
    refine lv_aload_n hx hb dM_put_16 rfl (lv_at hl 0 rfl) ?_
    refine va_get (D := (dC, dI)) (ci := 4) (v := .ref bH) (C := "ShellSumModel") (T := TM) (N := 26) hx hb htz zu_M hown hK hP 0 rfl rfl 23 (by decide) (htz _ zw_2_183) (fun _ h9 => h9) rfl dM_put_17 ?_
    refine lv_iconst (v := 0) hx hb dM_put_20 (by decide) ?_
    refine lv_aload_n hx hb dM_put_21 rfl (lv_at hl 0 rfl) ?_
    refine va_get (D := (dC, dI)) (ci := 4) (v := .int (nI nl.length)) (C := "ShellSumModel") (T := TM) (N := 26) hx hb htz zu_M hown hK hP 0 rfl rfl 24 (by decide) (htz _ zw_2_184) (fun _ h9 => h9) rfl dM_put_22 ?_
    refine W.eq (g2 := F0 m 25 ls [.int (nI nl.length), .int (nI 0), .ref bH, .ref am]) rfl ?_
    refine zQ_call (va_runV (As := [.ref bH, .int (nI 0), .int (nI nl.length)]) (rest := []) ⟨hx, hb, hml, hown, htz⟩ (k_M_placeForH l dC dI kI kJ kZ am bT bU bS b1 b2 bL bK bV bN bX bA bB bH 0 fsz ln pl ne bd wa hi (nI env.length) gd wr (nI nl.length) nu fT fU fS f1 f2 fL fN fX fA fB fH fK fV tl _ 0 nl sl env (fun j h => by rw [Nat.zero_add]; exact hfh j h) (by omega) hn1 hM) (cwV 3 htz (zg_V zw_3_32 zw_3_34 zs_M_placeFor zw_1_4 zw_3_35) rfl rfl rfl (by decide +kernel) ⟨Nat.le_of_ble_eq_true rfl, Nat.le_of_ble_eq_true rfl⟩) (zW_V hP hK hD hN (va_recv hK hP (ci := 4) (q0 := 0) rfl rfl)) rfl rfl hl.1 rfl (lv_room (Nat.le_of_ble_eq_true rfl)) dM_put_25 ⟨Nat.zero_le _, Nat.zero_le _⟩) hD hS hA (fun v w H locs hp hP hD hS => ?_)
    have j_28 : ∀ (k : Nat) (gN gA : Nat → Int32) (m2 : Nat), (k < 64) → (∀ gX : Nat → Int32, (∀ j, j < (sh_bytes x0 n).length → gX (24 * k + j) = sh_at (sh_bytes x0 n) j) → (∀ j, (j < 24 * k ∨ 24 * k + 24 ≤ j) → gX j = fX j) → ∃ sl2 e2, sh_put env nl (sh_bytes x0 n) = some e2 ∧ zMn gN gX gA (upd fB k (nI (sh_bytes x0 n).length)) sl2 e2 ∧ e2.length = m2) → ∀ (H : Heap) (locs : List Loc), va_P (dC, dI) vwCl ((am, .inr (4, [.int 0, .ref bT, .ref bU, .int fsz, .int ln, .int pl, .int ne, .int bd, .ref bS, .ref b1, .ref b2, .ref bL, .ref bK, .ref bV, .int wa, .int hi, .ref bN, .ref bX, .ref bA, .ref bB, .int (nI m2), .int gd, .int wr, .ref bH, .int (nI nl.length), .long nu])) :: (bT, .inl (kI, 300, .inl fT)) :: (bU, .inl (kI, 300, .inl fU)) :: (bS, .inl (kI, 2000, .inl fS)) :: (b1, .inl (kI, 2000, .inl f1)) :: (b2, .inl (kI, 2000, .inl f2)) :: (bL, .inl (kZ, 2000, .inl fL)) :: (bK, .inl (kJ, 2000, .inr (.inl fK))) :: (bV, .inl (kJ, 400, .inr (.inl fV))) :: (bN, .inl (kI, 19200, .inl gN)) :: (bX, .inl (kI, 1536, .inl fX)) :: (bA, .inl (kI, 64, .inl gA)) :: (bB, .inl (kI, 64, .inl fB)) :: (bH, .inl (kI, 8, .inl fH)) :: tl) H → va_D A ((am, .inr (4, [.int 0, .ref bT, .ref bU, .int fsz, .int ln, .int pl, .int ne, .int bd, .ref bS, .ref b1, .ref b2, .ref bL, .ref bK, .ref bV, .int wa, .int hi, .ref bN, .ref bX, .ref bA, .ref bB, .int (nI m2), .int gd, .int wr, .ref bH, .int (nI nl.length), .long nu])) :: (bT, .inl (kI, 300, .inl fT)) :: (bU, .inl (kI, 300, .inl fU)) :: (bS, .inl (kI, 2000, .inl fS)) :: (b1, .inl (kI, 2000, .inl f1)) :: (b2, .inl (kI, 2000, .inl f2)) :: (bL, .inl (kZ, 2000, .inl fL)) :: (bK, .inl (kJ, 2000, .inr (.inl fK))) :: (bV, .inl (kJ, 400, .inr (.inl fV))) :: (bN, .inl (kI, 19200, .inl gN)) :: (bX, .inl (kI, 1536, .inl fX)) :: (bA, .inl (kI, 64, .inl gA)) :: (bB, .inl (kI, 64, .inl fB)) :: (bH, .inl (kI, 8, .inl fH)) :: tl) → va_S A s.heap H locs → ∀ ls : Array Slot, lv_has ls 6 [(0, .ref am), (1, .long x0), (3, .int (nI n))] → W p l e (headSpec wsM_put ({ frames := 2, cells := 0, slots := 0, locals := 80 })).room s m ([.ref am, .long x0, .int (nI n)] : List Value).toArray below meth c H locs 0 0 (MQ below (zQ dC dI A (fun v w => v = some (.int (sh_b (sh_aput env nl x0 (nI n)).1)) ∧ ∃ (fN2 fX2 fA2 fB2 : Nat → Int32) (sl2 : List mO), zMn fN2 fX2 fA2 fB2 sl2 (sh_aput env nl x0 (nI n)).2 ∧ w = ((am, .inr (4, [.int 0, .ref bT, .ref bU, .int fsz, .int ln, .int pl, .int ne, .int bd, .ref bS, .ref b1, .ref b2, .ref bL, .ref bK, .ref bV, .int wa, .int hi, .ref bN, .ref bX, .ref bA, .ref bB, .int (nI (sh_aput env nl x0 (nI n)).2.length), .int gd, .int wr, .ref bH, .int (nI nl.length), .long nu])) :: (bT, .inl (kI, 300, .inl fT)) :: (bU, .inl (kI, 300, .inl fU)) :: (bS, .inl (kI, 2000, .inl fS)) :: (b1, .inl (kI, 2000, .inl f1)) :: (b2, .inl (kI, 2000, .inl f2)) :: (bL, .inl (kZ, 2000, .inl fL)) :: (bK, .inl (kJ, 2000, .inr (.inl fK))) :: (bV, .inl (kJ, 400, .inr (.inl fV))) :: (bN, .inl (kI, 19200, .inl fN2)) :: (bX, .inl (kI, 1536, .inl fX2)) :: (bA, .inl (kI, 64, .inl fA2)) :: (bB, .inl (kI, 64, .inl fB2)) :: (bH, .inl (kI, 8, .inl fH)) :: tl))) ([.ref am, .long x0, .int (nI n)] : List Value).toArray s 0 0 A) (F0 m 28 ls [.int (nI k)]) := by
      intro k gN gA m2 hk64 hfin H locs hP hD hS ls hl
      refine lv_istore (lv' := [(4, .int (nI k)), (0, .ref am), (1, .long x0), (3, .int (nI n))]) hx hb dM_put_28 hl (by decide) rfl (fun ls hl => ?_)
      refine lv_iload hx hb dM_put_30 (lv_at hl 0 rfl) ?_
      refine lv_iconst (v := (-1)) hx hb dM_put_32 (by decide) ?_
      refine lv_icmp_ne (tgt := 38) hx hb dM_put_33 (by decide) (fun c_2 => ?_) (fun c_2 => ?_)
      · skip
        refine lv_aload_n hx hb dM_put_38 rfl (lv_at hl 1 rfl) ?_
        refine va_get (D := (dC, dI)) (ci := 4) (v := .ref bB) (C := "ShellSumModel") (T := TM) (N := 26) hx hb htz zu_M hown hK hP 0 rfl rfl 19 (by decide) (htz _ zw_2_179) (fun _ h9 => h9) rfl dM_put_39 ?_
        refine lv_iload hx hb dM_put_42 (lv_at hl 0 rfl) ?_
        refine lv_iload_n hx hb dM_put_44 rfl (lv_at hl 3 rfl) ?_
        refine va_iast hx hb hK hP hD hS 12 0 rfl rfl (vp_in_nI (by omega) (by omega)) dM_put_45 (fun H locs hP hD hS => ?_)
        have hP : va_P (dC, dI) vwCl ((am, .inr (4, [.int 0, .ref bT, .ref bU, .int fsz, .int ln, .int pl, .int ne, .int bd, .ref bS, .ref b1, .ref b2, .ref bL, .ref bK, .ref bV, .int wa, .int hi, .ref bN, .ref bX, .ref bA, .ref bB, .int (nI m2), .int gd, .int wr, .ref bH, .int (nI nl.length), .long nu])) :: (bT, .inl (kI, 300, .inl fT)) :: (bU, .inl (kI, 300, .inl fU)) :: (bS, .inl (kI, 2000, .inl fS)) :: (b1, .inl (kI, 2000, .inl f1)) :: (b2, .inl (kI, 2000, .inl f2)) :: (bL, .inl (kZ, 2000, .inl fL)) :: (bK, .inl (kJ, 2000, .inr (.inl fK))) :: (bV, .inl (kJ, 400, .inr (.inl fV))) :: (bN, .inl (kI, 19200, .inl gN)) :: (bX, .inl (kI, 1536, .inl fX)) :: (bA, .inl (kI, 64, .inl gA)) :: (bB, .inl (kI, 64, .inl (upd fB (nI k).toNatClampNeg (nI n)))) :: (bH, .inl (kI, 8, .inl fH)) :: tl) _ := hP
        have hD : va_D A ((am, .inr (4, [.int 0, .ref bT, .ref bU, .int fsz, .int ln, .int pl, .int ne, .int bd, .ref bS, .ref b1, .ref b2, .ref bL, .ref bK, .ref bV, .int wa, .int hi, .ref bN, .ref bX, .ref bA, .ref bB, .int (nI m2), .int gd, .int wr, .ref bH, .int (nI nl.length), .long nu])) :: (bT, .inl (kI, 300, .inl fT)) :: (bU, .inl (kI, 300, .inl fU)) :: (bS, .inl (kI, 2000, .inl fS)) :: (b1, .inl (kI, 2000, .inl f1)) :: (b2, .inl (kI, 2000, .inl f2)) :: (bL, .inl (kZ, 2000, .inl fL)) :: (bK, .inl (kJ, 2000, .inr (.inl fK))) :: (bV, .inl (kJ, 400, .inr (.inl fV))) :: (bN, .inl (kI, 19200, .inl gN)) :: (bX, .inl (kI, 1536, .inl fX)) :: (bA, .inl (kI, 64, .inl gA)) :: (bB, .inl (kI, 64, .inl (upd fB (nI k).toNatClampNeg (nI n)))) :: (bH, .inl (kI, 8, .inl fH)) :: tl) := hD
        have e_f : upd fB (nI k).toNatClampNeg (nI n) = upd fB k (nI n) := by rw [nI_clamp (by omega)]
        rw [e_f] at hP hD
        have hP : va_P (dC, dI) vwCl ((am, .inr (4, [.int 0, .ref bT, .ref bU, .int fsz, .int ln, .int pl, .int ne, .int bd, .ref bS, .ref b1, .ref b2, .ref bL, .ref bK, .ref bV, .int wa, .int hi, .ref bN, .ref bX, .ref bA, .ref bB, .int (nI m2), .int gd, .int wr, .ref bH, .int (nI nl.length), .long nu])) :: (bT, .inl (kI, 300, .inl fT)) :: (bU, .inl (kI, 300, .inl fU)) :: (bS, .inl (kI, 2000, .inl fS)) :: (b1, .inl (kI, 2000, .inl f1)) :: (b2, .inl (kI, 2000, .inl f2)) :: (bL, .inl (kZ, 2000, .inl fL)) :: (bK, .inl (kJ, 2000, .inr (.inl fK))) :: (bV, .inl (kJ, 400, .inr (.inl fV))) :: (bN, .inl (kI, 19200, .inl gN)) :: (bX, .inl (kI, 1536, .inl fX)) :: (bA, .inl (kI, 64, .inl gA)) :: (bB, .inl (kI, 64, .inl (upd fB k (nI n)))) :: (bH, .inl (kI, 8, .inl fH)) :: tl) _ := hP
        have hD : va_D A ((am, .inr (4, [.int 0, .ref bT, .ref bU, .int fsz, .int ln, .int pl, .int ne, .int bd, .ref bS, .ref b1, .ref b2, .ref bL, .ref bK, .ref bV, .int wa, .int hi, .ref bN, .ref bX, .ref bA, .ref bB, .int (nI m2), .int gd, .int wr, .ref bH, .int (nI nl.length), .long nu])) :: (bT, .inl (kI, 300, .inl fT)) :: (bU, .inl (kI, 300, .inl fU)) :: (bS, .inl (kI, 2000, .inl fS)) :: (b1, .inl (kI, 2000, .inl f1)) :: (b2, .inl (kI, 2000, .inl f2)) :: (bL, .inl (kZ, 2000, .inl fL)) :: (bK, .inl (kJ, 2000, .inr (.inl fK))) :: (bV, .inl (kJ, 400, .inr (.inl fV))) :: (bN, .inl (kI, 19200, .inl gN)) :: (bX, .inl (kI, 1536, .inl fX)) :: (bA, .inl (kI, 64, .inl gA)) :: (bB, .inl (kI, 64, .inl (upd fB k (nI n)))) :: (bH, .inl (kI, 8, .inl fH)) :: tl) := hD
        refine lv_iconst (v := 0) hx hb dM_put_46 (by decide) ?_
        refine xw_topi (y := nI 0) (nI_0.symm) ?_
        refine lv_istore (lv' := [(5, .int (nI 0)), (4, .int (nI k)), (0, .ref am), (1, .long x0), (3, .int (nI n))]) hx hb dM_put_47 hl (by decide) rfl (fun ls hl => ?_)
        have loop_49 : ∀ (f_loop_49 : Nat) (i : Nat) (x : Nat → Int32), n - i < f_loop_49 → (i ≤ n) → (∀ j, j < i → x (24 * k + j) = sh_byte x0 n j) → (∀ j, (j < 24 * k ∨ 24 * k + 24 ≤ j) → x j = fX j) → ∀ (H : Heap) (locs : List Loc), va_P (dC, dI) vwCl ((am, .inr (4, [.int 0, .ref bT, .ref bU, .int fsz, .int ln, .int pl, .int ne, .int bd, .ref bS, .ref b1, .ref b2, .ref bL, .ref bK, .ref bV, .int wa, .int hi, .ref bN, .ref bX, .ref bA, .ref bB, .int (nI m2), .int gd, .int wr, .ref bH, .int (nI nl.length), .long nu])) :: (bT, .inl (kI, 300, .inl fT)) :: (bU, .inl (kI, 300, .inl fU)) :: (bS, .inl (kI, 2000, .inl fS)) :: (b1, .inl (kI, 2000, .inl f1)) :: (b2, .inl (kI, 2000, .inl f2)) :: (bL, .inl (kZ, 2000, .inl fL)) :: (bK, .inl (kJ, 2000, .inr (.inl fK))) :: (bV, .inl (kJ, 400, .inr (.inl fV))) :: (bN, .inl (kI, 19200, .inl gN)) :: (bX, .inl (kI, 1536, .inl x)) :: (bA, .inl (kI, 64, .inl gA)) :: (bB, .inl (kI, 64, .inl (upd fB k (nI n)))) :: (bH, .inl (kI, 8, .inl fH)) :: tl) H → va_D A ((am, .inr (4, [.int 0, .ref bT, .ref bU, .int fsz, .int ln, .int pl, .int ne, .int bd, .ref bS, .ref b1, .ref b2, .ref bL, .ref bK, .ref bV, .int wa, .int hi, .ref bN, .ref bX, .ref bA, .ref bB, .int (nI m2), .int gd, .int wr, .ref bH, .int (nI nl.length), .long nu])) :: (bT, .inl (kI, 300, .inl fT)) :: (bU, .inl (kI, 300, .inl fU)) :: (bS, .inl (kI, 2000, .inl fS)) :: (b1, .inl (kI, 2000, .inl f1)) :: (b2, .inl (kI, 2000, .inl f2)) :: (bL, .inl (kZ, 2000, .inl fL)) :: (bK, .inl (kJ, 2000, .inr (.inl fK))) :: (bV, .inl (kJ, 400, .inr (.inl fV))) :: (bN, .inl (kI, 19200, .inl gN)) :: (bX, .inl (kI, 1536, .inl x)) :: (bA, .inl (kI, 64, .inl gA)) :: (bB, .inl (kI, 64, .inl (upd fB k (nI n)))) :: (bH, .inl (kI, 8, .inl fH)) :: tl) → va_S A s.heap H locs → ∀ ls : Array Slot, lv_has ls 6 [(5, .int (nI i)), (4, .int (nI k)), (0, .ref am), (1, .long x0), (3, .int (nI n))] → W p l e (headSpec wsM_put ({ frames := 2, cells := 0, slots := 0, locals := 80 })).room s m ([.ref am, .long x0, .int (nI n)] : List Value).toArray below meth c H locs 0 0 (MQ below (zQ dC dI A (fun v w => v = some (.int (sh_b (sh_aput env nl x0 (nI n)).1)) ∧ ∃ (fN2 fX2 fA2 fB2 : Nat → Int32) (sl2 : List mO), zMn fN2 fX2 fA2 fB2 sl2 (sh_aput env nl x0 (nI n)).2 ∧ w = ((am, .inr (4, [.int 0, .ref bT, .ref bU, .int fsz, .int ln, .int pl, .int ne, .int bd, .ref bS, .ref b1, .ref b2, .ref bL, .ref bK, .ref bV, .int wa, .int hi, .ref bN, .ref bX, .ref bA, .ref bB, .int (nI (sh_aput env nl x0 (nI n)).2.length), .int gd, .int wr, .ref bH, .int (nI nl.length), .long nu])) :: (bT, .inl (kI, 300, .inl fT)) :: (bU, .inl (kI, 300, .inl fU)) :: (bS, .inl (kI, 2000, .inl fS)) :: (b1, .inl (kI, 2000, .inl f1)) :: (b2, .inl (kI, 2000, .inl f2)) :: (bL, .inl (kZ, 2000, .inl fL)) :: (bK, .inl (kJ, 2000, .inr (.inl fK))) :: (bV, .inl (kJ, 400, .inr (.inl fV))) :: (bN, .inl (kI, 19200, .inl fN2)) :: (bX, .inl (kI, 1536, .inl fX2)) :: (bA, .inl (kI, 64, .inl fA2)) :: (bB, .inl (kI, 64, .inl fB2)) :: (bH, .inl (kI, 8, .inl fH)) :: tl))) ([.ref am, .long x0, .int (nI n)] : List Value).toArray s 0 0 A) (F0 m 49 ls []) := by
          intro f_loop_49
          induction f_loop_49 with
          | zero => intro i x hf; exact absurd hf (Nat.not_lt_zero _)
          | succ f_loop_49 ih_loop_49 =>
            intro i x hf_loop_49 hii hx1 hx0 H locs hP hD hS ls hl
            refine lv_iload hx hb dM_put_49 (lv_at hl 0 rfl) ?_
            refine lv_iload_n hx hb dM_put_51 rfl (lv_at hl 4 rfl) ?_
            refine lv_icmp_ge (tgt := 81) hx hb dM_put_52 (by decide) (fun c_3 => ?_) (fun c_3 => ?_)
            · skip
              have e_52 : n ≤ i := xi_le c_3 (by omega) (by omega)
              refine lv_iconst (v := 1) hx hb dM_put_81 (by decide) ?_
              obtain ⟨sl2, e2, q1, q2, q3⟩ := hfin x (fun j hj => by rw [hx1 j (by omega), sh_bytes_at (by omega)]) hx0
              rw [hbl] at q2
              rw [q1] at e_r
              rw [← q3] at hP hD
              have hP : va_P (dC, dI) vwCl ((am, .inr (4, [.int 0, .ref bT, .ref bU, .int fsz, .int ln, .int pl, .int ne, .int bd, .ref bS, .ref b1, .ref b2, .ref bL, .ref bK, .ref bV, .int wa, .int hi, .ref bN, .ref bX, .ref bA, .ref bB, .int (nI e2.length), .int gd, .int wr, .ref bH, .int (nI nl.length), .long nu])) :: (bT, .inl (kI, 300, .inl fT)) :: (bU, .inl (kI, 300, .inl fU)) :: (bS, .inl (kI, 2000, .inl fS)) :: (b1, .inl (kI, 2000, .inl f1)) :: (b2, .inl (kI, 2000, .inl f2)) :: (bL, .inl (kZ, 2000, .inl fL)) :: (bK, .inl (kJ, 2000, .inr (.inl fK))) :: (bV, .inl (kJ, 400, .inr (.inl fV))) :: (bN, .inl (kI, 19200, .inl gN)) :: (bX, .inl (kI, 1536, .inl x)) :: (bA, .inl (kI, 64, .inl gA)) :: (bB, .inl (kI, 64, .inl (upd fB k (nI n)))) :: (bH, .inl (kI, 8, .inl fH)) :: tl) _ := hP
              have hD : va_D A ((am, .inr (4, [.int 0, .ref bT, .ref bU, .int fsz, .int ln, .int pl, .int ne, .int bd, .ref bS, .ref b1, .ref b2, .ref bL, .ref bK, .ref bV, .int wa, .int hi, .ref bN, .ref bX, .ref bA, .ref bB, .int (nI e2.length), .int gd, .int wr, .ref bH, .int (nI nl.length), .long nu])) :: (bT, .inl (kI, 300, .inl fT)) :: (bU, .inl (kI, 300, .inl fU)) :: (bS, .inl (kI, 2000, .inl fS)) :: (b1, .inl (kI, 2000, .inl f1)) :: (b2, .inl (kI, 2000, .inl f2)) :: (bL, .inl (kZ, 2000, .inl fL)) :: (bK, .inl (kJ, 2000, .inr (.inl fK))) :: (bV, .inl (kJ, 400, .inr (.inl fV))) :: (bN, .inl (kI, 19200, .inl gN)) :: (bX, .inl (kI, 1536, .inl x)) :: (bA, .inl (kI, 64, .inl gA)) :: (bB, .inl (kI, 64, .inl (upd fB k (nI n)))) :: (bH, .inl (kI, 8, .inl fH)) :: tl) := hD
              refine W.widen (k := 0) (n := 0) (Nat.le_refl _) (Nat.le_refl _) ?_
              exact W.zret (v := 1) hx hb hr (rfl) (fun t ht _ => ⟨_, _, rfl, ⟨by rw [e_r]; rfl, gN, x, gA, upd fB k (nI n), sl2, by rw [e_r]; exact q2, by rw [e_r]⟩, by rw [ht]; exact hP, hD, hS.F ht⟩) hS.2.2 dM_put_82
            have e_52 : i < n := xi_nle c_3 (by omega) (by omega)
            refine lv_aload_n hx hb dM_put_55 rfl (lv_at hl 2 rfl) ?_
            refine va_get (D := (dC, dI)) (ci := 4) (v := .ref bX) (C := "ShellSumModel") (T := TM) (N := 26) hx hb htz zu_M hown hK hP 0 rfl rfl 17 (by decide) (htz _ zw_2_177) (fun _ h9 => h9) rfl dM_put_56 ?_
            refine lv_bipush (v := 24) hx hb dM_put_59 (by decide) ?_
            refine lv_iload hx hb dM_put_61 (lv_at hl 1 rfl) ?_
            refine lv_imul hx hb dM_put_63 ?_
            refine xw_topi (y := nI (24 * k)) (pk_mul 24 k) ?_
            refine lv_iload hx hb dM_put_64 (lv_at hl 0 rfl) ?_
            refine lv_iadd hx hb dM_put_66 ?_
            refine xw_topi (y := nI (24 * k + i)) (nI_add (24 * k) i) ?_
            refine lv_lload_n hx hb dM_put_67 rfl (lv_at hl 3 rfl) ?_
            refine lv_iload_n hx hb dM_put_68 rfl (lv_at hl 4 rfl) ?_
            refine lv_iload hx hb dM_put_69 (lv_at hl 0 rfl) ?_
            refine rq_call (va_runS (As := [.long x0, .int (nI n), .int (nI i)]) (rest := [.int (nI (24 * k + i)), .ref bX]) ⟨hx, hb, hml, hown, htz⟩ (k_M_byteOf l x0 (nI n) (nI i)) (cwS 3 htz (zg_S zw_3_11 zw_3_12 zw_1_4 zw_3_13) rfl rfl rfl (by decide +kernel) ⟨Nat.le_of_ble_eq_true rfl, Nat.le_of_ble_eq_true rfl⟩) rq_pre rfl rfl hl.1 rfl (lv_room (Nat.le_of_ble_eq_true rfl)) dM_put_71 ⟨Nat.zero_le _, Nat.zero_le _⟩) ?_
            refine W.eq (g2 := F0 m 74 ls [.int (sh_bM x0 (nI n) (nI i)), .int (nI (24 * k + i)), .ref bX]) rfl ?_
            refine xw_topi (y := sh_byte x0 n i) (sh_bM_eq (by omega) hn) ?_
            refine va_iast hx hb hK hP hD hS 10 0 rfl rfl (vp_in_nI (by omega) (by omega)) dM_put_74 (fun H locs hP hD hS => ?_)
            have hP : va_P (dC, dI) vwCl ((am, .inr (4, [.int 0, .ref bT, .ref bU, .int fsz, .int ln, .int pl, .int ne, .int bd, .ref bS, .ref b1, .ref b2, .ref bL, .ref bK, .ref bV, .int wa, .int hi, .ref bN, .ref bX, .ref bA, .ref bB, .int (nI m2), .int gd, .int wr, .ref bH, .int (nI nl.length), .long nu])) :: (bT, .inl (kI, 300, .inl fT)) :: (bU, .inl (kI, 300, .inl fU)) :: (bS, .inl (kI, 2000, .inl fS)) :: (b1, .inl (kI, 2000, .inl f1)) :: (b2, .inl (kI, 2000, .inl f2)) :: (bL, .inl (kZ, 2000, .inl fL)) :: (bK, .inl (kJ, 2000, .inr (.inl fK))) :: (bV, .inl (kJ, 400, .inr (.inl fV))) :: (bN, .inl (kI, 19200, .inl gN)) :: (bX, .inl (kI, 1536, .inl (upd x (nI (24 * k + i)).toNatClampNeg (sh_byte x0 n i)))) :: (bA, .inl (kI, 64, .inl gA)) :: (bB, .inl (kI, 64, .inl (upd fB k (nI n)))) :: (bH, .inl (kI, 8, .inl fH)) :: tl) _ := hP
            have hD : va_D A ((am, .inr (4, [.int 0, .ref bT, .ref bU, .int fsz, .int ln, .int pl, .int ne, .int bd, .ref bS, .ref b1, .ref b2, .ref bL, .ref bK, .ref bV, .int wa, .int hi, .ref bN, .ref bX, .ref bA, .ref bB, .int (nI m2), .int gd, .int wr, .ref bH, .int (nI nl.length), .long nu])) :: (bT, .inl (kI, 300, .inl fT)) :: (bU, .inl (kI, 300, .inl fU)) :: (bS, .inl (kI, 2000, .inl fS)) :: (b1, .inl (kI, 2000, .inl f1)) :: (b2, .inl (kI, 2000, .inl f2)) :: (bL, .inl (kZ, 2000, .inl fL)) :: (bK, .inl (kJ, 2000, .inr (.inl fK))) :: (bV, .inl (kJ, 400, .inr (.inl fV))) :: (bN, .inl (kI, 19200, .inl gN)) :: (bX, .inl (kI, 1536, .inl (upd x (nI (24 * k + i)).toNatClampNeg (sh_byte x0 n i)))) :: (bA, .inl (kI, 64, .inl gA)) :: (bB, .inl (kI, 64, .inl (upd fB k (nI n)))) :: (bH, .inl (kI, 8, .inl fH)) :: tl) := hD
            have e_f : upd x (nI (24 * k + i)).toNatClampNeg (sh_byte x0 n i) = upd x (24 * k + i) (sh_byte x0 n i) := by rw [nI_clamp (by omega)]
            rw [e_f] at hP hD
            have hP : va_P (dC, dI) vwCl ((am, .inr (4, [.int 0, .ref bT, .ref bU, .int fsz, .int ln, .int pl, .int ne, .int bd, .ref bS, .ref b1, .ref b2, .ref bL, .ref bK, .ref bV, .int wa, .int hi, .ref bN, .ref bX, .ref bA, .ref bB, .int (nI m2), .int gd, .int wr, .ref bH, .int (nI nl.length), .long nu])) :: (bT, .inl (kI, 300, .inl fT)) :: (bU, .inl (kI, 300, .inl fU)) :: (bS, .inl (kI, 2000, .inl fS)) :: (b1, .inl (kI, 2000, .inl f1)) :: (b2, .inl (kI, 2000, .inl f2)) :: (bL, .inl (kZ, 2000, .inl fL)) :: (bK, .inl (kJ, 2000, .inr (.inl fK))) :: (bV, .inl (kJ, 400, .inr (.inl fV))) :: (bN, .inl (kI, 19200, .inl gN)) :: (bX, .inl (kI, 1536, .inl (upd x (24 * k + i) (sh_byte x0 n i)))) :: (bA, .inl (kI, 64, .inl gA)) :: (bB, .inl (kI, 64, .inl (upd fB k (nI n)))) :: (bH, .inl (kI, 8, .inl fH)) :: tl) _ := hP
            have hD : va_D A ((am, .inr (4, [.int 0, .ref bT, .ref bU, .int fsz, .int ln, .int pl, .int ne, .int bd, .ref bS, .ref b1, .ref b2, .ref bL, .ref bK, .ref bV, .int wa, .int hi, .ref bN, .ref bX, .ref bA, .ref bB, .int (nI m2), .int gd, .int wr, .ref bH, .int (nI nl.length), .long nu])) :: (bT, .inl (kI, 300, .inl fT)) :: (bU, .inl (kI, 300, .inl fU)) :: (bS, .inl (kI, 2000, .inl fS)) :: (b1, .inl (kI, 2000, .inl f1)) :: (b2, .inl (kI, 2000, .inl f2)) :: (bL, .inl (kZ, 2000, .inl fL)) :: (bK, .inl (kJ, 2000, .inr (.inl fK))) :: (bV, .inl (kJ, 400, .inr (.inl fV))) :: (bN, .inl (kI, 19200, .inl gN)) :: (bX, .inl (kI, 1536, .inl (upd x (24 * k + i) (sh_byte x0 n i)))) :: (bA, .inl (kI, 64, .inl gA)) :: (bB, .inl (kI, 64, .inl (upd fB k (nI n)))) :: (bH, .inl (kI, 8, .inl fH)) :: tl) := hD
            refine lv_iinc (v := nI (i + 1)) (lv' := [(5, .int (nI (i + 1))), (4, .int (nI k)), (0, .ref am), (1, .long x0), (3, .int (nI n))]) hx hb dM_put_75 hl (k := 0) rfl (nI_1 i) (by decide) rfl (fun ls hl => ?_)
            refine lv_goto (tgt := 49) hx hb dM_put_78 (by decide) ?_
            exact ih_loop_49 (i + 1) (upd x (24 * k + i) (sh_byte x0 n i)) (by omega) (by omega) (lt_s (fun j h => (pk_un (by omega)).trans (hx1 j h)) pk_us) (fun j h => (pk_un (by omega)).trans (hx0 j h)) _ _ hP hD hS ls (lv_sub hl [0, 1, 2, 3, 4] rfl)
        exact loop_49 _ 0 fX (Nat.lt_succ_self _) (Nat.zero_le _) (fun j h => absurd h (Nat.not_lt_zero _)) (fun j _ => rfl) _ _ hP hD hS ls (lv_sub hl [0, 1, 2, 3, 4] rfl)
      exact absurd c_2 (nI_nm (by omega))
    rcases hp with ⟨k, tt, hk64, hsk, hfd, rfl, hw⟩ | ⟨hfn, h64, rfl, hw⟩ | ⟨k, g, hk64, hsk, hfn, hl9, rfl, hg1, hg0, hw⟩
    · skip
      rw [hw] at hP hD
      have hP : va_P (dC, dI) vwCl ((am, .inr (4, [.int 0, .ref bT, .ref bU, .int fsz, .int ln, .int pl, .int ne, .int bd, .ref bS, .ref b1, .ref b2, .ref bL, .ref bK, .ref bV, .int wa, .int hi, .ref bN, .ref bX, .ref bA, .ref bB, .int (nI env.length), .int gd, .int wr, .ref bH, .int (nI nl.length), .long nu])) :: (bT, .inl (kI, 300, .inl fT)) :: (bU, .inl (kI, 300, .inl fU)) :: (bS, .inl (kI, 2000, .inl fS)) :: (b1, .inl (kI, 2000, .inl f1)) :: (b2, .inl (kI, 2000, .inl f2)) :: (bL, .inl (kZ, 2000, .inl fL)) :: (bK, .inl (kJ, 2000, .inr (.inl fK))) :: (bV, .inl (kJ, 400, .inr (.inl fV))) :: (bN, .inl (kI, 19200, .inl fN)) :: (bX, .inl (kI, 1536, .inl fX)) :: (bA, .inl (kI, 64, .inl fA)) :: (bB, .inl (kI, 64, .inl fB)) :: (bH, .inl (kI, 8, .inl fH)) :: tl) _ := hP
      have hD : va_D A ((am, .inr (4, [.int 0, .ref bT, .ref bU, .int fsz, .int ln, .int pl, .int ne, .int bd, .ref bS, .ref b1, .ref b2, .ref bL, .ref bK, .ref bV, .int wa, .int hi, .ref bN, .ref bX, .ref bA, .ref bB, .int (nI env.length), .int gd, .int wr, .ref bH, .int (nI nl.length), .long nu])) :: (bT, .inl (kI, 300, .inl fT)) :: (bU, .inl (kI, 300, .inl fU)) :: (bS, .inl (kI, 2000, .inl fS)) :: (b1, .inl (kI, 2000, .inl f1)) :: (b2, .inl (kI, 2000, .inl f2)) :: (bL, .inl (kZ, 2000, .inl fL)) :: (bK, .inl (kJ, 2000, .inr (.inl fK))) :: (bV, .inl (kJ, 400, .inr (.inl fV))) :: (bN, .inl (kI, 19200, .inl fN)) :: (bX, .inl (kI, 1536, .inl fX)) :: (bA, .inl (kI, 64, .inl fA)) :: (bB, .inl (kI, 64, .inl fB)) :: (bH, .inl (kI, 8, .inl fH)) :: tl) := hD
      refine W.eq (g2 := F0 m 28 ls [.int (nI k)]) rfl ?_
      exact j_28 k fN fA env.length (hk64) (fun gX hx1 hx0 => zMn_giveO hM hsk hfd (by omega) hx1 hx0) _ _ hP hD hS ls (lv_sub hl [0, 1, 2] rfl)
    · skip
      rw [hw] at hP hD
      have hP : va_P (dC, dI) vwCl ((am, .inr (4, [.int 0, .ref bT, .ref bU, .int fsz, .int ln, .int pl, .int ne, .int bd, .ref bS, .ref b1, .ref b2, .ref bL, .ref bK, .ref bV, .int wa, .int hi, .ref bN, .ref bX, .ref bA, .ref bB, .int (nI env.length), .int gd, .int wr, .ref bH, .int (nI nl.length), .long nu])) :: (bT, .inl (kI, 300, .inl fT)) :: (bU, .inl (kI, 300, .inl fU)) :: (bS, .inl (kI, 2000, .inl fS)) :: (b1, .inl (kI, 2000, .inl f1)) :: (b2, .inl (kI, 2000, .inl f2)) :: (bL, .inl (kZ, 2000, .inl fL)) :: (bK, .inl (kJ, 2000, .inr (.inl fK))) :: (bV, .inl (kJ, 400, .inr (.inl fV))) :: (bN, .inl (kI, 19200, .inl fN)) :: (bX, .inl (kI, 1536, .inl fX)) :: (bA, .inl (kI, 64, .inl fA)) :: (bB, .inl (kI, 64, .inl fB)) :: (bH, .inl (kI, 8, .inl fH)) :: tl) _ := hP
      have hD : va_D A ((am, .inr (4, [.int 0, .ref bT, .ref bU, .int fsz, .int ln, .int pl, .int ne, .int bd, .ref bS, .ref b1, .ref b2, .ref bL, .ref bK, .ref bV, .int wa, .int hi, .ref bN, .ref bX, .ref bA, .ref bB, .int (nI env.length), .int gd, .int wr, .ref bH, .int (nI nl.length), .long nu])) :: (bT, .inl (kI, 300, .inl fT)) :: (bU, .inl (kI, 300, .inl fU)) :: (bS, .inl (kI, 2000, .inl fS)) :: (b1, .inl (kI, 2000, .inl f1)) :: (b2, .inl (kI, 2000, .inl f2)) :: (bL, .inl (kZ, 2000, .inl fL)) :: (bK, .inl (kJ, 2000, .inr (.inl fK))) :: (bV, .inl (kJ, 400, .inr (.inl fV))) :: (bN, .inl (kI, 19200, .inl fN)) :: (bX, .inl (kI, 1536, .inl fX)) :: (bA, .inl (kI, 64, .inl fA)) :: (bB, .inl (kI, 64, .inl fB)) :: (bH, .inl (kI, 8, .inl fH)) :: tl) := hD
      refine W.eq (g2 := F0 m 28 ls [.int (-1)]) rfl ?_
      have e_p : sh_put env nl (sh_bytes x0 n) = none := by unfold sh_put; rw [if_neg (by rw [hfn]; decide), if_pos (by omega)]
      rw [e_p] at e_r
      refine lv_istore (lv' := [(4, .int (-1)), (0, .ref am), (1, .long x0), (3, .int (nI n))]) hx hb dM_put_28 hl (by decide) rfl (fun ls hl => ?_)
      refine lv_iload hx hb dM_put_30 (lv_at hl 0 rfl) ?_
      refine lv_iconst (v := (-1)) hx hb dM_put_32 (by decide) ?_
      refine lv_icmp_ne (tgt := 38) hx hb dM_put_33 (by decide) (fun c_4 => ?_) (fun c_4 => ?_)
      · skip
        exact absurd rfl c_4
      refine lv_iconst (v := 0) hx hb dM_put_36 (by decide) ?_
      refine W.widen (k := 0) (n := 0) (Nat.le_refl _) (Nat.le_refl _) ?_
      exact W.zret (v := 0) hx hb hr (rfl) (fun t ht _ => ⟨_, _, rfl, ⟨by rw [e_r]; rfl, fN, fX, fA, fB, sl, by rw [e_r]; exact hM, by rw [e_r]⟩, by rw [ht]; exact hP, hD, hS.F ht⟩) hS.2.2 dM_put_37
    rw [hw] at hP hD
    have hP : va_P (dC, dI) vwCl ((am, .inr (4, [.int 0, .ref bT, .ref bU, .int fsz, .int ln, .int pl, .int ne, .int bd, .ref bS, .ref b1, .ref b2, .ref bL, .ref bK, .ref bV, .int wa, .int hi, .ref bN, .ref bX, .ref bA, .ref bB, .int (nI (env.length + 1)), .int gd, .int wr, .ref bH, .int (nI nl.length), .long nu])) :: (bT, .inl (kI, 300, .inl fT)) :: (bU, .inl (kI, 300, .inl fU)) :: (bS, .inl (kI, 2000, .inl fS)) :: (b1, .inl (kI, 2000, .inl f1)) :: (b2, .inl (kI, 2000, .inl f2)) :: (bL, .inl (kZ, 2000, .inl fL)) :: (bK, .inl (kJ, 2000, .inr (.inl fK))) :: (bV, .inl (kJ, 400, .inr (.inl fV))) :: (bN, .inl (kI, 19200, .inl g)) :: (bX, .inl (kI, 1536, .inl fX)) :: (bA, .inl (kI, 64, .inl (upd fA k (nI nl.length)))) :: (bB, .inl (kI, 64, .inl fB)) :: (bH, .inl (kI, 8, .inl fH)) :: tl) _ := hP
    have hD : va_D A ((am, .inr (4, [.int 0, .ref bT, .ref bU, .int fsz, .int ln, .int pl, .int ne, .int bd, .ref bS, .ref b1, .ref b2, .ref bL, .ref bK, .ref bV, .int wa, .int hi, .ref bN, .ref bX, .ref bA, .ref bB, .int (nI (env.length + 1)), .int gd, .int wr, .ref bH, .int (nI nl.length), .long nu])) :: (bT, .inl (kI, 300, .inl fT)) :: (bU, .inl (kI, 300, .inl fU)) :: (bS, .inl (kI, 2000, .inl fS)) :: (b1, .inl (kI, 2000, .inl f1)) :: (b2, .inl (kI, 2000, .inl f2)) :: (bL, .inl (kZ, 2000, .inl fL)) :: (bK, .inl (kJ, 2000, .inr (.inl fK))) :: (bV, .inl (kJ, 400, .inr (.inl fV))) :: (bN, .inl (kI, 19200, .inl g)) :: (bX, .inl (kI, 1536, .inl fX)) :: (bA, .inl (kI, 64, .inl (upd fA k (nI nl.length)))) :: (bB, .inl (kI, 64, .inl fB)) :: (bH, .inl (kI, 8, .inl fH)) :: tl) := hD
    refine W.eq (g2 := F0 m 28 ls [.int (nI k)]) rfl ?_
    exact j_28 k g (upd fA k (nI nl.length)) (env.length + 1) (hk64) (fun gX hx1 hx0 => zMn_giveN hM hsk hfn hl9 hn1 (by omega) hg1 hg0 (by omega) hx1 hx0) _ _ hP hD hS ls (lv_sub hl [0, 1, 2] rfl)
  have e_10 : sh_areT x0 n0 = false := sh_bf c_1
  have e_r : (sh_aput env nl x0 n0) = (false, env) := by unfold sh_aput; rw [if_neg (by rw [e_10]; decide)]
  refine lv_iconst (v := 0) hx hb dM_put_13 (by decide) ?_
  refine W.widen (k := 0) (n := 0) (Nat.le_refl _) (Nat.le_refl _) ?_
  exact W.zret (v := 0) hx hb hr (rfl) (fun t ht _ => ⟨_, _, rfl, ⟨by rw [e_r]; rfl, fN, fX, fA, fB, sl, by rw [e_r]; exact hM, by rw [e_r]⟩, by rw [ht]; exact hP, hD, hS.F ht⟩) hS.2.2 dM_put_14
set_option maxHeartbeats 4000000 in
set_option maxRecDepth 100000 in
/-- drop() -/
theorem k_M_drop (l : Launch) (dC : Nat → ClassId) (dI : Nat → Nat → Nat) (kI kJ kZ : ClassId) (am bT bU bS b1 b2 bL bK bV bN bX bA bB bH : Nat) (cd fsz ln pl ne bd wa hi my gd wr hs : Int32) (nu : Int64) (fT fU fS f1 f2 fL fN fX fA fB fH : Nat → Int32) (fK fV : Nat → Int64) (tl : va_W) (sz : Nat) (nl : List Int32) (hn1 : 1 ≤ nl.length) (hn8 : nl.length ≤ 8) (hfh : ∀ j, j < nl.length → fH j = sh_at nl j) (sl : List mO) (env : sh_Env) (hM : zMn fN fX fA fB sl env) : Met l yM_drop wsM_drop ({ frames := 1, cells := 0, slots := 0, locals := 40 }) (va_Pc [.ref am] (zW dC dI ([(kI, .int), (kJ, .long), (kZ, .boolean)]) ((am, .inr (4, [.int cd, .ref bT, .ref bU, .int fsz, .int ln, .int pl, .int ne, .int bd, .ref bS, .ref b1, .ref b2, .ref bL, .ref bK, .ref bV, .int wa, .int hi, .ref bN, .ref bX, .ref bA, .ref bB, .int (nI env.length), .int gd, .int wr, .ref bH, .int (nI nl.length), .long nu])) :: (bT, .inl (kI, 300, .inl fT)) :: (bU, .inl (kI, 300, .inl fU)) :: (bS, .inl (kI, 2000, .inl fS)) :: (b1, .inl (kI, 2000, .inl f1)) :: (b2, .inl (kI, 2000, .inl f2)) :: (bL, .inl (kZ, 2000, .inl fL)) :: (bK, .inl (kJ, 2000, .inr (.inl fK))) :: (bV, .inl (kJ, 400, .inr (.inl fV))) :: (bN, .inl (kI, 19200, .inl fN)) :: (bX, .inl (kI, 1536, .inl fX)) :: (bA, .inl (kI, 64, .inl fA)) :: (bB, .inl (kI, 64, .inl fB)) :: (bH, .inl (kI, 8, .inl fH)) :: tl) sz)) (zQ dC dI (va_A ((am, .inr (4, [.int cd, .ref bT, .ref bU, .int fsz, .int ln, .int pl, .int ne, .int bd, .ref bS, .ref b1, .ref b2, .ref bL, .ref bK, .ref bV, .int wa, .int hi, .ref bN, .ref bX, .ref bA, .ref bB, .int (nI env.length), .int gd, .int wr, .ref bH, .int (nI nl.length), .long nu])) :: (bT, .inl (kI, 300, .inl fT)) :: (bU, .inl (kI, 300, .inl fU)) :: (bS, .inl (kI, 2000, .inl fS)) :: (b1, .inl (kI, 2000, .inl f1)) :: (b2, .inl (kI, 2000, .inl f2)) :: (bL, .inl (kZ, 2000, .inl fL)) :: (bK, .inl (kJ, 2000, .inr (.inl fK))) :: (bV, .inl (kJ, 400, .inr (.inl fV))) :: (bN, .inl (kI, 19200, .inl fN)) :: (bX, .inl (kI, 1536, .inl fX)) :: (bA, .inl (kI, 64, .inl fA)) :: (bB, .inl (kI, 64, .inl fB)) :: (bH, .inl (kI, 8, .inl fH)) :: tl) sz) (fun v w => (sh_find env nl = none ∧ v = some (.int 0) ∧ w = ((am, .inr (4, [.int 0, .ref bT, .ref bU, .int fsz, .int ln, .int pl, .int ne, .int bd, .ref bS, .ref b1, .ref b2, .ref bL, .ref bK, .ref bV, .int wa, .int hi, .ref bN, .ref bX, .ref bA, .ref bB, .int (nI env.length), .int gd, .int wr, .ref bH, .int (nI nl.length), .long nu])) :: (bT, .inl (kI, 300, .inl fT)) :: (bU, .inl (kI, 300, .inl fU)) :: (bS, .inl (kI, 2000, .inl fS)) :: (b1, .inl (kI, 2000, .inl f1)) :: (b2, .inl (kI, 2000, .inl f2)) :: (bL, .inl (kZ, 2000, .inl fL)) :: (bK, .inl (kJ, 2000, .inr (.inl fK))) :: (bV, .inl (kJ, 400, .inr (.inl fV))) :: (bN, .inl (kI, 19200, .inl fN)) :: (bX, .inl (kI, 1536, .inl fX)) :: (bA, .inl (kI, 64, .inl fA)) :: (bB, .inl (kI, 64, .inl fB)) :: (bH, .inl (kI, 8, .inl fH)) :: tl)) ∨ ((sh_find env nl).isSome = true ∧ v = some (.int 1) ∧ ∃ (fA2 : Nat → Int32) (sl2 : List mO), (∀ e2, (∃ t, env.Perm ((nl, t) :: e2)) → zMn fN fX fA2 fB sl2 e2) ∧ w = ((am, .inr (4, [.int 0, .ref bT, .ref bU, .int fsz, .int ln, .int pl, .int ne, .int bd, .ref bS, .ref b1, .ref b2, .ref bL, .ref bK, .ref bV, .int wa, .int hi, .ref bN, .ref bX, .ref bA, .ref bB, .int (nI (env.length - 1)), .int gd, .int wr, .ref bH, .int (nI nl.length), .long nu])) :: (bT, .inl (kI, 300, .inl fT)) :: (bU, .inl (kI, 300, .inl fU)) :: (bS, .inl (kI, 2000, .inl fS)) :: (b1, .inl (kI, 2000, .inl f1)) :: (b2, .inl (kI, 2000, .inl f2)) :: (bL, .inl (kZ, 2000, .inl fL)) :: (bK, .inl (kJ, 2000, .inr (.inl fK))) :: (bV, .inl (kJ, 400, .inr (.inl fV))) :: (bN, .inl (kI, 19200, .inl fN)) :: (bX, .inl (kI, 1536, .inl fX)) :: (bA, .inl (kI, 64, .inl fA2)) :: (bB, .inl (kI, 64, .inl fB)) :: (bH, .inl (kI, 8, .inl fH)) :: tl)))) 0 0 (va_A ((am, .inr (4, [.int cd, .ref bT, .ref bU, .int fsz, .int ln, .int pl, .int ne, .int bd, .ref bS, .ref b1, .ref b2, .ref bL, .ref bK, .ref bV, .int wa, .int hi, .ref bN, .ref bX, .ref bA, .ref bB, .int (nI env.length), .int gd, .int wr, .ref bH, .int (nI nl.length), .long nu])) :: (bT, .inl (kI, 300, .inl fT)) :: (bU, .inl (kI, 300, .inl fU)) :: (bS, .inl (kI, 2000, .inl fS)) :: (b1, .inl (kI, 2000, .inl f1)) :: (b2, .inl (kI, 2000, .inl f2)) :: (bL, .inl (kZ, 2000, .inl fL)) :: (bK, .inl (kJ, 2000, .inr (.inl fK))) :: (bV, .inl (kJ, 400, .inr (.inl fV))) :: (bN, .inl (kI, 19200, .inl fN)) :: (bX, .inl (kI, 1536, .inl fX)) :: (bA, .inl (kI, 64, .inl fA)) :: (bB, .inl (kI, 64, .inl fB)) :: (bH, .inl (kI, 8, .inl fH)) :: tl) sz) := by
  refine Met.ofW (cc := cM_drop) (maxL := 2) (ret := (some .boolean)) (by decide) rfl ?_
  intro p e s m args below meth c s₁ B hml hv
  obtain ⟨rfl, hsz, hP, hK, hD0, hN⟩ := hv
  subst hsz
  have hD := hD0.self (sz := s.heap.size)
  generalize hAe : va_A ((am, .inr (4, [.int cd, .ref bT, .ref bU, .int fsz, .int ln, .int pl, .int ne, .int bd, .ref bS, .ref b1, .ref b2, .ref bL, .ref bK, .ref bV, .int wa, .int hi, .ref bN, .ref bX, .ref bA, .ref bB, .int (nI env.length), .int gd, .int wr, .ref bH, .int (nI nl.length), .long nu])) :: (bT, .inl (kI, 300, .inl fT)) :: (bU, .inl (kI, 300, .inl fU)) :: (bS, .inl (kI, 2000, .inl fS)) :: (b1, .inl (kI, 2000, .inl f1)) :: (b2, .inl (kI, 2000, .inl f2)) :: (bL, .inl (kZ, 2000, .inl fL)) :: (bK, .inl (kJ, 2000, .inr (.inl fK))) :: (bV, .inl (kJ, 400, .inr (.inl fV))) :: (bN, .inl (kI, 19200, .inl fN)) :: (bX, .inl (kI, 1536, .inl fX)) :: (bA, .inl (kI, 64, .inl fA)) :: (bB, .inl (kI, 64, .inl fB)) :: (bH, .inl (kI, 8, .inl fH)) :: tl) s.heap.size = A at hD ⊢
  have hA : ∀ q : Nat, s.heap.size ≤ q → A q := fun q h => by rw [← hAe]; exact Or.inr h
  have hS : va_S A s.heap s.heap [] := va_S.rf
  have hx := B.exec
  have hb := B.bytes
  have hr := B.returns
  have htz : ∀ w ∈ zw, w.before _ s = true := fun w h => atoms_spec (ws := wsM_drop) B.pre w (List.mem_cons_of_mem _ h)
  have hown : s.vm.findClass "ShellSumModel" = some m.cls := findClass_of_methodNamed B.named
  have hlocks := B.notSynchronized
  have hl := lv_entry ([.ref am]) (n := 2) (Nat.le_of_ble_eq_true rfl)
  rw [lg_entry_eq]
  generalize (lg_sl ([.ref am]) ++ List.replicate (2 - (lg_sl ([.ref am])).length) Slot.unset).toArray = ls at hl ⊢
  have hl : lv_has ls 2 [(0, .ref am)] := hl
  refine lv_aload_n hx hb dM_drop_0 rfl (lv_at hl 0 rfl) ?_
  refine lv_iconst (v := 0) hx hb dM_drop_1 (by decide) ?_
  refine va_put (D := (dC, dI)) (ci := 4) (v := .int 0) (ty := .int) (C := "ShellSumModel") (T := TM) (N := 26) hx hb htz zu_M tyM tyM_ok nmM hown hK hP hD hS 0 rfl rfl 0 (by decide) (htz _ zw_2_160) (fun _ h9 => h9) rfl (by decide +kernel) rfl rfl (Nat.le_of_ble_eq_true rfl) dM_drop_2 (fun H locs hP hD hS => ?_)
  have hP : va_P (dC, dI) vwCl ((am, .inr (4, [.int 0, .ref bT, .ref bU, .int fsz, .int ln, .int pl, .int ne, .int bd, .ref bS, .ref b1, .ref b2, .ref bL, .ref bK, .ref bV, .int wa, .int hi, .ref bN, .ref bX, .ref bA, .ref bB, .int (nI env.length), .int gd, .int wr, .ref bH, .int (nI nl.length), .long nu])) :: (bT, .inl (kI, 300, .inl fT)) :: (bU, .inl (kI, 300, .inl fU)) :: (bS, .inl (kI, 2000, .inl fS)) :: (b1, .inl (kI, 2000, .inl f1)) :: (b2, .inl (kI, 2000, .inl f2)) :: (bL, .inl (kZ, 2000, .inl fL)) :: (bK, .inl (kJ, 2000, .inr (.inl fK))) :: (bV, .inl (kJ, 400, .inr (.inl fV))) :: (bN, .inl (kI, 19200, .inl fN)) :: (bX, .inl (kI, 1536, .inl fX)) :: (bA, .inl (kI, 64, .inl fA)) :: (bB, .inl (kI, 64, .inl fB)) :: (bH, .inl (kI, 8, .inl fH)) :: tl) _ := hP
  have hD : va_D A ((am, .inr (4, [.int 0, .ref bT, .ref bU, .int fsz, .int ln, .int pl, .int ne, .int bd, .ref bS, .ref b1, .ref b2, .ref bL, .ref bK, .ref bV, .int wa, .int hi, .ref bN, .ref bX, .ref bA, .ref bB, .int (nI env.length), .int gd, .int wr, .ref bH, .int (nI nl.length), .long nu])) :: (bT, .inl (kI, 300, .inl fT)) :: (bU, .inl (kI, 300, .inl fU)) :: (bS, .inl (kI, 2000, .inl fS)) :: (b1, .inl (kI, 2000, .inl f1)) :: (b2, .inl (kI, 2000, .inl f2)) :: (bL, .inl (kZ, 2000, .inl fL)) :: (bK, .inl (kJ, 2000, .inr (.inl fK))) :: (bV, .inl (kJ, 400, .inr (.inl fV))) :: (bN, .inl (kI, 19200, .inl fN)) :: (bX, .inl (kI, 1536, .inl fX)) :: (bA, .inl (kI, 64, .inl fA)) :: (bB, .inl (kI, 64, .inl fB)) :: (bH, .inl (kI, 8, .inl fH)) :: tl) := hD
  refine lv_aload_n hx hb dM_drop_5 rfl (lv_at hl 0 rfl) ?_
  refine lv_aload_n hx hb dM_drop_6 rfl (lv_at hl 0 rfl) ?_
  refine va_get (D := (dC, dI)) (ci := 4) (v := .ref bH) (C := "ShellSumModel") (T := TM) (N := 26) hx hb htz zu_M hown hK hP 0 rfl rfl 23 (by decide) (htz _ zw_2_183) (fun _ h9 => h9) rfl dM_drop_7 ?_
  refine lv_iconst (v := 0) hx hb dM_drop_10 (by decide) ?_
  refine lv_aload_n hx hb dM_drop_11 rfl (lv_at hl 0 rfl) ?_
  refine va_get (D := (dC, dI)) (ci := 4) (v := .int (nI nl.length)) (C := "ShellSumModel") (T := TM) (N := 26) hx hb htz zu_M hown hK hP 0 rfl rfl 24 (by decide) (htz _ zw_2_184) (fun _ h9 => h9) rfl dM_drop_12 ?_
  refine W.eq (g2 := F0 m 15 ls [.int (nI nl.length), .int (nI 0), .ref bH, .ref am]) rfl ?_
  refine rq_call (va_runV (As := [.ref bH, .int (nI 0), .int (nI nl.length)]) (rest := []) ⟨hx, hb, hml, hown, htz⟩ (k_M_findH l dC dI kI kJ kZ am bT bU bS b1 b2 bL bK bV bN bX bA bB bH 0 fsz ln pl ne bd wa hi (nI env.length) gd wr (nI nl.length) nu fT fU fS f1 f2 fL fN fX fA fB fH fK fV tl 0 nl sl env (fun j h => by rw [Nat.zero_add]; exact hfh j h) (by omega) hn1 hM) (cwV 3 htz (zg_V zw_3_36 zw_3_38 zs_M_find zw_1_4 zw_3_39) rfl rfl rfl (by decide +kernel) ⟨Nat.le_of_ble_eq_true rfl, Nat.le_of_ble_eq_true rfl⟩) (zR_V hP hK hN (va_recv hK hP (ci := 4) (q0 := 0) rfl rfl)) rfl rfl hl.1 rfl (lv_room (Nat.le_of_ble_eq_true rfl)) dM_drop_15 ⟨Nat.zero_le _, Nat.zero_le _⟩) ?_
  refine W.eq (g2 := F0 m 18 ls [.int (m_fk sl nl 64)]) rfl ?_
  rcases zMn_find hM nl with ⟨hf, hfn, hno⟩ | ⟨k, tt, hk64, hf, hsk, hfd⟩
  · skip
    refine xw_topi (y := (-1)) (hf) ?_
    refine lv_istore_n (lv' := [(1, .int (-1)), (0, .ref am)]) hx hb dM_drop_18 rfl hl (by decide) rfl (fun ls hl => ?_)
    refine lv_iload_n hx hb dM_drop_19 rfl (lv_at hl 0 rfl) ?_
    refine lv_iconst (v := (-1)) hx hb dM_drop_20 (by decide) ?_
    refine lv_icmp_ne (tgt := 26) hx hb dM_drop_21 (by decide) (fun c_1 => ?_) (fun c_1 => ?_)
    · skip
      exact absurd rfl c_1
    refine lv_iconst (v := 0) hx hb dM_drop_24 (by decide) ?_
    refine W.widen (k := 0) (n := 0) (Nat.le_refl _) (Nat.le_refl _) ?_
    exact W.zret (v := 0) hx hb hr (rfl) (fun t ht _ => ⟨_, _, rfl, Or.inl ⟨hfn, rfl, rfl⟩, by rw [ht]; exact hP, hD, hS.F ht⟩) hS.2.2 dM_drop_25
  refine xw_topi (y := nI k) (hf) ?_
  obtain ⟨a1, a2, a3, a4, hB, hB20, hX⟩ := hM.2.1 k _ hsk
  have hB : fB k = nI tt.length := hB
  have hB20 : tt.length ≤ 20 := hB20
  have hX : ∀ j, j < tt.length → fX (24 * k + j) = sh_at tt j := hX
  refine lv_istore_n (lv' := [(1, .int (nI k)), (0, .ref am)]) hx hb dM_drop_18 rfl hl (by decide) rfl (fun ls hl => ?_)
  refine lv_iload_n hx hb dM_drop_19 rfl (lv_at hl 0 rfl) ?_
  refine lv_iconst (v := (-1)) hx hb dM_drop_20 (by decide) ?_
  refine lv_icmp_ne (tgt := 26) hx hb dM_drop_21 (by decide) (fun c_2 => ?_) (fun c_2 => ?_)
  · skip
    refine lv_aload_n hx hb dM_drop_26 rfl (lv_at hl 1 rfl) ?_
    refine va_get (D := (dC, dI)) (ci := 4) (v := .ref bA) (C := "ShellSumModel") (T := TM) (N := 26) hx hb htz zu_M hown hK hP 0 rfl rfl 18 (by decide) (htz _ zw_2_178) (fun _ h9 => h9) rfl dM_drop_27 ?_
    refine lv_iload_n hx hb dM_drop_30 rfl (lv_at hl 0 rfl) ?_
    refine lv_iconst (v := 0) hx hb dM_drop_31 (by decide) ?_
    refine va_iast hx hb hK hP hD hS 11 0 rfl rfl (vp_in_nI (by omega) (by omega)) dM_drop_32 (fun H locs hP hD hS => ?_)
    have hP : va_P (dC, dI) vwCl ((am, .inr (4, [.int 0, .ref bT, .ref bU, .int fsz, .int ln, .int pl, .int ne, .int bd, .ref bS, .ref b1, .ref b2, .ref bL, .ref bK, .ref bV, .int wa, .int hi, .ref bN, .ref bX, .ref bA, .ref bB, .int (nI env.length), .int gd, .int wr, .ref bH, .int (nI nl.length), .long nu])) :: (bT, .inl (kI, 300, .inl fT)) :: (bU, .inl (kI, 300, .inl fU)) :: (bS, .inl (kI, 2000, .inl fS)) :: (b1, .inl (kI, 2000, .inl f1)) :: (b2, .inl (kI, 2000, .inl f2)) :: (bL, .inl (kZ, 2000, .inl fL)) :: (bK, .inl (kJ, 2000, .inr (.inl fK))) :: (bV, .inl (kJ, 400, .inr (.inl fV))) :: (bN, .inl (kI, 19200, .inl fN)) :: (bX, .inl (kI, 1536, .inl fX)) :: (bA, .inl (kI, 64, .inl (upd fA (nI k).toNatClampNeg 0))) :: (bB, .inl (kI, 64, .inl fB)) :: (bH, .inl (kI, 8, .inl fH)) :: tl) _ := hP
    have hD : va_D A ((am, .inr (4, [.int 0, .ref bT, .ref bU, .int fsz, .int ln, .int pl, .int ne, .int bd, .ref bS, .ref b1, .ref b2, .ref bL, .ref bK, .ref bV, .int wa, .int hi, .ref bN, .ref bX, .ref bA, .ref bB, .int (nI env.length), .int gd, .int wr, .ref bH, .int (nI nl.length), .long nu])) :: (bT, .inl (kI, 300, .inl fT)) :: (bU, .inl (kI, 300, .inl fU)) :: (bS, .inl (kI, 2000, .inl fS)) :: (b1, .inl (kI, 2000, .inl f1)) :: (b2, .inl (kI, 2000, .inl f2)) :: (bL, .inl (kZ, 2000, .inl fL)) :: (bK, .inl (kJ, 2000, .inr (.inl fK))) :: (bV, .inl (kJ, 400, .inr (.inl fV))) :: (bN, .inl (kI, 19200, .inl fN)) :: (bX, .inl (kI, 1536, .inl fX)) :: (bA, .inl (kI, 64, .inl (upd fA (nI k).toNatClampNeg 0))) :: (bB, .inl (kI, 64, .inl fB)) :: (bH, .inl (kI, 8, .inl fH)) :: tl) := hD
    have e_f : upd fA (nI k).toNatClampNeg 0 = upd fA k 0 := by rw [nI_clamp (by omega)]
    rw [e_f] at hP hD
    have hP : va_P (dC, dI) vwCl ((am, .inr (4, [.int 0, .ref bT, .ref bU, .int fsz, .int ln, .int pl, .int ne, .int bd, .ref bS, .ref b1, .ref b2, .ref bL, .ref bK, .ref bV, .int wa, .int hi, .ref bN, .ref bX, .ref bA, .ref bB, .int (nI env.length), .int gd, .int wr, .ref bH, .int (nI nl.length), .long nu])) :: (bT, .inl (kI, 300, .inl fT)) :: (bU, .inl (kI, 300, .inl fU)) :: (bS, .inl (kI, 2000, .inl fS)) :: (b1, .inl (kI, 2000, .inl f1)) :: (b2, .inl (kI, 2000, .inl f2)) :: (bL, .inl (kZ, 2000, .inl fL)) :: (bK, .inl (kJ, 2000, .inr (.inl fK))) :: (bV, .inl (kJ, 400, .inr (.inl fV))) :: (bN, .inl (kI, 19200, .inl fN)) :: (bX, .inl (kI, 1536, .inl fX)) :: (bA, .inl (kI, 64, .inl (upd fA k 0))) :: (bB, .inl (kI, 64, .inl fB)) :: (bH, .inl (kI, 8, .inl fH)) :: tl) _ := hP
    have hD : va_D A ((am, .inr (4, [.int 0, .ref bT, .ref bU, .int fsz, .int ln, .int pl, .int ne, .int bd, .ref bS, .ref b1, .ref b2, .ref bL, .ref bK, .ref bV, .int wa, .int hi, .ref bN, .ref bX, .ref bA, .ref bB, .int (nI env.length), .int gd, .int wr, .ref bH, .int (nI nl.length), .long nu])) :: (bT, .inl (kI, 300, .inl fT)) :: (bU, .inl (kI, 300, .inl fU)) :: (bS, .inl (kI, 2000, .inl fS)) :: (b1, .inl (kI, 2000, .inl f1)) :: (b2, .inl (kI, 2000, .inl f2)) :: (bL, .inl (kZ, 2000, .inl fL)) :: (bK, .inl (kJ, 2000, .inr (.inl fK))) :: (bV, .inl (kJ, 400, .inr (.inl fV))) :: (bN, .inl (kI, 19200, .inl fN)) :: (bX, .inl (kI, 1536, .inl fX)) :: (bA, .inl (kI, 64, .inl (upd fA k 0))) :: (bB, .inl (kI, 64, .inl fB)) :: (bH, .inl (kI, 8, .inl fH)) :: tl) := hD
    refine lv_aload_n hx hb dM_drop_33 rfl (lv_at hl 1 rfl) ?_
    refine lv_dup hx hb dM_drop_34 rfl ?_
    refine va_get (D := (dC, dI)) (ci := 4) (v := .int (nI env.length)) (C := "ShellSumModel") (T := TM) (N := 26) hx hb htz zu_M hown hK hP 0 rfl rfl 20 (by decide) (htz _ zw_2_180) (fun _ h9 => h9) rfl dM_drop_35 ?_
    refine lv_iconst (v := 1) hx hb dM_drop_38 (by decide) ?_
    refine lv_isub hx hb dM_drop_39 ?_
    have e_ne : 1 ≤ env.length := by have h9 := (sh_find_some hM.2.2.2.1).mp hfd; exact List.length_pos_of_mem h9
    have hl64 := hM.2.2.2.2
    refine xw_topi (y := nI (env.length - 1)) (pk_sub (b := 1) e_ne) ?_
    refine va_put (D := (dC, dI)) (ci := 4) (v := .int (nI (env.length - 1))) (ty := .int) (C := "ShellSumModel") (T := TM) (N := 26) hx hb htz zu_M tyM tyM_ok nmM hown hK hP hD hS 0 rfl rfl 20 (by decide) (htz _ zw_2_180) (fun _ h9 => h9) rfl (by decide +kernel) rfl rfl (Nat.le_of_ble_eq_true rfl) dM_drop_40 (fun H locs hP hD hS => ?_)
    have hP : va_P (dC, dI) vwCl ((am, .inr (4, [.int 0, .ref bT, .ref bU, .int fsz, .int ln, .int pl, .int ne, .int bd, .ref bS, .ref b1, .ref b2, .ref bL, .ref bK, .ref bV, .int wa, .int hi, .ref bN, .ref bX, .ref bA, .ref bB, .int (nI (env.length - 1)), .int gd, .int wr, .ref bH, .int (nI nl.length), .long nu])) :: (bT, .inl (kI, 300, .inl fT)) :: (bU, .inl (kI, 300, .inl fU)) :: (bS, .inl (kI, 2000, .inl fS)) :: (b1, .inl (kI, 2000, .inl f1)) :: (b2, .inl (kI, 2000, .inl f2)) :: (bL, .inl (kZ, 2000, .inl fL)) :: (bK, .inl (kJ, 2000, .inr (.inl fK))) :: (bV, .inl (kJ, 400, .inr (.inl fV))) :: (bN, .inl (kI, 19200, .inl fN)) :: (bX, .inl (kI, 1536, .inl fX)) :: (bA, .inl (kI, 64, .inl (upd fA k 0))) :: (bB, .inl (kI, 64, .inl fB)) :: (bH, .inl (kI, 8, .inl fH)) :: tl) _ := hP
    have hD : va_D A ((am, .inr (4, [.int 0, .ref bT, .ref bU, .int fsz, .int ln, .int pl, .int ne, .int bd, .ref bS, .ref b1, .ref b2, .ref bL, .ref bK, .ref bV, .int wa, .int hi, .ref bN, .ref bX, .ref bA, .ref bB, .int (nI (env.length - 1)), .int gd, .int wr, .ref bH, .int (nI nl.length), .long nu])) :: (bT, .inl (kI, 300, .inl fT)) :: (bU, .inl (kI, 300, .inl fU)) :: (bS, .inl (kI, 2000, .inl fS)) :: (b1, .inl (kI, 2000, .inl f1)) :: (b2, .inl (kI, 2000, .inl f2)) :: (bL, .inl (kZ, 2000, .inl fL)) :: (bK, .inl (kJ, 2000, .inr (.inl fK))) :: (bV, .inl (kJ, 400, .inr (.inl fV))) :: (bN, .inl (kI, 19200, .inl fN)) :: (bX, .inl (kI, 1536, .inl fX)) :: (bA, .inl (kI, 64, .inl (upd fA k 0))) :: (bB, .inl (kI, 64, .inl fB)) :: (bH, .inl (kI, 8, .inl fH)) :: tl) := hD
    refine lv_iconst (v := 1) hx hb dM_drop_43 (by decide) ?_
    refine W.widen (k := 0) (n := 0) (Nat.le_refl _) (Nat.le_refl _) ?_
    exact W.zret (v := 1) hx hb hr (rfl) (fun t ht _ => ⟨_, _, rfl, Or.inr ⟨by rw [hfd]; rfl, rfl, upd fA k 0, sl.set k none, fun e2 hp => zMn_drop hM hsk hp, rfl⟩, by rw [ht]; exact hP, hD, hS.F ht⟩) hS.2.2 dM_drop_44
  exact absurd c_2 (nI_nm (by omega))
set_option maxHeartbeats 4000000 in
set_option maxRecDepth 100000 in
/-- letter(i) -/
theorem k_M_letter (l : Launch) (dC : Nat → ClassId) (dI : Nat → Nat → Nat) (kI kJ kZ : ClassId) (am bT bU bS b1 b2 bL bK bV bN bX bA bB bH : Nat) (cd fsz ln pl ne bd wa hi my gd wr hs : Int32) (nu : Int64) (fT fU fS f1 f2 fL fN fX fA fB fH : Nat → Int32) (fK fV : Nat → Int64) (tl : va_W) (sz : Nat) (nl : List Int32) (hn1 : 1 ≤ nl.length) (hn8 : nl.length ≤ 8) (hfh : ∀ j, j < nl.length → fH j = sh_at nl j) (sl : List mO) (env : sh_Env) (hM : zMn fN fX fA fB sl env) (i0 : Int32) : Met l yM_letter wsM_letter ({ frames := 1, cells := 0, slots := 0, locals := 40 }) (va_Pc [.ref am, .int i0] (zW dC dI ([(kI, .int), (kJ, .long), (kZ, .boolean)]) ((am, .inr (4, [.int cd, .ref bT, .ref bU, .int fsz, .int ln, .int pl, .int ne, .int bd, .ref bS, .ref b1, .ref b2, .ref bL, .ref bK, .ref bV, .int wa, .int hi, .ref bN, .ref bX, .ref bA, .ref bB, .int my, .int gd, .int wr, .ref bH, .int (nI nl.length), .long nu])) :: (bT, .inl (kI, 300, .inl fT)) :: (bU, .inl (kI, 300, .inl fU)) :: (bS, .inl (kI, 2000, .inl fS)) :: (b1, .inl (kI, 2000, .inl f1)) :: (b2, .inl (kI, 2000, .inl f2)) :: (bL, .inl (kZ, 2000, .inl fL)) :: (bK, .inl (kJ, 2000, .inr (.inl fK))) :: (bV, .inl (kJ, 400, .inr (.inl fV))) :: (bN, .inl (kI, 19200, .inl fN)) :: (bX, .inl (kI, 1536, .inl fX)) :: (bA, .inl (kI, 64, .inl fA)) :: (bB, .inl (kI, 64, .inl fB)) :: (bH, .inl (kI, 8, .inl fH)) :: tl) sz)) (zQ dC dI (va_A ((am, .inr (4, [.int cd, .ref bT, .ref bU, .int fsz, .int ln, .int pl, .int ne, .int bd, .ref bS, .ref b1, .ref b2, .ref bL, .ref bK, .ref bV, .int wa, .int hi, .ref bN, .ref bX, .ref bA, .ref bB, .int my, .int gd, .int wr, .ref bH, .int (nI nl.length), .long nu])) :: (bT, .inl (kI, 300, .inl fT)) :: (bU, .inl (kI, 300, .inl fU)) :: (bS, .inl (kI, 2000, .inl fS)) :: (b1, .inl (kI, 2000, .inl f1)) :: (b2, .inl (kI, 2000, .inl f2)) :: (bL, .inl (kZ, 2000, .inl fL)) :: (bK, .inl (kJ, 2000, .inr (.inl fK))) :: (bV, .inl (kJ, 400, .inr (.inl fV))) :: (bN, .inl (kI, 19200, .inl fN)) :: (bX, .inl (kI, 1536, .inl fX)) :: (bA, .inl (kI, 64, .inl fA)) :: (bB, .inl (kI, 64, .inl fB)) :: (bH, .inl (kI, 8, .inl fH)) :: tl) sz) (fun v w => v = some (.int (match sh_find env nl with | none => (-1 : Int32) | some t => if 0 ≤ i0 ∧ i0 < nI t.length then sh_at t i0.toNatClampNeg else -1)) ∧ w = ((am, .inr (4, [.int 0, .ref bT, .ref bU, .int fsz, .int ln, .int pl, .int ne, .int bd, .ref bS, .ref b1, .ref b2, .ref bL, .ref bK, .ref bV, .int wa, .int hi, .ref bN, .ref bX, .ref bA, .ref bB, .int my, .int gd, .int wr, .ref bH, .int (nI nl.length), .long nu])) :: (bT, .inl (kI, 300, .inl fT)) :: (bU, .inl (kI, 300, .inl fU)) :: (bS, .inl (kI, 2000, .inl fS)) :: (b1, .inl (kI, 2000, .inl f1)) :: (b2, .inl (kI, 2000, .inl f2)) :: (bL, .inl (kZ, 2000, .inl fL)) :: (bK, .inl (kJ, 2000, .inr (.inl fK))) :: (bV, .inl (kJ, 400, .inr (.inl fV))) :: (bN, .inl (kI, 19200, .inl fN)) :: (bX, .inl (kI, 1536, .inl fX)) :: (bA, .inl (kI, 64, .inl fA)) :: (bB, .inl (kI, 64, .inl fB)) :: (bH, .inl (kI, 8, .inl fH)) :: tl))) 0 0 (va_A ((am, .inr (4, [.int cd, .ref bT, .ref bU, .int fsz, .int ln, .int pl, .int ne, .int bd, .ref bS, .ref b1, .ref b2, .ref bL, .ref bK, .ref bV, .int wa, .int hi, .ref bN, .ref bX, .ref bA, .ref bB, .int my, .int gd, .int wr, .ref bH, .int (nI nl.length), .long nu])) :: (bT, .inl (kI, 300, .inl fT)) :: (bU, .inl (kI, 300, .inl fU)) :: (bS, .inl (kI, 2000, .inl fS)) :: (b1, .inl (kI, 2000, .inl f1)) :: (b2, .inl (kI, 2000, .inl f2)) :: (bL, .inl (kZ, 2000, .inl fL)) :: (bK, .inl (kJ, 2000, .inr (.inl fK))) :: (bV, .inl (kJ, 400, .inr (.inl fV))) :: (bN, .inl (kI, 19200, .inl fN)) :: (bX, .inl (kI, 1536, .inl fX)) :: (bA, .inl (kI, 64, .inl fA)) :: (bB, .inl (kI, 64, .inl fB)) :: (bH, .inl (kI, 8, .inl fH)) :: tl) sz) := by
  refine Met.ofW (cc := cM_letter) (maxL := 3) (ret := (some .int)) (by decide) rfl ?_
  intro p e s m args below meth c s₁ B hml hv
  obtain ⟨rfl, hsz, hP, hK, hD0, hN⟩ := hv
  subst hsz
  have hD := hD0.self (sz := s.heap.size)
  generalize hAe : va_A ((am, .inr (4, [.int cd, .ref bT, .ref bU, .int fsz, .int ln, .int pl, .int ne, .int bd, .ref bS, .ref b1, .ref b2, .ref bL, .ref bK, .ref bV, .int wa, .int hi, .ref bN, .ref bX, .ref bA, .ref bB, .int my, .int gd, .int wr, .ref bH, .int (nI nl.length), .long nu])) :: (bT, .inl (kI, 300, .inl fT)) :: (bU, .inl (kI, 300, .inl fU)) :: (bS, .inl (kI, 2000, .inl fS)) :: (b1, .inl (kI, 2000, .inl f1)) :: (b2, .inl (kI, 2000, .inl f2)) :: (bL, .inl (kZ, 2000, .inl fL)) :: (bK, .inl (kJ, 2000, .inr (.inl fK))) :: (bV, .inl (kJ, 400, .inr (.inl fV))) :: (bN, .inl (kI, 19200, .inl fN)) :: (bX, .inl (kI, 1536, .inl fX)) :: (bA, .inl (kI, 64, .inl fA)) :: (bB, .inl (kI, 64, .inl fB)) :: (bH, .inl (kI, 8, .inl fH)) :: tl) s.heap.size = A at hD ⊢
  have hA : ∀ q : Nat, s.heap.size ≤ q → A q := fun q h => by rw [← hAe]; exact Or.inr h
  have hS : va_S A s.heap s.heap [] := va_S.rf
  have hx := B.exec
  have hb := B.bytes
  have hr := B.returns
  have htz : ∀ w ∈ zw, w.before _ s = true := fun w h => atoms_spec (ws := wsM_letter) B.pre w (List.mem_cons_of_mem _ h)
  have hown : s.vm.findClass "ShellSumModel" = some m.cls := findClass_of_methodNamed B.named
  have hlocks := B.notSynchronized
  have hl := lv_entry ([.ref am, .int i0]) (n := 3) (Nat.le_of_ble_eq_true rfl)
  rw [lg_entry_eq]
  generalize (lg_sl ([.ref am, .int i0]) ++ List.replicate (3 - (lg_sl ([.ref am, .int i0])).length) Slot.unset).toArray = ls at hl ⊢
  have hl : lv_has ls 3 [(0, .ref am), (1, .int i0)] := hl
  refine lv_aload_n hx hb dM_letter_0 rfl (lv_at hl 0 rfl) ?_
  refine lv_iconst (v := 0) hx hb dM_letter_1 (by decide) ?_
  refine va_put (D := (dC, dI)) (ci := 4) (v := .int 0) (ty := .int) (C := "ShellSumModel") (T := TM) (N := 26) hx hb htz zu_M tyM tyM_ok nmM hown hK hP hD hS 0 rfl rfl 0 (by decide) (htz _ zw_2_160) (fun _ h9 => h9) rfl (by decide +kernel) rfl rfl (Nat.le_of_ble_eq_true rfl) dM_letter_2 (fun H locs hP hD hS => ?_)
  have hP : va_P (dC, dI) vwCl ((am, .inr (4, [.int 0, .ref bT, .ref bU, .int fsz, .int ln, .int pl, .int ne, .int bd, .ref bS, .ref b1, .ref b2, .ref bL, .ref bK, .ref bV, .int wa, .int hi, .ref bN, .ref bX, .ref bA, .ref bB, .int my, .int gd, .int wr, .ref bH, .int (nI nl.length), .long nu])) :: (bT, .inl (kI, 300, .inl fT)) :: (bU, .inl (kI, 300, .inl fU)) :: (bS, .inl (kI, 2000, .inl fS)) :: (b1, .inl (kI, 2000, .inl f1)) :: (b2, .inl (kI, 2000, .inl f2)) :: (bL, .inl (kZ, 2000, .inl fL)) :: (bK, .inl (kJ, 2000, .inr (.inl fK))) :: (bV, .inl (kJ, 400, .inr (.inl fV))) :: (bN, .inl (kI, 19200, .inl fN)) :: (bX, .inl (kI, 1536, .inl fX)) :: (bA, .inl (kI, 64, .inl fA)) :: (bB, .inl (kI, 64, .inl fB)) :: (bH, .inl (kI, 8, .inl fH)) :: tl) _ := hP
  have hD : va_D A ((am, .inr (4, [.int 0, .ref bT, .ref bU, .int fsz, .int ln, .int pl, .int ne, .int bd, .ref bS, .ref b1, .ref b2, .ref bL, .ref bK, .ref bV, .int wa, .int hi, .ref bN, .ref bX, .ref bA, .ref bB, .int my, .int gd, .int wr, .ref bH, .int (nI nl.length), .long nu])) :: (bT, .inl (kI, 300, .inl fT)) :: (bU, .inl (kI, 300, .inl fU)) :: (bS, .inl (kI, 2000, .inl fS)) :: (b1, .inl (kI, 2000, .inl f1)) :: (b2, .inl (kI, 2000, .inl f2)) :: (bL, .inl (kZ, 2000, .inl fL)) :: (bK, .inl (kJ, 2000, .inr (.inl fK))) :: (bV, .inl (kJ, 400, .inr (.inl fV))) :: (bN, .inl (kI, 19200, .inl fN)) :: (bX, .inl (kI, 1536, .inl fX)) :: (bA, .inl (kI, 64, .inl fA)) :: (bB, .inl (kI, 64, .inl fB)) :: (bH, .inl (kI, 8, .inl fH)) :: tl) := hD
  refine lv_aload_n hx hb dM_letter_5 rfl (lv_at hl 0 rfl) ?_
  refine lv_aload_n hx hb dM_letter_6 rfl (lv_at hl 0 rfl) ?_
  refine va_get (D := (dC, dI)) (ci := 4) (v := .ref bH) (C := "ShellSumModel") (T := TM) (N := 26) hx hb htz zu_M hown hK hP 0 rfl rfl 23 (by decide) (htz _ zw_2_183) (fun _ h9 => h9) rfl dM_letter_7 ?_
  refine lv_iconst (v := 0) hx hb dM_letter_10 (by decide) ?_
  refine lv_aload_n hx hb dM_letter_11 rfl (lv_at hl 0 rfl) ?_
  refine va_get (D := (dC, dI)) (ci := 4) (v := .int (nI nl.length)) (C := "ShellSumModel") (T := TM) (N := 26) hx hb htz zu_M hown hK hP 0 rfl rfl 24 (by decide) (htz _ zw_2_184) (fun _ h9 => h9) rfl dM_letter_12 ?_
  refine W.eq (g2 := F0 m 15 ls [.int (nI nl.length), .int (nI 0), .ref bH, .ref am]) rfl ?_
  refine rq_call (va_runV (As := [.ref bH, .int (nI 0), .int (nI nl.length)]) (rest := []) ⟨hx, hb, hml, hown, htz⟩ (k_M_findH l dC dI kI kJ kZ am bT bU bS b1 b2 bL bK bV bN bX bA bB bH 0 fsz ln pl ne bd wa hi my gd wr (nI nl.length) nu fT fU fS f1 f2 fL fN fX fA fB fH fK fV tl 0 nl sl env (fun j h => by rw [Nat.zero_add]; exact hfh j h) (by omega) hn1 hM) (cwV 3 htz (zg_V zw_3_36 zw_3_38 zs_M_find zw_1_4 zw_3_39) rfl rfl rfl (by decide +kernel) ⟨Nat.le_of_ble_eq_true rfl, Nat.le_of_ble_eq_true rfl⟩) (zR_V hP hK hN (va_recv hK hP (ci := 4) (q0 := 0) rfl rfl)) rfl rfl hl.1 rfl (lv_room (Nat.le_of_ble_eq_true rfl)) dM_letter_15 ⟨Nat.zero_le _, Nat.zero_le _⟩) ?_
  refine W.eq (g2 := F0 m 18 ls [.int (m_fk sl nl 64)]) rfl ?_
  rcases zMn_find hM nl with ⟨hf, hfn, hno⟩ | ⟨k, tt, hk64, hf, hsk, hfd⟩
  · skip
    refine xw_topi (y := (-1)) (hf) ?_
    have e_r : (match sh_find env nl with | none => (-1 : Int32) | some t => if 0 ≤ i0 ∧ i0 < nI t.length then sh_at t i0.toNatClampNeg else -1) = -1 := by rw [hfn]
    refine lv_istore_n (lv' := [(2, .int (-1)), (0, .ref am), (1, .int i0)]) hx hb dM_letter_18 rfl hl (by decide) rfl (fun ls hl => ?_)
    refine lv_iload_n hx hb dM_letter_19 rfl (lv_at hl 0 rfl) ?_
    refine lv_iconst (v := (-1)) hx hb dM_letter_20 (by decide) ?_
    refine lv_icmp_eq (tgt := 52) hx hb dM_letter_21 (by decide) (fun c_1 => ?_) (fun c_1 => ?_)
    · skip
      refine lv_iconst (v := (-1)) hx hb dM_letter_52 (by decide) ?_
      refine W.widen (k := 0) (n := 0) (Nat.le_refl _) (Nat.le_refl _) ?_
      exact W.iret (v := (-1)) hx hb hr (fun t ht _ => ⟨_, _, rfl, ⟨by rw [e_r], rfl⟩, by rw [ht]; exact hP, hD, hS.F ht⟩) hS.2.2 dM_letter_53
    exact absurd rfl c_1
  refine xw_topi (y := nI k) (hf) ?_
  obtain ⟨a1, a2, a3, a4, hB, hB20, hX⟩ := hM.2.1 k _ hsk
  have hB : fB k = nI tt.length := hB
  have hB20 : tt.length ≤ 20 := hB20
  have hX : ∀ j, j < tt.length → fX (24 * k + j) = sh_at tt j := hX
  have e_n : (match sh_find env nl with | none => (-1 : Int32) | some t => if 0 ≤ i0 ∧ i0 < nI t.length then sh_at t i0.toNatClampNeg else -1) = if 0 ≤ i0 ∧ i0 < nI tt.length then sh_at tt i0.toNatClampNeg else -1 := by rw [hfd]
  refine lv_istore_n (lv' := [(2, .int (nI k)), (0, .ref am), (1, .int i0)]) hx hb dM_letter_18 rfl hl (by decide) rfl (fun ls hl => ?_)
  refine lv_iload_n hx hb dM_letter_19 rfl (lv_at hl 0 rfl) ?_
  refine lv_iconst (v := (-1)) hx hb dM_letter_20 (by decide) ?_
  refine lv_icmp_eq (tgt := 52) hx hb dM_letter_21 (by decide) (fun c_2 => ?_) (fun c_2 => ?_)
  · skip
    exact absurd c_2 (nI_nm (by omega))
  refine lv_iload_n hx hb dM_letter_24 rfl (lv_at hl 2 rfl) ?_
  refine lv_if_lt (tgt := 52) hx hb dM_letter_25 (by decide) (fun c_3 => ?_) (fun c_3 => ?_)
  · skip
    have e_r : (match sh_find env nl with | none => (-1 : Int32) | some t => if 0 ≤ i0 ∧ i0 < nI t.length then sh_at t i0.toNatClampNeg else -1) = -1 := by rw [e_n, if_neg (by grind)]
    refine lv_iconst (v := (-1)) hx hb dM_letter_52 (by decide) ?_
    refine W.widen (k := 0) (n := 0) (Nat.le_refl _) (Nat.le_refl _) ?_
    exact W.iret (v := (-1)) hx hb hr (fun t ht _ => ⟨_, _, rfl, ⟨by rw [e_r], rfl⟩, by rw [ht]; exact hP, hD, hS.F ht⟩) hS.2.2 dM_letter_53
  refine lv_iload_n hx hb dM_letter_28 rfl (lv_at hl 2 rfl) ?_
  refine lv_aload_n hx hb dM_letter_29 rfl (lv_at hl 1 rfl) ?_
  refine va_get (D := (dC, dI)) (ci := 4) (v := .ref bB) (C := "ShellSumModel") (T := TM) (N := 26) hx hb htz zu_M hown hK hP 0 rfl rfl 19 (by decide) (htz _ zw_2_179) (fun _ h9 => h9) rfl dM_letter_30 ?_
  refine lv_iload_n hx hb dM_letter_33 rfl (lv_at hl 0 rfl) ?_
  refine va_iald hx hb hK hP 12 0 rfl rfl (vp_in_nI (by omega) (by omega)) dM_letter_34 ?_
  refine xw_topi (y := fB k) (by rw [nI_clamp (by omega)]) ?_
  refine xw_topi (y := nI tt.length) (hB) ?_
  refine lv_icmp_ge (tgt := 52) hx hb dM_letter_35 (by decide) (fun c_4 => ?_) (fun c_4 => ?_)
  · skip
    have e_r : (match sh_find env nl with | none => (-1 : Int32) | some t => if 0 ≤ i0 ∧ i0 < nI t.length then sh_at t i0.toNatClampNeg else -1) = -1 := by rw [e_n, if_neg (by grind)]
    refine lv_iconst (v := (-1)) hx hb dM_letter_52 (by decide) ?_
    refine W.widen (k := 0) (n := 0) (Nat.le_refl _) (Nat.le_refl _) ?_
    exact W.iret (v := (-1)) hx hb hr (fun t ht _ => ⟨_, _, rfl, ⟨by rw [e_r], rfl⟩, by rw [ht]; exact hP, hD, hS.F ht⟩) hS.2.2 dM_letter_53
  obtain ⟨i1, hi1, rfl⟩ : ∃ n : Nat, n ≤ 20 ∧ i0 = nI n := nI_of2 (M := 20) rfl c_3 (i_lt20 hB20 c_4)
  have e_i1 : i1 < tt.length := xi_nle c_4 (by omega) (by omega)
  have e_r : (match sh_find env nl with | none => (-1 : Int32) | some t => if 0 ≤ (nI i1) ∧ (nI i1) < nI t.length then sh_at t (nI i1).toNatClampNeg else -1) = sh_at tt i1 := by rw [e_n, if_pos ⟨nI_pos' (by omega), (nI_ltI (by omega) (by omega)).mpr e_i1⟩, nI_clamp (by omega)]
  refine lv_aload_n hx hb dM_letter_38 rfl (lv_at hl 1 rfl) ?_
  refine va_get (D := (dC, dI)) (ci := 4) (v := .ref bX) (C := "ShellSumModel") (T := TM) (N := 26) hx hb htz zu_M hown hK hP 0 rfl rfl 17 (by decide) (htz _ zw_2_177) (fun _ h9 => h9) rfl dM_letter_39 ?_
  refine lv_bipush (v := 24) hx hb dM_letter_42 (by decide) ?_
  refine lv_iload_n hx hb dM_letter_44 rfl (lv_at hl 0 rfl) ?_
  refine lv_imul hx hb dM_letter_45 ?_
  refine xw_topi (y := nI (24 * k)) (pk_mul 24 k) ?_
  refine lv_iload_n hx hb dM_letter_46 rfl (lv_at hl 2 rfl) ?_
  refine lv_iadd hx hb dM_letter_47 ?_
  refine xw_topi (y := nI (24 * k + i1)) (nI_add (24 * k) i1) ?_
  refine va_iald hx hb hK hP 10 0 rfl rfl (vp_in_nI (by omega) (by omega)) dM_letter_48 ?_
  refine xw_topi (y := fX (24 * k + i1)) (by rw [nI_clamp (by omega)]) ?_
  refine lv_goto (tgt := 53) hx hb dM_letter_49 (by decide) ?_
  refine xw_topi (y := sh_at tt i1) (hX i1 e_i1) ?_
  refine W.widen (k := 0) (n := 0) (Nat.le_refl _) (Nat.le_refl _) ?_
  exact W.iret (v := sh_at tt i1) hx hb hr (fun t ht _ => ⟨_, _, rfl, ⟨by rw [e_r], rfl⟩, by rw [ht]; exact hP, hD, hS.F ht⟩) hS.2.2 dM_letter_53
set_option maxHeartbeats 4000000 in
set_option maxRecDepth 100000 in
/-- count(what) -/
theorem k_M_count (l : Launch) (dC : Nat → ClassId) (dI : Nat → Nat → Nat) (kI kJ kZ : ClassId) (am bT bU bS b1 b2 bL bK bV bN bX bA bB bH : Nat) (cd fsz ln pl ne bd wa hi my gd wr hs : Int32) (nu : Int64) (fT fU fS f1 f2 fL fN fX fA fB fH : Nat → Int32) (fK fV : Nat → Int64) (tl : va_W) (sz : Nat) (nl : List Int32) (hn1 : 1 ≤ nl.length) (hn8 : nl.length ≤ 8) (hfh : ∀ j, j < nl.length → fH j = sh_at nl j) (sl : List mO) (env : sh_Env) (hM : zMn fN fX fA fB sl env) (i0 : Int32) (tt9 : Nat) : Met l yM_count wsM_count ({ frames := 1, cells := 0, slots := 0, locals := 40 }) (va_Pc [.ref am, .int i0] (zW dC dI ([(kI, .int), (kJ, .long), (kZ, .boolean)]) ((am, .inr (4, [.int cd, .ref bT, .ref bU, .int (nI tt9), .int ln, .int pl, .int ne, .int bd, .ref bS, .ref b1, .ref b2, .ref bL, .ref bK, .ref bV, .int wa, .int hi, .ref bN, .ref bX, .ref bA, .ref bB, .int (nI env.length), .int gd, .int wr, .ref bH, .int (nI nl.length), .long nu])) :: (bT, .inl (kI, 300, .inl fT)) :: (bU, .inl (kI, 300, .inl fU)) :: (bS, .inl (kI, 2000, .inl fS)) :: (b1, .inl (kI, 2000, .inl f1)) :: (b2, .inl (kI, 2000, .inl f2)) :: (bL, .inl (kZ, 2000, .inl fL)) :: (bK, .inl (kJ, 2000, .inr (.inl fK))) :: (bV, .inl (kJ, 400, .inr (.inl fV))) :: (bN, .inl (kI, 19200, .inl fN)) :: (bX, .inl (kI, 1536, .inl fX)) :: (bA, .inl (kI, 64, .inl fA)) :: (bB, .inl (kI, 64, .inl fB)) :: (bH, .inl (kI, 8, .inl fH)) :: tl) sz)) (zQ dC dI (va_A ((am, .inr (4, [.int cd, .ref bT, .ref bU, .int (nI tt9), .int ln, .int pl, .int ne, .int bd, .ref bS, .ref b1, .ref b2, .ref bL, .ref bK, .ref bV, .int wa, .int hi, .ref bN, .ref bX, .ref bA, .ref bB, .int (nI env.length), .int gd, .int wr, .ref bH, .int (nI nl.length), .long nu])) :: (bT, .inl (kI, 300, .inl fT)) :: (bU, .inl (kI, 300, .inl fU)) :: (bS, .inl (kI, 2000, .inl fS)) :: (b1, .inl (kI, 2000, .inl f1)) :: (b2, .inl (kI, 2000, .inl f2)) :: (bL, .inl (kZ, 2000, .inl fL)) :: (bK, .inl (kJ, 2000, .inr (.inl fK))) :: (bV, .inl (kJ, 400, .inr (.inl fV))) :: (bN, .inl (kI, 19200, .inl fN)) :: (bX, .inl (kI, 1536, .inl fX)) :: (bA, .inl (kI, 64, .inl fA)) :: (bB, .inl (kI, 64, .inl fB)) :: (bH, .inl (kI, 8, .inl fH)) :: tl) sz) (fun v w => v = some (.int (if i0 = 0 then nI tt9 else if i0 = 1 then nI env.length else if i0 = 2 then (match sh_find env nl with | none => (-1 : Int32) | some t => nI t.length) else if i0 = 3 then gd else if i0 = 4 then wr else -1)) ∧ w = ((am, .inr (4, [.int 0, .ref bT, .ref bU, .int (nI tt9), .int ln, .int pl, .int ne, .int bd, .ref bS, .ref b1, .ref b2, .ref bL, .ref bK, .ref bV, .int wa, .int hi, .ref bN, .ref bX, .ref bA, .ref bB, .int (nI env.length), .int gd, .int wr, .ref bH, .int (nI nl.length), .long nu])) :: (bT, .inl (kI, 300, .inl fT)) :: (bU, .inl (kI, 300, .inl fU)) :: (bS, .inl (kI, 2000, .inl fS)) :: (b1, .inl (kI, 2000, .inl f1)) :: (b2, .inl (kI, 2000, .inl f2)) :: (bL, .inl (kZ, 2000, .inl fL)) :: (bK, .inl (kJ, 2000, .inr (.inl fK))) :: (bV, .inl (kJ, 400, .inr (.inl fV))) :: (bN, .inl (kI, 19200, .inl fN)) :: (bX, .inl (kI, 1536, .inl fX)) :: (bA, .inl (kI, 64, .inl fA)) :: (bB, .inl (kI, 64, .inl fB)) :: (bH, .inl (kI, 8, .inl fH)) :: tl))) 0 0 (va_A ((am, .inr (4, [.int cd, .ref bT, .ref bU, .int (nI tt9), .int ln, .int pl, .int ne, .int bd, .ref bS, .ref b1, .ref b2, .ref bL, .ref bK, .ref bV, .int wa, .int hi, .ref bN, .ref bX, .ref bA, .ref bB, .int (nI env.length), .int gd, .int wr, .ref bH, .int (nI nl.length), .long nu])) :: (bT, .inl (kI, 300, .inl fT)) :: (bU, .inl (kI, 300, .inl fU)) :: (bS, .inl (kI, 2000, .inl fS)) :: (b1, .inl (kI, 2000, .inl f1)) :: (b2, .inl (kI, 2000, .inl f2)) :: (bL, .inl (kZ, 2000, .inl fL)) :: (bK, .inl (kJ, 2000, .inr (.inl fK))) :: (bV, .inl (kJ, 400, .inr (.inl fV))) :: (bN, .inl (kI, 19200, .inl fN)) :: (bX, .inl (kI, 1536, .inl fX)) :: (bA, .inl (kI, 64, .inl fA)) :: (bB, .inl (kI, 64, .inl fB)) :: (bH, .inl (kI, 8, .inl fH)) :: tl) sz) := by
  refine Met.ofW (cc := cM_count) (maxL := 3) (ret := (some .int)) (by decide) rfl ?_
  intro p e s m args below meth c s₁ B hml hv
  obtain ⟨rfl, hsz, hP, hK, hD0, hN⟩ := hv
  subst hsz
  have hD := hD0.self (sz := s.heap.size)
  generalize hAe : va_A ((am, .inr (4, [.int cd, .ref bT, .ref bU, .int (nI tt9), .int ln, .int pl, .int ne, .int bd, .ref bS, .ref b1, .ref b2, .ref bL, .ref bK, .ref bV, .int wa, .int hi, .ref bN, .ref bX, .ref bA, .ref bB, .int (nI env.length), .int gd, .int wr, .ref bH, .int (nI nl.length), .long nu])) :: (bT, .inl (kI, 300, .inl fT)) :: (bU, .inl (kI, 300, .inl fU)) :: (bS, .inl (kI, 2000, .inl fS)) :: (b1, .inl (kI, 2000, .inl f1)) :: (b2, .inl (kI, 2000, .inl f2)) :: (bL, .inl (kZ, 2000, .inl fL)) :: (bK, .inl (kJ, 2000, .inr (.inl fK))) :: (bV, .inl (kJ, 400, .inr (.inl fV))) :: (bN, .inl (kI, 19200, .inl fN)) :: (bX, .inl (kI, 1536, .inl fX)) :: (bA, .inl (kI, 64, .inl fA)) :: (bB, .inl (kI, 64, .inl fB)) :: (bH, .inl (kI, 8, .inl fH)) :: tl) s.heap.size = A at hD ⊢
  have hA : ∀ q : Nat, s.heap.size ≤ q → A q := fun q h => by rw [← hAe]; exact Or.inr h
  have hS : va_S A s.heap s.heap [] := va_S.rf
  have hx := B.exec
  have hb := B.bytes
  have hr := B.returns
  have htz : ∀ w ∈ zw, w.before _ s = true := fun w h => atoms_spec (ws := wsM_count) B.pre w (List.mem_cons_of_mem _ h)
  have hown : s.vm.findClass "ShellSumModel" = some m.cls := findClass_of_methodNamed B.named
  have hlocks := B.notSynchronized
  have hl := lv_entry ([.ref am, .int i0]) (n := 3) (Nat.le_of_ble_eq_true rfl)
  rw [lg_entry_eq]
  generalize (lg_sl ([.ref am, .int i0]) ++ List.replicate (3 - (lg_sl ([.ref am, .int i0])).length) Slot.unset).toArray = ls at hl ⊢
  have hl : lv_has ls 3 [(0, .ref am), (1, .int i0)] := hl
  refine lv_aload_n hx hb dM_count_0 rfl (lv_at hl 0 rfl) ?_
  refine lv_iconst (v := 0) hx hb dM_count_1 (by decide) ?_
  refine va_put (D := (dC, dI)) (ci := 4) (v := .int 0) (ty := .int) (C := "ShellSumModel") (T := TM) (N := 26) hx hb htz zu_M tyM tyM_ok nmM hown hK hP hD hS 0 rfl rfl 0 (by decide) (htz _ zw_2_160) (fun _ h9 => h9) rfl (by decide +kernel) rfl rfl (Nat.le_of_ble_eq_true rfl) dM_count_2 (fun H locs hP hD hS => ?_)
  have hP : va_P (dC, dI) vwCl ((am, .inr (4, [.int 0, .ref bT, .ref bU, .int (nI tt9), .int ln, .int pl, .int ne, .int bd, .ref bS, .ref b1, .ref b2, .ref bL, .ref bK, .ref bV, .int wa, .int hi, .ref bN, .ref bX, .ref bA, .ref bB, .int (nI env.length), .int gd, .int wr, .ref bH, .int (nI nl.length), .long nu])) :: (bT, .inl (kI, 300, .inl fT)) :: (bU, .inl (kI, 300, .inl fU)) :: (bS, .inl (kI, 2000, .inl fS)) :: (b1, .inl (kI, 2000, .inl f1)) :: (b2, .inl (kI, 2000, .inl f2)) :: (bL, .inl (kZ, 2000, .inl fL)) :: (bK, .inl (kJ, 2000, .inr (.inl fK))) :: (bV, .inl (kJ, 400, .inr (.inl fV))) :: (bN, .inl (kI, 19200, .inl fN)) :: (bX, .inl (kI, 1536, .inl fX)) :: (bA, .inl (kI, 64, .inl fA)) :: (bB, .inl (kI, 64, .inl fB)) :: (bH, .inl (kI, 8, .inl fH)) :: tl) _ := hP
  have hD : va_D A ((am, .inr (4, [.int 0, .ref bT, .ref bU, .int (nI tt9), .int ln, .int pl, .int ne, .int bd, .ref bS, .ref b1, .ref b2, .ref bL, .ref bK, .ref bV, .int wa, .int hi, .ref bN, .ref bX, .ref bA, .ref bB, .int (nI env.length), .int gd, .int wr, .ref bH, .int (nI nl.length), .long nu])) :: (bT, .inl (kI, 300, .inl fT)) :: (bU, .inl (kI, 300, .inl fU)) :: (bS, .inl (kI, 2000, .inl fS)) :: (b1, .inl (kI, 2000, .inl f1)) :: (b2, .inl (kI, 2000, .inl f2)) :: (bL, .inl (kZ, 2000, .inl fL)) :: (bK, .inl (kJ, 2000, .inr (.inl fK))) :: (bV, .inl (kJ, 400, .inr (.inl fV))) :: (bN, .inl (kI, 19200, .inl fN)) :: (bX, .inl (kI, 1536, .inl fX)) :: (bA, .inl (kI, 64, .inl fA)) :: (bB, .inl (kI, 64, .inl fB)) :: (bH, .inl (kI, 8, .inl fH)) :: tl) := hD
  refine lv_aload_n hx hb dM_count_5 rfl (lv_at hl 0 rfl) ?_
  refine lv_aload_n hx hb dM_count_6 rfl (lv_at hl 0 rfl) ?_
  refine va_get (D := (dC, dI)) (ci := 4) (v := .ref bH) (C := "ShellSumModel") (T := TM) (N := 26) hx hb htz zu_M hown hK hP 0 rfl rfl 23 (by decide) (htz _ zw_2_183) (fun _ h9 => h9) rfl dM_count_7 ?_
  refine lv_iconst (v := 0) hx hb dM_count_10 (by decide) ?_
  refine lv_aload_n hx hb dM_count_11 rfl (lv_at hl 0 rfl) ?_
  refine va_get (D := (dC, dI)) (ci := 4) (v := .int (nI nl.length)) (C := "ShellSumModel") (T := TM) (N := 26) hx hb htz zu_M hown hK hP 0 rfl rfl 24 (by decide) (htz _ zw_2_184) (fun _ h9 => h9) rfl dM_count_12 ?_
  refine W.eq (g2 := F0 m 15 ls [.int (nI nl.length), .int (nI 0), .ref bH, .ref am]) rfl ?_
  refine rq_call (va_runV (As := [.ref bH, .int (nI 0), .int (nI nl.length)]) (rest := []) ⟨hx, hb, hml, hown, htz⟩ (k_M_findH l dC dI kI kJ kZ am bT bU bS b1 b2 bL bK bV bN bX bA bB bH 0 (nI tt9) ln pl ne bd wa hi (nI env.length) gd wr (nI nl.length) nu fT fU fS f1 f2 fL fN fX fA fB fH fK fV tl 0 nl sl env (fun j h => by rw [Nat.zero_add]; exact hfh j h) (by omega) hn1 hM) (cwV 3 htz (zg_V zw_3_36 zw_3_38 zs_M_find zw_1_4 zw_3_39) rfl rfl rfl (by decide +kernel) ⟨Nat.le_of_ble_eq_true rfl, Nat.le_of_ble_eq_true rfl⟩) (zR_V hP hK hN (va_recv hK hP (ci := 4) (q0 := 0) rfl rfl)) rfl rfl hl.1 rfl (lv_room (Nat.le_of_ble_eq_true rfl)) dM_count_15 ⟨Nat.zero_le _, Nat.zero_le _⟩) ?_
  refine W.eq (g2 := F0 m 18 ls [.int (m_fk sl nl 64)]) rfl ?_
  rcases zMn_find hM nl with ⟨hf, hfn, hno⟩ | ⟨k, tt, hk64, hf, hsk, hfd⟩
  · skip
    refine xw_topi (y := (-1)) (hf) ?_
    refine lv_istore_n (lv' := [(2, .int (-1)), (0, .ref am), (1, .int i0)]) hx hb dM_count_18 rfl hl (by decide) rfl (fun ls hl => ?_)
    refine lv_iload_n hx hb dM_count_19 rfl (lv_at hl 2 rfl) ?_
    by_cases c_1 : i0 = 0
    · skip
      refine lv_tableIn (off := 36) (tgt := 56) hx hb dM_count_20 (by rw [c_1]; decide) (by rw [c_1]; decide) (by rw [c_1]; rfl) (by decide) ?_
      refine lv_aload_n hx hb dM_count_56 rfl (lv_at hl 1 rfl) ?_
      refine va_get (D := (dC, dI)) (ci := 4) (v := .int (nI tt9)) (C := "ShellSumModel") (T := TM) (N := 26) hx hb htz zu_M hown hK hP 0 rfl rfl 3 (by decide) (htz _ zw_2_163) (fun _ h9 => h9) rfl dM_count_57 ?_
      refine W.widen (k := 0) (n := 0) (Nat.le_refl _) (Nat.le_refl _) ?_
      exact W.iret (v := nI tt9) hx hb hr (fun t ht _ => ⟨_, _, rfl, ⟨by rw [c_1]; rfl, rfl⟩, by rw [ht]; exact hP, hD, hS.F ht⟩) hS.2.2 dM_count_60
    by_cases c_2 : i0 = 1
    · skip
      refine lv_tableIn (off := 41) (tgt := 61) hx hb dM_count_20 (by rw [c_2]; decide) (by rw [c_2]; decide) (by rw [c_2]; rfl) (by decide) ?_
      refine lv_aload_n hx hb dM_count_61 rfl (lv_at hl 1 rfl) ?_
      refine va_get (D := (dC, dI)) (ci := 4) (v := .int (nI env.length)) (C := "ShellSumModel") (T := TM) (N := 26) hx hb htz zu_M hown hK hP 0 rfl rfl 20 (by decide) (htz _ zw_2_180) (fun _ h9 => h9) rfl dM_count_62 ?_
      refine W.widen (k := 0) (n := 0) (Nat.le_refl _) (Nat.le_refl _) ?_
      exact W.iret (v := nI env.length) hx hb hr (fun t ht _ => ⟨_, _, rfl, ⟨by rw [c_2]; rfl, rfl⟩, by rw [ht]; exact hP, hD, hS.F ht⟩) hS.2.2 dM_count_65
    by_cases c_3 : i0 = 2
    · skip
      refine lv_tableIn (off := 46) (tgt := 66) hx hb dM_count_20 (by rw [c_3]; decide) (by rw [c_3]; decide) (by rw [c_3]; rfl) (by decide) ?_
      refine lv_iload_n hx hb dM_count_66 rfl (lv_at hl 0 rfl) ?_
      refine lv_iconst (v := (-1)) hx hb dM_count_67 (by decide) ?_
      refine lv_icmp_ne (tgt := 75) hx hb dM_count_68 (by decide) (fun c_4 => ?_) (fun c_4 => ?_)
      · skip
        exact absurd rfl c_4
      refine lv_iconst (v := (-1)) hx hb dM_count_71 (by decide) ?_
      refine lv_goto (tgt := 81) hx hb dM_count_72 (by decide) ?_
      refine W.widen (k := 0) (n := 0) (Nat.le_refl _) (Nat.le_refl _) ?_
      exact W.iret (v := (-1)) hx hb hr (fun t ht _ => ⟨_, _, rfl, ⟨by rw [c_3, hfn]; rfl, rfl⟩, by rw [ht]; exact hP, hD, hS.F ht⟩) hS.2.2 dM_count_81
    by_cases c_5 : i0 = 3
    · skip
      refine lv_tableIn (off := 62) (tgt := 82) hx hb dM_count_20 (by rw [c_5]; decide) (by rw [c_5]; decide) (by rw [c_5]; rfl) (by decide) ?_
      refine lv_aload_n hx hb dM_count_82 rfl (lv_at hl 1 rfl) ?_
      refine va_get (D := (dC, dI)) (ci := 4) (v := .int gd) (C := "ShellSumModel") (T := TM) (N := 26) hx hb htz zu_M hown hK hP 0 rfl rfl 21 (by decide) (htz _ zw_2_181) (fun _ h9 => h9) rfl dM_count_83 ?_
      refine W.widen (k := 0) (n := 0) (Nat.le_refl _) (Nat.le_refl _) ?_
      exact W.iret (v := gd) hx hb hr (fun t ht _ => ⟨_, _, rfl, ⟨by rw [c_5]; rfl, rfl⟩, by rw [ht]; exact hP, hD, hS.F ht⟩) hS.2.2 dM_count_86
    by_cases c_6 : i0 = 4
    · skip
      refine lv_tableIn (off := 67) (tgt := 87) hx hb dM_count_20 (by rw [c_6]; decide) (by rw [c_6]; decide) (by rw [c_6]; rfl) (by decide) ?_
      refine lv_aload_n hx hb dM_count_87 rfl (lv_at hl 1 rfl) ?_
      refine va_get (D := (dC, dI)) (ci := 4) (v := .int wr) (C := "ShellSumModel") (T := TM) (N := 26) hx hb htz zu_M hown hK hP 0 rfl rfl 22 (by decide) (htz _ zw_2_182) (fun _ h9 => h9) rfl dM_count_88 ?_
      refine W.widen (k := 0) (n := 0) (Nat.le_refl _) (Nat.le_refl _) ?_
      exact W.iret (v := wr) hx hb hr (fun t ht _ => ⟨_, _, rfl, ⟨by rw [c_6]; rfl, rfl⟩, by rw [ht]; exact hP, hD, hS.F ht⟩) hS.2.2 dM_count_91
    refine lv_tableOut (tgt := 92) hx hb dM_count_20 (by have e0 := lv_neT c_1 (k := 0) (a := 0) (by decide); have e1 := lv_neT c_2 (k := 1) (a := 1) (by decide); have e2 := lv_neT c_3 (k := 2) (a := 2) (by decide); have e3 := lv_neT c_5 (k := 3) (a := 3) (by decide); have e4 := lv_neT c_6 (k := 4) (a := 4) (by decide); omega) (by decide) ?_
    refine lv_iconst (v := (-1)) hx hb dM_count_92 (by decide) ?_
    refine W.widen (k := 0) (n := 0) (Nat.le_refl _) (Nat.le_refl _) ?_
    exact W.iret (v := (-1)) hx hb hr (fun t ht _ => ⟨_, _, rfl, ⟨by rw [if_neg c_1, if_neg c_2, if_neg c_3, if_neg c_5, if_neg c_6], rfl⟩, by rw [ht]; exact hP, hD, hS.F ht⟩) hS.2.2 dM_count_93
  refine xw_topi (y := nI k) (hf) ?_
  obtain ⟨a1, a2, a3, a4, hB, hB20, hX⟩ := hM.2.1 k _ hsk
  have hB : fB k = nI tt.length := hB
  have hB20 : tt.length ≤ 20 := hB20
  have hX : ∀ j, j < tt.length → fX (24 * k + j) = sh_at tt j := hX
  refine lv_istore_n (lv' := [(2, .int (nI k)), (0, .ref am), (1, .int i0)]) hx hb dM_count_18 rfl hl (by decide) rfl (fun ls hl => ?_)
  refine lv_iload_n hx hb dM_count_19 rfl (lv_at hl 2 rfl) ?_
  by_cases c_7 : i0 = 0
  · skip
    refine lv_tableIn (off := 36) (tgt := 56) hx hb dM_count_20 (by rw [c_7]; decide) (by rw [c_7]; decide) (by rw [c_7]; rfl) (by decide) ?_
    refine lv_aload_n hx hb dM_count_56 rfl (lv_at hl 1 rfl) ?_
    refine va_get (D := (dC, dI)) (ci := 4) (v := .int (nI tt9)) (C := "ShellSumModel") (T := TM) (N := 26) hx hb htz zu_M hown hK hP 0 rfl rfl 3 (by decide) (htz _ zw_2_163) (fun _ h9 => h9) rfl dM_count_57 ?_
    refine W.widen (k := 0) (n := 0) (Nat.le_refl _) (Nat.le_refl _) ?_
    exact W.iret (v := nI tt9) hx hb hr (fun t ht _ => ⟨_, _, rfl, ⟨by rw [c_7]; rfl, rfl⟩, by rw [ht]; exact hP, hD, hS.F ht⟩) hS.2.2 dM_count_60
  by_cases c_8 : i0 = 1
  · skip
    refine lv_tableIn (off := 41) (tgt := 61) hx hb dM_count_20 (by rw [c_8]; decide) (by rw [c_8]; decide) (by rw [c_8]; rfl) (by decide) ?_
    refine lv_aload_n hx hb dM_count_61 rfl (lv_at hl 1 rfl) ?_
    refine va_get (D := (dC, dI)) (ci := 4) (v := .int (nI env.length)) (C := "ShellSumModel") (T := TM) (N := 26) hx hb htz zu_M hown hK hP 0 rfl rfl 20 (by decide) (htz _ zw_2_180) (fun _ h9 => h9) rfl dM_count_62 ?_
    refine W.widen (k := 0) (n := 0) (Nat.le_refl _) (Nat.le_refl _) ?_
    exact W.iret (v := nI env.length) hx hb hr (fun t ht _ => ⟨_, _, rfl, ⟨by rw [c_8]; rfl, rfl⟩, by rw [ht]; exact hP, hD, hS.F ht⟩) hS.2.2 dM_count_65
  by_cases c_9 : i0 = 2
  · skip
    refine lv_tableIn (off := 46) (tgt := 66) hx hb dM_count_20 (by rw [c_9]; decide) (by rw [c_9]; decide) (by rw [c_9]; rfl) (by decide) ?_
    refine lv_iload_n hx hb dM_count_66 rfl (lv_at hl 0 rfl) ?_
    refine lv_iconst (v := (-1)) hx hb dM_count_67 (by decide) ?_
    refine lv_icmp_ne (tgt := 75) hx hb dM_count_68 (by decide) (fun c_10 => ?_) (fun c_10 => ?_)
    · skip
      refine lv_aload_n hx hb dM_count_75 rfl (lv_at hl 1 rfl) ?_
      refine va_get (D := (dC, dI)) (ci := 4) (v := .ref bB) (C := "ShellSumModel") (T := TM) (N := 26) hx hb htz zu_M hown hK hP 0 rfl rfl 19 (by decide) (htz _ zw_2_179) (fun _ h9 => h9) rfl dM_count_76 ?_
      refine lv_iload_n hx hb dM_count_79 rfl (lv_at hl 0 rfl) ?_
      refine va_iald hx hb hK hP 12 0 rfl rfl (vp_in_nI (by omega) (by omega)) dM_count_80 ?_
      refine xw_topi (y := fB k) (by rw [nI_clamp (by omega)]) ?_
      refine xw_topi (y := nI tt.length) (hB) ?_
      refine W.widen (k := 0) (n := 0) (Nat.le_refl _) (Nat.le_refl _) ?_
      exact W.iret (v := nI tt.length) hx hb hr (fun t ht _ => ⟨_, _, rfl, ⟨by rw [c_9, hfd]; rfl, rfl⟩, by rw [ht]; exact hP, hD, hS.F ht⟩) hS.2.2 dM_count_81
    exact absurd c_10 (nI_nm (by omega))
  by_cases c_11 : i0 = 3
  · skip
    refine lv_tableIn (off := 62) (tgt := 82) hx hb dM_count_20 (by rw [c_11]; decide) (by rw [c_11]; decide) (by rw [c_11]; rfl) (by decide) ?_
    refine lv_aload_n hx hb dM_count_82 rfl (lv_at hl 1 rfl) ?_
    refine va_get (D := (dC, dI)) (ci := 4) (v := .int gd) (C := "ShellSumModel") (T := TM) (N := 26) hx hb htz zu_M hown hK hP 0 rfl rfl 21 (by decide) (htz _ zw_2_181) (fun _ h9 => h9) rfl dM_count_83 ?_
    refine W.widen (k := 0) (n := 0) (Nat.le_refl _) (Nat.le_refl _) ?_
    exact W.iret (v := gd) hx hb hr (fun t ht _ => ⟨_, _, rfl, ⟨by rw [c_11]; rfl, rfl⟩, by rw [ht]; exact hP, hD, hS.F ht⟩) hS.2.2 dM_count_86
  by_cases c_12 : i0 = 4
  · skip
    refine lv_tableIn (off := 67) (tgt := 87) hx hb dM_count_20 (by rw [c_12]; decide) (by rw [c_12]; decide) (by rw [c_12]; rfl) (by decide) ?_
    refine lv_aload_n hx hb dM_count_87 rfl (lv_at hl 1 rfl) ?_
    refine va_get (D := (dC, dI)) (ci := 4) (v := .int wr) (C := "ShellSumModel") (T := TM) (N := 26) hx hb htz zu_M hown hK hP 0 rfl rfl 22 (by decide) (htz _ zw_2_182) (fun _ h9 => h9) rfl dM_count_88 ?_
    refine W.widen (k := 0) (n := 0) (Nat.le_refl _) (Nat.le_refl _) ?_
    exact W.iret (v := wr) hx hb hr (fun t ht _ => ⟨_, _, rfl, ⟨by rw [c_12]; rfl, rfl⟩, by rw [ht]; exact hP, hD, hS.F ht⟩) hS.2.2 dM_count_91
  refine lv_tableOut (tgt := 92) hx hb dM_count_20 (by have e0 := lv_neT c_7 (k := 0) (a := 0) (by decide); have e1 := lv_neT c_8 (k := 1) (a := 1) (by decide); have e2 := lv_neT c_9 (k := 2) (a := 2) (by decide); have e3 := lv_neT c_11 (k := 3) (a := 3) (by decide); have e4 := lv_neT c_12 (k := 4) (a := 4) (by decide); omega) (by decide) ?_
  refine lv_iconst (v := (-1)) hx hb dM_count_92 (by decide) ?_
  refine W.widen (k := 0) (n := 0) (Nat.le_refl _) (Nat.le_refl _) ?_
  exact W.iret (v := (-1)) hx hb hr (fun t ht _ => ⟨_, _, rfl, ⟨by rw [if_neg c_7, if_neg c_8, if_neg c_9, if_neg c_11, if_neg c_12], rfl⟩, by rw [ht]; exact hP, hD, hS.F ht⟩) hS.2.2 dM_count_93
