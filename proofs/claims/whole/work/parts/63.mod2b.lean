set_option maxHeartbeats 4000000 in
set_option maxRecDepth 100000 in
/-- numberEnd(row, from, end) -/
theorem k_M_numberEndU (l : Launch) (dC : Nat → ClassId) (dI : Nat → Nat → Nat) (kI kJ kZ : ClassId) (am bT bU bS b1 b2 bL bK bV bN bX bA bB bH : Nat) (cd fsz ln pl ne bd wa hi my gd wr hs : Int32) (nu : Int64) (fT fU fS f1 f2 fL fN fX fA fB fH : Nat → Int32) (fK fV : Nat → Int64) (tl : va_W) (sz : Nat) (a : Nat) (nl : List Int32) (hnl : ∀ j, j < nl.length → fU (a + j) = sh_at nl j) (ha : a + nl.length ≤ 300) (h0 : 0 < nl.length) (hdg : sh_digit (sh_at nl 0) = true) : Met l yM_numberEnd wsM_numberEnd ({ frames := 2, cells := 0, slots := 0, locals := 60 }) (va_Pc [.ref am, .ref bU, .int (nI a), .int (nI (a + nl.length))] (zW dC dI ([(kI, .int), (kJ, .long), (kZ, .boolean)]) ((am, .inr (4, [.int cd, .ref bT, .ref bU, .int fsz, .int ln, .int pl, .int ne, .int bd, .ref bS, .ref b1, .ref b2, .ref bL, .ref bK, .ref bV, .int wa, .int hi, .ref bN, .ref bX, .ref bA, .ref bB, .int my, .int gd, .int wr, .ref bH, .int hs, .long nu])) :: (bT, .inl (kI, 300, .inl fT)) :: (bU, .inl (kI, 300, .inl fU)) :: (bS, .inl (kI, 2000, .inl fS)) :: (b1, .inl (kI, 2000, .inl f1)) :: (b2, .inl (kI, 2000, .inl f2)) :: (bL, .inl (kZ, 2000, .inl fL)) :: (bK, .inl (kJ, 2000, .inr (.inl fK))) :: (bV, .inl (kJ, 400, .inr (.inl fV))) :: (bN, .inl (kI, 19200, .inl fN)) :: (bX, .inl (kI, 1536, .inl fX)) :: (bA, .inl (kI, 64, .inl fA)) :: (bB, .inl (kI, 64, .inl fB)) :: (bH, .inl (kI, 8, .inl fH)) :: tl) sz)) (zQ dC dI (va_A ((am, .inr (4, [.int cd, .ref bT, .ref bU, .int fsz, .int ln, .int pl, .int ne, .int bd, .ref bS, .ref b1, .ref b2, .ref bL, .ref bK, .ref bV, .int wa, .int hi, .ref bN, .ref bX, .ref bA, .ref bB, .int my, .int gd, .int wr, .ref bH, .int hs, .long nu])) :: (bT, .inl (kI, 300, .inl fT)) :: (bU, .inl (kI, 300, .inl fU)) :: (bS, .inl (kI, 2000, .inl fS)) :: (b1, .inl (kI, 2000, .inl f1)) :: (b2, .inl (kI, 2000, .inl f2)) :: (bL, .inl (kZ, 2000, .inl fL)) :: (bK, .inl (kJ, 2000, .inr (.inl fK))) :: (bV, .inl (kJ, 400, .inr (.inl fV))) :: (bN, .inl (kI, 19200, .inl fN)) :: (bX, .inl (kI, 1536, .inl fX)) :: (bA, .inl (kI, 64, .inl fA)) :: (bB, .inl (kI, 64, .inl fB)) :: (bH, .inl (kI, 8, .inl fH)) :: tl) sz) (fun v w => (∃ x, sh_num (m_w nl) = some x ∧ v = some (.int (nI (a + (m_w nl).length))) ∧ w = ((am, .inr (4, [.int cd, .ref bT, .ref bU, .int fsz, .int ln, .int pl, .int ne, .int bd, .ref bS, .ref b1, .ref b2, .ref bL, .ref bK, .ref bV, .int wa, .int hi, .ref bN, .ref bX, .ref bA, .ref bB, .int my, .int gd, .int wr, .ref bH, .int hs, .long x])) :: (bT, .inl (kI, 300, .inl fT)) :: (bU, .inl (kI, 300, .inl fU)) :: (bS, .inl (kI, 2000, .inl fS)) :: (b1, .inl (kI, 2000, .inl f1)) :: (b2, .inl (kI, 2000, .inl f2)) :: (bL, .inl (kZ, 2000, .inl fL)) :: (bK, .inl (kJ, 2000, .inr (.inl fK))) :: (bV, .inl (kJ, 400, .inr (.inl fV))) :: (bN, .inl (kI, 19200, .inl fN)) :: (bX, .inl (kI, 1536, .inl fX)) :: (bA, .inl (kI, 64, .inl fA)) :: (bB, .inl (kI, 64, .inl fB)) :: (bH, .inl (kI, 8, .inl fH)) :: tl)) ∨ (sh_num (m_w nl) = none ∧ v = some (.int (-1)) ∧ ∃ x, w = ((am, .inr (4, [.int cd, .ref bT, .ref bU, .int fsz, .int ln, .int pl, .int ne, .int bd, .ref bS, .ref b1, .ref b2, .ref bL, .ref bK, .ref bV, .int wa, .int hi, .ref bN, .ref bX, .ref bA, .ref bB, .int my, .int gd, .int wr, .ref bH, .int hs, .long x])) :: (bT, .inl (kI, 300, .inl fT)) :: (bU, .inl (kI, 300, .inl fU)) :: (bS, .inl (kI, 2000, .inl fS)) :: (b1, .inl (kI, 2000, .inl f1)) :: (b2, .inl (kI, 2000, .inl f2)) :: (bL, .inl (kZ, 2000, .inl fL)) :: (bK, .inl (kJ, 2000, .inr (.inl fK))) :: (bV, .inl (kJ, 400, .inr (.inl fV))) :: (bN, .inl (kI, 19200, .inl fN)) :: (bX, .inl (kI, 1536, .inl fX)) :: (bA, .inl (kI, 64, .inl fA)) :: (bB, .inl (kI, 64, .inl fB)) :: (bH, .inl (kI, 8, .inl fH)) :: tl)))) 0 0 (va_A ((am, .inr (4, [.int cd, .ref bT, .ref bU, .int fsz, .int ln, .int pl, .int ne, .int bd, .ref bS, .ref b1, .ref b2, .ref bL, .ref bK, .ref bV, .int wa, .int hi, .ref bN, .ref bX, .ref bA, .ref bB, .int my, .int gd, .int wr, .ref bH, .int hs, .long nu])) :: (bT, .inl (kI, 300, .inl fT)) :: (bU, .inl (kI, 300, .inl fU)) :: (bS, .inl (kI, 2000, .inl fS)) :: (b1, .inl (kI, 2000, .inl f1)) :: (b2, .inl (kI, 2000, .inl f2)) :: (bL, .inl (kZ, 2000, .inl fL)) :: (bK, .inl (kJ, 2000, .inr (.inl fK))) :: (bV, .inl (kJ, 400, .inr (.inl fV))) :: (bN, .inl (kI, 19200, .inl fN)) :: (bX, .inl (kI, 1536, .inl fX)) :: (bA, .inl (kI, 64, .inl fA)) :: (bB, .inl (kI, 64, .inl fB)) :: (bH, .inl (kI, 8, .inl fH)) :: tl) sz) := by
  refine Met.ofW (cc := cM_numberEnd) (maxL := 10) (ret := (some .int)) (by decide) rfl ?_
  intro p e s m args below meth c s₁ B hml hv
  obtain ⟨rfl, hsz, hP, hK, hD0, hN⟩ := hv
  subst hsz
  have hD := hD0.self (sz := s.heap.size)
  generalize hAe : va_A ((am, .inr (4, [.int cd, .ref bT, .ref bU, .int fsz, .int ln, .int pl, .int ne, .int bd, .ref bS, .ref b1, .ref b2, .ref bL, .ref bK, .ref bV, .int wa, .int hi, .ref bN, .ref bX, .ref bA, .ref bB, .int my, .int gd, .int wr, .ref bH, .int hs, .long nu])) :: (bT, .inl (kI, 300, .inl fT)) :: (bU, .inl (kI, 300, .inl fU)) :: (bS, .inl (kI, 2000, .inl fS)) :: (b1, .inl (kI, 2000, .inl f1)) :: (b2, .inl (kI, 2000, .inl f2)) :: (bL, .inl (kZ, 2000, .inl fL)) :: (bK, .inl (kJ, 2000, .inr (.inl fK))) :: (bV, .inl (kJ, 400, .inr (.inl fV))) :: (bN, .inl (kI, 19200, .inl fN)) :: (bX, .inl (kI, 1536, .inl fX)) :: (bA, .inl (kI, 64, .inl fA)) :: (bB, .inl (kI, 64, .inl fB)) :: (bH, .inl (kI, 8, .inl fH)) :: tl) s.heap.size = A at hD ⊢
  have hA : ∀ q : Nat, s.heap.size ≤ q → A q := fun q h => by rw [← hAe]; exact Or.inr h
  have hS : va_S A s.heap s.heap [] := va_S.rf
  have hx := B.exec
  have hb := B.bytes
  have hr := B.returns
  have htz : ∀ w ∈ zw, w.before _ s = true := fun w h => atoms_spec (ws := wsM_numberEnd) B.pre w (List.mem_cons_of_mem _ h)
  have hown : s.vm.findClass "ShellSumModel" = some m.cls := findClass_of_methodNamed B.named
  have hlocks := B.notSynchronized
  have hl := lv_entry ([.ref am, .ref bU, .int (nI a), .int (nI (a + nl.length))]) (n := 10) (Nat.le_of_ble_eq_true rfl)
  rw [lg_entry_eq]
  generalize (lg_sl ([.ref am, .ref bU, .int (nI a), .int (nI (a + nl.length))]) ++ List.replicate (10 - (lg_sl ([.ref am, .ref bU, .int (nI a), .int (nI (a + nl.length))])).length) Slot.unset).toArray = ls at hl ⊢
  have hl : lv_has ls 10 [(0, .ref am), (1, .ref bU), (2, .int (nI a)), (3, .int (nI (a + nl.length)))] := hl
  have hlw := tw_len nl
  have hp0 := tw_pos h0 hdg
  have hhex := m_nb_hex hp0
  have hnw := sh_num_w hp0
  have hba := sh_base_le (sh_at (m_w nl) 0) (if (m_w nl).length ≤ 1 then 48 else sh_at (m_w nl) 1)
  have hba : sh_nb (m_w nl) = 16 ∨ sh_nb (m_w nl) = 8 ∨ sh_nb (m_w nl) = 10 := hba
  refine lv_aload_n hx hb dM_numberEnd_0 rfl (lv_at hl 1 rfl) ?_
  refine lv_iload_n hx hb dM_numberEnd_1 rfl (lv_at hl 2 rfl) ?_
  refine va_iald hx hb hK hP 2 0 rfl rfl (vp_in_nI (by omega) (by omega)) dM_numberEnd_2 ?_
  refine xw_topi (y := fU a) (by rw [nI_clamp (by omega)]) ?_
  refine xw_topi (y := sh_at nl 0) (hnl 0 h0) ?_
  have j_13 : ∀ (zb : Bool), (zb = true ↔ sh_at nl 0 = 48) → ∀ (H : Heap) (locs : List Loc), va_P (dC, dI) vwCl ((am, .inr (4, [.int cd, .ref bT, .ref bU, .int fsz, .int ln, .int pl, .int ne, .int bd, .ref bS, .ref b1, .ref b2, .ref bL, .ref bK, .ref bV, .int wa, .int hi, .ref bN, .ref bX, .ref bA, .ref bB, .int my, .int gd, .int wr, .ref bH, .int hs, .long nu])) :: (bT, .inl (kI, 300, .inl fT)) :: (bU, .inl (kI, 300, .inl fU)) :: (bS, .inl (kI, 2000, .inl fS)) :: (b1, .inl (kI, 2000, .inl f1)) :: (b2, .inl (kI, 2000, .inl f2)) :: (bL, .inl (kZ, 2000, .inl fL)) :: (bK, .inl (kJ, 2000, .inr (.inl fK))) :: (bV, .inl (kJ, 400, .inr (.inl fV))) :: (bN, .inl (kI, 19200, .inl fN)) :: (bX, .inl (kI, 1536, .inl fX)) :: (bA, .inl (kI, 64, .inl fA)) :: (bB, .inl (kI, 64, .inl fB)) :: (bH, .inl (kI, 8, .inl fH)) :: tl) H → va_D A ((am, .inr (4, [.int cd, .ref bT, .ref bU, .int fsz, .int ln, .int pl, .int ne, .int bd, .ref bS, .ref b1, .ref b2, .ref bL, .ref bK, .ref bV, .int wa, .int hi, .ref bN, .ref bX, .ref bA, .ref bB, .int my, .int gd, .int wr, .ref bH, .int hs, .long nu])) :: (bT, .inl (kI, 300, .inl fT)) :: (bU, .inl (kI, 300, .inl fU)) :: (bS, .inl (kI, 2000, .inl fS)) :: (b1, .inl (kI, 2000, .inl f1)) :: (b2, .inl (kI, 2000, .inl f2)) :: (bL, .inl (kZ, 2000, .inl fL)) :: (bK, .inl (kJ, 2000, .inr (.inl fK))) :: (bV, .inl (kJ, 400, .inr (.inl fV))) :: (bN, .inl (kI, 19200, .inl fN)) :: (bX, .inl (kI, 1536, .inl fX)) :: (bA, .inl (kI, 64, .inl fA)) :: (bB, .inl (kI, 64, .inl fB)) :: (bH, .inl (kI, 8, .inl fH)) :: tl) → va_S A s.heap H locs → ∀ ls : Array Slot, lv_has ls 10 [(0, .ref am), (1, .ref bU), (2, .int (nI a)), (3, .int (nI (a + nl.length)))] → W p l e (headSpec wsM_numberEnd ({ frames := 2, cells := 0, slots := 0, locals := 60 })).room s m ([.ref am, .ref bU, .int (nI a), .int (nI (a + nl.length))] : List Value).toArray below meth c H locs 0 0 (MQ below (zQ dC dI A (fun v w => (∃ x, sh_num (m_w nl) = some x ∧ v = some (.int (nI (a + (m_w nl).length))) ∧ w = ((am, .inr (4, [.int cd, .ref bT, .ref bU, .int fsz, .int ln, .int pl, .int ne, .int bd, .ref bS, .ref b1, .ref b2, .ref bL, .ref bK, .ref bV, .int wa, .int hi, .ref bN, .ref bX, .ref bA, .ref bB, .int my, .int gd, .int wr, .ref bH, .int hs, .long x])) :: (bT, .inl (kI, 300, .inl fT)) :: (bU, .inl (kI, 300, .inl fU)) :: (bS, .inl (kI, 2000, .inl fS)) :: (b1, .inl (kI, 2000, .inl f1)) :: (b2, .inl (kI, 2000, .inl f2)) :: (bL, .inl (kZ, 2000, .inl fL)) :: (bK, .inl (kJ, 2000, .inr (.inl fK))) :: (bV, .inl (kJ, 400, .inr (.inl fV))) :: (bN, .inl (kI, 19200, .inl fN)) :: (bX, .inl (kI, 1536, .inl fX)) :: (bA, .inl (kI, 64, .inl fA)) :: (bB, .inl (kI, 64, .inl fB)) :: (bH, .inl (kI, 8, .inl fH)) :: tl)) ∨ (sh_num (m_w nl) = none ∧ v = some (.int (-1)) ∧ ∃ x, w = ((am, .inr (4, [.int cd, .ref bT, .ref bU, .int fsz, .int ln, .int pl, .int ne, .int bd, .ref bS, .ref b1, .ref b2, .ref bL, .ref bK, .ref bV, .int wa, .int hi, .ref bN, .ref bX, .ref bA, .ref bB, .int my, .int gd, .int wr, .ref bH, .int hs, .long x])) :: (bT, .inl (kI, 300, .inl fT)) :: (bU, .inl (kI, 300, .inl fU)) :: (bS, .inl (kI, 2000, .inl fS)) :: (b1, .inl (kI, 2000, .inl f1)) :: (b2, .inl (kI, 2000, .inl f2)) :: (bL, .inl (kZ, 2000, .inl fL)) :: (bK, .inl (kJ, 2000, .inr (.inl fK))) :: (bV, .inl (kJ, 400, .inr (.inl fV))) :: (bN, .inl (kI, 19200, .inl fN)) :: (bX, .inl (kI, 1536, .inl fX)) :: (bA, .inl (kI, 64, .inl fA)) :: (bB, .inl (kI, 64, .inl fB)) :: (bH, .inl (kI, 8, .inl fH)) :: tl)))) ([.ref am, .ref bU, .int (nI a), .int (nI (a + nl.length))] : List Value).toArray s 0 0 A) (F0 m 13 ls [.int (sh_b zb)]) := by
    intro zb hzb H locs hP hD hS ls hl
    refine lv_istore (lv' := [(4, .int (sh_b zb)), (0, .ref am), (1, .ref bU), (2, .int (nI a)), (3, .int (nI (a + nl.length)))]) hx hb dM_numberEnd_13 hl (by decide) rfl (fun ls hl => ?_)
    have j_52 : ∀ (xb : Bool), (xb = true ↔ sh_nb (m_w nl) = 16) → ∀ (H : Heap) (locs : List Loc), va_P (dC, dI) vwCl ((am, .inr (4, [.int cd, .ref bT, .ref bU, .int fsz, .int ln, .int pl, .int ne, .int bd, .ref bS, .ref b1, .ref b2, .ref bL, .ref bK, .ref bV, .int wa, .int hi, .ref bN, .ref bX, .ref bA, .ref bB, .int my, .int gd, .int wr, .ref bH, .int hs, .long nu])) :: (bT, .inl (kI, 300, .inl fT)) :: (bU, .inl (kI, 300, .inl fU)) :: (bS, .inl (kI, 2000, .inl fS)) :: (b1, .inl (kI, 2000, .inl f1)) :: (b2, .inl (kI, 2000, .inl f2)) :: (bL, .inl (kZ, 2000, .inl fL)) :: (bK, .inl (kJ, 2000, .inr (.inl fK))) :: (bV, .inl (kJ, 400, .inr (.inl fV))) :: (bN, .inl (kI, 19200, .inl fN)) :: (bX, .inl (kI, 1536, .inl fX)) :: (bA, .inl (kI, 64, .inl fA)) :: (bB, .inl (kI, 64, .inl fB)) :: (bH, .inl (kI, 8, .inl fH)) :: tl) H → va_D A ((am, .inr (4, [.int cd, .ref bT, .ref bU, .int fsz, .int ln, .int pl, .int ne, .int bd, .ref bS, .ref b1, .ref b2, .ref bL, .ref bK, .ref bV, .int wa, .int hi, .ref bN, .ref bX, .ref bA, .ref bB, .int my, .int gd, .int wr, .ref bH, .int hs, .long nu])) :: (bT, .inl (kI, 300, .inl fT)) :: (bU, .inl (kI, 300, .inl fU)) :: (bS, .inl (kI, 2000, .inl fS)) :: (b1, .inl (kI, 2000, .inl f1)) :: (b2, .inl (kI, 2000, .inl f2)) :: (bL, .inl (kZ, 2000, .inl fL)) :: (bK, .inl (kJ, 2000, .inr (.inl fK))) :: (bV, .inl (kJ, 400, .inr (.inl fV))) :: (bN, .inl (kI, 19200, .inl fN)) :: (bX, .inl (kI, 1536, .inl fX)) :: (bA, .inl (kI, 64, .inl fA)) :: (bB, .inl (kI, 64, .inl fB)) :: (bH, .inl (kI, 8, .inl fH)) :: tl) → va_S A s.heap H locs → ∀ ls : Array Slot, lv_has ls 10 [(4, .int (sh_b zb)), (0, .ref am), (1, .ref bU), (2, .int (nI a)), (3, .int (nI (a + nl.length)))] → W p l e (headSpec wsM_numberEnd ({ frames := 2, cells := 0, slots := 0, locals := 60 })).room s m ([.ref am, .ref bU, .int (nI a), .int (nI (a + nl.length))] : List Value).toArray below meth c H locs 0 0 (MQ below (zQ dC dI A (fun v w => (∃ x, sh_num (m_w nl) = some x ∧ v = some (.int (nI (a + (m_w nl).length))) ∧ w = ((am, .inr (4, [.int cd, .ref bT, .ref bU, .int fsz, .int ln, .int pl, .int ne, .int bd, .ref bS, .ref b1, .ref b2, .ref bL, .ref bK, .ref bV, .int wa, .int hi, .ref bN, .ref bX, .ref bA, .ref bB, .int my, .int gd, .int wr, .ref bH, .int hs, .long x])) :: (bT, .inl (kI, 300, .inl fT)) :: (bU, .inl (kI, 300, .inl fU)) :: (bS, .inl (kI, 2000, .inl fS)) :: (b1, .inl (kI, 2000, .inl f1)) :: (b2, .inl (kI, 2000, .inl f2)) :: (bL, .inl (kZ, 2000, .inl fL)) :: (bK, .inl (kJ, 2000, .inr (.inl fK))) :: (bV, .inl (kJ, 400, .inr (.inl fV))) :: (bN, .inl (kI, 19200, .inl fN)) :: (bX, .inl (kI, 1536, .inl fX)) :: (bA, .inl (kI, 64, .inl fA)) :: (bB, .inl (kI, 64, .inl fB)) :: (bH, .inl (kI, 8, .inl fH)) :: tl)) ∨ (sh_num (m_w nl) = none ∧ v = some (.int (-1)) ∧ ∃ x, w = ((am, .inr (4, [.int cd, .ref bT, .ref bU, .int fsz, .int ln, .int pl, .int ne, .int bd, .ref bS, .ref b1, .ref b2, .ref bL, .ref bK, .ref bV, .int wa, .int hi, .ref bN, .ref bX, .ref bA, .ref bB, .int my, .int gd, .int wr, .ref bH, .int hs, .long x])) :: (bT, .inl (kI, 300, .inl fT)) :: (bU, .inl (kI, 300, .inl fU)) :: (bS, .inl (kI, 2000, .inl fS)) :: (b1, .inl (kI, 2000, .inl f1)) :: (b2, .inl (kI, 2000, .inl f2)) :: (bL, .inl (kZ, 2000, .inl fL)) :: (bK, .inl (kJ, 2000, .inr (.inl fK))) :: (bV, .inl (kJ, 400, .inr (.inl fV))) :: (bN, .inl (kI, 19200, .inl fN)) :: (bX, .inl (kI, 1536, .inl fX)) :: (bA, .inl (kI, 64, .inl fA)) :: (bB, .inl (kI, 64, .inl fB)) :: (bH, .inl (kI, 8, .inl fH)) :: tl)))) ([.ref am, .ref bU, .int (nI a), .int (nI (a + nl.length))] : List Value).toArray s 0 0 A) (F0 m 52 ls [.int (sh_b xb)]) := by
      intro xb hxb H locs hP hD hS ls hl
      refine lv_istore (lv' := [(5, .int (sh_b xb)), (4, .int (sh_b zb)), (0, .ref am), (1, .ref bU), (2, .int (nI a)), (3, .int (nI (a + nl.length)))]) hx hb dM_numberEnd_52 hl (by decide) rfl (fun ls hl => ?_)
      have j_76 : ∀ (_ : Unit), ∀ (H : Heap) (locs : List Loc), va_P (dC, dI) vwCl ((am, .inr (4, [.int cd, .ref bT, .ref bU, .int fsz, .int ln, .int pl, .int ne, .int bd, .ref bS, .ref b1, .ref b2, .ref bL, .ref bK, .ref bV, .int wa, .int hi, .ref bN, .ref bX, .ref bA, .ref bB, .int my, .int gd, .int wr, .ref bH, .int hs, .long nu])) :: (bT, .inl (kI, 300, .inl fT)) :: (bU, .inl (kI, 300, .inl fU)) :: (bS, .inl (kI, 2000, .inl fS)) :: (b1, .inl (kI, 2000, .inl f1)) :: (b2, .inl (kI, 2000, .inl f2)) :: (bL, .inl (kZ, 2000, .inl fL)) :: (bK, .inl (kJ, 2000, .inr (.inl fK))) :: (bV, .inl (kJ, 400, .inr (.inl fV))) :: (bN, .inl (kI, 19200, .inl fN)) :: (bX, .inl (kI, 1536, .inl fX)) :: (bA, .inl (kI, 64, .inl fA)) :: (bB, .inl (kI, 64, .inl fB)) :: (bH, .inl (kI, 8, .inl fH)) :: tl) H → va_D A ((am, .inr (4, [.int cd, .ref bT, .ref bU, .int fsz, .int ln, .int pl, .int ne, .int bd, .ref bS, .ref b1, .ref b2, .ref bL, .ref bK, .ref bV, .int wa, .int hi, .ref bN, .ref bX, .ref bA, .ref bB, .int my, .int gd, .int wr, .ref bH, .int hs, .long nu])) :: (bT, .inl (kI, 300, .inl fT)) :: (bU, .inl (kI, 300, .inl fU)) :: (bS, .inl (kI, 2000, .inl fS)) :: (b1, .inl (kI, 2000, .inl f1)) :: (b2, .inl (kI, 2000, .inl f2)) :: (bL, .inl (kZ, 2000, .inl fL)) :: (bK, .inl (kJ, 2000, .inr (.inl fK))) :: (bV, .inl (kJ, 400, .inr (.inl fV))) :: (bN, .inl (kI, 19200, .inl fN)) :: (bX, .inl (kI, 1536, .inl fX)) :: (bA, .inl (kI, 64, .inl fA)) :: (bB, .inl (kI, 64, .inl fB)) :: (bH, .inl (kI, 8, .inl fH)) :: tl) → va_S A s.heap H locs → ∀ ls : Array Slot, lv_has ls 10 [(5, .int (sh_b xb)), (4, .int (sh_b zb)), (0, .ref am), (1, .ref bU), (2, .int (nI a)), (3, .int (nI (a + nl.length)))] → W p l e (headSpec wsM_numberEnd ({ frames := 2, cells := 0, slots := 0, locals := 60 })).room s m ([.ref am, .ref bU, .int (nI a), .int (nI (a + nl.length))] : List Value).toArray below meth c H locs 0 0 (MQ below (zQ dC dI A (fun v w => (∃ x, sh_num (m_w nl) = some x ∧ v = some (.int (nI (a + (m_w nl).length))) ∧ w = ((am, .inr (4, [.int cd, .ref bT, .ref bU, .int fsz, .int ln, .int pl, .int ne, .int bd, .ref bS, .ref b1, .ref b2, .ref bL, .ref bK, .ref bV, .int wa, .int hi, .ref bN, .ref bX, .ref bA, .ref bB, .int my, .int gd, .int wr, .ref bH, .int hs, .long x])) :: (bT, .inl (kI, 300, .inl fT)) :: (bU, .inl (kI, 300, .inl fU)) :: (bS, .inl (kI, 2000, .inl fS)) :: (b1, .inl (kI, 2000, .inl f1)) :: (b2, .inl (kI, 2000, .inl f2)) :: (bL, .inl (kZ, 2000, .inl fL)) :: (bK, .inl (kJ, 2000, .inr (.inl fK))) :: (bV, .inl (kJ, 400, .inr (.inl fV))) :: (bN, .inl (kI, 19200, .inl fN)) :: (bX, .inl (kI, 1536, .inl fX)) :: (bA, .inl (kI, 64, .inl fA)) :: (bB, .inl (kI, 64, .inl fB)) :: (bH, .inl (kI, 8, .inl fH)) :: tl)) ∨ (sh_num (m_w nl) = none ∧ v = some (.int (-1)) ∧ ∃ x, w = ((am, .inr (4, [.int cd, .ref bT, .ref bU, .int fsz, .int ln, .int pl, .int ne, .int bd, .ref bS, .ref b1, .ref b2, .ref bL, .ref bK, .ref bV, .int wa, .int hi, .ref bN, .ref bX, .ref bA, .ref bB, .int my, .int gd, .int wr, .ref bH, .int hs, .long x])) :: (bT, .inl (kI, 300, .inl fT)) :: (bU, .inl (kI, 300, .inl fU)) :: (bS, .inl (kI, 2000, .inl fS)) :: (b1, .inl (kI, 2000, .inl f1)) :: (b2, .inl (kI, 2000, .inl f2)) :: (bL, .inl (kZ, 2000, .inl fL)) :: (bK, .inl (kJ, 2000, .inr (.inl fK))) :: (bV, .inl (kJ, 400, .inr (.inl fV))) :: (bN, .inl (kI, 19200, .inl fN)) :: (bX, .inl (kI, 1536, .inl fX)) :: (bA, .inl (kI, 64, .inl fA)) :: (bB, .inl (kI, 64, .inl fB)) :: (bH, .inl (kI, 8, .inl fH)) :: tl)))) ([.ref am, .ref bU, .int (nI a), .int (nI (a + nl.length))] : List Value).toArray s 0 0 A) (F0 m 76 ls [.int (sh_nb (m_w nl))]) := by
        intro _  H locs hP hD hS ls hl
        refine lv_istore (lv' := [(6, .int (sh_nb (m_w nl))), (5, .int (sh_b xb)), (4, .int (sh_b zb)), (0, .ref am), (1, .ref bU), (2, .int (nI a)), (3, .int (nI (a + nl.length)))]) hx hb dM_numberEnd_76 hl (by decide) rfl (fun ls hl => ?_)
        have j_90 : ∀ (i0 : Nat), (i0 ≤ (m_w nl).length) → (sh_num (m_w nl) = if (m_w nl).length ≤ i0 then none else sh_digs (sh_nb (m_w nl)) ((m_w nl).drop i0) 0) → ∀ (H : Heap) (locs : List Loc), va_P (dC, dI) vwCl ((am, .inr (4, [.int cd, .ref bT, .ref bU, .int fsz, .int ln, .int pl, .int ne, .int bd, .ref bS, .ref b1, .ref b2, .ref bL, .ref bK, .ref bV, .int wa, .int hi, .ref bN, .ref bX, .ref bA, .ref bB, .int my, .int gd, .int wr, .ref bH, .int hs, .long nu])) :: (bT, .inl (kI, 300, .inl fT)) :: (bU, .inl (kI, 300, .inl fU)) :: (bS, .inl (kI, 2000, .inl fS)) :: (b1, .inl (kI, 2000, .inl f1)) :: (b2, .inl (kI, 2000, .inl f2)) :: (bL, .inl (kZ, 2000, .inl fL)) :: (bK, .inl (kJ, 2000, .inr (.inl fK))) :: (bV, .inl (kJ, 400, .inr (.inl fV))) :: (bN, .inl (kI, 19200, .inl fN)) :: (bX, .inl (kI, 1536, .inl fX)) :: (bA, .inl (kI, 64, .inl fA)) :: (bB, .inl (kI, 64, .inl fB)) :: (bH, .inl (kI, 8, .inl fH)) :: tl) H → va_D A ((am, .inr (4, [.int cd, .ref bT, .ref bU, .int fsz, .int ln, .int pl, .int ne, .int bd, .ref bS, .ref b1, .ref b2, .ref bL, .ref bK, .ref bV, .int wa, .int hi, .ref bN, .ref bX, .ref bA, .ref bB, .int my, .int gd, .int wr, .ref bH, .int hs, .long nu])) :: (bT, .inl (kI, 300, .inl fT)) :: (bU, .inl (kI, 300, .inl fU)) :: (bS, .inl (kI, 2000, .inl fS)) :: (b1, .inl (kI, 2000, .inl f1)) :: (b2, .inl (kI, 2000, .inl f2)) :: (bL, .inl (kZ, 2000, .inl fL)) :: (bK, .inl (kJ, 2000, .inr (.inl fK))) :: (bV, .inl (kJ, 400, .inr (.inl fV))) :: (bN, .inl (kI, 19200, .inl fN)) :: (bX, .inl (kI, 1536, .inl fX)) :: (bA, .inl (kI, 64, .inl fA)) :: (bB, .inl (kI, 64, .inl fB)) :: (bH, .inl (kI, 8, .inl fH)) :: tl) → va_S A s.heap H locs → ∀ ls : Array Slot, lv_has ls 10 [(6, .int (sh_nb (m_w nl))), (5, .int (sh_b xb)), (4, .int (sh_b zb)), (0, .ref am), (1, .ref bU), (2, .int (nI a)), (3, .int (nI (a + nl.length)))] → W p l e (headSpec wsM_numberEnd ({ frames := 2, cells := 0, slots := 0, locals := 60 })).room s m ([.ref am, .ref bU, .int (nI a), .int (nI (a + nl.length))] : List Value).toArray below meth c H locs 0 0 (MQ below (zQ dC dI A (fun v w => (∃ x, sh_num (m_w nl) = some x ∧ v = some (.int (nI (a + (m_w nl).length))) ∧ w = ((am, .inr (4, [.int cd, .ref bT, .ref bU, .int fsz, .int ln, .int pl, .int ne, .int bd, .ref bS, .ref b1, .ref b2, .ref bL, .ref bK, .ref bV, .int wa, .int hi, .ref bN, .ref bX, .ref bA, .ref bB, .int my, .int gd, .int wr, .ref bH, .int hs, .long x])) :: (bT, .inl (kI, 300, .inl fT)) :: (bU, .inl (kI, 300, .inl fU)) :: (bS, .inl (kI, 2000, .inl fS)) :: (b1, .inl (kI, 2000, .inl f1)) :: (b2, .inl (kI, 2000, .inl f2)) :: (bL, .inl (kZ, 2000, .inl fL)) :: (bK, .inl (kJ, 2000, .inr (.inl fK))) :: (bV, .inl (kJ, 400, .inr (.inl fV))) :: (bN, .inl (kI, 19200, .inl fN)) :: (bX, .inl (kI, 1536, .inl fX)) :: (bA, .inl (kI, 64, .inl fA)) :: (bB, .inl (kI, 64, .inl fB)) :: (bH, .inl (kI, 8, .inl fH)) :: tl)) ∨ (sh_num (m_w nl) = none ∧ v = some (.int (-1)) ∧ ∃ x, w = ((am, .inr (4, [.int cd, .ref bT, .ref bU, .int fsz, .int ln, .int pl, .int ne, .int bd, .ref bS, .ref b1, .ref b2, .ref bL, .ref bK, .ref bV, .int wa, .int hi, .ref bN, .ref bX, .ref bA, .ref bB, .int my, .int gd, .int wr, .ref bH, .int hs, .long x])) :: (bT, .inl (kI, 300, .inl fT)) :: (bU, .inl (kI, 300, .inl fU)) :: (bS, .inl (kI, 2000, .inl fS)) :: (b1, .inl (kI, 2000, .inl f1)) :: (b2, .inl (kI, 2000, .inl f2)) :: (bL, .inl (kZ, 2000, .inl fL)) :: (bK, .inl (kJ, 2000, .inr (.inl fK))) :: (bV, .inl (kJ, 400, .inr (.inl fV))) :: (bN, .inl (kI, 19200, .inl fN)) :: (bX, .inl (kI, 1536, .inl fX)) :: (bA, .inl (kI, 64, .inl fA)) :: (bB, .inl (kI, 64, .inl fB)) :: (bH, .inl (kI, 8, .inl fH)) :: tl)))) ([.ref am, .ref bU, .int (nI a), .int (nI (a + nl.length))] : List Value).toArray s 0 0 A) (F0 m 90 ls [.int (nI (a + i0))]) := by
          intro i0 hi0 hdd H locs hP hD hS ls hl
          refine lv_istore (lv' := [(7, .int (nI (a + i0))), (6, .int (sh_nb (m_w nl))), (5, .int (sh_b xb)), (4, .int (sh_b zb)), (0, .ref am), (1, .ref bU), (2, .int (nI a)), (3, .int (nI (a + nl.length)))]) hx hb dM_numberEnd_90 hl (by decide) rfl (fun ls hl => ?_)
          refine lv_iload hx hb dM_numberEnd_92 (lv_at hl 0 rfl) ?_
          refine lv_istore (lv' := [(8, .int (nI (a + i0))), (7, .int (nI (a + i0))), (6, .int (sh_nb (m_w nl))), (5, .int (sh_b xb)), (4, .int (sh_b zb)), (0, .ref am), (1, .ref bU), (2, .int (nI a)), (3, .int (nI (a + nl.length)))]) hx hb dM_numberEnd_94 hl (by decide) rfl (fun ls hl => ?_)
          refine lv_aload_n hx hb dM_numberEnd_96 rfl (lv_at hl 5 rfl) ?_
          refine lv_lconst (v := 0) hx hb dM_numberEnd_97 (by decide) ?_
          refine va_put (D := (dC, dI)) (ci := 4) (v := .long 0) (ty := .long) (C := "ShellSumModel") (T := TM) (N := 26) hx hb htz zu_M tyM tyM_ok nmM hown hK hP hD hS 0 rfl rfl 25 (by decide) (htz _ zw_2_185) (fun _ h9 => h9) rfl (by decide +kernel) rfl rfl (Nat.le_of_ble_eq_true rfl) dM_numberEnd_98 (fun H locs hP hD hS => ?_)
          have hP : va_P (dC, dI) vwCl ((am, .inr (4, [.int cd, .ref bT, .ref bU, .int fsz, .int ln, .int pl, .int ne, .int bd, .ref bS, .ref b1, .ref b2, .ref bL, .ref bK, .ref bV, .int wa, .int hi, .ref bN, .ref bX, .ref bA, .ref bB, .int my, .int gd, .int wr, .ref bH, .int hs, .long 0])) :: (bT, .inl (kI, 300, .inl fT)) :: (bU, .inl (kI, 300, .inl fU)) :: (bS, .inl (kI, 2000, .inl fS)) :: (b1, .inl (kI, 2000, .inl f1)) :: (b2, .inl (kI, 2000, .inl f2)) :: (bL, .inl (kZ, 2000, .inl fL)) :: (bK, .inl (kJ, 2000, .inr (.inl fK))) :: (bV, .inl (kJ, 400, .inr (.inl fV))) :: (bN, .inl (kI, 19200, .inl fN)) :: (bX, .inl (kI, 1536, .inl fX)) :: (bA, .inl (kI, 64, .inl fA)) :: (bB, .inl (kI, 64, .inl fB)) :: (bH, .inl (kI, 8, .inl fH)) :: tl) _ := hP
          have hD : va_D A ((am, .inr (4, [.int cd, .ref bT, .ref bU, .int fsz, .int ln, .int pl, .int ne, .int bd, .ref bS, .ref b1, .ref b2, .ref bL, .ref bK, .ref bV, .int wa, .int hi, .ref bN, .ref bX, .ref bA, .ref bB, .int my, .int gd, .int wr, .ref bH, .int hs, .long 0])) :: (bT, .inl (kI, 300, .inl fT)) :: (bU, .inl (kI, 300, .inl fU)) :: (bS, .inl (kI, 2000, .inl fS)) :: (b1, .inl (kI, 2000, .inl f1)) :: (b2, .inl (kI, 2000, .inl f2)) :: (bL, .inl (kZ, 2000, .inl fL)) :: (bK, .inl (kJ, 2000, .inr (.inl fK))) :: (bV, .inl (kJ, 400, .inr (.inl fV))) :: (bN, .inl (kI, 19200, .inl fN)) :: (bX, .inl (kI, 1536, .inl fX)) :: (bA, .inl (kI, 64, .inl fA)) :: (bB, .inl (kI, 64, .inl fB)) :: (bH, .inl (kI, 8, .inl fH)) :: tl) := hD
          have loop_101 : ∀ (f_loop_101 : Nat) (k : Nat) (v : Int64), (m_w nl).length - k < f_loop_101 → (i0 ≤ k) → (k ≤ (m_w nl).length) → (sh_digs (sh_nb (m_w nl)) ((m_w nl).drop i0) 0 = sh_digs (sh_nb (m_w nl)) ((m_w nl).drop k) v) → ∀ (H : Heap) (locs : List Loc), va_P (dC, dI) vwCl ((am, .inr (4, [.int cd, .ref bT, .ref bU, .int fsz, .int ln, .int pl, .int ne, .int bd, .ref bS, .ref b1, .ref b2, .ref bL, .ref bK, .ref bV, .int wa, .int hi, .ref bN, .ref bX, .ref bA, .ref bB, .int my, .int gd, .int wr, .ref bH, .int hs, .long v])) :: (bT, .inl (kI, 300, .inl fT)) :: (bU, .inl (kI, 300, .inl fU)) :: (bS, .inl (kI, 2000, .inl fS)) :: (b1, .inl (kI, 2000, .inl f1)) :: (b2, .inl (kI, 2000, .inl f2)) :: (bL, .inl (kZ, 2000, .inl fL)) :: (bK, .inl (kJ, 2000, .inr (.inl fK))) :: (bV, .inl (kJ, 400, .inr (.inl fV))) :: (bN, .inl (kI, 19200, .inl fN)) :: (bX, .inl (kI, 1536, .inl fX)) :: (bA, .inl (kI, 64, .inl fA)) :: (bB, .inl (kI, 64, .inl fB)) :: (bH, .inl (kI, 8, .inl fH)) :: tl) H → va_D A ((am, .inr (4, [.int cd, .ref bT, .ref bU, .int fsz, .int ln, .int pl, .int ne, .int bd, .ref bS, .ref b1, .ref b2, .ref bL, .ref bK, .ref bV, .int wa, .int hi, .ref bN, .ref bX, .ref bA, .ref bB, .int my, .int gd, .int wr, .ref bH, .int hs, .long v])) :: (bT, .inl (kI, 300, .inl fT)) :: (bU, .inl (kI, 300, .inl fU)) :: (bS, .inl (kI, 2000, .inl fS)) :: (b1, .inl (kI, 2000, .inl f1)) :: (b2, .inl (kI, 2000, .inl f2)) :: (bL, .inl (kZ, 2000, .inl fL)) :: (bK, .inl (kJ, 2000, .inr (.inl fK))) :: (bV, .inl (kJ, 400, .inr (.inl fV))) :: (bN, .inl (kI, 19200, .inl fN)) :: (bX, .inl (kI, 1536, .inl fX)) :: (bA, .inl (kI, 64, .inl fA)) :: (bB, .inl (kI, 64, .inl fB)) :: (bH, .inl (kI, 8, .inl fH)) :: tl) → va_S A s.heap H locs → ∀ ls : Array Slot, lv_has ls 10 [(7, .int (nI (a + k))), (8, .int (nI (a + i0))), (6, .int (sh_nb (m_w nl))), (0, .ref am), (1, .ref bU), (2, .int (nI a)), (3, .int (nI (a + nl.length)))] → W p l e (headSpec wsM_numberEnd ({ frames := 2, cells := 0, slots := 0, locals := 60 })).room s m ([.ref am, .ref bU, .int (nI a), .int (nI (a + nl.length))] : List Value).toArray below meth c H locs 0 0 (MQ below (zQ dC dI A (fun v w => (∃ x, sh_num (m_w nl) = some x ∧ v = some (.int (nI (a + (m_w nl).length))) ∧ w = ((am, .inr (4, [.int cd, .ref bT, .ref bU, .int fsz, .int ln, .int pl, .int ne, .int bd, .ref bS, .ref b1, .ref b2, .ref bL, .ref bK, .ref bV, .int wa, .int hi, .ref bN, .ref bX, .ref bA, .ref bB, .int my, .int gd, .int wr, .ref bH, .int hs, .long x])) :: (bT, .inl (kI, 300, .inl fT)) :: (bU, .inl (kI, 300, .inl fU)) :: (bS, .inl (kI, 2000, .inl fS)) :: (b1, .inl (kI, 2000, .inl f1)) :: (b2, .inl (kI, 2000, .inl f2)) :: (bL, .inl (kZ, 2000, .inl fL)) :: (bK, .inl (kJ, 2000, .inr (.inl fK))) :: (bV, .inl (kJ, 400, .inr (.inl fV))) :: (bN, .inl (kI, 19200, .inl fN)) :: (bX, .inl (kI, 1536, .inl fX)) :: (bA, .inl (kI, 64, .inl fA)) :: (bB, .inl (kI, 64, .inl fB)) :: (bH, .inl (kI, 8, .inl fH)) :: tl)) ∨ (sh_num (m_w nl) = none ∧ v = some (.int (-1)) ∧ ∃ x, w = ((am, .inr (4, [.int cd, .ref bT, .ref bU, .int fsz, .int ln, .int pl, .int ne, .int bd, .ref bS, .ref b1, .ref b2, .ref bL, .ref bK, .ref bV, .int wa, .int hi, .ref bN, .ref bX, .ref bA, .ref bB, .int my, .int gd, .int wr, .ref bH, .int hs, .long x])) :: (bT, .inl (kI, 300, .inl fT)) :: (bU, .inl (kI, 300, .inl fU)) :: (bS, .inl (kI, 2000, .inl fS)) :: (b1, .inl (kI, 2000, .inl f1)) :: (b2, .inl (kI, 2000, .inl f2)) :: (bL, .inl (kZ, 2000, .inl fL)) :: (bK, .inl (kJ, 2000, .inr (.inl fK))) :: (bV, .inl (kJ, 400, .inr (.inl fV))) :: (bN, .inl (kI, 19200, .inl fN)) :: (bX, .inl (kI, 1536, .inl fX)) :: (bA, .inl (kI, 64, .inl fA)) :: (bB, .inl (kI, 64, .inl fB)) :: (bH, .inl (kI, 8, .inl fH)) :: tl)))) ([.ref am, .ref bU, .int (nI a), .int (nI (a + nl.length))] : List Value).toArray s 0 0 A) (F0 m 101 ls []) := by
            intro f_loop_101
            induction f_loop_101 with
            | zero => intro k v hf; exact absurd hf (Nat.not_lt_zero _)
            | succ f_loop_101 ih_loop_101 =>
              intro k v hf_loop_101 hk0 hk he H locs hP hD hS ls hl
              refine lv_iload hx hb dM_numberEnd_101 (lv_at hl 0 rfl) ?_
              refine lv_iload_n hx hb dM_numberEnd_103 rfl (lv_at hl 6 rfl) ?_
              refine lv_icmp_ge (tgt := 167) hx hb dM_numberEnd_104 (by decide) (fun c_1 => ?_) (fun c_1 => ?_)
              · skip
                have e_104 : a + nl.length ≤ a + k := xi_le c_1 (by omega) (by omega)
                have e_s : k = (m_w nl).length := tw_stop hk (Or.inl (by omega))
                refine lv_iload hx hb dM_numberEnd_167 (lv_at hl 0 rfl) ?_
                refine lv_iload hx hb dM_numberEnd_169 (lv_at hl 1 rfl) ?_
                refine lv_icmp_ne (tgt := 178) hx hb dM_numberEnd_171 (by decide) (fun c_2 => ?_) (fun c_2 => ?_)
                · skip
                  have e_171 : a + k ≠ a + i0 := xi_ne c_2 (by omega) (by omega)
                  refine lv_iload hx hb dM_numberEnd_178 (lv_at hl 0 rfl) ?_
                  refine W.widen (k := 0) (n := 0) (Nat.le_refl _) (Nat.le_refl _) ?_
                  exact W.iret (v := nI (a + k)) hx hb hr (fun t ht _ => ⟨_, _, rfl, Or.inl ⟨v, by rw [hdd, if_neg (by omega), he, sh_digs_end (by omega)], by rw [e_s], rfl⟩, by rw [ht]; exact hP, hD, hS.F ht⟩) hS.2.2 dM_numberEnd_180
                have e_171 : a + k = a + i0 := xi_eq c_2 (by omega) (by omega)
                refine lv_iconst (v := (-1)) hx hb dM_numberEnd_174 (by decide) ?_
                refine lv_goto (tgt := 180) hx hb dM_numberEnd_175 (by decide) ?_
                refine W.widen (k := 0) (n := 0) (Nat.le_refl _) (Nat.le_refl _) ?_
                exact W.iret (v := (-1)) hx hb hr (fun t ht _ => ⟨_, _, rfl, Or.inr ⟨by rw [hdd, if_pos (by omega)], rfl, v, rfl⟩, by rw [ht]; exact hP, hD, hS.F ht⟩) hS.2.2 dM_numberEnd_180
              have e_104 : a + k < a + nl.length := xi_nle c_1 (by omega) (by omega)
              refine lv_aload_n hx hb dM_numberEnd_107 rfl (lv_at hl 4 rfl) ?_
              refine lv_iload hx hb dM_numberEnd_108 (lv_at hl 0 rfl) ?_
              refine va_iald hx hb hK hP 2 0 rfl rfl (vp_in_nI (by omega) (by omega)) dM_numberEnd_110 ?_
              refine xw_topi (y := fU (a + k)) (by rw [nI_clamp (by omega)]) ?_
              refine xw_topi (y := sh_at nl k) (hnl k (by omega)) ?_
              refine rq_call (va_runS (As := [.int (sh_at nl k)]) (rest := []) ⟨hx, hb, hml, hown, htz⟩ (k_M_isLetter l (sh_at nl k)) (cwS 1 htz (zg_S zw_3_22 zw_3_23 zw_1_4 zw_3_24) rfl rfl rfl (by decide +kernel) ⟨Nat.le_of_ble_eq_true rfl, Nat.le_of_ble_eq_true rfl⟩) rq_pre rfl rfl hl.1 rfl (lv_room (Nat.le_of_ble_eq_true rfl)) dM_numberEnd_111 ⟨Nat.zero_le _, Nat.zero_le _⟩) ?_
              refine W.eq (g2 := F0 m 114 ls [.int (sh_b (sh_start (sh_at nl k)))]) rfl ?_
              refine lv_if_ne (tgt := 127) hx hb dM_numberEnd_114 (by decide) (fun c_3 => ?_) (fun c_3 => ?_)
              · skip
                have e_w : sh_word (sh_at nl k) = true := by unfold sh_word; grind [sh_b]
                have e_k : k < (m_w nl).length := tw_go hk (by omega) e_w
                have hdm := digM_word hba e_w
                refine lv_aload_n hx hb dM_numberEnd_127 rfl (lv_at hl 4 rfl) ?_
                refine lv_iload hx hb dM_numberEnd_128 (lv_at hl 0 rfl) ?_
                refine va_iald hx hb hK hP 2 0 rfl rfl (vp_in_nI (by omega) (by omega)) dM_numberEnd_130 ?_
                refine xw_topi (y := fU (a + k)) (by rw [nI_clamp (by omega)]) ?_
                refine xw_topi (y := sh_at nl k) (hnl k (by omega)) ?_
                refine rq_call (va_runS (As := [.int (sh_at nl k)]) (rest := []) ⟨hx, hb, hml, hown, htz⟩ (k_M_digitOf l (sh_at nl k)) (cwS 1 htz (zg_S zw_3_120 zw_3_121 zw_1_4 zw_3_122) rfl rfl rfl (by decide +kernel) ⟨Nat.le_of_ble_eq_true rfl, Nat.le_of_ble_eq_true rfl⟩) rq_pre rfl rfl hl.1 rfl (lv_room (Nat.le_of_ble_eq_true rfl)) dM_numberEnd_131 ⟨Nat.zero_le _, Nat.zero_le _⟩) ?_
                refine W.eq (g2 := F0 m 134 ls [.int (sh_digM (sh_at nl k))]) rfl ?_
                refine lv_istore (lv' := [(9, .int (sh_digM (sh_at nl k))), (7, .int (nI (a + k))), (8, .int (nI (a + i0))), (6, .int (sh_nb (m_w nl))), (0, .ref am), (1, .ref bU), (2, .int (nI a)), (3, .int (nI (a + nl.length)))]) hx hb dM_numberEnd_134 hl (by decide) rfl (fun ls hl => ?_)
                refine lv_iload hx hb dM_numberEnd_136 (lv_at hl 0 rfl) ?_
                refine lv_iload hx hb dM_numberEnd_138 (lv_at hl 3 rfl) ?_
                refine lv_icmp_lt (tgt := 145) hx hb dM_numberEnd_140 (by decide) (fun c_4 => ?_) (fun c_4 => ?_)
                · skip
                  refine lv_aload_n hx hb dM_numberEnd_145 rfl (lv_at hl 4 rfl) ?_
                  refine lv_aload_n hx hb dM_numberEnd_146 rfl (lv_at hl 4 rfl) ?_
                  refine va_get (D := (dC, dI)) (ci := 4) (v := .long v) (C := "ShellSumModel") (T := TM) (N := 26) hx hb htz zu_M hown hK hP 0 rfl rfl 25 (by decide) (htz _ zw_2_185) (fun _ h9 => h9) rfl dM_numberEnd_147 ?_
                  refine lv_iload hx hb dM_numberEnd_150 (lv_at hl 3 rfl) ?_
                  refine lv_i2l hx hb dM_numberEnd_152 rfl ?_
                  refine lv_lmul hx hb dM_numberEnd_153 ?_
                  refine lv_iload hx hb dM_numberEnd_154 (lv_at hl 0 rfl) ?_
                  refine lv_i2l hx hb dM_numberEnd_156 rfl ?_
                  refine lv_ladd hx hb dM_numberEnd_157 ?_
                  refine va_put (D := (dC, dI)) (ci := 4) (v := .long ((v * ((sh_nb (m_w nl)).toInt64)) + ((sh_digM (sh_at nl k)).toInt64))) (ty := .long) (C := "ShellSumModel") (T := TM) (N := 26) hx hb htz zu_M tyM tyM_ok nmM hown hK hP hD hS 0 rfl rfl 25 (by decide) (htz _ zw_2_185) (fun _ h9 => h9) rfl (by decide +kernel) rfl rfl (Nat.le_of_ble_eq_true rfl) dM_numberEnd_158 (fun H locs hP hD hS => ?_)
                  have hP : va_P (dC, dI) vwCl ((am, .inr (4, [.int cd, .ref bT, .ref bU, .int fsz, .int ln, .int pl, .int ne, .int bd, .ref bS, .ref b1, .ref b2, .ref bL, .ref bK, .ref bV, .int wa, .int hi, .ref bN, .ref bX, .ref bA, .ref bB, .int my, .int gd, .int wr, .ref bH, .int hs, .long ((v * ((sh_nb (m_w nl)).toInt64)) + ((sh_digM (sh_at nl k)).toInt64))])) :: (bT, .inl (kI, 300, .inl fT)) :: (bU, .inl (kI, 300, .inl fU)) :: (bS, .inl (kI, 2000, .inl fS)) :: (b1, .inl (kI, 2000, .inl f1)) :: (b2, .inl (kI, 2000, .inl f2)) :: (bL, .inl (kZ, 2000, .inl fL)) :: (bK, .inl (kJ, 2000, .inr (.inl fK))) :: (bV, .inl (kJ, 400, .inr (.inl fV))) :: (bN, .inl (kI, 19200, .inl fN)) :: (bX, .inl (kI, 1536, .inl fX)) :: (bA, .inl (kI, 64, .inl fA)) :: (bB, .inl (kI, 64, .inl fB)) :: (bH, .inl (kI, 8, .inl fH)) :: tl) _ := hP
                  have hD : va_D A ((am, .inr (4, [.int cd, .ref bT, .ref bU, .int fsz, .int ln, .int pl, .int ne, .int bd, .ref bS, .ref b1, .ref b2, .ref bL, .ref bK, .ref bV, .int wa, .int hi, .ref bN, .ref bX, .ref bA, .ref bB, .int my, .int gd, .int wr, .ref bH, .int hs, .long ((v * ((sh_nb (m_w nl)).toInt64)) + ((sh_digM (sh_at nl k)).toInt64))])) :: (bT, .inl (kI, 300, .inl fT)) :: (bU, .inl (kI, 300, .inl fU)) :: (bS, .inl (kI, 2000, .inl fS)) :: (b1, .inl (kI, 2000, .inl f1)) :: (b2, .inl (kI, 2000, .inl f2)) :: (bL, .inl (kZ, 2000, .inl fL)) :: (bK, .inl (kJ, 2000, .inr (.inl fK))) :: (bV, .inl (kJ, 400, .inr (.inl fV))) :: (bN, .inl (kI, 19200, .inl fN)) :: (bX, .inl (kI, 1536, .inl fX)) :: (bA, .inl (kI, 64, .inl fA)) :: (bB, .inl (kI, 64, .inl fB)) :: (bH, .inl (kI, 8, .inl fH)) :: tl) := hD
                  refine lv_iinc (v := nI (a + (k + 1))) (lv' := [(7, .int (nI (a + (k + 1)))), (9, .int (sh_digM (sh_at nl k))), (8, .int (nI (a + i0))), (6, .int (sh_nb (m_w nl))), (0, .ref am), (1, .ref bU), (2, .int (nI a)), (3, .int (nI (a + nl.length)))]) hx hb dM_numberEnd_161 hl (k := 1) rfl (nI_1 (a + k)) (by decide) rfl (fun ls hl => ?_)
                  refine lv_goto (tgt := 101) hx hb dM_numberEnd_164 (by decide) ?_
                  exact ih_loop_101 (k + 1) ((v * ((sh_nb (m_w nl)).toInt64)) + ((sh_digM (sh_at nl k)).toInt64)) (by omega) (by omega) (by omega) (by rw [he, sh_digs_step e_k, (tw_at e_k).1, if_neg (mt hdm.1.mpr (Int32.not_le.mpr c_4)), hdm.2 (Int32.not_le.mpr c_4)]) _ _ hP hD hS ls (lv_sub hl [0, 2, 3, 4, 5, 6, 7] rfl)
                refine lv_iconst (v := (-1)) hx hb dM_numberEnd_143 (by decide) ?_
                refine W.widen (k := 0) (n := 0) (Nat.le_refl _) (Nat.le_refl _) ?_
                exact W.iret (v := (-1)) hx hb hr (fun t ht _ => ⟨_, _, rfl, Or.inr ⟨by rw [hdd, if_neg (by omega), he, sh_digs_step e_k, (tw_at e_k).1, if_pos (hdm.1.mp (Int32.not_lt.mp c_4))], rfl, v, rfl⟩, by rw [ht]; exact hP, hD, hS.F ht⟩) hS.2.2 dM_numberEnd_144
              refine lv_aload_n hx hb dM_numberEnd_117 rfl (lv_at hl 4 rfl) ?_
              refine lv_iload hx hb dM_numberEnd_118 (lv_at hl 0 rfl) ?_
              refine va_iald hx hb hK hP 2 0 rfl rfl (vp_in_nI (by omega) (by omega)) dM_numberEnd_120 ?_
              refine xw_topi (y := fU (a + k)) (by rw [nI_clamp (by omega)]) ?_
              refine xw_topi (y := sh_at nl k) (hnl k (by omega)) ?_
              refine rq_call (va_runS (As := [.int (sh_at nl k)]) (rest := []) ⟨hx, hb, hml, hown, htz⟩ (k_M_isDigit l (sh_at nl k)) (cwS 1 htz (zg_S zw_3_25 zw_3_26 zw_1_4 zw_3_27) rfl rfl rfl (by decide +kernel) ⟨Nat.le_of_ble_eq_true rfl, Nat.le_of_ble_eq_true rfl⟩) rq_pre rfl rfl hl.1 rfl (lv_room (Nat.le_of_ble_eq_true rfl)) dM_numberEnd_121 ⟨Nat.zero_le _, Nat.zero_le _⟩) ?_
              refine W.eq (g2 := F0 m 124 ls [.int (sh_b (sh_digit (sh_at nl k)))]) rfl ?_
              refine lv_if_eq (tgt := 167) hx hb dM_numberEnd_124 (by decide) (fun c_5 => ?_) (fun c_5 => ?_)
              · skip
                have e_s : k = (m_w nl).length := tw_stop hk (Or.inr (by unfold sh_word; grind [sh_b]))
                refine lv_iload hx hb dM_numberEnd_167 (lv_at hl 0 rfl) ?_
                refine lv_iload hx hb dM_numberEnd_169 (lv_at hl 1 rfl) ?_
                refine lv_icmp_ne (tgt := 178) hx hb dM_numberEnd_171 (by decide) (fun c_6 => ?_) (fun c_6 => ?_)
                · skip
                  have e_171 : a + k ≠ a + i0 := xi_ne c_6 (by omega) (by omega)
                  refine lv_iload hx hb dM_numberEnd_178 (lv_at hl 0 rfl) ?_
                  refine W.widen (k := 0) (n := 0) (Nat.le_refl _) (Nat.le_refl _) ?_
                  exact W.iret (v := nI (a + k)) hx hb hr (fun t ht _ => ⟨_, _, rfl, Or.inl ⟨v, by rw [hdd, if_neg (by omega), he, sh_digs_end (by omega)], by rw [e_s], rfl⟩, by rw [ht]; exact hP, hD, hS.F ht⟩) hS.2.2 dM_numberEnd_180
                have e_171 : a + k = a + i0 := xi_eq c_6 (by omega) (by omega)
                refine lv_iconst (v := (-1)) hx hb dM_numberEnd_174 (by decide) ?_
                refine lv_goto (tgt := 180) hx hb dM_numberEnd_175 (by decide) ?_
                refine W.widen (k := 0) (n := 0) (Nat.le_refl _) (Nat.le_refl _) ?_
                exact W.iret (v := (-1)) hx hb hr (fun t ht _ => ⟨_, _, rfl, Or.inr ⟨by rw [hdd, if_pos (by omega)], rfl, v, rfl⟩, by rw [ht]; exact hP, hD, hS.F ht⟩) hS.2.2 dM_numberEnd_180
              have e_w : sh_word (sh_at nl k) = true := by unfold sh_word; grind [sh_b]
              have e_k : k < (m_w nl).length := tw_go hk (by omega) e_w
              have hdm := digM_word hba e_w
              refine lv_aload_n hx hb dM_numberEnd_127 rfl (lv_at hl 4 rfl) ?_
              refine lv_iload hx hb dM_numberEnd_128 (lv_at hl 0 rfl) ?_
              refine va_iald hx hb hK hP 2 0 rfl rfl (vp_in_nI (by omega) (by omega)) dM_numberEnd_130 ?_
              refine xw_topi (y := fU (a + k)) (by rw [nI_clamp (by omega)]) ?_
              refine xw_topi (y := sh_at nl k) (hnl k (by omega)) ?_
              refine rq_call (va_runS (As := [.int (sh_at nl k)]) (rest := []) ⟨hx, hb, hml, hown, htz⟩ (k_M_digitOf l (sh_at nl k)) (cwS 1 htz (zg_S zw_3_120 zw_3_121 zw_1_4 zw_3_122) rfl rfl rfl (by decide +kernel) ⟨Nat.le_of_ble_eq_true rfl, Nat.le_of_ble_eq_true rfl⟩) rq_pre rfl rfl hl.1 rfl (lv_room (Nat.le_of_ble_eq_true rfl)) dM_numberEnd_131 ⟨Nat.zero_le _, Nat.zero_le _⟩) ?_
              refine W.eq (g2 := F0 m 134 ls [.int (sh_digM (sh_at nl k))]) rfl ?_
              refine lv_istore (lv' := [(9, .int (sh_digM (sh_at nl k))), (7, .int (nI (a + k))), (8, .int (nI (a + i0))), (6, .int (sh_nb (m_w nl))), (0, .ref am), (1, .ref bU), (2, .int (nI a)), (3, .int (nI (a + nl.length)))]) hx hb dM_numberEnd_134 hl (by decide) rfl (fun ls hl => ?_)
              refine lv_iload hx hb dM_numberEnd_136 (lv_at hl 0 rfl) ?_
              refine lv_iload hx hb dM_numberEnd_138 (lv_at hl 3 rfl) ?_
              refine lv_icmp_lt (tgt := 145) hx hb dM_numberEnd_140 (by decide) (fun c_7 => ?_) (fun c_7 => ?_)
              · skip
                refine lv_aload_n hx hb dM_numberEnd_145 rfl (lv_at hl 4 rfl) ?_
                refine lv_aload_n hx hb dM_numberEnd_146 rfl (lv_at hl 4 rfl) ?_
                refine va_get (D := (dC, dI)) (ci := 4) (v := .long v) (C := "ShellSumModel") (T := TM) (N := 26) hx hb htz zu_M hown hK hP 0 rfl rfl 25 (by decide) (htz _ zw_2_185) (fun _ h9 => h9) rfl dM_numberEnd_147 ?_
                refine lv_iload hx hb dM_numberEnd_150 (lv_at hl 3 rfl) ?_
                refine lv_i2l hx hb dM_numberEnd_152 rfl ?_
                refine lv_lmul hx hb dM_numberEnd_153 ?_
                refine lv_iload hx hb dM_numberEnd_154 (lv_at hl 0 rfl) ?_
                refine lv_i2l hx hb dM_numberEnd_156 rfl ?_
                refine lv_ladd hx hb dM_numberEnd_157 ?_
                refine va_put (D := (dC, dI)) (ci := 4) (v := .long ((v * ((sh_nb (m_w nl)).toInt64)) + ((sh_digM (sh_at nl k)).toInt64))) (ty := .long) (C := "ShellSumModel") (T := TM) (N := 26) hx hb htz zu_M tyM tyM_ok nmM hown hK hP hD hS 0 rfl rfl 25 (by decide) (htz _ zw_2_185) (fun _ h9 => h9) rfl (by decide +kernel) rfl rfl (Nat.le_of_ble_eq_true rfl) dM_numberEnd_158 (fun H locs hP hD hS => ?_)
                have hP : va_P (dC, dI) vwCl ((am, .inr (4, [.int cd, .ref bT, .ref bU, .int fsz, .int ln, .int pl, .int ne, .int bd, .ref bS, .ref b1, .ref b2, .ref bL, .ref bK, .ref bV, .int wa, .int hi, .ref bN, .ref bX, .ref bA, .ref bB, .int my, .int gd, .int wr, .ref bH, .int hs, .long ((v * ((sh_nb (m_w nl)).toInt64)) + ((sh_digM (sh_at nl k)).toInt64))])) :: (bT, .inl (kI, 300, .inl fT)) :: (bU, .inl (kI, 300, .inl fU)) :: (bS, .inl (kI, 2000, .inl fS)) :: (b1, .inl (kI, 2000, .inl f1)) :: (b2, .inl (kI, 2000, .inl f2)) :: (bL, .inl (kZ, 2000, .inl fL)) :: (bK, .inl (kJ, 2000, .inr (.inl fK))) :: (bV, .inl (kJ, 400, .inr (.inl fV))) :: (bN, .inl (kI, 19200, .inl fN)) :: (bX, .inl (kI, 1536, .inl fX)) :: (bA, .inl (kI, 64, .inl fA)) :: (bB, .inl (kI, 64, .inl fB)) :: (bH, .inl (kI, 8, .inl fH)) :: tl) _ := hP
                have hD : va_D A ((am, .inr (4, [.int cd, .ref bT, .ref bU, .int fsz, .int ln, .int pl, .int ne, .int bd, .ref bS, .ref b1, .ref b2, .ref bL, .ref bK, .ref bV, .int wa, .int hi, .ref bN, .ref bX, .ref bA, .ref bB, .int my, .int gd, .int wr, .ref bH, .int hs, .long ((v * ((sh_nb (m_w nl)).toInt64)) + ((sh_digM (sh_at nl k)).toInt64))])) :: (bT, .inl (kI, 300, .inl fT)) :: (bU, .inl (kI, 300, .inl fU)) :: (bS, .inl (kI, 2000, .inl fS)) :: (b1, .inl (kI, 2000, .inl f1)) :: (b2, .inl (kI, 2000, .inl f2)) :: (bL, .inl (kZ, 2000, .inl fL)) :: (bK, .inl (kJ, 2000, .inr (.inl fK))) :: (bV, .inl (kJ, 400, .inr (.inl fV))) :: (bN, .inl (kI, 19200, .inl fN)) :: (bX, .inl (kI, 1536, .inl fX)) :: (bA, .inl (kI, 64, .inl fA)) :: (bB, .inl (kI, 64, .inl fB)) :: (bH, .inl (kI, 8, .inl fH)) :: tl) := hD
                refine lv_iinc (v := nI (a + (k + 1))) (lv' := [(7, .int (nI (a + (k + 1)))), (9, .int (sh_digM (sh_at nl k))), (8, .int (nI (a + i0))), (6, .int (sh_nb (m_w nl))), (0, .ref am), (1, .ref bU), (2, .int (nI a)), (3, .int (nI (a + nl.length)))]) hx hb dM_numberEnd_161 hl (k := 1) rfl (nI_1 (a + k)) (by decide) rfl (fun ls hl => ?_)
                refine lv_goto (tgt := 101) hx hb dM_numberEnd_164 (by decide) ?_
                exact ih_loop_101 (k + 1) ((v * ((sh_nb (m_w nl)).toInt64)) + ((sh_digM (sh_at nl k)).toInt64)) (by omega) (by omega) (by omega) (by rw [he, sh_digs_step e_k, (tw_at e_k).1, if_neg (mt hdm.1.mpr (Int32.not_le.mpr c_7)), hdm.2 (Int32.not_le.mpr c_7)]) _ _ hP hD hS ls (lv_sub hl [0, 2, 3, 4, 5, 6, 7] rfl)
              refine lv_iconst (v := (-1)) hx hb dM_numberEnd_143 (by decide) ?_
              refine W.widen (k := 0) (n := 0) (Nat.le_refl _) (Nat.le_refl _) ?_
              exact W.iret (v := (-1)) hx hb hr (fun t ht _ => ⟨_, _, rfl, Or.inr ⟨by rw [hdd, if_neg (by omega), he, sh_digs_step e_k, (tw_at e_k).1, if_pos (hdm.1.mp (Int32.not_lt.mp c_7))], rfl, v, rfl⟩, by rw [ht]; exact hP, hD, hS.F ht⟩) hS.2.2 dM_numberEnd_144
          exact loop_101 _ i0 0 (Nat.lt_succ_self _) (Nat.le_refl _) (hi0) (rfl) _ _ hP hD hS ls (lv_sub hl [1, 0, 2, 5, 6, 7, 8] rfl)
        refine lv_iload hx hb dM_numberEnd_78 (lv_at hl 1 rfl) ?_
        refine lv_if_eq (tgt := 89) hx hb dM_numberEnd_80 (by decide) (fun c_8 => ?_) (fun c_8 => ?_)
        · skip
          have e_80 : xb = false := sh_bf c_8
          have e_n80 : ¬ sh_nb (m_w nl) = 16 := fun h => by rw [e_80] at hxb; exact absurd (hxb.mpr h) (by decide)
          refine lv_iload_n hx hb dM_numberEnd_89 rfl (lv_at hl 5 rfl) ?_
          refine xw_topi (y := nI (a + 0)) (rfl) ?_
          exact j_90 0 (Nat.zero_le _) (by rw [hnw, if_neg e_n80, if_neg (by omega)]) _ _ hP hD hS ls (lv_sub hl [0, 1, 2, 3, 4, 5, 6] rfl)
        have e_80 : xb = true := sh_bt c_8
        refine lv_iload_n hx hb dM_numberEnd_83 rfl (lv_at hl 5 rfl) ?_
        refine lv_iconst (v := 2) hx hb dM_numberEnd_84 (by decide) ?_
        refine lv_iadd hx hb dM_numberEnd_85 ?_
        refine xw_topi (y := nI (a + 2)) (nI_add a 2) ?_
        refine lv_goto (tgt := 90) hx hb dM_numberEnd_86 (by decide) ?_
        exact j_90 2 (tw_go (k := 1) hp0 (hhex.mp (hxb.mp e_80)).2.1 (by rcases (hhex.mp (hxb.mp e_80)).2.2 with e9 | e9 <;> (rw [e9]; decide))) (by rw [hnw, if_pos (hxb.mp e_80), hxb.mp e_80]) _ _ hP hD hS ls (lv_sub hl [0, 1, 2, 3, 4, 5, 6] rfl)
      refine lv_iload hx hb dM_numberEnd_54 (lv_at hl 0 rfl) ?_
      refine lv_if_eq (tgt := 64) hx hb dM_numberEnd_56 (by decide) (fun c_9 => ?_) (fun c_9 => ?_)
      · skip
        have e_56 : xb = false := sh_bf c_9
        have e_n16 : ¬ sh_nb (m_w nl) = 16 := fun h => by rw [e_56] at hxb; exact absurd (hxb.mpr h) (by decide)
        refine lv_iload hx hb dM_numberEnd_64 (lv_at hl 1 rfl) ?_
        refine lv_if_eq (tgt := 74) hx hb dM_numberEnd_66 (by decide) (fun c_10 => ?_) (fun c_10 => ?_)
        · skip
          have e_66 : zb = false := sh_bf c_10
          refine lv_bipush (v := 10) hx hb dM_numberEnd_74 (by decide) ?_
          refine xw_topi (y := sh_nb (m_w nl)) (by rw [m_nb_oct hp0 e_n16, if_neg (fun h => by rw [e_66] at hzb; exact absurd (hzb.mpr h) (by decide))]) ?_
          exact j_76 ()  _ _ hP hD hS ls (lv_sub hl [0, 1, 2, 3, 4, 5] rfl)
        have e_66 : zb = true := sh_bt c_10
        refine lv_bipush (v := 8) hx hb dM_numberEnd_69 (by decide) ?_
        refine lv_goto (tgt := 76) hx hb dM_numberEnd_71 (by decide) ?_
        refine xw_topi (y := sh_nb (m_w nl)) (by rw [m_nb_oct hp0 e_n16, if_pos (hzb.mp e_66)]) ?_
        exact j_76 ()  _ _ hP hD hS ls (lv_sub hl [0, 1, 2, 3, 4, 5] rfl)
      have e_56 : xb = true := sh_bt c_9
      refine lv_bipush (v := 16) hx hb dM_numberEnd_59 (by decide) ?_
      refine lv_goto (tgt := 76) hx hb dM_numberEnd_61 (by decide) ?_
      refine xw_topi (y := sh_nb (m_w nl)) ((hxb.mp e_56).symm) ?_
      exact j_76 ()  _ _ hP hD hS ls (lv_sub hl [0, 1, 2, 3, 4, 5] rfl)
    refine lv_iload hx hb dM_numberEnd_15 (lv_at hl 0 rfl) ?_
    refine lv_if_eq (tgt := 51) hx hb dM_numberEnd_17 (by decide) (fun c_11 => ?_) (fun c_11 => ?_)
    · skip
      have e_17 : zb = false := sh_bf c_11
      refine lv_iconst (v := 0) hx hb dM_numberEnd_51 (by decide) ?_
      exact j_52 false (by rw [hhex]; exact iff_of_false (by decide) (fun h => by rw [e_17] at hzb; exact absurd (hzb.mpr h.1) (by decide))) _ _ hP hD hS ls (lv_sub hl [0, 1, 2, 3, 4] rfl)
    have e_17 : zb = true := sh_bt c_11
    refine lv_iload_n hx hb dM_numberEnd_20 rfl (lv_at hl 3 rfl) ?_
    refine lv_iconst (v := 1) hx hb dM_numberEnd_21 (by decide) ?_
    refine lv_iadd hx hb dM_numberEnd_22 ?_
    refine xw_topi (y := nI (a + 1)) (nI_add a 1) ?_
    refine lv_iload_n hx hb dM_numberEnd_23 rfl (lv_at hl 4 rfl) ?_
    refine lv_icmp_ge (tgt := 51) hx hb dM_numberEnd_24 (by decide) (fun c_12 => ?_) (fun c_12 => ?_)
    · skip
      have e_24 : a + nl.length ≤ a + 1 := xi_le c_12 (by omega) (by omega)
      refine lv_iconst (v := 0) hx hb dM_numberEnd_51 (by decide) ?_
      exact j_52 false (by rw [hhex]; exact iff_of_false (by decide) (fun h => by omega)) _ _ hP hD hS ls (lv_sub hl [0, 1, 2, 3, 4] rfl)
    have e_24 : a + 1 < a + nl.length := xi_nle c_12 (by omega) (by omega)
    refine lv_aload_n hx hb dM_numberEnd_27 rfl (lv_at hl 2 rfl) ?_
    refine lv_iload_n hx hb dM_numberEnd_28 rfl (lv_at hl 3 rfl) ?_
    refine lv_iconst (v := 1) hx hb dM_numberEnd_29 (by decide) ?_
    refine lv_iadd hx hb dM_numberEnd_30 ?_
    refine xw_topi (y := nI (a + 1)) (nI_add a 1) ?_
    refine va_iald hx hb hK hP 2 0 rfl rfl (vp_in_nI (by omega) (by omega)) dM_numberEnd_31 ?_
    refine xw_topi (y := fU (a + 1)) (by rw [nI_clamp (by omega)]) ?_
    refine xw_topi (y := sh_at nl 1) (hnl 1 (by omega)) ?_
    refine lv_bipush (v := 120) hx hb dM_numberEnd_32 (by decide) ?_
    refine lv_icmp_eq (tgt := 47) hx hb dM_numberEnd_34 (by decide) (fun c_13 => ?_) (fun c_13 => ?_)
    · skip
      refine lv_iconst (v := 1) hx hb dM_numberEnd_47 (by decide) ?_
      refine lv_goto (tgt := 52) hx hb dM_numberEnd_48 (by decide) ?_
      exact j_52 true (by rw [hhex]; exact iff_of_true rfl ⟨hzb.mp e_17, by omega, Or.inl c_13⟩) _ _ hP hD hS ls (lv_sub hl [0, 1, 2, 3, 4] rfl)
    refine lv_aload_n hx hb dM_numberEnd_37 rfl (lv_at hl 2 rfl) ?_
    refine lv_iload_n hx hb dM_numberEnd_38 rfl (lv_at hl 3 rfl) ?_
    refine lv_iconst (v := 1) hx hb dM_numberEnd_39 (by decide) ?_
    refine lv_iadd hx hb dM_numberEnd_40 ?_
    refine xw_topi (y := nI (a + 1)) (nI_add a 1) ?_
    refine va_iald hx hb hK hP 2 0 rfl rfl (vp_in_nI (by omega) (by omega)) dM_numberEnd_41 ?_
    refine xw_topi (y := fU (a + 1)) (by rw [nI_clamp (by omega)]) ?_
    refine xw_topi (y := sh_at nl 1) (hnl 1 (by omega)) ?_
    refine lv_bipush (v := 88) hx hb dM_numberEnd_42 (by decide) ?_
    refine lv_icmp_ne (tgt := 51) hx hb dM_numberEnd_44 (by decide) (fun c_14 => ?_) (fun c_14 => ?_)
    · skip
      refine lv_iconst (v := 0) hx hb dM_numberEnd_51 (by decide) ?_
      exact j_52 false (by rw [hhex]; exact iff_of_false (by decide) (fun h => h.2.2.elim c_13 c_14)) _ _ hP hD hS ls (lv_sub hl [0, 1, 2, 3, 4] rfl)
    refine lv_iconst (v := 1) hx hb dM_numberEnd_47 (by decide) ?_
    refine lv_goto (tgt := 52) hx hb dM_numberEnd_48 (by decide) ?_
    exact j_52 true (by rw [hhex]; exact iff_of_true rfl ⟨hzb.mp e_17, by omega, Or.inr c_14⟩) _ _ hP hD hS ls (lv_sub hl [0, 1, 2, 3, 4] rfl)
  refine lv_bipush (v := 48) hx hb dM_numberEnd_3 (by decide) ?_
  refine lv_icmp_ne (tgt := 12) hx hb dM_numberEnd_5 (by decide) (fun c_15 => ?_) (fun c_15 => ?_)
  · skip
    refine lv_iconst (v := 0) hx hb dM_numberEnd_12 (by decide) ?_
    exact j_13 false (iff_of_false (by decide) c_15) _ _ hP hD hS ls (lv_sub hl [0, 1, 2, 3] rfl)
  refine lv_iconst (v := 1) hx hb dM_numberEnd_8 (by decide) ?_
  refine lv_goto (tgt := 13) hx hb dM_numberEnd_9 (by decide) ?_
  exact j_13 true (iff_of_true rfl c_15) _ _ hP hD hS ls (lv_sub hl [0, 1, 2, 3] rfl)
set_option maxHeartbeats 4000000 in
set_option maxRecDepth 100000 in
/-- numberEnd(row, from, end) -/
theorem k_M_numberEndX (l : Launch) (dC : Nat → ClassId) (dI : Nat → Nat → Nat) (kI kJ kZ : ClassId) (am bT bU bS b1 b2 bL bK bV bN bX bA bB bH : Nat) (cd fsz ln pl ne bd wa hi my gd wr hs : Int32) (nu : Int64) (fT fU fS f1 f2 fL fN fX fA fB fH : Nat → Int32) (fK fV : Nat → Int64) (tl : va_W) (sz : Nat) (a : Nat) (nl : List Int32) (hnl : ∀ j, j < nl.length → fX (a + j) = sh_at nl j) (ha : a + nl.length ≤ 1536) (h0 : 0 < nl.length) (hdg : sh_digit (sh_at nl 0) = true) : Met l yM_numberEnd wsM_numberEnd ({ frames := 2, cells := 0, slots := 0, locals := 60 }) (va_Pc [.ref am, .ref bX, .int (nI a), .int (nI (a + nl.length))] (zW dC dI ([(kI, .int), (kJ, .long), (kZ, .boolean)]) ((am, .inr (4, [.int cd, .ref bT, .ref bU, .int fsz, .int ln, .int pl, .int ne, .int bd, .ref bS, .ref b1, .ref b2, .ref bL, .ref bK, .ref bV, .int wa, .int hi, .ref bN, .ref bX, .ref bA, .ref bB, .int my, .int gd, .int wr, .ref bH, .int hs, .long nu])) :: (bT, .inl (kI, 300, .inl fT)) :: (bU, .inl (kI, 300, .inl fU)) :: (bS, .inl (kI, 2000, .inl fS)) :: (b1, .inl (kI, 2000, .inl f1)) :: (b2, .inl (kI, 2000, .inl f2)) :: (bL, .inl (kZ, 2000, .inl fL)) :: (bK, .inl (kJ, 2000, .inr (.inl fK))) :: (bV, .inl (kJ, 400, .inr (.inl fV))) :: (bN, .inl (kI, 19200, .inl fN)) :: (bX, .inl (kI, 1536, .inl fX)) :: (bA, .inl (kI, 64, .inl fA)) :: (bB, .inl (kI, 64, .inl fB)) :: (bH, .inl (kI, 8, .inl fH)) :: tl) sz)) (zQ dC dI (va_A ((am, .inr (4, [.int cd, .ref bT, .ref bU, .int fsz, .int ln, .int pl, .int ne, .int bd, .ref bS, .ref b1, .ref b2, .ref bL, .ref bK, .ref bV, .int wa, .int hi, .ref bN, .ref bX, .ref bA, .ref bB, .int my, .int gd, .int wr, .ref bH, .int hs, .long nu])) :: (bT, .inl (kI, 300, .inl fT)) :: (bU, .inl (kI, 300, .inl fU)) :: (bS, .inl (kI, 2000, .inl fS)) :: (b1, .inl (kI, 2000, .inl f1)) :: (b2, .inl (kI, 2000, .inl f2)) :: (bL, .inl (kZ, 2000, .inl fL)) :: (bK, .inl (kJ, 2000, .inr (.inl fK))) :: (bV, .inl (kJ, 400, .inr (.inl fV))) :: (bN, .inl (kI, 19200, .inl fN)) :: (bX, .inl (kI, 1536, .inl fX)) :: (bA, .inl (kI, 64, .inl fA)) :: (bB, .inl (kI, 64, .inl fB)) :: (bH, .inl (kI, 8, .inl fH)) :: tl) sz) (fun v w => (∃ x, sh_num (m_w nl) = some x ∧ v = some (.int (nI (a + (m_w nl).length))) ∧ w = ((am, .inr (4, [.int cd, .ref bT, .ref bU, .int fsz, .int ln, .int pl, .int ne, .int bd, .ref bS, .ref b1, .ref b2, .ref bL, .ref bK, .ref bV, .int wa, .int hi, .ref bN, .ref bX, .ref bA, .ref bB, .int my, .int gd, .int wr, .ref bH, .int hs, .long x])) :: (bT, .inl (kI, 300, .inl fT)) :: (bU, .inl (kI, 300, .inl fU)) :: (bS, .inl (kI, 2000, .inl fS)) :: (b1, .inl (kI, 2000, .inl f1)) :: (b2, .inl (kI, 2000, .inl f2)) :: (bL, .inl (kZ, 2000, .inl fL)) :: (bK, .inl (kJ, 2000, .inr (.inl fK))) :: (bV, .inl (kJ, 400, .inr (.inl fV))) :: (bN, .inl (kI, 19200, .inl fN)) :: (bX, .inl (kI, 1536, .inl fX)) :: (bA, .inl (kI, 64, .inl fA)) :: (bB, .inl (kI, 64, .inl fB)) :: (bH, .inl (kI, 8, .inl fH)) :: tl)) ∨ (sh_num (m_w nl) = none ∧ v = some (.int (-1)) ∧ ∃ x, w = ((am, .inr (4, [.int cd, .ref bT, .ref bU, .int fsz, .int ln, .int pl, .int ne, .int bd, .ref bS, .ref b1, .ref b2, .ref bL, .ref bK, .ref bV, .int wa, .int hi, .ref bN, .ref bX, .ref bA, .ref bB, .int my, .int gd, .int wr, .ref bH, .int hs, .long x])) :: (bT, .inl (kI, 300, .inl fT)) :: (bU, .inl (kI, 300, .inl fU)) :: (bS, .inl (kI, 2000, .inl fS)) :: (b1, .inl (kI, 2000, .inl f1)) :: (b2, .inl (kI, 2000, .inl f2)) :: (bL, .inl (kZ, 2000, .inl fL)) :: (bK, .inl (kJ, 2000, .inr (.inl fK))) :: (bV, .inl (kJ, 400, .inr (.inl fV))) :: (bN, .inl (kI, 19200, .inl fN)) :: (bX, .inl (kI, 1536, .inl fX)) :: (bA, .inl (kI, 64, .inl fA)) :: (bB, .inl (kI, 64, .inl fB)) :: (bH, .inl (kI, 8, .inl fH)) :: tl)))) 0 0 (va_A ((am, .inr (4, [.int cd, .ref bT, .ref bU, .int fsz, .int ln, .int pl, .int ne, .int bd, .ref bS, .ref b1, .ref b2, .ref bL, .ref bK, .ref bV, .int wa, .int hi, .ref bN, .ref bX, .ref bA, .ref bB, .int my, .int gd, .int wr, .ref bH, .int hs, .long nu])) :: (bT, .inl (kI, 300, .inl fT)) :: (bU, .inl (kI, 300, .inl fU)) :: (bS, .inl (kI, 2000, .inl fS)) :: (b1, .inl (kI, 2000, .inl f1)) :: (b2, .inl (kI, 2000, .inl f2)) :: (bL, .inl (kZ, 2000, .inl fL)) :: (bK, .inl (kJ, 2000, .inr (.inl fK))) :: (bV, .inl (kJ, 400, .inr (.inl fV))) :: (bN, .inl (kI, 19200, .inl fN)) :: (bX, .inl (kI, 1536, .inl fX)) :: (bA, .inl (kI, 64, .inl fA)) :: (bB, .inl (kI, 64, .inl fB)) :: (bH, .inl (kI, 8, .inl fH)) :: tl) sz) := by
  refine Met.ofW (cc := cM_numberEnd) (maxL := 10) (ret := (some .int)) (by decide) rfl ?_
  intro p e s m args below meth c s₁ B hml hv
  obtain ⟨rfl, hsz, hP, hK, hD0, hN⟩ := hv
  subst hsz
  have hD := hD0.self (sz := s.heap.size)
  generalize hAe : va_A ((am, .inr (4, [.int cd, .ref bT, .ref bU, .int fsz, .int ln, .int pl, .int ne, .int bd, .ref bS, .ref b1, .ref b2, .ref bL, .ref bK, .ref bV, .int wa, .int hi, .ref bN, .ref bX, .ref bA, .ref bB, .int my, .int gd, .int wr, .ref bH, .int hs, .long nu])) :: (bT, .inl (kI, 300, .inl fT)) :: (bU, .inl (kI, 300, .inl fU)) :: (bS, .inl (kI, 2000, .inl fS)) :: (b1, .inl (kI, 2000, .inl f1)) :: (b2, .inl (kI, 2000, .inl f2)) :: (bL, .inl (kZ, 2000, .inl fL)) :: (bK, .inl (kJ, 2000, .inr (.inl fK))) :: (bV, .inl (kJ, 400, .inr (.inl fV))) :: (bN, .inl (kI, 19200, .inl fN)) :: (bX, .inl (kI, 1536, .inl fX)) :: (bA, .inl (kI, 64, .inl fA)) :: (bB, .inl (kI, 64, .inl fB)) :: (bH, .inl (kI, 8, .inl fH)) :: tl) s.heap.size = A at hD ⊢
  have hA : ∀ q : Nat, s.heap.size ≤ q → A q := fun q h => by rw [← hAe]; exact Or.inr h
  have hS : va_S A s.heap s.heap [] := va_S.rf
  have hx := B.exec
  have hb := B.bytes
  have hr := B.returns
  have htz : ∀ w ∈ zw, w.before _ s = true := fun w h => atoms_spec (ws := wsM_numberEnd) B.pre w (List.mem_cons_of_mem _ h)
  have hown : s.vm.findClass "ShellSumModel" = some m.cls := findClass_of_methodNamed B.named
  have hlocks := B.notSynchronized
  have hl := lv_entry ([.ref am, .ref bX, .int (nI a), .int (nI (a + nl.length))]) (n := 10) (Nat.le_of_ble_eq_true rfl)
  rw [lg_entry_eq]
  generalize (lg_sl ([.ref am, .ref bX, .int (nI a), .int (nI (a + nl.length))]) ++ List.replicate (10 - (lg_sl ([.ref am, .ref bX, .int (nI a), .int (nI (a + nl.length))])).length) Slot.unset).toArray = ls at hl ⊢
  have hl : lv_has ls 10 [(0, .ref am), (1, .ref bX), (2, .int (nI a)), (3, .int (nI (a + nl.length)))] := hl
  have hlw := tw_len nl
  have hp0 := tw_pos h0 hdg
  have hhex := m_nb_hex hp0
  have hnw := sh_num_w hp0
  have hba := sh_base_le (sh_at (m_w nl) 0) (if (m_w nl).length ≤ 1 then 48 else sh_at (m_w nl) 1)
  have hba : sh_nb (m_w nl) = 16 ∨ sh_nb (m_w nl) = 8 ∨ sh_nb (m_w nl) = 10 := hba
  refine lv_aload_n hx hb dM_numberEnd_0 rfl (lv_at hl 1 rfl) ?_
  refine lv_iload_n hx hb dM_numberEnd_1 rfl (lv_at hl 2 rfl) ?_
  refine va_iald hx hb hK hP 10 0 rfl rfl (vp_in_nI (by omega) (by omega)) dM_numberEnd_2 ?_
  refine xw_topi (y := fX a) (by rw [nI_clamp (by omega)]) ?_
  refine xw_topi (y := sh_at nl 0) (hnl 0 h0) ?_
  have j_13 : ∀ (zb : Bool), (zb = true ↔ sh_at nl 0 = 48) → ∀ (H : Heap) (locs : List Loc), va_P (dC, dI) vwCl ((am, .inr (4, [.int cd, .ref bT, .ref bU, .int fsz, .int ln, .int pl, .int ne, .int bd, .ref bS, .ref b1, .ref b2, .ref bL, .ref bK, .ref bV, .int wa, .int hi, .ref bN, .ref bX, .ref bA, .ref bB, .int my, .int gd, .int wr, .ref bH, .int hs, .long nu])) :: (bT, .inl (kI, 300, .inl fT)) :: (bU, .inl (kI, 300, .inl fU)) :: (bS, .inl (kI, 2000, .inl fS)) :: (b1, .inl (kI, 2000, .inl f1)) :: (b2, .inl (kI, 2000, .inl f2)) :: (bL, .inl (kZ, 2000, .inl fL)) :: (bK, .inl (kJ, 2000, .inr (.inl fK))) :: (bV, .inl (kJ, 400, .inr (.inl fV))) :: (bN, .inl (kI, 19200, .inl fN)) :: (bX, .inl (kI, 1536, .inl fX)) :: (bA, .inl (kI, 64, .inl fA)) :: (bB, .inl (kI, 64, .inl fB)) :: (bH, .inl (kI, 8, .inl fH)) :: tl) H → va_D A ((am, .inr (4, [.int cd, .ref bT, .ref bU, .int fsz, .int ln, .int pl, .int ne, .int bd, .ref bS, .ref b1, .ref b2, .ref bL, .ref bK, .ref bV, .int wa, .int hi, .ref bN, .ref bX, .ref bA, .ref bB, .int my, .int gd, .int wr, .ref bH, .int hs, .long nu])) :: (bT, .inl (kI, 300, .inl fT)) :: (bU, .inl (kI, 300, .inl fU)) :: (bS, .inl (kI, 2000, .inl fS)) :: (b1, .inl (kI, 2000, .inl f1)) :: (b2, .inl (kI, 2000, .inl f2)) :: (bL, .inl (kZ, 2000, .inl fL)) :: (bK, .inl (kJ, 2000, .inr (.inl fK))) :: (bV, .inl (kJ, 400, .inr (.inl fV))) :: (bN, .inl (kI, 19200, .inl fN)) :: (bX, .inl (kI, 1536, .inl fX)) :: (bA, .inl (kI, 64, .inl fA)) :: (bB, .inl (kI, 64, .inl fB)) :: (bH, .inl (kI, 8, .inl fH)) :: tl) → va_S A s.heap H locs → ∀ ls : Array Slot, lv_has ls 10 [(0, .ref am), (1, .ref bX), (2, .int (nI a)), (3, .int (nI (a + nl.length)))] → W p l e (headSpec wsM_numberEnd ({ frames := 2, cells := 0, slots := 0, locals := 60 })).room s m ([.ref am, .ref bX, .int (nI a), .int (nI (a + nl.length))] : List Value).toArray below meth c H locs 0 0 (MQ below (zQ dC dI A (fun v w => (∃ x, sh_num (m_w nl) = some x ∧ v = some (.int (nI (a + (m_w nl).length))) ∧ w = ((am, .inr (4, [.int cd, .ref bT, .ref bU, .int fsz, .int ln, .int pl, .int ne, .int bd, .ref bS, .ref b1, .ref b2, .ref bL, .ref bK, .ref bV, .int wa, .int hi, .ref bN, .ref bX, .ref bA, .ref bB, .int my, .int gd, .int wr, .ref bH, .int hs, .long x])) :: (bT, .inl (kI, 300, .inl fT)) :: (bU, .inl (kI, 300, .inl fU)) :: (bS, .inl (kI, 2000, .inl fS)) :: (b1, .inl (kI, 2000, .inl f1)) :: (b2, .inl (kI, 2000, .inl f2)) :: (bL, .inl (kZ, 2000, .inl fL)) :: (bK, .inl (kJ, 2000, .inr (.inl fK))) :: (bV, .inl (kJ, 400, .inr (.inl fV))) :: (bN, .inl (kI, 19200, .inl fN)) :: (bX, .inl (kI, 1536, .inl fX)) :: (bA, .inl (kI, 64, .inl fA)) :: (bB, .inl (kI, 64, .inl fB)) :: (bH, .inl (kI, 8, .inl fH)) :: tl)) ∨ (sh_num (m_w nl) = none ∧ v = some (.int (-1)) ∧ ∃ x, w = ((am, .inr (4, [.int cd, .ref bT, .ref bU, .int fsz, .int ln, .int pl, .int ne, .int bd, .ref bS, .ref b1, .ref b2, .ref bL, .ref bK, .ref bV, .int wa, .int hi, .ref bN, .ref bX, .ref bA, .ref bB, .int my, .int gd, .int wr, .ref bH, .int hs, .long x])) :: (bT, .inl (kI, 300, .inl fT)) :: (bU, .inl (kI, 300, .inl fU)) :: (bS, .inl (kI, 2000, .inl fS)) :: (b1, .inl (kI, 2000, .inl f1)) :: (b2, .inl (kI, 2000, .inl f2)) :: (bL, .inl (kZ, 2000, .inl fL)) :: (bK, .inl (kJ, 2000, .inr (.inl fK))) :: (bV, .inl (kJ, 400, .inr (.inl fV))) :: (bN, .inl (kI, 19200, .inl fN)) :: (bX, .inl (kI, 1536, .inl fX)) :: (bA, .inl (kI, 64, .inl fA)) :: (bB, .inl (kI, 64, .inl fB)) :: (bH, .inl (kI, 8, .inl fH)) :: tl)))) ([.ref am, .ref bX, .int (nI a), .int (nI (a + nl.length))] : List Value).toArray s 0 0 A) (F0 m 13 ls [.int (sh_b zb)]) := by
    intro zb hzb H locs hP hD hS ls hl
    refine lv_istore (lv' := [(4, .int (sh_b zb)), (0, .ref am), (1, .ref bX), (2, .int (nI a)), (3, .int (nI (a + nl.length)))]) hx hb dM_numberEnd_13 hl (by decide) rfl (fun ls hl => ?_)
    have j_52 : ∀ (xb : Bool), (xb = true ↔ sh_nb (m_w nl) = 16) → ∀ (H : Heap) (locs : List Loc), va_P (dC, dI) vwCl ((am, .inr (4, [.int cd, .ref bT, .ref bU, .int fsz, .int ln, .int pl, .int ne, .int bd, .ref bS, .ref b1, .ref b2, .ref bL, .ref bK, .ref bV, .int wa, .int hi, .ref bN, .ref bX, .ref bA, .ref bB, .int my, .int gd, .int wr, .ref bH, .int hs, .long nu])) :: (bT, .inl (kI, 300, .inl fT)) :: (bU, .inl (kI, 300, .inl fU)) :: (bS, .inl (kI, 2000, .inl fS)) :: (b1, .inl (kI, 2000, .inl f1)) :: (b2, .inl (kI, 2000, .inl f2)) :: (bL, .inl (kZ, 2000, .inl fL)) :: (bK, .inl (kJ, 2000, .inr (.inl fK))) :: (bV, .inl (kJ, 400, .inr (.inl fV))) :: (bN, .inl (kI, 19200, .inl fN)) :: (bX, .inl (kI, 1536, .inl fX)) :: (bA, .inl (kI, 64, .inl fA)) :: (bB, .inl (kI, 64, .inl fB)) :: (bH, .inl (kI, 8, .inl fH)) :: tl) H → va_D A ((am, .inr (4, [.int cd, .ref bT, .ref bU, .int fsz, .int ln, .int pl, .int ne, .int bd, .ref bS, .ref b1, .ref b2, .ref bL, .ref bK, .ref bV, .int wa, .int hi, .ref bN, .ref bX, .ref bA, .ref bB, .int my, .int gd, .int wr, .ref bH, .int hs, .long nu])) :: (bT, .inl (kI, 300, .inl fT)) :: (bU, .inl (kI, 300, .inl fU)) :: (bS, .inl (kI, 2000, .inl fS)) :: (b1, .inl (kI, 2000, .inl f1)) :: (b2, .inl (kI, 2000, .inl f2)) :: (bL, .inl (kZ, 2000, .inl fL)) :: (bK, .inl (kJ, 2000, .inr (.inl fK))) :: (bV, .inl (kJ, 400, .inr (.inl fV))) :: (bN, .inl (kI, 19200, .inl fN)) :: (bX, .inl (kI, 1536, .inl fX)) :: (bA, .inl (kI, 64, .inl fA)) :: (bB, .inl (kI, 64, .inl fB)) :: (bH, .inl (kI, 8, .inl fH)) :: tl) → va_S A s.heap H locs → ∀ ls : Array Slot, lv_has ls 10 [(4, .int (sh_b zb)), (0, .ref am), (1, .ref bX), (2, .int (nI a)), (3, .int (nI (a + nl.length)))] → W p l e (headSpec wsM_numberEnd ({ frames := 2, cells := 0, slots := 0, locals := 60 })).room s m ([.ref am, .ref bX, .int (nI a), .int (nI (a + nl.length))] : List Value).toArray below meth c H locs 0 0 (MQ below (zQ dC dI A (fun v w => (∃ x, sh_num (m_w nl) = some x ∧ v = some (.int (nI (a + (m_w nl).length))) ∧ w = ((am, .inr (4, [.int cd, .ref bT, .ref bU, .int fsz, .int ln, .int pl, .int ne, .int bd, .ref bS, .ref b1, .ref b2, .ref bL, .ref bK, .ref bV, .int wa, .int hi, .ref bN, .ref bX, .ref bA, .ref bB, .int my, .int gd, .int wr, .ref bH, .int hs, .long x])) :: (bT, .inl (kI, 300, .inl fT)) :: (bU, .inl (kI, 300, .inl fU)) :: (bS, .inl (kI, 2000, .inl fS)) :: (b1, .inl (kI, 2000, .inl f1)) :: (b2, .inl (kI, 2000, .inl f2)) :: (bL, .inl (kZ, 2000, .inl fL)) :: (bK, .inl (kJ, 2000, .inr (.inl fK))) :: (bV, .inl (kJ, 400, .inr (.inl fV))) :: (bN, .inl (kI, 19200, .inl fN)) :: (bX, .inl (kI, 1536, .inl fX)) :: (bA, .inl (kI, 64, .inl fA)) :: (bB, .inl (kI, 64, .inl fB)) :: (bH, .inl (kI, 8, .inl fH)) :: tl)) ∨ (sh_num (m_w nl) = none ∧ v = some (.int (-1)) ∧ ∃ x, w = ((am, .inr (4, [.int cd, .ref bT, .ref bU, .int fsz, .int ln, .int pl, .int ne, .int bd, .ref bS, .ref b1, .ref b2, .ref bL, .ref bK, .ref bV, .int wa, .int hi, .ref bN, .ref bX, .ref bA, .ref bB, .int my, .int gd, .int wr, .ref bH, .int hs, .long x])) :: (bT, .inl (kI, 300, .inl fT)) :: (bU, .inl (kI, 300, .inl fU)) :: (bS, .inl (kI, 2000, .inl fS)) :: (b1, .inl (kI, 2000, .inl f1)) :: (b2, .inl (kI, 2000, .inl f2)) :: (bL, .inl (kZ, 2000, .inl fL)) :: (bK, .inl (kJ, 2000, .inr (.inl fK))) :: (bV, .inl (kJ, 400, .inr (.inl fV))) :: (bN, .inl (kI, 19200, .inl fN)) :: (bX, .inl (kI, 1536, .inl fX)) :: (bA, .inl (kI, 64, .inl fA)) :: (bB, .inl (kI, 64, .inl fB)) :: (bH, .inl (kI, 8, .inl fH)) :: tl)))) ([.ref am, .ref bX, .int (nI a), .int (nI (a + nl.length))] : List Value).toArray s 0 0 A) (F0 m 52 ls [.int (sh_b xb)]) := by
      intro xb hxb H locs hP hD hS ls hl
      refine lv_istore (lv' := [(5, .int (sh_b xb)), (4, .int (sh_b zb)), (0, .ref am), (1, .ref bX), (2, .int (nI a)), (3, .int (nI (a + nl.length)))]) hx hb dM_numberEnd_52 hl (by decide) rfl (fun ls hl => ?_)
      have j_76 : ∀ (_ : Unit), ∀ (H : Heap) (locs : List Loc), va_P (dC, dI) vwCl ((am, .inr (4, [.int cd, .ref bT, .ref bU, .int fsz, .int ln, .int pl, .int ne, .int bd, .ref bS, .ref b1, .ref b2, .ref bL, .ref bK, .ref bV, .int wa, .int hi, .ref bN, .ref bX, .ref bA, .ref bB, .int my, .int gd, .int wr, .ref bH, .int hs, .long nu])) :: (bT, .inl (kI, 300, .inl fT)) :: (bU, .inl (kI, 300, .inl fU)) :: (bS, .inl (kI, 2000, .inl fS)) :: (b1, .inl (kI, 2000, .inl f1)) :: (b2, .inl (kI, 2000, .inl f2)) :: (bL, .inl (kZ, 2000, .inl fL)) :: (bK, .inl (kJ, 2000, .inr (.inl fK))) :: (bV, .inl (kJ, 400, .inr (.inl fV))) :: (bN, .inl (kI, 19200, .inl fN)) :: (bX, .inl (kI, 1536, .inl fX)) :: (bA, .inl (kI, 64, .inl fA)) :: (bB, .inl (kI, 64, .inl fB)) :: (bH, .inl (kI, 8, .inl fH)) :: tl) H → va_D A ((am, .inr (4, [.int cd, .ref bT, .ref bU, .int fsz, .int ln, .int pl, .int ne, .int bd, .ref bS, .ref b1, .ref b2, .ref bL, .ref bK, .ref bV, .int wa, .int hi, .ref bN, .ref bX, .ref bA, .ref bB, .int my, .int gd, .int wr, .ref bH, .int hs, .long nu])) :: (bT, .inl (kI, 300, .inl fT)) :: (bU, .inl (kI, 300, .inl fU)) :: (bS, .inl (kI, 2000, .inl fS)) :: (b1, .inl (kI, 2000, .inl f1)) :: (b2, .inl (kI, 2000, .inl f2)) :: (bL, .inl (kZ, 2000, .inl fL)) :: (bK, .inl (kJ, 2000, .inr (.inl fK))) :: (bV, .inl (kJ, 400, .inr (.inl fV))) :: (bN, .inl (kI, 19200, .inl fN)) :: (bX, .inl (kI, 1536, .inl fX)) :: (bA, .inl (kI, 64, .inl fA)) :: (bB, .inl (kI, 64, .inl fB)) :: (bH, .inl (kI, 8, .inl fH)) :: tl) → va_S A s.heap H locs → ∀ ls : Array Slot, lv_has ls 10 [(5, .int (sh_b xb)), (4, .int (sh_b zb)), (0, .ref am), (1, .ref bX), (2, .int (nI a)), (3, .int (nI (a + nl.length)))] → W p l e (headSpec wsM_numberEnd ({ frames := 2, cells := 0, slots := 0, locals := 60 })).room s m ([.ref am, .ref bX, .int (nI a), .int (nI (a + nl.length))] : List Value).toArray below meth c H locs 0 0 (MQ below (zQ dC dI A (fun v w => (∃ x, sh_num (m_w nl) = some x ∧ v = some (.int (nI (a + (m_w nl).length))) ∧ w = ((am, .inr (4, [.int cd, .ref bT, .ref bU, .int fsz, .int ln, .int pl, .int ne, .int bd, .ref bS, .ref b1, .ref b2, .ref bL, .ref bK, .ref bV, .int wa, .int hi, .ref bN, .ref bX, .ref bA, .ref bB, .int my, .int gd, .int wr, .ref bH, .int hs, .long x])) :: (bT, .inl (kI, 300, .inl fT)) :: (bU, .inl (kI, 300, .inl fU)) :: (bS, .inl (kI, 2000, .inl fS)) :: (b1, .inl (kI, 2000, .inl f1)) :: (b2, .inl (kI, 2000, .inl f2)) :: (bL, .inl (kZ, 2000, .inl fL)) :: (bK, .inl (kJ, 2000, .inr (.inl fK))) :: (bV, .inl (kJ, 400, .inr (.inl fV))) :: (bN, .inl (kI, 19200, .inl fN)) :: (bX, .inl (kI, 1536, .inl fX)) :: (bA, .inl (kI, 64, .inl fA)) :: (bB, .inl (kI, 64, .inl fB)) :: (bH, .inl (kI, 8, .inl fH)) :: tl)) ∨ (sh_num (m_w nl) = none ∧ v = some (.int (-1)) ∧ ∃ x, w = ((am, .inr (4, [.int cd, .ref bT, .ref bU, .int fsz, .int ln, .int pl, .int ne, .int bd, .ref bS, .ref b1, .ref b2, .ref bL, .ref bK, .ref bV, .int wa, .int hi, .ref bN, .ref bX, .ref bA, .ref bB, .int my, .int gd, .int wr, .ref bH, .int hs, .long x])) :: (bT, .inl (kI, 300, .inl fT)) :: (bU, .inl (kI, 300, .inl fU)) :: (bS, .inl (kI, 2000, .inl fS)) :: (b1, .inl (kI, 2000, .inl f1)) :: (b2, .inl (kI, 2000, .inl f2)) :: (bL, .inl (kZ, 2000, .inl fL)) :: (bK, .inl (kJ, 2000, .inr (.inl fK))) :: (bV, .inl (kJ, 400, .inr (.inl fV))) :: (bN, .inl (kI, 19200, .inl fN)) :: (bX, .inl (kI, 1536, .inl fX)) :: (bA, .inl (kI, 64, .inl fA)) :: (bB, .inl (kI, 64, .inl fB)) :: (bH, .inl (kI, 8, .inl fH)) :: tl)))) ([.ref am, .ref bX, .int (nI a), .int (nI (a + nl.length))] : List Value).toArray s 0 0 A) (F0 m 76 ls [.int (sh_nb (m_w nl))]) := by
        intro _  H locs hP hD hS ls hl
        refine lv_istore (lv' := [(6, .int (sh_nb (m_w nl))), (5, .int (sh_b xb)), (4, .int (sh_b zb)), (0, .ref am), (1, .ref bX), (2, .int (nI a)), (3, .int (nI (a + nl.length)))]) hx hb dM_numberEnd_76 hl (by decide) rfl (fun ls hl => ?_)
        have j_90 : ∀ (i0 : Nat), (i0 ≤ (m_w nl).length) → (sh_num (m_w nl) = if (m_w nl).length ≤ i0 then none else sh_digs (sh_nb (m_w nl)) ((m_w nl).drop i0) 0) → ∀ (H : Heap) (locs : List Loc), va_P (dC, dI) vwCl ((am, .inr (4, [.int cd, .ref bT, .ref bU, .int fsz, .int ln, .int pl, .int ne, .int bd, .ref bS, .ref b1, .ref b2, .ref bL, .ref bK, .ref bV, .int wa, .int hi, .ref bN, .ref bX, .ref bA, .ref bB, .int my, .int gd, .int wr, .ref bH, .int hs, .long nu])) :: (bT, .inl (kI, 300, .inl fT)) :: (bU, .inl (kI, 300, .inl fU)) :: (bS, .inl (kI, 2000, .inl fS)) :: (b1, .inl (kI, 2000, .inl f1)) :: (b2, .inl (kI, 2000, .inl f2)) :: (bL, .inl (kZ, 2000, .inl fL)) :: (bK, .inl (kJ, 2000, .inr (.inl fK))) :: (bV, .inl (kJ, 400, .inr (.inl fV))) :: (bN, .inl (kI, 19200, .inl fN)) :: (bX, .inl (kI, 1536, .inl fX)) :: (bA, .inl (kI, 64, .inl fA)) :: (bB, .inl (kI, 64, .inl fB)) :: (bH, .inl (kI, 8, .inl fH)) :: tl) H → va_D A ((am, .inr (4, [.int cd, .ref bT, .ref bU, .int fsz, .int ln, .int pl, .int ne, .int bd, .ref bS, .ref b1, .ref b2, .ref bL, .ref bK, .ref bV, .int wa, .int hi, .ref bN, .ref bX, .ref bA, .ref bB, .int my, .int gd, .int wr, .ref bH, .int hs, .long nu])) :: (bT, .inl (kI, 300, .inl fT)) :: (bU, .inl (kI, 300, .inl fU)) :: (bS, .inl (kI, 2000, .inl fS)) :: (b1, .inl (kI, 2000, .inl f1)) :: (b2, .inl (kI, 2000, .inl f2)) :: (bL, .inl (kZ, 2000, .inl fL)) :: (bK, .inl (kJ, 2000, .inr (.inl fK))) :: (bV, .inl (kJ, 400, .inr (.inl fV))) :: (bN, .inl (kI, 19200, .inl fN)) :: (bX, .inl (kI, 1536, .inl fX)) :: (bA, .inl (kI, 64, .inl fA)) :: (bB, .inl (kI, 64, .inl fB)) :: (bH, .inl (kI, 8, .inl fH)) :: tl) → va_S A s.heap H locs → ∀ ls : Array Slot, lv_has ls 10 [(6, .int (sh_nb (m_w nl))), (5, .int (sh_b xb)), (4, .int (sh_b zb)), (0, .ref am), (1, .ref bX), (2, .int (nI a)), (3, .int (nI (a + nl.length)))] → W p l e (headSpec wsM_numberEnd ({ frames := 2, cells := 0, slots := 0, locals := 60 })).room s m ([.ref am, .ref bX, .int (nI a), .int (nI (a + nl.length))] : List Value).toArray below meth c H locs 0 0 (MQ below (zQ dC dI A (fun v w => (∃ x, sh_num (m_w nl) = some x ∧ v = some (.int (nI (a + (m_w nl).length))) ∧ w = ((am, .inr (4, [.int cd, .ref bT, .ref bU, .int fsz, .int ln, .int pl, .int ne, .int bd, .ref bS, .ref b1, .ref b2, .ref bL, .ref bK, .ref bV, .int wa, .int hi, .ref bN, .ref bX, .ref bA, .ref bB, .int my, .int gd, .int wr, .ref bH, .int hs, .long x])) :: (bT, .inl (kI, 300, .inl fT)) :: (bU, .inl (kI, 300, .inl fU)) :: (bS, .inl (kI, 2000, .inl fS)) :: (b1, .inl (kI, 2000, .inl f1)) :: (b2, .inl (kI, 2000, .inl f2)) :: (bL, .inl (kZ, 2000, .inl fL)) :: (bK, .inl (kJ, 2000, .inr (.inl fK))) :: (bV, .inl (kJ, 400, .inr (.inl fV))) :: (bN, .inl (kI, 19200, .inl fN)) :: (bX, .inl (kI, 1536, .inl fX)) :: (bA, .inl (kI, 64, .inl fA)) :: (bB, .inl (kI, 64, .inl fB)) :: (bH, .inl (kI, 8, .inl fH)) :: tl)) ∨ (sh_num (m_w nl) = none ∧ v = some (.int (-1)) ∧ ∃ x, w = ((am, .inr (4, [.int cd, .ref bT, .ref bU, .int fsz, .int ln, .int pl, .int ne, .int bd, .ref bS, .ref b1, .ref b2, .ref bL, .ref bK, .ref bV, .int wa, .int hi, .ref bN, .ref bX, .ref bA, .ref bB, .int my, .int gd, .int wr, .ref bH, .int hs, .long x])) :: (bT, .inl (kI, 300, .inl fT)) :: (bU, .inl (kI, 300, .inl fU)) :: (bS, .inl (kI, 2000, .inl fS)) :: (b1, .inl (kI, 2000, .inl f1)) :: (b2, .inl (kI, 2000, .inl f2)) :: (bL, .inl (kZ, 2000, .inl fL)) :: (bK, .inl (kJ, 2000, .inr (.inl fK))) :: (bV, .inl (kJ, 400, .inr (.inl fV))) :: (bN, .inl (kI, 19200, .inl fN)) :: (bX, .inl (kI, 1536, .inl fX)) :: (bA, .inl (kI, 64, .inl fA)) :: (bB, .inl (kI, 64, .inl fB)) :: (bH, .inl (kI, 8, .inl fH)) :: tl)))) ([.ref am, .ref bX, .int (nI a), .int (nI (a + nl.length))] : List Value).toArray s 0 0 A) (F0 m 90 ls [.int (nI (a + i0))]) := by
          intro i0 hi0 hdd H locs hP hD hS ls hl
          refine lv_istore (lv' := [(7, .int (nI (a + i0))), (6, .int (sh_nb (m_w nl))), (5, .int (sh_b xb)), (4, .int (sh_b zb)), (0, .ref am), (1, .ref bX), (2, .int (nI a)), (3, .int (nI (a + nl.length)))]) hx hb dM_numberEnd_90 hl (by decide) rfl (fun ls hl => ?_)
          refine lv_iload hx hb dM_numberEnd_92 (lv_at hl 0 rfl) ?_
          refine lv_istore (lv' := [(8, .int (nI (a + i0))), (7, .int (nI (a + i0))), (6, .int (sh_nb (m_w nl))), (5, .int (sh_b xb)), (4, .int (sh_b zb)), (0, .ref am), (1, .ref bX), (2, .int (nI a)), (3, .int (nI (a + nl.length)))]) hx hb dM_numberEnd_94 hl (by decide) rfl (fun ls hl => ?_)
          refine lv_aload_n hx hb dM_numberEnd_96 rfl (lv_at hl 5 rfl) ?_
          refine lv_lconst (v := 0) hx hb dM_numberEnd_97 (by decide) ?_
          refine va_put (D := (dC, dI)) (ci := 4) (v := .long 0) (ty := .long) (C := "ShellSumModel") (T := TM) (N := 26) hx hb htz zu_M tyM tyM_ok nmM hown hK hP hD hS 0 rfl rfl 25 (by decide) (htz _ zw_2_185) (fun _ h9 => h9) rfl (by decide +kernel) rfl rfl (Nat.le_of_ble_eq_true rfl) dM_numberEnd_98 (fun H locs hP hD hS => ?_)
          have hP : va_P (dC, dI) vwCl ((am, .inr (4, [.int cd, .ref bT, .ref bU, .int fsz, .int ln, .int pl, .int ne, .int bd, .ref bS, .ref b1, .ref b2, .ref bL, .ref bK, .ref bV, .int wa, .int hi, .ref bN, .ref bX, .ref bA, .ref bB, .int my, .int gd, .int wr, .ref bH, .int hs, .long 0])) :: (bT, .inl (kI, 300, .inl fT)) :: (bU, .inl (kI, 300, .inl fU)) :: (bS, .inl (kI, 2000, .inl fS)) :: (b1, .inl (kI, 2000, .inl f1)) :: (b2, .inl (kI, 2000, .inl f2)) :: (bL, .inl (kZ, 2000, .inl fL)) :: (bK, .inl (kJ, 2000, .inr (.inl fK))) :: (bV, .inl (kJ, 400, .inr (.inl fV))) :: (bN, .inl (kI, 19200, .inl fN)) :: (bX, .inl (kI, 1536, .inl fX)) :: (bA, .inl (kI, 64, .inl fA)) :: (bB, .inl (kI, 64, .inl fB)) :: (bH, .inl (kI, 8, .inl fH)) :: tl) _ := hP
          have hD : va_D A ((am, .inr (4, [.int cd, .ref bT, .ref bU, .int fsz, .int ln, .int pl, .int ne, .int bd, .ref bS, .ref b1, .ref b2, .ref bL, .ref bK, .ref bV, .int wa, .int hi, .ref bN, .ref bX, .ref bA, .ref bB, .int my, .int gd, .int wr, .ref bH, .int hs, .long 0])) :: (bT, .inl (kI, 300, .inl fT)) :: (bU, .inl (kI, 300, .inl fU)) :: (bS, .inl (kI, 2000, .inl fS)) :: (b1, .inl (kI, 2000, .inl f1)) :: (b2, .inl (kI, 2000, .inl f2)) :: (bL, .inl (kZ, 2000, .inl fL)) :: (bK, .inl (kJ, 2000, .inr (.inl fK))) :: (bV, .inl (kJ, 400, .inr (.inl fV))) :: (bN, .inl (kI, 19200, .inl fN)) :: (bX, .inl (kI, 1536, .inl fX)) :: (bA, .inl (kI, 64, .inl fA)) :: (bB, .inl (kI, 64, .inl fB)) :: (bH, .inl (kI, 8, .inl fH)) :: tl) := hD
          have loop_101 : ∀ (f_loop_101 : Nat) (k : Nat) (v : Int64), (m_w nl).length - k < f_loop_101 → (i0 ≤ k) → (k ≤ (m_w nl).length) → (sh_digs (sh_nb (m_w nl)) ((m_w nl).drop i0) 0 = sh_digs (sh_nb (m_w nl)) ((m_w nl).drop k) v) → ∀ (H : Heap) (locs : List Loc), va_P (dC, dI) vwCl ((am, .inr (4, [.int cd, .ref bT, .ref bU, .int fsz, .int ln, .int pl, .int ne, .int bd, .ref bS, .ref b1, .ref b2, .ref bL, .ref bK, .ref bV, .int wa, .int hi, .ref bN, .ref bX, .ref bA, .ref bB, .int my, .int gd, .int wr, .ref bH, .int hs, .long v])) :: (bT, .inl (kI, 300, .inl fT)) :: (bU, .inl (kI, 300, .inl fU)) :: (bS, .inl (kI, 2000, .inl fS)) :: (b1, .inl (kI, 2000, .inl f1)) :: (b2, .inl (kI, 2000, .inl f2)) :: (bL, .inl (kZ, 2000, .inl fL)) :: (bK, .inl (kJ, 2000, .inr (.inl fK))) :: (bV, .inl (kJ, 400, .inr (.inl fV))) :: (bN, .inl (kI, 19200, .inl fN)) :: (bX, .inl (kI, 1536, .inl fX)) :: (bA, .inl (kI, 64, .inl fA)) :: (bB, .inl (kI, 64, .inl fB)) :: (bH, .inl (kI, 8, .inl fH)) :: tl) H → va_D A ((am, .inr (4, [.int cd, .ref bT, .ref bU, .int fsz, .int ln, .int pl, .int ne, .int bd, .ref bS, .ref b1, .ref b2, .ref bL, .ref bK, .ref bV, .int wa, .int hi, .ref bN, .ref bX, .ref bA, .ref bB, .int my, .int gd, .int wr, .ref bH, .int hs, .long v])) :: (bT, .inl (kI, 300, .inl fT)) :: (bU, .inl (kI, 300, .inl fU)) :: (bS, .inl (kI, 2000, .inl fS)) :: (b1, .inl (kI, 2000, .inl f1)) :: (b2, .inl (kI, 2000, .inl f2)) :: (bL, .inl (kZ, 2000, .inl fL)) :: (bK, .inl (kJ, 2000, .inr (.inl fK))) :: (bV, .inl (kJ, 400, .inr (.inl fV))) :: (bN, .inl (kI, 19200, .inl fN)) :: (bX, .inl (kI, 1536, .inl fX)) :: (bA, .inl (kI, 64, .inl fA)) :: (bB, .inl (kI, 64, .inl fB)) :: (bH, .inl (kI, 8, .inl fH)) :: tl) → va_S A s.heap H locs → ∀ ls : Array Slot, lv_has ls 10 [(7, .int (nI (a + k))), (8, .int (nI (a + i0))), (6, .int (sh_nb (m_w nl))), (0, .ref am), (1, .ref bX), (2, .int (nI a)), (3, .int (nI (a + nl.length)))] → W p l e (headSpec wsM_numberEnd ({ frames := 2, cells := 0, slots := 0, locals := 60 })).room s m ([.ref am, .ref bX, .int (nI a), .int (nI (a + nl.length))] : List Value).toArray below meth c H locs 0 0 (MQ below (zQ dC dI A (fun v w => (∃ x, sh_num (m_w nl) = some x ∧ v = some (.int (nI (a + (m_w nl).length))) ∧ w = ((am, .inr (4, [.int cd, .ref bT, .ref bU, .int fsz, .int ln, .int pl, .int ne, .int bd, .ref bS, .ref b1, .ref b2, .ref bL, .ref bK, .ref bV, .int wa, .int hi, .ref bN, .ref bX, .ref bA, .ref bB, .int my, .int gd, .int wr, .ref bH, .int hs, .long x])) :: (bT, .inl (kI, 300, .inl fT)) :: (bU, .inl (kI, 300, .inl fU)) :: (bS, .inl (kI, 2000, .inl fS)) :: (b1, .inl (kI, 2000, .inl f1)) :: (b2, .inl (kI, 2000, .inl f2)) :: (bL, .inl (kZ, 2000, .inl fL)) :: (bK, .inl (kJ, 2000, .inr (.inl fK))) :: (bV, .inl (kJ, 400, .inr (.inl fV))) :: (bN, .inl (kI, 19200, .inl fN)) :: (bX, .inl (kI, 1536, .inl fX)) :: (bA, .inl (kI, 64, .inl fA)) :: (bB, .inl (kI, 64, .inl fB)) :: (bH, .inl (kI, 8, .inl fH)) :: tl)) ∨ (sh_num (m_w nl) = none ∧ v = some (.int (-1)) ∧ ∃ x, w = ((am, .inr (4, [.int cd, .ref bT, .ref bU, .int fsz, .int ln, .int pl, .int ne, .int bd, .ref bS, .ref b1, .ref b2, .ref bL, .ref bK, .ref bV, .int wa, .int hi, .ref bN, .ref bX, .ref bA, .ref bB, .int my, .int gd, .int wr, .ref bH, .int hs, .long x])) :: (bT, .inl (kI, 300, .inl fT)) :: (bU, .inl (kI, 300, .inl fU)) :: (bS, .inl (kI, 2000, .inl fS)) :: (b1, .inl (kI, 2000, .inl f1)) :: (b2, .inl (kI, 2000, .inl f2)) :: (bL, .inl (kZ, 2000, .inl fL)) :: (bK, .inl (kJ, 2000, .inr (.inl fK))) :: (bV, .inl (kJ, 400, .inr (.inl fV))) :: (bN, .inl (kI, 19200, .inl fN)) :: (bX, .inl (kI, 1536, .inl fX)) :: (bA, .inl (kI, 64, .inl fA)) :: (bB, .inl (kI, 64, .inl fB)) :: (bH, .inl (kI, 8, .inl fH)) :: tl)))) ([.ref am, .ref bX, .int (nI a), .int (nI (a + nl.length))] : List Value).toArray s 0 0 A) (F0 m 101 ls []) := by
            intro f_loop_101
            induction f_loop_101 with
            | zero => intro k v hf; exact absurd hf (Nat.not_lt_zero _)
            | succ f_loop_101 ih_loop_101 =>
              intro k v hf_loop_101 hk0 hk he H locs hP hD hS ls hl
              refine lv_iload hx hb dM_numberEnd_101 (lv_at hl 0 rfl) ?_
              refine lv_iload_n hx hb dM_numberEnd_103 rfl (lv_at hl 6 rfl) ?_
              refine lv_icmp_ge (tgt := 167) hx hb dM_numberEnd_104 (by decide) (fun c_1 => ?_) (fun c_1 => ?_)
              · skip
                have e_104 : a + nl.length ≤ a + k := xi_le c_1 (by omega) (by omega)
                have e_s : k = (m_w nl).length := tw_stop hk (Or.inl (by omega))
                refine lv_iload hx hb dM_numberEnd_167 (lv_at hl 0 rfl) ?_
                refine lv_iload hx hb dM_numberEnd_169 (lv_at hl 1 rfl) ?_
                refine lv_icmp_ne (tgt := 178) hx hb dM_numberEnd_171 (by decide) (fun c_2 => ?_) (fun c_2 => ?_)
                · skip
                  have e_171 : a + k ≠ a + i0 := xi_ne c_2 (by omega) (by omega)
                  refine lv_iload hx hb dM_numberEnd_178 (lv_at hl 0 rfl) ?_
                  refine W.widen (k := 0) (n := 0) (Nat.le_refl _) (Nat.le_refl _) ?_
                  exact W.iret (v := nI (a + k)) hx hb hr (fun t ht _ => ⟨_, _, rfl, Or.inl ⟨v, by rw [hdd, if_neg (by omega), he, sh_digs_end (by omega)], by rw [e_s], rfl⟩, by rw [ht]; exact hP, hD, hS.F ht⟩) hS.2.2 dM_numberEnd_180
                have e_171 : a + k = a + i0 := xi_eq c_2 (by omega) (by omega)
                refine lv_iconst (v := (-1)) hx hb dM_numberEnd_174 (by decide) ?_
                refine lv_goto (tgt := 180) hx hb dM_numberEnd_175 (by decide) ?_
                refine W.widen (k := 0) (n := 0) (Nat.le_refl _) (Nat.le_refl _) ?_
                exact W.iret (v := (-1)) hx hb hr (fun t ht _ => ⟨_, _, rfl, Or.inr ⟨by rw [hdd, if_pos (by omega)], rfl, v, rfl⟩, by rw [ht]; exact hP, hD, hS.F ht⟩) hS.2.2 dM_numberEnd_180
              have e_104 : a + k < a + nl.length := xi_nle c_1 (by omega) (by omega)
              refine lv_aload_n hx hb dM_numberEnd_107 rfl (lv_at hl 4 rfl) ?_
              refine lv_iload hx hb dM_numberEnd_108 (lv_at hl 0 rfl) ?_
              refine va_iald hx hb hK hP 10 0 rfl rfl (vp_in_nI (by omega) (by omega)) dM_numberEnd_110 ?_
              refine xw_topi (y := fX (a + k)) (by rw [nI_clamp (by omega)]) ?_
              refine xw_topi (y := sh_at nl k) (hnl k (by omega)) ?_
              refine rq_call (va_runS (As := [.int (sh_at nl k)]) (rest := []) ⟨hx, hb, hml, hown, htz⟩ (k_M_isLetter l (sh_at nl k)) (cwS 1 htz (zg_S zw_3_22 zw_3_23 zw_1_4 zw_3_24) rfl rfl rfl (by decide +kernel) ⟨Nat.le_of_ble_eq_true rfl, Nat.le_of_ble_eq_true rfl⟩) rq_pre rfl rfl hl.1 rfl (lv_room (Nat.le_of_ble_eq_true rfl)) dM_numberEnd_111 ⟨Nat.zero_le _, Nat.zero_le _⟩) ?_
              refine W.eq (g2 := F0 m 114 ls [.int (sh_b (sh_start (sh_at nl k)))]) rfl ?_
              refine lv_if_ne (tgt := 127) hx hb dM_numberEnd_114 (by decide) (fun c_3 => ?_) (fun c_3 => ?_)
              · skip
                have e_w : sh_word (sh_at nl k) = true := by unfold sh_word; grind [sh_b]
                have e_k : k < (m_w nl).length := tw_go hk (by omega) e_w
                have hdm := digM_word hba e_w
                refine lv_aload_n hx hb dM_numberEnd_127 rfl (lv_at hl 4 rfl) ?_
                refine lv_iload hx hb dM_numberEnd_128 (lv_at hl 0 rfl) ?_
                refine va_iald hx hb hK hP 10 0 rfl rfl (vp_in_nI (by omega) (by omega)) dM_numberEnd_130 ?_
                refine xw_topi (y := fX (a + k)) (by rw [nI_clamp (by omega)]) ?_
                refine xw_topi (y := sh_at nl k) (hnl k (by omega)) ?_
                refine rq_call (va_runS (As := [.int (sh_at nl k)]) (rest := []) ⟨hx, hb, hml, hown, htz⟩ (k_M_digitOf l (sh_at nl k)) (cwS 1 htz (zg_S zw_3_120 zw_3_121 zw_1_4 zw_3_122) rfl rfl rfl (by decide +kernel) ⟨Nat.le_of_ble_eq_true rfl, Nat.le_of_ble_eq_true rfl⟩) rq_pre rfl rfl hl.1 rfl (lv_room (Nat.le_of_ble_eq_true rfl)) dM_numberEnd_131 ⟨Nat.zero_le _, Nat.zero_le _⟩) ?_
                refine W.eq (g2 := F0 m 134 ls [.int (sh_digM (sh_at nl k))]) rfl ?_
                refine lv_istore (lv' := [(9, .int (sh_digM (sh_at nl k))), (7, .int (nI (a + k))), (8, .int (nI (a + i0))), (6, .int (sh_nb (m_w nl))), (0, .ref am), (1, .ref bX), (2, .int (nI a)), (3, .int (nI (a + nl.length)))]) hx hb dM_numberEnd_134 hl (by decide) rfl (fun ls hl => ?_)
                refine lv_iload hx hb dM_numberEnd_136 (lv_at hl 0 rfl) ?_
                refine lv_iload hx hb dM_numberEnd_138 (lv_at hl 3 rfl) ?_
                refine lv_icmp_lt (tgt := 145) hx hb dM_numberEnd_140 (by decide) (fun c_4 => ?_) (fun c_4 => ?_)
                · skip
                  refine lv_aload_n hx hb dM_numberEnd_145 rfl (lv_at hl 4 rfl) ?_
                  refine lv_aload_n hx hb dM_numberEnd_146 rfl (lv_at hl 4 rfl) ?_
                  refine va_get (D := (dC, dI)) (ci := 4) (v := .long v) (C := "ShellSumModel") (T := TM) (N := 26) hx hb htz zu_M hown hK hP 0 rfl rfl 25 (by decide) (htz _ zw_2_185) (fun _ h9 => h9) rfl dM_numberEnd_147 ?_
                  refine lv_iload hx hb dM_numberEnd_150 (lv_at hl 3 rfl) ?_
                  refine lv_i2l hx hb dM_numberEnd_152 rfl ?_
                  refine lv_lmul hx hb dM_numberEnd_153 ?_
                  refine lv_iload hx hb dM_numberEnd_154 (lv_at hl 0 rfl) ?_
                  refine lv_i2l hx hb dM_numberEnd_156 rfl ?_
                  refine lv_ladd hx hb dM_numberEnd_157 ?_
                  refine va_put (D := (dC, dI)) (ci := 4) (v := .long ((v * ((sh_nb (m_w nl)).toInt64)) + ((sh_digM (sh_at nl k)).toInt64))) (ty := .long) (C := "ShellSumModel") (T := TM) (N := 26) hx hb htz zu_M tyM tyM_ok nmM hown hK hP hD hS 0 rfl rfl 25 (by decide) (htz _ zw_2_185) (fun _ h9 => h9) rfl (by decide +kernel) rfl rfl (Nat.le_of_ble_eq_true rfl) dM_numberEnd_158 (fun H locs hP hD hS => ?_)
                  have hP : va_P (dC, dI) vwCl ((am, .inr (4, [.int cd, .ref bT, .ref bU, .int fsz, .int ln, .int pl, .int ne, .int bd, .ref bS, .ref b1, .ref b2, .ref bL, .ref bK, .ref bV, .int wa, .int hi, .ref bN, .ref bX, .ref bA, .ref bB, .int my, .int gd, .int wr, .ref bH, .int hs, .long ((v * ((sh_nb (m_w nl)).toInt64)) + ((sh_digM (sh_at nl k)).toInt64))])) :: (bT, .inl (kI, 300, .inl fT)) :: (bU, .inl (kI, 300, .inl fU)) :: (bS, .inl (kI, 2000, .inl fS)) :: (b1, .inl (kI, 2000, .inl f1)) :: (b2, .inl (kI, 2000, .inl f2)) :: (bL, .inl (kZ, 2000, .inl fL)) :: (bK, .inl (kJ, 2000, .inr (.inl fK))) :: (bV, .inl (kJ, 400, .inr (.inl fV))) :: (bN, .inl (kI, 19200, .inl fN)) :: (bX, .inl (kI, 1536, .inl fX)) :: (bA, .inl (kI, 64, .inl fA)) :: (bB, .inl (kI, 64, .inl fB)) :: (bH, .inl (kI, 8, .inl fH)) :: tl) _ := hP
                  have hD : va_D A ((am, .inr (4, [.int cd, .ref bT, .ref bU, .int fsz, .int ln, .int pl, .int ne, .int bd, .ref bS, .ref b1, .ref b2, .ref bL, .ref bK, .ref bV, .int wa, .int hi, .ref bN, .ref bX, .ref bA, .ref bB, .int my, .int gd, .int wr, .ref bH, .int hs, .long ((v * ((sh_nb (m_w nl)).toInt64)) + ((sh_digM (sh_at nl k)).toInt64))])) :: (bT, .inl (kI, 300, .inl fT)) :: (bU, .inl (kI, 300, .inl fU)) :: (bS, .inl (kI, 2000, .inl fS)) :: (b1, .inl (kI, 2000, .inl f1)) :: (b2, .inl (kI, 2000, .inl f2)) :: (bL, .inl (kZ, 2000, .inl fL)) :: (bK, .inl (kJ, 2000, .inr (.inl fK))) :: (bV, .inl (kJ, 400, .inr (.inl fV))) :: (bN, .inl (kI, 19200, .inl fN)) :: (bX, .inl (kI, 1536, .inl fX)) :: (bA, .inl (kI, 64, .inl fA)) :: (bB, .inl (kI, 64, .inl fB)) :: (bH, .inl (kI, 8, .inl fH)) :: tl) := hD
                  refine lv_iinc (v := nI (a + (k + 1))) (lv' := [(7, .int (nI (a + (k + 1)))), (9, .int (sh_digM (sh_at nl k))), (8, .int (nI (a + i0))), (6, .int (sh_nb (m_w nl))), (0, .ref am), (1, .ref bX), (2, .int (nI a)), (3, .int (nI (a + nl.length)))]) hx hb dM_numberEnd_161 hl (k := 1) rfl (nI_1 (a + k)) (by decide) rfl (fun ls hl => ?_)
                  refine lv_goto (tgt := 101) hx hb dM_numberEnd_164 (by decide) ?_
                  exact ih_loop_101 (k + 1) ((v * ((sh_nb (m_w nl)).toInt64)) + ((sh_digM (sh_at nl k)).toInt64)) (by omega) (by omega) (by omega) (by rw [he, sh_digs_step e_k, (tw_at e_k).1, if_neg (mt hdm.1.mpr (Int32.not_le.mpr c_4)), hdm.2 (Int32.not_le.mpr c_4)]) _ _ hP hD hS ls (lv_sub hl [0, 2, 3, 4, 5, 6, 7] rfl)
                refine lv_iconst (v := (-1)) hx hb dM_numberEnd_143 (by decide) ?_
                refine W.widen (k := 0) (n := 0) (Nat.le_refl _) (Nat.le_refl _) ?_
                exact W.iret (v := (-1)) hx hb hr (fun t ht _ => ⟨_, _, rfl, Or.inr ⟨by rw [hdd, if_neg (by omega), he, sh_digs_step e_k, (tw_at e_k).1, if_pos (hdm.1.mp (Int32.not_lt.mp c_4))], rfl, v, rfl⟩, by rw [ht]; exact hP, hD, hS.F ht⟩) hS.2.2 dM_numberEnd_144
              refine lv_aload_n hx hb dM_numberEnd_117 rfl (lv_at hl 4 rfl) ?_
              refine lv_iload hx hb dM_numberEnd_118 (lv_at hl 0 rfl) ?_
              refine va_iald hx hb hK hP 10 0 rfl rfl (vp_in_nI (by omega) (by omega)) dM_numberEnd_120 ?_
              refine xw_topi (y := fX (a + k)) (by rw [nI_clamp (by omega)]) ?_
              refine xw_topi (y := sh_at nl k) (hnl k (by omega)) ?_
              refine rq_call (va_runS (As := [.int (sh_at nl k)]) (rest := []) ⟨hx, hb, hml, hown, htz⟩ (k_M_isDigit l (sh_at nl k)) (cwS 1 htz (zg_S zw_3_25 zw_3_26 zw_1_4 zw_3_27) rfl rfl rfl (by decide +kernel) ⟨Nat.le_of_ble_eq_true rfl, Nat.le_of_ble_eq_true rfl⟩) rq_pre rfl rfl hl.1 rfl (lv_room (Nat.le_of_ble_eq_true rfl)) dM_numberEnd_121 ⟨Nat.zero_le _, Nat.zero_le _⟩) ?_
              refine W.eq (g2 := F0 m 124 ls [.int (sh_b (sh_digit (sh_at nl k)))]) rfl ?_
              refine lv_if_eq (tgt := 167) hx hb dM_numberEnd_124 (by decide) (fun c_5 => ?_) (fun c_5 => ?_)
              · skip
                have e_s : k = (m_w nl).length := tw_stop hk (Or.inr (by unfold sh_word; grind [sh_b]))
                refine lv_iload hx hb dM_numberEnd_167 (lv_at hl 0 rfl) ?_
                refine lv_iload hx hb dM_numberEnd_169 (lv_at hl 1 rfl) ?_
                refine lv_icmp_ne (tgt := 178) hx hb dM_numberEnd_171 (by decide) (fun c_6 => ?_) (fun c_6 => ?_)
                · skip
                  have e_171 : a + k ≠ a + i0 := xi_ne c_6 (by omega) (by omega)
                  refine lv_iload hx hb dM_numberEnd_178 (lv_at hl 0 rfl) ?_
                  refine W.widen (k := 0) (n := 0) (Nat.le_refl _) (Nat.le_refl _) ?_
                  exact W.iret (v := nI (a + k)) hx hb hr (fun t ht _ => ⟨_, _, rfl, Or.inl ⟨v, by rw [hdd, if_neg (by omega), he, sh_digs_end (by omega)], by rw [e_s], rfl⟩, by rw [ht]; exact hP, hD, hS.F ht⟩) hS.2.2 dM_numberEnd_180
                have e_171 : a + k = a + i0 := xi_eq c_6 (by omega) (by omega)
                refine lv_iconst (v := (-1)) hx hb dM_numberEnd_174 (by decide) ?_
                refine lv_goto (tgt := 180) hx hb dM_numberEnd_175 (by decide) ?_
                refine W.widen (k := 0) (n := 0) (Nat.le_refl _) (Nat.le_refl _) ?_
                exact W.iret (v := (-1)) hx hb hr (fun t ht _ => ⟨_, _, rfl, Or.inr ⟨by rw [hdd, if_pos (by omega)], rfl, v, rfl⟩, by rw [ht]; exact hP, hD, hS.F ht⟩) hS.2.2 dM_numberEnd_180
              have e_w : sh_word (sh_at nl k) = true := by unfold sh_word; grind [sh_b]
              have e_k : k < (m_w nl).length := tw_go hk (by omega) e_w
              have hdm := digM_word hba e_w
              refine lv_aload_n hx hb dM_numberEnd_127 rfl (lv_at hl 4 rfl) ?_
              refine lv_iload hx hb dM_numberEnd_128 (lv_at hl 0 rfl) ?_
              refine va_iald hx hb hK hP 10 0 rfl rfl (vp_in_nI (by omega) (by omega)) dM_numberEnd_130 ?_
              refine xw_topi (y := fX (a + k)) (by rw [nI_clamp (by omega)]) ?_
              refine xw_topi (y := sh_at nl k) (hnl k (by omega)) ?_
              refine rq_call (va_runS (As := [.int (sh_at nl k)]) (rest := []) ⟨hx, hb, hml, hown, htz⟩ (k_M_digitOf l (sh_at nl k)) (cwS 1 htz (zg_S zw_3_120 zw_3_121 zw_1_4 zw_3_122) rfl rfl rfl (by decide +kernel) ⟨Nat.le_of_ble_eq_true rfl, Nat.le_of_ble_eq_true rfl⟩) rq_pre rfl rfl hl.1 rfl (lv_room (Nat.le_of_ble_eq_true rfl)) dM_numberEnd_131 ⟨Nat.zero_le _, Nat.zero_le _⟩) ?_
              refine W.eq (g2 := F0 m 134 ls [.int (sh_digM (sh_at nl k))]) rfl ?_
              refine lv_istore (lv' := [(9, .int (sh_digM (sh_at nl k))), (7, .int (nI (a + k))), (8, .int (nI (a + i0))), (6, .int (sh_nb (m_w nl))), (0, .ref am), (1, .ref bX), (2, .int (nI a)), (3, .int (nI (a + nl.length)))]) hx hb dM_numberEnd_134 hl (by decide) rfl (fun ls hl => ?_)
              refine lv_iload hx hb dM_numberEnd_136 (lv_at hl 0 rfl) ?_
              refine lv_iload hx hb dM_numberEnd_138 (lv_at hl 3 rfl) ?_
              refine lv_icmp_lt (tgt := 145) hx hb dM_numberEnd_140 (by decide) (fun c_7 => ?_) (fun c_7 => ?_)
              · skip
                refine lv_aload_n hx hb dM_numberEnd_145 rfl (lv_at hl 4 rfl) ?_
                refine lv_aload_n hx hb dM_numberEnd_146 rfl (lv_at hl 4 rfl) ?_
                refine va_get (D := (dC, dI)) (ci := 4) (v := .long v) (C := "ShellSumModel") (T := TM) (N := 26) hx hb htz zu_M hown hK hP 0 rfl rfl 25 (by decide) (htz _ zw_2_185) (fun _ h9 => h9) rfl dM_numberEnd_147 ?_
                refine lv_iload hx hb dM_numberEnd_150 (lv_at hl 3 rfl) ?_
                refine lv_i2l hx hb dM_numberEnd_152 rfl ?_
                refine lv_lmul hx hb dM_numberEnd_153 ?_
                refine lv_iload hx hb dM_numberEnd_154 (lv_at hl 0 rfl) ?_
                refine lv_i2l hx hb dM_numberEnd_156 rfl ?_
                refine lv_ladd hx hb dM_numberEnd_157 ?_
                refine va_put (D := (dC, dI)) (ci := 4) (v := .long ((v * ((sh_nb (m_w nl)).toInt64)) + ((sh_digM (sh_at nl k)).toInt64))) (ty := .long) (C := "ShellSumModel") (T := TM) (N := 26) hx hb htz zu_M tyM tyM_ok nmM hown hK hP hD hS 0 rfl rfl 25 (by decide) (htz _ zw_2_185) (fun _ h9 => h9) rfl (by decide +kernel) rfl rfl (Nat.le_of_ble_eq_true rfl) dM_numberEnd_158 (fun H locs hP hD hS => ?_)
                have hP : va_P (dC, dI) vwCl ((am, .inr (4, [.int cd, .ref bT, .ref bU, .int fsz, .int ln, .int pl, .int ne, .int bd, .ref bS, .ref b1, .ref b2, .ref bL, .ref bK, .ref bV, .int wa, .int hi, .ref bN, .ref bX, .ref bA, .ref bB, .int my, .int gd, .int wr, .ref bH, .int hs, .long ((v * ((sh_nb (m_w nl)).toInt64)) + ((sh_digM (sh_at nl k)).toInt64))])) :: (bT, .inl (kI, 300, .inl fT)) :: (bU, .inl (kI, 300, .inl fU)) :: (bS, .inl (kI, 2000, .inl fS)) :: (b1, .inl (kI, 2000, .inl f1)) :: (b2, .inl (kI, 2000, .inl f2)) :: (bL, .inl (kZ, 2000, .inl fL)) :: (bK, .inl (kJ, 2000, .inr (.inl fK))) :: (bV, .inl (kJ, 400, .inr (.inl fV))) :: (bN, .inl (kI, 19200, .inl fN)) :: (bX, .inl (kI, 1536, .inl fX)) :: (bA, .inl (kI, 64, .inl fA)) :: (bB, .inl (kI, 64, .inl fB)) :: (bH, .inl (kI, 8, .inl fH)) :: tl) _ := hP
                have hD : va_D A ((am, .inr (4, [.int cd, .ref bT, .ref bU, .int fsz, .int ln, .int pl, .int ne, .int bd, .ref bS, .ref b1, .ref b2, .ref bL, .ref bK, .ref bV, .int wa, .int hi, .ref bN, .ref bX, .ref bA, .ref bB, .int my, .int gd, .int wr, .ref bH, .int hs, .long ((v * ((sh_nb (m_w nl)).toInt64)) + ((sh_digM (sh_at nl k)).toInt64))])) :: (bT, .inl (kI, 300, .inl fT)) :: (bU, .inl (kI, 300, .inl fU)) :: (bS, .inl (kI, 2000, .inl fS)) :: (b1, .inl (kI, 2000, .inl f1)) :: (b2, .inl (kI, 2000, .inl f2)) :: (bL, .inl (kZ, 2000, .inl fL)) :: (bK, .inl (kJ, 2000, .inr (.inl fK))) :: (bV, .inl (kJ, 400, .inr (.inl fV))) :: (bN, .inl (kI, 19200, .inl fN)) :: (bX, .inl (kI, 1536, .inl fX)) :: (bA, .inl (kI, 64, .inl fA)) :: (bB, .inl (kI, 64, .inl fB)) :: (bH, .inl (kI, 8, .inl fH)) :: tl) := hD
                refine lv_iinc (v := nI (a + (k + 1))) (lv' := [(7, .int (nI (a + (k + 1)))), (9, .int (sh_digM (sh_at nl k))), (8, .int (nI (a + i0))), (6, .int (sh_nb (m_w nl))), (0, .ref am), (1, .ref bX), (2, .int (nI a)), (3, .int (nI (a + nl.length)))]) hx hb dM_numberEnd_161 hl (k := 1) rfl (nI_1 (a + k)) (by decide) rfl (fun ls hl => ?_)
                refine lv_goto (tgt := 101) hx hb dM_numberEnd_164 (by decide) ?_
                exact ih_loop_101 (k + 1) ((v * ((sh_nb (m_w nl)).toInt64)) + ((sh_digM (sh_at nl k)).toInt64)) (by omega) (by omega) (by omega) (by rw [he, sh_digs_step e_k, (tw_at e_k).1, if_neg (mt hdm.1.mpr (Int32.not_le.mpr c_7)), hdm.2 (Int32.not_le.mpr c_7)]) _ _ hP hD hS ls (lv_sub hl [0, 2, 3, 4, 5, 6, 7] rfl)
              refine lv_iconst (v := (-1)) hx hb dM_numberEnd_143 (by decide) ?_
              refine W.widen (k := 0) (n := 0) (Nat.le_refl _) (Nat.le_refl _) ?_
              exact W.iret (v := (-1)) hx hb hr (fun t ht _ => ⟨_, _, rfl, Or.inr ⟨by rw [hdd, if_neg (by omega), he, sh_digs_step e_k, (tw_at e_k).1, if_pos (hdm.1.mp (Int32.not_lt.mp c_7))], rfl, v, rfl⟩, by rw [ht]; exact hP, hD, hS.F ht⟩) hS.2.2 dM_numberEnd_144
          exact loop_101 _ i0 0 (Nat.lt_succ_self _) (Nat.le_refl _) (hi0) (rfl) _ _ hP hD hS ls (lv_sub hl [1, 0, 2, 5, 6, 7, 8] rfl)
        refine lv_iload hx hb dM_numberEnd_78 (lv_at hl 1 rfl) ?_
        refine lv_if_eq (tgt := 89) hx hb dM_numberEnd_80 (by decide) (fun c_8 => ?_) (fun c_8 => ?_)
        · skip
          have e_80 : xb = false := sh_bf c_8
          have e_n80 : ¬ sh_nb (m_w nl) = 16 := fun h => by rw [e_80] at hxb; exact absurd (hxb.mpr h) (by decide)
          refine lv_iload_n hx hb dM_numberEnd_89 rfl (lv_at hl 5 rfl) ?_
          refine xw_topi (y := nI (a + 0)) (rfl) ?_
          exact j_90 0 (Nat.zero_le _) (by rw [hnw, if_neg e_n80, if_neg (by omega)]) _ _ hP hD hS ls (lv_sub hl [0, 1, 2, 3, 4, 5, 6] rfl)
        have e_80 : xb = true := sh_bt c_8
        refine lv_iload_n hx hb dM_numberEnd_83 rfl (lv_at hl 5 rfl) ?_
        refine lv_iconst (v := 2) hx hb dM_numberEnd_84 (by decide) ?_
        refine lv_iadd hx hb dM_numberEnd_85 ?_
        refine xw_topi (y := nI (a + 2)) (nI_add a 2) ?_
        refine lv_goto (tgt := 90) hx hb dM_numberEnd_86 (by decide) ?_
        exact j_90 2 (tw_go (k := 1) hp0 (hhex.mp (hxb.mp e_80)).2.1 (by rcases (hhex.mp (hxb.mp e_80)).2.2 with e9 | e9 <;> (rw [e9]; decide))) (by rw [hnw, if_pos (hxb.mp e_80), hxb.mp e_80]) _ _ hP hD hS ls (lv_sub hl [0, 1, 2, 3, 4, 5, 6] rfl)
      refine lv_iload hx hb dM_numberEnd_54 (lv_at hl 0 rfl) ?_
      refine lv_if_eq (tgt := 64) hx hb dM_numberEnd_56 (by decide) (fun c_9 => ?_) (fun c_9 => ?_)
      · skip
        have e_56 : xb = false := sh_bf c_9
        have e_n16 : ¬ sh_nb (m_w nl) = 16 := fun h => by rw [e_56] at hxb; exact absurd (hxb.mpr h) (by decide)
        refine lv_iload hx hb dM_numberEnd_64 (lv_at hl 1 rfl) ?_
        refine lv_if_eq (tgt := 74) hx hb dM_numberEnd_66 (by decide) (fun c_10 => ?_) (fun c_10 => ?_)
        · skip
          have e_66 : zb = false := sh_bf c_10
          refine lv_bipush (v := 10) hx hb dM_numberEnd_74 (by decide) ?_
          refine xw_topi (y := sh_nb (m_w nl)) (by rw [m_nb_oct hp0 e_n16, if_neg (fun h => by rw [e_66] at hzb; exact absurd (hzb.mpr h) (by decide))]) ?_
          exact j_76 ()  _ _ hP hD hS ls (lv_sub hl [0, 1, 2, 3, 4, 5] rfl)
        have e_66 : zb = true := sh_bt c_10
        refine lv_bipush (v := 8) hx hb dM_numberEnd_69 (by decide) ?_
        refine lv_goto (tgt := 76) hx hb dM_numberEnd_71 (by decide) ?_
        refine xw_topi (y := sh_nb (m_w nl)) (by rw [m_nb_oct hp0 e_n16, if_pos (hzb.mp e_66)]) ?_
        exact j_76 ()  _ _ hP hD hS ls (lv_sub hl [0, 1, 2, 3, 4, 5] rfl)
      have e_56 : xb = true := sh_bt c_9
      refine lv_bipush (v := 16) hx hb dM_numberEnd_59 (by decide) ?_
      refine lv_goto (tgt := 76) hx hb dM_numberEnd_61 (by decide) ?_
      refine xw_topi (y := sh_nb (m_w nl)) ((hxb.mp e_56).symm) ?_
      exact j_76 ()  _ _ hP hD hS ls (lv_sub hl [0, 1, 2, 3, 4, 5] rfl)
    refine lv_iload hx hb dM_numberEnd_15 (lv_at hl 0 rfl) ?_
    refine lv_if_eq (tgt := 51) hx hb dM_numberEnd_17 (by decide) (fun c_11 => ?_) (fun c_11 => ?_)
    · skip
      have e_17 : zb = false := sh_bf c_11
      refine lv_iconst (v := 0) hx hb dM_numberEnd_51 (by decide) ?_
      exact j_52 false (by rw [hhex]; exact iff_of_false (by decide) (fun h => by rw [e_17] at hzb; exact absurd (hzb.mpr h.1) (by decide))) _ _ hP hD hS ls (lv_sub hl [0, 1, 2, 3, 4] rfl)
    have e_17 : zb = true := sh_bt c_11
    refine lv_iload_n hx hb dM_numberEnd_20 rfl (lv_at hl 3 rfl) ?_
    refine lv_iconst (v := 1) hx hb dM_numberEnd_21 (by decide) ?_
    refine lv_iadd hx hb dM_numberEnd_22 ?_
    refine xw_topi (y := nI (a + 1)) (nI_add a 1) ?_
    refine lv_iload_n hx hb dM_numberEnd_23 rfl (lv_at hl 4 rfl) ?_
    refine lv_icmp_ge (tgt := 51) hx hb dM_numberEnd_24 (by decide) (fun c_12 => ?_) (fun c_12 => ?_)
    · skip
      have e_24 : a + nl.length ≤ a + 1 := xi_le c_12 (by omega) (by omega)
      refine lv_iconst (v := 0) hx hb dM_numberEnd_51 (by decide) ?_
      exact j_52 false (by rw [hhex]; exact iff_of_false (by decide) (fun h => by omega)) _ _ hP hD hS ls (lv_sub hl [0, 1, 2, 3, 4] rfl)
    have e_24 : a + 1 < a + nl.length := xi_nle c_12 (by omega) (by omega)
    refine lv_aload_n hx hb dM_numberEnd_27 rfl (lv_at hl 2 rfl) ?_
    refine lv_iload_n hx hb dM_numberEnd_28 rfl (lv_at hl 3 rfl) ?_
    refine lv_iconst (v := 1) hx hb dM_numberEnd_29 (by decide) ?_
    refine lv_iadd hx hb dM_numberEnd_30 ?_
    refine xw_topi (y := nI (a + 1)) (nI_add a 1) ?_
    refine va_iald hx hb hK hP 10 0 rfl rfl (vp_in_nI (by omega) (by omega)) dM_numberEnd_31 ?_
    refine xw_topi (y := fX (a + 1)) (by rw [nI_clamp (by omega)]) ?_
    refine xw_topi (y := sh_at nl 1) (hnl 1 (by omega)) ?_
    refine lv_bipush (v := 120) hx hb dM_numberEnd_32 (by decide) ?_
    refine lv_icmp_eq (tgt := 47) hx hb dM_numberEnd_34 (by decide) (fun c_13 => ?_) (fun c_13 => ?_)
    · skip
      refine lv_iconst (v := 1) hx hb dM_numberEnd_47 (by decide) ?_
      refine lv_goto (tgt := 52) hx hb dM_numberEnd_48 (by decide) ?_
      exact j_52 true (by rw [hhex]; exact iff_of_true rfl ⟨hzb.mp e_17, by omega, Or.inl c_13⟩) _ _ hP hD hS ls (lv_sub hl [0, 1, 2, 3, 4] rfl)
    refine lv_aload_n hx hb dM_numberEnd_37 rfl (lv_at hl 2 rfl) ?_
    refine lv_iload_n hx hb dM_numberEnd_38 rfl (lv_at hl 3 rfl) ?_
    refine lv_iconst (v := 1) hx hb dM_numberEnd_39 (by decide) ?_
    refine lv_iadd hx hb dM_numberEnd_40 ?_
    refine xw_topi (y := nI (a + 1)) (nI_add a 1) ?_
    refine va_iald hx hb hK hP 10 0 rfl rfl (vp_in_nI (by omega) (by omega)) dM_numberEnd_41 ?_
    refine xw_topi (y := fX (a + 1)) (by rw [nI_clamp (by omega)]) ?_
    refine xw_topi (y := sh_at nl 1) (hnl 1 (by omega)) ?_
    refine lv_bipush (v := 88) hx hb dM_numberEnd_42 (by decide) ?_
    refine lv_icmp_ne (tgt := 51) hx hb dM_numberEnd_44 (by decide) (fun c_14 => ?_) (fun c_14 => ?_)
    · skip
      refine lv_iconst (v := 0) hx hb dM_numberEnd_51 (by decide) ?_
      exact j_52 false (by rw [hhex]; exact iff_of_false (by decide) (fun h => h.2.2.elim c_13 c_14)) _ _ hP hD hS ls (lv_sub hl [0, 1, 2, 3, 4] rfl)
    refine lv_iconst (v := 1) hx hb dM_numberEnd_47 (by decide) ?_
    refine lv_goto (tgt := 52) hx hb dM_numberEnd_48 (by decide) ?_
    exact j_52 true (by rw [hhex]; exact iff_of_true rfl ⟨hzb.mp e_17, by omega, Or.inr c_14⟩) _ _ hP hD hS ls (lv_sub hl [0, 1, 2, 3, 4] rfl)
  refine lv_bipush (v := 48) hx hb dM_numberEnd_3 (by decide) ?_
  refine lv_icmp_ne (tgt := 12) hx hb dM_numberEnd_5 (by decide) (fun c_15 => ?_) (fun c_15 => ?_)
  · skip
    refine lv_iconst (v := 0) hx hb dM_numberEnd_12 (by decide) ?_
    exact j_13 false (iff_of_false (by decide) c_15) _ _ hP hD hS ls (lv_sub hl [0, 1, 2, 3] rfl)
  refine lv_iconst (v := 1) hx hb dM_numberEnd_8 (by decide) ?_
  refine lv_goto (tgt := 13) hx hb dM_numberEnd_9 (by decide) ?_
  exact j_13 true (iff_of_true rfl c_15) _ _ hP hD hS ls (lv_sub hl [0, 1, 2, 3] rfl)
