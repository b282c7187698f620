set_option maxHeartbeats 4000000 in
set_option maxRecDepth 100000 in
/-- gives() -/
theorem k_M_gives (l : Launch) (dC : Nat → ClassId) (dI : Nat → Nat → Nat) (kI kJ kZ : ClassId) (am bT bU bS b1 b2 bL bK bV bN bX bA bB bH : Nat) (cd fsz ln pl ne bd wa hi my gd wr hs : Int32) (nu : Int64) (fT fU fS f1 f2 fL fN fX fA fB fH : Nat → Int32) (fK fV : Nat → Int64) (tl : va_W) (sz : Nat) (tx : List Int32) (p0 : Nat) (hx3 : tx.length ≤ 300) (hfu : ∀ j, j < tx.length → fU j = sh_at tx j) (hp0 : p0 ≤ tx.length) : Met l yM_gives wsM_gives ({ frames := 1, cells := 0, slots := 0, locals := 30 }) (va_Pc [.ref am] (zW dC dI ([(kI, .int), (kJ, .long), (kZ, .boolean)]) ((am, .inr (4, [.int cd, .ref bT, .ref bU, .int fsz, .int (nI tx.length), .int (nI p0), .int ne, .int bd, .ref bS, .ref b1, .ref b2, .ref bL, .ref bK, .ref bV, .int wa, .int hi, .ref bN, .ref bX, .ref bA, .ref bB, .int my, .int gd, .int wr, .ref bH, .int hs, .long nu])) :: (bT, .inl (kI, 300, .inl fT)) :: (bU, .inl (kI, 300, .inl fU)) :: (bS, .inl (kI, 2000, .inl fS)) :: (b1, .inl (kI, 2000, .inl f1)) :: (b2, .inl (kI, 2000, .inl f2)) :: (bL, .inl (kZ, 2000, .inl fL)) :: (bK, .inl (kJ, 2000, .inr (.inl fK))) :: (bV, .inl (kJ, 400, .inr (.inl fV))) :: (bN, .inl (kI, 19200, .inl fN)) :: (bX, .inl (kI, 1536, .inl fX)) :: (bA, .inl (kI, 64, .inl fA)) :: (bB, .inl (kI, 64, .inl fB)) :: (bH, .inl (kI, 8, .inl fH)) :: tl) sz)) (zQ dC dI (va_A ((am, .inr (4, [.int cd, .ref bT, .ref bU, .int fsz, .int (nI tx.length), .int (nI p0), .int ne, .int bd, .ref bS, .ref b1, .ref b2, .ref bL, .ref bK, .ref bV, .int wa, .int hi, .ref bN, .ref bX, .ref bA, .ref bB, .int my, .int gd, .int wr, .ref bH, .int hs, .long nu])) :: (bT, .inl (kI, 300, .inl fT)) :: (bU, .inl (kI, 300, .inl fU)) :: (bS, .inl (kI, 2000, .inl fS)) :: (b1, .inl (kI, 2000, .inl f1)) :: (b2, .inl (kI, 2000, .inl f2)) :: (bL, .inl (kZ, 2000, .inl fL)) :: (bK, .inl (kJ, 2000, .inr (.inl fK))) :: (bV, .inl (kJ, 400, .inr (.inl fV))) :: (bN, .inl (kI, 19200, .inl fN)) :: (bX, .inl (kI, 1536, .inl fX)) :: (bA, .inl (kI, 64, .inl fA)) :: (bB, .inl (kI, 64, .inl fB)) :: (bH, .inl (kI, 8, .inl fH)) :: tl) sz) (fun v w => v = some (.int (nI (m_gv tx p0))) ∧ w = ((am, .inr (4, [.int cd, .ref bT, .ref bU, .int fsz, .int (nI tx.length), .int (nI (sh_skip tx p0)), .int ne, .int bd, .ref bS, .ref b1, .ref b2, .ref bL, .ref bK, .ref bV, .int wa, .int hi, .ref bN, .ref bX, .ref bA, .ref bB, .int my, .int gd, .int wr, .ref bH, .int hs, .long nu])) :: (bT, .inl (kI, 300, .inl fT)) :: (bU, .inl (kI, 300, .inl fU)) :: (bS, .inl (kI, 2000, .inl fS)) :: (b1, .inl (kI, 2000, .inl f1)) :: (b2, .inl (kI, 2000, .inl f2)) :: (bL, .inl (kZ, 2000, .inl fL)) :: (bK, .inl (kJ, 2000, .inr (.inl fK))) :: (bV, .inl (kJ, 400, .inr (.inl fV))) :: (bN, .inl (kI, 19200, .inl fN)) :: (bX, .inl (kI, 1536, .inl fX)) :: (bA, .inl (kI, 64, .inl fA)) :: (bB, .inl (kI, 64, .inl fB)) :: (bH, .inl (kI, 8, .inl fH)) :: tl))) 0 0 (va_A ((am, .inr (4, [.int cd, .ref bT, .ref bU, .int fsz, .int (nI tx.length), .int (nI p0), .int ne, .int bd, .ref bS, .ref b1, .ref b2, .ref bL, .ref bK, .ref bV, .int wa, .int hi, .ref bN, .ref bX, .ref bA, .ref bB, .int my, .int gd, .int wr, .ref bH, .int hs, .long nu])) :: (bT, .inl (kI, 300, .inl fT)) :: (bU, .inl (kI, 300, .inl fU)) :: (bS, .inl (kI, 2000, .inl fS)) :: (b1, .inl (kI, 2000, .inl f1)) :: (b2, .inl (kI, 2000, .inl f2)) :: (bL, .inl (kZ, 2000, .inl fL)) :: (bK, .inl (kJ, 2000, .inr (.inl fK))) :: (bV, .inl (kJ, 400, .inr (.inl fV))) :: (bN, .inl (kI, 19200, .inl fN)) :: (bX, .inl (kI, 1536, .inl fX)) :: (bA, .inl (kI, 64, .inl fA)) :: (bB, .inl (kI, 64, .inl fB)) :: (bH, .inl (kI, 8, .inl fH)) :: tl) sz) := by
  refine Met.ofW (cc := cM_gives) (maxL := 3) (ret := (some .int)) (by decide) rfl ?_
  intro p e s m args below meth c s₁ B hml hv
  obtain ⟨rfl, hsz, hP, hK, hD0, hN⟩ := hv
  subst hsz
  have hD := hD0.self (sz := s.heap.size)
  generalize hAe : va_A ((am, .inr (4, [.int cd, .ref bT, .ref bU, .int fsz, .int (nI tx.length), .int (nI p0), .int ne, .int bd, .ref bS, .ref b1, .ref b2, .ref bL, .ref bK, .ref bV, .int wa, .int hi, .ref bN, .ref bX, .ref bA, .ref bB, .int my, .int gd, .int wr, .ref bH, .int hs, .long nu])) :: (bT, .inl (kI, 300, .inl fT)) :: (bU, .inl (kI, 300, .inl fU)) :: (bS, .inl (kI, 2000, .inl fS)) :: (b1, .inl (kI, 2000, .inl f1)) :: (b2, .inl (kI, 2000, .inl f2)) :: (bL, .inl (kZ, 2000, .inl fL)) :: (bK, .inl (kJ, 2000, .inr (.inl fK))) :: (bV, .inl (kJ, 400, .inr (.inl fV))) :: (bN, .inl (kI, 19200, .inl fN)) :: (bX, .inl (kI, 1536, .inl fX)) :: (bA, .inl (kI, 64, .inl fA)) :: (bB, .inl (kI, 64, .inl fB)) :: (bH, .inl (kI, 8, .inl fH)) :: tl) s.heap.size = A at hD ⊢
  have hA : ∀ q : Nat, s.heap.size ≤ q → A q := fun q h => by rw [← hAe]; exact Or.inr h
  have hS : va_S A s.heap s.heap [] := va_S.rf
  have hx := B.exec
  have hb := B.bytes
  have hr := B.returns
  have htz : ∀ w ∈ zw, w.before _ s = true := fun w h => atoms_spec (ws := wsM_gives) B.pre w (List.mem_cons_of_mem _ h)
  have hown : s.vm.findClass "ShellSumModel" = some m.cls := findClass_of_methodNamed B.named
  have hlocks := B.notSynchronized
  have hl := lv_entry ([.ref am]) (n := 3) (Nat.le_of_ble_eq_true rfl)
  rw [lg_entry_eq]
  generalize (lg_sl ([.ref am]) ++ List.replicate (3 - (lg_sl ([.ref am])).length) Slot.unset).toArray = ls at hl ⊢
  have hsl := sh_skip_le hp0
  have hl : lv_has ls 3 [(0, .ref am)] := hl
  refine lv_aload_n hx hb dM_gives_0 rfl (lv_at hl 0 rfl) ?_
  refine zQ_call (va_runV (As := []) (rest := []) ⟨hx, hb, hml, hown, htz⟩ (k_M_sign l dC dI kI kJ kZ am bT bU bS b1 b2 bL bK bV bN bX bA bB bH cd fsz (nI tx.length) (nI p0) ne bd wa hi my gd wr hs nu fT fU fS f1 f2 fL fN fX fA fB fH fK fV tl _ tx p0 hx3 hfu hp0) (cwV 0 htz (zg_V zw_3_52 zw_3_54 zs_M_sign zw_1_4 zw_3_55) rfl rfl rfl (by decide +kernel) ⟨Nat.le_of_ble_eq_true rfl, Nat.le_of_ble_eq_true rfl⟩) (zW_V hP hK hD hN (va_recv hK hP (ci := 4) (q0 := 0) rfl rfl)) rfl rfl hl.1 rfl (lv_room (Nat.le_of_ble_eq_true rfl)) dM_gives_1 ⟨Nat.zero_le _, Nat.zero_le _⟩) hD hS hA (fun v w H locs hp hP hD hS => ?_)
  obtain ⟨rfl, hw⟩ := hp
  rw [hw] at hP hD
  have hP : va_P (dC, dI) vwCl ((am, .inr (4, [.int cd, .ref bT, .ref bU, .int fsz, .int (nI tx.length), .int (nI (sh_skip tx p0)), .int ne, .int bd, .ref bS, .ref b1, .ref b2, .ref bL, .ref bK, .ref bV, .int wa, .int hi, .ref bN, .ref bX, .ref bA, .ref bB, .int my, .int gd, .int wr, .ref bH, .int hs, .long nu])) :: (bT, .inl (kI, 300, .inl fT)) :: (bU, .inl (kI, 300, .inl fU)) :: (bS, .inl (kI, 2000, .inl fS)) :: (b1, .inl (kI, 2000, .inl f1)) :: (b2, .inl (kI, 2000, .inl f2)) :: (bL, .inl (kZ, 2000, .inl fL)) :: (bK, .inl (kJ, 2000, .inr (.inl fK))) :: (bV, .inl (kJ, 400, .inr (.inl fV))) :: (bN, .inl (kI, 19200, .inl fN)) :: (bX, .inl (kI, 1536, .inl fX)) :: (bA, .inl (kI, 64, .inl fA)) :: (bB, .inl (kI, 64, .inl fB)) :: (bH, .inl (kI, 8, .inl fH)) :: tl) _ := hP
  have hD : va_D A ((am, .inr (4, [.int cd, .ref bT, .ref bU, .int fsz, .int (nI tx.length), .int (nI (sh_skip tx p0)), .int ne, .int bd, .ref bS, .ref b1, .ref b2, .ref bL, .ref bK, .ref bV, .int wa, .int hi, .ref bN, .ref bX, .ref bA, .ref bB, .int my, .int gd, .int wr, .ref bH, .int hs, .long nu])) :: (bT, .inl (kI, 300, .inl fT)) :: (bU, .inl (kI, 300, .inl fU)) :: (bS, .inl (kI, 2000, .inl fS)) :: (b1, .inl (kI, 2000, .inl f1)) :: (b2, .inl (kI, 2000, .inl f2)) :: (bL, .inl (kZ, 2000, .inl fL)) :: (bK, .inl (kJ, 2000, .inr (.inl fK))) :: (bV, .inl (kJ, 400, .inr (.inl fV))) :: (bN, .inl (kI, 19200, .inl fN)) :: (bX, .inl (kI, 1536, .inl fX)) :: (bA, .inl (kI, 64, .inl fA)) :: (bB, .inl (kI, 64, .inl fB)) :: (bH, .inl (kI, 8, .inl fH)) :: tl) := hD
  refine W.eq (g2 := F0 m 4 ls [.int (m_at tx (sh_skip tx p0))]) rfl ?_
  refine lv_istore_n (lv' := [(1, .int (m_at tx (sh_skip tx p0))), (0, .ref am)]) hx hb dM_gives_4 rfl hl (by decide) rfl (fun ls hl => ?_)
  refine lv_iload_n hx hb dM_gives_5 rfl (lv_at hl 0 rfl) ?_
  refine lv_bipush (v := 61) hx hb dM_gives_6 (by decide) ?_
  refine lv_icmp_ne (tgt := 27) hx hb dM_gives_8 (by decide) (fun c_1 => ?_) (fun c_1 => ?_)
  · skip
    refine lv_iload_n hx hb dM_gives_27 rfl (lv_at hl 0 rfl) ?_
    refine lv_bipush (v := 60) hx hb dM_gives_28 (by decide) ?_
    refine lv_icmp_eq (tgt := 39) hx hb dM_gives_30 (by decide) (fun c_2 => ?_) (fun c_2 => ?_)
    · skip
      refine lv_aload_n hx hb dM_gives_39 rfl (lv_at hl 1 rfl) ?_
      refine lv_iconst (v := 1) hx hb dM_gives_40 (by decide) ?_
      refine xw_topi (y := nI 1) (rfl) ?_
      refine rq_call (va_runV (As := [.int (nI 1)]) (rest := []) ⟨hx, hb, hml, hown, htz⟩ (k_M_at l dC dI kI kJ kZ am bT bU bS b1 b2 bL bK bV bN bX bA bB bH cd fsz (nI tx.length) (nI (sh_skip tx p0)) ne bd wa hi my gd wr hs nu fT fU fS f1 f2 fL fN fX fA fB fH fK fV tl tx (sh_skip tx p0) hx3 hfu hsl 1 (by decide)) (cwV 1 htz (zg_V zw_3_80 zw_3_82 zs_M_at zw_1_4 zw_3_83) rfl rfl rfl (by decide +kernel) ⟨Nat.le_of_ble_eq_true rfl, Nat.le_of_ble_eq_true rfl⟩) (zR_V hP hK hN (va_recv hK hP (ci := 4) (q0 := 0) rfl rfl)) rfl rfl hl.1 rfl (lv_room (Nat.le_of_ble_eq_true rfl)) dM_gives_41 ⟨Nat.zero_le _, Nat.zero_le _⟩) ?_
      refine W.eq (g2 := F0 m 44 ls [.int (m_at tx (sh_skip tx p0 + 1))]) rfl ?_
      refine lv_iload_n hx hb dM_gives_44 rfl (lv_at hl 0 rfl) ?_
      refine lv_icmp_ne (tgt := 64) hx hb dM_gives_45 (by decide) (fun c_3 => ?_) (fun c_3 => ?_)
      · skip
        refine lv_iload_n hx hb dM_gives_64 rfl (lv_at hl 0 rfl) ?_
        refine lv_bipush (v := 42) hx hb dM_gives_65 (by decide) ?_
        refine lv_icmp_eq (tgt := 112) hx hb dM_gives_67 (by decide) (fun c_4 => ?_) (fun c_4 => ?_)
        · skip
          refine lv_iconst (v := 1) hx hb dM_gives_112 (by decide) ?_
          refine lv_goto (tgt := 117) hx hb dM_gives_113 (by decide) ?_
          refine lv_istore_n (lv' := [(2, .int 1), (1, .int (m_at tx (sh_skip tx p0))), (0, .ref am)]) hx hb dM_gives_117 rfl hl (by decide) rfl (fun ls hl => ?_)
          refine lv_iload_n hx hb dM_gives_118 rfl (lv_at hl 0 rfl) ?_
          refine lv_if_eq (tgt := 136) hx hb dM_gives_119 (by decide) (fun c_5 => ?_) (fun c_5 => ?_)
          · skip
            refine lv_iconst (v := 0) hx hb dM_gives_136 (by decide) ?_
            have e_v : m_gv tx p0 = 0 := by unfold m_gv m_gc; grind
            refine W.widen (k := 0) (n := 0) (Nat.le_refl _) (Nat.le_refl _) ?_
            exact W.iret (v := 0) hx hb hr (fun t ht _ => ⟨_, _, rfl, ⟨by rw [e_v]; rfl, rfl⟩, by rw [ht]; exact hP, hD, hS.F ht⟩) hS.2.2 dM_gives_137
          refine lv_aload_n hx hb dM_gives_122 rfl (lv_at hl 2 rfl) ?_
          refine lv_iconst (v := 1) hx hb dM_gives_123 (by decide) ?_
          refine xw_topi (y := nI 1) (rfl) ?_
          refine rq_call (va_runV (As := [.int (nI 1)]) (rest := []) ⟨hx, hb, hml, hown, htz⟩ (k_M_at l dC dI kI kJ kZ am bT bU bS b1 b2 bL bK bV bN bX bA bB bH cd fsz (nI tx.length) (nI (sh_skip tx p0)) ne bd wa hi my gd wr hs nu fT fU fS f1 f2 fL fN fX fA fB fH fK fV tl tx (sh_skip tx p0) hx3 hfu hsl 1 (by decide)) (cwV 1 htz (zg_V zw_3_80 zw_3_82 zs_M_at zw_1_4 zw_3_83) rfl rfl rfl (by decide +kernel) ⟨Nat.le_of_ble_eq_true rfl, Nat.le_of_ble_eq_true rfl⟩) (zR_V hP hK hN (va_recv hK hP (ci := 4) (q0 := 0) rfl rfl)) rfl rfl hl.1 rfl (lv_room (Nat.le_of_ble_eq_true rfl)) dM_gives_124 ⟨Nat.zero_le _, Nat.zero_le _⟩) ?_
          refine W.eq (g2 := F0 m 127 ls [.int (m_at tx (sh_skip tx p0 + 1))]) rfl ?_
          refine lv_bipush (v := 61) hx hb dM_gives_127 (by decide) ?_
          refine lv_icmp_ne (tgt := 136) hx hb dM_gives_129 (by decide) (fun c_6 => ?_) (fun c_6 => ?_)
          · skip
            refine lv_iconst (v := 0) hx hb dM_gives_136 (by decide) ?_
            have e_v : m_gv tx p0 = 0 := by unfold m_gv m_gc; grind
            refine W.widen (k := 0) (n := 0) (Nat.le_refl _) (Nat.le_refl _) ?_
            exact W.iret (v := 0) hx hb hr (fun t ht _ => ⟨_, _, rfl, ⟨by rw [e_v]; rfl, rfl⟩, by rw [ht]; exact hP, hD, hS.F ht⟩) hS.2.2 dM_gives_137
          refine lv_iconst (v := 2) hx hb dM_gives_132 (by decide) ?_
          refine lv_goto (tgt := 137) hx hb dM_gives_133 (by decide) ?_
          have e_v : m_gv tx p0 = 2 := by unfold m_gv m_gc; grind
          refine W.widen (k := 0) (n := 0) (Nat.le_refl _) (Nat.le_refl _) ?_
          exact W.iret (v := 2) hx hb hr (fun t ht _ => ⟨_, _, rfl, ⟨by rw [e_v]; rfl, rfl⟩, by rw [ht]; exact hP, hD, hS.F ht⟩) hS.2.2 dM_gives_137
        refine lv_iload_n hx hb dM_gives_70 rfl (lv_at hl 0 rfl) ?_
        refine lv_bipush (v := 47) hx hb dM_gives_71 (by decide) ?_
        refine lv_icmp_eq (tgt := 112) hx hb dM_gives_73 (by decide) (fun c_7 => ?_) (fun c_7 => ?_)
        · skip
          refine lv_iconst (v := 1) hx hb dM_gives_112 (by decide) ?_
          refine lv_goto (tgt := 117) hx hb dM_gives_113 (by decide) ?_
          refine lv_istore_n (lv' := [(2, .int 1), (1, .int (m_at tx (sh_skip tx p0))), (0, .ref am)]) hx hb dM_gives_117 rfl hl (by decide) rfl (fun ls hl => ?_)
          refine lv_iload_n hx hb dM_gives_118 rfl (lv_at hl 0 rfl) ?_
          refine lv_if_eq (tgt := 136) hx hb dM_gives_119 (by decide) (fun c_8 => ?_) (fun c_8 => ?_)
          · skip
            refine lv_iconst (v := 0) hx hb dM_gives_136 (by decide) ?_
            have e_v : m_gv tx p0 = 0 := by unfold m_gv m_gc; grind
            refine W.widen (k := 0) (n := 0) (Nat.le_refl _) (Nat.le_refl _) ?_
            exact W.iret (v := 0) hx hb hr (fun t ht _ => ⟨_, _, rfl, ⟨by rw [e_v]; rfl, rfl⟩, by rw [ht]; exact hP, hD, hS.F ht⟩) hS.2.2 dM_gives_137
          refine lv_aload_n hx hb dM_gives_122 rfl (lv_at hl 2 rfl) ?_
          refine lv_iconst (v := 1) hx hb dM_gives_123 (by decide) ?_
          refine xw_topi (y := nI 1) (rfl) ?_
          refine rq_call (va_runV (As := [.int (nI 1)]) (rest := []) ⟨hx, hb, hml, hown, htz⟩ (k_M_at l dC dI kI kJ kZ am bT bU bS b1 b2 bL bK bV bN bX bA bB bH cd fsz (nI tx.length) (nI (sh_skip tx p0)) ne bd wa hi my gd wr hs nu fT fU fS f1 f2 fL fN fX fA fB fH fK fV tl tx (sh_skip tx p0) hx3 hfu hsl 1 (by decide)) (cwV 1 htz (zg_V zw_3_80 zw_3_82 zs_M_at zw_1_4 zw_3_83) rfl rfl rfl (by decide +kernel) ⟨Nat.le_of_ble_eq_true rfl, Nat.le_of_ble_eq_true rfl⟩) (zR_V hP hK hN (va_recv hK hP (ci := 4) (q0 := 0) rfl rfl)) rfl rfl hl.1 rfl (lv_room (Nat.le_of_ble_eq_true rfl)) dM_gives_124 ⟨Nat.zero_le _, Nat.zero_le _⟩) ?_
          refine W.eq (g2 := F0 m 127 ls [.int (m_at tx (sh_skip tx p0 + 1))]) rfl ?_
          refine lv_bipush (v := 61) hx hb dM_gives_127 (by decide) ?_
          refine lv_icmp_ne (tgt := 136) hx hb dM_gives_129 (by decide) (fun c_9 => ?_) (fun c_9 => ?_)
          · skip
            refine lv_iconst (v := 0) hx hb dM_gives_136 (by decide) ?_
            have e_v : m_gv tx p0 = 0 := by unfold m_gv m_gc; grind
            refine W.widen (k := 0) (n := 0) (Nat.le_refl _) (Nat.le_refl _) ?_
            exact W.iret (v := 0) hx hb hr (fun t ht _ => ⟨_, _, rfl, ⟨by rw [e_v]; rfl, rfl⟩, by rw [ht]; exact hP, hD, hS.F ht⟩) hS.2.2 dM_gives_137
          refine lv_iconst (v := 2) hx hb dM_gives_132 (by decide) ?_
          refine lv_goto (tgt := 137) hx hb dM_gives_133 (by decide) ?_
          have e_v : m_gv tx p0 = 2 := by unfold m_gv m_gc; grind
          refine W.widen (k := 0) (n := 0) (Nat.le_refl _) (Nat.le_refl _) ?_
          exact W.iret (v := 2) hx hb hr (fun t ht _ => ⟨_, _, rfl, ⟨by rw [e_v]; rfl, rfl⟩, by rw [ht]; exact hP, hD, hS.F ht⟩) hS.2.2 dM_gives_137
        refine lv_iload_n hx hb dM_gives_76 rfl (lv_at hl 0 rfl) ?_
        refine lv_bipush (v := 37) hx hb dM_gives_77 (by decide) ?_
        refine lv_icmp_eq (tgt := 112) hx hb dM_gives_79 (by decide) (fun c_10 => ?_) (fun c_10 => ?_)
        · skip
          refine lv_iconst (v := 1) hx hb dM_gives_112 (by decide) ?_
          refine lv_goto (tgt := 117) hx hb dM_gives_113 (by decide) ?_
          refine lv_istore_n (lv' := [(2, .int 1), (1, .int (m_at tx (sh_skip tx p0))), (0, .ref am)]) hx hb dM_gives_117 rfl hl (by decide) rfl (fun ls hl => ?_)
          refine lv_iload_n hx hb dM_gives_118 rfl (lv_at hl 0 rfl) ?_
          refine lv_if_eq (tgt := 136) hx hb dM_gives_119 (by decide) (fun c_11 => ?_) (fun c_11 => ?_)
          · skip
            refine lv_iconst (v := 0) hx hb dM_gives_136 (by decide) ?_
            have e_v : m_gv tx p0 = 0 := by unfold m_gv m_gc; grind
            refine W.widen (k := 0) (n := 0) (Nat.le_refl _) (Nat.le_refl _) ?_
            exact W.iret (v := 0) hx hb hr (fun t ht _ => ⟨_, _, rfl, ⟨by rw [e_v]; rfl, rfl⟩, by rw [ht]; exact hP, hD, hS.F ht⟩) hS.2.2 dM_gives_137
          refine lv_aload_n hx hb dM_gives_122 rfl (lv_at hl 2 rfl) ?_
          refine lv_iconst (v := 1) hx hb dM_gives_123 (by decide) ?_
          refine xw_topi (y := nI 1) (rfl) ?_
          refine rq_call (va_runV (As := [.int (nI 1)]) (rest := []) ⟨hx, hb, hml, hown, htz⟩ (k_M_at l dC dI kI kJ kZ am bT bU bS b1 b2 bL bK bV bN bX bA bB bH cd fsz (nI tx.length) (nI (sh_skip tx p0)) ne bd wa hi my gd wr hs nu fT fU fS f1 f2 fL fN fX fA fB fH fK fV tl tx (sh_skip tx p0) hx3 hfu hsl 1 (by decide)) (cwV 1 htz (zg_V zw_3_80 zw_3_82 zs_M_at zw_1_4 zw_3_83) rfl rfl rfl (by decide +kernel) ⟨Nat.le_of_ble_eq_true rfl, Nat.le_of_ble_eq_true rfl⟩) (zR_V hP hK hN (va_recv hK hP (ci := 4) (q0 := 0) rfl rfl)) rfl rfl hl.1 rfl (lv_room (Nat.le_of_ble_eq_true rfl)) dM_gives_124 ⟨Nat.zero_le _, Nat.zero_le _⟩) ?_
          refine W.eq (g2 := F0 m 127 ls [.int (m_at tx (sh_skip tx p0 + 1))]) rfl ?_
          refine lv_bipush (v := 61) hx hb dM_gives_127 (by decide) ?_
          refine lv_icmp_ne (tgt := 136) hx hb dM_gives_129 (by decide) (fun c_12 => ?_) (fun c_12 => ?_)
          · skip
            refine lv_iconst (v := 0) hx hb dM_gives_136 (by decide) ?_
            have e_v : m_gv tx p0 = 0 := by unfold m_gv m_gc; grind
            refine W.widen (k := 0) (n := 0) (Nat.le_refl _) (Nat.le_refl _) ?_
            exact W.iret (v := 0) hx hb hr (fun t ht _ => ⟨_, _, rfl, ⟨by rw [e_v]; rfl, rfl⟩, by rw [ht]; exact hP, hD, hS.F ht⟩) hS.2.2 dM_gives_137
          refine lv_iconst (v := 2) hx hb dM_gives_132 (by decide) ?_
          refine lv_goto (tgt := 137) hx hb dM_gives_133 (by decide) ?_
          have e_v : m_gv tx p0 = 2 := by unfold m_gv m_gc; grind
          refine W.widen (k := 0) (n := 0) (Nat.le_refl _) (Nat.le_refl _) ?_
          exact W.iret (v := 2) hx hb hr (fun t ht _ => ⟨_, _, rfl, ⟨by rw [e_v]; rfl, rfl⟩, by rw [ht]; exact hP, hD, hS.F ht⟩) hS.2.2 dM_gives_137
        refine lv_iload_n hx hb dM_gives_82 rfl (lv_at hl 0 rfl) ?_
        refine lv_bipush (v := 43) hx hb dM_gives_83 (by decide) ?_
        refine lv_icmp_eq (tgt := 112) hx hb dM_gives_85 (by decide) (fun c_13 => ?_) (fun c_13 => ?_)
        · skip
          refine lv_iconst (v := 1) hx hb dM_gives_112 (by decide) ?_
          refine lv_goto (tgt := 117) hx hb dM_gives_113 (by decide) ?_
          refine lv_istore_n (lv' := [(2, .int 1), (1, .int (m_at tx (sh_skip tx p0))), (0, .ref am)]) hx hb dM_gives_117 rfl hl (by decide) rfl (fun ls hl => ?_)
          refine lv_iload_n hx hb dM_gives_118 rfl (lv_at hl 0 rfl) ?_
          refine lv_if_eq (tgt := 136) hx hb dM_gives_119 (by decide) (fun c_14 => ?_) (fun c_14 => ?_)
          · skip
            refine lv_iconst (v := 0) hx hb dM_gives_136 (by decide) ?_
            have e_v : m_gv tx p0 = 0 := by unfold m_gv m_gc; grind
            refine W.widen (k := 0) (n := 0) (Nat.le_refl _) (Nat.le_refl _) ?_
            exact W.iret (v := 0) hx hb hr (fun t ht _ => ⟨_, _, rfl, ⟨by rw [e_v]; rfl, rfl⟩, by rw [ht]; exact hP, hD, hS.F ht⟩) hS.2.2 dM_gives_137
          refine lv_aload_n hx hb dM_gives_122 rfl (lv_at hl 2 rfl) ?_
          refine lv_iconst (v := 1) hx hb dM_gives_123 (by decide) ?_
          refine xw_topi (y := nI 1) (rfl) ?_
          refine rq_call (va_runV (As := [.int (nI 1)]) (rest := []) ⟨hx, hb, hml, hown, htz⟩ (k_M_at l dC dI kI kJ kZ am bT bU bS b1 b2 bL bK bV bN bX bA bB bH cd fsz (nI tx.length) (nI (sh_skip tx p0)) ne bd wa hi my gd wr hs nu fT fU fS f1 f2 fL fN fX fA fB fH fK fV tl tx (sh_skip tx p0) hx3 hfu hsl 1 (by decide)) (cwV 1 htz (zg_V zw_3_80 zw_3_82 zs_M_at zw_1_4 zw_3_83) rfl rfl rfl (by decide +kernel) ⟨Nat.le_of_ble_eq_true rfl, Nat.le_of_ble_eq_true rfl⟩) (zR_V hP hK hN (va_recv hK hP (ci := 4) (q0 := 0) rfl rfl)) rfl rfl hl.1 rfl (lv_room (Nat.le_of_ble_eq_true rfl)) dM_gives_124 ⟨Nat.zero_le _, Nat.zero_le _⟩) ?_
          refine W.eq (g2 := F0 m 127 ls [.int (m_at tx (sh_skip tx p0 + 1))]) rfl ?_
          refine lv_bipush (v := 61) hx hb dM_gives_127 (by decide) ?_
          refine lv_icmp_ne (tgt := 136) hx hb dM_gives_129 (by decide) (fun c_15 => ?_) (fun c_15 => ?_)
          · skip
            refine lv_iconst (v := 0) hx hb dM_gives_136 (by decide) ?_
            have e_v : m_gv tx p0 = 0 := by unfold m_gv m_gc; grind
            refine W.widen (k := 0) (n := 0) (Nat.le_refl _) (Nat.le_refl _) ?_
            exact W.iret (v := 0) hx hb hr (fun t ht _ => ⟨_, _, rfl, ⟨by rw [e_v]; rfl, rfl⟩, by rw [ht]; exact hP, hD, hS.F ht⟩) hS.2.2 dM_gives_137
          refine lv_iconst (v := 2) hx hb dM_gives_132 (by decide) ?_
          refine lv_goto (tgt := 137) hx hb dM_gives_133 (by decide) ?_
          have e_v : m_gv tx p0 = 2 := by unfold m_gv m_gc; grind
          refine W.widen (k := 0) (n := 0) (Nat.le_refl _) (Nat.le_refl _) ?_
          exact W.iret (v := 2) hx hb hr (fun t ht _ => ⟨_, _, rfl, ⟨by rw [e_v]; rfl, rfl⟩, by rw [ht]; exact hP, hD, hS.F ht⟩) hS.2.2 dM_gives_137
        refine lv_iload_n hx hb dM_gives_88 rfl (lv_at hl 0 rfl) ?_
        refine lv_bipush (v := 45) hx hb dM_gives_89 (by decide) ?_
        refine lv_icmp_eq (tgt := 112) hx hb dM_gives_91 (by decide) (fun c_16 => ?_) (fun c_16 => ?_)
        · skip
          refine lv_iconst (v := 1) hx hb dM_gives_112 (by decide) ?_
          refine lv_goto (tgt := 117) hx hb dM_gives_113 (by decide) ?_
          refine lv_istore_n (lv' := [(2, .int 1), (1, .int (m_at tx (sh_skip tx p0))), (0, .ref am)]) hx hb dM_gives_117 rfl hl (by decide) rfl (fun ls hl => ?_)
          refine lv_iload_n hx hb dM_gives_118 rfl (lv_at hl 0 rfl) ?_
          refine lv_if_eq (tgt := 136) hx hb dM_gives_119 (by decide) (fun c_17 => ?_) (fun c_17 => ?_)
          · skip
            refine lv_iconst (v := 0) hx hb dM_gives_136 (by decide) ?_
            have e_v : m_gv tx p0 = 0 := by unfold m_gv m_gc; grind
            refine W.widen (k := 0) (n := 0) (Nat.le_refl _) (Nat.le_refl _) ?_
            exact W.iret (v := 0) hx hb hr (fun t ht _ => ⟨_, _, rfl, ⟨by rw [e_v]; rfl, rfl⟩, by rw [ht]; exact hP, hD, hS.F ht⟩) hS.2.2 dM_gives_137
          refine lv_aload_n hx hb dM_gives_122 rfl (lv_at hl 2 rfl) ?_
          refine lv_iconst (v := 1) hx hb dM_gives_123 (by decide) ?_
          refine xw_topi (y := nI 1) (rfl) ?_
          refine rq_call (va_runV (As := [.int (nI 1)]) (rest := []) ⟨hx, hb, hml, hown, htz⟩ (k_M_at l dC dI kI kJ kZ am bT bU bS b1 b2 bL bK bV bN bX bA bB bH cd fsz (nI tx.length) (nI (sh_skip tx p0)) ne bd wa hi my gd wr hs nu fT fU fS f1 f2 fL fN fX fA fB fH fK fV tl tx (sh_skip tx p0) hx3 hfu hsl 1 (by decide)) (cwV 1 htz (zg_V zw_3_80 zw_3_82 zs_M_at zw_1_4 zw_3_83) rfl rfl rfl (by decide +kernel) ⟨Nat.le_of_ble_eq_true rfl, Nat.le_of_ble_eq_true rfl⟩) (zR_V hP hK hN (va_recv hK hP (ci := 4) (q0 := 0) rfl rfl)) rfl rfl hl.1 rfl (lv_room (Nat.le_of_ble_eq_true rfl)) dM_gives_124 ⟨Nat.zero_le _, Nat.zero_le _⟩) ?_
          refine W.eq (g2 := F0 m 127 ls [.int (m_at tx (sh_skip tx p0 + 1))]) rfl ?_
          refine lv_bipush (v := 61) hx hb dM_gives_127 (by decide) ?_
          refine lv_icmp_ne (tgt := 136) hx hb dM_gives_129 (by decide) (fun c_18 => ?_) (fun c_18 => ?_)
          · skip
            refine lv_iconst (v := 0) hx hb dM_gives_136 (by decide) ?_
            have e_v : m_gv tx p0 = 0 := by unfold m_gv m_gc; grind
            refine W.widen (k := 0) (n := 0) (Nat.le_refl _) (Nat.le_refl _) ?_
            exact W.iret (v := 0) hx hb hr (fun t ht _ => ⟨_, _, rfl, ⟨by rw [e_v]; rfl, rfl⟩, by rw [ht]; exact hP, hD, hS.F ht⟩) hS.2.2 dM_gives_137
          refine lv_iconst (v := 2) hx hb dM_gives_132 (by decide) ?_
          refine lv_goto (tgt := 137) hx hb dM_gives_133 (by decide) ?_
          have e_v : m_gv tx p0 = 2 := by unfold m_gv m_gc; grind
          refine W.widen (k := 0) (n := 0) (Nat.le_refl _) (Nat.le_refl _) ?_
          exact W.iret (v := 2) hx hb hr (fun t ht _ => ⟨_, _, rfl, ⟨by rw [e_v]; rfl, rfl⟩, by rw [ht]; exact hP, hD, hS.F ht⟩) hS.2.2 dM_gives_137
        refine lv_iload_n hx hb dM_gives_94 rfl (lv_at hl 0 rfl) ?_
        refine lv_bipush (v := 38) hx hb dM_gives_95 (by decide) ?_
        refine lv_icmp_eq (tgt := 112) hx hb dM_gives_97 (by decide) (fun c_19 => ?_) (fun c_19 => ?_)
        · skip
          refine lv_iconst (v := 1) hx hb dM_gives_112 (by decide) ?_
          refine lv_goto (tgt := 117) hx hb dM_gives_113 (by decide) ?_
          refine lv_istore_n (lv' := [(2, .int 1), (1, .int (m_at tx (sh_skip tx p0))), (0, .ref am)]) hx hb dM_gives_117 rfl hl (by decide) rfl (fun ls hl => ?_)
          refine lv_iload_n hx hb dM_gives_118 rfl (lv_at hl 0 rfl) ?_
          refine lv_if_eq (tgt := 136) hx hb dM_gives_119 (by decide) (fun c_20 => ?_) (fun c_20 => ?_)
          · skip
            refine lv_iconst (v := 0) hx hb dM_gives_136 (by decide) ?_
            have e_v : m_gv tx p0 = 0 := by unfold m_gv m_gc; grind
            refine W.widen (k := 0) (n := 0) (Nat.le_refl _) (Nat.le_refl _) ?_
            exact W.iret (v := 0) hx hb hr (fun t ht _ => ⟨_, _, rfl, ⟨by rw [e_v]; rfl, rfl⟩, by rw [ht]; exact hP, hD, hS.F ht⟩) hS.2.2 dM_gives_137
          refine lv_aload_n hx hb dM_gives_122 rfl (lv_at hl 2 rfl) ?_
          refine lv_iconst (v := 1) hx hb dM_gives_123 (by decide) ?_
          refine xw_topi (y := nI 1) (rfl) ?_
          refine rq_call (va_runV (As := [.int (nI 1)]) (rest := []) ⟨hx, hb, hml, hown, htz⟩ (k_M_at l dC dI kI kJ kZ am bT bU bS b1 b2 bL bK bV bN bX bA bB bH cd fsz (nI tx.length) (nI (sh_skip tx p0)) ne bd wa hi my gd wr hs nu fT fU fS f1 f2 fL fN fX fA fB fH fK fV tl tx (sh_skip tx p0) hx3 hfu hsl 1 (by decide)) (cwV 1 htz (zg_V zw_3_80 zw_3_82 zs_M_at zw_1_4 zw_3_83) rfl rfl rfl (by decide +kernel) ⟨Nat.le_of_ble_eq_true rfl, Nat.le_of_ble_eq_true rfl⟩) (zR_V hP hK hN (va_recv hK hP (ci := 4) (q0 := 0) rfl rfl)) rfl rfl hl.1 rfl (lv_room (Nat.le_of_ble_eq_true rfl)) dM_gives_124 ⟨Nat.zero_le _, Nat.zero_le _⟩) ?_
          refine W.eq (g2 := F0 m 127 ls [.int (m_at tx (sh_skip tx p0 + 1))]) rfl ?_
          refine lv_bipush (v := 61) hx hb dM_gives_127 (by decide) ?_
          refine lv_icmp_ne (tgt := 136) hx hb dM_gives_129 (by decide) (fun c_21 => ?_) (fun c_21 => ?_)
          · skip
            refine lv_iconst (v := 0) hx hb dM_gives_136 (by decide) ?_
            have e_v : m_gv tx p0 = 0 := by unfold m_gv m_gc; grind
            refine W.widen (k := 0) (n := 0) (Nat.le_refl _) (Nat.le_refl _) ?_
            exact W.iret (v := 0) hx hb hr (fun t ht _ => ⟨_, _, rfl, ⟨by rw [e_v]; rfl, rfl⟩, by rw [ht]; exact hP, hD, hS.F ht⟩) hS.2.2 dM_gives_137
          refine lv_iconst (v := 2) hx hb dM_gives_132 (by decide) ?_
          refine lv_goto (tgt := 137) hx hb dM_gives_133 (by decide) ?_
          have e_v : m_gv tx p0 = 2 := by unfold m_gv m_gc; grind
          refine W.widen (k := 0) (n := 0) (Nat.le_refl _) (Nat.le_refl _) ?_
          exact W.iret (v := 2) hx hb hr (fun t ht _ => ⟨_, _, rfl, ⟨by rw [e_v]; rfl, rfl⟩, by rw [ht]; exact hP, hD, hS.F ht⟩) hS.2.2 dM_gives_137
        refine lv_iload_n hx hb dM_gives_100 rfl (lv_at hl 0 rfl) ?_
        refine lv_bipush (v := 94) hx hb dM_gives_101 (by decide) ?_
        refine lv_icmp_eq (tgt := 112) hx hb dM_gives_103 (by decide) (fun c_22 => ?_) (fun c_22 => ?_)
        · skip
          refine lv_iconst (v := 1) hx hb dM_gives_112 (by decide) ?_
          refine lv_goto (tgt := 117) hx hb dM_gives_113 (by decide) ?_
          refine lv_istore_n (lv' := [(2, .int 1), (1, .int (m_at tx (sh_skip tx p0))), (0, .ref am)]) hx hb dM_gives_117 rfl hl (by decide) rfl (fun ls hl => ?_)
          refine lv_iload_n hx hb dM_gives_118 rfl (lv_at hl 0 rfl) ?_
          refine lv_if_eq (tgt := 136) hx hb dM_gives_119 (by decide) (fun c_23 => ?_) (fun c_23 => ?_)
          · skip
            refine lv_iconst (v := 0) hx hb dM_gives_136 (by decide) ?_
            have e_v : m_gv tx p0 = 0 := by unfold m_gv m_gc; grind
            refine W.widen (k := 0) (n := 0) (Nat.le_refl _) (Nat.le_refl _) ?_
            exact W.iret (v := 0) hx hb hr (fun t ht _ => ⟨_, _, rfl, ⟨by rw [e_v]; rfl, rfl⟩, by rw [ht]; exact hP, hD, hS.F ht⟩) hS.2.2 dM_gives_137
          refine lv_aload_n hx hb dM_gives_122 rfl (lv_at hl 2 rfl) ?_
          refine lv_iconst (v := 1) hx hb dM_gives_123 (by decide) ?_
          refine xw_topi (y := nI 1) (rfl) ?_
          refine rq_call (va_runV (As := [.int (nI 1)]) (rest := []) ⟨hx, hb, hml, hown, htz⟩ (k_M_at l dC dI kI kJ kZ am bT bU bS b1 b2 bL bK bV bN bX bA bB bH cd fsz (nI tx.length) (nI (sh_skip tx p0)) ne bd wa hi my gd wr hs nu fT fU fS f1 f2 fL fN fX fA fB fH fK fV tl tx (sh_skip tx p0) hx3 hfu hsl 1 (by decide)) (cwV 1 htz (zg_V zw_3_80 zw_3_82 zs_M_at zw_1_4 zw_3_83) rfl rfl rfl (by decide +kernel) ⟨Nat.le_of_ble_eq_true rfl, Nat.le_of_ble_eq_true rfl⟩) (zR_V hP hK hN (va_recv hK hP (ci := 4) (q0 := 0) rfl rfl)) rfl rfl hl.1 rfl (lv_room (Nat.le_of_ble_eq_true rfl)) dM_gives_124 ⟨Nat.zero_le _, Nat.zero_le _⟩) ?_
          refine W.eq (g2 := F0 m 127 ls [.int (m_at tx (sh_skip tx p0 + 1))]) rfl ?_
          refine lv_bipush (v := 61) hx hb dM_gives_127 (by decide) ?_
          refine lv_icmp_ne (tgt := 136) hx hb dM_gives_129 (by decide) (fun c_24 => ?_) (fun c_24 => ?_)
          · skip
            refine lv_iconst (v := 0) hx hb dM_gives_136 (by decide) ?_
            have e_v : m_gv tx p0 = 0 := by unfold m_gv m_gc; grind
            refine W.widen (k := 0) (n := 0) (Nat.le_refl _) (Nat.le_refl _) ?_
            exact W.iret (v := 0) hx hb hr (fun t ht _ => ⟨_, _, rfl, ⟨by rw [e_v]; rfl, rfl⟩, by rw [ht]; exact hP, hD, hS.F ht⟩) hS.2.2 dM_gives_137
          refine lv_iconst (v := 2) hx hb dM_gives_132 (by decide) ?_
          refine lv_goto (tgt := 137) hx hb dM_gives_133 (by decide) ?_
          have e_v : m_gv tx p0 = 2 := by unfold m_gv m_gc; grind
          refine W.widen (k := 0) (n := 0) (Nat.le_refl _) (Nat.le_refl _) ?_
          exact W.iret (v := 2) hx hb hr (fun t ht _ => ⟨_, _, rfl, ⟨by rw [e_v]; rfl, rfl⟩, by rw [ht]; exact hP, hD, hS.F ht⟩) hS.2.2 dM_gives_137
        refine lv_iload_n hx hb dM_gives_106 rfl (lv_at hl 0 rfl) ?_
        refine lv_bipush (v := 124) hx hb dM_gives_107 (by decide) ?_
        refine lv_icmp_ne (tgt := 116) hx hb dM_gives_109 (by decide) (fun c_25 => ?_) (fun c_25 => ?_)
        · skip
          refine lv_iconst (v := 0) hx hb dM_gives_116 (by decide) ?_
          refine lv_istore_n (lv' := [(2, .int 0), (1, .int (m_at tx (sh_skip tx p0))), (0, .ref am)]) hx hb dM_gives_117 rfl hl (by decide) rfl (fun ls hl => ?_)
          refine lv_iload_n hx hb dM_gives_118 rfl (lv_at hl 0 rfl) ?_
          refine lv_if_eq (tgt := 136) hx hb dM_gives_119 (by decide) (fun c_26 => ?_) (fun c_26 => ?_)
          · skip
            refine lv_iconst (v := 0) hx hb dM_gives_136 (by decide) ?_
            have e_v : m_gv tx p0 = 0 := by unfold m_gv m_gc; grind
            refine W.widen (k := 0) (n := 0) (Nat.le_refl _) (Nat.le_refl _) ?_
            exact W.iret (v := 0) hx hb hr (fun t ht _ => ⟨_, _, rfl, ⟨by rw [e_v]; rfl, rfl⟩, by rw [ht]; exact hP, hD, hS.F ht⟩) hS.2.2 dM_gives_137
          refine lv_aload_n hx hb dM_gives_122 rfl (lv_at hl 2 rfl) ?_
          refine lv_iconst (v := 1) hx hb dM_gives_123 (by decide) ?_
          refine xw_topi (y := nI 1) (rfl) ?_
          refine rq_call (va_runV (As := [.int (nI 1)]) (rest := []) ⟨hx, hb, hml, hown, htz⟩ (k_M_at l dC dI kI kJ kZ am bT bU bS b1 b2 bL bK bV bN bX bA bB bH cd fsz (nI tx.length) (nI (sh_skip tx p0)) ne bd wa hi my gd wr hs nu fT fU fS f1 f2 fL fN fX fA fB fH fK fV tl tx (sh_skip tx p0) hx3 hfu hsl 1 (by decide)) (cwV 1 htz (zg_V zw_3_80 zw_3_82 zs_M_at zw_1_4 zw_3_83) rfl rfl rfl (by decide +kernel) ⟨Nat.le_of_ble_eq_true rfl, Nat.le_of_ble_eq_true rfl⟩) (zR_V hP hK hN (va_recv hK hP (ci := 4) (q0 := 0) rfl rfl)) rfl rfl hl.1 rfl (lv_room (Nat.le_of_ble_eq_true rfl)) dM_gives_124 ⟨Nat.zero_le _, Nat.zero_le _⟩) ?_
          refine W.eq (g2 := F0 m 127 ls [.int (m_at tx (sh_skip tx p0 + 1))]) rfl ?_
          refine lv_bipush (v := 61) hx hb dM_gives_127 (by decide) ?_
          refine lv_icmp_ne (tgt := 136) hx hb dM_gives_129 (by decide) (fun c_27 => ?_) (fun c_27 => ?_)
          · skip
            refine lv_iconst (v := 0) hx hb dM_gives_136 (by decide) ?_
            have e_v : m_gv tx p0 = 0 := by unfold m_gv m_gc; grind
            refine W.widen (k := 0) (n := 0) (Nat.le_refl _) (Nat.le_refl _) ?_
            exact W.iret (v := 0) hx hb hr (fun t ht _ => ⟨_, _, rfl, ⟨by rw [e_v]; rfl, rfl⟩, by rw [ht]; exact hP, hD, hS.F ht⟩) hS.2.2 dM_gives_137
          refine lv_iconst (v := 2) hx hb dM_gives_132 (by decide) ?_
          refine lv_goto (tgt := 137) hx hb dM_gives_133 (by decide) ?_
          have e_v : m_gv tx p0 = 2 := by unfold m_gv m_gc; grind
          refine W.widen (k := 0) (n := 0) (Nat.le_refl _) (Nat.le_refl _) ?_
          exact W.iret (v := 2) hx hb hr (fun t ht _ => ⟨_, _, rfl, ⟨by rw [e_v]; rfl, rfl⟩, by rw [ht]; exact hP, hD, hS.F ht⟩) hS.2.2 dM_gives_137
        refine lv_iconst (v := 1) hx hb dM_gives_112 (by decide) ?_
        refine lv_goto (tgt := 117) hx hb dM_gives_113 (by decide) ?_
        refine lv_istore_n (lv' := [(2, .int 1), (1, .int (m_at tx (sh_skip tx p0))), (0, .ref am)]) hx hb dM_gives_117 rfl hl (by decide) rfl (fun ls hl => ?_)
        refine lv_iload_n hx hb dM_gives_118 rfl (lv_at hl 0 rfl) ?_
        refine lv_if_eq (tgt := 136) hx hb dM_gives_119 (by decide) (fun c_28 => ?_) (fun c_28 => ?_)
        · skip
          refine lv_iconst (v := 0) hx hb dM_gives_136 (by decide) ?_
          have e_v : m_gv tx p0 = 0 := by unfold m_gv m_gc; grind
          refine W.widen (k := 0) (n := 0) (Nat.le_refl _) (Nat.le_refl _) ?_
          exact W.iret (v := 0) hx hb hr (fun t ht _ => ⟨_, _, rfl, ⟨by rw [e_v]; rfl, rfl⟩, by rw [ht]; exact hP, hD, hS.F ht⟩) hS.2.2 dM_gives_137
        refine lv_aload_n hx hb dM_gives_122 rfl (lv_at hl 2 rfl) ?_
        refine lv_iconst (v := 1) hx hb dM_gives_123 (by decide) ?_
        refine xw_topi (y := nI 1) (rfl) ?_
        refine rq_call (va_runV (As := [.int (nI 1)]) (rest := []) ⟨hx, hb, hml, hown, htz⟩ (k_M_at l dC dI kI kJ kZ am bT bU bS b1 b2 bL bK bV bN bX bA bB bH cd fsz (nI tx.length) (nI (sh_skip tx p0)) ne bd wa hi my gd wr hs nu fT fU fS f1 f2 fL fN fX fA fB fH fK fV tl tx (sh_skip tx p0) hx3 hfu hsl 1 (by decide)) (cwV 1 htz (zg_V zw_3_80 zw_3_82 zs_M_at zw_1_4 zw_3_83) rfl rfl rfl (by decide +kernel) ⟨Nat.le_of_ble_eq_true rfl, Nat.le_of_ble_eq_true rfl⟩) (zR_V hP hK hN (va_recv hK hP (ci := 4) (q0 := 0) rfl rfl)) rfl rfl hl.1 rfl (lv_room (Nat.le_of_ble_eq_true rfl)) dM_gives_124 ⟨Nat.zero_le _, Nat.zero_le _⟩) ?_
        refine W.eq (g2 := F0 m 127 ls [.int (m_at tx (sh_skip tx p0 + 1))]) rfl ?_
        refine lv_bipush (v := 61) hx hb dM_gives_127 (by decide) ?_
        refine lv_icmp_ne (tgt := 136) hx hb dM_gives_129 (by decide) (fun c_29 => ?_) (fun c_29 => ?_)
        · skip
          refine lv_iconst (v := 0) hx hb dM_gives_136 (by decide) ?_
          have e_v : m_gv tx p0 = 0 := by unfold m_gv m_gc; grind
          refine W.widen (k := 0) (n := 0) (Nat.le_refl _) (Nat.le_refl _) ?_
          exact W.iret (v := 0) hx hb hr (fun t ht _ => ⟨_, _, rfl, ⟨by rw [e_v]; rfl, rfl⟩, by rw [ht]; exact hP, hD, hS.F ht⟩) hS.2.2 dM_gives_137
        refine lv_iconst (v := 2) hx hb dM_gives_132 (by decide) ?_
        refine lv_goto (tgt := 137) hx hb dM_gives_133 (by decide) ?_
        have e_v : m_gv tx p0 = 2 := by unfold m_gv m_gc; grind
        refine W.widen (k := 0) (n := 0) (Nat.le_refl _) (Nat.le_refl _) ?_
        exact W.iret (v := 2) hx hb hr (fun t ht _ => ⟨_, _, rfl, ⟨by rw [e_v]; rfl, rfl⟩, by rw [ht]; exact hP, hD, hS.F ht⟩) hS.2.2 dM_gives_137
      refine lv_aload_n hx hb dM_gives_48 rfl (lv_at hl 1 rfl) ?_
      refine lv_iconst (v := 2) hx hb dM_gives_49 (by decide) ?_
      refine xw_topi (y := nI 2) (rfl) ?_
      refine rq_call (va_runV (As := [.int (nI 2)]) (rest := []) ⟨hx, hb, hml, hown, htz⟩ (k_M_at l dC dI kI kJ kZ am bT bU bS b1 b2 bL bK bV bN bX bA bB bH cd fsz (nI tx.length) (nI (sh_skip tx p0)) ne bd wa hi my gd wr hs nu fT fU fS f1 f2 fL fN fX fA fB fH fK fV tl tx (sh_skip tx p0) hx3 hfu hsl 2 (by decide)) (cwV 1 htz (zg_V zw_3_80 zw_3_82 zs_M_at zw_1_4 zw_3_83) rfl rfl rfl (by decide +kernel) ⟨Nat.le_of_ble_eq_true rfl, Nat.le_of_ble_eq_true rfl⟩) (zR_V hP hK hN (va_recv hK hP (ci := 4) (q0 := 0) rfl rfl)) rfl rfl hl.1 rfl (lv_room (Nat.le_of_ble_eq_true rfl)) dM_gives_50 ⟨Nat.zero_le _, Nat.zero_le _⟩) ?_
      refine W.eq (g2 := F0 m 53 ls [.int (m_at tx (sh_skip tx p0 + 2))]) rfl ?_
      refine lv_bipush (v := 61) hx hb dM_gives_53 (by decide) ?_
      refine lv_icmp_ne (tgt := 62) hx hb dM_gives_55 (by decide) (fun c_30 => ?_) (fun c_30 => ?_)
      · skip
        refine lv_iconst (v := 0) hx hb dM_gives_62 (by decide) ?_
        have e_v : m_gv tx p0 = 0 := by unfold m_gv m_gc; grind
        refine W.widen (k := 0) (n := 0) (Nat.le_refl _) (Nat.le_refl _) ?_
        exact W.iret (v := 0) hx hb hr (fun t ht _ => ⟨_, _, rfl, ⟨by rw [e_v]; rfl, rfl⟩, by rw [ht]; exact hP, hD, hS.F ht⟩) hS.2.2 dM_gives_63
      refine lv_iconst (v := 3) hx hb dM_gives_58 (by decide) ?_
      refine lv_goto (tgt := 63) hx hb dM_gives_59 (by decide) ?_
      have e_v : m_gv tx p0 = 3 := by unfold m_gv m_gc; grind
      refine W.widen (k := 0) (n := 0) (Nat.le_refl _) (Nat.le_refl _) ?_
      exact W.iret (v := 3) hx hb hr (fun t ht _ => ⟨_, _, rfl, ⟨by rw [e_v]; rfl, rfl⟩, by rw [ht]; exact hP, hD, hS.F ht⟩) hS.2.2 dM_gives_63
    refine lv_iload_n hx hb dM_gives_33 rfl (lv_at hl 0 rfl) ?_
    refine lv_bipush (v := 62) hx hb dM_gives_34 (by decide) ?_
    refine lv_icmp_ne (tgt := 64) hx hb dM_gives_36 (by decide) (fun c_31 => ?_) (fun c_31 => ?_)
    · skip
      refine lv_iload_n hx hb dM_gives_64 rfl (lv_at hl 0 rfl) ?_
      refine lv_bipush (v := 42) hx hb dM_gives_65 (by decide) ?_
      refine lv_icmp_eq (tgt := 112) hx hb dM_gives_67 (by decide) (fun c_32 => ?_) (fun c_32 => ?_)
      · skip
        refine lv_iconst (v := 1) hx hb dM_gives_112 (by decide) ?_
        refine lv_goto (tgt := 117) hx hb dM_gives_113 (by decide) ?_
        refine lv_istore_n (lv' := [(2, .int 1), (1, .int (m_at tx (sh_skip tx p0))), (0, .ref am)]) hx hb dM_gives_117 rfl hl (by decide) rfl (fun ls hl => ?_)
        refine lv_iload_n hx hb dM_gives_118 rfl (lv_at hl 0 rfl) ?_
        refine lv_if_eq (tgt := 136) hx hb dM_gives_119 (by decide) (fun c_33 => ?_) (fun c_33 => ?_)
        · skip
          refine lv_iconst (v := 0) hx hb dM_gives_136 (by decide) ?_
          have e_v : m_gv tx p0 = 0 := by unfold m_gv m_gc; grind
          refine W.widen (k := 0) (n := 0) (Nat.le_refl _) (Nat.le_refl _) ?_
          exact W.iret (v := 0) hx hb hr (fun t ht _ => ⟨_, _, rfl, ⟨by rw [e_v]; rfl, rfl⟩, by rw [ht]; exact hP, hD, hS.F ht⟩) hS.2.2 dM_gives_137
        refine lv_aload_n hx hb dM_gives_122 rfl (lv_at hl 2 rfl) ?_
        refine lv_iconst (v := 1) hx hb dM_gives_123 (by decide) ?_
        refine xw_topi (y := nI 1) (rfl) ?_
        refine rq_call (va_runV (As := [.int (nI 1)]) (rest := []) ⟨hx, hb, hml, hown, htz⟩ (k_M_at l dC dI kI kJ kZ am bT bU bS b1 b2 bL bK bV bN bX bA bB bH cd fsz (nI tx.length) (nI (sh_skip tx p0)) ne bd wa hi my gd wr hs nu fT fU fS f1 f2 fL fN fX fA fB fH fK fV tl tx (sh_skip tx p0) hx3 hfu hsl 1 (by decide)) (cwV 1 htz (zg_V zw_3_80 zw_3_82 zs_M_at zw_1_4 zw_3_83) rfl rfl rfl (by decide +kernel) ⟨Nat.le_of_ble_eq_true rfl, Nat.le_of_ble_eq_true rfl⟩) (zR_V hP hK hN (va_recv hK hP (ci := 4) (q0 := 0) rfl rfl)) rfl rfl hl.1 rfl (lv_room (Nat.le_of_ble_eq_true rfl)) dM_gives_124 ⟨Nat.zero_le _, Nat.zero_le _⟩) ?_
        refine W.eq (g2 := F0 m 127 ls [.int (m_at tx (sh_skip tx p0 + 1))]) rfl ?_
        refine lv_bipush (v := 61) hx hb dM_gives_127 (by decide) ?_
        refine lv_icmp_ne (tgt := 136) hx hb dM_gives_129 (by decide) (fun c_34 => ?_) (fun c_34 => ?_)
        · skip
          refine lv_iconst (v := 0) hx hb dM_gives_136 (by decide) ?_
          have e_v : m_gv tx p0 = 0 := by unfold m_gv m_gc; grind
          refine W.widen (k := 0) (n := 0) (Nat.le_refl _) (Nat.le_refl _) ?_
          exact W.iret (v := 0) hx hb hr (fun t ht _ => ⟨_, _, rfl, ⟨by rw [e_v]; rfl, rfl⟩, by rw [ht]; exact hP, hD, hS.F ht⟩) hS.2.2 dM_gives_137
        refine lv_iconst (v := 2) hx hb dM_gives_132 (by decide) ?_
        refine lv_goto (tgt := 137) hx hb dM_gives_133 (by decide) ?_
        have e_v : m_gv tx p0 = 2 := by unfold m_gv m_gc; grind
        refine W.widen (k := 0) (n := 0) (Nat.le_refl _) (Nat.le_refl _) ?_
        exact W.iret (v := 2) hx hb hr (fun t ht _ => ⟨_, _, rfl, ⟨by rw [e_v]; rfl, rfl⟩, by rw [ht]; exact hP, hD, hS.F ht⟩) hS.2.2 dM_gives_137
      refine lv_iload_n hx hb dM_gives_70 rfl (lv_at hl 0 rfl) ?_
      refine lv_bipush (v := 47) hx hb dM_gives_71 (by decide) ?_
      refine lv_icmp_eq (tgt := 112) hx hb dM_gives_73 (by decide) (fun c_35 => ?_) (fun c_35 => ?_)
      · skip
        refine lv_iconst (v := 1) hx hb dM_gives_112 (by decide) ?_
        refine lv_goto (tgt := 117) hx hb dM_gives_113 (by decide) ?_
        refine lv_istore_n (lv' := [(2, .int 1), (1, .int (m_at tx (sh_skip tx p0))), (0, .ref am)]) hx hb dM_gives_117 rfl hl (by decide) rfl (fun ls hl => ?_)
        refine lv_iload_n hx hb dM_gives_118 rfl (lv_at hl 0 rfl) ?_
        refine lv_if_eq (tgt := 136) hx hb dM_gives_119 (by decide) (fun c_36 => ?_) (fun c_36 => ?_)
        · skip
          refine lv_iconst (v := 0) hx hb dM_gives_136 (by decide) ?_
          have e_v : m_gv tx p0 = 0 := by unfold m_gv m_gc; grind
          refine W.widen (k := 0) (n := 0) (Nat.le_refl _) (Nat.le_refl _) ?_
          exact W.iret (v := 0) hx hb hr (fun t ht _ => ⟨_, _, rfl, ⟨by rw [e_v]; rfl, rfl⟩, by rw [ht]; exact hP, hD, hS.F ht⟩) hS.2.2 dM_gives_137
        refine lv_aload_n hx hb dM_gives_122 rfl (lv_at hl 2 rfl) ?_
        refine lv_iconst (v := 1) hx hb dM_gives_123 (by decide) ?_
        refine xw_topi (y := nI 1) (rfl) ?_
        refine rq_call (va_runV (As := [.int (nI 1)]) (rest := []) ⟨hx, hb, hml, hown, htz⟩ (k_M_at l dC dI kI kJ kZ am bT bU bS b1 b2 bL bK bV bN bX bA bB bH cd fsz (nI tx.length) (nI (sh_skip tx p0)) ne bd wa hi my gd wr hs nu fT fU fS f1 f2 fL fN fX fA fB fH fK fV tl tx (sh_skip tx p0) hx3 hfu hsl 1 (by decide)) (cwV 1 htz (zg_V zw_3_80 zw_3_82 zs_M_at zw_1_4 zw_3_83) rfl rfl rfl (by decide +kernel) ⟨Nat.le_of_ble_eq_true rfl, Nat.le_of_ble_eq_true rfl⟩) (zR_V hP hK hN (va_recv hK hP (ci := 4) (q0 := 0) rfl rfl)) rfl rfl hl.1 rfl (lv_room (Nat.le_of_ble_eq_true rfl)) dM_gives_124 ⟨Nat.zero_le _, Nat.zero_le _⟩) ?_
        refine W.eq (g2 := F0 m 127 ls [.int (m_at tx (sh_skip tx p0 + 1))]) rfl ?_
        refine lv_bipush (v := 61) hx hb dM_gives_127 (by decide) ?_
        refine lv_icmp_ne (tgt := 136) hx hb dM_gives_129 (by decide) (fun c_37 => ?_) (fun c_37 => ?_)
        · skip
          refine lv_iconst (v := 0) hx hb dM_gives_136 (by decide) ?_
          have e_v : m_gv tx p0 = 0 := by unfold m_gv m_gc; grind
          refine W.widen (k := 0) (n := 0) (Nat.le_refl _) (Nat.le_refl _) ?_
          exact W.iret (v := 0) hx hb hr (fun t ht _ => ⟨_, _, rfl, ⟨by rw [e_v]; rfl, rfl⟩, by rw [ht]; exact hP, hD, hS.F ht⟩) hS.2.2 dM_gives_137
        refine lv_iconst (v := 2) hx hb dM_gives_132 (by decide) ?_
        refine lv_goto (tgt := 137) hx hb dM_gives_133 (by decide) ?_
        have e_v : m_gv tx p0 = 2 := by unfold m_gv m_gc; grind
        refine W.widen (k := 0) (n := 0) (Nat.le_refl _) (Nat.le_refl _) ?_
        exact W.iret (v := 2) hx hb hr (fun t ht _ => ⟨_, _, rfl, ⟨by rw [e_v]; rfl, rfl⟩, by rw [ht]; exact hP, hD, hS.F ht⟩) hS.2.2 dM_gives_137
      refine lv_iload_n hx hb dM_gives_76 rfl (lv_at hl 0 rfl) ?_
      refine lv_bipush (v := 37) hx hb dM_gives_77 (by decide) ?_
      refine lv_icmp_eq (tgt := 112) hx hb dM_gives_79 (by decide) (fun c_38 => ?_) (fun c_38 => ?_)
      · skip
        refine lv_iconst (v := 1) hx hb dM_gives_112 (by decide) ?_
        refine lv_goto (tgt := 117) hx hb dM_gives_113 (by decide) ?_
        refine lv_istore_n (lv' := [(2, .int 1), (1, .int (m_at tx (sh_skip tx p0))), (0, .ref am)]) hx hb dM_gives_117 rfl hl (by decide) rfl (fun ls hl => ?_)
        refine lv_iload_n hx hb dM_gives_118 rfl (lv_at hl 0 rfl) ?_
        refine lv_if_eq (tgt := 136) hx hb dM_gives_119 (by decide) (fun c_39 => ?_) (fun c_39 => ?_)
        · skip
          refine lv_iconst (v := 0) hx hb dM_gives_136 (by decide) ?_
          have e_v : m_gv tx p0 = 0 := by unfold m_gv m_gc; grind
          refine W.widen (k := 0) (n := 0) (Nat.le_refl _) (Nat.le_refl _) ?_
          exact W.iret (v := 0) hx hb hr (fun t ht _ => ⟨_, _, rfl, ⟨by rw [e_v]; rfl, rfl⟩, by rw [ht]; exact hP, hD, hS.F ht⟩) hS.2.2 dM_gives_137
        refine lv_aload_n hx hb dM_gives_122 rfl (lv_at hl 2 rfl) ?_
        refine lv_iconst (v := 1) hx hb dM_gives_123 (by decide) ?_
        refine xw_topi (y := nI 1) (rfl) ?_
        refine rq_call (va_runV (As := [.int (nI 1)]) (rest := []) ⟨hx, hb, hml, hown, htz⟩ (k_M_at l dC dI kI kJ kZ am bT bU bS b1 b2 bL bK bV bN bX bA bB bH cd fsz (nI tx.length) (nI (sh_skip tx p0)) ne bd wa hi my gd wr hs nu fT fU fS f1 f2 fL fN fX fA fB fH fK fV tl tx (sh_skip tx p0) hx3 hfu hsl 1 (by decide)) (cwV 1 htz (zg_V zw_3_80 zw_3_82 zs_M_at zw_1_4 zw_3_83) rfl rfl rfl (by decide +kernel) ⟨Nat.le_of_ble_eq_true rfl, Nat.le_of_ble_eq_true rfl⟩) (zR_V hP hK hN (va_recv hK hP (ci := 4) (q0 := 0) rfl rfl)) rfl rfl hl.1 rfl (lv_room (Nat.le_of_ble_eq_true rfl)) dM_gives_124 ⟨Nat.zero_le _, Nat.zero_le _⟩) ?_
        refine W.eq (g2 := F0 m 127 ls [.int (m_at tx (sh_skip tx p0 + 1))]) rfl ?_
        refine lv_bipush (v := 61) hx hb dM_gives_127 (by decide) ?_
        refine lv_icmp_ne (tgt := 136) hx hb dM_gives_129 (by decide) (fun c_40 => ?_) (fun c_40 => ?_)
        · skip
          refine lv_iconst (v := 0) hx hb dM_gives_136 (by decide) ?_
          have e_v : m_gv tx p0 = 0 := by unfold m_gv m_gc; grind
          refine W.widen (k := 0) (n := 0) (Nat.le_refl _) (Nat.le_refl _) ?_
          exact W.iret (v := 0) hx hb hr (fun t ht _ => ⟨_, _, rfl, ⟨by rw [e_v]; rfl, rfl⟩, by rw [ht]; exact hP, hD, hS.F ht⟩) hS.2.2 dM_gives_137
        refine lv_iconst (v := 2) hx hb dM_gives_132 (by decide) ?_
        refine lv_goto (tgt := 137) hx hb dM_gives_133 (by decide) ?_
        have e_v : m_gv tx p0 = 2 := by unfold m_gv m_gc; grind
        refine W.widen (k := 0) (n := 0) (Nat.le_refl _) (Nat.le_refl _) ?_
        exact W.iret (v := 2) hx hb hr (fun t ht _ => ⟨_, _, rfl, ⟨by rw [e_v]; rfl, rfl⟩, by rw [ht]; exact hP, hD, hS.F ht⟩) hS.2.2 dM_gives_137
      refine lv_iload_n hx hb dM_gives_82 rfl (lv_at hl 0 rfl) ?_
      refine lv_bipush (v := 43) hx hb dM_gives_83 (by decide) ?_
      refine lv_icmp_eq (tgt := 112) hx hb dM_gives_85 (by decide) (fun c_41 => ?_) (fun c_41 => ?_)
      · skip
        refine lv_iconst (v := 1) hx hb dM_gives_112 (by decide) ?_
        refine lv_goto (tgt := 117) hx hb dM_gives_113 (by decide) ?_
        refine lv_istore_n (lv' := [(2, .int 1), (1, .int (m_at tx (sh_skip tx p0))), (0, .ref am)]) hx hb dM_gives_117 rfl hl (by decide) rfl (fun ls hl => ?_)
        refine lv_iload_n hx hb dM_gives_118 rfl (lv_at hl 0 rfl) ?_
        refine lv_if_eq (tgt := 136) hx hb dM_gives_119 (by decide) (fun c_42 => ?_) (fun c_42 => ?_)
        · skip
          refine lv_iconst (v := 0) hx hb dM_gives_136 (by decide) ?_
          have e_v : m_gv tx p0 = 0 := by unfold m_gv m_gc; grind
          refine W.widen (k := 0) (n := 0) (Nat.le_refl _) (Nat.le_refl _) ?_
          exact W.iret (v := 0) hx hb hr (fun t ht _ => ⟨_, _, rfl, ⟨by rw [e_v]; rfl, rfl⟩, by rw [ht]; exact hP, hD, hS.F ht⟩) hS.2.2 dM_gives_137
        refine lv_aload_n hx hb dM_gives_122 rfl (lv_at hl 2 rfl) ?_
        refine lv_iconst (v := 1) hx hb dM_gives_123 (by decide) ?_
        refine xw_topi (y := nI 1) (rfl) ?_
        refine rq_call (va_runV (As := [.int (nI 1)]) (rest := []) ⟨hx, hb, hml, hown, htz⟩ (k_M_at l dC dI kI kJ kZ am bT bU bS b1 b2 bL bK bV bN bX bA bB bH cd fsz (nI tx.length) (nI (sh_skip tx p0)) ne bd wa hi my gd wr hs nu fT fU fS f1 f2 fL fN fX fA fB fH fK fV tl tx (sh_skip tx p0) hx3 hfu hsl 1 (by decide)) (cwV 1 htz (zg_V zw_3_80 zw_3_82 zs_M_at zw_1_4 zw_3_83) rfl rfl rfl (by decide +kernel) ⟨Nat.le_of_ble_eq_true rfl, Nat.le_of_ble_eq_true rfl⟩) (zR_V hP hK hN (va_recv hK hP (ci := 4) (q0 := 0) rfl rfl)) rfl rfl hl.1 rfl (lv_room (Nat.le_of_ble_eq_true rfl)) dM_gives_124 ⟨Nat.zero_le _, Nat.zero_le _⟩) ?_
        refine W.eq (g2 := F0 m 127 ls [.int (m_at tx (sh_skip tx p0 + 1))]) rfl ?_
        refine lv_bipush (v := 61) hx hb dM_gives_127 (by decide) ?_
        refine lv_icmp_ne (tgt := 136) hx hb dM_gives_129 (by decide) (fun c_43 => ?_) (fun c_43 => ?_)
        · skip
          refine lv_iconst (v := 0) hx hb dM_gives_136 (by decide) ?_
          have e_v : m_gv tx p0 = 0 := by unfold m_gv m_gc; grind
          refine W.widen (k := 0) (n := 0) (Nat.le_refl _) (Nat.le_refl _) ?_
          exact W.iret (v := 0) hx hb hr (fun t ht _ => ⟨_, _, rfl, ⟨by rw [e_v]; rfl, rfl⟩, by rw [ht]; exact hP, hD, hS.F ht⟩) hS.2.2 dM_gives_137
        refine lv_iconst (v := 2) hx hb dM_gives_132 (by decide) ?_
        refine lv_goto (tgt := 137) hx hb dM_gives_133 (by decide) ?_
        have e_v : m_gv tx p0 = 2 := by unfold m_gv m_gc; grind
        refine W.widen (k := 0) (n := 0) (Nat.le_refl _) (Nat.le_refl _) ?_
        exact W.iret (v := 2) hx hb hr (fun t ht _ => ⟨_, _, rfl, ⟨by rw [e_v]; rfl, rfl⟩, by rw [ht]; exact hP, hD, hS.F ht⟩) hS.2.2 dM_gives_137
      refine lv_iload_n hx hb dM_gives_88 rfl (lv_at hl 0 rfl) ?_
      refine lv_bipush (v := 45) hx hb dM_gives_89 (by decide) ?_
      refine lv_icmp_eq (tgt := 112) hx hb dM_gives_91 (by decide) (fun c_44 => ?_) (fun c_44 => ?_)
      · skip
        refine lv_iconst (v := 1) hx hb dM_gives_112 (by decide) ?_
        refine lv_goto (tgt := 117) hx hb dM_gives_113 (by decide) ?_
        refine lv_istore_n (lv' := [(2, .int 1), (1, .int (m_at tx (sh_skip tx p0))), (0, .ref am)]) hx hb dM_gives_117 rfl hl (by decide) rfl (fun ls hl => ?_)
        refine lv_iload_n hx hb dM_gives_118 rfl (lv_at hl 0 rfl) ?_
        refine lv_if_eq (tgt := 136) hx hb dM_gives_119 (by decide) (fun c_45 => ?_) (fun c_45 => ?_)
        · skip
          refine lv_iconst (v := 0) hx hb dM_gives_136 (by decide) ?_
          have e_v : m_gv tx p0 = 0 := by unfold m_gv m_gc; grind
          refine W.widen (k := 0) (n := 0) (Nat.le_refl _) (Nat.le_refl _) ?_
          exact W.iret (v := 0) hx hb hr (fun t ht _ => ⟨_, _, rfl, ⟨by rw [e_v]; rfl, rfl⟩, by rw [ht]; exact hP, hD, hS.F ht⟩) hS.2.2 dM_gives_137
        refine lv_aload_n hx hb dM_gives_122 rfl (lv_at hl 2 rfl) ?_
        refine lv_iconst (v := 1) hx hb dM_gives_123 (by decide) ?_
        refine xw_topi (y := nI 1) (rfl) ?_
        refine rq_call (va_runV (As := [.int (nI 1)]) (rest := []) ⟨hx, hb, hml, hown, htz⟩ (k_M_at l dC dI kI kJ kZ am bT bU bS b1 b2 bL bK bV bN bX bA bB bH cd fsz (nI tx.length) (nI (sh_skip tx p0)) ne bd wa hi my gd wr hs nu fT fU fS f1 f2 fL fN fX fA fB fH fK fV tl tx (sh_skip tx p0) hx3 hfu hsl 1 (by decide)) (cwV 1 htz (zg_V zw_3_80 zw_3_82 zs_M_at zw_1_4 zw_3_83) rfl rfl rfl (by decide +kernel) ⟨Nat.le_of_ble_eq_true rfl, Nat.le_of_ble_eq_true rfl⟩) (zR_V hP hK hN (va_recv hK hP (ci := 4) (q0 := 0) rfl rfl)) rfl rfl hl.1 rfl (lv_room (Nat.le_of_ble_eq_true rfl)) dM_gives_124 ⟨Nat.zero_le _, Nat.zero_le _⟩) ?_
        refine W.eq (g2 := F0 m 127 ls [.int (m_at tx (sh_skip tx p0 + 1))]) rfl ?_
        refine lv_bipush (v := 61) hx hb dM_gives_127 (by decide) ?_
        refine lv_icmp_ne (tgt := 136) hx hb dM_gives_129 (by decide) (fun c_46 => ?_) (fun c_46 => ?_)
        · skip
          refine lv_iconst (v := 0) hx hb dM_gives_136 (by decide) ?_
          have e_v : m_gv tx p0 = 0 := by unfold m_gv m_gc; grind
          refine W.widen (k := 0) (n := 0) (Nat.le_refl _) (Nat.le_refl _) ?_
          exact W.iret (v := 0) hx hb hr (fun t ht _ => ⟨_, _, rfl, ⟨by rw [e_v]; rfl, rfl⟩, by rw [ht]; exact hP, hD, hS.F ht⟩) hS.2.2 dM_gives_137
        refine lv_iconst (v := 2) hx hb dM_gives_132 (by decide) ?_
        refine lv_goto (tgt := 137) hx hb dM_gives_133 (by decide) ?_
        have e_v : m_gv tx p0 = 2 := by unfold m_gv m_gc; grind
        refine W.widen (k := 0) (n := 0) (Nat.le_refl _) (Nat.le_refl _) ?_
        exact W.iret (v := 2) hx hb hr (fun t ht _ => ⟨_, _, rfl, ⟨by rw [e_v]; rfl, rfl⟩, by rw [ht]; exact hP, hD, hS.F ht⟩) hS.2.2 dM_gives_137
      refine lv_iload_n hx hb dM_gives_94 rfl (lv_at hl 0 rfl) ?_
      refine lv_bipush (v := 38) hx hb dM_gives_95 (by decide) ?_
      refine lv_icmp_eq (tgt := 112) hx hb dM_gives_97 (by decide) (fun c_47 => ?_) (fun c_47 => ?_)
      · skip
        refine lv_iconst (v := 1) hx hb dM_gives_112 (by decide) ?_
        refine lv_goto (tgt := 117) hx hb dM_gives_113 (by decide) ?_
        refine lv_istore_n (lv' := [(2, .int 1), (1, .int (m_at tx (sh_skip tx p0))), (0, .ref am)]) hx hb dM_gives_117 rfl hl (by decide) rfl (fun ls hl => ?_)
        refine lv_iload_n hx hb dM_gives_118 rfl (lv_at hl 0 rfl) ?_
        refine lv_if_eq (tgt := 136) hx hb dM_gives_119 (by decide) (fun c_48 => ?_) (fun c_48 => ?_)
        · skip
          refine lv_iconst (v := 0) hx hb dM_gives_136 (by decide) ?_
          have e_v : m_gv tx p0 = 0 := by unfold m_gv m_gc; grind
          refine W.widen (k := 0) (n := 0) (Nat.le_refl _) (Nat.le_refl _) ?_
          exact W.iret (v := 0) hx hb hr (fun t ht _ => ⟨_, _, rfl, ⟨by rw [e_v]; rfl, rfl⟩, by rw [ht]; exact hP, hD, hS.F ht⟩) hS.2.2 dM_gives_137
        refine lv_aload_n hx hb dM_gives_122 rfl (lv_at hl 2 rfl) ?_
        refine lv_iconst (v := 1) hx hb dM_gives_123 (by decide) ?_
        refine xw_topi (y := nI 1) (rfl) ?_
        refine rq_call (va_runV (As := [.int (nI 1)]) (rest := []) ⟨hx, hb, hml, hown, htz⟩ (k_M_at l dC dI kI kJ kZ am bT bU bS b1 b2 bL bK bV bN bX bA bB bH cd fsz (nI tx.length) (nI (sh_skip tx p0)) ne bd wa hi my gd wr hs nu fT fU fS f1 f2 fL fN fX fA fB fH fK fV tl tx (sh_skip tx p0) hx3 hfu hsl 1 (by decide)) (cwV 1 htz (zg_V zw_3_80 zw_3_82 zs_M_at zw_1_4 zw_3_83) rfl rfl rfl (by decide +kernel) ⟨Nat.le_of_ble_eq_true rfl, Nat.le_of_ble_eq_true rfl⟩) (zR_V hP hK hN (va_recv hK hP (ci := 4) (q0 := 0) rfl rfl)) rfl rfl hl.1 rfl (lv_room (Nat.le_of_ble_eq_true rfl)) dM_gives_124 ⟨Nat.zero_le _, Nat.zero_le _⟩) ?_
        refine W.eq (g2 := F0 m 127 ls [.int (m_at tx (sh_skip tx p0 + 1))]) rfl ?_
        refine lv_bipush (v := 61) hx hb dM_gives_127 (by decide) ?_
        refine lv_icmp_ne (tgt := 136) hx hb dM_gives_129 (by decide) (fun c_49 => ?_) (fun c_49 => ?_)
        · skip
          refine lv_iconst (v := 0) hx hb dM_gives_136 (by decide) ?_
          have e_v : m_gv tx p0 = 0 := by unfold m_gv m_gc; grind
          refine W.widen (k := 0) (n := 0) (Nat.le_refl _) (Nat.le_refl _) ?_
          exact W.iret (v := 0) hx hb hr (fun t ht _ => ⟨_, _, rfl, ⟨by rw [e_v]; rfl, rfl⟩, by rw [ht]; exact hP, hD, hS.F ht⟩) hS.2.2 dM_gives_137
        refine lv_iconst (v := 2) hx hb dM_gives_132 (by decide) ?_
        refine lv_goto (tgt := 137) hx hb dM_gives_133 (by decide) ?_
        have e_v : m_gv tx p0 = 2 := by unfold m_gv m_gc; grind
        refine W.widen (k := 0) (n := 0) (Nat.le_refl _) (Nat.le_refl _) ?_
        exact W.iret (v := 2) hx hb hr (fun t ht _ => ⟨_, _, rfl, ⟨by rw [e_v]; rfl, rfl⟩, by rw [ht]; exact hP, hD, hS.F ht⟩) hS.2.2 dM_gives_137
      refine lv_iload_n hx hb dM_gives_100 rfl (lv_at hl 0 rfl) ?_
      refine lv_bipush (v := 94) hx hb dM_gives_101 (by decide) ?_
      refine lv_icmp_eq (tgt := 112) hx hb dM_gives_103 (by decide) (fun c_50 => ?_) (fun c_50 => ?_)
      · skip
        refine lv_iconst (v := 1) hx hb dM_gives_112 (by decide) ?_
        refine lv_goto (tgt := 117) hx hb dM_gives_113 (by decide) ?_
        refine lv_istore_n (lv' := [(2, .int 1), (1, .int (m_at tx (sh_skip tx p0))), (0, .ref am)]) hx hb dM_gives_117 rfl hl (by decide) rfl (fun ls hl => ?_)
        refine lv_iload_n hx hb dM_gives_118 rfl (lv_at hl 0 rfl) ?_
        refine lv_if_eq (tgt := 136) hx hb dM_gives_119 (by decide) (fun c_51 => ?_) (fun c_51 => ?_)
        · skip
          refine lv_iconst (v := 0) hx hb dM_gives_136 (by decide) ?_
          have e_v : m_gv tx p0 = 0 := by unfold m_gv m_gc; grind
          refine W.widen (k := 0) (n := 0) (Nat.le_refl _) (Nat.le_refl _) ?_
          exact W.iret (v := 0) hx hb hr (fun t ht _ => ⟨_, _, rfl, ⟨by rw [e_v]; rfl, rfl⟩, by rw [ht]; exact hP, hD, hS.F ht⟩) hS.2.2 dM_gives_137
        refine lv_aload_n hx hb dM_gives_122 rfl (lv_at hl 2 rfl) ?_
        refine lv_iconst (v := 1) hx hb dM_gives_123 (by decide) ?_
        refine xw_topi (y := nI 1) (rfl) ?_
        refine rq_call (va_runV (As := [.int (nI 1)]) (rest := []) ⟨hx, hb, hml, hown, htz⟩ (k_M_at l dC dI kI kJ kZ am bT bU bS b1 b2 bL bK bV bN bX bA bB bH cd fsz (nI tx.length) (nI (sh_skip tx p0)) ne bd wa hi my gd wr hs nu fT fU fS f1 f2 fL fN fX fA fB fH fK fV tl tx (sh_skip tx p0) hx3 hfu hsl 1 (by decide)) (cwV 1 htz (zg_V zw_3_80 zw_3_82 zs_M_at zw_1_4 zw_3_83) rfl rfl rfl (by decide +kernel) ⟨Nat.le_of_ble_eq_true rfl, Nat.le_of_ble_eq_true rfl⟩) (zR_V hP hK hN (va_recv hK hP (ci := 4) (q0 := 0) rfl rfl)) rfl rfl hl.1 rfl (lv_room (Nat.le_of_ble_eq_true rfl)) dM_gives_124 ⟨Nat.zero_le _, Nat.zero_le _⟩) ?_
        refine W.eq (g2 := F0 m 127 ls [.int (m_at tx (sh_skip tx p0 + 1))]) rfl ?_
        refine lv_bipush (v := 61) hx hb dM_gives_127 (by decide) ?_
        refine lv_icmp_ne (tgt := 136) hx hb dM_gives_129 (by decide) (fun c_52 => ?_) (fun c_52 => ?_)
        · skip
          refine lv_iconst (v := 0) hx hb dM_gives_136 (by decide) ?_
          have e_v : m_gv tx p0 = 0 := by unfold m_gv m_gc; grind
          refine W.widen (k := 0) (n := 0) (Nat.le_refl _) (Nat.le_refl _) ?_
          exact W.iret (v := 0) hx hb hr (fun t ht _ => ⟨_, _, rfl, ⟨by rw [e_v]; rfl, rfl⟩, by rw [ht]; exact hP, hD, hS.F ht⟩) hS.2.2 dM_gives_137
        refine lv_iconst (v := 2) hx hb dM_gives_132 (by decide) ?_
        refine lv_goto (tgt := 137) hx hb dM_gives_133 (by decide) ?_
        have e_v : m_gv tx p0 = 2 := by unfold m_gv m_gc; grind
        refine W.widen (k := 0) (n := 0) (Nat.le_refl _) (Nat.le_refl _) ?_
        exact W.iret (v := 2) hx hb hr (fun t ht _ => ⟨_, _, rfl, ⟨by rw [e_v]; rfl, rfl⟩, by rw [ht]; exact hP, hD, hS.F ht⟩) hS.2.2 dM_gives_137
      refine lv_iload_n hx hb dM_gives_106 rfl (lv_at hl 0 rfl) ?_
      refine lv_bipush (v := 124) hx hb dM_gives_107 (by decide) ?_
      refine lv_icmp_ne (tgt := 116) hx hb dM_gives_109 (by decide) (fun c_53 => ?_) (fun c_53 => ?_)
      · skip
        refine lv_iconst (v := 0) hx hb dM_gives_116 (by decide) ?_
        refine lv_istore_n (lv' := [(2, .int 0), (1, .int (m_at tx (sh_skip tx p0))), (0, .ref am)]) hx hb dM_gives_117 rfl hl (by decide) rfl (fun ls hl => ?_)
        refine lv_iload_n hx hb dM_gives_118 rfl (lv_at hl 0 rfl) ?_
        refine lv_if_eq (tgt := 136) hx hb dM_gives_119 (by decide) (fun c_54 => ?_) (fun c_54 => ?_)
        · skip
          refine lv_iconst (v := 0) hx hb dM_gives_136 (by decide) ?_
          have e_v : m_gv tx p0 = 0 := by unfold m_gv m_gc; grind
          refine W.widen (k := 0) (n := 0) (Nat.le_refl _) (Nat.le_refl _) ?_
          exact W.iret (v := 0) hx hb hr (fun t ht _ => ⟨_, _, rfl, ⟨by rw [e_v]; rfl, rfl⟩, by rw [ht]; exact hP, hD, hS.F ht⟩) hS.2.2 dM_gives_137
        refine lv_aload_n hx hb dM_gives_122 rfl (lv_at hl 2 rfl) ?_
        refine lv_iconst (v := 1) hx hb dM_gives_123 (by decide) ?_
        refine xw_topi (y := nI 1) (rfl) ?_
        refine rq_call (va_runV (As := [.int (nI 1)]) (rest := []) ⟨hx, hb, hml, hown, htz⟩ (k_M_at l dC dI kI kJ kZ am bT bU bS b1 b2 bL bK bV bN bX bA bB bH cd fsz (nI tx.length) (nI (sh_skip tx p0)) ne bd wa hi my gd wr hs nu fT fU fS f1 f2 fL fN fX fA fB fH fK fV tl tx (sh_skip tx p0) hx3 hfu hsl 1 (by decide)) (cwV 1 htz (zg_V zw_3_80 zw_3_82 zs_M_at zw_1_4 zw_3_83) rfl rfl rfl (by decide +kernel) ⟨Nat.le_of_ble_eq_true rfl, Nat.le_of_ble_eq_true rfl⟩) (zR_V hP hK hN (va_recv hK hP (ci := 4) (q0 := 0) rfl rfl)) rfl rfl hl.1 rfl (lv_room (Nat.le_of_ble_eq_true rfl)) dM_gives_124 ⟨Nat.zero_le _, Nat.zero_le _⟩) ?_
        refine W.eq (g2 := F0 m 127 ls [.int (m_at tx (sh_skip tx p0 + 1))]) rfl ?_
        refine lv_bipush (v := 61) hx hb dM_gives_127 (by decide) ?_
        refine lv_icmp_ne (tgt := 136) hx hb dM_gives_129 (by decide) (fun c_55 => ?_) (fun c_55 => ?_)
        · skip
          refine lv_iconst (v := 0) hx hb dM_gives_136 (by decide) ?_
          have e_v : m_gv tx p0 = 0 := by unfold m_gv m_gc; grind
          refine W.widen (k := 0) (n := 0) (Nat.le_refl _) (Nat.le_refl _) ?_
          exact W.iret (v := 0) hx hb hr (fun t ht _ => ⟨_, _, rfl, ⟨by rw [e_v]; rfl, rfl⟩, by rw [ht]; exact hP, hD, hS.F ht⟩) hS.2.2 dM_gives_137
        refine lv_iconst (v := 2) hx hb dM_gives_132 (by decide) ?_
        refine lv_goto (tgt := 137) hx hb dM_gives_133 (by decide) ?_
        have e_v : m_gv tx p0 = 2 := by unfold m_gv m_gc; grind
        refine W.widen (k := 0) (n := 0) (Nat.le_refl _) (Nat.le_refl _) ?_
        exact W.iret (v := 2) hx hb hr (fun t ht _ => ⟨_, _, rfl, ⟨by rw [e_v]; rfl, rfl⟩, by rw [ht]; exact hP, hD, hS.F ht⟩) hS.2.2 dM_gives_137
      refine lv_iconst (v := 1) hx hb dM_gives_112 (by decide) ?_
      refine lv_goto (tgt := 117) hx hb dM_gives_113 (by decide) ?_
      refine lv_istore_n (lv' := [(2, .int 1), (1, .int (m_at tx (sh_skip tx p0))), (0, .ref am)]) hx hb dM_gives_117 rfl hl (by decide) rfl (fun ls hl => ?_)
      refine lv_iload_n hx hb dM_gives_118 rfl (lv_at hl 0 rfl) ?_
      refine lv_if_eq (tgt := 136) hx hb dM_gives_119 (by decide) (fun c_56 => ?_) (fun c_56 => ?_)
      · skip
        refine lv_iconst (v := 0) hx hb dM_gives_136 (by decide) ?_
        have e_v : m_gv tx p0 = 0 := by unfold m_gv m_gc; grind
        refine W.widen (k := 0) (n := 0) (Nat.le_refl _) (Nat.le_refl _) ?_
        exact W.iret (v := 0) hx hb hr (fun t ht _ => ⟨_, _, rfl, ⟨by rw [e_v]; rfl, rfl⟩, by rw [ht]; exact hP, hD, hS.F ht⟩) hS.2.2 dM_gives_137
      refine lv_aload_n hx hb dM_gives_122 rfl (lv_at hl 2 rfl) ?_
      refine lv_iconst (v := 1) hx hb dM_gives_123 (by decide) ?_
      refine xw_topi (y := nI 1) (rfl) ?_
      refine rq_call (va_runV (As := [.int (nI 1)]) (rest := []) ⟨hx, hb, hml, hown, htz⟩ (k_M_at l dC dI kI kJ kZ am bT bU bS b1 b2 bL bK bV bN bX bA bB bH cd fsz (nI tx.length) (nI (sh_skip tx p0)) ne bd wa hi my gd wr hs nu fT fU fS f1 f2 fL fN fX fA fB fH fK fV tl tx (sh_skip tx p0) hx3 hfu hsl 1 (by decide)) (cwV 1 htz (zg_V zw_3_80 zw_3_82 zs_M_at zw_1_4 zw_3_83) rfl rfl rfl (by decide +kernel) ⟨Nat.le_of_ble_eq_true rfl, Nat.le_of_ble_eq_true rfl⟩) (zR_V hP hK hN (va_recv hK hP (ci := 4) (q0 := 0) rfl rfl)) rfl rfl hl.1 rfl (lv_room (Nat.le_of_ble_eq_true rfl)) dM_gives_124 ⟨Nat.zero_le _, Nat.zero_le _⟩) ?_
      refine W.eq (g2 := F0 m 127 ls [.int (m_at tx (sh_skip tx p0 + 1))]) rfl ?_
      refine lv_bipush (v := 61) hx hb dM_gives_127 (by decide) ?_
      refine lv_icmp_ne (tgt := 136) hx hb dM_gives_129 (by decide) (fun c_57 => ?_) (fun c_57 => ?_)
      · skip
        refine lv_iconst (v := 0) hx hb dM_gives_136 (by decide) ?_
        have e_v : m_gv tx p0 = 0 := by unfold m_gv m_gc; grind
        refine W.widen (k := 0) (n := 0) (Nat.le_refl _) (Nat.le_refl _) ?_
        exact W.iret (v := 0) hx hb hr (fun t ht _ => ⟨_, _, rfl, ⟨by rw [e_v]; rfl, rfl⟩, by rw [ht]; exact hP, hD, hS.F ht⟩) hS.2.2 dM_gives_137
      refine lv_iconst (v := 2) hx hb dM_gives_132 (by decide) ?_
      refine lv_goto (tgt := 137) hx hb dM_gives_133 (by decide) ?_
      have e_v : m_gv tx p0 = 2 := by unfold m_gv m_gc; grind
      refine W.widen (k := 0) (n := 0) (Nat.le_refl _) (Nat.le_refl _) ?_
      exact W.iret (v := 2) hx hb hr (fun t ht _ => ⟨_, _, rfl, ⟨by rw [e_v]; rfl, rfl⟩, by rw [ht]; exact hP, hD, hS.F ht⟩) hS.2.2 dM_gives_137
    refine lv_aload_n hx hb dM_gives_39 rfl (lv_at hl 1 rfl) ?_
    refine lv_iconst (v := 1) hx hb dM_gives_40 (by decide) ?_
    refine xw_topi (y := nI 1) (rfl) ?_
    refine rq_call (va_runV (As := [.int (nI 1)]) (rest := []) ⟨hx, hb, hml, hown, htz⟩ (k_M_at l dC dI kI kJ kZ am bT bU bS b1 b2 bL bK bV bN bX bA bB bH cd fsz (nI tx.length) (nI (sh_skip tx p0)) ne bd wa hi my gd wr hs nu fT fU fS f1 f2 fL fN fX fA fB fH fK fV tl tx (sh_skip tx p0) hx3 hfu hsl 1 (by decide)) (cwV 1 htz (zg_V zw_3_80 zw_3_82 zs_M_at zw_1_4 zw_3_83) rfl rfl rfl (by decide +kernel) ⟨Nat.le_of_ble_eq_true rfl, Nat.le_of_ble_eq_true rfl⟩) (zR_V hP hK hN (va_recv hK hP (ci := 4) (q0 := 0) rfl rfl)) rfl rfl hl.1 rfl (lv_room (Nat.le_of_ble_eq_true rfl)) dM_gives_41 ⟨Nat.zero_le _, Nat.zero_le _⟩) ?_
    refine W.eq (g2 := F0 m 44 ls [.int (m_at tx (sh_skip tx p0 + 1))]) rfl ?_
    refine lv_iload_n hx hb dM_gives_44 rfl (lv_at hl 0 rfl) ?_
    refine lv_icmp_ne (tgt := 64) hx hb dM_gives_45 (by decide) (fun c_58 => ?_) (fun c_58 => ?_)
    · skip
      refine lv_iload_n hx hb dM_gives_64 rfl (lv_at hl 0 rfl) ?_
      refine lv_bipush (v := 42) hx hb dM_gives_65 (by decide) ?_
      refine lv_icmp_eq (tgt := 112) hx hb dM_gives_67 (by decide) (fun c_59 => ?_) (fun c_59 => ?_)
      · skip
        refine lv_iconst (v := 1) hx hb dM_gives_112 (by decide) ?_
        refine lv_goto (tgt := 117) hx hb dM_gives_113 (by decide) ?_
        refine lv_istore_n (lv' := [(2, .int 1), (1, .int (m_at tx (sh_skip tx p0))), (0, .ref am)]) hx hb dM_gives_117 rfl hl (by decide) rfl (fun ls hl => ?_)
        refine lv_iload_n hx hb dM_gives_118 rfl (lv_at hl 0 rfl) ?_
        refine lv_if_eq (tgt := 136) hx hb dM_gives_119 (by decide) (fun c_60 => ?_) (fun c_60 => ?_)
        · skip
          refine lv_iconst (v := 0) hx hb dM_gives_136 (by decide) ?_
          have e_v : m_gv tx p0 = 0 := by unfold m_gv m_gc; grind
          refine W.widen (k := 0) (n := 0) (Nat.le_refl _) (Nat.le_refl _) ?_
          exact W.iret (v := 0) hx hb hr (fun t ht _ => ⟨_, _, rfl, ⟨by rw [e_v]; rfl, rfl⟩, by rw [ht]; exact hP, hD, hS.F ht⟩) hS.2.2 dM_gives_137
        refine lv_aload_n hx hb dM_gives_122 rfl (lv_at hl 2 rfl) ?_
        refine lv_iconst (v := 1) hx hb dM_gives_123 (by decide) ?_
        refine xw_topi (y := nI 1) (rfl) ?_
        refine rq_call (va_runV (As := [.int (nI 1)]) (rest := []) ⟨hx, hb, hml, hown, htz⟩ (k_M_at l dC dI kI kJ kZ am bT bU bS b1 b2 bL bK bV bN bX bA bB bH cd fsz (nI tx.length) (nI (sh_skip tx p0)) ne bd wa hi my gd wr hs nu fT fU fS f1 f2 fL fN fX fA fB fH fK fV tl tx (sh_skip tx p0) hx3 hfu hsl 1 (by decide)) (cwV 1 htz (zg_V zw_3_80 zw_3_82 zs_M_at zw_1_4 zw_3_83) rfl rfl rfl (by decide +kernel) ⟨Nat.le_of_ble_eq_true rfl, Nat.le_of_ble_eq_true rfl⟩) (zR_V hP hK hN (va_recv hK hP (ci := 4) (q0 := 0) rfl rfl)) rfl rfl hl.1 rfl (lv_room (Nat.le_of_ble_eq_true rfl)) dM_gives_124 ⟨Nat.zero_le _, Nat.zero_le _⟩) ?_
        refine W.eq (g2 := F0 m 127 ls [.int (m_at tx (sh_skip tx p0 + 1))]) rfl ?_
        refine lv_bipush (v := 61) hx hb dM_gives_127 (by decide) ?_
        refine lv_icmp_ne (tgt := 136) hx hb dM_gives_129 (by decide) (fun c_61 => ?_) (fun c_61 => ?_)
        · skip
          refine lv_iconst (v := 0) hx hb dM_gives_136 (by decide) ?_
          have e_v : m_gv tx p0 = 0 := by unfold m_gv m_gc; grind
          refine W.widen (k := 0) (n := 0) (Nat.le_refl _) (Nat.le_refl _) ?_
          exact W.iret (v := 0) hx hb hr (fun t ht _ => ⟨_, _, rfl, ⟨by rw [e_v]; rfl, rfl⟩, by rw [ht]; exact hP, hD, hS.F ht⟩) hS.2.2 dM_gives_137
        refine lv_iconst (v := 2) hx hb dM_gives_132 (by decide) ?_
        refine lv_goto (tgt := 137) hx hb dM_gives_133 (by decide) ?_
        have e_v : m_gv tx p0 = 2 := by unfold m_gv m_gc; grind
        refine W.widen (k := 0) (n := 0) (Nat.le_refl _) (Nat.le_refl _) ?_
        exact W.iret (v := 2) hx hb hr (fun t ht _ => ⟨_, _, rfl, ⟨by rw [e_v]; rfl, rfl⟩, by rw [ht]; exact hP, hD, hS.F ht⟩) hS.2.2 dM_gives_137
      refine lv_iload_n hx hb dM_gives_70 rfl (lv_at hl 0 rfl) ?_
      refine lv_bipush (v := 47) hx hb dM_gives_71 (by decide) ?_
      refine lv_icmp_eq (tgt := 112) hx hb dM_gives_73 (by decide) (fun c_62 => ?_) (fun c_62 => ?_)
      · skip
        refine lv_iconst (v := 1) hx hb dM_gives_112 (by decide) ?_
        refine lv_goto (tgt := 117) hx hb dM_gives_113 (by decide) ?_
        refine lv_istore_n (lv' := [(2, .int 1), (1, .int (m_at tx (sh_skip tx p0))), (0, .ref am)]) hx hb dM_gives_117 rfl hl (by decide) rfl (fun ls hl => ?_)
        refine lv_iload_n hx hb dM_gives_118 rfl (lv_at hl 0 rfl) ?_
        refine lv_if_eq (tgt := 136) hx hb dM_gives_119 (by decide) (fun c_63 => ?_) (fun c_63 => ?_)
        · skip
          refine lv_iconst (v := 0) hx hb dM_gives_136 (by decide) ?_
          have e_v : m_gv tx p0 = 0 := by unfold m_gv m_gc; grind
          refine W.widen (k := 0) (n := 0) (Nat.le_refl _) (Nat.le_refl _) ?_
          exact W.iret (v := 0) hx hb hr (fun t ht _ => ⟨_, _, rfl, ⟨by rw [e_v]; rfl, rfl⟩, by rw [ht]; exact hP, hD, hS.F ht⟩) hS.2.2 dM_gives_137
        refine lv_aload_n hx hb dM_gives_122 rfl (lv_at hl 2 rfl) ?_
        refine lv_iconst (v := 1) hx hb dM_gives_123 (by decide) ?_
        refine xw_topi (y := nI 1) (rfl) ?_
        refine rq_call (va_runV (As := [.int (nI 1)]) (rest := []) ⟨hx, hb, hml, hown, htz⟩ (k_M_at l dC dI kI kJ kZ am bT bU bS b1 b2 bL bK bV bN bX bA bB bH cd fsz (nI tx.length) (nI (sh_skip tx p0)) ne bd wa hi my gd wr hs nu fT fU fS f1 f2 fL fN fX fA fB fH fK fV tl tx (sh_skip tx p0) hx3 hfu hsl 1 (by decide)) (cwV 1 htz (zg_V zw_3_80 zw_3_82 zs_M_at zw_1_4 zw_3_83) rfl rfl rfl (by decide +kernel) ⟨Nat.le_of_ble_eq_true rfl, Nat.le_of_ble_eq_true rfl⟩) (zR_V hP hK hN (va_recv hK hP (ci := 4) (q0 := 0) rfl rfl)) rfl rfl hl.1 rfl (lv_room (Nat.le_of_ble_eq_true rfl)) dM_gives_124 ⟨Nat.zero_le _, Nat.zero_le _⟩) ?_
        refine W.eq (g2 := F0 m 127 ls [.int (m_at tx (sh_skip tx p0 + 1))]) rfl ?_
        refine lv_bipush (v := 61) hx hb dM_gives_127 (by decide) ?_
        refine lv_icmp_ne (tgt := 136) hx hb dM_gives_129 (by decide) (fun c_64 => ?_) (fun c_64 => ?_)
        · skip
          refine lv_iconst (v := 0) hx hb dM_gives_136 (by decide) ?_
          have e_v : m_gv tx p0 = 0 := by unfold m_gv m_gc; grind
          refine W.widen (k := 0) (n := 0) (Nat.le_refl _) (Nat.le_refl _) ?_
          exact W.iret (v := 0) hx hb hr (fun t ht _ => ⟨_, _, rfl, ⟨by rw [e_v]; rfl, rfl⟩, by rw [ht]; exact hP, hD, hS.F ht⟩) hS.2.2 dM_gives_137
        refine lv_iconst (v := 2) hx hb dM_gives_132 (by decide) ?_
        refine lv_goto (tgt := 137) hx hb dM_gives_133 (by decide) ?_
        have e_v : m_gv tx p0 = 2 := by unfold m_gv m_gc; grind
        refine W.widen (k := 0) (n := 0) (Nat.le_refl _) (Nat.le_refl _) ?_
        exact W.iret (v := 2) hx hb hr (fun t ht _ => ⟨_, _, rfl, ⟨by rw [e_v]; rfl, rfl⟩, by rw [ht]; exact hP, hD, hS.F ht⟩) hS.2.2 dM_gives_137
      refine lv_iload_n hx hb dM_gives_76 rfl (lv_at hl 0 rfl) ?_
      refine lv_bipush (v := 37) hx hb dM_gives_77 (by decide) ?_
      refine lv_icmp_eq (tgt := 112) hx hb dM_gives_79 (by decide) (fun c_65 => ?_) (fun c_65 => ?_)
      · skip
        refine lv_iconst (v := 1) hx hb dM_gives_112 (by decide) ?_
        refine lv_goto (tgt := 117) hx hb dM_gives_113 (by decide) ?_
        refine lv_istore_n (lv' := [(2, .int 1), (1, .int (m_at tx (sh_skip tx p0))), (0, .ref am)]) hx hb dM_gives_117 rfl hl (by decide) rfl (fun ls hl => ?_)
        refine lv_iload_n hx hb dM_gives_118 rfl (lv_at hl 0 rfl) ?_
        refine lv_if_eq (tgt := 136) hx hb dM_gives_119 (by decide) (fun c_66 => ?_) (fun c_66 => ?_)
        · skip
          refine lv_iconst (v := 0) hx hb dM_gives_136 (by decide) ?_
          have e_v : m_gv tx p0 = 0 := by unfold m_gv m_gc; grind
          refine W.widen (k := 0) (n := 0) (Nat.le_refl _) (Nat.le_refl _) ?_
          exact W.iret (v := 0) hx hb hr (fun t ht _ => ⟨_, _, rfl, ⟨by rw [e_v]; rfl, rfl⟩, by rw [ht]; exact hP, hD, hS.F ht⟩) hS.2.2 dM_gives_137
        refine lv_aload_n hx hb dM_gives_122 rfl (lv_at hl 2 rfl) ?_
        refine lv_iconst (v := 1) hx hb dM_gives_123 (by decide) ?_
        refine xw_topi (y := nI 1) (rfl) ?_
        refine rq_call (va_runV (As := [.int (nI 1)]) (rest := []) ⟨hx, hb, hml, hown, htz⟩ (k_M_at l dC dI kI kJ kZ am bT bU bS b1 b2 bL bK bV bN bX bA bB bH cd fsz (nI tx.length) (nI (sh_skip tx p0)) ne bd wa hi my gd wr hs nu fT fU fS f1 f2 fL fN fX fA fB fH fK fV tl tx (sh_skip tx p0) hx3 hfu hsl 1 (by decide)) (cwV 1 htz (zg_V zw_3_80 zw_3_82 zs_M_at zw_1_4 zw_3_83) rfl rfl rfl (by decide +kernel) ⟨Nat.le_of_ble_eq_true rfl, Nat.le_of_ble_eq_true rfl⟩) (zR_V hP hK hN (va_recv hK hP (ci := 4) (q0 := 0) rfl rfl)) rfl rfl hl.1 rfl (lv_room (Nat.le_of_ble_eq_true rfl)) dM_gives_124 ⟨Nat.zero_le _, Nat.zero_le _⟩) ?_
        refine W.eq (g2 := F0 m 127 ls [.int (m_at tx (sh_skip tx p0 + 1))]) rfl ?_
        refine lv_bipush (v := 61) hx hb dM_gives_127 (by decide) ?_
        refine lv_icmp_ne (tgt := 136) hx hb dM_gives_129 (by decide) (fun c_67 => ?_) (fun c_67 => ?_)
        · skip
          refine lv_iconst (v := 0) hx hb dM_gives_136 (by decide) ?_
          have e_v : m_gv tx p0 = 0 := by unfold m_gv m_gc; grind
          refine W.widen (k := 0) (n := 0) (Nat.le_refl _) (Nat.le_refl _) ?_
          exact W.iret (v := 0) hx hb hr (fun t ht _ => ⟨_, _, rfl, ⟨by rw [e_v]; rfl, rfl⟩, by rw [ht]; exact hP, hD, hS.F ht⟩) hS.2.2 dM_gives_137
        refine lv_iconst (v := 2) hx hb dM_gives_132 (by decide) ?_
        refine lv_goto (tgt := 137) hx hb dM_gives_133 (by decide) ?_
        have e_v : m_gv tx p0 = 2 := by unfold m_gv m_gc; grind
        refine W.widen (k := 0) (n := 0) (Nat.le_refl _) (Nat.le_refl _) ?_
        exact W.iret (v := 2) hx hb hr (fun t ht _ => ⟨_, _, rfl, ⟨by rw [e_v]; rfl, rfl⟩, by rw [ht]; exact hP, hD, hS.F ht⟩) hS.2.2 dM_gives_137
      refine lv_iload_n hx hb dM_gives_82 rfl (lv_at hl 0 rfl) ?_
      refine lv_bipush (v := 43) hx hb dM_gives_83 (by decide) ?_
      refine lv_icmp_eq (tgt := 112) hx hb dM_gives_85 (by decide) (fun c_68 => ?_) (fun c_68 => ?_)
      · skip
        refine lv_iconst (v := 1) hx hb dM_gives_112 (by decide) ?_
        refine lv_goto (tgt := 117) hx hb dM_gives_113 (by decide) ?_
        refine lv_istore_n (lv' := [(2, .int 1), (1, .int (m_at tx (sh_skip tx p0))), (0, .ref am)]) hx hb dM_gives_117 rfl hl (by decide) rfl (fun ls hl => ?_)
        refine lv_iload_n hx hb dM_gives_118 rfl (lv_at hl 0 rfl) ?_
        refine lv_if_eq (tgt := 136) hx hb dM_gives_119 (by decide) (fun c_69 => ?_) (fun c_69 => ?_)
        · skip
          refine lv_iconst (v := 0) hx hb dM_gives_136 (by decide) ?_
          have e_v : m_gv tx p0 = 0 := by unfold m_gv m_gc; grind
          refine W.widen (k := 0) (n := 0) (Nat.le_refl _) (Nat.le_refl _) ?_
          exact W.iret (v := 0) hx hb hr (fun t ht _ => ⟨_, _, rfl, ⟨by rw [e_v]; rfl, rfl⟩, by rw [ht]; exact hP, hD, hS.F ht⟩) hS.2.2 dM_gives_137
        refine lv_aload_n hx hb dM_gives_122 rfl (lv_at hl 2 rfl) ?_
        refine lv_iconst (v := 1) hx hb dM_gives_123 (by decide) ?_
        refine xw_topi (y := nI 1) (rfl) ?_
        refine rq_call (va_runV (As := [.int (nI 1)]) (rest := []) ⟨hx, hb, hml, hown, htz⟩ (k_M_at l dC dI kI kJ kZ am bT bU bS b1 b2 bL bK bV bN bX bA bB bH cd fsz (nI tx.length) (nI (sh_skip tx p0)) ne bd wa hi my gd wr hs nu fT fU fS f1 f2 fL fN fX fA fB fH fK fV tl tx (sh_skip tx p0) hx3 hfu hsl 1 (by decide)) (cwV 1 htz (zg_V zw_3_80 zw_3_82 zs_M_at zw_1_4 zw_3_83) rfl rfl rfl (by decide +kernel) ⟨Nat.le_of_ble_eq_true rfl, Nat.le_of_ble_eq_true rfl⟩) (zR_V hP hK hN (va_recv hK hP (ci := 4) (q0 := 0) rfl rfl)) rfl rfl hl.1 rfl (lv_room (Nat.le_of_ble_eq_true rfl)) dM_gives_124 ⟨Nat.zero_le _, Nat.zero_le _⟩) ?_
        refine W.eq (g2 := F0 m 127 ls [.int (m_at tx (sh_skip tx p0 + 1))]) rfl ?_
        refine lv_bipush (v := 61) hx hb dM_gives_127 (by decide) ?_
        refine lv_icmp_ne (tgt := 136) hx hb dM_gives_129 (by decide) (fun c_70 => ?_) (fun c_70 => ?_)
        · skip
          refine lv_iconst (v := 0) hx hb dM_gives_136 (by decide) ?_
          have e_v : m_gv tx p0 = 0 := by unfold m_gv m_gc; grind
          refine W.widen (k := 0) (n := 0) (Nat.le_refl _) (Nat.le_refl _) ?_
          exact W.iret (v := 0) hx hb hr (fun t ht _ => ⟨_, _, rfl, ⟨by rw [e_v]; rfl, rfl⟩, by rw [ht]; exact hP, hD, hS.F ht⟩) hS.2.2 dM_gives_137
        refine lv_iconst (v := 2) hx hb dM_gives_132 (by decide) ?_
        refine lv_goto (tgt := 137) hx hb dM_gives_133 (by decide) ?_
        have e_v : m_gv tx p0 = 2 := by unfold m_gv m_gc; grind
        refine W.widen (k := 0) (n := 0) (Nat.le_refl _) (Nat.le_refl _) ?_
        exact W.iret (v := 2) hx hb hr (fun t ht _ => ⟨_, _, rfl, ⟨by rw [e_v]; rfl, rfl⟩, by rw [ht]; exact hP, hD, hS.F ht⟩) hS.2.2 dM_gives_137
      refine lv_iload_n hx hb dM_gives_88 rfl (lv_at hl 0 rfl) ?_
      refine lv_bipush (v := 45) hx hb dM_gives_89 (by decide) ?_
      refine lv_icmp_eq (tgt := 112) hx hb dM_gives_91 (by decide) (fun c_71 => ?_) (fun c_71 => ?_)
      · skip
        refine lv_iconst (v := 1) hx hb dM_gives_112 (by decide) ?_
        refine lv_goto (tgt := 117) hx hb dM_gives_113 (by decide) ?_
        refine lv_istore_n (lv' := [(2, .int 1), (1, .int (m_at tx (sh_skip tx p0))), (0, .ref am)]) hx hb dM_gives_117 rfl hl (by decide) rfl (fun ls hl => ?_)
        refine lv_iload_n hx hb dM_gives_118 rfl (lv_at hl 0 rfl) ?_
        refine lv_if_eq (tgt := 136) hx hb dM_gives_119 (by decide) (fun c_72 => ?_) (fun c_72 => ?_)
        · skip
          refine lv_iconst (v := 0) hx hb dM_gives_136 (by decide) ?_
          have e_v : m_gv tx p0 = 0 := by unfold m_gv m_gc; grind
          refine W.widen (k := 0) (n := 0) (Nat.le_refl _) (Nat.le_refl _) ?_
          exact W.iret (v := 0) hx hb hr (fun t ht _ => ⟨_, _, rfl, ⟨by rw [e_v]; rfl, rfl⟩, by rw [ht]; exact hP, hD, hS.F ht⟩) hS.2.2 dM_gives_137
        refine lv_aload_n hx hb dM_gives_122 rfl (lv_at hl 2 rfl) ?_
        refine lv_iconst (v := 1) hx hb dM_gives_123 (by decide) ?_
        refine xw_topi (y := nI 1) (rfl) ?_
        refine rq_call (va_runV (As := [.int (nI 1)]) (rest := []) ⟨hx, hb, hml, hown, htz⟩ (k_M_at l dC dI kI kJ kZ am bT bU bS b1 b2 bL bK bV bN bX bA bB bH cd fsz (nI tx.length) (nI (sh_skip tx p0)) ne bd wa hi my gd wr hs nu fT fU fS f1 f2 fL fN fX fA fB fH fK fV tl tx (sh_skip tx p0) hx3 hfu hsl 1 (by decide)) (cwV 1 htz (zg_V zw_3_80 zw_3_82 zs_M_at zw_1_4 zw_3_83) rfl rfl rfl (by decide +kernel) ⟨Nat.le_of_ble_eq_true rfl, Nat.le_of_ble_eq_true rfl⟩) (zR_V hP hK hN (va_recv hK hP (ci := 4) (q0 := 0) rfl rfl)) rfl rfl hl.1 rfl (lv_room (Nat.le_of_ble_eq_true rfl)) dM_gives_124 ⟨Nat.zero_le _, Nat.zero_le _⟩) ?_
        refine W.eq (g2 := F0 m 127 ls [.int (m_at tx (sh_skip tx p0 + 1))]) rfl ?_
        refine lv_bipush (v := 61) hx hb dM_gives_127 (by decide) ?_
        refine lv_icmp_ne (tgt := 136) hx hb dM_gives_129 (by decide) (fun c_73 => ?_) (fun c_73 => ?_)
        · skip
          refine lv_iconst (v := 0) hx hb dM_gives_136 (by decide) ?_
          have e_v : m_gv tx p0 = 0 := by unfold m_gv m_gc; grind
          refine W.widen (k := 0) (n := 0) (Nat.le_refl _) (Nat.le_refl _) ?_
          exact W.iret (v := 0) hx hb hr (fun t ht _ => ⟨_, _, rfl, ⟨by rw [e_v]; rfl, rfl⟩, by rw [ht]; exact hP, hD, hS.F ht⟩) hS.2.2 dM_gives_137
        refine lv_iconst (v := 2) hx hb dM_gives_132 (by decide) ?_
        refine lv_goto (tgt := 137) hx hb dM_gives_133 (by decide) ?_
        have e_v : m_gv tx p0 = 2 := by unfold m_gv m_gc; grind
        refine W.widen (k := 0) (n := 0) (Nat.le_refl _) (Nat.le_refl _) ?_
        exact W.iret (v := 2) hx hb hr (fun t ht _ => ⟨_, _, rfl, ⟨by rw [e_v]; rfl, rfl⟩, by rw [ht]; exact hP, hD, hS.F ht⟩) hS.2.2 dM_gives_137
      refine lv_iload_n hx hb dM_gives_94 rfl (lv_at hl 0 rfl) ?_
      refine lv_bipush (v := 38) hx hb dM_gives_95 (by decide) ?_
      refine lv_icmp_eq (tgt := 112) hx hb dM_gives_97 (by decide) (fun c_74 => ?_) (fun c_74 => ?_)
      · skip
        refine lv_iconst (v := 1) hx hb dM_gives_112 (by decide) ?_
        refine lv_goto (tgt := 117) hx hb dM_gives_113 (by decide) ?_
        refine lv_istore_n (lv' := [(2, .int 1), (1, .int (m_at tx (sh_skip tx p0))), (0, .ref am)]) hx hb dM_gives_117 rfl hl (by decide) rfl (fun ls hl => ?_)
        refine lv_iload_n hx hb dM_gives_118 rfl (lv_at hl 0 rfl) ?_
        refine lv_if_eq (tgt := 136) hx hb dM_gives_119 (by decide) (fun c_75 => ?_) (fun c_75 => ?_)
        · skip
          refine lv_iconst (v := 0) hx hb dM_gives_136 (by decide) ?_
          have e_v : m_gv tx p0 = 0 := by unfold m_gv m_gc; grind
          refine W.widen (k := 0) (n := 0) (Nat.le_refl _) (Nat.le_refl _) ?_
          exact W.iret (v := 0) hx hb hr (fun t ht _ => ⟨_, _, rfl, ⟨by rw [e_v]; rfl, rfl⟩, by rw [ht]; exact hP, hD, hS.F ht⟩) hS.2.2 dM_gives_137
        refine lv_aload_n hx hb dM_gives_122 rfl (lv_at hl 2 rfl) ?_
        refine lv_iconst (v := 1) hx hb dM_gives_123 (by decide) ?_
        refine xw_topi (y := nI 1) (rfl) ?_
        refine rq_call (va_runV (As := [.int (nI 1)]) (rest := []) ⟨hx, hb, hml, hown, htz⟩ (k_M_at l dC dI kI kJ kZ am bT bU bS b1 b2 bL bK bV bN bX bA bB bH cd fsz (nI tx.length) (nI (sh_skip tx p0)) ne bd wa hi my gd wr hs nu fT fU fS f1 f2 fL fN fX fA fB fH fK fV tl tx (sh_skip tx p0) hx3 hfu hsl 1 (by decide)) (cwV 1 htz (zg_V zw_3_80 zw_3_82 zs_M_at zw_1_4 zw_3_83) rfl rfl rfl (by decide +kernel) ⟨Nat.le_of_ble_eq_true rfl, Nat.le_of_ble_eq_true rfl⟩) (zR_V hP hK hN (va_recv hK hP (ci := 4) (q0 := 0) rfl rfl)) rfl rfl hl.1 rfl (lv_room (Nat.le_of_ble_eq_true rfl)) dM_gives_124 ⟨Nat.zero_le _, Nat.zero_le _⟩) ?_
        refine W.eq (g2 := F0 m 127 ls [.int (m_at tx (sh_skip tx p0 + 1))]) rfl ?_
        refine lv_bipush (v := 61) hx hb dM_gives_127 (by decide) ?_
        refine lv_icmp_ne (tgt := 136) hx hb dM_gives_129 (by decide) (fun c_76 => ?_) (fun c_76 => ?_)
        · skip
          refine lv_iconst (v := 0) hx hb dM_gives_136 (by decide) ?_
          have e_v : m_gv tx p0 = 0 := by unfold m_gv m_gc; grind
          refine W.widen (k := 0) (n := 0) (Nat.le_refl _) (Nat.le_refl _) ?_
          exact W.iret (v := 0) hx hb hr (fun t ht _ => ⟨_, _, rfl, ⟨by rw [e_v]; rfl, rfl⟩, by rw [ht]; exact hP, hD, hS.F ht⟩) hS.2.2 dM_gives_137
        refine lv_iconst (v := 2) hx hb dM_gives_132 (by decide) ?_
        refine lv_goto (tgt := 137) hx hb dM_gives_133 (by decide) ?_
        have e_v : m_gv tx p0 = 2 := by unfold m_gv m_gc; grind
        refine W.widen (k := 0) (n := 0) (Nat.le_refl _) (Nat.le_refl _) ?_
        exact W.iret (v := 2) hx hb hr (fun t ht _ => ⟨_, _, rfl, ⟨by rw [e_v]; rfl, rfl⟩, by rw [ht]; exact hP, hD, hS.F ht⟩) hS.2.2 dM_gives_137
      refine lv_iload_n hx hb dM_gives_100 rfl (lv_at hl 0 rfl) ?_
      refine lv_bipush (v := 94) hx hb dM_gives_101 (by decide) ?_
      refine lv_icmp_eq (tgt := 112) hx hb dM_gives_103 (by decide) (fun c_77 => ?_) (fun c_77 => ?_)
      · skip
        refine lv_iconst (v := 1) hx hb dM_gives_112 (by decide) ?_
        refine lv_goto (tgt := 117) hx hb dM_gives_113 (by decide) ?_
        refine lv_istore_n (lv' := [(2, .int 1), (1, .int (m_at tx (sh_skip tx p0))), (0, .ref am)]) hx hb dM_gives_117 rfl hl (by decide) rfl (fun ls hl => ?_)
        refine lv_iload_n hx hb dM_gives_118 rfl (lv_at hl 0 rfl) ?_
        refine lv_if_eq (tgt := 136) hx hb dM_gives_119 (by decide) (fun c_78 => ?_) (fun c_78 => ?_)
        · skip
          refine lv_iconst (v := 0) hx hb dM_gives_136 (by decide) ?_
          have e_v : m_gv tx p0 = 0 := by unfold m_gv m_gc; grind
          refine W.widen (k := 0) (n := 0) (Nat.le_refl _) (Nat.le_refl _) ?_
          exact W.iret (v := 0) hx hb hr (fun t ht _ => ⟨_, _, rfl, ⟨by rw [e_v]; rfl, rfl⟩, by rw [ht]; exact hP, hD, hS.F ht⟩) hS.2.2 dM_gives_137
        refine lv_aload_n hx hb dM_gives_122 rfl (lv_at hl 2 rfl) ?_
        refine lv_iconst (v := 1) hx hb dM_gives_123 (by decide) ?_
        refine xw_topi (y := nI 1) (rfl) ?_
        refine rq_call (va_runV (As := [.int (nI 1)]) (rest := []) ⟨hx, hb, hml, hown, htz⟩ (k_M_at l dC dI kI kJ kZ am bT bU bS b1 b2 bL bK bV bN bX bA bB bH cd fsz (nI tx.length) (nI (sh_skip tx p0)) ne bd wa hi my gd wr hs nu fT fU fS f1 f2 fL fN fX fA fB fH fK fV tl tx (sh_skip tx p0) hx3 hfu hsl 1 (by decide)) (cwV 1 htz (zg_V zw_3_80 zw_3_82 zs_M_at zw_1_4 zw_3_83) rfl rfl rfl (by decide +kernel) ⟨Nat.le_of_ble_eq_true rfl, Nat.le_of_ble_eq_true rfl⟩) (zR_V hP hK hN (va_recv hK hP (ci := 4) (q0 := 0) rfl rfl)) rfl rfl hl.1 rfl (lv_room (Nat.le_of_ble_eq_true rfl)) dM_gives_124 ⟨Nat.zero_le _, Nat.zero_le _⟩) ?_
        refine W.eq (g2 := F0 m 127 ls [.int (m_at tx (sh_skip tx p0 + 1))]) rfl ?_
        refine lv_bipush (v := 61) hx hb dM_gives_127 (by decide) ?_
        refine lv_icmp_ne (tgt := 136) hx hb dM_gives_129 (by decide) (fun c_79 => ?_) (fun c_79 => ?_)
        · skip
          refine lv_iconst (v := 0) hx hb dM_gives_136 (by decide) ?_
          have e_v : m_gv tx p0 = 0 := by unfold m_gv m_gc; grind
          refine W.widen (k := 0) (n := 0) (Nat.le_refl _) (Nat.le_refl _) ?_
          exact W.iret (v := 0) hx hb hr (fun t ht _ => ⟨_, _, rfl, ⟨by rw [e_v]; rfl, rfl⟩, by rw [ht]; exact hP, hD, hS.F ht⟩) hS.2.2 dM_gives_137
        refine lv_iconst (v := 2) hx hb dM_gives_132 (by decide) ?_
        refine lv_goto (tgt := 137) hx hb dM_gives_133 (by decide) ?_
        have e_v : m_gv tx p0 = 2 := by unfold m_gv m_gc; grind
        refine W.widen (k := 0) (n := 0) (Nat.le_refl _) (Nat.le_refl _) ?_
        exact W.iret (v := 2) hx hb hr (fun t ht _ => ⟨_, _, rfl, ⟨by rw [e_v]; rfl, rfl⟩, by rw [ht]; exact hP, hD, hS.F ht⟩) hS.2.2 dM_gives_137
      refine lv_iload_n hx hb dM_gives_106 rfl (lv_at hl 0 rfl) ?_
      refine lv_bipush (v := 124) hx hb dM_gives_107 (by decide) ?_
      refine lv_icmp_ne (tgt := 116) hx hb dM_gives_109 (by decide) (fun c_80 => ?_) (fun c_80 => ?_)
      · skip
        refine lv_iconst (v := 0) hx hb dM_gives_116 (by decide) ?_
        refine lv_istore_n (lv' := [(2, .int 0), (1, .int (m_at tx (sh_skip tx p0))), (0, .ref am)]) hx hb dM_gives_117 rfl hl (by decide) rfl (fun ls hl => ?_)
        refine lv_iload_n hx hb dM_gives_118 rfl (lv_at hl 0 rfl) ?_
        refine lv_if_eq (tgt := 136) hx hb dM_gives_119 (by decide) (fun c_81 => ?_) (fun c_81 => ?_)
        · skip
          refine lv_iconst (v := 0) hx hb dM_gives_136 (by decide) ?_
          have e_v : m_gv tx p0 = 0 := by unfold m_gv m_gc; grind
          refine W.widen (k := 0) (n := 0) (Nat.le_refl _) (Nat.le_refl _) ?_
          exact W.iret (v := 0) hx hb hr (fun t ht _ => ⟨_, _, rfl, ⟨by rw [e_v]; rfl, rfl⟩, by rw [ht]; exact hP, hD, hS.F ht⟩) hS.2.2 dM_gives_137
        refine lv_aload_n hx hb dM_gives_122 rfl (lv_at hl 2 rfl) ?_
        refine lv_iconst (v := 1) hx hb dM_gives_123 (by decide) ?_
        refine xw_topi (y := nI 1) (rfl) ?_
        refine rq_call (va_runV (As := [.int (nI 1)]) (rest := []) ⟨hx, hb, hml, hown, htz⟩ (k_M_at l dC dI kI kJ kZ am bT bU bS b1 b2 bL bK bV bN bX bA bB bH cd fsz (nI tx.length) (nI (sh_skip tx p0)) ne bd wa hi my gd wr hs nu fT fU fS f1 f2 fL fN fX fA fB fH fK fV tl tx (sh_skip tx p0) hx3 hfu hsl 1 (by decide)) (cwV 1 htz (zg_V zw_3_80 zw_3_82 zs_M_at zw_1_4 zw_3_83) rfl rfl rfl (by decide +kernel) ⟨Nat.le_of_ble_eq_true rfl, Nat.le_of_ble_eq_true rfl⟩) (zR_V hP hK hN (va_recv hK hP (ci := 4) (q0 := 0) rfl rfl)) rfl rfl hl.1 rfl (lv_room (Nat.le_of_ble_eq_true rfl)) dM_gives_124 ⟨Nat.zero_le _, Nat.zero_le _⟩) ?_
        refine W.eq (g2 := F0 m 127 ls [.int (m_at tx (sh_skip tx p0 + 1))]) rfl ?_
        refine lv_bipush (v := 61) hx hb dM_gives_127 (by decide) ?_
        refine lv_icmp_ne (tgt := 136) hx hb dM_gives_129 (by decide) (fun c_82 => ?_) (fun c_82 => ?_)
        · skip
          refine lv_iconst (v := 0) hx hb dM_gives_136 (by decide) ?_
          have e_v : m_gv tx p0 = 0 := by unfold m_gv m_gc; grind
          refine W.widen (k := 0) (n := 0) (Nat.le_refl _) (Nat.le_refl _) ?_
          exact W.iret (v := 0) hx hb hr (fun t ht _ => ⟨_, _, rfl, ⟨by rw [e_v]; rfl, rfl⟩, by rw [ht]; exact hP, hD, hS.F ht⟩) hS.2.2 dM_gives_137
        refine lv_iconst (v := 2) hx hb dM_gives_132 (by decide) ?_
        refine lv_goto (tgt := 137) hx hb dM_gives_133 (by decide) ?_
        have e_v : m_gv tx p0 = 2 := by unfold m_gv m_gc; grind
        refine W.widen (k := 0) (n := 0) (Nat.le_refl _) (Nat.le_refl _) ?_
        exact W.iret (v := 2) hx hb hr (fun t ht _ => ⟨_, _, rfl, ⟨by rw [e_v]; rfl, rfl⟩, by rw [ht]; exact hP, hD, hS.F ht⟩) hS.2.2 dM_gives_137
      refine lv_iconst (v := 1) hx hb dM_gives_112 (by decide) ?_
      refine lv_goto (tgt := 117) hx hb dM_gives_113 (by decide) ?_
      refine lv_istore_n (lv' := [(2, .int 1), (1, .int (m_at tx (sh_skip tx p0))), (0, .ref am)]) hx hb dM_gives_117 rfl hl (by decide) rfl (fun ls hl => ?_)
      refine lv_iload_n hx hb dM_gives_118 rfl (lv_at hl 0 rfl) ?_
      refine lv_if_eq (tgt := 136) hx hb dM_gives_119 (by decide) (fun c_83 => ?_) (fun c_83 => ?_)
      · skip
        refine lv_iconst (v := 0) hx hb dM_gives_136 (by decide) ?_
        have e_v : m_gv tx p0 = 0 := by unfold m_gv m_gc; grind
        refine W.widen (k := 0) (n := 0) (Nat.le_refl _) (Nat.le_refl _) ?_
        exact W.iret (v := 0) hx hb hr (fun t ht _ => ⟨_, _, rfl, ⟨by rw [e_v]; rfl, rfl⟩, by rw [ht]; exact hP, hD, hS.F ht⟩) hS.2.2 dM_gives_137
      refine lv_aload_n hx hb dM_gives_122 rfl (lv_at hl 2 rfl) ?_
      refine lv_iconst (v := 1) hx hb dM_gives_123 (by decide) ?_
      refine xw_topi (y := nI 1) (rfl) ?_
      refine rq_call (va_runV (As := [.int (nI 1)]) (rest := []) ⟨hx, hb, hml, hown, htz⟩ (k_M_at l dC dI kI kJ kZ am bT bU bS b1 b2 bL bK bV bN bX bA bB bH cd fsz (nI tx.length) (nI (sh_skip tx p0)) ne bd wa hi my gd wr hs nu fT fU fS f1 f2 fL fN fX fA fB fH fK fV tl tx (sh_skip tx p0) hx3 hfu hsl 1 (by decide)) (cwV 1 htz (zg_V zw_3_80 zw_3_82 zs_M_at zw_1_4 zw_3_83) rfl rfl rfl (by decide +kernel) ⟨Nat.le_of_ble_eq_true rfl, Nat.le_of_ble_eq_true rfl⟩) (zR_V hP hK hN (va_recv hK hP (ci := 4) (q0 := 0) rfl rfl)) rfl rfl hl.1 rfl (lv_room (Nat.le_of_ble_eq_true rfl)) dM_gives_124 ⟨Nat.zero_le _, Nat.zero_le _⟩) ?_
      refine W.eq (g2 := F0 m 127 ls [.int (m_at tx (sh_skip tx p0 + 1))]) rfl ?_
      refine lv_bipush (v := 61) hx hb dM_gives_127 (by decide) ?_
      refine lv_icmp_ne (tgt := 136) hx hb dM_gives_129 (by decide) (fun c_84 => ?_) (fun c_84 => ?_)
      · skip
        refine lv_iconst (v := 0) hx hb dM_gives_136 (by decide) ?_
        have e_v : m_gv tx p0 = 0 := by unfold m_gv m_gc; grind
        refine W.widen (k := 0) (n := 0) (Nat.le_refl _) (Nat.le_refl _) ?_
        exact W.iret (v := 0) hx hb hr (fun t ht _ => ⟨_, _, rfl, ⟨by rw [e_v]; rfl, rfl⟩, by rw [ht]; exact hP, hD, hS.F ht⟩) hS.2.2 dM_gives_137
      refine lv_iconst (v := 2) hx hb dM_gives_132 (by decide) ?_
      refine lv_goto (tgt := 137) hx hb dM_gives_133 (by decide) ?_
      have e_v : m_gv tx p0 = 2 := by unfold m_gv m_gc; grind
      refine W.widen (k := 0) (n := 0) (Nat.le_refl _) (Nat.le_refl _) ?_
      exact W.iret (v := 2) hx hb hr (fun t ht _ => ⟨_, _, rfl, ⟨by rw [e_v]; rfl, rfl⟩, by rw [ht]; exact hP, hD, hS.F ht⟩) hS.2.2 dM_gives_137
    refine lv_aload_n hx hb dM_gives_48 rfl (lv_at hl 1 rfl) ?_
    refine lv_iconst (v := 2) hx hb dM_gives_49 (by decide) ?_
    refine xw_topi (y := nI 2) (rfl) ?_
    refine rq_call (va_runV (As := [.int (nI 2)]) (rest := []) ⟨hx, hb, hml, hown, htz⟩ (k_M_at l dC dI kI kJ kZ am bT bU bS b1 b2 bL bK bV bN bX bA bB bH cd fsz (nI tx.length) (nI (sh_skip tx p0)) ne bd wa hi my gd wr hs nu fT fU fS f1 f2 fL fN fX fA fB fH fK fV tl tx (sh_skip tx p0) hx3 hfu hsl 2 (by decide)) (cwV 1 htz (zg_V zw_3_80 zw_3_82 zs_M_at zw_1_4 zw_3_83) rfl rfl rfl (by decide +kernel) ⟨Nat.le_of_ble_eq_true rfl, Nat.le_of_ble_eq_true rfl⟩) (zR_V hP hK hN (va_recv hK hP (ci := 4) (q0 := 0) rfl rfl)) rfl rfl hl.1 rfl (lv_room (Nat.le_of_ble_eq_true rfl)) dM_gives_50 ⟨Nat.zero_le _, Nat.zero_le _⟩) ?_
    refine W.eq (g2 := F0 m 53 ls [.int (m_at tx (sh_skip tx p0 + 2))]) rfl ?_
    refine lv_bipush (v := 61) hx hb dM_gives_53 (by decide) ?_
    refine lv_icmp_ne (tgt := 62) hx hb dM_gives_55 (by decide) (fun c_85 => ?_) (fun c_85 => ?_)
    · skip
      refine lv_iconst (v := 0) hx hb dM_gives_62 (by decide) ?_
      have e_v : m_gv tx p0 = 0 := by unfold m_gv m_gc; grind
      refine W.widen (k := 0) (n := 0) (Nat.le_refl _) (Nat.le_refl _) ?_
      exact W.iret (v := 0) hx hb hr (fun t ht _ => ⟨_, _, rfl, ⟨by rw [e_v]; rfl, rfl⟩, by rw [ht]; exact hP, hD, hS.F ht⟩) hS.2.2 dM_gives_63
    refine lv_iconst (v := 3) hx hb dM_gives_58 (by decide) ?_
    refine lv_goto (tgt := 63) hx hb dM_gives_59 (by decide) ?_
    have e_v : m_gv tx p0 = 3 := by unfold m_gv m_gc; grind
    refine W.widen (k := 0) (n := 0) (Nat.le_refl _) (Nat.le_refl _) ?_
    exact W.iret (v := 3) hx hb hr (fun t ht _ => ⟨_, _, rfl, ⟨by rw [e_v]; rfl, rfl⟩, by rw [ht]; exact hP, hD, hS.F ht⟩) hS.2.2 dM_gives_63
  refine lv_aload_n hx hb dM_gives_11 rfl (lv_at hl 1 rfl) ?_
  refine lv_iconst (v := 1) hx hb dM_gives_12 (by decide) ?_
  refine xw_topi (y := nI 1) (rfl) ?_
  refine rq_call (va_runV (As := [.int (nI 1)]) (rest := []) ⟨hx, hb, hml, hown, htz⟩ (k_M_at l dC dI kI kJ kZ am bT bU bS b1 b2 bL bK bV bN bX bA bB bH cd fsz (nI tx.length) (nI (sh_skip tx p0)) ne bd wa hi my gd wr hs nu fT fU fS f1 f2 fL fN fX fA fB fH fK fV tl tx (sh_skip tx p0) hx3 hfu hsl 1 (by decide)) (cwV 1 htz (zg_V zw_3_80 zw_3_82 zs_M_at zw_1_4 zw_3_83) rfl rfl rfl (by decide +kernel) ⟨Nat.le_of_ble_eq_true rfl, Nat.le_of_ble_eq_true rfl⟩) (zR_V hP hK hN (va_recv hK hP (ci := 4) (q0 := 0) rfl rfl)) rfl rfl hl.1 rfl (lv_room (Nat.le_of_ble_eq_true rfl)) dM_gives_13 ⟨Nat.zero_le _, Nat.zero_le _⟩) ?_
  refine W.eq (g2 := F0 m 16 ls [.int (m_at tx (sh_skip tx p0 + 1))]) rfl ?_
  refine lv_bipush (v := 61) hx hb dM_gives_16 (by decide) ?_
  refine lv_icmp_ne (tgt := 25) hx hb dM_gives_18 (by decide) (fun c_86 => ?_) (fun c_86 => ?_)
  · skip
    refine lv_iconst (v := 1) hx hb dM_gives_25 (by decide) ?_
    have e_v : m_gv tx p0 = 1 := by unfold m_gv m_gc; grind
    refine W.widen (k := 0) (n := 0) (Nat.le_refl _) (Nat.le_refl _) ?_
    exact W.iret (v := 1) hx hb hr (fun t ht _ => ⟨_, _, rfl, ⟨by rw [e_v]; rfl, rfl⟩, by rw [ht]; exact hP, hD, hS.F ht⟩) hS.2.2 dM_gives_26
  refine lv_iconst (v := 0) hx hb dM_gives_21 (by decide) ?_
  refine lv_goto (tgt := 26) hx hb dM_gives_22 (by decide) ?_
  have e_v : m_gv tx p0 = 0 := by unfold m_gv m_gc; grind
  refine W.widen (k := 0) (n := 0) (Nat.le_refl _) (Nat.le_refl _) ?_
  exact W.iret (v := 0) hx hb hr (fun t ht _ => ⟨_, _, rfl, ⟨by rw [e_v]; rfl, rfl⟩, by rw [ht]; exact hP, hD, hS.F ht⟩) hS.2.2 dM_gives_26
set_option maxHeartbeats 4000000 in
set_option maxRecDepth 100000 in
/-- rank() -/
theorem k_M_rank (l : Launch) (dC : Nat → ClassId) (dI : Nat → Nat → Nat) (kI kJ kZ : ClassId) (am bT bU bS b1 b2 bL bK bV bN bX bA bB bH : Nat) (cd fsz ln pl ne bd wa hi my gd wr hs : Int32) (nu : Int64) (fT fU fS f1 f2 fL fN fX fA fB fH : Nat → Int32) (fK fV : Nat → Int64) (tl : va_W) (sz : Nat) (tx : List Int32) (p0 : Nat) (hx3 : tx.length ≤ 300) (hfu : ∀ j, j < tx.length → fU j = sh_at tx j) (hp0 : p0 ≤ tx.length) : Met l yM_rank wsM_rank ({ frames := 1, cells := 0, slots := 0, locals := 30 }) (va_Pc [.ref am] (zW dC dI ([(kI, .int), (kJ, .long), (kZ, .boolean)]) ((am, .inr (4, [.int cd, .ref bT, .ref bU, .int fsz, .int (nI tx.length), .int (nI p0), .int ne, .int bd, .ref bS, .ref b1, .ref b2, .ref bL, .ref bK, .ref bV, .int wa, .int hi, .ref bN, .ref bX, .ref bA, .ref bB, .int my, .int gd, .int wr, .ref bH, .int hs, .long nu])) :: (bT, .inl (kI, 300, .inl fT)) :: (bU, .inl (kI, 300, .inl fU)) :: (bS, .inl (kI, 2000, .inl fS)) :: (b1, .inl (kI, 2000, .inl f1)) :: (b2, .inl (kI, 2000, .inl f2)) :: (bL, .inl (kZ, 2000, .inl fL)) :: (bK, .inl (kJ, 2000, .inr (.inl fK))) :: (bV, .inl (kJ, 400, .inr (.inl fV))) :: (bN, .inl (kI, 19200, .inl fN)) :: (bX, .inl (kI, 1536, .inl fX)) :: (bA, .inl (kI, 64, .inl fA)) :: (bB, .inl (kI, 64, .inl fB)) :: (bH, .inl (kI, 8, .inl fH)) :: tl) sz)) (zQ dC dI (va_A ((am, .inr (4, [.int cd, .ref bT, .ref bU, .int fsz, .int (nI tx.length), .int (nI p0), .int ne, .int bd, .ref bS, .ref b1, .ref b2, .ref bL, .ref bK, .ref bV, .int wa, .int hi, .ref bN, .ref bX, .ref bA, .ref bB, .int my, .int gd, .int wr, .ref bH, .int hs, .long nu])) :: (bT, .inl (kI, 300, .inl fT)) :: (bU, .inl (kI, 300, .inl fU)) :: (bS, .inl (kI, 2000, .inl fS)) :: (b1, .inl (kI, 2000, .inl f1)) :: (b2, .inl (kI, 2000, .inl f2)) :: (bL, .inl (kZ, 2000, .inl fL)) :: (bK, .inl (kJ, 2000, .inr (.inl fK))) :: (bV, .inl (kJ, 400, .inr (.inl fV))) :: (bN, .inl (kI, 19200, .inl fN)) :: (bX, .inl (kI, 1536, .inl fX)) :: (bA, .inl (kI, 64, .inl fA)) :: (bB, .inl (kI, 64, .inl fB)) :: (bH, .inl (kI, 8, .inl fH)) :: tl) sz) (fun v w => v = some (.int (nI (m_rk tx p0))) ∧ w = ((am, .inr (4, [.int cd, .ref bT, .ref bU, .int fsz, .int (nI tx.length), .int (nI (sh_skip tx p0)), .int ne, .int bd, .ref bS, .ref b1, .ref b2, .ref bL, .ref bK, .ref bV, .int wa, .int hi, .ref bN, .ref bX, .ref bA, .ref bB, .int my, .int gd, .int wr, .ref bH, .int hs, .long nu])) :: (bT, .inl (kI, 300, .inl fT)) :: (bU, .inl (kI, 300, .inl fU)) :: (bS, .inl (kI, 2000, .inl fS)) :: (b1, .inl (kI, 2000, .inl f1)) :: (b2, .inl (kI, 2000, .inl f2)) :: (bL, .inl (kZ, 2000, .inl fL)) :: (bK, .inl (kJ, 2000, .inr (.inl fK))) :: (bV, .inl (kJ, 400, .inr (.inl fV))) :: (bN, .inl (kI, 19200, .inl fN)) :: (bX, .inl (kI, 1536, .inl fX)) :: (bA, .inl (kI, 64, .inl fA)) :: (bB, .inl (kI, 64, .inl fB)) :: (bH, .inl (kI, 8, .inl fH)) :: tl))) 0 0 (va_A ((am, .inr (4, [.int cd, .ref bT, .ref bU, .int fsz, .int (nI tx.length), .int (nI p0), .int ne, .int bd, .ref bS, .ref b1, .ref b2, .ref bL, .ref bK, .ref bV, .int wa, .int hi, .ref bN, .ref bX, .ref bA, .ref bB, .int my, .int gd, .int wr, .ref bH, .int hs, .long nu])) :: (bT, .inl (kI, 300, .inl fT)) :: (bU, .inl (kI, 300, .inl fU)) :: (bS, .inl (kI, 2000, .inl fS)) :: (b1, .inl (kI, 2000, .inl f1)) :: (b2, .inl (kI, 2000, .inl f2)) :: (bL, .inl (kZ, 2000, .inl fL)) :: (bK, .inl (kJ, 2000, .inr (.inl fK))) :: (bV, .inl (kJ, 400, .inr (.inl fV))) :: (bN, .inl (kI, 19200, .inl fN)) :: (bX, .inl (kI, 1536, .inl fX)) :: (bA, .inl (kI, 64, .inl fA)) :: (bB, .inl (kI, 64, .inl fB)) :: (bH, .inl (kI, 8, .inl fH)) :: tl) sz) := by
  refine Met.ofW (cc := cM_rank) (maxL := 3) (ret := (some .int)) (by decide) rfl ?_
  intro p e s m args below meth c s₁ B hml hv
  obtain ⟨rfl, hsz, hP, hK, hD0, hN⟩ := hv
  subst hsz
  have hD := hD0.self (sz := s.heap.size)
  generalize hAe : va_A ((am, .inr (4, [.int cd, .ref bT, .ref bU, .int fsz, .int (nI tx.length), .int (nI p0), .int ne, .int bd, .ref bS, .ref b1, .ref b2, .ref bL, .ref bK, .ref bV, .int wa, .int hi, .ref bN, .ref bX, .ref bA, .ref bB, .int my, .int gd, .int wr, .ref bH, .int hs, .long nu])) :: (bT, .inl (kI, 300, .inl fT)) :: (bU, .inl (kI, 300, .inl fU)) :: (bS, .inl (kI, 2000, .inl fS)) :: (b1, .inl (kI, 2000, .inl f1)) :: (b2, .inl (kI, 2000, .inl f2)) :: (bL, .inl (kZ, 2000, .inl fL)) :: (bK, .inl (kJ, 2000, .inr (.inl fK))) :: (bV, .inl (kJ, 400, .inr (.inl fV))) :: (bN, .inl (kI, 19200, .inl fN)) :: (bX, .inl (kI, 1536, .inl fX)) :: (bA, .inl (kI, 64, .inl fA)) :: (bB, .inl (kI, 64, .inl fB)) :: (bH, .inl (kI, 8, .inl fH)) :: tl) s.heap.size = A at hD ⊢
  have hA : ∀ q : Nat, s.heap.size ≤ q → A q := fun q h => by rw [← hAe]; exact Or.inr h
  have hS : va_S A s.heap s.heap [] := va_S.rf
  have hx := B.exec
  have hb := B.bytes
  have hr := B.returns
  have htz : ∀ w ∈ zw, w.before _ s = true := fun w h => atoms_spec (ws := wsM_rank) B.pre w (List.mem_cons_of_mem _ h)
  have hown : s.vm.findClass "ShellSumModel" = some m.cls := findClass_of_methodNamed B.named
  have hlocks := B.notSynchronized
  have hl := lv_entry ([.ref am]) (n := 3) (Nat.le_of_ble_eq_true rfl)
  rw [lg_entry_eq]
  generalize (lg_sl ([.ref am]) ++ List.replicate (3 - (lg_sl ([.ref am])).length) Slot.unset).toArray = ls at hl ⊢
  have hsl := sh_skip_le hp0
  have hl : lv_has ls 3 [(0, .ref am)] := hl
  refine lv_aload_n hx hb dM_rank_0 rfl (lv_at hl 0 rfl) ?_
  refine zQ_call (va_runV (As := []) (rest := []) ⟨hx, hb, hml, hown, htz⟩ (k_M_sign l dC dI kI kJ kZ am bT bU bS b1 b2 bL bK bV bN bX bA bB bH cd fsz (nI tx.length) (nI p0) ne bd wa hi my gd wr hs nu fT fU fS f1 f2 fL fN fX fA fB fH fK fV tl _ tx p0 hx3 hfu hp0) (cwV 0 htz (zg_V zw_3_52 zw_3_54 zs_M_sign zw_1_4 zw_3_55) rfl rfl rfl (by decide +kernel) ⟨Nat.le_of_ble_eq_true rfl, Nat.le_of_ble_eq_true rfl⟩) (zW_V hP hK hD hN (va_recv hK hP (ci := 4) (q0 := 0) rfl rfl)) rfl rfl hl.1 rfl (lv_room (Nat.le_of_ble_eq_true rfl)) dM_rank_1 ⟨Nat.zero_le _, Nat.zero_le _⟩) hD hS hA (fun v w H locs hp hP hD hS => ?_)
  obtain ⟨rfl, hw⟩ := hp
  rw [hw] at hP hD
  have hP : va_P (dC, dI) vwCl ((am, .inr (4, [.int cd, .ref bT, .ref bU, .int fsz, .int (nI tx.length), .int (nI (sh_skip tx p0)), .int ne, .int bd, .ref bS, .ref b1, .ref b2, .ref bL, .ref bK, .ref bV, .int wa, .int hi, .ref bN, .ref bX, .ref bA, .ref bB, .int my, .int gd, .int wr, .ref bH, .int hs, .long nu])) :: (bT, .inl (kI, 300, .inl fT)) :: (bU, .inl (kI, 300, .inl fU)) :: (bS, .inl (kI, 2000, .inl fS)) :: (b1, .inl (kI, 2000, .inl f1)) :: (b2, .inl (kI, 2000, .inl f2)) :: (bL, .inl (kZ, 2000, .inl fL)) :: (bK, .inl (kJ, 2000, .inr (.inl fK))) :: (bV, .inl (kJ, 400, .inr (.inl fV))) :: (bN, .inl (kI, 19200, .inl fN)) :: (bX, .inl (kI, 1536, .inl fX)) :: (bA, .inl (kI, 64, .inl fA)) :: (bB, .inl (kI, 64, .inl fB)) :: (bH, .inl (kI, 8, .inl fH)) :: tl) _ := hP
  have hD : va_D A ((am, .inr (4, [.int cd, .ref bT, .ref bU, .int fsz, .int (nI tx.length), .int (nI (sh_skip tx p0)), .int ne, .int bd, .ref bS, .ref b1, .ref b2, .ref bL, .ref bK, .ref bV, .int wa, .int hi, .ref bN, .ref bX, .ref bA, .ref bB, .int my, .int gd, .int wr, .ref bH, .int hs, .long nu])) :: (bT, .inl (kI, 300, .inl fT)) :: (bU, .inl (kI, 300, .inl fU)) :: (bS, .inl (kI, 2000, .inl fS)) :: (b1, .inl (kI, 2000, .inl f1)) :: (b2, .inl (kI, 2000, .inl f2)) :: (bL, .inl (kZ, 2000, .inl fL)) :: (bK, .inl (kJ, 2000, .inr (.inl fK))) :: (bV, .inl (kJ, 400, .inr (.inl fV))) :: (bN, .inl (kI, 19200, .inl fN)) :: (bX, .inl (kI, 1536, .inl fX)) :: (bA, .inl (kI, 64, .inl fA)) :: (bB, .inl (kI, 64, .inl fB)) :: (bH, .inl (kI, 8, .inl fH)) :: tl) := hD
  refine W.eq (g2 := F0 m 4 ls [.int (m_at tx (sh_skip tx p0))]) rfl ?_
  refine lv_istore_n (lv' := [(1, .int (m_at tx (sh_skip tx p0))), (0, .ref am)]) hx hb dM_rank_4 rfl hl (by decide) rfl (fun ls hl => ?_)
  refine lv_aload_n hx hb dM_rank_5 rfl (lv_at hl 1 rfl) ?_
  refine lv_iconst (v := 1) hx hb dM_rank_6 (by decide) ?_
  refine xw_topi (y := nI 1) (rfl) ?_
  refine rq_call (va_runV (As := [.int (nI 1)]) (rest := []) ⟨hx, hb, hml, hown, htz⟩ (k_M_at l dC dI kI kJ kZ am bT bU bS b1 b2 bL bK bV bN bX bA bB bH cd fsz (nI tx.length) (nI (sh_skip tx p0)) ne bd wa hi my gd wr hs nu fT fU fS f1 f2 fL fN fX fA fB fH fK fV tl tx (sh_skip tx p0) hx3 hfu hsl 1 (by decide)) (cwV 1 htz (zg_V zw_3_80 zw_3_82 zs_M_at zw_1_4 zw_3_83) rfl rfl rfl (by decide +kernel) ⟨Nat.le_of_ble_eq_true rfl, Nat.le_of_ble_eq_true rfl⟩) (zR_V hP hK hN (va_recv hK hP (ci := 4) (q0 := 0) rfl rfl)) rfl rfl hl.1 rfl (lv_room (Nat.le_of_ble_eq_true rfl)) dM_rank_7 ⟨Nat.zero_le _, Nat.zero_le _⟩) ?_
  refine W.eq (g2 := F0 m 10 ls [.int (m_at tx (sh_skip tx p0 + 1))]) rfl ?_
  refine lv_istore_n (lv' := [(2, .int (m_at tx (sh_skip tx p0 + 1))), (1, .int (m_at tx (sh_skip tx p0))), (0, .ref am)]) hx hb dM_rank_10 rfl hl (by decide) rfl (fun ls hl => ?_)
  refine lv_iload_n hx hb dM_rank_11 rfl (lv_at hl 1 rfl) ?_
  refine lv_bipush (v := 124) hx hb dM_rank_12 (by decide) ?_
  refine lv_icmp_ne (tgt := 39) hx hb dM_rank_14 (by decide) (fun c_1 => ?_) (fun c_1 => ?_)
  · skip
    refine lv_iload_n hx hb dM_rank_39 rfl (lv_at hl 1 rfl) ?_
    refine lv_bipush (v := 38) hx hb dM_rank_40 (by decide) ?_
    refine lv_icmp_ne (tgt := 67) hx hb dM_rank_42 (by decide) (fun c_2 => ?_) (fun c_2 => ?_)
    · skip
      refine lv_iload_n hx hb dM_rank_67 rfl (lv_at hl 1 rfl) ?_
      refine lv_bipush (v := 94) hx hb dM_rank_68 (by decide) ?_
      refine lv_icmp_ne (tgt := 85) hx hb dM_rank_70 (by decide) (fun c_3 => ?_) (fun c_3 => ?_)
      · skip
        refine lv_iload_n hx hb dM_rank_85 rfl (lv_at hl 1 rfl) ?_
        refine lv_bipush (v := 61) hx hb dM_rank_86 (by decide) ?_
        refine lv_icmp_eq (tgt := 97) hx hb dM_rank_88 (by decide) (fun c_4 => ?_) (fun c_4 => ?_)
        · skip
          refine lv_iload_n hx hb dM_rank_97 rfl (lv_at hl 0 rfl) ?_
          refine lv_bipush (v := 61) hx hb dM_rank_98 (by decide) ?_
          refine lv_icmp_ne (tgt := 108) hx hb dM_rank_100 (by decide) (fun c_5 => ?_) (fun c_5 => ?_)
          · skip
            refine lv_iconst (v := 0) hx hb dM_rank_108 (by decide) ?_
            have e_v : m_rk tx p0 = 0 := by unfold m_rk m_rc; grind
            refine W.widen (k := 0) (n := 0) (Nat.le_refl _) (Nat.le_refl _) ?_
            exact W.iret (v := 0) hx hb hr (fun t ht _ => ⟨_, _, rfl, ⟨by rw [e_v]; rfl, rfl⟩, by rw [ht]; exact hP, hD, hS.F ht⟩) hS.2.2 dM_rank_109
          refine lv_bipush (v := 6) hx hb dM_rank_103 (by decide) ?_
          refine lv_goto (tgt := 109) hx hb dM_rank_105 (by decide) ?_
          have e_v : m_rk tx p0 = 6 := by unfold m_rk m_rc; grind
          refine W.widen (k := 0) (n := 0) (Nat.le_refl _) (Nat.le_refl _) ?_
          exact W.iret (v := 6) hx hb hr (fun t ht _ => ⟨_, _, rfl, ⟨by rw [e_v]; rfl, rfl⟩, by rw [ht]; exact hP, hD, hS.F ht⟩) hS.2.2 dM_rank_109
        refine lv_iload_n hx hb dM_rank_91 rfl (lv_at hl 1 rfl) ?_
        refine lv_bipush (v := 33) hx hb dM_rank_92 (by decide) ?_
        refine lv_icmp_ne (tgt := 110) hx hb dM_rank_94 (by decide) (fun c_6 => ?_) (fun c_6 => ?_)
        · skip
          refine lv_iload_n hx hb dM_rank_110 rfl (lv_at hl 1 rfl) ?_
          refine lv_bipush (v := 60) hx hb dM_rank_111 (by decide) ?_
          refine lv_icmp_eq (tgt := 122) hx hb dM_rank_113 (by decide) (fun c_7 => ?_) (fun c_7 => ?_)
          · skip
            refine lv_iload_n hx hb dM_rank_122 rfl (lv_at hl 0 rfl) ?_
            refine lv_iload_n hx hb dM_rank_123 rfl (lv_at hl 1 rfl) ?_
            refine lv_icmp_eq (tgt := 132) hx hb dM_rank_124 (by decide) (fun c_8 => ?_) (fun c_8 => ?_)
            · skip
              refine lv_aload_n hx hb dM_rank_132 rfl (lv_at hl 2 rfl) ?_
              refine lv_iconst (v := 2) hx hb dM_rank_133 (by decide) ?_
              refine xw_topi (y := nI 2) (rfl) ?_
              refine rq_call (va_runV (As := [.int (nI 2)]) (rest := []) ⟨hx, hb, hml, hown, htz⟩ (k_M_at l dC dI kI kJ kZ am bT bU bS b1 b2 bL bK bV bN bX bA bB bH cd fsz (nI tx.length) (nI (sh_skip tx p0)) ne bd wa hi my gd wr hs nu fT fU fS f1 f2 fL fN fX fA fB fH fK fV tl tx (sh_skip tx p0) hx3 hfu hsl 2 (by decide)) (cwV 1 htz (zg_V zw_3_80 zw_3_82 zs_M_at zw_1_4 zw_3_83) rfl rfl rfl (by decide +kernel) ⟨Nat.le_of_ble_eq_true rfl, Nat.le_of_ble_eq_true rfl⟩) (zR_V hP hK hN (va_recv hK hP (ci := 4) (q0 := 0) rfl rfl)) rfl rfl hl.1 rfl (lv_room (Nat.le_of_ble_eq_true rfl)) dM_rank_134 ⟨Nat.zero_le _, Nat.zero_le _⟩) ?_
              refine W.eq (g2 := F0 m 137 ls [.int (m_at tx (sh_skip tx p0 + 2))]) rfl ?_
              refine lv_bipush (v := 61) hx hb dM_rank_137 (by decide) ?_
              refine lv_icmp_ne (tgt := 146) hx hb dM_rank_139 (by decide) (fun c_9 => ?_) (fun c_9 => ?_)
              · skip
                refine lv_bipush (v := 8) hx hb dM_rank_146 (by decide) ?_
                have e_v : m_rk tx p0 = 8 := by unfold m_rk m_rc; grind
                refine W.widen (k := 0) (n := 0) (Nat.le_refl _) (Nat.le_refl _) ?_
                exact W.iret (v := 8) hx hb hr (fun t ht _ => ⟨_, _, rfl, ⟨by rw [e_v]; rfl, rfl⟩, by rw [ht]; exact hP, hD, hS.F ht⟩) hS.2.2 dM_rank_148
              refine lv_iconst (v := 0) hx hb dM_rank_142 (by decide) ?_
              refine lv_goto (tgt := 148) hx hb dM_rank_143 (by decide) ?_
              have e_v : m_rk tx p0 = 0 := by unfold m_rk m_rc; grind
              refine W.widen (k := 0) (n := 0) (Nat.le_refl _) (Nat.le_refl _) ?_
              exact W.iret (v := 0) hx hb hr (fun t ht _ => ⟨_, _, rfl, ⟨by rw [e_v]; rfl, rfl⟩, by rw [ht]; exact hP, hD, hS.F ht⟩) hS.2.2 dM_rank_148
            refine lv_bipush (v := 7) hx hb dM_rank_127 (by decide) ?_
            refine lv_goto (tgt := 148) hx hb dM_rank_129 (by decide) ?_
            have e_v : m_rk tx p0 = 7 := by unfold m_rk m_rc; grind
            refine W.widen (k := 0) (n := 0) (Nat.le_refl _) (Nat.le_refl _) ?_
            exact W.iret (v := 7) hx hb hr (fun t ht _ => ⟨_, _, rfl, ⟨by rw [e_v]; rfl, rfl⟩, by rw [ht]; exact hP, hD, hS.F ht⟩) hS.2.2 dM_rank_148
          refine lv_iload_n hx hb dM_rank_116 rfl (lv_at hl 1 rfl) ?_
          refine lv_bipush (v := 62) hx hb dM_rank_117 (by decide) ?_
          refine lv_icmp_ne (tgt := 149) hx hb dM_rank_119 (by decide) (fun c_10 => ?_) (fun c_10 => ?_)
          · skip
            refine lv_iload_n hx hb dM_rank_149 rfl (lv_at hl 1 rfl) ?_
            refine lv_bipush (v := 43) hx hb dM_rank_150 (by decide) ?_
            refine lv_icmp_eq (tgt := 161) hx hb dM_rank_152 (by decide) (fun c_11 => ?_) (fun c_11 => ?_)
            · skip
              refine lv_iload_n hx hb dM_rank_161 rfl (lv_at hl 0 rfl) ?_
              refine lv_bipush (v := 61) hx hb dM_rank_162 (by decide) ?_
              refine lv_icmp_ne (tgt := 171) hx hb dM_rank_164 (by decide) (fun c_12 => ?_) (fun c_12 => ?_)
              · skip
                refine lv_bipush (v := 9) hx hb dM_rank_171 (by decide) ?_
                have e_v : m_rk tx p0 = 9 := by unfold m_rk m_rc; grind
                refine W.widen (k := 0) (n := 0) (Nat.le_refl _) (Nat.le_refl _) ?_
                exact W.iret (v := 9) hx hb hr (fun t ht _ => ⟨_, _, rfl, ⟨by rw [e_v]; rfl, rfl⟩, by rw [ht]; exact hP, hD, hS.F ht⟩) hS.2.2 dM_rank_173
              refine lv_iconst (v := 0) hx hb dM_rank_167 (by decide) ?_
              refine lv_goto (tgt := 173) hx hb dM_rank_168 (by decide) ?_
              have e_v : m_rk tx p0 = 0 := by unfold m_rk m_rc; grind
              refine W.widen (k := 0) (n := 0) (Nat.le_refl _) (Nat.le_refl _) ?_
              exact W.iret (v := 0) hx hb hr (fun t ht _ => ⟨_, _, rfl, ⟨by rw [e_v]; rfl, rfl⟩, by rw [ht]; exact hP, hD, hS.F ht⟩) hS.2.2 dM_rank_173
            refine lv_iload_n hx hb dM_rank_155 rfl (lv_at hl 1 rfl) ?_
            refine lv_bipush (v := 45) hx hb dM_rank_156 (by decide) ?_
            refine lv_icmp_ne (tgt := 174) hx hb dM_rank_158 (by decide) (fun c_13 => ?_) (fun c_13 => ?_)
            · skip
              refine lv_iload_n hx hb dM_rank_174 rfl (lv_at hl 1 rfl) ?_
              refine lv_bipush (v := 42) hx hb dM_rank_175 (by decide) ?_
              refine lv_icmp_eq (tgt := 192) hx hb dM_rank_177 (by decide) (fun c_14 => ?_) (fun c_14 => ?_)
              · skip
                refine lv_iload_n hx hb dM_rank_192 rfl (lv_at hl 0 rfl) ?_
                refine lv_bipush (v := 61) hx hb dM_rank_193 (by decide) ?_
                refine lv_icmp_eq (tgt := 203) hx hb dM_rank_195 (by decide) (fun c_15 => ?_) (fun c_15 => ?_)
                · skip
                  refine lv_iconst (v := 0) hx hb dM_rank_203 (by decide) ?_
                  have e_v : m_rk tx p0 = 0 := by unfold m_rk m_rc; grind
                  refine W.widen (k := 0) (n := 0) (Nat.le_refl _) (Nat.le_refl _) ?_
                  exact W.iret (v := 0) hx hb hr (fun t ht _ => ⟨_, _, rfl, ⟨by rw [e_v]; rfl, rfl⟩, by rw [ht]; exact hP, hD, hS.F ht⟩) hS.2.2 dM_rank_204
                refine lv_bipush (v := 10) hx hb dM_rank_198 (by decide) ?_
                refine lv_goto (tgt := 204) hx hb dM_rank_200 (by decide) ?_
                have e_v : m_rk tx p0 = 10 := by unfold m_rk m_rc; grind
                refine W.widen (k := 0) (n := 0) (Nat.le_refl _) (Nat.le_refl _) ?_
                exact W.iret (v := 10) hx hb hr (fun t ht _ => ⟨_, _, rfl, ⟨by rw [e_v]; rfl, rfl⟩, by rw [ht]; exact hP, hD, hS.F ht⟩) hS.2.2 dM_rank_204
              refine lv_iload_n hx hb dM_rank_180 rfl (lv_at hl 1 rfl) ?_
              refine lv_bipush (v := 47) hx hb dM_rank_181 (by decide) ?_
              refine lv_icmp_eq (tgt := 192) hx hb dM_rank_183 (by decide) (fun c_16 => ?_) (fun c_16 => ?_)
              · skip
                refine lv_iload_n hx hb dM_rank_192 rfl (lv_at hl 0 rfl) ?_
                refine lv_bipush (v := 61) hx hb dM_rank_193 (by decide) ?_
                refine lv_icmp_eq (tgt := 203) hx hb dM_rank_195 (by decide) (fun c_17 => ?_) (fun c_17 => ?_)
                · skip
                  refine lv_iconst (v := 0) hx hb dM_rank_203 (by decide) ?_
                  have e_v : m_rk tx p0 = 0 := by unfold m_rk m_rc; grind
                  refine W.widen (k := 0) (n := 0) (Nat.le_refl _) (Nat.le_refl _) ?_
                  exact W.iret (v := 0) hx hb hr (fun t ht _ => ⟨_, _, rfl, ⟨by rw [e_v]; rfl, rfl⟩, by rw [ht]; exact hP, hD, hS.F ht⟩) hS.2.2 dM_rank_204
                refine lv_bipush (v := 10) hx hb dM_rank_198 (by decide) ?_
                refine lv_goto (tgt := 204) hx hb dM_rank_200 (by decide) ?_
                have e_v : m_rk tx p0 = 10 := by unfold m_rk m_rc; grind
                refine W.widen (k := 0) (n := 0) (Nat.le_refl _) (Nat.le_refl _) ?_
                exact W.iret (v := 10) hx hb hr (fun t ht _ => ⟨_, _, rfl, ⟨by rw [e_v]; rfl, rfl⟩, by rw [ht]; exact hP, hD, hS.F ht⟩) hS.2.2 dM_rank_204
              refine lv_iload_n hx hb dM_rank_186 rfl (lv_at hl 1 rfl) ?_
              refine lv_bipush (v := 37) hx hb dM_rank_187 (by decide) ?_
              refine lv_icmp_ne (tgt := 203) hx hb dM_rank_189 (by decide) (fun c_18 => ?_) (fun c_18 => ?_)
              · skip
                refine lv_iconst (v := 0) hx hb dM_rank_203 (by decide) ?_
                have e_v : m_rk tx p0 = 0 := by unfold m_rk m_rc; grind
                refine W.widen (k := 0) (n := 0) (Nat.le_refl _) (Nat.le_refl _) ?_
                exact W.iret (v := 0) hx hb hr (fun t ht _ => ⟨_, _, rfl, ⟨by rw [e_v]; rfl, rfl⟩, by rw [ht]; exact hP, hD, hS.F ht⟩) hS.2.2 dM_rank_204
              refine lv_iload_n hx hb dM_rank_192 rfl (lv_at hl 0 rfl) ?_
              refine lv_bipush (v := 61) hx hb dM_rank_193 (by decide) ?_
              refine lv_icmp_eq (tgt := 203) hx hb dM_rank_195 (by decide) (fun c_19 => ?_) (fun c_19 => ?_)
              · skip
                refine lv_iconst (v := 0) hx hb dM_rank_203 (by decide) ?_
                have e_v : m_rk tx p0 = 0 := by unfold m_rk m_rc; grind
                refine W.widen (k := 0) (n := 0) (Nat.le_refl _) (Nat.le_refl _) ?_
                exact W.iret (v := 0) hx hb hr (fun t ht _ => ⟨_, _, rfl, ⟨by rw [e_v]; rfl, rfl⟩, by rw [ht]; exact hP, hD, hS.F ht⟩) hS.2.2 dM_rank_204
              refine lv_bipush (v := 10) hx hb dM_rank_198 (by decide) ?_
              refine lv_goto (tgt := 204) hx hb dM_rank_200 (by decide) ?_
              have e_v : m_rk tx p0 = 10 := by unfold m_rk m_rc; grind
              refine W.widen (k := 0) (n := 0) (Nat.le_refl _) (Nat.le_refl _) ?_
              exact W.iret (v := 10) hx hb hr (fun t ht _ => ⟨_, _, rfl, ⟨by rw [e_v]; rfl, rfl⟩, by rw [ht]; exact hP, hD, hS.F ht⟩) hS.2.2 dM_rank_204
            refine lv_iload_n hx hb dM_rank_161 rfl (lv_at hl 0 rfl) ?_
            refine lv_bipush (v := 61) hx hb dM_rank_162 (by decide) ?_
            refine lv_icmp_ne (tgt := 171) hx hb dM_rank_164 (by decide) (fun c_20 => ?_) (fun c_20 => ?_)
            · skip
              refine lv_bipush (v := 9) hx hb dM_rank_171 (by decide) ?_
              have e_v : m_rk tx p0 = 9 := by unfold m_rk m_rc; grind
              refine W.widen (k := 0) (n := 0) (Nat.le_refl _) (Nat.le_refl _) ?_
              exact W.iret (v := 9) hx hb hr (fun t ht _ => ⟨_, _, rfl, ⟨by rw [e_v]; rfl, rfl⟩, by rw [ht]; exact hP, hD, hS.F ht⟩) hS.2.2 dM_rank_173
            refine lv_iconst (v := 0) hx hb dM_rank_167 (by decide) ?_
            refine lv_goto (tgt := 173) hx hb dM_rank_168 (by decide) ?_
            have e_v : m_rk tx p0 = 0 := by unfold m_rk m_rc; grind
            refine W.widen (k := 0) (n := 0) (Nat.le_refl _) (Nat.le_refl _) ?_
            exact W.iret (v := 0) hx hb hr (fun t ht _ => ⟨_, _, rfl, ⟨by rw [e_v]; rfl, rfl⟩, by rw [ht]; exact hP, hD, hS.F ht⟩) hS.2.2 dM_rank_173
          refine lv_iload_n hx hb dM_rank_122 rfl (lv_at hl 0 rfl) ?_
          refine lv_iload_n hx hb dM_rank_123 rfl (lv_at hl 1 rfl) ?_
          refine lv_icmp_eq (tgt := 132) hx hb dM_rank_124 (by decide) (fun c_21 => ?_) (fun c_21 => ?_)
          · skip
            refine lv_aload_n hx hb dM_rank_132 rfl (lv_at hl 2 rfl) ?_
            refine lv_iconst (v := 2) hx hb dM_rank_133 (by decide) ?_
            refine xw_topi (y := nI 2) (rfl) ?_
            refine rq_call (va_runV (As := [.int (nI 2)]) (rest := []) ⟨hx, hb, hml, hown, htz⟩ (k_M_at l dC dI kI kJ kZ am bT bU bS b1 b2 bL bK bV bN bX bA bB bH cd fsz (nI tx.length) (nI (sh_skip tx p0)) ne bd wa hi my gd wr hs nu fT fU fS f1 f2 fL fN fX fA fB fH fK fV tl tx (sh_skip tx p0) hx3 hfu hsl 2 (by decide)) (cwV 1 htz (zg_V zw_3_80 zw_3_82 zs_M_at zw_1_4 zw_3_83) rfl rfl rfl (by decide +kernel) ⟨Nat.le_of_ble_eq_true rfl, Nat.le_of_ble_eq_true rfl⟩) (zR_V hP hK hN (va_recv hK hP (ci := 4) (q0 := 0) rfl rfl)) rfl rfl hl.1 rfl (lv_room (Nat.le_of_ble_eq_true rfl)) dM_rank_134 ⟨Nat.zero_le _, Nat.zero_le _⟩) ?_
            refine W.eq (g2 := F0 m 137 ls [.int (m_at tx (sh_skip tx p0 + 2))]) rfl ?_
            refine lv_bipush (v := 61) hx hb dM_rank_137 (by decide) ?_
            refine lv_icmp_ne (tgt := 146) hx hb dM_rank_139 (by decide) (fun c_22 => ?_) (fun c_22 => ?_)
            · skip
              refine lv_bipush (v := 8) hx hb dM_rank_146 (by decide) ?_
              have e_v : m_rk tx p0 = 8 := by unfold m_rk m_rc; grind
              refine W.widen (k := 0) (n := 0) (Nat.le_refl _) (Nat.le_refl _) ?_
              exact W.iret (v := 8) hx hb hr (fun t ht _ => ⟨_, _, rfl, ⟨by rw [e_v]; rfl, rfl⟩, by rw [ht]; exact hP, hD, hS.F ht⟩) hS.2.2 dM_rank_148
            refine lv_iconst (v := 0) hx hb dM_rank_142 (by decide) ?_
            refine lv_goto (tgt := 148) hx hb dM_rank_143 (by decide) ?_
            have e_v : m_rk tx p0 = 0 := by unfold m_rk m_rc; grind
            refine W.widen (k := 0) (n := 0) (Nat.le_refl _) (Nat.le_refl _) ?_
            exact W.iret (v := 0) hx hb hr (fun t ht _ => ⟨_, _, rfl, ⟨by rw [e_v]; rfl, rfl⟩, by rw [ht]; exact hP, hD, hS.F ht⟩) hS.2.2 dM_rank_148
          refine lv_bipush (v := 7) hx hb dM_rank_127 (by decide) ?_
          refine lv_goto (tgt := 148) hx hb dM_rank_129 (by decide) ?_
          have e_v : m_rk tx p0 = 7 := by unfold m_rk m_rc; grind
          refine W.widen (k := 0) (n := 0) (Nat.le_refl _) (Nat.le_refl _) ?_
          exact W.iret (v := 7) hx hb hr (fun t ht _ => ⟨_, _, rfl, ⟨by rw [e_v]; rfl, rfl⟩, by rw [ht]; exact hP, hD, hS.F ht⟩) hS.2.2 dM_rank_148
        refine lv_iload_n hx hb dM_rank_97 rfl (lv_at hl 0 rfl) ?_
        refine lv_bipush (v := 61) hx hb dM_rank_98 (by decide) ?_
        refine lv_icmp_ne (tgt := 108) hx hb dM_rank_100 (by decide) (fun c_23 => ?_) (fun c_23 => ?_)
        · skip
          refine lv_iconst (v := 0) hx hb dM_rank_108 (by decide) ?_
          have e_v : m_rk tx p0 = 0 := by unfold m_rk m_rc; grind
          refine W.widen (k := 0) (n := 0) (Nat.le_refl _) (Nat.le_refl _) ?_
          exact W.iret (v := 0) hx hb hr (fun t ht _ => ⟨_, _, rfl, ⟨by rw [e_v]; rfl, rfl⟩, by rw [ht]; exact hP, hD, hS.F ht⟩) hS.2.2 dM_rank_109
        refine lv_bipush (v := 6) hx hb dM_rank_103 (by decide) ?_
        refine lv_goto (tgt := 109) hx hb dM_rank_105 (by decide) ?_
        have e_v : m_rk tx p0 = 6 := by unfold m_rk m_rc; grind
        refine W.widen (k := 0) (n := 0) (Nat.le_refl _) (Nat.le_refl _) ?_
        exact W.iret (v := 6) hx hb hr (fun t ht _ => ⟨_, _, rfl, ⟨by rw [e_v]; rfl, rfl⟩, by rw [ht]; exact hP, hD, hS.F ht⟩) hS.2.2 dM_rank_109
      refine lv_iload_n hx hb dM_rank_73 rfl (lv_at hl 0 rfl) ?_
      refine lv_bipush (v := 61) hx hb dM_rank_74 (by decide) ?_
      refine lv_icmp_ne (tgt := 83) hx hb dM_rank_76 (by decide) (fun c_24 => ?_) (fun c_24 => ?_)
      · skip
        refine lv_iconst (v := 4) hx hb dM_rank_83 (by decide) ?_
        have e_v : m_rk tx p0 = 4 := by unfold m_rk m_rc; grind
        refine W.widen (k := 0) (n := 0) (Nat.le_refl _) (Nat.le_refl _) ?_
        exact W.iret (v := 4) hx hb hr (fun t ht _ => ⟨_, _, rfl, ⟨by rw [e_v]; rfl, rfl⟩, by rw [ht]; exact hP, hD, hS.F ht⟩) hS.2.2 dM_rank_84
      refine lv_iconst (v := 0) hx hb dM_rank_79 (by decide) ?_
      refine lv_goto (tgt := 84) hx hb dM_rank_80 (by decide) ?_
      have e_v : m_rk tx p0 = 0 := by unfold m_rk m_rc; grind
      refine W.widen (k := 0) (n := 0) (Nat.le_refl _) (Nat.le_refl _) ?_
      exact W.iret (v := 0) hx hb hr (fun t ht _ => ⟨_, _, rfl, ⟨by rw [e_v]; rfl, rfl⟩, by rw [ht]; exact hP, hD, hS.F ht⟩) hS.2.2 dM_rank_84
    refine lv_iload_n hx hb dM_rank_45 rfl (lv_at hl 0 rfl) ?_
    refine lv_bipush (v := 38) hx hb dM_rank_46 (by decide) ?_
    refine lv_icmp_ne (tgt := 55) hx hb dM_rank_48 (by decide) (fun c_25 => ?_) (fun c_25 => ?_)
    · skip
      refine lv_iload_n hx hb dM_rank_55 rfl (lv_at hl 0 rfl) ?_
      refine lv_bipush (v := 61) hx hb dM_rank_56 (by decide) ?_
      refine lv_icmp_ne (tgt := 65) hx hb dM_rank_58 (by decide) (fun c_26 => ?_) (fun c_26 => ?_)
      · skip
        refine lv_iconst (v := 5) hx hb dM_rank_65 (by decide) ?_
        have e_v : m_rk tx p0 = 5 := by unfold m_rk m_rc; grind
        refine W.widen (k := 0) (n := 0) (Nat.le_refl _) (Nat.le_refl _) ?_
        exact W.iret (v := 5) hx hb hr (fun t ht _ => ⟨_, _, rfl, ⟨by rw [e_v]; rfl, rfl⟩, by rw [ht]; exact hP, hD, hS.F ht⟩) hS.2.2 dM_rank_66
      refine lv_iconst (v := 0) hx hb dM_rank_61 (by decide) ?_
      refine lv_goto (tgt := 66) hx hb dM_rank_62 (by decide) ?_
      have e_v : m_rk tx p0 = 0 := by unfold m_rk m_rc; grind
      refine W.widen (k := 0) (n := 0) (Nat.le_refl _) (Nat.le_refl _) ?_
      exact W.iret (v := 0) hx hb hr (fun t ht _ => ⟨_, _, rfl, ⟨by rw [e_v]; rfl, rfl⟩, by rw [ht]; exact hP, hD, hS.F ht⟩) hS.2.2 dM_rank_66
    refine lv_iconst (v := 2) hx hb dM_rank_51 (by decide) ?_
    refine lv_goto (tgt := 66) hx hb dM_rank_52 (by decide) ?_
    have e_v : m_rk tx p0 = 2 := by unfold m_rk m_rc; grind
    refine W.widen (k := 0) (n := 0) (Nat.le_refl _) (Nat.le_refl _) ?_
    exact W.iret (v := 2) hx hb hr (fun t ht _ => ⟨_, _, rfl, ⟨by rw [e_v]; rfl, rfl⟩, by rw [ht]; exact hP, hD, hS.F ht⟩) hS.2.2 dM_rank_66
  refine lv_iload_n hx hb dM_rank_17 rfl (lv_at hl 0 rfl) ?_
  refine lv_bipush (v := 124) hx hb dM_rank_18 (by decide) ?_
  refine lv_icmp_ne (tgt := 27) hx hb dM_rank_20 (by decide) (fun c_27 => ?_) (fun c_27 => ?_)
  · skip
    refine lv_iload_n hx hb dM_rank_27 rfl (lv_at hl 0 rfl) ?_
    refine lv_bipush (v := 61) hx hb dM_rank_28 (by decide) ?_
    refine lv_icmp_ne (tgt := 37) hx hb dM_rank_30 (by decide) (fun c_28 => ?_) (fun c_28 => ?_)
    · skip
      refine lv_iconst (v := 3) hx hb dM_rank_37 (by decide) ?_
      have e_v : m_rk tx p0 = 3 := by unfold m_rk m_rc; grind
      refine W.widen (k := 0) (n := 0) (Nat.le_refl _) (Nat.le_refl _) ?_
      exact W.iret (v := 3) hx hb hr (fun t ht _ => ⟨_, _, rfl, ⟨by rw [e_v]; rfl, rfl⟩, by rw [ht]; exact hP, hD, hS.F ht⟩) hS.2.2 dM_rank_38
    refine lv_iconst (v := 0) hx hb dM_rank_33 (by decide) ?_
    refine lv_goto (tgt := 38) hx hb dM_rank_34 (by decide) ?_
    have e_v : m_rk tx p0 = 0 := by unfold m_rk m_rc; grind
    refine W.widen (k := 0) (n := 0) (Nat.le_refl _) (Nat.le_refl _) ?_
    exact W.iret (v := 0) hx hb hr (fun t ht _ => ⟨_, _, rfl, ⟨by rw [e_v]; rfl, rfl⟩, by rw [ht]; exact hP, hD, hS.F ht⟩) hS.2.2 dM_rank_38
  refine lv_iconst (v := 1) hx hb dM_rank_23 (by decide) ?_
  refine lv_goto (tgt := 38) hx hb dM_rank_24 (by decide) ?_
  have e_v : m_rk tx p0 = 1 := by unfold m_rk m_rc; grind
  refine W.widen (k := 0) (n := 0) (Nat.le_refl _) (Nat.le_refl _) ?_
  exact W.iret (v := 1) hx hb hr (fun t ht _ => ⟨_, _, rfl, ⟨by rw [e_v]; rfl, rfl⟩, by rw [ht]; exact hP, hD, hS.F ht⟩) hS.2.2 dM_rank_38
