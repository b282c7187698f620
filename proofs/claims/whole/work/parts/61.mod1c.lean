set_option maxHeartbeats 4000000 in
set_option maxRecDepth 100000 in
/-- joined(..) -/
theorem k_M_joined (l : Launch) (dC : Nat → ClassId) (dI : Nat → Nat → Nat) (kI kJ kZ : ClassId) (am bT bU bS b1 b2 bL bK bV bN bX bA bB bH : Nat) (cd fsz ln pl ne bd wa hi my gd wr hs : Int32) (nu : Int64) (fT fU fS f1 f2 fL fN fX fA fB fH : Nat → Int32) (fK fV : Nat → Int64) (tl : va_W) (sz : Nat) (c0 r0 : Int32) (eq nd bb : Bool) (x0 y0 : Int64) : Met l yM_joined wsM_joined ({ frames := 0, cells := 0, slots := 0, locals := 0 }) (va_Pc [.ref am, .int c0, .int r0, .int (sh_b eq), .long x0, .long y0, .int (sh_b nd)] (zW dC dI ([(kI, .int), (kJ, .long), (kZ, .boolean)]) ((am, .inr (4, [.int cd, .ref bT, .ref bU, .int fsz, .int ln, .int pl, .int ne, .int (sh_b bb), .ref bS, .ref b1, .ref b2, .ref bL, .ref bK, .ref bV, .int wa, .int hi, .ref bN, .ref bX, .ref bA, .ref bB, .int my, .int gd, .int wr, .ref bH, .int hs, .long nu])) :: (bT, .inl (kI, 300, .inl fT)) :: (bU, .inl (kI, 300, .inl fU)) :: (bS, .inl (kI, 2000, .inl fS)) :: (b1, .inl (kI, 2000, .inl f1)) :: (b2, .inl (kI, 2000, .inl f2)) :: (bL, .inl (kZ, 2000, .inl fL)) :: (bK, .inl (kJ, 2000, .inr (.inl fK))) :: (bV, .inl (kJ, 400, .inr (.inl fV))) :: (bN, .inl (kI, 19200, .inl fN)) :: (bX, .inl (kI, 1536, .inl fX)) :: (bA, .inl (kI, 64, .inl fA)) :: (bB, .inl (kI, 64, .inl fB)) :: (bH, .inl (kI, 8, .inl fH)) :: tl) sz)) (zQ dC dI (va_A ((am, .inr (4, [.int cd, .ref bT, .ref bU, .int fsz, .int ln, .int pl, .int ne, .int (sh_b bb), .ref bS, .ref b1, .ref b2, .ref bL, .ref bK, .ref bV, .int wa, .int hi, .ref bN, .ref bX, .ref bA, .ref bB, .int my, .int gd, .int wr, .ref bH, .int hs, .long nu])) :: (bT, .inl (kI, 300, .inl fT)) :: (bU, .inl (kI, 300, .inl fU)) :: (bS, .inl (kI, 2000, .inl fS)) :: (b1, .inl (kI, 2000, .inl f1)) :: (b2, .inl (kI, 2000, .inl f2)) :: (bL, .inl (kZ, 2000, .inl fL)) :: (bK, .inl (kJ, 2000, .inr (.inl fK))) :: (bV, .inl (kJ, 400, .inr (.inl fV))) :: (bN, .inl (kI, 19200, .inl fN)) :: (bX, .inl (kI, 1536, .inl fX)) :: (bA, .inl (kI, 64, .inl fA)) :: (bB, .inl (kI, 64, .inl fB)) :: (bH, .inl (kI, 8, .inl fH)) :: tl) sz) (fun v w => v = some (.long (m_jn c0 r0 eq x0 y0)) ∧ w = ((am, .inr (4, [.int cd, .ref bT, .ref bU, .int fsz, .int ln, .int pl, .int ne, .int (sh_b (bb || m_jb c0 y0 nd)), .ref bS, .ref b1, .ref b2, .ref bL, .ref bK, .ref bV, .int wa, .int hi, .ref bN, .ref bX, .ref bA, .ref bB, .int my, .int gd, .int wr, .ref bH, .int hs, .long nu])) :: (bT, .inl (kI, 300, .inl fT)) :: (bU, .inl (kI, 300, .inl fU)) :: (bS, .inl (kI, 2000, .inl fS)) :: (b1, .inl (kI, 2000, .inl f1)) :: (b2, .inl (kI, 2000, .inl f2)) :: (bL, .inl (kZ, 2000, .inl fL)) :: (bK, .inl (kJ, 2000, .inr (.inl fK))) :: (bV, .inl (kJ, 400, .inr (.inl fV))) :: (bN, .inl (kI, 19200, .inl fN)) :: (bX, .inl (kI, 1536, .inl fX)) :: (bA, .inl (kI, 64, .inl fA)) :: (bB, .inl (kI, 64, .inl fB)) :: (bH, .inl (kI, 8, .inl fH)) :: tl))) 0 0 (va_A ((am, .inr (4, [.int cd, .ref bT, .ref bU, .int fsz, .int ln, .int pl, .int ne, .int (sh_b bb), .ref bS, .ref b1, .ref b2, .ref bL, .ref bK, .ref bV, .int wa, .int hi, .ref bN, .ref bX, .ref bA, .ref bB, .int my, .int gd, .int wr, .ref bH, .int hs, .long nu])) :: (bT, .inl (kI, 300, .inl fT)) :: (bU, .inl (kI, 300, .inl fU)) :: (bS, .inl (kI, 2000, .inl fS)) :: (b1, .inl (kI, 2000, .inl f1)) :: (b2, .inl (kI, 2000, .inl f2)) :: (bL, .inl (kZ, 2000, .inl fL)) :: (bK, .inl (kJ, 2000, .inr (.inl fK))) :: (bV, .inl (kJ, 400, .inr (.inl fV))) :: (bN, .inl (kI, 19200, .inl fN)) :: (bX, .inl (kI, 1536, .inl fX)) :: (bA, .inl (kI, 64, .inl fA)) :: (bB, .inl (kI, 64, .inl fB)) :: (bH, .inl (kI, 8, .inl fH)) :: tl) sz) := by
  refine Met.ofW (cc := cM_joined) (maxL := 9) (ret := (some .long)) (by decide) rfl ?_
  intro p e s m args below meth c s₁ B hml hv
  obtain ⟨rfl, hsz, hP, hK, hD0, hN⟩ := hv
  subst hsz
  have hD := hD0.self (sz := s.heap.size)
  generalize hAe : va_A ((am, .inr (4, [.int cd, .ref bT, .ref bU, .int fsz, .int ln, .int pl, .int ne, .int (sh_b bb), .ref bS, .ref b1, .ref b2, .ref bL, .ref bK, .ref bV, .int wa, .int hi, .ref bN, .ref bX, .ref bA, .ref bB, .int my, .int gd, .int wr, .ref bH, .int hs, .long nu])) :: (bT, .inl (kI, 300, .inl fT)) :: (bU, .inl (kI, 300, .inl fU)) :: (bS, .inl (kI, 2000, .inl fS)) :: (b1, .inl (kI, 2000, .inl f1)) :: (b2, .inl (kI, 2000, .inl f2)) :: (bL, .inl (kZ, 2000, .inl fL)) :: (bK, .inl (kJ, 2000, .inr (.inl fK))) :: (bV, .inl (kJ, 400, .inr (.inl fV))) :: (bN, .inl (kI, 19200, .inl fN)) :: (bX, .inl (kI, 1536, .inl fX)) :: (bA, .inl (kI, 64, .inl fA)) :: (bB, .inl (kI, 64, .inl fB)) :: (bH, .inl (kI, 8, .inl fH)) :: tl) s.heap.size = A at hD ⊢
  have hA : ∀ q : Nat, s.heap.size ≤ q → A q := fun q h => by rw [← hAe]; exact Or.inr h
  have hS : va_S A s.heap s.heap [] := va_S.rf
  have hx := B.exec
  have hb := B.bytes
  have hr := B.returns
  have htz : ∀ w ∈ zw, w.before _ s = true := fun w h => atoms_spec (ws := wsM_joined) B.pre w (List.mem_cons_of_mem _ h)
  have hown : s.vm.findClass "ShellSumModel" = some m.cls := findClass_of_methodNamed B.named
  have hlocks := B.notSynchronized
  have hl := lv_entry ([.ref am, .int c0, .int r0, .int (sh_b eq), .long x0, .long y0, .int (sh_b nd)]) (n := 9) (Nat.le_of_ble_eq_true rfl)
  rw [lg_entry_eq]
  generalize (lg_sl ([.ref am, .int c0, .int r0, .int (sh_b eq), .long x0, .long y0, .int (sh_b nd)]) ++ List.replicate (9 - (lg_sl ([.ref am, .int c0, .int r0, .int (sh_b eq), .long x0, .long y0, .int (sh_b nd)])).length) Slot.unset).toArray = ls at hl ⊢
  have hl : lv_has ls 9 [(0, .ref am), (1, .int c0), (2, .int r0), (3, .int (sh_b eq)), (4, .long x0), (6, .long y0), (8, .int (sh_b nd))] := hl
  refine lv_iload_n hx hb dM_joined_0 rfl (lv_at hl 1 rfl) ?_
  by_cases c_1 : c0 = 33
  · skip
    refine lv_lookup (off := 185) (tgt := 186) hx hb dM_joined_1 (by decide) (by rw [c_1]; decide) (by decide) ?_
    refine lv_lload hx hb dM_joined_186 (lv_at hl 4 rfl) ?_
    refine lv_lload hx hb dM_joined_188 (lv_at hl 5 rfl) ?_
    refine W.lcmp hx hb dM_joined_190 ?_
    refine lv_if_eq (tgt := 198) hx hb dM_joined_191 (by decide) (fun c_2 => ?_) (fun c_2 => ?_)
    · skip
      rw [lg_cmp_eq] at c_2
      refine lv_lconst (v := 0) hx hb dM_joined_198 (by decide) ?_
      have e_v : m_jn c0 r0 eq x0 y0 = 0 := by unfold m_jn; grind [sh_b]
      have e_b : sh_b (bb || m_jb c0 y0 nd) = sh_b bb := by unfold m_jb; grind [sh_b]
      refine W.widen (k := 0) (n := 0) (Nat.le_refl _) (Nat.le_refl _) ?_
      exact W.lret (v := 0) hx hb hr (fun t ht _ => ⟨_, _, rfl, ⟨by rw [e_v], by rw [e_b]⟩, by rw [ht]; exact hP, hD, hS.F ht⟩) hS.2.2 dM_joined_199
    rw [lg_cmp_eq] at c_2
    refine lv_lconst (v := 1) hx hb dM_joined_194 (by decide) ?_
    refine lv_goto (tgt := 199) hx hb dM_joined_195 (by decide) ?_
    have e_v : m_jn c0 r0 eq x0 y0 = 1 := by unfold m_jn; grind [sh_b]
    have e_b : sh_b (bb || m_jb c0 y0 nd) = sh_b bb := by unfold m_jb; grind [sh_b]
    refine W.widen (k := 0) (n := 0) (Nat.le_refl _) (Nat.le_refl _) ?_
    exact W.lret (v := 1) hx hb hr (fun t ht _ => ⟨_, _, rfl, ⟨by rw [e_v], by rw [e_b]⟩, by rw [ht]; exact hP, hD, hS.F ht⟩) hS.2.2 dM_joined_199
  by_cases c_3 : c0 = 37
  · skip
    refine lv_lookup (off := 217) (tgt := 218) hx hb dM_joined_1 (by decide) (by rw [c_3]; decide) (by decide) ?_
    refine lv_aload_n hx hb dM_joined_218 rfl (lv_at hl 0 rfl) ?_
    refine lv_aload_n hx hb dM_joined_219 rfl (lv_at hl 0 rfl) ?_
    refine va_get (D := (dC, dI)) (ci := 4) (v := .int (sh_b bb)) (C := "ShellSumModel") (T := TM) (N := 26) hx hb htz zu_M hown hK hP 0 rfl rfl 7 (by decide) (htz _ zw_2_167) (fun _ h9 => h9) rfl dM_joined_220 ?_
    refine lv_if_ne (tgt := 238) hx hb dM_joined_223 (by decide) (fun c_4 => ?_) (fun c_4 => ?_)
    · skip
      refine lv_iconst (v := 1) hx hb dM_joined_238 (by decide) ?_
      refine lv_goto (tgt := 243) hx hb dM_joined_239 (by decide) ?_
      refine va_put (D := (dC, dI)) (ci := 4) (v := .int 1) (ty := .boolean) (C := "ShellSumModel") (T := TM) (N := 26) hx hb htz zu_M tyM tyM_ok nmM hown hK hP hD hS 0 rfl rfl 7 (by decide) (htz _ zw_2_167) (fun _ h9 => h9) rfl (by decide +kernel) rfl rfl (Nat.le_of_ble_eq_true rfl) dM_joined_243 (fun H locs hP hD hS => ?_)
      have hP : va_P (dC, dI) vwCl ((am, .inr (4, [.int cd, .ref bT, .ref bU, .int fsz, .int ln, .int pl, .int ne, .int 1, .ref bS, .ref b1, .ref b2, .ref bL, .ref bK, .ref bV, .int wa, .int hi, .ref bN, .ref bX, .ref bA, .ref bB, .int my, .int gd, .int wr, .ref bH, .int hs, .long nu])) :: (bT, .inl (kI, 300, .inl fT)) :: (bU, .inl (kI, 300, .inl fU)) :: (bS, .inl (kI, 2000, .inl fS)) :: (b1, .inl (kI, 2000, .inl f1)) :: (b2, .inl (kI, 2000, .inl f2)) :: (bL, .inl (kZ, 2000, .inl fL)) :: (bK, .inl (kJ, 2000, .inr (.inl fK))) :: (bV, .inl (kJ, 400, .inr (.inl fV))) :: (bN, .inl (kI, 19200, .inl fN)) :: (bX, .inl (kI, 1536, .inl fX)) :: (bA, .inl (kI, 64, .inl fA)) :: (bB, .inl (kI, 64, .inl fB)) :: (bH, .inl (kI, 8, .inl fH)) :: tl) _ := hP
      have hD : va_D A ((am, .inr (4, [.int cd, .ref bT, .ref bU, .int fsz, .int ln, .int pl, .int ne, .int 1, .ref bS, .ref b1, .ref b2, .ref bL, .ref bK, .ref bV, .int wa, .int hi, .ref bN, .ref bX, .ref bA, .ref bB, .int my, .int gd, .int wr, .ref bH, .int hs, .long nu])) :: (bT, .inl (kI, 300, .inl fT)) :: (bU, .inl (kI, 300, .inl fU)) :: (bS, .inl (kI, 2000, .inl fS)) :: (b1, .inl (kI, 2000, .inl f1)) :: (b2, .inl (kI, 2000, .inl f2)) :: (bL, .inl (kZ, 2000, .inl fL)) :: (bK, .inl (kJ, 2000, .inr (.inl fK))) :: (bV, .inl (kJ, 400, .inr (.inl fV))) :: (bN, .inl (kI, 19200, .inl fN)) :: (bX, .inl (kI, 1536, .inl fX)) :: (bA, .inl (kI, 64, .inl fA)) :: (bB, .inl (kI, 64, .inl fB)) :: (bH, .inl (kI, 8, .inl fH)) :: tl) := hD
      refine lv_lload hx hb dM_joined_246 (lv_at hl 5 rfl) ?_
      refine lv_lconst (v := 0) hx hb dM_joined_248 (by decide) ?_
      refine W.lcmp hx hb dM_joined_249 ?_
      refine lv_if_ne (tgt := 257) hx hb dM_joined_250 (by decide) (fun c_5 => ?_) (fun c_5 => ?_)
      · skip
        rw [lg_cmp_eq] at c_5
        refine lv_iload_n hx hb dM_joined_257 rfl (lv_at hl 1 rfl) ?_
        refine lv_bipush (v := 47) hx hb dM_joined_258 (by decide) ?_
        refine lv_icmp_ne (tgt := 271) hx hb dM_joined_260 (by decide) (fun c_6 => ?_) (fun c_6 => ?_)
        · skip
          refine lv_lload hx hb dM_joined_271 (lv_at hl 4 rfl) ?_
          refine lv_lload hx hb dM_joined_273 (lv_at hl 5 rfl) ?_
          refine lv_lrem hx hb dM_joined_275 (by grind) ?_
          have e_v : m_jn c0 r0 eq x0 y0 = x0 - x0 / y0 * y0 := by unfold m_jn; grind [sh_b]
          have e_b : sh_b (bb || m_jb c0 y0 nd) = 1 := by unfold m_jb; grind [sh_b]
          refine W.widen (k := 0) (n := 0) (Nat.le_refl _) (Nat.le_refl _) ?_
          exact W.lret (v := x0 - x0 / y0 * y0) hx hb hr (fun t ht _ => ⟨_, _, rfl, ⟨by rw [e_v], by rw [e_b]⟩, by rw [ht]; exact hP, hD, hS.F ht⟩) hS.2.2 dM_joined_276
        refine lv_lload hx hb dM_joined_263 (lv_at hl 4 rfl) ?_
        refine lv_lload hx hb dM_joined_265 (lv_at hl 5 rfl) ?_
        refine lv_ldiv hx hb dM_joined_267 (by grind) ?_
        refine lv_goto (tgt := 276) hx hb dM_joined_268 (by decide) ?_
        have e_v : m_jn c0 r0 eq x0 y0 = x0 / y0 := by unfold m_jn; grind [sh_b]
        have e_b : sh_b (bb || m_jb c0 y0 nd) = 1 := by unfold m_jb; grind [sh_b]
        refine W.widen (k := 0) (n := 0) (Nat.le_refl _) (Nat.le_refl _) ?_
        exact W.lret (v := x0 / y0) hx hb hr (fun t ht _ => ⟨_, _, rfl, ⟨by rw [e_v], by rw [e_b]⟩, by rw [ht]; exact hP, hD, hS.F ht⟩) hS.2.2 dM_joined_276
      rw [lg_cmp_eq] at c_5
      refine lv_lconst (v := 0) hx hb dM_joined_253 (by decide) ?_
      refine lv_goto (tgt := 276) hx hb dM_joined_254 (by decide) ?_
      have e_v : m_jn c0 r0 eq x0 y0 = 0 := by unfold m_jn; grind [sh_b]
      have e_b : sh_b (bb || m_jb c0 y0 nd) = 1 := by unfold m_jb; grind [sh_b]
      refine W.widen (k := 0) (n := 0) (Nat.le_refl _) (Nat.le_refl _) ?_
      exact W.lret (v := 0) hx hb hr (fun t ht _ => ⟨_, _, rfl, ⟨by rw [e_v], by rw [e_b]⟩, by rw [ht]; exact hP, hD, hS.F ht⟩) hS.2.2 dM_joined_276
    refine lv_iload hx hb dM_joined_226 (lv_at hl 6 rfl) ?_
    refine lv_if_eq (tgt := 242) hx hb dM_joined_228 (by decide) (fun c_7 => ?_) (fun c_7 => ?_)
    · skip
      refine lv_iconst (v := 0) hx hb dM_joined_242 (by decide) ?_
      refine va_put (D := (dC, dI)) (ci := 4) (v := .int 0) (ty := .boolean) (C := "ShellSumModel") (T := TM) (N := 26) hx hb htz zu_M tyM tyM_ok nmM hown hK hP hD hS 0 rfl rfl 7 (by decide) (htz _ zw_2_167) (fun _ h9 => h9) rfl (by decide +kernel) rfl rfl (Nat.le_of_ble_eq_true rfl) dM_joined_243 (fun H locs hP hD hS => ?_)
      have hP : va_P (dC, dI) vwCl ((am, .inr (4, [.int cd, .ref bT, .ref bU, .int fsz, .int ln, .int pl, .int ne, .int 0, .ref bS, .ref b1, .ref b2, .ref bL, .ref bK, .ref bV, .int wa, .int hi, .ref bN, .ref bX, .ref bA, .ref bB, .int my, .int gd, .int wr, .ref bH, .int hs, .long nu])) :: (bT, .inl (kI, 300, .inl fT)) :: (bU, .inl (kI, 300, .inl fU)) :: (bS, .inl (kI, 2000, .inl fS)) :: (b1, .inl (kI, 2000, .inl f1)) :: (b2, .inl (kI, 2000, .inl f2)) :: (bL, .inl (kZ, 2000, .inl fL)) :: (bK, .inl (kJ, 2000, .inr (.inl fK))) :: (bV, .inl (kJ, 400, .inr (.inl fV))) :: (bN, .inl (kI, 19200, .inl fN)) :: (bX, .inl (kI, 1536, .inl fX)) :: (bA, .inl (kI, 64, .inl fA)) :: (bB, .inl (kI, 64, .inl fB)) :: (bH, .inl (kI, 8, .inl fH)) :: tl) _ := hP
      have hD : va_D A ((am, .inr (4, [.int cd, .ref bT, .ref bU, .int fsz, .int ln, .int pl, .int ne, .int 0, .ref bS, .ref b1, .ref b2, .ref bL, .ref bK, .ref bV, .int wa, .int hi, .ref bN, .ref bX, .ref bA, .ref bB, .int my, .int gd, .int wr, .ref bH, .int hs, .long nu])) :: (bT, .inl (kI, 300, .inl fT)) :: (bU, .inl (kI, 300, .inl fU)) :: (bS, .inl (kI, 2000, .inl fS)) :: (b1, .inl (kI, 2000, .inl f1)) :: (b2, .inl (kI, 2000, .inl f2)) :: (bL, .inl (kZ, 2000, .inl fL)) :: (bK, .inl (kJ, 2000, .inr (.inl fK))) :: (bV, .inl (kJ, 400, .inr (.inl fV))) :: (bN, .inl (kI, 19200, .inl fN)) :: (bX, .inl (kI, 1536, .inl fX)) :: (bA, .inl (kI, 64, .inl fA)) :: (bB, .inl (kI, 64, .inl fB)) :: (bH, .inl (kI, 8, .inl fH)) :: tl) := hD
      refine lv_lload hx hb dM_joined_246 (lv_at hl 5 rfl) ?_
      refine lv_lconst (v := 0) hx hb dM_joined_248 (by decide) ?_
      refine W.lcmp hx hb dM_joined_249 ?_
      refine lv_if_ne (tgt := 257) hx hb dM_joined_250 (by decide) (fun c_8 => ?_) (fun c_8 => ?_)
      · skip
        rw [lg_cmp_eq] at c_8
        refine lv_iload_n hx hb dM_joined_257 rfl (lv_at hl 1 rfl) ?_
        refine lv_bipush (v := 47) hx hb dM_joined_258 (by decide) ?_
        refine lv_icmp_ne (tgt := 271) hx hb dM_joined_260 (by decide) (fun c_9 => ?_) (fun c_9 => ?_)
        · skip
          refine lv_lload hx hb dM_joined_271 (lv_at hl 4 rfl) ?_
          refine lv_lload hx hb dM_joined_273 (lv_at hl 5 rfl) ?_
          refine lv_lrem hx hb dM_joined_275 (by grind) ?_
          have e_v : m_jn c0 r0 eq x0 y0 = x0 - x0 / y0 * y0 := by unfold m_jn; grind [sh_b]
          have e_b : sh_b (bb || m_jb c0 y0 nd) = 0 := by unfold m_jb; grind [sh_b]
          refine W.widen (k := 0) (n := 0) (Nat.le_refl _) (Nat.le_refl _) ?_
          exact W.lret (v := x0 - x0 / y0 * y0) hx hb hr (fun t ht _ => ⟨_, _, rfl, ⟨by rw [e_v], by rw [e_b]⟩, by rw [ht]; exact hP, hD, hS.F ht⟩) hS.2.2 dM_joined_276
        refine lv_lload hx hb dM_joined_263 (lv_at hl 4 rfl) ?_
        refine lv_lload hx hb dM_joined_265 (lv_at hl 5 rfl) ?_
        refine lv_ldiv hx hb dM_joined_267 (by grind) ?_
        refine lv_goto (tgt := 276) hx hb dM_joined_268 (by decide) ?_
        have e_v : m_jn c0 r0 eq x0 y0 = x0 / y0 := by unfold m_jn; grind [sh_b]
        have e_b : sh_b (bb || m_jb c0 y0 nd) = 0 := by unfold m_jb; grind [sh_b]
        refine W.widen (k := 0) (n := 0) (Nat.le_refl _) (Nat.le_refl _) ?_
        exact W.lret (v := x0 / y0) hx hb hr (fun t ht _ => ⟨_, _, rfl, ⟨by rw [e_v], by rw [e_b]⟩, by rw [ht]; exact hP, hD, hS.F ht⟩) hS.2.2 dM_joined_276
      rw [lg_cmp_eq] at c_8
      refine lv_lconst (v := 0) hx hb dM_joined_253 (by decide) ?_
      refine lv_goto (tgt := 276) hx hb dM_joined_254 (by decide) ?_
      have e_v : m_jn c0 r0 eq x0 y0 = 0 := by unfold m_jn; grind [sh_b]
      have e_b : sh_b (bb || m_jb c0 y0 nd) = 0 := by unfold m_jb; grind [sh_b]
      refine W.widen (k := 0) (n := 0) (Nat.le_refl _) (Nat.le_refl _) ?_
      exact W.lret (v := 0) hx hb hr (fun t ht _ => ⟨_, _, rfl, ⟨by rw [e_v], by rw [e_b]⟩, by rw [ht]; exact hP, hD, hS.F ht⟩) hS.2.2 dM_joined_276
    refine lv_lload hx hb dM_joined_231 (lv_at hl 5 rfl) ?_
    refine lv_lconst (v := 0) hx hb dM_joined_233 (by decide) ?_
    refine W.lcmp hx hb dM_joined_234 ?_
    refine lv_if_ne (tgt := 242) hx hb dM_joined_235 (by decide) (fun c_10 => ?_) (fun c_10 => ?_)
    · skip
      rw [lg_cmp_eq] at c_10
      refine lv_iconst (v := 0) hx hb dM_joined_242 (by decide) ?_
      refine va_put (D := (dC, dI)) (ci := 4) (v := .int 0) (ty := .boolean) (C := "ShellSumModel") (T := TM) (N := 26) hx hb htz zu_M tyM tyM_ok nmM hown hK hP hD hS 0 rfl rfl 7 (by decide) (htz _ zw_2_167) (fun _ h9 => h9) rfl (by decide +kernel) rfl rfl (Nat.le_of_ble_eq_true rfl) dM_joined_243 (fun H locs hP hD hS => ?_)
      have hP : va_P (dC, dI) vwCl ((am, .inr (4, [.int cd, .ref bT, .ref bU, .int fsz, .int ln, .int pl, .int ne, .int 0, .ref bS, .ref b1, .ref b2, .ref bL, .ref bK, .ref bV, .int wa, .int hi, .ref bN, .ref bX, .ref bA, .ref bB, .int my, .int gd, .int wr, .ref bH, .int hs, .long nu])) :: (bT, .inl (kI, 300, .inl fT)) :: (bU, .inl (kI, 300, .inl fU)) :: (bS, .inl (kI, 2000, .inl fS)) :: (b1, .inl (kI, 2000, .inl f1)) :: (b2, .inl (kI, 2000, .inl f2)) :: (bL, .inl (kZ, 2000, .inl fL)) :: (bK, .inl (kJ, 2000, .inr (.inl fK))) :: (bV, .inl (kJ, 400, .inr (.inl fV))) :: (bN, .inl (kI, 19200, .inl fN)) :: (bX, .inl (kI, 1536, .inl fX)) :: (bA, .inl (kI, 64, .inl fA)) :: (bB, .inl (kI, 64, .inl fB)) :: (bH, .inl (kI, 8, .inl fH)) :: tl) _ := hP
      have hD : va_D A ((am, .inr (4, [.int cd, .ref bT, .ref bU, .int fsz, .int ln, .int pl, .int ne, .int 0, .ref bS, .ref b1, .ref b2, .ref bL, .ref bK, .ref bV, .int wa, .int hi, .ref bN, .ref bX, .ref bA, .ref bB, .int my, .int gd, .int wr, .ref bH, .int hs, .long nu])) :: (bT, .inl (kI, 300, .inl fT)) :: (bU, .inl (kI, 300, .inl fU)) :: (bS, .inl (kI, 2000, .inl fS)) :: (b1, .inl (kI, 2000, .inl f1)) :: (b2, .inl (kI, 2000, .inl f2)) :: (bL, .inl (kZ, 2000, .inl fL)) :: (bK, .inl (kJ, 2000, .inr (.inl fK))) :: (bV, .inl (kJ, 400, .inr (.inl fV))) :: (bN, .inl (kI, 19200, .inl fN)) :: (bX, .inl (kI, 1536, .inl fX)) :: (bA, .inl (kI, 64, .inl fA)) :: (bB, .inl (kI, 64, .inl fB)) :: (bH, .inl (kI, 8, .inl fH)) :: tl) := hD
      refine lv_lload hx hb dM_joined_246 (lv_at hl 5 rfl) ?_
      refine lv_lconst (v := 0) hx hb dM_joined_248 (by decide) ?_
      refine W.lcmp hx hb dM_joined_249 ?_
      refine lv_if_ne (tgt := 257) hx hb dM_joined_250 (by decide) (fun c_11 => ?_) (fun c_11 => ?_)
      · skip
        rw [lg_cmp_eq] at c_11
        refine lv_iload_n hx hb dM_joined_257 rfl (lv_at hl 1 rfl) ?_
        refine lv_bipush (v := 47) hx hb dM_joined_258 (by decide) ?_
        refine lv_icmp_ne (tgt := 271) hx hb dM_joined_260 (by decide) (fun c_12 => ?_) (fun c_12 => ?_)
        · skip
          refine lv_lload hx hb dM_joined_271 (lv_at hl 4 rfl) ?_
          refine lv_lload hx hb dM_joined_273 (lv_at hl 5 rfl) ?_
          refine lv_lrem hx hb dM_joined_275 (by grind) ?_
          have e_v : m_jn c0 r0 eq x0 y0 = x0 - x0 / y0 * y0 := by unfold m_jn; grind [sh_b]
          have e_b : sh_b (bb || m_jb c0 y0 nd) = 0 := by unfold m_jb; grind [sh_b]
          refine W.widen (k := 0) (n := 0) (Nat.le_refl _) (Nat.le_refl _) ?_
          exact W.lret (v := x0 - x0 / y0 * y0) hx hb hr (fun t ht _ => ⟨_, _, rfl, ⟨by rw [e_v], by rw [e_b]⟩, by rw [ht]; exact hP, hD, hS.F ht⟩) hS.2.2 dM_joined_276
        refine lv_lload hx hb dM_joined_263 (lv_at hl 4 rfl) ?_
        refine lv_lload hx hb dM_joined_265 (lv_at hl 5 rfl) ?_
        refine lv_ldiv hx hb dM_joined_267 (by grind) ?_
        refine lv_goto (tgt := 276) hx hb dM_joined_268 (by decide) ?_
        have e_v : m_jn c0 r0 eq x0 y0 = x0 / y0 := by unfold m_jn; grind [sh_b]
        have e_b : sh_b (bb || m_jb c0 y0 nd) = 0 := by unfold m_jb; grind [sh_b]
        refine W.widen (k := 0) (n := 0) (Nat.le_refl _) (Nat.le_refl _) ?_
        exact W.lret (v := x0 / y0) hx hb hr (fun t ht _ => ⟨_, _, rfl, ⟨by rw [e_v], by rw [e_b]⟩, by rw [ht]; exact hP, hD, hS.F ht⟩) hS.2.2 dM_joined_276
      rw [lg_cmp_eq] at c_11
      refine lv_lconst (v := 0) hx hb dM_joined_253 (by decide) ?_
      refine lv_goto (tgt := 276) hx hb dM_joined_254 (by decide) ?_
      have e_v : m_jn c0 r0 eq x0 y0 = 0 := by unfold m_jn; grind [sh_b]
      have e_b : sh_b (bb || m_jb c0 y0 nd) = 0 := by unfold m_jb; grind [sh_b]
      refine W.widen (k := 0) (n := 0) (Nat.le_refl _) (Nat.le_refl _) ?_
      exact W.lret (v := 0) hx hb hr (fun t ht _ => ⟨_, _, rfl, ⟨by rw [e_v], by rw [e_b]⟩, by rw [ht]; exact hP, hD, hS.F ht⟩) hS.2.2 dM_joined_276
    rw [lg_cmp_eq] at c_10
    refine lv_iconst (v := 1) hx hb dM_joined_238 (by decide) ?_
    refine lv_goto (tgt := 243) hx hb dM_joined_239 (by decide) ?_
    refine va_put (D := (dC, dI)) (ci := 4) (v := .int 1) (ty := .boolean) (C := "ShellSumModel") (T := TM) (N := 26) hx hb htz zu_M tyM tyM_ok nmM hown hK hP hD hS 0 rfl rfl 7 (by decide) (htz _ zw_2_167) (fun _ h9 => h9) rfl (by decide +kernel) rfl rfl (Nat.le_of_ble_eq_true rfl) dM_joined_243 (fun H locs hP hD hS => ?_)
    have hP : va_P (dC, dI) vwCl ((am, .inr (4, [.int cd, .ref bT, .ref bU, .int fsz, .int ln, .int pl, .int ne, .int 1, .ref bS, .ref b1, .ref b2, .ref bL, .ref bK, .ref bV, .int wa, .int hi, .ref bN, .ref bX, .ref bA, .ref bB, .int my, .int gd, .int wr, .ref bH, .int hs, .long nu])) :: (bT, .inl (kI, 300, .inl fT)) :: (bU, .inl (kI, 300, .inl fU)) :: (bS, .inl (kI, 2000, .inl fS)) :: (b1, .inl (kI, 2000, .inl f1)) :: (b2, .inl (kI, 2000, .inl f2)) :: (bL, .inl (kZ, 2000, .inl fL)) :: (bK, .inl (kJ, 2000, .inr (.inl fK))) :: (bV, .inl (kJ, 400, .inr (.inl fV))) :: (bN, .inl (kI, 19200, .inl fN)) :: (bX, .inl (kI, 1536, .inl fX)) :: (bA, .inl (kI, 64, .inl fA)) :: (bB, .inl (kI, 64, .inl fB)) :: (bH, .inl (kI, 8, .inl fH)) :: tl) _ := hP
    have hD : va_D A ((am, .inr (4, [.int cd, .ref bT, .ref bU, .int fsz, .int ln, .int pl, .int ne, .int 1, .ref bS, .ref b1, .ref b2, .ref bL, .ref bK, .ref bV, .int wa, .int hi, .ref bN, .ref bX, .ref bA, .ref bB, .int my, .int gd, .int wr, .ref bH, .int hs, .long nu])) :: (bT, .inl (kI, 300, .inl fT)) :: (bU, .inl (kI, 300, .inl fU)) :: (bS, .inl (kI, 2000, .inl fS)) :: (b1, .inl (kI, 2000, .inl f1)) :: (b2, .inl (kI, 2000, .inl f2)) :: (bL, .inl (kZ, 2000, .inl fL)) :: (bK, .inl (kJ, 2000, .inr (.inl fK))) :: (bV, .inl (kJ, 400, .inr (.inl fV))) :: (bN, .inl (kI, 19200, .inl fN)) :: (bX, .inl (kI, 1536, .inl fX)) :: (bA, .inl (kI, 64, .inl fA)) :: (bB, .inl (kI, 64, .inl fB)) :: (bH, .inl (kI, 8, .inl fH)) :: tl) := hD
    refine lv_lload hx hb dM_joined_246 (lv_at hl 5 rfl) ?_
    refine lv_lconst (v := 0) hx hb dM_joined_248 (by decide) ?_
    refine W.lcmp hx hb dM_joined_249 ?_
    refine lv_if_ne (tgt := 257) hx hb dM_joined_250 (by decide) (fun c_13 => ?_) (fun c_13 => ?_)
    · skip
      rw [lg_cmp_eq] at c_13
      refine lv_iload_n hx hb dM_joined_257 rfl (lv_at hl 1 rfl) ?_
      refine lv_bipush (v := 47) hx hb dM_joined_258 (by decide) ?_
      refine lv_icmp_ne (tgt := 271) hx hb dM_joined_260 (by decide) (fun c_14 => ?_) (fun c_14 => ?_)
      · skip
        refine lv_lload hx hb dM_joined_271 (lv_at hl 4 rfl) ?_
        refine lv_lload hx hb dM_joined_273 (lv_at hl 5 rfl) ?_
        refine lv_lrem hx hb dM_joined_275 (by grind) ?_
        have e_v : m_jn c0 r0 eq x0 y0 = x0 - x0 / y0 * y0 := by unfold m_jn; grind [sh_b]
        have e_b : sh_b (bb || m_jb c0 y0 nd) = 1 := by unfold m_jb; grind [sh_b]
        refine W.widen (k := 0) (n := 0) (Nat.le_refl _) (Nat.le_refl _) ?_
        exact W.lret (v := x0 - x0 / y0 * y0) hx hb hr (fun t ht _ => ⟨_, _, rfl, ⟨by rw [e_v], by rw [e_b]⟩, by rw [ht]; exact hP, hD, hS.F ht⟩) hS.2.2 dM_joined_276
      refine lv_lload hx hb dM_joined_263 (lv_at hl 4 rfl) ?_
      refine lv_lload hx hb dM_joined_265 (lv_at hl 5 rfl) ?_
      refine lv_ldiv hx hb dM_joined_267 (by grind) ?_
      refine lv_goto (tgt := 276) hx hb dM_joined_268 (by decide) ?_
      have e_v : m_jn c0 r0 eq x0 y0 = x0 / y0 := by unfold m_jn; grind [sh_b]
      have e_b : sh_b (bb || m_jb c0 y0 nd) = 1 := by unfold m_jb; grind [sh_b]
      refine W.widen (k := 0) (n := 0) (Nat.le_refl _) (Nat.le_refl _) ?_
      exact W.lret (v := x0 / y0) hx hb hr (fun t ht _ => ⟨_, _, rfl, ⟨by rw [e_v], by rw [e_b]⟩, by rw [ht]; exact hP, hD, hS.F ht⟩) hS.2.2 dM_joined_276
    rw [lg_cmp_eq] at c_13
    refine lv_lconst (v := 0) hx hb dM_joined_253 (by decide) ?_
    refine lv_goto (tgt := 276) hx hb dM_joined_254 (by decide) ?_
    have e_v : m_jn c0 r0 eq x0 y0 = 0 := by unfold m_jn; grind [sh_b]
    have e_b : sh_b (bb || m_jb c0 y0 nd) = 1 := by unfold m_jb; grind [sh_b]
    refine W.widen (k := 0) (n := 0) (Nat.le_refl _) (Nat.le_refl _) ?_
    exact W.lret (v := 0) hx hb hr (fun t ht _ => ⟨_, _, rfl, ⟨by rw [e_v], by rw [e_b]⟩, by rw [ht]; exact hP, hD, hS.F ht⟩) hS.2.2 dM_joined_276
  by_cases c_15 : c0 = 38
  · skip
    refine lv_lookup (off := 132) (tgt := 133) hx hb dM_joined_1 (by decide) (by rw [c_15]; decide) (by decide) ?_
    refine lv_iload_n hx hb dM_joined_133 rfl (lv_at hl 2 rfl) ?_
    refine lv_iconst (v := 2) hx hb dM_joined_134 (by decide) ?_
    refine lv_icmp_ne (tgt := 160) hx hb dM_joined_135 (by decide) (fun c_16 => ?_) (fun c_16 => ?_)
    · skip
      refine lv_lload hx hb dM_joined_160 (lv_at hl 4 rfl) ?_
      refine lv_lload hx hb dM_joined_162 (lv_at hl 5 rfl) ?_
      refine lv_land hx hb dM_joined_164 ?_
      have e_v : m_jn c0 r0 eq x0 y0 = x0 &&& y0 := by unfold m_jn; grind [sh_b]
      have e_b : sh_b (bb || m_jb c0 y0 nd) = sh_b bb := by unfold m_jb; grind [sh_b]
      refine W.widen (k := 0) (n := 0) (Nat.le_refl _) (Nat.le_refl _) ?_
      exact W.lret (v := x0 &&& y0) hx hb hr (fun t ht _ => ⟨_, _, rfl, ⟨by rw [e_v], by rw [e_b]⟩, by rw [ht]; exact hP, hD, hS.F ht⟩) hS.2.2 dM_joined_165
    refine lv_lload hx hb dM_joined_138 (lv_at hl 4 rfl) ?_
    refine lv_lconst (v := 0) hx hb dM_joined_140 (by decide) ?_
    refine W.lcmp hx hb dM_joined_141 ?_
    refine lv_if_eq (tgt := 156) hx hb dM_joined_142 (by decide) (fun c_17 => ?_) (fun c_17 => ?_)
    · skip
      rw [lg_cmp_eq] at c_17
      refine lv_lconst (v := 0) hx hb dM_joined_156 (by decide) ?_
      refine lv_goto (tgt := 165) hx hb dM_joined_157 (by decide) ?_
      have e_v : m_jn c0 r0 eq x0 y0 = 0 := by unfold m_jn; grind [sh_b]
      have e_b : sh_b (bb || m_jb c0 y0 nd) = sh_b bb := by unfold m_jb; grind [sh_b]
      refine W.widen (k := 0) (n := 0) (Nat.le_refl _) (Nat.le_refl _) ?_
      exact W.lret (v := 0) hx hb hr (fun t ht _ => ⟨_, _, rfl, ⟨by rw [e_v], by rw [e_b]⟩, by rw [ht]; exact hP, hD, hS.F ht⟩) hS.2.2 dM_joined_165
    rw [lg_cmp_eq] at c_17
    refine lv_lload hx hb dM_joined_145 (lv_at hl 5 rfl) ?_
    refine lv_lconst (v := 0) hx hb dM_joined_147 (by decide) ?_
    refine W.lcmp hx hb dM_joined_148 ?_
    refine lv_if_eq (tgt := 156) hx hb dM_joined_149 (by decide) (fun c_18 => ?_) (fun c_18 => ?_)
    · skip
      rw [lg_cmp_eq] at c_18
      refine lv_lconst (v := 0) hx hb dM_joined_156 (by decide) ?_
      refine lv_goto (tgt := 165) hx hb dM_joined_157 (by decide) ?_
      have e_v : m_jn c0 r0 eq x0 y0 = 0 := by unfold m_jn; grind [sh_b]
      have e_b : sh_b (bb || m_jb c0 y0 nd) = sh_b bb := by unfold m_jb; grind [sh_b]
      refine W.widen (k := 0) (n := 0) (Nat.le_refl _) (Nat.le_refl _) ?_
      exact W.lret (v := 0) hx hb hr (fun t ht _ => ⟨_, _, rfl, ⟨by rw [e_v], by rw [e_b]⟩, by rw [ht]; exact hP, hD, hS.F ht⟩) hS.2.2 dM_joined_165
    rw [lg_cmp_eq] at c_18
    refine lv_lconst (v := 1) hx hb dM_joined_152 (by decide) ?_
    refine lv_goto (tgt := 165) hx hb dM_joined_153 (by decide) ?_
    have e_v : m_jn c0 r0 eq x0 y0 = 1 := by unfold m_jn; grind [sh_b]
    have e_b : sh_b (bb || m_jb c0 y0 nd) = sh_b bb := by unfold m_jb; grind [sh_b]
    refine W.widen (k := 0) (n := 0) (Nat.le_refl _) (Nat.le_refl _) ?_
    exact W.lret (v := 1) hx hb hr (fun t ht _ => ⟨_, _, rfl, ⟨by rw [e_v], by rw [e_b]⟩, by rw [ht]; exact hP, hD, hS.F ht⟩) hS.2.2 dM_joined_165
  by_cases c_19 : c0 = 42
  · skip
    refine lv_lookup (off := 211) (tgt := 212) hx hb dM_joined_1 (by decide) (by rw [c_19]; decide) (by decide) ?_
    refine lv_lload hx hb dM_joined_212 (lv_at hl 4 rfl) ?_
    refine lv_lload hx hb dM_joined_214 (lv_at hl 5 rfl) ?_
    refine lv_lmul hx hb dM_joined_216 ?_
    have e_v : m_jn c0 r0 eq x0 y0 = x0 * y0 := by unfold m_jn; grind [sh_b]
    have e_b : sh_b (bb || m_jb c0 y0 nd) = sh_b bb := by unfold m_jb; grind [sh_b]
    refine W.widen (k := 0) (n := 0) (Nat.le_refl _) (Nat.le_refl _) ?_
    exact W.lret (v := x0 * y0) hx hb hr (fun t ht _ => ⟨_, _, rfl, ⟨by rw [e_v], by rw [e_b]⟩, by rw [ht]; exact hP, hD, hS.F ht⟩) hS.2.2 dM_joined_217
  by_cases c_20 : c0 = 43
  · skip
    refine lv_lookup (off := 199) (tgt := 200) hx hb dM_joined_1 (by decide) (by rw [c_20]; decide) (by decide) ?_
    refine lv_lload hx hb dM_joined_200 (lv_at hl 4 rfl) ?_
    refine lv_lload hx hb dM_joined_202 (lv_at hl 5 rfl) ?_
    refine lv_ladd hx hb dM_joined_204 ?_
    have e_v : m_jn c0 r0 eq x0 y0 = x0 + y0 := by unfold m_jn; grind [sh_b]
    have e_b : sh_b (bb || m_jb c0 y0 nd) = sh_b bb := by unfold m_jb; grind [sh_b]
    refine W.widen (k := 0) (n := 0) (Nat.le_refl _) (Nat.le_refl _) ?_
    exact W.lret (v := x0 + y0) hx hb hr (fun t ht _ => ⟨_, _, rfl, ⟨by rw [e_v], by rw [e_b]⟩, by rw [ht]; exact hP, hD, hS.F ht⟩) hS.2.2 dM_joined_205
  by_cases c_21 : c0 = 45
  · skip
    refine lv_lookup (off := 205) (tgt := 206) hx hb dM_joined_1 (by decide) (by rw [c_21]; decide) (by decide) ?_
    refine lv_lload hx hb dM_joined_206 (lv_at hl 4 rfl) ?_
    refine lv_lload hx hb dM_joined_208 (lv_at hl 5 rfl) ?_
    refine lv_lsub hx hb dM_joined_210 ?_
    have e_v : m_jn c0 r0 eq x0 y0 = x0 - y0 := by unfold m_jn; grind [sh_b]
    have e_b : sh_b (bb || m_jb c0 y0 nd) = sh_b bb := by unfold m_jb; grind [sh_b]
    refine W.widen (k := 0) (n := 0) (Nat.le_refl _) (Nat.le_refl _) ?_
    exact W.lret (v := x0 - y0) hx hb hr (fun t ht _ => ⟨_, _, rfl, ⟨by rw [e_v], by rw [e_b]⟩, by rw [ht]; exact hP, hD, hS.F ht⟩) hS.2.2 dM_joined_211
  by_cases c_22 : c0 = 47
  · skip
    refine lv_lookup (off := 217) (tgt := 218) hx hb dM_joined_1 (by decide) (by rw [c_22]; decide) (by decide) ?_
    refine lv_aload_n hx hb dM_joined_218 rfl (lv_at hl 0 rfl) ?_
    refine lv_aload_n hx hb dM_joined_219 rfl (lv_at hl 0 rfl) ?_
    refine va_get (D := (dC, dI)) (ci := 4) (v := .int (sh_b bb)) (C := "ShellSumModel") (T := TM) (N := 26) hx hb htz zu_M hown hK hP 0 rfl rfl 7 (by decide) (htz _ zw_2_167) (fun _ h9 => h9) rfl dM_joined_220 ?_
    refine lv_if_ne (tgt := 238) hx hb dM_joined_223 (by decide) (fun c_23 => ?_) (fun c_23 => ?_)
    · skip
      refine lv_iconst (v := 1) hx hb dM_joined_238 (by decide) ?_
      refine lv_goto (tgt := 243) hx hb dM_joined_239 (by decide) ?_
      refine va_put (D := (dC, dI)) (ci := 4) (v := .int 1) (ty := .boolean) (C := "ShellSumModel") (T := TM) (N := 26) hx hb htz zu_M tyM tyM_ok nmM hown hK hP hD hS 0 rfl rfl 7 (by decide) (htz _ zw_2_167) (fun _ h9 => h9) rfl (by decide +kernel) rfl rfl (Nat.le_of_ble_eq_true rfl) dM_joined_243 (fun H locs hP hD hS => ?_)
      have hP : va_P (dC, dI) vwCl ((am, .inr (4, [.int cd, .ref bT, .ref bU, .int fsz, .int ln, .int pl, .int ne, .int 1, .ref bS, .ref b1, .ref b2, .ref bL, .ref bK, .ref bV, .int wa, .int hi, .ref bN, .ref bX, .ref bA, .ref bB, .int my, .int gd, .int wr, .ref bH, .int hs, .long nu])) :: (bT, .inl (kI, 300, .inl fT)) :: (bU, .inl (kI, 300, .inl fU)) :: (bS, .inl (kI, 2000, .inl fS)) :: (b1, .inl (kI, 2000, .inl f1)) :: (b2, .inl (kI, 2000, .inl f2)) :: (bL, .inl (kZ, 2000, .inl fL)) :: (bK, .inl (kJ, 2000, .inr (.inl fK))) :: (bV, .inl (kJ, 400, .inr (.inl fV))) :: (bN, .inl (kI, 19200, .inl fN)) :: (bX, .inl (kI, 1536, .inl fX)) :: (bA, .inl (kI, 64, .inl fA)) :: (bB, .inl (kI, 64, .inl fB)) :: (bH, .inl (kI, 8, .inl fH)) :: tl) _ := hP
      have hD : va_D A ((am, .inr (4, [.int cd, .ref bT, .ref bU, .int fsz, .int ln, .int pl, .int ne, .int 1, .ref bS, .ref b1, .ref b2, .ref bL, .ref bK, .ref bV, .int wa, .int hi, .ref bN, .ref bX, .ref bA, .ref bB, .int my, .int gd, .int wr, .ref bH, .int hs, .long nu])) :: (bT, .inl (kI, 300, .inl fT)) :: (bU, .inl (kI, 300, .inl fU)) :: (bS, .inl (kI, 2000, .inl fS)) :: (b1, .inl (kI, 2000, .inl f1)) :: (b2, .inl (kI, 2000, .inl f2)) :: (bL, .inl (kZ, 2000, .inl fL)) :: (bK, .inl (kJ, 2000, .inr (.inl fK))) :: (bV, .inl (kJ, 400, .inr (.inl fV))) :: (bN, .inl (kI, 19200, .inl fN)) :: (bX, .inl (kI, 1536, .inl fX)) :: (bA, .inl (kI, 64, .inl fA)) :: (bB, .inl (kI, 64, .inl fB)) :: (bH, .inl (kI, 8, .inl fH)) :: tl) := hD
      refine lv_lload hx hb dM_joined_246 (lv_at hl 5 rfl) ?_
      refine lv_lconst (v := 0) hx hb dM_joined_248 (by decide) ?_
      refine W.lcmp hx hb dM_joined_249 ?_
      refine lv_if_ne (tgt := 257) hx hb dM_joined_250 (by decide) (fun c_24 => ?_) (fun c_24 => ?_)
      · skip
        rw [lg_cmp_eq] at c_24
        refine lv_iload_n hx hb dM_joined_257 rfl (lv_at hl 1 rfl) ?_
        refine lv_bipush (v := 47) hx hb dM_joined_258 (by decide) ?_
        refine lv_icmp_ne (tgt := 271) hx hb dM_joined_260 (by decide) (fun c_25 => ?_) (fun c_25 => ?_)
        · skip
          refine lv_lload hx hb dM_joined_271 (lv_at hl 4 rfl) ?_
          refine lv_lload hx hb dM_joined_273 (lv_at hl 5 rfl) ?_
          refine lv_lrem hx hb dM_joined_275 (by grind) ?_
          have e_v : m_jn c0 r0 eq x0 y0 = x0 - x0 / y0 * y0 := by unfold m_jn; grind [sh_b]
          have e_b : sh_b (bb || m_jb c0 y0 nd) = 1 := by unfold m_jb; grind [sh_b]
          refine W.widen (k := 0) (n := 0) (Nat.le_refl _) (Nat.le_refl _) ?_
          exact W.lret (v := x0 - x0 / y0 * y0) hx hb hr (fun t ht _ => ⟨_, _, rfl, ⟨by rw [e_v], by rw [e_b]⟩, by rw [ht]; exact hP, hD, hS.F ht⟩) hS.2.2 dM_joined_276
        refine lv_lload hx hb dM_joined_263 (lv_at hl 4 rfl) ?_
        refine lv_lload hx hb dM_joined_265 (lv_at hl 5 rfl) ?_
        refine lv_ldiv hx hb dM_joined_267 (by grind) ?_
        refine lv_goto (tgt := 276) hx hb dM_joined_268 (by decide) ?_
        have e_v : m_jn c0 r0 eq x0 y0 = x0 / y0 := by unfold m_jn; grind [sh_b]
        have e_b : sh_b (bb || m_jb c0 y0 nd) = 1 := by unfold m_jb; grind [sh_b]
        refine W.widen (k := 0) (n := 0) (Nat.le_refl _) (Nat.le_refl _) ?_
        exact W.lret (v := x0 / y0) hx hb hr (fun t ht _ => ⟨_, _, rfl, ⟨by rw [e_v], by rw [e_b]⟩, by rw [ht]; exact hP, hD, hS.F ht⟩) hS.2.2 dM_joined_276
      rw [lg_cmp_eq] at c_24
      refine lv_lconst (v := 0) hx hb dM_joined_253 (by decide) ?_
      refine lv_goto (tgt := 276) hx hb dM_joined_254 (by decide) ?_
      have e_v : m_jn c0 r0 eq x0 y0 = 0 := by unfold m_jn; grind [sh_b]
      have e_b : sh_b (bb || m_jb c0 y0 nd) = 1 := by unfold m_jb; grind [sh_b]
      refine W.widen (k := 0) (n := 0) (Nat.le_refl _) (Nat.le_refl _) ?_
      exact W.lret (v := 0) hx hb hr (fun t ht _ => ⟨_, _, rfl, ⟨by rw [e_v], by rw [e_b]⟩, by rw [ht]; exact hP, hD, hS.F ht⟩) hS.2.2 dM_joined_276
    refine lv_iload hx hb dM_joined_226 (lv_at hl 6 rfl) ?_
    refine lv_if_eq (tgt := 242) hx hb dM_joined_228 (by decide) (fun c_26 => ?_) (fun c_26 => ?_)
    · skip
      refine lv_iconst (v := 0) hx hb dM_joined_242 (by decide) ?_
      refine va_put (D := (dC, dI)) (ci := 4) (v := .int 0) (ty := .boolean) (C := "ShellSumModel") (T := TM) (N := 26) hx hb htz zu_M tyM tyM_ok nmM hown hK hP hD hS 0 rfl rfl 7 (by decide) (htz _ zw_2_167) (fun _ h9 => h9) rfl (by decide +kernel) rfl rfl (Nat.le_of_ble_eq_true rfl) dM_joined_243 (fun H locs hP hD hS => ?_)
      have hP : va_P (dC, dI) vwCl ((am, .inr (4, [.int cd, .ref bT, .ref bU, .int fsz, .int ln, .int pl, .int ne, .int 0, .ref bS, .ref b1, .ref b2, .ref bL, .ref bK, .ref bV, .int wa, .int hi, .ref bN, .ref bX, .ref bA, .ref bB, .int my, .int gd, .int wr, .ref bH, .int hs, .long nu])) :: (bT, .inl (kI, 300, .inl fT)) :: (bU, .inl (kI, 300, .inl fU)) :: (bS, .inl (kI, 2000, .inl fS)) :: (b1, .inl (kI, 2000, .inl f1)) :: (b2, .inl (kI, 2000, .inl f2)) :: (bL, .inl (kZ, 2000, .inl fL)) :: (bK, .inl (kJ, 2000, .inr (.inl fK))) :: (bV, .inl (kJ, 400, .inr (.inl fV))) :: (bN, .inl (kI, 19200, .inl fN)) :: (bX, .inl (kI, 1536, .inl fX)) :: (bA, .inl (kI, 64, .inl fA)) :: (bB, .inl (kI, 64, .inl fB)) :: (bH, .inl (kI, 8, .inl fH)) :: tl) _ := hP
      have hD : va_D A ((am, .inr (4, [.int cd, .ref bT, .ref bU, .int fsz, .int ln, .int pl, .int ne, .int 0, .ref bS, .ref b1, .ref b2, .ref bL, .ref bK, .ref bV, .int wa, .int hi, .ref bN, .ref bX, .ref bA, .ref bB, .int my, .int gd, .int wr, .ref bH, .int hs, .long nu])) :: (bT, .inl (kI, 300, .inl fT)) :: (bU, .inl (kI, 300, .inl fU)) :: (bS, .inl (kI, 2000, .inl fS)) :: (b1, .inl (kI, 2000, .inl f1)) :: (b2, .inl (kI, 2000, .inl f2)) :: (bL, .inl (kZ, 2000, .inl fL)) :: (bK, .inl (kJ, 2000, .inr (.inl fK))) :: (bV, .inl (kJ, 400, .inr (.inl fV))) :: (bN, .inl (kI, 19200, .inl fN)) :: (bX, .inl (kI, 1536, .inl fX)) :: (bA, .inl (kI, 64, .inl fA)) :: (bB, .inl (kI, 64, .inl fB)) :: (bH, .inl (kI, 8, .inl fH)) :: tl) := hD
      refine lv_lload hx hb dM_joined_246 (lv_at hl 5 rfl) ?_
      refine lv_lconst (v := 0) hx hb dM_joined_248 (by decide) ?_
      refine W.lcmp hx hb dM_joined_249 ?_
      refine lv_if_ne (tgt := 257) hx hb dM_joined_250 (by decide) (fun c_27 => ?_) (fun c_27 => ?_)
      · skip
        rw [lg_cmp_eq] at c_27
        refine lv_iload_n hx hb dM_joined_257 rfl (lv_at hl 1 rfl) ?_
        refine lv_bipush (v := 47) hx hb dM_joined_258 (by decide) ?_
        refine lv_icmp_ne (tgt := 271) hx hb dM_joined_260 (by decide) (fun c_28 => ?_) (fun c_28 => ?_)
        · skip
          refine lv_lload hx hb dM_joined_271 (lv_at hl 4 rfl) ?_
          refine lv_lload hx hb dM_joined_273 (lv_at hl 5 rfl) ?_
          refine lv_lrem hx hb dM_joined_275 (by grind) ?_
          have e_v : m_jn c0 r0 eq x0 y0 = x0 - x0 / y0 * y0 := by unfold m_jn; grind [sh_b]
          have e_b : sh_b (bb || m_jb c0 y0 nd) = 0 := by unfold m_jb; grind [sh_b]
          refine W.widen (k := 0) (n := 0) (Nat.le_refl _) (Nat.le_refl _) ?_
          exact W.lret (v := x0 - x0 / y0 * y0) hx hb hr (fun t ht _ => ⟨_, _, rfl, ⟨by rw [e_v], by rw [e_b]⟩, by rw [ht]; exact hP, hD, hS.F ht⟩) hS.2.2 dM_joined_276
        refine lv_lload hx hb dM_joined_263 (lv_at hl 4 rfl) ?_
        refine lv_lload hx hb dM_joined_265 (lv_at hl 5 rfl) ?_
        refine lv_ldiv hx hb dM_joined_267 (by grind) ?_
        refine lv_goto (tgt := 276) hx hb dM_joined_268 (by decide) ?_
        have e_v : m_jn c0 r0 eq x0 y0 = x0 / y0 := by unfold m_jn; grind [sh_b]
        have e_b : sh_b (bb || m_jb c0 y0 nd) = 0 := by unfold m_jb; grind [sh_b]
        refine W.widen (k := 0) (n := 0) (Nat.le_refl _) (Nat.le_refl _) ?_
        exact W.lret (v := x0 / y0) hx hb hr (fun t ht _ => ⟨_, _, rfl, ⟨by rw [e_v], by rw [e_b]⟩, by rw [ht]; exact hP, hD, hS.F ht⟩) hS.2.2 dM_joined_276
      rw [lg_cmp_eq] at c_27
      refine lv_lconst (v := 0) hx hb dM_joined_253 (by decide) ?_
      refine lv_goto (tgt := 276) hx hb dM_joined_254 (by decide) ?_
      have e_v : m_jn c0 r0 eq x0 y0 = 0 := by unfold m_jn; grind [sh_b]
      have e_b : sh_b (bb || m_jb c0 y0 nd) = 0 := by unfold m_jb; grind [sh_b]
      refine W.widen (k := 0) (n := 0) (Nat.le_refl _) (Nat.le_refl _) ?_
      exact W.lret (v := 0) hx hb hr (fun t ht _ => ⟨_, _, rfl, ⟨by rw [e_v], by rw [e_b]⟩, by rw [ht]; exact hP, hD, hS.F ht⟩) hS.2.2 dM_joined_276
    refine lv_lload hx hb dM_joined_231 (lv_at hl 5 rfl) ?_
    refine lv_lconst (v := 0) hx hb dM_joined_233 (by decide) ?_
    refine W.lcmp hx hb dM_joined_234 ?_
    refine lv_if_ne (tgt := 242) hx hb dM_joined_235 (by decide) (fun c_29 => ?_) (fun c_29 => ?_)
    · skip
      rw [lg_cmp_eq] at c_29
      refine lv_iconst (v := 0) hx hb dM_joined_242 (by decide) ?_
      refine va_put (D := (dC, dI)) (ci := 4) (v := .int 0) (ty := .boolean) (C := "ShellSumModel") (T := TM) (N := 26) hx hb htz zu_M tyM tyM_ok nmM hown hK hP hD hS 0 rfl rfl 7 (by decide) (htz _ zw_2_167) (fun _ h9 => h9) rfl (by decide +kernel) rfl rfl (Nat.le_of_ble_eq_true rfl) dM_joined_243 (fun H locs hP hD hS => ?_)
      have hP : va_P (dC, dI) vwCl ((am, .inr (4, [.int cd, .ref bT, .ref bU, .int fsz, .int ln, .int pl, .int ne, .int 0, .ref bS, .ref b1, .ref b2, .ref bL, .ref bK, .ref bV, .int wa, .int hi, .ref bN, .ref bX, .ref bA, .ref bB, .int my, .int gd, .int wr, .ref bH, .int hs, .long nu])) :: (bT, .inl (kI, 300, .inl fT)) :: (bU, .inl (kI, 300, .inl fU)) :: (bS, .inl (kI, 2000, .inl fS)) :: (b1, .inl (kI, 2000, .inl f1)) :: (b2, .inl (kI, 2000, .inl f2)) :: (bL, .inl (kZ, 2000, .inl fL)) :: (bK, .inl (kJ, 2000, .inr (.inl fK))) :: (bV, .inl (kJ, 400, .inr (.inl fV))) :: (bN, .inl (kI, 19200, .inl fN)) :: (bX, .inl (kI, 1536, .inl fX)) :: (bA, .inl (kI, 64, .inl fA)) :: (bB, .inl (kI, 64, .inl fB)) :: (bH, .inl (kI, 8, .inl fH)) :: tl) _ := hP
      have hD : va_D A ((am, .inr (4, [.int cd, .ref bT, .ref bU, .int fsz, .int ln, .int pl, .int ne, .int 0, .ref bS, .ref b1, .ref b2, .ref bL, .ref bK, .ref bV, .int wa, .int hi, .ref bN, .ref bX, .ref bA, .ref bB, .int my, .int gd, .int wr, .ref bH, .int hs, .long nu])) :: (bT, .inl (kI, 300, .inl fT)) :: (bU, .inl (kI, 300, .inl fU)) :: (bS, .inl (kI, 2000, .inl fS)) :: (b1, .inl (kI, 2000, .inl f1)) :: (b2, .inl (kI, 2000, .inl f2)) :: (bL, .inl (kZ, 2000, .inl fL)) :: (bK, .inl (kJ, 2000, .inr (.inl fK))) :: (bV, .inl (kJ, 400, .inr (.inl fV))) :: (bN, .inl (kI, 19200, .inl fN)) :: (bX, .inl (kI, 1536, .inl fX)) :: (bA, .inl (kI, 64, .inl fA)) :: (bB, .inl (kI, 64, .inl fB)) :: (bH, .inl (kI, 8, .inl fH)) :: tl) := hD
      refine lv_lload hx hb dM_joined_246 (lv_at hl 5 rfl) ?_
      refine lv_lconst (v := 0) hx hb dM_joined_248 (by decide) ?_
      refine W.lcmp hx hb dM_joined_249 ?_
      refine lv_if_ne (tgt := 257) hx hb dM_joined_250 (by decide) (fun c_30 => ?_) (fun c_30 => ?_)
      · skip
        rw [lg_cmp_eq] at c_30
        refine lv_iload_n hx hb dM_joined_257 rfl (lv_at hl 1 rfl) ?_
        refine lv_bipush (v := 47) hx hb dM_joined_258 (by decide) ?_
        refine lv_icmp_ne (tgt := 271) hx hb dM_joined_260 (by decide) (fun c_31 => ?_) (fun c_31 => ?_)
        · skip
          refine lv_lload hx hb dM_joined_271 (lv_at hl 4 rfl) ?_
          refine lv_lload hx hb dM_joined_273 (lv_at hl 5 rfl) ?_
          refine lv_lrem hx hb dM_joined_275 (by grind) ?_
          have e_v : m_jn c0 r0 eq x0 y0 = x0 - x0 / y0 * y0 := by unfold m_jn; grind [sh_b]
          have e_b : sh_b (bb || m_jb c0 y0 nd) = 0 := by unfold m_jb; grind [sh_b]
          refine W.widen (k := 0) (n := 0) (Nat.le_refl _) (Nat.le_refl _) ?_
          exact W.lret (v := x0 - x0 / y0 * y0) hx hb hr (fun t ht _ => ⟨_, _, rfl, ⟨by rw [e_v], by rw [e_b]⟩, by rw [ht]; exact hP, hD, hS.F ht⟩) hS.2.2 dM_joined_276
        refine lv_lload hx hb dM_joined_263 (lv_at hl 4 rfl) ?_
        refine lv_lload hx hb dM_joined_265 (lv_at hl 5 rfl) ?_
        refine lv_ldiv hx hb dM_joined_267 (by grind) ?_
        refine lv_goto (tgt := 276) hx hb dM_joined_268 (by decide) ?_
        have e_v : m_jn c0 r0 eq x0 y0 = x0 / y0 := by unfold m_jn; grind [sh_b]
        have e_b : sh_b (bb || m_jb c0 y0 nd) = 0 := by unfold m_jb; grind [sh_b]
        refine W.widen (k := 0) (n := 0) (Nat.le_refl _) (Nat.le_refl _) ?_
        exact W.lret (v := x0 / y0) hx hb hr (fun t ht _ => ⟨_, _, rfl, ⟨by rw [e_v], by rw [e_b]⟩, by rw [ht]; exact hP, hD, hS.F ht⟩) hS.2.2 dM_joined_276
      rw [lg_cmp_eq] at c_30
      refine lv_lconst (v := 0) hx hb dM_joined_253 (by decide) ?_
      refine lv_goto (tgt := 276) hx hb dM_joined_254 (by decide) ?_
      have e_v : m_jn c0 r0 eq x0 y0 = 0 := by unfold m_jn; grind [sh_b]
      have e_b : sh_b (bb || m_jb c0 y0 nd) = 0 := by unfold m_jb; grind [sh_b]
      refine W.widen (k := 0) (n := 0) (Nat.le_refl _) (Nat.le_refl _) ?_
      exact W.lret (v := 0) hx hb hr (fun t ht _ => ⟨_, _, rfl, ⟨by rw [e_v], by rw [e_b]⟩, by rw [ht]; exact hP, hD, hS.F ht⟩) hS.2.2 dM_joined_276
    rw [lg_cmp_eq] at c_29
    refine lv_iconst (v := 1) hx hb dM_joined_238 (by decide) ?_
    refine lv_goto (tgt := 243) hx hb dM_joined_239 (by decide) ?_
    refine va_put (D := (dC, dI)) (ci := 4) (v := .int 1) (ty := .boolean) (C := "ShellSumModel") (T := TM) (N := 26) hx hb htz zu_M tyM tyM_ok nmM hown hK hP hD hS 0 rfl rfl 7 (by decide) (htz _ zw_2_167) (fun _ h9 => h9) rfl (by decide +kernel) rfl rfl (Nat.le_of_ble_eq_true rfl) dM_joined_243 (fun H locs hP hD hS => ?_)
    have hP : va_P (dC, dI) vwCl ((am, .inr (4, [.int cd, .ref bT, .ref bU, .int fsz, .int ln, .int pl, .int ne, .int 1, .ref bS, .ref b1, .ref b2, .ref bL, .ref bK, .ref bV, .int wa, .int hi, .ref bN, .ref bX, .ref bA, .ref bB, .int my, .int gd, .int wr, .ref bH, .int hs, .long nu])) :: (bT, .inl (kI, 300, .inl fT)) :: (bU, .inl (kI, 300, .inl fU)) :: (bS, .inl (kI, 2000, .inl fS)) :: (b1, .inl (kI, 2000, .inl f1)) :: (b2, .inl (kI, 2000, .inl f2)) :: (bL, .inl (kZ, 2000, .inl fL)) :: (bK, .inl (kJ, 2000, .inr (.inl fK))) :: (bV, .inl (kJ, 400, .inr (.inl fV))) :: (bN, .inl (kI, 19200, .inl fN)) :: (bX, .inl (kI, 1536, .inl fX)) :: (bA, .inl (kI, 64, .inl fA)) :: (bB, .inl (kI, 64, .inl fB)) :: (bH, .inl (kI, 8, .inl fH)) :: tl) _ := hP
    have hD : va_D A ((am, .inr (4, [.int cd, .ref bT, .ref bU, .int fsz, .int ln, .int pl, .int ne, .int 1, .ref bS, .ref b1, .ref b2, .ref bL, .ref bK, .ref bV, .int wa, .int hi, .ref bN, .ref bX, .ref bA, .ref bB, .int my, .int gd, .int wr, .ref bH, .int hs, .long nu])) :: (bT, .inl (kI, 300, .inl fT)) :: (bU, .inl (kI, 300, .inl fU)) :: (bS, .inl (kI, 2000, .inl fS)) :: (b1, .inl (kI, 2000, .inl f1)) :: (b2, .inl (kI, 2000, .inl f2)) :: (bL, .inl (kZ, 2000, .inl fL)) :: (bK, .inl (kJ, 2000, .inr (.inl fK))) :: (bV, .inl (kJ, 400, .inr (.inl fV))) :: (bN, .inl (kI, 19200, .inl fN)) :: (bX, .inl (kI, 1536, .inl fX)) :: (bA, .inl (kI, 64, .inl fA)) :: (bB, .inl (kI, 64, .inl fB)) :: (bH, .inl (kI, 8, .inl fH)) :: tl) := hD
    refine lv_lload hx hb dM_joined_246 (lv_at hl 5 rfl) ?_
    refine lv_lconst (v := 0) hx hb dM_joined_248 (by decide) ?_
    refine W.lcmp hx hb dM_joined_249 ?_
    refine lv_if_ne (tgt := 257) hx hb dM_joined_250 (by decide) (fun c_32 => ?_) (fun c_32 => ?_)
    · skip
      rw [lg_cmp_eq] at c_32
      refine lv_iload_n hx hb dM_joined_257 rfl (lv_at hl 1 rfl) ?_
      refine lv_bipush (v := 47) hx hb dM_joined_258 (by decide) ?_
      refine lv_icmp_ne (tgt := 271) hx hb dM_joined_260 (by decide) (fun c_33 => ?_) (fun c_33 => ?_)
      · skip
        refine lv_lload hx hb dM_joined_271 (lv_at hl 4 rfl) ?_
        refine lv_lload hx hb dM_joined_273 (lv_at hl 5 rfl) ?_
        refine lv_lrem hx hb dM_joined_275 (by grind) ?_
        have e_v : m_jn c0 r0 eq x0 y0 = x0 - x0 / y0 * y0 := by unfold m_jn; grind [sh_b]
        have e_b : sh_b (bb || m_jb c0 y0 nd) = 1 := by unfold m_jb; grind [sh_b]
        refine W.widen (k := 0) (n := 0) (Nat.le_refl _) (Nat.le_refl _) ?_
        exact W.lret (v := x0 - x0 / y0 * y0) hx hb hr (fun t ht _ => ⟨_, _, rfl, ⟨by rw [e_v], by rw [e_b]⟩, by rw [ht]; exact hP, hD, hS.F ht⟩) hS.2.2 dM_joined_276
      refine lv_lload hx hb dM_joined_263 (lv_at hl 4 rfl) ?_
      refine lv_lload hx hb dM_joined_265 (lv_at hl 5 rfl) ?_
      refine lv_ldiv hx hb dM_joined_267 (by grind) ?_
      refine lv_goto (tgt := 276) hx hb dM_joined_268 (by decide) ?_
      have e_v : m_jn c0 r0 eq x0 y0 = x0 / y0 := by unfold m_jn; grind [sh_b]
      have e_b : sh_b (bb || m_jb c0 y0 nd) = 1 := by unfold m_jb; grind [sh_b]
      refine W.widen (k := 0) (n := 0) (Nat.le_refl _) (Nat.le_refl _) ?_
      exact W.lret (v := x0 / y0) hx hb hr (fun t ht _ => ⟨_, _, rfl, ⟨by rw [e_v], by rw [e_b]⟩, by rw [ht]; exact hP, hD, hS.F ht⟩) hS.2.2 dM_joined_276
    rw [lg_cmp_eq] at c_32
    refine lv_lconst (v := 0) hx hb dM_joined_253 (by decide) ?_
    refine lv_goto (tgt := 276) hx hb dM_joined_254 (by decide) ?_
    have e_v : m_jn c0 r0 eq x0 y0 = 0 := by unfold m_jn; grind [sh_b]
    have e_b : sh_b (bb || m_jb c0 y0 nd) = 1 := by unfold m_jb; grind [sh_b]
    refine W.widen (k := 0) (n := 0) (Nat.le_refl _) (Nat.le_refl _) ?_
    exact W.lret (v := 0) hx hb hr (fun t ht _ => ⟨_, _, rfl, ⟨by rw [e_v], by rw [e_b]⟩, by rw [ht]; exact hP, hD, hS.F ht⟩) hS.2.2 dM_joined_276
  by_cases c_34 : c0 = 60
  · skip
    refine lv_lookup (off := 276) (tgt := 277) hx hb dM_joined_1 (by decide) (by rw [c_34]; decide) (by decide) ?_
    refine lv_iload_n hx hb dM_joined_277 rfl (lv_at hl 2 rfl) ?_
    refine lv_bipush (v := 8) hx hb dM_joined_278 (by decide) ?_
    refine lv_icmp_ne (tgt := 292) hx hb dM_joined_280 (by decide) (fun c_35 => ?_) (fun c_35 => ?_)
    · skip
      refine lv_lload hx hb dM_joined_292 (lv_at hl 4 rfl) ?_
      refine lv_lload hx hb dM_joined_294 (lv_at hl 5 rfl) ?_
      refine W.lcmp hx hb dM_joined_296 ?_
      refine lv_if_lt (tgt := 312) hx hb dM_joined_297 (by decide) (fun c_36 => ?_) (fun c_36 => ?_)
      · skip
        rw [lg_cmp_lt] at c_36
        refine lv_lconst (v := 1) hx hb dM_joined_312 (by decide) ?_
        refine lv_goto (tgt := 317) hx hb dM_joined_313 (by decide) ?_
        have e_v : m_jn c0 r0 eq x0 y0 = 1 := by unfold m_jn; grind [sh_b]
        have e_b : sh_b (bb || m_jb c0 y0 nd) = sh_b bb := by unfold m_jb; grind [sh_b]
        refine W.widen (k := 0) (n := 0) (Nat.le_refl _) (Nat.le_refl _) ?_
        exact W.lret (v := 1) hx hb hr (fun t ht _ => ⟨_, _, rfl, ⟨by rw [e_v], by rw [e_b]⟩, by rw [ht]; exact hP, hD, hS.F ht⟩) hS.2.2 dM_joined_317
      rw [lg_cmp_lt] at c_36
      refine lv_iload_n hx hb dM_joined_300 rfl (lv_at hl 3 rfl) ?_
      refine lv_if_eq (tgt := 316) hx hb dM_joined_301 (by decide) (fun c_37 => ?_) (fun c_37 => ?_)
      · skip
        refine lv_lconst (v := 0) hx hb dM_joined_316 (by decide) ?_
        have e_v : m_jn c0 r0 eq x0 y0 = 0 := by unfold m_jn; grind [sh_b]
        have e_b : sh_b (bb || m_jb c0 y0 nd) = sh_b bb := by unfold m_jb; grind [sh_b]
        refine W.widen (k := 0) (n := 0) (Nat.le_refl _) (Nat.le_refl _) ?_
        exact W.lret (v := 0) hx hb hr (fun t ht _ => ⟨_, _, rfl, ⟨by rw [e_v], by rw [e_b]⟩, by rw [ht]; exact hP, hD, hS.F ht⟩) hS.2.2 dM_joined_317
      refine lv_lload hx hb dM_joined_304 (lv_at hl 4 rfl) ?_
      refine lv_lload hx hb dM_joined_306 (lv_at hl 5 rfl) ?_
      refine W.lcmp hx hb dM_joined_308 ?_
      refine lv_if_ne (tgt := 316) hx hb dM_joined_309 (by decide) (fun c_38 => ?_) (fun c_38 => ?_)
      · skip
        rw [lg_cmp_eq] at c_38
        refine lv_lconst (v := 0) hx hb dM_joined_316 (by decide) ?_
        have e_v : m_jn c0 r0 eq x0 y0 = 0 := by unfold m_jn; grind [sh_b]
        have e_b : sh_b (bb || m_jb c0 y0 nd) = sh_b bb := by unfold m_jb; grind [sh_b]
        refine W.widen (k := 0) (n := 0) (Nat.le_refl _) (Nat.le_refl _) ?_
        exact W.lret (v := 0) hx hb hr (fun t ht _ => ⟨_, _, rfl, ⟨by rw [e_v], by rw [e_b]⟩, by rw [ht]; exact hP, hD, hS.F ht⟩) hS.2.2 dM_joined_317
      rw [lg_cmp_eq] at c_38
      refine lv_lconst (v := 1) hx hb dM_joined_312 (by decide) ?_
      refine lv_goto (tgt := 317) hx hb dM_joined_313 (by decide) ?_
      have e_v : m_jn c0 r0 eq x0 y0 = 1 := by unfold m_jn; grind [sh_b]
      have e_b : sh_b (bb || m_jb c0 y0 nd) = sh_b bb := by unfold m_jb; grind [sh_b]
      refine W.widen (k := 0) (n := 0) (Nat.le_refl _) (Nat.le_refl _) ?_
      exact W.lret (v := 1) hx hb hr (fun t ht _ => ⟨_, _, rfl, ⟨by rw [e_v], by rw [e_b]⟩, by rw [ht]; exact hP, hD, hS.F ht⟩) hS.2.2 dM_joined_317
    refine lv_lload hx hb dM_joined_283 (lv_at hl 4 rfl) ?_
    refine lv_lload hx hb dM_joined_285 (lv_at hl 5 rfl) ?_
    refine lv_l2i hx hb dM_joined_287 rfl ?_
    refine lv_lshl hx hb dM_joined_288 rfl ?_
    refine lv_goto (tgt := 317) hx hb dM_joined_289 (by decide) ?_
    have e_v : m_jn c0 r0 eq x0 y0 = x0 <<< (((y0).toInt32).toInt64 &&& 63) := by unfold m_jn; grind [sh_b]
    have e_b : sh_b (bb || m_jb c0 y0 nd) = sh_b bb := by unfold m_jb; grind [sh_b]
    refine W.widen (k := 0) (n := 0) (Nat.le_refl _) (Nat.le_refl _) ?_
    exact W.lret (v := x0 <<< (((y0).toInt32).toInt64 &&& 63)) hx hb hr (fun t ht _ => ⟨_, _, rfl, ⟨by rw [e_v], by rw [e_b]⟩, by rw [ht]; exact hP, hD, hS.F ht⟩) hS.2.2 dM_joined_317
  by_cases c_39 : c0 = 61
  · skip
    refine lv_lookup (off := 171) (tgt := 172) hx hb dM_joined_1 (by decide) (by rw [c_39]; decide) (by decide) ?_
    refine lv_lload hx hb dM_joined_172 (lv_at hl 4 rfl) ?_
    refine lv_lload hx hb dM_joined_174 (lv_at hl 5 rfl) ?_
    refine W.lcmp hx hb dM_joined_176 ?_
    refine lv_if_ne (tgt := 184) hx hb dM_joined_177 (by decide) (fun c_40 => ?_) (fun c_40 => ?_)
    · skip
      rw [lg_cmp_eq] at c_40
      refine lv_lconst (v := 0) hx hb dM_joined_184 (by decide) ?_
      have e_v : m_jn c0 r0 eq x0 y0 = 0 := by unfold m_jn; grind [sh_b]
      have e_b : sh_b (bb || m_jb c0 y0 nd) = sh_b bb := by unfold m_jb; grind [sh_b]
      refine W.widen (k := 0) (n := 0) (Nat.le_refl _) (Nat.le_refl _) ?_
      exact W.lret (v := 0) hx hb hr (fun t ht _ => ⟨_, _, rfl, ⟨by rw [e_v], by rw [e_b]⟩, by rw [ht]; exact hP, hD, hS.F ht⟩) hS.2.2 dM_joined_185
    rw [lg_cmp_eq] at c_40
    refine lv_lconst (v := 1) hx hb dM_joined_180 (by decide) ?_
    refine lv_goto (tgt := 185) hx hb dM_joined_181 (by decide) ?_
    have e_v : m_jn c0 r0 eq x0 y0 = 1 := by unfold m_jn; grind [sh_b]
    have e_b : sh_b (bb || m_jb c0 y0 nd) = sh_b bb := by unfold m_jb; grind [sh_b]
    refine W.widen (k := 0) (n := 0) (Nat.le_refl _) (Nat.le_refl _) ?_
    exact W.lret (v := 1) hx hb hr (fun t ht _ => ⟨_, _, rfl, ⟨by rw [e_v], by rw [e_b]⟩, by rw [ht]; exact hP, hD, hS.F ht⟩) hS.2.2 dM_joined_185
  by_cases c_41 : c0 = 94
  · skip
    refine lv_lookup (off := 165) (tgt := 166) hx hb dM_joined_1 (by decide) (by rw [c_41]; decide) (by decide) ?_
    refine lv_lload hx hb dM_joined_166 (lv_at hl 4 rfl) ?_
    refine lv_lload hx hb dM_joined_168 (lv_at hl 5 rfl) ?_
    refine lv_lxor hx hb dM_joined_170 ?_
    have e_v : m_jn c0 r0 eq x0 y0 = x0 ^^^ y0 := by unfold m_jn; grind [sh_b]
    have e_b : sh_b (bb || m_jb c0 y0 nd) = sh_b bb := by unfold m_jb; grind [sh_b]
    refine W.widen (k := 0) (n := 0) (Nat.le_refl _) (Nat.le_refl _) ?_
    exact W.lret (v := x0 ^^^ y0) hx hb hr (fun t ht _ => ⟨_, _, rfl, ⟨by rw [e_v], by rw [e_b]⟩, by rw [ht]; exact hP, hD, hS.F ht⟩) hS.2.2 dM_joined_171
  by_cases c_42 : c0 = 124
  · skip
    refine lv_lookup (off := 99) (tgt := 100) hx hb dM_joined_1 (by decide) (by rw [c_42]; decide) (by decide) ?_
    refine lv_iload_n hx hb dM_joined_100 rfl (lv_at hl 2 rfl) ?_
    refine lv_iconst (v := 1) hx hb dM_joined_101 (by decide) ?_
    refine lv_icmp_ne (tgt := 127) hx hb dM_joined_102 (by decide) (fun c_43 => ?_) (fun c_43 => ?_)
    · skip
      refine lv_lload hx hb dM_joined_127 (lv_at hl 4 rfl) ?_
      refine lv_lload hx hb dM_joined_129 (lv_at hl 5 rfl) ?_
      refine lv_lor hx hb dM_joined_131 ?_
      have e_v : m_jn c0 r0 eq x0 y0 = x0 ||| y0 := by unfold m_jn; grind [sh_b]
      have e_b : sh_b (bb || m_jb c0 y0 nd) = sh_b bb := by unfold m_jb; grind [sh_b]
      refine W.widen (k := 0) (n := 0) (Nat.le_refl _) (Nat.le_refl _) ?_
      exact W.lret (v := x0 ||| y0) hx hb hr (fun t ht _ => ⟨_, _, rfl, ⟨by rw [e_v], by rw [e_b]⟩, by rw [ht]; exact hP, hD, hS.F ht⟩) hS.2.2 dM_joined_132
    refine lv_lload hx hb dM_joined_105 (lv_at hl 4 rfl) ?_
    refine lv_lconst (v := 0) hx hb dM_joined_107 (by decide) ?_
    refine W.lcmp hx hb dM_joined_108 ?_
    refine lv_if_ne (tgt := 119) hx hb dM_joined_109 (by decide) (fun c_44 => ?_) (fun c_44 => ?_)
    · skip
      rw [lg_cmp_eq] at c_44
      refine lv_lconst (v := 1) hx hb dM_joined_119 (by decide) ?_
      refine lv_goto (tgt := 132) hx hb dM_joined_120 (by decide) ?_
      have e_v : m_jn c0 r0 eq x0 y0 = 1 := by unfold m_jn; grind [sh_b]
      have e_b : sh_b (bb || m_jb c0 y0 nd) = sh_b bb := by unfold m_jb; grind [sh_b]
      refine W.widen (k := 0) (n := 0) (Nat.le_refl _) (Nat.le_refl _) ?_
      exact W.lret (v := 1) hx hb hr (fun t ht _ => ⟨_, _, rfl, ⟨by rw [e_v], by rw [e_b]⟩, by rw [ht]; exact hP, hD, hS.F ht⟩) hS.2.2 dM_joined_132
    rw [lg_cmp_eq] at c_44
    refine lv_lload hx hb dM_joined_112 (lv_at hl 5 rfl) ?_
    refine lv_lconst (v := 0) hx hb dM_joined_114 (by decide) ?_
    refine W.lcmp hx hb dM_joined_115 ?_
    refine lv_if_eq (tgt := 123) hx hb dM_joined_116 (by decide) (fun c_45 => ?_) (fun c_45 => ?_)
    · skip
      rw [lg_cmp_eq] at c_45
      refine lv_lconst (v := 0) hx hb dM_joined_123 (by decide) ?_
      refine lv_goto (tgt := 132) hx hb dM_joined_124 (by decide) ?_
      have e_v : m_jn c0 r0 eq x0 y0 = 0 := by unfold m_jn; grind [sh_b]
      have e_b : sh_b (bb || m_jb c0 y0 nd) = sh_b bb := by unfold m_jb; grind [sh_b]
      refine W.widen (k := 0) (n := 0) (Nat.le_refl _) (Nat.le_refl _) ?_
      exact W.lret (v := 0) hx hb hr (fun t ht _ => ⟨_, _, rfl, ⟨by rw [e_v], by rw [e_b]⟩, by rw [ht]; exact hP, hD, hS.F ht⟩) hS.2.2 dM_joined_132
    rw [lg_cmp_eq] at c_45
    refine lv_lconst (v := 1) hx hb dM_joined_119 (by decide) ?_
    refine lv_goto (tgt := 132) hx hb dM_joined_120 (by decide) ?_
    have e_v : m_jn c0 r0 eq x0 y0 = 1 := by unfold m_jn; grind [sh_b]
    have e_b : sh_b (bb || m_jb c0 y0 nd) = sh_b bb := by unfold m_jb; grind [sh_b]
    refine W.widen (k := 0) (n := 0) (Nat.le_refl _) (Nat.le_refl _) ?_
    exact W.lret (v := 1) hx hb hr (fun t ht _ => ⟨_, _, rfl, ⟨by rw [e_v], by rw [e_b]⟩, by rw [ht]; exact hP, hD, hS.F ht⟩) hS.2.2 dM_joined_132
  refine lv_lookup (off := 317) (tgt := 318) hx hb dM_joined_1 (by decide) (by rw [lv_osw c_1 (k := 33) (by decide), lv_osw c_3 (k := 37) (by decide), lv_osw c_15 (k := 38) (by decide), lv_osw c_19 (k := 42) (by decide), lv_osw c_20 (k := 43) (by decide), lv_osw c_21 (k := 45) (by decide), lv_osw c_22 (k := 47) (by decide), lv_osw c_34 (k := 60) (by decide), lv_osw c_39 (k := 61) (by decide), lv_osw c_41 (k := 94) (by decide), lv_osw c_42 (k := 124) (by decide)]; rfl) (by decide) ?_
  refine lv_iload_n hx hb dM_joined_318 rfl (lv_at hl 2 rfl) ?_
  refine lv_bipush (v := 8) hx hb dM_joined_319 (by decide) ?_
  refine lv_icmp_ne (tgt := 333) hx hb dM_joined_321 (by decide) (fun c_46 => ?_) (fun c_46 => ?_)
  · skip
    refine lv_lload hx hb dM_joined_333 (lv_at hl 4 rfl) ?_
    refine lv_lload hx hb dM_joined_335 (lv_at hl 5 rfl) ?_
    refine W.lcmp hx hb dM_joined_337 ?_
    refine lv_if_gt (tgt := 353) hx hb dM_joined_338 (by decide) (fun c_47 => ?_) (fun c_47 => ?_)
    · skip
      rw [lg_cmp_gt] at c_47
      refine lv_lconst (v := 1) hx hb dM_joined_353 (by decide) ?_
      refine lv_goto (tgt := 358) hx hb dM_joined_354 (by decide) ?_
      have e_v : m_jn c0 r0 eq x0 y0 = 1 := by unfold m_jn; grind [sh_b]
      have e_b : sh_b (bb || m_jb c0 y0 nd) = sh_b bb := by unfold m_jb; grind [sh_b]
      refine W.widen (k := 0) (n := 0) (Nat.le_refl _) (Nat.le_refl _) ?_
      exact W.lret (v := 1) hx hb hr (fun t ht _ => ⟨_, _, rfl, ⟨by rw [e_v], by rw [e_b]⟩, by rw [ht]; exact hP, hD, hS.F ht⟩) hS.2.2 dM_joined_358
    rw [lg_cmp_gt] at c_47
    refine lv_iload_n hx hb dM_joined_341 rfl (lv_at hl 3 rfl) ?_
    refine lv_if_eq (tgt := 357) hx hb dM_joined_342 (by decide) (fun c_48 => ?_) (fun c_48 => ?_)
    · skip
      refine lv_lconst (v := 0) hx hb dM_joined_357 (by decide) ?_
      have e_v : m_jn c0 r0 eq x0 y0 = 0 := by unfold m_jn; grind [sh_b]
      have e_b : sh_b (bb || m_jb c0 y0 nd) = sh_b bb := by unfold m_jb; grind [sh_b]
      refine W.widen (k := 0) (n := 0) (Nat.le_refl _) (Nat.le_refl _) ?_
      exact W.lret (v := 0) hx hb hr (fun t ht _ => ⟨_, _, rfl, ⟨by rw [e_v], by rw [e_b]⟩, by rw [ht]; exact hP, hD, hS.F ht⟩) hS.2.2 dM_joined_358
    refine lv_lload hx hb dM_joined_345 (lv_at hl 4 rfl) ?_
    refine lv_lload hx hb dM_joined_347 (lv_at hl 5 rfl) ?_
    refine W.lcmp hx hb dM_joined_349 ?_
    refine lv_if_ne (tgt := 357) hx hb dM_joined_350 (by decide) (fun c_49 => ?_) (fun c_49 => ?_)
    · skip
      rw [lg_cmp_eq] at c_49
      refine lv_lconst (v := 0) hx hb dM_joined_357 (by decide) ?_
      have e_v : m_jn c0 r0 eq x0 y0 = 0 := by unfold m_jn; grind [sh_b]
      have e_b : sh_b (bb || m_jb c0 y0 nd) = sh_b bb := by unfold m_jb; grind [sh_b]
      refine W.widen (k := 0) (n := 0) (Nat.le_refl _) (Nat.le_refl _) ?_
      exact W.lret (v := 0) hx hb hr (fun t ht _ => ⟨_, _, rfl, ⟨by rw [e_v], by rw [e_b]⟩, by rw [ht]; exact hP, hD, hS.F ht⟩) hS.2.2 dM_joined_358
    rw [lg_cmp_eq] at c_49
    refine lv_lconst (v := 1) hx hb dM_joined_353 (by decide) ?_
    refine lv_goto (tgt := 358) hx hb dM_joined_354 (by decide) ?_
    have e_v : m_jn c0 r0 eq x0 y0 = 1 := by unfold m_jn; grind [sh_b]
    have e_b : sh_b (bb || m_jb c0 y0 nd) = sh_b bb := by unfold m_jb; grind [sh_b]
    refine W.widen (k := 0) (n := 0) (Nat.le_refl _) (Nat.le_refl _) ?_
    exact W.lret (v := 1) hx hb hr (fun t ht _ => ⟨_, _, rfl, ⟨by rw [e_v], by rw [e_b]⟩, by rw [ht]; exact hP, hD, hS.F ht⟩) hS.2.2 dM_joined_358
  refine lv_lload hx hb dM_joined_324 (lv_at hl 4 rfl) ?_
  refine lv_lload hx hb dM_joined_326 (lv_at hl 5 rfl) ?_
  refine lv_l2i hx hb dM_joined_328 rfl ?_
  refine lv_lshr hx hb dM_joined_329 rfl ?_
  refine lv_goto (tgt := 358) hx hb dM_joined_330 (by decide) ?_
  have e_v : m_jn c0 r0 eq x0 y0 = x0 >>> (((y0).toInt32).toInt64 &&& 63) := by unfold m_jn; grind [sh_b]
  have e_b : sh_b (bb || m_jb c0 y0 nd) = sh_b bb := by unfold m_jb; grind [sh_b]
  refine W.widen (k := 0) (n := 0) (Nat.le_refl _) (Nat.le_refl _) ?_
  exact W.lret (v := x0 >>> (((y0).toInt32).toInt64 &&& 63)) hx hb hr (fun t ht _ => ⟨_, _, rfl, ⟨by rw [e_v], by rw [e_b]⟩, by rw [ht]; exact hP, hD, hS.F ht⟩) hS.2.2 dM_joined_358
set_option maxHeartbeats 4000000 in
set_option maxRecDepth 100000 in
/-- thrown() -/
theorem k_M_thrown (l : Launch) (dC : Nat → ClassId) (dI : Nat → Nat → Nat) (kI kJ kZ : ClassId) (am bT bU bS b1 b2 bL bK bV bN bX bA bB bH : Nat) (cd fsz ln pl ne bd wa hi my gd wr hs : Int32) (nu : Int64) (fT fU fS f1 f2 fL fN fX fA fB fH : Nat → Int32) (fK fV : Nat → Int64) (tl : va_W) : Met l yM_thrown wsM_thrown ({ frames := 0, cells := 0, slots := 0, locals := 0 }) (va_Pc [.ref am] (zR dC dI [(kI, .int), (kJ, .long), (kZ, .boolean)] ((am, .inr (4, [.int cd, .ref bT, .ref bU, .int fsz, .int ln, .int pl, .int ne, .int bd, .ref bS, .ref b1, .ref b2, .ref bL, .ref bK, .ref bV, .int wa, .int hi, .ref bN, .ref bX, .ref bA, .ref bB, .int my, .int gd, .int wr, .ref bH, .int hs, .long nu])) :: (bT, .inl (kI, 300, .inl fT)) :: (bU, .inl (kI, 300, .inl fU)) :: (bS, .inl (kI, 2000, .inl fS)) :: (b1, .inl (kI, 2000, .inl f1)) :: (b2, .inl (kI, 2000, .inl f2)) :: (bL, .inl (kZ, 2000, .inl fL)) :: (bK, .inl (kJ, 2000, .inr (.inl fK))) :: (bV, .inl (kJ, 400, .inr (.inl fV))) :: (bN, .inl (kI, 19200, .inl fN)) :: (bX, .inl (kI, 1536, .inl fX)) :: (bA, .inl (kI, 64, .inl fA)) :: (bB, .inl (kI, 64, .inl fB)) :: (bH, .inl (kI, 8, .inl fH)) :: tl))) (rq_ (some (.int cd))) 0 0 (fun _ => False) := by
  refine Met.ofW (cc := cM_thrown) (maxL := 1) (ret := (some .int)) (by decide) rfl ?_
  intro p e s m args below meth c s₁ B hml hv
  obtain ⟨rfl, hP, hK, hN⟩ := hv
  have hx := B.exec
  have hb := B.bytes
  have hr := B.returns
  have htz : ∀ w ∈ zw, w.before _ s = true := fun w h => atoms_spec (ws := wsM_thrown) B.pre w (List.mem_cons_of_mem _ h)
  have hown : s.vm.findClass "ShellSumModel" = some m.cls := findClass_of_methodNamed B.named
  have hlocks := B.notSynchronized
  have hl := lv_entry ([.ref am]) (n := 1) (Nat.le_of_ble_eq_true rfl)
  rw [lg_entry_eq]
  generalize (lg_sl ([.ref am]) ++ List.replicate (1 - (lg_sl ([.ref am])).length) Slot.unset).toArray = ls at hl ⊢
  have hl : lv_has ls 1 [(0, .ref am)] := hl
  refine lv_aload_n hx hb dM_thrown_0 rfl (lv_at hl 0 rfl) ?_
  refine va_get (D := (dC, dI)) (ci := 4) (v := .int cd) (C := "ShellSumModel") (T := TM) (N := 26) hx hb htz zu_M hown hK hP 0 rfl rfl 0 (by decide) (htz _ zw_2_160) (fun _ h9 => h9) rfl dM_thrown_1 ?_
  exact W.iret (v := cd) hx hb hr (fun t ht _ => ⟨rfl, ht⟩) t_nil dM_thrown_4
