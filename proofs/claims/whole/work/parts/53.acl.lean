set_option maxHeartbeats 4000000 in
set_option maxRecDepth 100000 in
/-- unpack(chars, n, to, start) -/
theorem k_A_unpack (l : Launch) (dC : Nat → ClassId) (dI : Nat → Nat → Nat) (kC kI kJ kQ : ClassId) (ws : va_W) (sz : Nat) (kf N b0 n to : Nat) (x0 : Int64) (f : Nat → Int32) (hf : ws[kf]? = some (to, .inl (kC, N, .inl f))) (hn : n ≤ 8) (hN1 : b0 + n ≤ N) (hN3 : N ≤ 1000) : Met l yA_unpack wsA_unpack ({ frames := 1, cells := 0, slots := 0, locals := 40 }) (va_Pc [.long x0, .int (nI n), .ref to, .int (nI b0)] (zW dC dI ([(kC, .char), (kI, .int), (kJ, .long), (kQ, .object "ShellSum$Named")]) ws sz)) (zQ dC dI (va_A ws sz) (fun v w => v = none ∧ ∃ g, (∀ j, j < n → g (b0 + j) = sh_byte x0 n j) ∧ (∀ j, j < b0 → g j = f j) ∧ w = ws.set kf (to, .inl (kC, N, .inl g)))) 0 0 (va_A ws sz) := by
  refine Met.ofW (cc := cA_unpack) (maxL := 6) (ret := none) (by decide) rfl ?_
  intro p e s m args below meth c s₁ B hml hv
  obtain ⟨rfl, hsz, hP, hK, hD0, hN⟩ := hv
  subst hsz
  have hD := hD0.self (sz := s.heap.size)
  generalize hAe : va_A ws s.heap.size = A at hD ⊢
  have hA : ∀ q : Nat, s.heap.size ≤ q → A q := fun q h => by rw [← hAe]; exact Or.inr h
  have hS : va_S A s.heap s.heap [] := va_S.rf
  have hx := B.exec
  have hb := B.bytes
  have hr := B.returns
  have htz : ∀ w ∈ zw, w.before _ s = true := fun w h => atoms_spec (ws := wsA_unpack) B.pre w (List.mem_cons_of_mem _ h)
  have hown : s.vm.findClass "ShellSum" = some m.cls := findClass_of_methodNamed B.named
  have hlocks := B.notSynchronized
  have hl := lv_entry ([.long x0, .int (nI n), .ref to, .int (nI b0)]) (n := 6) (Nat.le_of_ble_eq_true rfl)
  rw [lg_entry_eq]
  generalize (lg_sl ([.long x0, .int (nI n), .ref to, .int (nI b0)]) ++ List.replicate (6 - (lg_sl ([.long x0, .int (nI n), .ref to, .int (nI b0)])).length) Slot.unset).toArray = ls at hl ⊢
  have e_ws : ws = ws.set kf (to, .inl (kC, N, .inl f)) := by obtain ⟨h1, h2⟩ := List.getElem?_eq_some_iff.mp hf; rw [← h2, List.set_getElem_self]
  have hf9 : ∀ g, (ws.set kf (to, .inl (kC, N, .inl g)))[kf]? = some (to, .inl (kC, N, .inl g)) := fun g => List.getElem?_set_self (xl_of hf)
  have hl : lv_has ls 6 [(0, .long x0), (2, .int (nI n)), (3, .ref to), (4, .int (nI b0))] := hl
  rw [e_ws] at hP hD
  refine lv_iconst (v := 0) hx hb dA_unpack_0 (by decide) ?_
  refine xw_topi (y := nI 0) (nI_0.symm) ?_
  refine lv_istore (lv' := [(5, .int (nI 0)), (0, .long x0), (2, .int (nI n)), (3, .ref to), (4, .int (nI b0))]) hx hb dA_unpack_1 hl (by decide) rfl (fun ls hl => ?_)
  have loop_3 : ∀ (f_loop_3 : Nat) (k : Nat) (g : Nat → Int32), n - k < f_loop_3 → (k ≤ n) → (∀ j, j < k → g (b0 + j) = sh_byte x0 n j) → (∀ j, j < b0 → g j = f j) → ∀ (H : Heap) (locs : List Loc), va_P (dC, dI) vwCl (ws.set kf (to, .inl (kC, N, .inl g))) H → va_D A (ws.set kf (to, .inl (kC, N, .inl g))) → va_S A s.heap H locs → ∀ ls : Array Slot, lv_has ls 6 [(5, .int (nI k)), (0, .long x0), (2, .int (nI n)), (3, .ref to), (4, .int (nI b0))] → W p l e (headSpec wsA_unpack ({ frames := 1, cells := 0, slots := 0, locals := 40 })).room s m ([.long x0, .int (nI n), .ref to, .int (nI b0)] : List Value).toArray below meth c H locs 0 0 (MQ below (zQ dC dI A (fun v w => v = none ∧ ∃ g, (∀ j, j < n → g (b0 + j) = sh_byte x0 n j) ∧ (∀ j, j < b0 → g j = f j) ∧ w = ws.set kf (to, .inl (kC, N, .inl g)))) ([.long x0, .int (nI n), .ref to, .int (nI b0)] : List Value).toArray s 0 0 A) (F0 m 3 ls []) := by
    intro f_loop_3
    induction f_loop_3 with
    | zero => intro k g hf; exact absurd hf (Nat.not_lt_zero _)
    | succ f_loop_3 ih_loop_3 =>
      intro k g hf_loop_3 hk hg hg0 H locs hP hD hS ls hl
      refine lv_iload hx hb dA_unpack_3 (lv_at hl 0 rfl) ?_
      refine lv_iload_n hx hb dA_unpack_5 rfl (lv_at hl 2 rfl) ?_
      refine lv_icmp_ge (tgt := 39) hx hb dA_unpack_6 (by decide) (fun c_1 => ?_) (fun c_1 => ?_)
      · skip
        have e_6 : n ≤ k := xi_le c_1 (by omega) (by omega)
        refine W.widen (k := 0) (n := 0) (Nat.le_refl _) (Nat.le_refl _) ?_
        exact W.vret hx hb hr (fun t ht _ => ⟨_, _, rfl, ⟨rfl, g, fun j h => hg j (by omega), hg0, rfl⟩, by rw [ht]; exact hP, hD, hS.F ht⟩) hS.2.2 dA_unpack_39
      have e_6 : k < n := xi_nle c_1 (by omega) (by omega)
      refine lv_iload hx hb dA_unpack_9 (lv_at hl 4 rfl) ?_
      refine lv_iload hx hb dA_unpack_11 (lv_at hl 0 rfl) ?_
      refine lv_iadd hx hb dA_unpack_13 ?_
      refine xw_topi (y := nI (b0 + k)) (nI_add b0 k) ?_
      refine lv_aload_n hx hb dA_unpack_14 rfl (lv_at hl 3 rfl) ?_
      refine va_alen hx hb hK hP kf 0 (hf9 _) (ty := .char) rfl (v := nI N) rfl dA_unpack_15 ?_
      refine lv_icmp_ge (tgt := 39) hx hb dA_unpack_16 (by decide) (fun c_2 => ?_) (fun c_2 => ?_)
      · skip
        exact absurd (xi_le c_2 (by omega) (by omega)) (by omega)
      refine lv_aload_n hx hb dA_unpack_19 rfl (lv_at hl 3 rfl) ?_
      refine lv_iload hx hb dA_unpack_20 (lv_at hl 4 rfl) ?_
      refine lv_iload hx hb dA_unpack_22 (lv_at hl 0 rfl) ?_
      refine lv_iadd hx hb dA_unpack_24 ?_
      refine xw_topi (y := nI (b0 + k)) (nI_add b0 k) ?_
      refine lv_lload_n hx hb dA_unpack_25 rfl (lv_at hl 1 rfl) ?_
      refine lv_iload_n hx hb dA_unpack_26 rfl (lv_at hl 2 rfl) ?_
      refine lv_iload hx hb dA_unpack_27 (lv_at hl 0 rfl) ?_
      refine rq_call (va_runS (As := [.long x0, .int (nI n), .int (nI k)]) (rest := [.int (nI (b0 + k)), .ref to]) ⟨hx, hb, hml, hown, htz⟩ (k_A_byteAt l x0 (nI n) (nI k)) (cwS 3 htz (zg_S zw_1_108 zw_1_109 zw_1_1 zw_1_110) rfl rfl rfl (by decide +kernel) ⟨Nat.le_of_ble_eq_true rfl, Nat.le_of_ble_eq_true rfl⟩) rq_pre rfl rfl hl.1 rfl (lv_room (Nat.le_of_ble_eq_true rfl)) dA_unpack_29 ⟨Nat.zero_le _, Nat.zero_le _⟩) ?_
      refine W.eq (g2 := F0 m 32 ls [.int (sh_bA x0 (nI n) (nI k)), .int (nI (b0 + k)), .ref to]) rfl ?_
      refine xw_topi (y := sh_byte x0 n k) (sh_bA_eq (by omega) hn) ?_
      refine va_cast hx hb hK hP hD hS kf 0 (hf9 _) rfl (vp_in_nI (by omega) (by omega)) dA_unpack_32 (fun H locs hP hD hS => ?_)
      rw [List.set_set] at hP hD
      have e_f : upd g (nI (b0 + k)).toNatClampNeg (vp_nar .char (sh_byte x0 n k)) = upd g (b0 + k) (sh_byte x0 n k) := by rw [nI_clamp (by omega), sh_byte_nar]
      rw [e_f] at hP hD
      refine lv_iinc (v := nI (k + 1)) (lv' := [(5, .int (nI (k + 1))), (0, .long x0), (2, .int (nI n)), (3, .ref to), (4, .int (nI b0))]) hx hb dA_unpack_33 hl (k := 0) rfl (nI_1 k) (by decide) rfl (fun ls hl => ?_)
      refine lv_goto (tgt := 3) hx hb dA_unpack_36 (by decide) ?_
      exact ih_loop_3 (k + 1) (upd g (b0 + k) (sh_byte x0 n k)) (by omega) (by omega) (fun j h => if hj : j = k then (by rw [hj, pk_us]) else (by rw [pk_un (by omega)]; exact hg j (by omega))) (fun j h => (pk_un (by omega)).trans (hg0 j h)) _ _ hP hD hS ls (lv_sub hl [0, 1, 2, 3, 4] rfl)
  exact loop_3 _ 0 f (Nat.lt_succ_self _) (Nat.zero_le _) (fun j h => absurd h (Nat.not_lt_zero _)) (fun j h => rfl) _ _ hP hD hS ls (lv_sub hl [0, 1, 2, 3, 4] rfl)
set_option maxHeartbeats 4000000 in
set_option maxRecDepth 100000 in
/-- text(chars, n) -/
theorem k_A_text (l : Launch) (dC : Nat → ClassId) (dI : Nat → Nat → Nat) (kC kI kJ kQ : ClassId) (a0 aR aN aS aF aK : Nat) (wt un pl ln : Int32) (aA aH : Nat) (fh : Nat → Int32) (rt wg : Int32) (nl : List Int32) (rs : Int64) (fx sg : Nat → Int32) (ff : Nat → Int64) (q : Nat → Option Nat) (tx : List Int32) (ns : List rw_N) (env : sh_Env) (fr : va_W) (hx3 : tx.length ≤ 300) (hB : sh_B tx) (hn1 : 1 ≤ nl.length) (hn8 : nl.length ≤ 8) (hBn : sh_B nl) (hfh : ∀ j, j < nl.length → fh j = sh_at nl j) (hfx : ∀ j, j < tx.length → fx j = sh_at tx j) (hE : zEn q ns env) (sz : Nat) (x0 : Int64) (n0 : Int32) : Met l yA_text wsA_text ({ frames := 3, cells := 0, slots := 0, locals := 100 }) (va_Pc [.ref aA, .long x0, .int n0] (zW dC dI ([(kC, .char), (kI, .int), (kJ, .long), (kQ, .object "ShellSum$Named")]) ((a0, .inr (2, [.ref aR, .ref aN, .ref aS, .ref aF, .int wt, .int ln, .int pl, .int un, .long rs])) :: (aR, .inl (kC, 300, .inl fx)) :: (aN, .inr (1, [.ref aK, .int (nI ns.length)])) :: (aK, .inl (kQ, 64, .inr (.inr (.inr (.inr q))))) :: (aS, .inl (kI, 150, .inl sg)) :: (aF, .inl (kJ, 150, .inr (.inl ff))) :: (aA, .inr (3, [.ref a0, .ref aR, .ref aN, .int (nI tx.length), .ref aH, .int (nI nl.length), .int rt, .int wg])) :: (aH, .inl (kC, 8, .inl fh)) :: (fr ++ rw_p 0 kC ns)) sz)) (zQ dC dI (va_A ((a0, .inr (2, [.ref aR, .ref aN, .ref aS, .ref aF, .int wt, .int ln, .int pl, .int un, .long rs])) :: (aR, .inl (kC, 300, .inl fx)) :: (aN, .inr (1, [.ref aK, .int (nI ns.length)])) :: (aK, .inl (kQ, 64, .inr (.inr (.inr (.inr q))))) :: (aS, .inl (kI, 150, .inl sg)) :: (aF, .inl (kJ, 150, .inr (.inl ff))) :: (aA, .inr (3, [.ref a0, .ref aR, .ref aN, .int (nI tx.length), .ref aH, .int (nI nl.length), .int rt, .int wg])) :: (aH, .inl (kC, 8, .inl fh)) :: (fr ++ rw_p 0 kC ns)) sz) (fun v w => (¬ (sh_areT x0 n0 = true ∧ tx.length + n0.toNatClampNeg ≤ 300) ∧ v = some (.int (-1)) ∧ w = ((a0, .inr (2, [.ref aR, .ref aN, .ref aS, .ref aF, .int wt, .int ln, .int pl, .int un, .long rs])) :: (aR, .inl (kC, 300, .inl fx)) :: (aN, .inr (1, [.ref aK, .int (nI ns.length)])) :: (aK, .inl (kQ, 64, .inr (.inr (.inr (.inr q))))) :: (aS, .inl (kI, 150, .inl sg)) :: (aF, .inl (kJ, 150, .inr (.inl ff))) :: (aA, .inr (3, [.ref a0, .ref aR, .ref aN, .int (nI tx.length), .ref aH, .int (nI nl.length), .int rt, .int wg])) :: (aH, .inl (kC, 8, .inl fh)) :: (fr ++ rw_p 0 kC ns))) ∨ ((sh_areT x0 n0 = true ∧ tx.length + n0.toNatClampNeg ≤ 300) ∧ v = some (.int (nI (tx.length + n0.toNatClampNeg))) ∧ ∃ fx2, (∀ j, j < tx.length + n0.toNatClampNeg → fx2 j = sh_at (tx ++ sh_bytes x0 n0.toNatClampNeg) j) ∧ w = ((a0, .inr (2, [.ref aR, .ref aN, .ref aS, .ref aF, .int wt, .int ln, .int pl, .int un, .long rs])) :: (aR, .inl (kC, 300, .inl fx2)) :: (aN, .inr (1, [.ref aK, .int (nI ns.length)])) :: (aK, .inl (kQ, 64, .inr (.inr (.inr (.inr q))))) :: (aS, .inl (kI, 150, .inl sg)) :: (aF, .inl (kJ, 150, .inr (.inl ff))) :: (aA, .inr (3, [.ref a0, .ref aR, .ref aN, .int (nI (tx.length + n0.toNatClampNeg)), .ref aH, .int (nI nl.length), .int rt, .int wg])) :: (aH, .inl (kC, 8, .inl fh)) :: (fr ++ rw_p 0 kC ns))))) 0 0 (va_A ((a0, .inr (2, [.ref aR, .ref aN, .ref aS, .ref aF, .int wt, .int ln, .int pl, .int un, .long rs])) :: (aR, .inl (kC, 300, .inl fx)) :: (aN, .inr (1, [.ref aK, .int (nI ns.length)])) :: (aK, .inl (kQ, 64, .inr (.inr (.inr (.inr q))))) :: (aS, .inl (kI, 150, .inl sg)) :: (aF, .inl (kJ, 150, .inr (.inl ff))) :: (aA, .inr (3, [.ref a0, .ref aR, .ref aN, .int (nI tx.length), .ref aH, .int (nI nl.length), .int rt, .int wg])) :: (aH, .inl (kC, 8, .inl fh)) :: (fr ++ rw_p 0 kC ns)) sz) := by
  refine Met.ofW (cc := cA_text) (maxL := 4) (ret := (some .int)) (by decide) rfl ?_
  intro p e s m args below meth c s₁ B hml hv
  obtain ⟨rfl, hsz, hP, hK, hD0, hN⟩ := hv
  subst hsz
  have hD := hD0.self (sz := s.heap.size)
  generalize hAe : va_A ((a0, .inr (2, [.ref aR, .ref aN, .ref aS, .ref aF, .int wt, .int ln, .int pl, .int un, .long rs])) :: (aR, .inl (kC, 300, .inl fx)) :: (aN, .inr (1, [.ref aK, .int (nI ns.length)])) :: (aK, .inl (kQ, 64, .inr (.inr (.inr (.inr q))))) :: (aS, .inl (kI, 150, .inl sg)) :: (aF, .inl (kJ, 150, .inr (.inl ff))) :: (aA, .inr (3, [.ref a0, .ref aR, .ref aN, .int (nI tx.length), .ref aH, .int (nI nl.length), .int rt, .int wg])) :: (aH, .inl (kC, 8, .inl fh)) :: (fr ++ rw_p 0 kC ns)) s.heap.size = A at hD ⊢
  have hA : ∀ q : Nat, s.heap.size ≤ q → A q := fun q h => by rw [← hAe]; exact Or.inr h
  have hS : va_S A s.heap s.heap [] := va_S.rf
  have hx := B.exec
  have hb := B.bytes
  have hr := B.returns
  have htz : ∀ w ∈ zw, w.before _ s = true := fun w h => atoms_spec (ws := wsA_text) B.pre w (List.mem_cons_of_mem _ h)
  have hown : s.vm.findClass "ShellSum" = some m.cls := findClass_of_methodNamed B.named
  have hlocks := B.notSynchronized
  have hl := lv_entry ([.ref aA, .long x0, .int n0]) (n := 4) (Nat.le_of_ble_eq_true rfl)
  rw [lg_entry_eq]
  generalize (lg_sl ([.ref aA, .long x0, .int n0]) ++ List.replicate (4 - (lg_sl ([.ref aA, .long x0, .int n0])).length) Slot.unset).toArray = ls at hl ⊢
  have hl : lv_has ls 4 [(0, .ref aA), (1, .long x0), (3, .int n0)] := hl
  refine lv_lload_n hx hb dA_text_0 rfl (lv_at hl 1 rfl) ?_
  refine lv_iload_n hx hb dA_text_1 rfl (lv_at hl 2 rfl) ?_
  refine rq_call (va_runS (As := [.long x0, .int n0]) (rest := []) ⟨hx, hb, hml, hown, htz⟩ (k_A_areOfText l x0 n0) (cwS 2 htz (zg_S zw_1_105 zw_1_106 zw_1_1 zw_1_107) rfl rfl rfl (by decide +kernel) ⟨Nat.le_of_ble_eq_true rfl, Nat.le_of_ble_eq_true rfl⟩) rq_pre rfl rfl hl.1 rfl (lv_room (Nat.le_of_ble_eq_true rfl)) dA_text_2 ⟨Nat.zero_le _, Nat.zero_le _⟩) ?_
  refine W.eq (g2 := F0 m 5 ls [.int (sh_b (sh_areT x0 n0))]) rfl ?_
  refine lv_if_eq (tgt := 20) hx hb dA_text_5 (by decide) (fun c_1 => ?_) (fun c_1 => ?_)
  · skip
    have e_5 : sh_areT x0 n0 = false := by grind [sh_b]
    refine lv_iconst (v := (-1)) hx hb dA_text_20 (by decide) ?_
    refine W.widen (k := 0) (n := 0) (Nat.le_refl _) (Nat.le_refl _) ?_
    exact W.iret (v := (-1)) hx hb hr (fun t ht _ => ⟨_, _, rfl, Or.inl ⟨fun h => by rw [e_5] at h; exact absurd h.1 (by decide), rfl, rfl⟩, by rw [ht]; exact hP, hD, hS.F ht⟩) hS.2.2 dA_text_21
  have e_5 : sh_areT x0 n0 = true := by grind [sh_b]
  obtain ⟨n, hn, rfl⟩ := sh_areT_of e_5
  have e_n : (nI n).toNatClampNeg = n := nI_clamp (by omega)
  refine lv_aload_n hx hb dA_text_8 rfl (lv_at hl 0 rfl) ?_
  refine va_get (D := (dC, dI)) (ci := 3) (v := .int (nI tx.length)) (C := "ShellSum") (T := TA) (N := 8) hx hb htz zu_A hown hK hP 6 rfl rfl 3 (by decide) (htz _ zw_1_79) (fun _ h9 => h9) rfl dA_text_9 ?_
  refine lv_iload_n hx hb dA_text_12 rfl (lv_at hl 2 rfl) ?_
  refine lv_iadd hx hb dA_text_13 ?_
  refine xw_topi (y := nI (tx.length + n)) (nI_add tx.length n) ?_
  refine lv_sipush (v := 300) hx hb dA_text_14 (by decide) ?_
  refine lv_icmp_le (tgt := 22) hx hb dA_text_17 (by decide) (fun c_2 => ?_) (fun c_2 => ?_)
  · skip
    have e_17 : tx.length + n ≤ 300 := xi_le (b := 300) c_2 (by omega) (by decide)
    refine lv_lload_n hx hb dA_text_22 rfl (lv_at hl 1 rfl) ?_
    refine lv_iload_n hx hb dA_text_23 rfl (lv_at hl 2 rfl) ?_
    refine lv_aload_n hx hb dA_text_24 rfl (lv_at hl 0 rfl) ?_
    refine va_get (D := (dC, dI)) (ci := 3) (v := .ref aR) (C := "ShellSum") (T := TA) (N := 8) hx hb htz zu_A hown hK hP 6 rfl rfl 1 (by decide) (htz _ zw_1_77) (fun _ h9 => h9) rfl dA_text_25 ?_
    refine lv_aload_n hx hb dA_text_28 rfl (lv_at hl 0 rfl) ?_
    refine va_get (D := (dC, dI)) (ci := 3) (v := .int (nI tx.length)) (C := "ShellSum") (T := TA) (N := 8) hx hb htz zu_A hown hK hP 6 rfl rfl 3 (by decide) (htz _ zw_1_79) (fun _ h9 => h9) rfl dA_text_29 ?_
    refine zQ_call (va_runS (As := [.long x0, .int (nI n), .ref aR, .int (nI tx.length)]) (rest := []) ⟨hx, hb, hml, hown, htz⟩ (k_A_unpack l dC dI kC kI kJ kQ ((a0, .inr (2, [.ref aR, .ref aN, .ref aS, .ref aF, .int wt, .int ln, .int pl, .int un, .long rs])) :: (aR, .inl (kC, 300, .inl fx)) :: (aN, .inr (1, [.ref aK, .int (nI ns.length)])) :: (aK, .inl (kQ, 64, .inr (.inr (.inr (.inr q))))) :: (aS, .inl (kI, 150, .inl sg)) :: (aF, .inl (kJ, 150, .inr (.inl ff))) :: (aA, .inr (3, [.ref a0, .ref aR, .ref aN, .int (nI tx.length), .ref aH, .int (nI nl.length), .int rt, .int wg])) :: (aH, .inl (kC, 8, .inl fh)) :: (fr ++ rw_p 0 kC ns)) _ 1 300 tx.length n aR x0 fx rfl hn e_17 (by decide)) (cwS 4 htz (zg_S zw_1_115 zw_1_116 zw_1_1 zw_1_117) rfl rfl rfl (by decide +kernel) ⟨Nat.le_of_ble_eq_true rfl, Nat.le_of_ble_eq_true rfl⟩) (zW_S hP hK hD hN) rfl rfl hl.1 rfl (lv_room (Nat.le_of_ble_eq_true rfl)) dA_text_32 ⟨Nat.zero_le _, Nat.zero_le _⟩) hD hS hA (fun v w H locs hp hP hD hS => ?_)
    obtain ⟨rfl, fx2, hg1, hg0, hw⟩ := hp
    rw [hw] at hP hD
    have hP : va_P (dC, dI) vwCl ((a0, .inr (2, [.ref aR, .ref aN, .ref aS, .ref aF, .int wt, .int ln, .int pl, .int un, .long rs])) :: (aR, .inl (kC, 300, .inl fx2)) :: (aN, .inr (1, [.ref aK, .int (nI ns.length)])) :: (aK, .inl (kQ, 64, .inr (.inr (.inr (.inr q))))) :: (aS, .inl (kI, 150, .inl sg)) :: (aF, .inl (kJ, 150, .inr (.inl ff))) :: (aA, .inr (3, [.ref a0, .ref aR, .ref aN, .int (nI tx.length), .ref aH, .int (nI nl.length), .int rt, .int wg])) :: (aH, .inl (kC, 8, .inl fh)) :: (fr ++ rw_p 0 kC ns)) _ := hP
    have hD : va_D A ((a0, .inr (2, [.ref aR, .ref aN, .ref aS, .ref aF, .int wt, .int ln, .int pl, .int un, .long rs])) :: (aR, .inl (kC, 300, .inl fx2)) :: (aN, .inr (1, [.ref aK, .int (nI ns.length)])) :: (aK, .inl (kQ, 64, .inr (.inr (.inr (.inr q))))) :: (aS, .inl (kI, 150, .inl sg)) :: (aF, .inl (kJ, 150, .inr (.inl ff))) :: (aA, .inr (3, [.ref a0, .ref aR, .ref aN, .int (nI tx.length), .ref aH, .int (nI nl.length), .int rt, .int wg])) :: (aH, .inl (kC, 8, .inl fh)) :: (fr ++ rw_p 0 kC ns)) := hD
    refine W.eq (g2 := F0 m 35 ls []) rfl ?_
    refine lv_aload_n hx hb dA_text_35 rfl (lv_at hl 0 rfl) ?_
    refine lv_dup hx hb dA_text_36 rfl ?_
    refine va_get (D := (dC, dI)) (ci := 3) (v := .int (nI tx.length)) (C := "ShellSum") (T := TA) (N := 8) hx hb htz zu_A hown hK hP 6 rfl rfl 3 (by decide) (htz _ zw_1_79) (fun _ h9 => h9) rfl dA_text_37 ?_
    refine lv_iload_n hx hb dA_text_40 rfl (lv_at hl 2 rfl) ?_
    refine lv_iadd hx hb dA_text_41 ?_
    refine xw_topi (y := nI (tx.length + n)) (nI_add tx.length n) ?_
    refine va_put (D := (dC, dI)) (ci := 3) (v := .int (nI (tx.length + n))) (ty := .int) (C := "ShellSum") (T := TA) (N := 8) hx hb htz zu_A tyA tyA_ok nmA hown hK hP hD hS 6 rfl rfl 3 (by decide) (htz _ zw_1_79) (fun _ h9 => h9) rfl (by decide +kernel) rfl rfl (Nat.le_of_ble_eq_true rfl) dA_text_42 (fun H locs hP hD hS => ?_)
    have hP : va_P (dC, dI) vwCl ((a0, .inr (2, [.ref aR, .ref aN, .ref aS, .ref aF, .int wt, .int ln, .int pl, .int un, .long rs])) :: (aR, .inl (kC, 300, .inl fx2)) :: (aN, .inr (1, [.ref aK, .int (nI ns.length)])) :: (aK, .inl (kQ, 64, .inr (.inr (.inr (.inr q))))) :: (aS, .inl (kI, 150, .inl sg)) :: (aF, .inl (kJ, 150, .inr (.inl ff))) :: (aA, .inr (3, [.ref a0, .ref aR, .ref aN, .int (nI (tx.length + n)), .ref aH, .int (nI nl.length), .int rt, .int wg])) :: (aH, .inl (kC, 8, .inl fh)) :: (fr ++ rw_p 0 kC ns)) _ := hP
    have hD : va_D A ((a0, .inr (2, [.ref aR, .ref aN, .ref aS, .ref aF, .int wt, .int ln, .int pl, .int un, .long rs])) :: (aR, .inl (kC, 300, .inl fx2)) :: (aN, .inr (1, [.ref aK, .int (nI ns.length)])) :: (aK, .inl (kQ, 64, .inr (.inr (.inr (.inr q))))) :: (aS, .inl (kI, 150, .inl sg)) :: (aF, .inl (kJ, 150, .inr (.inl ff))) :: (aA, .inr (3, [.ref a0, .ref aR, .ref aN, .int (nI (tx.length + n)), .ref aH, .int (nI nl.length), .int rt, .int wg])) :: (aH, .inl (kC, 8, .inl fh)) :: (fr ++ rw_p 0 kC ns)) := hD
    refine lv_aload_n hx hb dA_text_45 rfl (lv_at hl 0 rfl) ?_
    refine va_get (D := (dC, dI)) (ci := 3) (v := .int (nI (tx.length + n))) (C := "ShellSum") (T := TA) (N := 8) hx hb htz zu_A hown hK hP 6 rfl rfl 3 (by decide) (htz _ zw_1_79) (fun _ h9 => h9) rfl dA_text_46 ?_
    refine W.widen (k := 0) (n := 0) (Nat.zero_le _) (Nat.zero_le _) ?_
    exact W.iret (v := nI (tx.length + n)) hx hb hr (fun t ht _ => ⟨_, _, rfl, Or.inr ⟨⟨e_5, by rw [e_n]; exact e_17⟩, by rw [e_n], fx2, by rw [e_n]; exact fun j hj => sh_app_at hfx hg0 hg1 hj, by rw [e_n]⟩, by rw [ht]; exact hP, hD, hS.F ht⟩) hS.2.2 dA_text_49
  have e_17 : 300 < tx.length + n := xi_nle (b := 300) c_2 (by omega) (by decide)
  refine lv_iconst (v := (-1)) hx hb dA_text_20 (by decide) ?_
  refine W.widen (k := 0) (n := 0) (Nat.le_refl _) (Nat.le_refl _) ?_
  exact W.iret (v := (-1)) hx hb hr (fun t ht _ => ⟨_, _, rfl, Or.inl ⟨fun h => absurd h.2 (by rw [e_n]; omega), rfl, rfl⟩, by rw [ht]; exact hP, hD, hS.F ht⟩) hS.2.2 dA_text_21
set_option maxHeartbeats 4000000 in
set_option maxRecDepth 100000 in
/-- name(chars, n) -/
theorem k_A_name (l : Launch) (dC : Nat → ClassId) (dI : Nat → Nat → Nat) (kC kI kJ kQ : ClassId) (a0 aR aN aS aF aK : Nat) (wt un pl ln : Int32) (aA aH : Nat) (fh : Nat → Int32) (rt wg : Int32) (nl : List Int32) (rs : Int64) (fx sg : Nat → Int32) (ff : Nat → Int64) (q : Nat → Option Nat) (tx : List Int32) (ns : List rw_N) (env : sh_Env) (fr : va_W) (hx3 : tx.length ≤ 300) (hB : sh_B tx) (hn1 : 1 ≤ nl.length) (hn8 : nl.length ≤ 8) (hBn : sh_B nl) (hfh : ∀ j, j < nl.length → fh j = sh_at nl j) (hfx : ∀ j, j < tx.length → fx j = sh_at tx j) (hE : zEn q ns env) (sz : Nat) (x0 : Int64) (n0 : Int32) : Met l yA_name wsA_name ({ frames := 3, cells := 0, slots := 0, locals := 120 }) (va_Pc [.ref aA, .long x0, .int n0] (zW dC dI ([(kC, .char), (kI, .int), (kJ, .long), (kQ, .object "ShellSum$Named")]) ((a0, .inr (2, [.ref aR, .ref aN, .ref aS, .ref aF, .int wt, .int ln, .int pl, .int un, .long rs])) :: (aR, .inl (kC, 300, .inl fx)) :: (aN, .inr (1, [.ref aK, .int (nI ns.length)])) :: (aK, .inl (kQ, 64, .inr (.inr (.inr (.inr q))))) :: (aS, .inl (kI, 150, .inl sg)) :: (aF, .inl (kJ, 150, .inr (.inl ff))) :: (aA, .inr (3, [.ref a0, .ref aR, .ref aN, .int (nI tx.length), .ref aH, .int (nI nl.length), .int rt, .int wg])) :: (aH, .inl (kC, 8, .inl fh)) :: (fr ++ rw_p 0 kC ns)) sz)) (zQ dC dI (va_A ((a0, .inr (2, [.ref aR, .ref aN, .ref aS, .ref aF, .int wt, .int ln, .int pl, .int un, .long rs])) :: (aR, .inl (kC, 300, .inl fx)) :: (aN, .inr (1, [.ref aK, .int (nI ns.length)])) :: (aK, .inl (kQ, 64, .inr (.inr (.inr (.inr q))))) :: (aS, .inl (kI, 150, .inl sg)) :: (aF, .inl (kJ, 150, .inr (.inl ff))) :: (aA, .inr (3, [.ref a0, .ref aR, .ref aN, .int (nI tx.length), .ref aH, .int (nI nl.length), .int rt, .int wg])) :: (aH, .inl (kC, 8, .inl fh)) :: (fr ++ rw_p 0 kC ns)) sz) (fun v w => (sh_areN x0 n0 = false ∧ v = some (.int 0) ∧ w = ((a0, .inr (2, [.ref aR, .ref aN, .ref aS, .ref aF, .int wt, .int ln, .int pl, .int un, .long rs])) :: (aR, .inl (kC, 300, .inl fx)) :: (aN, .inr (1, [.ref aK, .int (nI ns.length)])) :: (aK, .inl (kQ, 64, .inr (.inr (.inr (.inr q))))) :: (aS, .inl (kI, 150, .inl sg)) :: (aF, .inl (kJ, 150, .inr (.inl ff))) :: (aA, .inr (3, [.ref a0, .ref aR, .ref aN, .int (nI tx.length), .ref aH, .int (nI nl.length), .int rt, .int wg])) :: (aH, .inl (kC, 8, .inl fh)) :: (fr ++ rw_p 0 kC ns))) ∨ (sh_areN x0 n0 = true ∧ v = some (.int 1) ∧ ∃ fh2, (∀ j, j < n0.toNatClampNeg → fh2 j = sh_at (sh_bytes x0 n0.toNatClampNeg) j) ∧ w = ((a0, .inr (2, [.ref aR, .ref aN, .ref aS, .ref aF, .int wt, .int ln, .int pl, .int un, .long rs])) :: (aR, .inl (kC, 300, .inl fx)) :: (aN, .inr (1, [.ref aK, .int (nI ns.length)])) :: (aK, .inl (kQ, 64, .inr (.inr (.inr (.inr q))))) :: (aS, .inl (kI, 150, .inl sg)) :: (aF, .inl (kJ, 150, .inr (.inl ff))) :: (aA, .inr (3, [.ref a0, .ref aR, .ref aN, .int (nI tx.length), .ref aH, .int n0, .int rt, .int wg])) :: (aH, .inl (kC, 8, .inl fh2)) :: (fr ++ rw_p 0 kC ns))))) 0 0 (va_A ((a0, .inr (2, [.ref aR, .ref aN, .ref aS, .ref aF, .int wt, .int ln, .int pl, .int un, .long rs])) :: (aR, .inl (kC, 300, .inl fx)) :: (aN, .inr (1, [.ref aK, .int (nI ns.length)])) :: (aK, .inl (kQ, 64, .inr (.inr (.inr (.inr q))))) :: (aS, .inl (kI, 150, .inl sg)) :: (aF, .inl (kJ, 150, .inr (.inl ff))) :: (aA, .inr (3, [.ref a0, .ref aR, .ref aN, .int (nI tx.length), .ref aH, .int (nI nl.length), .int rt, .int wg])) :: (aH, .inl (kC, 8, .inl fh)) :: (fr ++ rw_p 0 kC ns)) sz) := by
  refine Met.ofW (cc := cA_name) (maxL := 4) (ret := (some .boolean)) (by decide) rfl ?_
  intro p e s m args below meth c s₁ B hml hv
  obtain ⟨rfl, hsz, hP, hK, hD0, hN⟩ := hv
  subst hsz
  have hD := hD0.self (sz := s.heap.size)
  generalize hAe : va_A ((a0, .inr (2, [.ref aR, .ref aN, .ref aS, .ref aF, .int wt, .int ln, .int pl, .int un, .long rs])) :: (aR, .inl (kC, 300, .inl fx)) :: (aN, .inr (1, [.ref aK, .int (nI ns.length)])) :: (aK, .inl (kQ, 64, .inr (.inr (.inr (.inr q))))) :: (aS, .inl (kI, 150, .inl sg)) :: (aF, .inl (kJ, 150, .inr (.inl ff))) :: (aA, .inr (3, [.ref a0, .ref aR, .ref aN, .int (nI tx.length), .ref aH, .int (nI nl.length), .int rt, .int wg])) :: (aH, .inl (kC, 8, .inl fh)) :: (fr ++ rw_p 0 kC ns)) s.heap.size = A at hD ⊢
  have hA : ∀ q : Nat, s.heap.size ≤ q → A q := fun q h => by rw [← hAe]; exact Or.inr h
  have hS : va_S A s.heap s.heap [] := va_S.rf
  have hx := B.exec
  have hb := B.bytes
  have hr := B.returns
  have htz : ∀ w ∈ zw, w.before _ s = true := fun w h => atoms_spec (ws := wsA_name) B.pre w (List.mem_cons_of_mem _ h)
  have hown : s.vm.findClass "ShellSum" = some m.cls := findClass_of_methodNamed B.named
  have hlocks := B.notSynchronized
  have hl := lv_entry ([.ref aA, .long x0, .int n0]) (n := 4) (Nat.le_of_ble_eq_true rfl)
  rw [lg_entry_eq]
  generalize (lg_sl ([.ref aA, .long x0, .int n0]) ++ List.replicate (4 - (lg_sl ([.ref aA, .long x0, .int n0])).length) Slot.unset).toArray = ls at hl ⊢
  have hl : lv_has ls 4 [(0, .ref aA), (1, .long x0), (3, .int n0)] := hl
  refine lv_lload_n hx hb dA_name_0 rfl (lv_at hl 1 rfl) ?_
  refine lv_iload_n hx hb dA_name_1 rfl (lv_at hl 2 rfl) ?_
  refine rq_call (va_runS (As := [.long x0, .int n0]) (rest := []) ⟨hx, hb, hml, hown, htz⟩ (k_A_areName l x0 n0) (cwS 2 htz (zg_S zw_1_122 zw_1_123 zw_1_1 zw_1_124) rfl rfl rfl (by decide +kernel) ⟨Nat.le_of_ble_eq_true rfl, Nat.le_of_ble_eq_true rfl⟩) rq_pre rfl rfl hl.1 rfl (lv_room (Nat.le_of_ble_eq_true rfl)) dA_name_2 ⟨Nat.zero_le _, Nat.zero_le _⟩) ?_
  refine W.eq (g2 := F0 m 5 ls [.int (sh_b (sh_areN x0 n0))]) rfl ?_
  refine lv_if_ne (tgt := 10) hx hb dA_name_5 (by decide) (fun c_1 => ?_) (fun c_1 => ?_)
  · skip
    have e_5 : sh_areN x0 n0 = true := by grind [sh_b]
    obtain ⟨n, hnn1, hn, rfl⟩ := sh_areN_of e_5
    have e_n : (nI n).toNatClampNeg = n := nI_clamp (by omega)
    refine lv_lload_n hx hb dA_name_10 rfl (lv_at hl 1 rfl) ?_
    refine lv_iload_n hx hb dA_name_11 rfl (lv_at hl 2 rfl) ?_
    refine lv_aload_n hx hb dA_name_12 rfl (lv_at hl 0 rfl) ?_
    refine va_get (D := (dC, dI)) (ci := 3) (v := .ref aH) (C := "ShellSum") (T := TA) (N := 8) hx hb htz zu_A hown hK hP 6 rfl rfl 4 (by decide) (htz _ zw_1_80) (fun _ h9 => h9) rfl dA_name_13 ?_
    refine lv_iconst (v := 0) hx hb dA_name_16 (by decide) ?_
    refine xw_topi (y := nI 0) (nI_0.symm) ?_
    refine zQ_call (va_runS (As := [.long x0, .int (nI n), .ref aH, .int (nI 0)]) (rest := []) ⟨hx, hb, hml, hown, htz⟩ (k_A_unpack l dC dI kC kI kJ kQ ((a0, .inr (2, [.ref aR, .ref aN, .ref aS, .ref aF, .int wt, .int ln, .int pl, .int un, .long rs])) :: (aR, .inl (kC, 300, .inl fx)) :: (aN, .inr (1, [.ref aK, .int (nI ns.length)])) :: (aK, .inl (kQ, 64, .inr (.inr (.inr (.inr q))))) :: (aS, .inl (kI, 150, .inl sg)) :: (aF, .inl (kJ, 150, .inr (.inl ff))) :: (aA, .inr (3, [.ref a0, .ref aR, .ref aN, .int (nI tx.length), .ref aH, .int (nI nl.length), .int rt, .int wg])) :: (aH, .inl (kC, 8, .inl fh)) :: (fr ++ rw_p 0 kC ns)) _ 7 8 0 n aH x0 fh rfl hn (by omega) (by decide)) (cwS 4 htz (zg_S zw_1_115 zw_1_116 zw_1_1 zw_1_117) rfl rfl rfl (by decide +kernel) ⟨Nat.le_of_ble_eq_true rfl, Nat.le_of_ble_eq_true rfl⟩) (zW_S hP hK hD hN) rfl rfl hl.1 rfl (lv_room (Nat.le_of_ble_eq_true rfl)) dA_name_17 ⟨Nat.zero_le _, Nat.zero_le _⟩) hD hS hA (fun v w H locs hp hP hD hS => ?_)
    obtain ⟨rfl, fh2, hg1, hg0, hw⟩ := hp
    rw [hw] at hP hD
    have hP : va_P (dC, dI) vwCl ((a0, .inr (2, [.ref aR, .ref aN, .ref aS, .ref aF, .int wt, .int ln, .int pl, .int un, .long rs])) :: (aR, .inl (kC, 300, .inl fx)) :: (aN, .inr (1, [.ref aK, .int (nI ns.length)])) :: (aK, .inl (kQ, 64, .inr (.inr (.inr (.inr q))))) :: (aS, .inl (kI, 150, .inl sg)) :: (aF, .inl (kJ, 150, .inr (.inl ff))) :: (aA, .inr (3, [.ref a0, .ref aR, .ref aN, .int (nI tx.length), .ref aH, .int (nI nl.length), .int rt, .int wg])) :: (aH, .inl (kC, 8, .inl fh2)) :: (fr ++ rw_p 0 kC ns)) _ := hP
    have hD : va_D A ((a0, .inr (2, [.ref aR, .ref aN, .ref aS, .ref aF, .int wt, .int ln, .int pl, .int un, .long rs])) :: (aR, .inl (kC, 300, .inl fx)) :: (aN, .inr (1, [.ref aK, .int (nI ns.length)])) :: (aK, .inl (kQ, 64, .inr (.inr (.inr (.inr q))))) :: (aS, .inl (kI, 150, .inl sg)) :: (aF, .inl (kJ, 150, .inr (.inl ff))) :: (aA, .inr (3, [.ref a0, .ref aR, .ref aN, .int (nI tx.length), .ref aH, .int (nI nl.length), .int rt, .int wg])) :: (aH, .inl (kC, 8, .inl fh2)) :: (fr ++ rw_p 0 kC ns)) := hD
    refine W.eq (g2 := F0 m 20 ls []) rfl ?_
    refine lv_aload_n hx hb dA_name_20 rfl (lv_at hl 0 rfl) ?_
    refine lv_iload_n hx hb dA_name_21 rfl (lv_at hl 2 rfl) ?_
    refine va_put (D := (dC, dI)) (ci := 3) (v := .int (nI n)) (ty := .int) (C := "ShellSum") (T := TA) (N := 8) hx hb htz zu_A tyA tyA_ok nmA hown hK hP hD hS 6 rfl rfl 5 (by decide) (htz _ zw_1_81) (fun _ h9 => h9) rfl (by decide +kernel) rfl rfl (Nat.le_of_ble_eq_true rfl) dA_name_22 (fun H locs hP hD hS => ?_)
    have hP : va_P (dC, dI) vwCl ((a0, .inr (2, [.ref aR, .ref aN, .ref aS, .ref aF, .int wt, .int ln, .int pl, .int un, .long rs])) :: (aR, .inl (kC, 300, .inl fx)) :: (aN, .inr (1, [.ref aK, .int (nI ns.length)])) :: (aK, .inl (kQ, 64, .inr (.inr (.inr (.inr q))))) :: (aS, .inl (kI, 150, .inl sg)) :: (aF, .inl (kJ, 150, .inr (.inl ff))) :: (aA, .inr (3, [.ref a0, .ref aR, .ref aN, .int (nI tx.length), .ref aH, .int (nI n), .int rt, .int wg])) :: (aH, .inl (kC, 8, .inl fh2)) :: (fr ++ rw_p 0 kC ns)) _ := hP
    have hD : va_D A ((a0, .inr (2, [.ref aR, .ref aN, .ref aS, .ref aF, .int wt, .int ln, .int pl, .int un, .long rs])) :: (aR, .inl (kC, 300, .inl fx)) :: (aN, .inr (1, [.ref aK, .int (nI ns.length)])) :: (aK, .inl (kQ, 64, .inr (.inr (.inr (.inr q))))) :: (aS, .inl (kI, 150, .inl sg)) :: (aF, .inl (kJ, 150, .inr (.inl ff))) :: (aA, .inr (3, [.ref a0, .ref aR, .ref aN, .int (nI tx.length), .ref aH, .int (nI n), .int rt, .int wg])) :: (aH, .inl (kC, 8, .inl fh2)) :: (fr ++ rw_p 0 kC ns)) := hD
    refine lv_iconst (v := 1) hx hb dA_name_25 (by decide) ?_
    refine W.widen (k := 0) (n := 0) (Nat.zero_le _) (Nat.zero_le _) ?_
    exact W.zret (v := 1) hx hb hr (rfl) (fun t ht _ => ⟨_, _, rfl, Or.inr ⟨e_5, rfl, fh2, by rw [e_n]; exact fun j hj => (by have := hg1 j hj; rw [Nat.zero_add] at this; rw [this, sh_bytes_at hj]), rfl⟩, by rw [ht]; exact hP, hD, hS.F ht⟩) hS.2.2 dA_name_26
  have e_5 : sh_areN x0 n0 = false := by grind [sh_b]
  refine lv_iconst (v := 0) hx hb dA_name_8 (by decide) ?_
  refine W.widen (k := 0) (n := 0) (Nat.le_refl _) (Nat.le_refl _) ?_
  exact W.zret (v := 0) hx hb hr (rfl) (fun t ht _ => ⟨_, _, rfl, Or.inl ⟨e_5, rfl, rfl⟩, by rw [ht]; exact hP, hD, hS.F ht⟩) hS.2.2 dA_name_9
set_option maxHeartbeats 4000000 in
set_option maxRecDepth 100000 in
/-- letter(i) -/
theorem k_A_letter (l : Launch) (dC : Nat → ClassId) (dI : Nat → Nat → Nat) (kC kI kJ kQ : ClassId) (a0 aR aN aS aF aK : Nat) (wt un pl ln : Int32) (aA aH : Nat) (fh : Nat → Int32) (rt wg : Int32) (nl : List Int32) (rs : Int64) (fx sg : Nat → Int32) (ff : Nat → Int64) (q : Nat → Option Nat) (tx : List Int32) (ns : List rw_N) (env : sh_Env) (fr : va_W) (hx3 : tx.length ≤ 300) (hB : sh_B tx) (hn1 : 1 ≤ nl.length) (hn8 : nl.length ≤ 8) (hBn : sh_B nl) (hfh : ∀ j, j < nl.length → fh j = sh_at nl j) (hfx : ∀ j, j < tx.length → fx j = sh_at tx j) (hE : zEn q ns env) (i0 : Int32) : Met l yA_letter wsA_letter ({ frames := 2, cells := 0, slots := 0, locals := 60 }) (va_Pc [.ref aA, .int i0] (zR dC dI [(kC, .char), (kI, .int), (kJ, .long), (kQ, .object "ShellSum$Named")] ((a0, .inr (2, [.ref aR, .ref aN, .ref aS, .ref aF, .int wt, .int ln, .int pl, .int un, .long rs])) :: (aR, .inl (kC, 300, .inl fx)) :: (aN, .inr (1, [.ref aK, .int (nI ns.length)])) :: (aK, .inl (kQ, 64, .inr (.inr (.inr (.inr q))))) :: (aS, .inl (kI, 150, .inl sg)) :: (aF, .inl (kJ, 150, .inr (.inl ff))) :: (aA, .inr (3, [.ref a0, .ref aR, .ref aN, .int (nI tx.length), .ref aH, .int (nI nl.length), .int rt, .int wg])) :: (aH, .inl (kC, 8, .inl fh)) :: (fr ++ rw_p 0 kC ns)))) (rq_ (some (.int (match sh_find env nl with | none => (-1 : Int32) | some t => if 0 ≤ i0 ∧ i0 < nI t.length then sh_at t i0.toNatClampNeg else -1)))) 0 0 (fun _ => False) := by
  refine Met.ofW (cc := cA_letter) (maxL := 3) (ret := (some .int)) (by decide) rfl ?_
  intro p e s m args below meth c s₁ B hml hv
  obtain ⟨rfl, hP, hK, hN⟩ := hv
  have hx := B.exec
  have hb := B.bytes
  have hr := B.returns
  have htz : ∀ w ∈ zw, w.before _ s = true := fun w h => atoms_spec (ws := wsA_letter) B.pre w (List.mem_cons_of_mem _ h)
  have hown : s.vm.findClass "ShellSum" = some m.cls := findClass_of_methodNamed B.named
  have hlocks := B.notSynchronized
  have hl := lv_entry ([.ref aA, .int i0]) (n := 3) (Nat.le_of_ble_eq_true rfl)
  rw [lg_entry_eq]
  generalize (lg_sl ([.ref aA, .int i0]) ++ List.replicate (3 - (lg_sl ([.ref aA, .int i0])).length) Slot.unset).toArray = ls at hl ⊢
  have hl : lv_has ls 3 [(0, .ref aA), (1, .int i0)] := hl
  refine lv_aload_n hx hb dA_letter_0 rfl (lv_at hl 0 rfl) ?_
  refine va_get (D := (dC, dI)) (ci := 3) (v := .ref aN) (C := "ShellSum") (T := TA) (N := 8) hx hb htz zu_A hown hK hP 6 rfl rfl 2 (by decide) (htz _ zw_1_78) (fun _ h9 => h9) rfl dA_letter_1 ?_
  refine lv_aload_n hx hb dA_letter_4 rfl (lv_at hl 0 rfl) ?_
  refine va_get (D := (dC, dI)) (ci := 3) (v := .ref aH) (C := "ShellSum") (T := TA) (N := 8) hx hb htz zu_A hown hK hP 6 rfl rfl 4 (by decide) (htz _ zw_1_80) (fun _ h9 => h9) rfl dA_letter_5 ?_
  refine lv_iconst (v := 0) hx hb dA_letter_8 (by decide) ?_
  refine lv_aload_n hx hb dA_letter_9 rfl (lv_at hl 0 rfl) ?_
  refine va_get (D := (dC, dI)) (ci := 3) (v := .int (nI nl.length)) (C := "ShellSum") (T := TA) (N := 8) hx hb htz zu_A hown hK hP 6 rfl rfl 5 (by decide) (htz _ zw_1_81) (fun _ h9 => h9) rfl dA_letter_10 ?_
  refine xw_topi (y := nI (0 + nl.length)) (by rw [Nat.zero_add]) ?_
  refine W.eq (g2 := F0 m 13 ls [.int (nI (0 + nl.length)), .int (nI 0), .ref aH, .ref aN]) rfl ?_
  have hpo : sh_pool ((a0, .inr (2, [.ref aR, .ref aN, .ref aS, .ref aF, .int wt, .int ln, .int pl, .int un, .long rs])) :: (aR, .inl (kC, 300, .inl fx)) :: (aN, .inr (1, [.ref aK, .int (nI ns.length)])) :: (aK, .inl (kQ, 64, .inr (.inr (.inr (.inr q))))) :: (aS, .inl (kI, 150, .inl sg)) :: (aF, .inl (kJ, 150, .inr (.inl ff))) :: (aA, .inr (3, [.ref a0, .ref aR, .ref aN, .int (nI tx.length), .ref aH, .int (nI nl.length), .int rt, .int wg])) :: (aH, .inl (kC, 8, .inl fh)) :: (fr ++ rw_p 0 kC ns)) (fr.length + 8) kC q ns := zEn_pool (kC := kC) ((a0, .inr (2, [.ref aR, .ref aN, .ref aS, .ref aF, .int wt, .int ln, .int pl, .int un, .long rs])) :: (aR, .inl (kC, 300, .inl fx)) :: (aN, .inr (1, [.ref aK, .int (nI ns.length)])) :: (aK, .inl (kQ, 64, .inr (.inr (.inr (.inr q))))) :: (aS, .inl (kI, 150, .inl sg)) :: (aF, .inl (kJ, 150, .inr (.inl ff))) :: (aA, .inr (3, [.ref a0, .ref aR, .ref aN, .int (nI tx.length), .ref aH, .int (nI nl.length), .int rt, .int wg])) :: (aH, .inl (kC, 8, .inl fh)) :: fr) hE
  refine rq_call (va_runVN (As := [.ref aH, .int (nI 0), .int (nI (0 + nl.length))]) (rest := []) ⟨hx, hb, hml, hown, htz⟩ (k_S_find l dC dI kC kI kJ kQ _ aN aK 2 3 (fr.length + 8) q ns rfl rfl hpo hE.2.2.2.1 aH 7 8 0 fh nl rfl (fun j h => by rw [Nat.zero_add]; exact hfh j h) (by omega) (by decide)) ⟨va_cnB 3 htz (zg_c zw_1_145) rfl rfl rfl (hN _ zn_1_184) (htz _ zw_1_3) (by decide +kernel) ⟨Nat.le_of_ble_eq_true rfl, Nat.le_of_ble_eq_true rfl⟩, htz _ zw_1_144, htz _ zs_S_find⟩ (zR_V hP hK hN (va_recv hK hP (ci := 1) (q0 := 2) rfl rfl)) rfl rfl hl.1 rfl (lv_room (Nat.le_of_ble_eq_true rfl)) dA_letter_13 ⟨Nat.zero_le _, Nat.zero_le _⟩) ?_
  refine W.eq (g2 := F0 m 16 ls [va_rf ((sh_fi ns nl).map (fun x => x.1.1))]) rfl ?_
  have hef := zEn_find hE nl
  rcases xo_or (sh_fi ns nl) with hfi | ⟨x, hfi⟩
  · skip
    refine W.eq (g2 := F0 m 16 ls [.null]) (by rw [hfi]; rfl) ?_
    rw [hfi] at hef
    have e_r : (match sh_find env nl with | none => (-1 : Int32) | some t => if 0 ≤ i0 ∧ i0 < nI t.length then sh_at t i0.toNatClampNeg else -1) = -1 := by rw [hef]; rfl
    refine lv_astore_nN (lv' := [(2, .null), (0, .ref aA), (1, .int i0)]) hx hb dA_letter_16 rfl hl (by decide) rfl (fun ls hl => ?_)
    refine lv_aload_nN hx hb dA_letter_17 rfl (lv_at hl 0 rfl) ?_
    refine lv_ifnullN (tgt := 42) hx hb dA_letter_18 (by decide) ?_
    refine lv_iconst (v := (-1)) hx hb dA_letter_42 (by decide) ?_
    exact W.iret (v := -1) hx hb hr (fun t ht _ => ⟨by rw [e_r], ht⟩) t_nil dA_letter_43
  refine W.eq (g2 := F0 m 16 ls [.ref x.1.1]) (by rw [hfi]; rfl) ?_
  obtain ⟨⟨i, hxi⟩, -⟩ := sh_fi_mem hfi
  obtain ⟨-, ho, -, hro, -⟩ := hpo i x hxi
  obtain ⟨⟨L, hL, hxL⟩, hxB, -⟩ := hE.2.2.1 x (List.mem_of_getElem? hxi)
  have hlt := rw_tx_len hL hxL
  rw [hfi] at hef
  have e_n : (match sh_find env nl with | none => (-1 : Int32) | some t => if 0 ≤ i0 ∧ i0 < nI t.length then sh_at t i0.toNatClampNeg else -1) = if 0 ≤ i0 ∧ i0 < nI L then sh_at (rw_tx x) i0.toNatClampNeg else -1 := by rw [hef, ← hlt]; rfl
  refine lv_astore_n (lv' := [(2, .ref x.1.1), (0, .ref aA), (1, .int i0)]) hx hb dA_letter_16 rfl hl (by decide) rfl (fun ls hl => ?_)
  refine lv_aload_n hx hb dA_letter_17 rfl (lv_at hl 0 rfl) ?_
  refine lv_ifnull hx hb dA_letter_18 ?_
  refine lv_iload_n hx hb dA_letter_21 rfl (lv_at hl 2 rfl) ?_
  refine lv_if_lt (tgt := 42) hx hb dA_letter_22 (by decide) (fun c_1 => ?_) (fun c_1 => ?_)
  · skip
    have e_r : (match sh_find env nl with | none => (-1 : Int32) | some t => if 0 ≤ i0 ∧ i0 < nI t.length then sh_at t i0.toNatClampNeg else -1) = -1 := by rw [e_n, if_neg (by grind)]
    refine lv_iconst (v := (-1)) hx hb dA_letter_42 (by decide) ?_
    exact W.iret (v := -1) hx hb hr (fun t ht _ => ⟨by rw [e_r], ht⟩) t_nil dA_letter_43
  refine lv_iload_n hx hb dA_letter_25 rfl (lv_at hl 2 rfl) ?_
  refine lv_aload_n hx hb dA_letter_26 rfl (lv_at hl 0 rfl) ?_
  refine va_getN (D := (dC, dI)) (ci := 0) (v := .int x.2.2.2) (C := "ShellSum$Named") (T := TN) (N := 3) hx hb htz zu_N hown hK hP ((fr.length + 8) + 3 * i) ho rfl 2 (by decide) (va_Nw.use rfl (hN _ zn_1_163)) (fun _ h9 => h9) rfl dA_letter_27 ?_
  refine xw_topi (y := nI L) (hxL) ?_
  refine lv_icmp_ge (tgt := 42) hx hb dA_letter_30 (by decide) (fun c_2 => ?_) (fun c_2 => ?_)
  · skip
    have e_r : (match sh_find env nl with | none => (-1 : Int32) | some t => if 0 ≤ i0 ∧ i0 < nI t.length then sh_at t i0.toNatClampNeg else -1) = -1 := by rw [e_n, if_neg (by grind)]
    refine lv_iconst (v := (-1)) hx hb dA_letter_42 (by decide) ?_
    exact W.iret (v := -1) hx hb hr (fun t ht _ => ⟨by rw [e_r], ht⟩) t_nil dA_letter_43
  obtain ⟨i1, hi1, rfl⟩ : ∃ n : Nat, n ≤ 20 ∧ i0 = nI n := nI_of2 (M := 20) rfl c_1 (i_lt20 hL c_2)
  have e_i1 : i1 < L := xi_nle c_2 (by omega) (by omega)
  have e_r : (match sh_find env nl with | none => (-1 : Int32) | some t => if 0 ≤ (nI i1) ∧ (nI i1) < nI t.length then sh_at t (nI i1).toNatClampNeg else -1) = sh_at (rw_tx x) i1 := by rw [e_n, if_pos ⟨nI_pos' (by omega), (nI_ltI (by omega) (by omega)).mpr e_i1⟩, nI_clamp (by omega)]
  refine lv_iload_n hx hb dA_letter_33 rfl (lv_at hl 2 rfl) ?_
  refine lv_aload_n hx hb dA_letter_34 rfl (lv_at hl 0 rfl) ?_
  refine va_getN (D := (dC, dI)) (ci := 0) (v := .ref x.1.2.2) (C := "ShellSum$Named") (T := TN) (N := 3) hx hb htz zu_N hown hK hP ((fr.length + 8) + 3 * i) ho rfl 1 (by decide) (va_Nw.use rfl (hN _ zn_1_160)) (fun _ h9 => h9) rfl dA_letter_35 ?_
  refine va_alen hx hb hK hP ((fr.length + 8) + 3 * i + 2) 0 hro (ty := .char) rfl (v := nI 20) rfl dA_letter_38 ?_
  refine lv_icmp_lt (tgt := 44) hx hb dA_letter_39 (by decide) (fun c_3 => ?_) (fun c_3 => ?_)
  · skip
    refine lv_aload_n hx hb dA_letter_44 rfl (lv_at hl 0 rfl) ?_
    refine va_getN (D := (dC, dI)) (ci := 0) (v := .ref x.1.2.2) (C := "ShellSum$Named") (T := TN) (N := 3) hx hb htz zu_N hown hK hP ((fr.length + 8) + 3 * i) ho rfl 1 (by decide) (va_Nw.use rfl (hN _ zn_1_160)) (fun _ h9 => h9) rfl dA_letter_45 ?_
    refine lv_iload_n hx hb dA_letter_48 rfl (lv_at hl 2 rfl) ?_
    refine va_cald hx hb hK hP ((fr.length + 8) + 3 * i + 2) 0 hro rfl (vp_in_nI (by omega) (by omega)) dA_letter_49 ?_
    refine xw_topi (y := x.2.2.1 i1) (by rw [nI_clamp (by omega)]) ?_
    refine xw_topi (y := sh_at (rw_tx x) i1) (rw_tx_at hL hxL e_i1) ?_
    exact W.iret (v := sh_at (rw_tx x) i1) hx hb hr (fun t ht _ => ⟨by rw [e_r], ht⟩) t_nil dA_letter_50
  exact absurd (xi_nlt (b := 20) c_3 (by omega) (by decide)) (by omega)
set_option maxHeartbeats 4000000 in
set_option maxRecDepth 100000 in
/-- count(what) -/
theorem k_A_count (l : Launch) (dC : Nat → ClassId) (dI : Nat → Nat → Nat) (kC kI kJ kQ : ClassId) (a0 aR aN aS aF aK : Nat) (wt un pl ln : Int32) (aA aH : Nat) (fh : Nat → Int32) (rt wg : Int32) (nl : List Int32) (rs : Int64) (fx sg : Nat → Int32) (ff : Nat → Int64) (q : Nat → Option Nat) (tx : List Int32) (ns : List rw_N) (env : sh_Env) (fr : va_W) (hx3 : tx.length ≤ 300) (hB : sh_B tx) (hn1 : 1 ≤ nl.length) (hn8 : nl.length ≤ 8) (hBn : sh_B nl) (hfh : ∀ j, j < nl.length → fh j = sh_at nl j) (hfx : ∀ j, j < tx.length → fx j = sh_at tx j) (hE : zEn q ns env) (i0 : Int32) : Met l yA_count wsA_count ({ frames := 2, cells := 0, slots := 0, locals := 60 }) (va_Pc [.ref aA, .int i0] (zR dC dI [(kC, .char), (kI, .int), (kJ, .long), (kQ, .object "ShellSum$Named")] ((a0, .inr (2, [.ref aR, .ref aN, .ref aS, .ref aF, .int wt, .int ln, .int pl, .int un, .long rs])) :: (aR, .inl (kC, 300, .inl fx)) :: (aN, .inr (1, [.ref aK, .int (nI ns.length)])) :: (aK, .inl (kQ, 64, .inr (.inr (.inr (.inr q))))) :: (aS, .inl (kI, 150, .inl sg)) :: (aF, .inl (kJ, 150, .inr (.inl ff))) :: (aA, .inr (3, [.ref a0, .ref aR, .ref aN, .int (nI tx.length), .ref aH, .int (nI nl.length), .int rt, .int wg])) :: (aH, .inl (kC, 8, .inl fh)) :: (fr ++ rw_p 0 kC ns)))) (rq_ (some (.int (if i0 = 0 then nI tx.length else if i0 = 1 then nI env.length else if i0 = 2 then (match sh_find env nl with | none => (-1 : Int32) | some t => nI t.length) else if i0 = 3 then rt else if i0 = 4 then wg else -1)))) 0 0 (fun _ => False) := by
  refine Met.ofW (cc := cA_count) (maxL := 3) (ret := (some .int)) (by decide) rfl ?_
  intro p e s m args below meth c s₁ B hml hv
  obtain ⟨rfl, hP, hK, hN⟩ := hv
  have hx := B.exec
  have hb := B.bytes
  have hr := B.returns
  have htz : ∀ w ∈ zw, w.before _ s = true := fun w h => atoms_spec (ws := wsA_count) B.pre w (List.mem_cons_of_mem _ h)
  have hown : s.vm.findClass "ShellSum" = some m.cls := findClass_of_methodNamed B.named
  have hlocks := B.notSynchronized
  have hl := lv_entry ([.ref aA, .int i0]) (n := 3) (Nat.le_of_ble_eq_true rfl)
  rw [lg_entry_eq]
  generalize (lg_sl ([.ref aA, .int i0]) ++ List.replicate (3 - (lg_sl ([.ref aA, .int i0])).length) Slot.unset).toArray = ls at hl ⊢
  have hl : lv_has ls 3 [(0, .ref aA), (1, .int i0)] := hl
  refine lv_iload_n hx hb dA_count_0 rfl (lv_at hl 1 rfl) ?_
  by_cases c_1 : i0 = 0
  · skip
    refine lv_tableIn (off := 35) (tgt := 36) hx hb dA_count_1 (by rw [c_1]; decide) (by rw [c_1]; decide) (by rw [c_1]; rfl) (by decide) ?_
    refine lv_aload_n hx hb dA_count_36 rfl (lv_at hl 0 rfl) ?_
    refine va_get (D := (dC, dI)) (ci := 3) (v := .int (nI tx.length)) (C := "ShellSum") (T := TA) (N := 8) hx hb htz zu_A hown hK hP 6 rfl rfl 3 (by decide) (htz _ zw_1_79) (fun _ h9 => h9) rfl dA_count_37 ?_
    exact W.iret (v := nI tx.length) hx hb hr (fun t ht _ => ⟨by rw [c_1]; rfl, ht⟩) t_nil dA_count_40
  by_cases c_2 : i0 = 1
  · skip
    refine lv_tableIn (off := 40) (tgt := 41) hx hb dA_count_1 (by rw [c_2]; decide) (by rw [c_2]; decide) (by rw [c_2]; rfl) (by decide) ?_
    refine lv_aload_n hx hb dA_count_41 rfl (lv_at hl 0 rfl) ?_
    refine va_get (D := (dC, dI)) (ci := 3) (v := .ref aN) (C := "ShellSum") (T := TA) (N := 8) hx hb htz zu_A hown hK hP 6 rfl rfl 2 (by decide) (htz _ zw_1_78) (fun _ h9 => h9) rfl dA_count_42 ?_
    refine va_getN (D := (dC, dI)) (ci := 1) (v := .int (nI ns.length)) (C := "ShellSum$Names") (T := TS) (N := 2) hx hb htz zu_S hown hK hP 2 rfl rfl 1 (by decide) (va_Nw.use rfl (hN _ zn_1_36)) (fun _ h9 => h9) rfl dA_count_45 ?_
    exact W.iret (v := nI ns.length) hx hb hr (fun t ht _ => ⟨by rw [c_2, zEn_len hE]; rfl, ht⟩) t_nil dA_count_48
  by_cases c_3 : i0 = 2
  · skip
    refine lv_tableIn (off := 48) (tgt := 49) hx hb dA_count_1 (by rw [c_3]; decide) (by rw [c_3]; decide) (by rw [c_3]; rfl) (by decide) ?_
    refine lv_aload_n hx hb dA_count_49 rfl (lv_at hl 0 rfl) ?_
    refine va_get (D := (dC, dI)) (ci := 3) (v := .ref aN) (C := "ShellSum") (T := TA) (N := 8) hx hb htz zu_A hown hK hP 6 rfl rfl 2 (by decide) (htz _ zw_1_78) (fun _ h9 => h9) rfl dA_count_50 ?_
    refine lv_aload_n hx hb dA_count_53 rfl (lv_at hl 0 rfl) ?_
    refine va_get (D := (dC, dI)) (ci := 3) (v := .ref aH) (C := "ShellSum") (T := TA) (N := 8) hx hb htz zu_A hown hK hP 6 rfl rfl 4 (by decide) (htz _ zw_1_80) (fun _ h9 => h9) rfl dA_count_54 ?_
    refine lv_iconst (v := 0) hx hb dA_count_57 (by decide) ?_
    refine lv_aload_n hx hb dA_count_58 rfl (lv_at hl 0 rfl) ?_
    refine va_get (D := (dC, dI)) (ci := 3) (v := .int (nI nl.length)) (C := "ShellSum") (T := TA) (N := 8) hx hb htz zu_A hown hK hP 6 rfl rfl 5 (by decide) (htz _ zw_1_81) (fun _ h9 => h9) rfl dA_count_59 ?_
    refine xw_topi (y := nI (0 + nl.length)) (by rw [Nat.zero_add]) ?_
    refine W.eq (g2 := F0 m 62 ls [.int (nI (0 + nl.length)), .int (nI 0), .ref aH, .ref aN]) rfl ?_
    have hpo : sh_pool ((a0, .inr (2, [.ref aR, .ref aN, .ref aS, .ref aF, .int wt, .int ln, .int pl, .int un, .long rs])) :: (aR, .inl (kC, 300, .inl fx)) :: (aN, .inr (1, [.ref aK, .int (nI ns.length)])) :: (aK, .inl (kQ, 64, .inr (.inr (.inr (.inr q))))) :: (aS, .inl (kI, 150, .inl sg)) :: (aF, .inl (kJ, 150, .inr (.inl ff))) :: (aA, .inr (3, [.ref a0, .ref aR, .ref aN, .int (nI tx.length), .ref aH, .int (nI nl.length), .int rt, .int wg])) :: (aH, .inl (kC, 8, .inl fh)) :: (fr ++ rw_p 0 kC ns)) (fr.length + 8) kC q ns := zEn_pool (kC := kC) ((a0, .inr (2, [.ref aR, .ref aN, .ref aS, .ref aF, .int wt, .int ln, .int pl, .int un, .long rs])) :: (aR, .inl (kC, 300, .inl fx)) :: (aN, .inr (1, [.ref aK, .int (nI ns.length)])) :: (aK, .inl (kQ, 64, .inr (.inr (.inr (.inr q))))) :: (aS, .inl (kI, 150, .inl sg)) :: (aF, .inl (kJ, 150, .inr (.inl ff))) :: (aA, .inr (3, [.ref a0, .ref aR, .ref aN, .int (nI tx.length), .ref aH, .int (nI nl.length), .int rt, .int wg])) :: (aH, .inl (kC, 8, .inl fh)) :: fr) hE
    refine rq_call (va_runVN (As := [.ref aH, .int (nI 0), .int (nI (0 + nl.length))]) (rest := []) ⟨hx, hb, hml, hown, htz⟩ (k_S_find l dC dI kC kI kJ kQ _ aN aK 2 3 (fr.length + 8) q ns rfl rfl hpo hE.2.2.2.1 aH 7 8 0 fh nl rfl (fun j h => by rw [Nat.zero_add]; exact hfh j h) (by omega) (by decide)) ⟨va_cnB 3 htz (zg_c zw_1_145) rfl rfl rfl (hN _ zn_1_184) (htz _ zw_1_3) (by decide +kernel) ⟨Nat.le_of_ble_eq_true rfl, Nat.le_of_ble_eq_true rfl⟩, htz _ zw_1_144, htz _ zs_S_find⟩ (zR_V hP hK hN (va_recv hK hP (ci := 1) (q0 := 2) rfl rfl)) rfl rfl hl.1 rfl (lv_room (Nat.le_of_ble_eq_true rfl)) dA_count_62 ⟨Nat.zero_le _, Nat.zero_le _⟩) ?_
    refine W.eq (g2 := F0 m 65 ls [va_rf ((sh_fi ns nl).map (fun x => x.1.1))]) rfl ?_
    have hef := zEn_find hE nl
    rcases xo_or (sh_fi ns nl) with hfi | ⟨x, hfi⟩
    · skip
      refine W.eq (g2 := F0 m 65 ls [.null]) (by rw [hfi]; rfl) ?_
      rw [hfi] at hef
      have e_r : (if i0 = 0 then nI tx.length else if i0 = 1 then nI env.length else if i0 = 2 then (match sh_find env nl with | none => (-1 : Int32) | some t => nI t.length) else if i0 = 3 then rt else if i0 = 4 then wg else -1) = -1 := by rw [c_3, hef]; rfl
      refine lv_astore_nN (lv' := [(2, .null), (0, .ref aA), (1, .int i0)]) hx hb dA_count_65 rfl hl (by decide) rfl (fun ls hl => ?_)
      refine lv_aload_nN hx hb dA_count_66 rfl (lv_at hl 0 rfl) ?_
      refine lv_ifnonnullN hx hb dA_count_67 ?_
      refine lv_iconst (v := (-1)) hx hb dA_count_70 (by decide) ?_
      refine lv_goto (tgt := 78) hx hb dA_count_71 (by decide) ?_
      exact W.iret (v := (-1)) hx hb hr (fun t ht _ => ⟨by rw [e_r], ht⟩) t_nil dA_count_78
    refine W.eq (g2 := F0 m 65 ls [.ref x.1.1]) (by rw [hfi]; rfl) ?_
    obtain ⟨⟨i, hxi⟩, -⟩ := sh_fi_mem hfi
    obtain ⟨-, ho, -, hro, -⟩ := hpo i x hxi
    obtain ⟨⟨L, hL, hxL⟩, hxB, -⟩ := hE.2.2.1 x (List.mem_of_getElem? hxi)
    have hlt := rw_tx_len hL hxL
    rw [hfi] at hef
    have e_r : (if i0 = 0 then nI tx.length else if i0 = 1 then nI env.length else if i0 = 2 then (match sh_find env nl with | none => (-1 : Int32) | some t => nI t.length) else if i0 = 3 then rt else if i0 = 4 then wg else -1) = x.2.2.2 := by rw [c_3, hef]; show nI (rw_tx x).length = _; rw [hlt, hxL]
    refine lv_astore_n (lv' := [(2, .ref x.1.1), (0, .ref aA), (1, .int i0)]) hx hb dA_count_65 rfl hl (by decide) rfl (fun ls hl => ?_)
    refine lv_aload_n hx hb dA_count_66 rfl (lv_at hl 0 rfl) ?_
    refine lv_ifnonnull (tgt := 74) hx hb dA_count_67 (by decide) ?_
    refine lv_aload_n hx hb dA_count_74 rfl (lv_at hl 0 rfl) ?_
    refine va_getN (D := (dC, dI)) (ci := 0) (v := .int x.2.2.2) (C := "ShellSum$Named") (T := TN) (N := 3) hx hb htz zu_N hown hK hP ((fr.length + 8) + 3 * i) ho rfl 2 (by decide) (va_Nw.use rfl (hN _ zn_1_163)) (fun _ h9 => h9) rfl dA_count_75 ?_
    exact W.iret (v := x.2.2.2) hx hb hr (fun t ht _ => ⟨by rw [e_r], ht⟩) t_nil dA_count_78
  by_cases c_4 : i0 = 3
  · skip
    refine lv_tableIn (off := 78) (tgt := 79) hx hb dA_count_1 (by rw [c_4]; decide) (by rw [c_4]; decide) (by rw [c_4]; rfl) (by decide) ?_
    refine lv_aload_n hx hb dA_count_79 rfl (lv_at hl 0 rfl) ?_
    refine va_get (D := (dC, dI)) (ci := 3) (v := .int rt) (C := "ShellSum") (T := TA) (N := 8) hx hb htz zu_A hown hK hP 6 rfl rfl 6 (by decide) (htz _ zw_1_82) (fun _ h9 => h9) rfl dA_count_80 ?_
    exact W.iret (v := rt) hx hb hr (fun t ht _ => ⟨by rw [c_4]; rfl, ht⟩) t_nil dA_count_83
  by_cases c_5 : i0 = 4
  · skip
    refine lv_tableIn (off := 83) (tgt := 84) hx hb dA_count_1 (by rw [c_5]; decide) (by rw [c_5]; decide) (by rw [c_5]; rfl) (by decide) ?_
    refine lv_aload_n hx hb dA_count_84 rfl (lv_at hl 0 rfl) ?_
    refine va_get (D := (dC, dI)) (ci := 3) (v := .int wg) (C := "ShellSum") (T := TA) (N := 8) hx hb htz zu_A hown hK hP 6 rfl rfl 7 (by decide) (htz _ zw_1_83) (fun _ h9 => h9) rfl dA_count_85 ?_
    exact W.iret (v := wg) hx hb hr (fun t ht _ => ⟨by rw [c_5]; rfl, ht⟩) t_nil dA_count_88
  refine lv_tableOut (tgt := 89) hx hb dA_count_1 (by have e0 := lv_neT c_1 (k := 0) (a := 0) (by decide); have e1 := lv_neT c_2 (k := 1) (a := 1) (by decide); have e2 := lv_neT c_3 (k := 2) (a := 2) (by decide); have e3 := lv_neT c_4 (k := 3) (a := 3) (by decide); have e4 := lv_neT c_5 (k := 4) (a := 4) (by decide); omega) (by decide) ?_
  refine lv_iconst (v := (-1)) hx hb dA_count_89 (by decide) ?_
  exact W.iret (v := (-1)) hx hb hr (fun t ht _ => ⟨by rw [if_neg c_1, if_neg c_2, if_neg c_3, if_neg c_4, if_neg c_5], ht⟩) t_nil dA_count_90
