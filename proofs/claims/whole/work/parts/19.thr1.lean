set_option maxHeartbeats 4000000 in
set_option maxRecDepth 100000 in
/-- divide(sign, a, b) -/
theorem k_G_divide (l : Launch) (hl9 : l.stackTraces = false) (dC : Nat → ClassId) (dI : Nat → Nat → Nat) (tys : List (ClassId × FieldType)) (ws : va_W) (sz : Nat) (s0 : Int32) (a0 b0 : Int64) : vx_Met l yG_divide wsG_divide ({ frames := 6, cells := zk (sh_div s0 a0 b0), slots := 6 * zk (sh_div s0 a0 b0), locals := 82 }) (va_Pc [.int s0, .long a0, .long b0] (zV dC dI tys ws sz)) (zQ dC dI (va_A ws sz) (fun v w => ∃ x, sh_div s0 a0 b0 = some x ∧ v = some (.long x) ∧ w = ws)) (zX dC dI (va_A ws sz) (fun w => sh_div s0 a0 b0 = none ∧ w = ws)) (zk (sh_div s0 a0 b0)) (6 * zk (sh_div s0 a0 b0)) (va_A ws sz) := by
  refine vx_ofW (cc := cG_divide) (maxL := 5) (ret := (some .long)) (by decide) rfl ?_
  intro p e s m args below meth c s₁ B hml hEx hv
  obtain ⟨rfl, ⟨hsz, hP, hK, hD0, hN⟩, hT, hU⟩ := hv
  subst hsz
  have hD := hD0.self (sz := s.heap.size)
  generalize hAe : va_A ws s.heap.size = A at hD hU ⊢
  have hA : ∀ q : Nat, s.heap.size ≤ q → A q := fun q h => by rw [← hAe]; exact Or.inr h
  have hS : va_S A s.heap s.heap [] := va_S.rf
  have hx := B.exec
  have hb := B.bytes
  have hr := B.returns
  have htz : ∀ w ∈ zw, w.before _ s = true := fun w h => atoms_spec (ws := wsG_divide) B.pre w (List.mem_cons_of_mem _ h)
  have hown : s.vm.findClass "ShellSum$Signs" = some m.cls := findClass_of_methodNamed B.named
  have hlocks := B.notSynchronized
  have hl := lv_entry ([.int s0, .long a0, .long b0]) (n := 5) (Nat.le_of_ble_eq_true rfl)
  rw [lg_entry_eq]
  generalize (lg_sl ([.int s0, .long a0, .long b0]) ++ List.replicate (5 - (lg_sl ([.int s0, .long a0, .long b0])).length) Slot.unset).toArray = ls at hl ⊢
  have hl : lv_has ls 5 [(0, .int s0), (1, .long a0), (3, .long b0)] := hl
  refine lv_lload_n hx hb dG_divide_0 rfl (lv_at hl 2 rfl) ?_
  refine lv_lconst (v := 0) hx hb dG_divide_1 (by decide) ?_
  refine W.lcmp hx hb dG_divide_2 ?_
  refine lv_if_ne (tgt := 16) hx hb dG_divide_3 (by decide) (fun c_1 => ?_) (fun c_1 => ?_)
  · skip
    rw [lg_cmp_eq] at c_1
    refine lv_iload_n hx hb dG_divide_16 rfl (lv_at hl 0 rfl) ?_
    refine lv_bipush (v := 47) hx hb dG_divide_17 (by decide) ?_
    refine lv_icmp_ne (tgt := 28) hx hb dG_divide_19 (by decide) (fun c_2 => ?_) (fun c_2 => ?_)
    · skip
      refine lv_lload_n hx hb dG_divide_28 rfl (lv_at hl 1 rfl) ?_
      refine lv_lload_n hx hb dG_divide_29 rfl (lv_at hl 2 rfl) ?_
      refine lv_lrem hx hb dG_divide_30 (c_1) ?_
      refine W.widen (k := zk (sh_div s0 a0 b0)) (n := 6 * zk (sh_div s0 a0 b0)) (Nat.zero_le _) (Nat.zero_le _) ?_
      exact vx_ret (W.lret (v := a0 - a0 / b0 * b0) hx hb hr (fun t ht _ => ⟨_, _, rfl, ⟨a0 - a0 / b0 * b0, by simp [sh_div, c_1, c_2], rfl, rfl⟩, by rw [ht]; exact hP, hD, hS.F ht⟩) hS.2.2 dG_divide_31)
    refine lv_lload_n hx hb dG_divide_22 rfl (lv_at hl 1 rfl) ?_
    refine lv_lload_n hx hb dG_divide_23 rfl (lv_at hl 2 rfl) ?_
    refine lv_ldiv hx hb dG_divide_24 (c_1) ?_
    refine lv_goto (tgt := 31) hx hb dG_divide_25 (by decide) ?_
    refine W.widen (k := zk (sh_div s0 a0 b0)) (n := 6 * zk (sh_div s0 a0 b0)) (Nat.zero_le _) (Nat.zero_le _) ?_
    exact vx_ret (W.lret (v := a0 / b0) hx hb hr (fun t ht _ => ⟨_, _, rfl, ⟨a0 / b0, by simp [sh_div, c_1, c_2], rfl, rfl⟩, by rw [ht]; exact hP, hD, hS.F ht⟩) hS.2.2 dG_divide_31)
  rw [lg_cmp_eq] at c_1
  have e_r : sh_div s0 a0 b0 = none := by simp [sh_div, c_1]
  have e_k : zk (sh_div s0 a0 b0) = 1 := by rw [e_r]; rfl
  exact zThrow (own := "ShellSum$Signs") (text := "something divides by 0") (ik := 21) (is := 23) (ic := 25) hx hb hl9 hown (htz _ zw_2_89) (htz _ zw_1_9) (hT _ _ _ zstr_G_23) (zx_G htz hN) zx_oG hU (hl.1.trans hml.symm) dG_divide_6 dG_divide_9 dG_divide_10 dG_divide_12 dG_divide_15 hEx hlocks (Nat.le_of_ble_eq_true rfl) (Nat.le_of_ble_eq_true rfl) (by show 0 + 1 ≤ zk (sh_div s0 a0 b0); omega) (by show 0 + 6 ≤ 6 * zk (sh_div s0 a0 b0); omega) (⟨e_r, rfl⟩) hP hD hS (by omega) (by omega)
set_option maxHeartbeats 4000000 in
set_option maxRecDepth 100000 in
/-- apply(sign, a, b) -/
theorem k_G_apply (l : Launch) (hl9 : l.stackTraces = false) (dC : Nat → ClassId) (dI : Nat → Nat → Nat) (tys : List (ClassId × FieldType)) (ws : va_W) (sz : Nat) (s0 : Int32) (a0 b0 : Int64) : vx_Met l yG_apply wsG_apply ({ frames := 7, cells := zk (sh_apply s0 a0 b0), slots := 6 * zk (sh_apply s0 a0 b0), locals := 110 }) (va_Pc [.int s0, .long a0, .long b0] (zV dC dI tys ws sz)) (zQ dC dI (va_A ws sz) (fun v w => ∃ x, sh_apply s0 a0 b0 = some x ∧ v = some (.long x) ∧ w = ws)) (zX dC dI (va_A ws sz) (fun w => sh_apply s0 a0 b0 = none ∧ w = ws)) (zk (sh_apply s0 a0 b0)) (6 * zk (sh_apply s0 a0 b0)) (va_A ws sz) := by
  refine vx_ofW (cc := cG_apply) (maxL := 5) (ret := (some .long)) (by decide) rfl ?_
  intro p e s m args below meth c s₁ B hml hEx hv
  obtain ⟨rfl, ⟨hsz, hP, hK, hD0, hN⟩, hT, hU⟩ := hv
  subst hsz
  have hD := hD0.self (sz := s.heap.size)
  generalize hAe : va_A ws s.heap.size = A at hD hU ⊢
  have hA : ∀ q : Nat, s.heap.size ≤ q → A q := fun q h => by rw [← hAe]; exact Or.inr h
  have hS : va_S A s.heap s.heap [] := va_S.rf
  have hx := B.exec
  have hb := B.bytes
  have hr := B.returns
  have htz : ∀ w ∈ zw, w.before _ s = true := fun w h => atoms_spec (ws := wsG_apply) B.pre w (List.mem_cons_of_mem _ h)
  have hown : s.vm.findClass "ShellSum$Signs" = some m.cls := findClass_of_methodNamed B.named
  have hlocks := B.notSynchronized
  have hl := lv_entry ([.int s0, .long a0, .long b0]) (n := 5) (Nat.le_of_ble_eq_true rfl)
  rw [lg_entry_eq]
  generalize (lg_sl ([.int s0, .long a0, .long b0]) ++ List.replicate (5 - (lg_sl ([.int s0, .long a0, .long b0])).length) Slot.unset).toArray = ls at hl ⊢
  have hl : lv_has ls 5 [(0, .int s0), (1, .long a0), (3, .long b0)] := hl
  refine lv_iload_n hx hb dG_apply_0 rfl (lv_at hl 0 rfl) ?_
  by_cases c_1 : s0 = 37
  · skip
    refine lv_lookup (off := 133) (tgt := 134) hx hb dG_apply_1 (by decide) (by rw [c_1]; decide) (by decide) ?_
    refine lv_iload_n hx hb dG_apply_134 rfl (lv_at hl 0 rfl) ?_
    refine lv_lload_n hx hb dG_apply_135 rfl (lv_at hl 1 rfl) ?_
    refine lv_lload_n hx hb dG_apply_136 rfl (lv_at hl 2 rfl) ?_
    have e_r : sh_apply s0 a0 b0 = sh_div s0 a0 b0 := by simp [sh_apply, c_1]
    refine zX_call (vx_runS (As := [.int s0, .long a0, .long b0]) (rest := []) ⟨hx, hb, hml, hown, htz⟩ (k_G_divide l hl9 dC dI tys ws _ s0 a0 b0) (cwS 3 htz (zg_S zw_2_86 zw_2_87 zw_1_5 zw_2_88) rfl rfl rfl (by decide +kernel) ⟨Nat.le_of_ble_eq_true rfl, Nat.le_of_ble_eq_true rfl⟩) (zV_S hP hK hD hN hT hU hS hA) rfl rfl hl.1 rfl (lv_room (Nat.le_of_ble_eq_true rfl)) dG_apply_137 ⟨by show 0 + zk _ ≤ zk (sh_apply s0 a0 b0); rw [e_r]; omega, by show 0 + 6 * zk _ ≤ 6 * zk (sh_apply s0 a0 b0); rw [e_r]; omega⟩) hD hS hA (fun ce q9 w H locs hp hP hD hS hce hcv hcl => ?_) (fun v w H locs hp hP hD hS => ?_)
    · obtain ⟨h1, hw⟩ := hp
      rw [hw] at hP hD
      exact zX_out hEx hlocks ⟨by rw [e_r]; exact h1, rfl⟩ hP hD hS hce hcv hcl (by rw [e_r]; omega) (by rw [e_r]; omega)
    obtain ⟨x, h1, rfl, hw⟩ := hp
    rw [hw] at hP hD
    refine W.eq (g2 := F0 m 140 ls [.long x]) rfl ?_
    refine W.widen (k := zk (sh_apply s0 a0 b0)) (n := 6 * zk (sh_apply s0 a0 b0)) (by rw [e_r]; omega) (by rw [e_r]; omega) ?_
    exact vx_ret (W.lret (v := x) hx hb hr (fun t ht _ => ⟨_, _, rfl, ⟨x, by rw [e_r]; exact h1, rfl, rfl⟩, by rw [ht]; exact hP, hD, hS.F ht⟩) hS.2.2 dG_apply_140)
  by_cases c_2 : s0 = 38
  · skip
    refine lv_lookup (off := 99) (tgt := 100) hx hb dG_apply_1 (by decide) (by rw [c_2]; decide) (by decide) ?_
    refine lv_lload_n hx hb dG_apply_100 rfl (lv_at hl 1 rfl) ?_
    refine lv_lload_n hx hb dG_apply_101 rfl (lv_at hl 2 rfl) ?_
    refine lv_land hx hb dG_apply_102 ?_
    refine W.widen (k := zk (sh_apply s0 a0 b0)) (n := 6 * zk (sh_apply s0 a0 b0)) (Nat.zero_le _) (Nat.zero_le _) ?_
    exact vx_ret (W.lret (v := a0 &&& b0) hx hb hr (fun t ht _ => ⟨_, _, rfl, ⟨a0 &&& b0, by simp [sh_apply, c_2], rfl, rfl⟩, by rw [ht]; exact hP, hD, hS.F ht⟩) hS.2.2 dG_apply_103)
  by_cases c_3 : s0 = 42
  · skip
    refine lv_lookup (off := 129) (tgt := 130) hx hb dG_apply_1 (by decide) (by rw [c_3]; decide) (by decide) ?_
    refine lv_lload_n hx hb dG_apply_130 rfl (lv_at hl 1 rfl) ?_
    refine lv_lload_n hx hb dG_apply_131 rfl (lv_at hl 2 rfl) ?_
    refine lv_lmul hx hb dG_apply_132 ?_
    refine W.widen (k := zk (sh_apply s0 a0 b0)) (n := 6 * zk (sh_apply s0 a0 b0)) (Nat.zero_le _) (Nat.zero_le _) ?_
    exact vx_ret (W.lret (v := a0 * b0) hx hb hr (fun t ht _ => ⟨_, _, rfl, ⟨a0 * b0, by simp [sh_apply, c_3], rfl, rfl⟩, by rw [ht]; exact hP, hD, hS.F ht⟩) hS.2.2 dG_apply_133)
  by_cases c_4 : s0 = 43
  · skip
    refine lv_lookup (off := 121) (tgt := 122) hx hb dG_apply_1 (by decide) (by rw [c_4]; decide) (by decide) ?_
    refine lv_lload_n hx hb dG_apply_122 rfl (lv_at hl 1 rfl) ?_
    refine lv_lload_n hx hb dG_apply_123 rfl (lv_at hl 2 rfl) ?_
    refine lv_ladd hx hb dG_apply_124 ?_
    refine W.widen (k := zk (sh_apply s0 a0 b0)) (n := 6 * zk (sh_apply s0 a0 b0)) (Nat.zero_le _) (Nat.zero_le _) ?_
    exact vx_ret (W.lret (v := a0 + b0) hx hb hr (fun t ht _ => ⟨_, _, rfl, ⟨a0 + b0, by simp [sh_apply, c_4], rfl, rfl⟩, by rw [ht]; exact hP, hD, hS.F ht⟩) hS.2.2 dG_apply_125)
  by_cases c_5 : s0 = 45
  · skip
    refine lv_lookup (off := 125) (tgt := 126) hx hb dG_apply_1 (by decide) (by rw [c_5]; decide) (by decide) ?_
    refine lv_lload_n hx hb dG_apply_126 rfl (lv_at hl 1 rfl) ?_
    refine lv_lload_n hx hb dG_apply_127 rfl (lv_at hl 2 rfl) ?_
    refine lv_lsub hx hb dG_apply_128 ?_
    refine W.widen (k := zk (sh_apply s0 a0 b0)) (n := 6 * zk (sh_apply s0 a0 b0)) (Nat.zero_le _) (Nat.zero_le _) ?_
    exact vx_ret (W.lret (v := a0 - b0) hx hb hr (fun t ht _ => ⟨_, _, rfl, ⟨a0 - b0, by simp [sh_apply, c_5], rfl, rfl⟩, by rw [ht]; exact hP, hD, hS.F ht⟩) hS.2.2 dG_apply_129)
  by_cases c_6 : s0 = 47
  · skip
    refine lv_lookup (off := 133) (tgt := 134) hx hb dG_apply_1 (by decide) (by rw [c_6]; decide) (by decide) ?_
    refine lv_iload_n hx hb dG_apply_134 rfl (lv_at hl 0 rfl) ?_
    refine lv_lload_n hx hb dG_apply_135 rfl (lv_at hl 1 rfl) ?_
    refine lv_lload_n hx hb dG_apply_136 rfl (lv_at hl 2 rfl) ?_
    have e_r : sh_apply s0 a0 b0 = sh_div s0 a0 b0 := by simp [sh_apply, c_6]
    refine zX_call (vx_runS (As := [.int s0, .long a0, .long b0]) (rest := []) ⟨hx, hb, hml, hown, htz⟩ (k_G_divide l hl9 dC dI tys ws _ s0 a0 b0) (cwS 3 htz (zg_S zw_2_86 zw_2_87 zw_1_5 zw_2_88) rfl rfl rfl (by decide +kernel) ⟨Nat.le_of_ble_eq_true rfl, Nat.le_of_ble_eq_true rfl⟩) (zV_S hP hK hD hN hT hU hS hA) rfl rfl hl.1 rfl (lv_room (Nat.le_of_ble_eq_true rfl)) dG_apply_137 ⟨by show 0 + zk _ ≤ zk (sh_apply s0 a0 b0); rw [e_r]; omega, by show 0 + 6 * zk _ ≤ 6 * zk (sh_apply s0 a0 b0); rw [e_r]; omega⟩) hD hS hA (fun ce q9 w H locs hp hP hD hS hce hcv hcl => ?_) (fun v w H locs hp hP hD hS => ?_)
    · obtain ⟨h1, hw⟩ := hp
      rw [hw] at hP hD
      exact zX_out hEx hlocks ⟨by rw [e_r]; exact h1, rfl⟩ hP hD hS hce hcv hcl (by rw [e_r]; omega) (by rw [e_r]; omega)
    obtain ⟨x, h1, rfl, hw⟩ := hp
    rw [hw] at hP hD
    refine W.eq (g2 := F0 m 140 ls [.long x]) rfl ?_
    refine W.widen (k := zk (sh_apply s0 a0 b0)) (n := 6 * zk (sh_apply s0 a0 b0)) (by rw [e_r]; omega) (by rw [e_r]; omega) ?_
    exact vx_ret (W.lret (v := x) hx hb hr (fun t ht _ => ⟨_, _, rfl, ⟨x, by rw [e_r]; exact h1, rfl, rfl⟩, by rw [ht]; exact hP, hD, hS.F ht⟩) hS.2.2 dG_apply_140)
  by_cases c_7 : s0 = 94
  · skip
    refine lv_lookup (off := 95) (tgt := 96) hx hb dG_apply_1 (by decide) (by rw [c_7]; decide) (by decide) ?_
    refine lv_lload_n hx hb dG_apply_96 rfl (lv_at hl 1 rfl) ?_
    refine lv_lload_n hx hb dG_apply_97 rfl (lv_at hl 2 rfl) ?_
    refine lv_lxor hx hb dG_apply_98 ?_
    refine W.widen (k := zk (sh_apply s0 a0 b0)) (n := 6 * zk (sh_apply s0 a0 b0)) (Nat.zero_le _) (Nat.zero_le _) ?_
    exact vx_ret (W.lret (v := a0 ^^^ b0) hx hb hr (fun t ht _ => ⟨_, _, rfl, ⟨a0 ^^^ b0, by simp [sh_apply, c_7], rfl, rfl⟩, by rw [ht]; exact hP, hD, hS.F ht⟩) hS.2.2 dG_apply_99)
  by_cases c_8 : s0 = 124
  · skip
    refine lv_lookup (off := 91) (tgt := 92) hx hb dG_apply_1 (by decide) (by rw [c_8]; decide) (by decide) ?_
    refine lv_lload_n hx hb dG_apply_92 rfl (lv_at hl 1 rfl) ?_
    refine lv_lload_n hx hb dG_apply_93 rfl (lv_at hl 2 rfl) ?_
    refine lv_lor hx hb dG_apply_94 ?_
    refine W.widen (k := zk (sh_apply s0 a0 b0)) (n := 6 * zk (sh_apply s0 a0 b0)) (Nat.zero_le _) (Nat.zero_le _) ?_
    exact vx_ret (W.lret (v := a0 ||| b0) hx hb hr (fun t ht _ => ⟨_, _, rfl, ⟨a0 ||| b0, by simp [sh_apply, c_8], rfl, rfl⟩, by rw [ht]; exact hP, hD, hS.F ht⟩) hS.2.2 dG_apply_95)
  by_cases c_9 : s0 = 15420
  · skip
    refine lv_lookup (off := 103) (tgt := 104) hx hb dG_apply_1 (by decide) (by rw [c_9]; decide) (by decide) ?_
    refine lv_lload_n hx hb dG_apply_104 rfl (lv_at hl 1 rfl) ?_
    refine lv_lload_n hx hb dG_apply_105 rfl (lv_at hl 2 rfl) ?_
    refine lv_ldc2 (v := 63) hx hb hown (htz _ zw_2_85) dG_apply_106 ?_
    refine lv_land hx hb dG_apply_109 ?_
    refine lv_l2i hx hb dG_apply_110 rfl ?_
    refine lv_lshl hx hb dG_apply_111 rfl ?_
    refine W.widen (k := zk (sh_apply s0 a0 b0)) (n := 6 * zk (sh_apply s0 a0 b0)) (Nat.zero_le _) (Nat.zero_le _) ?_
    exact vx_ret (W.lret (v := a0 <<< (((b0 &&& 63).toInt32).toInt64 &&& 63)) hx hb hr (fun t ht _ => ⟨_, _, rfl, ⟨a0 <<< (((b0 &&& 63).toInt32).toInt64 &&& 63), by simp [sh_apply, c_9], rfl, rfl⟩, by rw [ht]; exact hP, hD, hS.F ht⟩) hS.2.2 dG_apply_112)
  by_cases c_10 : s0 = 15934
  · skip
    refine lv_lookup (off := 112) (tgt := 113) hx hb dG_apply_1 (by decide) (by rw [c_10]; decide) (by decide) ?_
    refine lv_lload_n hx hb dG_apply_113 rfl (lv_at hl 1 rfl) ?_
    refine lv_lload_n hx hb dG_apply_114 rfl (lv_at hl 2 rfl) ?_
    refine lv_ldc2 (v := 63) hx hb hown (htz _ zw_2_85) dG_apply_115 ?_
    refine lv_land hx hb dG_apply_118 ?_
    refine lv_l2i hx hb dG_apply_119 rfl ?_
    refine lv_lshr hx hb dG_apply_120 rfl ?_
    refine W.widen (k := zk (sh_apply s0 a0 b0)) (n := 6 * zk (sh_apply s0 a0 b0)) (Nat.zero_le _) (Nat.zero_le _) ?_
    exact vx_ret (W.lret (v := a0 >>> (((b0 &&& 63).toInt32).toInt64 &&& 63)) hx hb hr (fun t ht _ => ⟨_, _, rfl, ⟨a0 >>> (((b0 &&& 63).toInt32).toInt64 &&& 63), by simp [sh_apply, c_10], rfl, rfl⟩, by rw [ht]; exact hP, hD, hS.F ht⟩) hS.2.2 dG_apply_121)
  refine lv_lookup (off := 140) (tgt := 141) hx hb dG_apply_1 (by decide) (by rw [lv_osw c_1 (k := 37) (by decide), lv_osw c_2 (k := 38) (by decide), lv_osw c_3 (k := 42) (by decide), lv_osw c_4 (k := 43) (by decide), lv_osw c_5 (k := 45) (by decide), lv_osw c_6 (k := 47) (by decide), lv_osw c_7 (k := 94) (by decide), lv_osw c_8 (k := 124) (by decide), lv_osw c_9 (k := 15420) (by decide), lv_osw c_10 (k := 15934) (by decide)]; rfl) (by decide) ?_
  refine lv_iload_n hx hb dG_apply_141 rfl (lv_at hl 0 rfl) ?_
  refine lv_lload_n hx hb dG_apply_142 rfl (lv_at hl 1 rfl) ?_
  refine lv_lload_n hx hb dG_apply_143 rfl (lv_at hl 2 rfl) ?_
  refine rq_call (va_runS (As := [.int s0, .long a0, .long b0]) (rest := []) ⟨hx, hb, hml, hown, htz⟩ (k_G_holds l s0 a0 b0) (cwS 3 htz (zg_S zw_2_92 zw_2_93 zw_1_5 zw_2_94) rfl rfl rfl (by decide +kernel) ⟨Nat.le_of_ble_eq_true rfl, Nat.le_of_ble_eq_true rfl⟩) rq_pre rfl rfl hl.1 rfl (lv_room (Nat.le_of_ble_eq_true rfl)) dG_apply_144 ⟨Nat.zero_le _, Nat.zero_le _⟩) ?_
  refine W.eq (g2 := F0 m 147 ls [.int (sh_b (sh_holds s0 a0 b0))]) rfl ?_
  refine lv_if_eq (tgt := 154) hx hb dG_apply_147 (by decide) (fun c_11 => ?_) (fun c_11 => ?_)
  · skip
    refine lv_lconst (v := 0) hx hb dG_apply_154 (by decide) ?_
    refine W.widen (k := zk (sh_apply s0 a0 b0)) (n := 6 * zk (sh_apply s0 a0 b0)) (Nat.zero_le _) (Nat.zero_le _) ?_
    exact vx_ret (W.lret (v := 0) hx hb hr (fun t ht _ => ⟨_, _, rfl, ⟨0, by simp [sh_apply, c_1, c_2, c_3, c_4, c_5, c_6, c_7, c_8, c_9, c_10]; grind [sh_b], rfl, rfl⟩, by rw [ht]; exact hP, hD, hS.F ht⟩) hS.2.2 dG_apply_155)
  refine lv_lconst (v := 1) hx hb dG_apply_150 (by decide) ?_
  refine lv_goto (tgt := 155) hx hb dG_apply_151 (by decide) ?_
  refine W.widen (k := zk (sh_apply s0 a0 b0)) (n := 6 * zk (sh_apply s0 a0 b0)) (Nat.zero_le _) (Nat.zero_le _) ?_
  exact vx_ret (W.lret (v := 1) hx hb hr (fun t ht _ => ⟨_, _, rfl, ⟨1, by simp [sh_apply, c_1, c_2, c_3, c_4, c_5, c_6, c_7, c_8, c_9, c_10]; grind [sh_b], rfl, rfl⟩, by rw [ht]; exact hP, hD, hS.F ht⟩) hS.2.2 dG_apply_155)
set_option maxHeartbeats 4000000 in
set_option maxRecDepth 100000 in
/-- deeper(depth) -/
theorem k_R_deeper (l : Launch) (hl9 : l.stackTraces = false) (dC : Nat → ClassId) (dI : Nat → Nat → Nat) (tys : List (ClassId × FieldType)) (ws : va_W) (sz : Nat) (d0 : Nat) (hd : d0 < 1000) : vx_Met l yR_deeper wsR_deeper ({ frames := 6, cells := zk (if d0 < 40 then some (d0 + 1) else none : Option Nat), slots := 6 * zk (if d0 < 40 then some (d0 + 1) else none : Option Nat), locals := 82 }) (va_Pc [.int (nI d0)] (zV dC dI tys ws sz)) (zQ dC dI (va_A ws sz) (fun v w => d0 < 40 ∧ v = some (.int (nI (d0 + 1))) ∧ w = ws)) (zX dC dI (va_A ws sz) (fun w => ¬ d0 < 40 ∧ w = ws)) (zk (if d0 < 40 then some (d0 + 1) else none : Option Nat)) (6 * zk (if d0 < 40 then some (d0 + 1) else none : Option Nat)) (va_A ws sz) := by
  refine vx_ofW (cc := cR_deeper) (maxL := 1) (ret := (some .int)) (by decide) rfl ?_
  intro p e s m args below meth c s₁ B hml hEx hv
  obtain ⟨rfl, ⟨hsz, hP, hK, hD0, hN⟩, hT, hU⟩ := hv
  subst hsz
  have hD := hD0.self (sz := s.heap.size)
  generalize hAe : va_A ws s.heap.size = A at hD hU ⊢
  have hA : ∀ q : Nat, s.heap.size ≤ q → A q := fun q h => by rw [← hAe]; exact Or.inr h
  have hS : va_S A s.heap s.heap [] := va_S.rf
  have hx := B.exec
  have hb := B.bytes
  have hr := B.returns
  have htz : ∀ w ∈ zw, w.before _ s = true := fun w h => atoms_spec (ws := wsR_deeper) B.pre w (List.mem_cons_of_mem _ h)
  have hown : s.vm.findClass "ShellSum$Reckoner" = some m.cls := findClass_of_methodNamed B.named
  have hlocks := B.notSynchronized
  have hl := lv_entry ([.int (nI d0)]) (n := 1) (Nat.le_of_ble_eq_true rfl)
  rw [lg_entry_eq]
  generalize (lg_sl ([.int (nI d0)]) ++ List.replicate (1 - (lg_sl ([.int (nI d0)])).length) Slot.unset).toArray = ls at hl ⊢
  have hl : lv_has ls 1 [(0, .int (nI d0))] := hl
  refine lv_iload_n hx hb dR_deeper_0 rfl (lv_at hl 0 rfl) ?_
  refine lv_bipush (v := 40) hx hb dR_deeper_1 (by decide) ?_
  refine lv_icmp_lt (tgt := 16) hx hb dR_deeper_3 (by decide) (fun c_1 => ?_) (fun c_1 => ?_)
  · skip
    have e_d : d0 < 40 := xi_lt (b := 40) c_1 (by omega) (by decide)
    refine lv_iload_n hx hb dR_deeper_16 rfl (lv_at hl 0 rfl) ?_
    refine lv_iconst (v := 1) hx hb dR_deeper_17 (by decide) ?_
    refine lv_iadd hx hb dR_deeper_18 ?_
    refine xw_topi (y := nI (d0 + 1)) (nI_1 d0) ?_
    refine W.widen (k := zk (if d0 < 40 then some (d0 + 1) else none : Option Nat)) (n := 6 * zk (if d0 < 40 then some (d0 + 1) else none : Option Nat)) (Nat.zero_le _) (Nat.zero_le _) ?_
    exact vx_ret (W.iret (v := nI (d0 + 1)) hx hb hr (fun t ht _ => ⟨_, _, rfl, ⟨e_d, rfl, rfl⟩, by rw [ht]; exact hP, hD, hS.F ht⟩) hS.2.2 dR_deeper_19)
  have e_d : ¬ d0 < 40 := Nat.not_lt.mpr (xi_nlt (b := 40) c_1 (by omega) (by decide))
  have e_k : zk (if d0 < 40 then some (d0 + 1) else none : Option Nat) = 1 := by rw [if_neg e_d]; rfl
  exact zThrow (own := "ShellSum$Reckoner") (text := "too much stands within one another") (ik := 54) (is := 114) (ic := 116) hx hb hl9 hown (htz _ zw_1_201) (htz _ zw_1_9) (hT _ _ _ zstr_R_114) (zx_R htz hN) zx_oR hU (hl.1.trans hml.symm) dR_deeper_6 dR_deeper_9 dR_deeper_10 dR_deeper_12 dR_deeper_15 hEx hlocks (Nat.le_of_ble_eq_true rfl) (Nat.le_of_ble_eq_true rfl) (by show 0 + 1 ≤ zk (if d0 < 40 then some (d0 + 1) else none : Option Nat); omega) (by show 0 + 6 ≤ 6 * zk (if d0 < 40 then some (d0 + 1) else none : Option Nat); omega) (⟨e_d, rfl⟩) hP hD hS (by omega) (by omega)
