set_option maxHeartbeats 4000000 in
set_option maxRecDepth 100000 in
/-- byteAt(chars, n, i) -/
theorem k_A_byteAt (l : Launch) (x0 : Int64) (n0 i0 : Int32) : Met l yA_byteAt wsA_byteAt ({ frames := 0, cells := 0, slots := 0, locals := 0 }) (va_Pc [.long x0, .int n0, .int i0] (fun _ => True)) (rq_ (some (.int (sh_bA x0 n0 i0)))) 0 0 (fun _ => False) := by
  refine Met.ofW (cc := cA_byteAt) (maxL := 4) (ret := (some .char)) (by decide) rfl ?_
  intro p e s m args below meth c s₁ B hml hv
  obtain ⟨rfl, -⟩ := hv
  have hx := B.exec
  have hb := B.bytes
  have hr := B.returns
  have htz : ∀ w ∈ zw, w.before _ s = true := fun w h => atoms_spec (ws := wsA_byteAt) B.pre w (List.mem_cons_of_mem _ h)
  have hown : s.vm.findClass "ShellSum" = some m.cls := findClass_of_methodNamed B.named
  have hlocks := B.notSynchronized
  have hl := lv_entry ([.long x0, .int n0, .int i0]) (n := 4) (Nat.le_of_ble_eq_true rfl)
  rw [lg_entry_eq]
  generalize (lg_sl ([.long x0, .int n0, .int i0]) ++ List.replicate (4 - (lg_sl ([.long x0, .int n0, .int i0])).length) Slot.unset).toArray = ls at hl ⊢
  have hl : lv_has ls 4 [(0, .long x0), (2, .int n0), (3, .int i0)] := hl
  refine lv_lload_n hx hb dA_byteAt_0 rfl (lv_at hl 0 rfl) ?_
  refine lv_bipush (v := 8) hx hb dA_byteAt_1 (by decide) ?_
  refine lv_iload_n hx hb dA_byteAt_3 rfl (lv_at hl 1 rfl) ?_
  refine lv_iconst (v := 1) hx hb dA_byteAt_4 (by decide) ?_
  refine lv_isub hx hb dA_byteAt_5 ?_
  refine lv_iload_n hx hb dA_byteAt_6 rfl (lv_at hl 2 rfl) ?_
  refine lv_isub hx hb dA_byteAt_7 ?_
  refine lv_imul hx hb dA_byteAt_8 ?_
  refine lv_lushr hx hb dA_byteAt_9 rfl ?_
  refine lv_ldc2 (v := 255) hx hb hown (htz _ zw_1_111) dA_byteAt_10 ?_
  refine lv_land hx hb dA_byteAt_13 ?_
  refine lv_l2i hx hb dA_byteAt_14 rfl ?_
  refine lv_i2c hx hb dA_byteAt_15 rfl ?_
  exact W.zret (v := ((((((x0).toUInt64 >>> ((8 * ((n0 - 1) - i0)).toInt64.toUInt64 &&& Int64.toUInt64 63)).toInt64) &&& 255).toInt32).toUInt32 % 65536).toInt32) hx hb hr (pk_nc _) (fun t ht _ => ⟨by rw [show sh_bA x0 n0 i0 = ((((((x0).toUInt64 >>> ((8 * ((n0 - 1) - i0)).toInt64.toUInt64 &&& Int64.toUInt64 63)).toInt64) &&& 255).toInt32).toUInt32 % 65536).toInt32 from by rfl], ht⟩) t_nil dA_byteAt_16
set_option maxHeartbeats 4000000 in
set_option maxRecDepth 100000 in
/-- byteOf(chars, n, k) -/
theorem k_M_byteOf (l : Launch) (x0 : Int64) (n0 i0 : Int32) : Met l yM_byteOf wsM_byteOf ({ frames := 0, cells := 0, slots := 0, locals := 0 }) (va_Pc [.long x0, .int n0, .int i0] (fun _ => True)) (rq_ (some (.int (sh_bM x0 n0 i0)))) 0 0 (fun _ => False) := by
  refine Met.ofW (cc := cM_byteOf) (maxL := 4) (ret := (some .int)) (by decide) rfl ?_
  intro p e s m args below meth c s₁ B hml hv
  obtain ⟨rfl, -⟩ := hv
  have hx := B.exec
  have hb := B.bytes
  have hr := B.returns
  have htz : ∀ w ∈ zw, w.before _ s = true := fun w h => atoms_spec (ws := wsM_byteOf) B.pre w (List.mem_cons_of_mem _ h)
  have hown : s.vm.findClass "ShellSumModel" = some m.cls := findClass_of_methodNamed B.named
  have hlocks := B.notSynchronized
  have hl := lv_entry ([.long x0, .int n0, .int i0]) (n := 4) (Nat.le_of_ble_eq_true rfl)
  rw [lg_entry_eq]
  generalize (lg_sl ([.long x0, .int n0, .int i0]) ++ List.replicate (4 - (lg_sl ([.long x0, .int n0, .int i0])).length) Slot.unset).toArray = ls at hl ⊢
  have hl : lv_has ls 4 [(0, .long x0), (2, .int n0), (3, .int i0)] := hl
  refine lv_lload_n hx hb dM_byteOf_0 rfl (lv_at hl 0 rfl) ?_
  refine lv_bipush (v := 8) hx hb dM_byteOf_1 (by decide) ?_
  refine lv_iload_n hx hb dM_byteOf_3 rfl (lv_at hl 1 rfl) ?_
  refine lv_iconst (v := 1) hx hb dM_byteOf_4 (by decide) ?_
  refine lv_isub hx hb dM_byteOf_5 ?_
  refine lv_iload_n hx hb dM_byteOf_6 rfl (lv_at hl 2 rfl) ?_
  refine lv_isub hx hb dM_byteOf_7 ?_
  refine lv_imul hx hb dM_byteOf_8 ?_
  refine lv_lshr hx hb dM_byteOf_9 rfl ?_
  refine lv_ldc2 (v := 255) hx hb hown (htz _ zw_3_14) dM_byteOf_10 ?_
  refine lv_land hx hb dM_byteOf_13 ?_
  refine lv_l2i hx hb dM_byteOf_14 rfl ?_
  exact W.iret (v := ((x0 >>> ((8 * ((n0 - 1) - i0)).toInt64 &&& 63)) &&& 255).toInt32) hx hb hr (fun t ht _ => ⟨by rw [show sh_bM x0 n0 i0 = ((x0 >>> ((8 * ((n0 - 1) - i0)).toInt64 &&& 63)) &&& 255).toInt32 from by rfl], ht⟩) t_nil dM_byteOf_15
set_option maxHeartbeats 4000000 in
set_option maxRecDepth 100000 in
/-- isText(c) -/
theorem k_M_isText (l : Launch) (c0 : Int32) : Met l yM_isText wsM_isText ({ frames := 0, cells := 0, slots := 0, locals := 0 }) (va_Pc [.int c0] (fun _ => True)) (rq_ (some (.int (sh_b (sh_ok c0))))) 0 0 (fun _ => False) := by
  refine Met.ofW (cc := cM_isText) (maxL := 1) (ret := (some .boolean)) (by decide) rfl ?_
  intro p e s m args below meth c s₁ B hml hv
  obtain ⟨rfl, -⟩ := hv
  have hx := B.exec
  have hb := B.bytes
  have hr := B.returns
  have htz : ∀ w ∈ zw, w.before _ s = true := fun w h => atoms_spec (ws := wsM_isText) B.pre w (List.mem_cons_of_mem _ h)
  have hown : s.vm.findClass "ShellSumModel" = some m.cls := findClass_of_methodNamed B.named
  have hlocks := B.notSynchronized
  have hl := lv_entry ([.int c0]) (n := 1) (Nat.le_of_ble_eq_true rfl)
  rw [lg_entry_eq]
  generalize (lg_sl ([.int c0]) ++ List.replicate (1 - (lg_sl ([.int c0])).length) Slot.unset).toArray = ls at hl ⊢
  have hl : lv_has ls 1 [(0, .int c0)] := hl
  refine lv_iload_n hx hb dM_isText_0 rfl (lv_at hl 0 rfl) ?_
  refine lv_bipush (v := 9) hx hb dM_isText_1 (by decide) ?_
  refine lv_icmp_eq (tgt := 24) hx hb dM_isText_3 (by decide) (fun c_1 => ?_) (fun c_1 => ?_)
  · skip
    refine lv_iconst (v := 1) hx hb dM_isText_24 (by decide) ?_
    refine lv_goto (tgt := 29) hx hb dM_isText_25 (by decide) ?_
    exact W.zret (v := 1) hx hb hr (rfl) (fun t ht _ => ⟨by rw [show sh_b (sh_ok c0) = 1 from by first | (simp [sh_b, sh_ok, sh_blank, c_1]; done) | grind [sh_b, sh_ok, sh_blank]], ht⟩) t_nil dM_isText_29
  refine lv_iload_n hx hb dM_isText_6 rfl (lv_at hl 0 rfl) ?_
  refine lv_bipush (v := 10) hx hb dM_isText_7 (by decide) ?_
  refine lv_icmp_eq (tgt := 24) hx hb dM_isText_9 (by decide) (fun c_2 => ?_) (fun c_2 => ?_)
  · skip
    refine lv_iconst (v := 1) hx hb dM_isText_24 (by decide) ?_
    refine lv_goto (tgt := 29) hx hb dM_isText_25 (by decide) ?_
    exact W.zret (v := 1) hx hb hr (rfl) (fun t ht _ => ⟨by rw [show sh_b (sh_ok c0) = 1 from by first | (simp [sh_b, sh_ok, sh_blank, c_1, c_2]; done) | grind [sh_b, sh_ok, sh_blank]], ht⟩) t_nil dM_isText_29
  refine lv_iload_n hx hb dM_isText_12 rfl (lv_at hl 0 rfl) ?_
  refine lv_bipush (v := 31) hx hb dM_isText_13 (by decide) ?_
  refine lv_icmp_le (tgt := 28) hx hb dM_isText_15 (by decide) (fun c_3 => ?_) (fun c_3 => ?_)
  · skip
    refine lv_iconst (v := 0) hx hb dM_isText_28 (by decide) ?_
    exact W.zret (v := 0) hx hb hr (rfl) (fun t ht _ => ⟨by rw [show sh_b (sh_ok c0) = 0 from by first | (simp [sh_b, sh_ok, sh_blank, c_1, c_2, c_3]; done) | grind [sh_b, sh_ok, sh_blank]], ht⟩) t_nil dM_isText_29
  refine lv_iload_n hx hb dM_isText_18 rfl (lv_at hl 0 rfl) ?_
  refine lv_bipush (v := 127) hx hb dM_isText_19 (by decide) ?_
  refine lv_icmp_ge (tgt := 28) hx hb dM_isText_21 (by decide) (fun c_4 => ?_) (fun c_4 => ?_)
  · skip
    refine lv_iconst (v := 0) hx hb dM_isText_28 (by decide) ?_
    exact W.zret (v := 0) hx hb hr (rfl) (fun t ht _ => ⟨by rw [show sh_b (sh_ok c0) = 0 from by first | (simp [sh_b, sh_ok, sh_blank, c_1, c_2, c_3, c_4]; done) | grind [sh_b, sh_ok, sh_blank]], ht⟩) t_nil dM_isText_29
  refine lv_iconst (v := 1) hx hb dM_isText_24 (by decide) ?_
  refine lv_goto (tgt := 29) hx hb dM_isText_25 (by decide) ?_
  exact W.zret (v := 1) hx hb hr (rfl) (fun t ht _ => ⟨by rw [show sh_b (sh_ok c0) = 1 from by first | (simp [sh_b, sh_ok, sh_blank, c_1, c_2, c_3, c_4]; done) | grind [sh_b, sh_ok, sh_blank]], ht⟩) t_nil dM_isText_29
set_option maxHeartbeats 4000000 in
set_option maxRecDepth 100000 in
/-- isSettledBy(sign, first) -/
theorem k_G_isSettledBy (l : Launch) (s0 : Int32) (f0 : Int64) : Met l yG_isSettledBy wsG_isSettledBy ({ frames := 0, cells := 0, slots := 0, locals := 0 }) (va_Pc [.int s0, .long f0] (fun _ => True)) (rq_ (some (.int (sh_b (sh_settled s0 f0))))) 0 0 (fun _ => False) := by
  refine Met.ofW (cc := cG_isSettledBy) (maxL := 3) (ret := (some .boolean)) (by decide) rfl ?_
  intro p e s m args below meth c s₁ B hml hv
  obtain ⟨rfl, -⟩ := hv
  have hx := B.exec
  have hb := B.bytes
  have hr := B.returns
  have htz : ∀ w ∈ zw, w.before _ s = true := fun w h => atoms_spec (ws := wsG_isSettledBy) B.pre w (List.mem_cons_of_mem _ h)
  have hown : s.vm.findClass "ShellSum$Signs" = some m.cls := findClass_of_methodNamed B.named
  have hlocks := B.notSynchronized
  have hl := lv_entry ([.int s0, .long f0]) (n := 3) (Nat.le_of_ble_eq_true rfl)
  rw [lg_entry_eq]
  generalize (lg_sl ([.int s0, .long f0]) ++ List.replicate (3 - (lg_sl ([.int s0, .long f0])).length) Slot.unset).toArray = ls at hl ⊢
  have hl : lv_has ls 3 [(0, .int s0), (1, .long f0)] := hl
  refine lv_iload_n hx hb dG_isSettledBy_0 rfl (lv_at hl 0 rfl) ?_
  refine lv_sipush (v := 31868) hx hb dG_isSettledBy_1 (by decide) ?_
  refine lv_icmp_ne (tgt := 13) hx hb dG_isSettledBy_4 (by decide) (fun c_1 => ?_) (fun c_1 => ?_)
  · skip
    refine lv_iload_n hx hb dG_isSettledBy_13 rfl (lv_at hl 0 rfl) ?_
    refine lv_sipush (v := 9766) hx hb dG_isSettledBy_14 (by decide) ?_
    refine lv_icmp_ne (tgt := 30) hx hb dG_isSettledBy_17 (by decide) (fun c_2 => ?_) (fun c_2 => ?_)
    · skip
      refine lv_iconst (v := 0) hx hb dG_isSettledBy_30 (by decide) ?_
      exact W.zret (v := 0) hx hb hr (rfl) (fun t ht _ => ⟨by rw [show sh_b (sh_settled s0 f0) = 0 from by first | (simp [sh_b, sh_settled, c_1, c_2]; done) | grind [sh_b, sh_settled]], ht⟩) t_nil dG_isSettledBy_31
    refine lv_lload_n hx hb dG_isSettledBy_20 rfl (lv_at hl 1 rfl) ?_
    refine lv_lconst (v := 0) hx hb dG_isSettledBy_21 (by decide) ?_
    refine W.lcmp hx hb dG_isSettledBy_22 ?_
    refine lv_if_ne (tgt := 30) hx hb dG_isSettledBy_23 (by decide) (fun c_3 => ?_) (fun c_3 => ?_)
    · skip
      rw [lg_cmp_eq] at c_3
      refine lv_iconst (v := 0) hx hb dG_isSettledBy_30 (by decide) ?_
      exact W.zret (v := 0) hx hb hr (rfl) (fun t ht _ => ⟨by rw [show sh_b (sh_settled s0 f0) = 0 from by first | (simp [sh_b, sh_settled, c_1, c_2, c_3]; done) | grind [sh_b, sh_settled]], ht⟩) t_nil dG_isSettledBy_31
    rw [lg_cmp_eq] at c_3
    refine lv_iconst (v := 1) hx hb dG_isSettledBy_26 (by decide) ?_
    refine lv_goto (tgt := 31) hx hb dG_isSettledBy_27 (by decide) ?_
    exact W.zret (v := 1) hx hb hr (rfl) (fun t ht _ => ⟨by rw [show sh_b (sh_settled s0 f0) = 1 from by first | (simp [sh_b, sh_settled, c_1, c_2, c_3]; done) | grind [sh_b, sh_settled]], ht⟩) t_nil dG_isSettledBy_31
  refine lv_lload_n hx hb dG_isSettledBy_7 rfl (lv_at hl 1 rfl) ?_
  refine lv_lconst (v := 0) hx hb dG_isSettledBy_8 (by decide) ?_
  refine W.lcmp hx hb dG_isSettledBy_9 ?_
  refine lv_if_ne (tgt := 26) hx hb dG_isSettledBy_10 (by decide) (fun c_4 => ?_) (fun c_4 => ?_)
  · skip
    rw [lg_cmp_eq] at c_4
    refine lv_iconst (v := 1) hx hb dG_isSettledBy_26 (by decide) ?_
    refine lv_goto (tgt := 31) hx hb dG_isSettledBy_27 (by decide) ?_
    exact W.zret (v := 1) hx hb hr (rfl) (fun t ht _ => ⟨by rw [show sh_b (sh_settled s0 f0) = 1 from by first | (simp [sh_b, sh_settled, c_1, c_4]; done) | grind [sh_b, sh_settled]], ht⟩) t_nil dG_isSettledBy_31
  rw [lg_cmp_eq] at c_4
  refine lv_iload_n hx hb dG_isSettledBy_13 rfl (lv_at hl 0 rfl) ?_
  refine lv_sipush (v := 9766) hx hb dG_isSettledBy_14 (by decide) ?_
  refine lv_icmp_ne (tgt := 30) hx hb dG_isSettledBy_17 (by decide) (fun c_5 => ?_) (fun c_5 => ?_)
  · skip
    refine lv_iconst (v := 0) hx hb dG_isSettledBy_30 (by decide) ?_
    exact W.zret (v := 0) hx hb hr (rfl) (fun t ht _ => ⟨by rw [show sh_b (sh_settled s0 f0) = 0 from by first | (simp [sh_b, sh_settled, c_1, c_4, c_5]; done) | grind [sh_b, sh_settled]], ht⟩) t_nil dG_isSettledBy_31
  refine lv_lload_n hx hb dG_isSettledBy_20 rfl (lv_at hl 1 rfl) ?_
  refine lv_lconst (v := 0) hx hb dG_isSettledBy_21 (by decide) ?_
  refine W.lcmp hx hb dG_isSettledBy_22 ?_
  refine lv_if_ne (tgt := 30) hx hb dG_isSettledBy_23 (by decide) (fun c_6 => ?_) (fun c_6 => ?_)
  · skip
    rw [lg_cmp_eq] at c_6
    refine lv_iconst (v := 0) hx hb dG_isSettledBy_30 (by decide) ?_
    exact W.zret (v := 0) hx hb hr (rfl) (fun t ht _ => ⟨by rw [show sh_b (sh_settled s0 f0) = 0 from by first | (simp [sh_b, sh_settled, c_1, c_4, c_5, c_6]; done) | grind [sh_b, sh_settled]], ht⟩) t_nil dG_isSettledBy_31
  rw [lg_cmp_eq] at c_6
  refine lv_iconst (v := 1) hx hb dG_isSettledBy_26 (by decide) ?_
  refine lv_goto (tgt := 31) hx hb dG_isSettledBy_27 (by decide) ?_
  exact W.zret (v := 1) hx hb hr (rfl) (fun t ht _ => ⟨by rw [show sh_b (sh_settled s0 f0) = 1 from by first | (simp [sh_b, sh_settled, c_1, c_4, c_5, c_6]; done) | grind [sh_b, sh_settled]], ht⟩) t_nil dG_isSettledBy_31
set_option maxHeartbeats 4000000 in
set_option maxRecDepth 100000 in
/-- holds(sign, a, b) -/
theorem k_G_holds (l : Launch) (s0 : Int32) (a0 b0 : Int64) : Met l yG_holds wsG_holds ({ frames := 0, cells := 0, slots := 0, locals := 0 }) (va_Pc [.int s0, .long a0, .long b0] (fun _ => True)) (rq_ (some (.int (sh_b (sh_holds s0 a0 b0))))) 0 0 (fun _ => False) := by
  refine Met.ofW (cc := cG_holds) (maxL := 5) (ret := (some .boolean)) (by decide) rfl ?_
  intro p e s m args below meth c s₁ B hml hv
  obtain ⟨rfl, -⟩ := hv
  have hx := B.exec
  have hb := B.bytes
  have hr := B.returns
  have htz : ∀ w ∈ zw, w.before _ s = true := fun w h => atoms_spec (ws := wsG_holds) B.pre w (List.mem_cons_of_mem _ h)
  have hown : s.vm.findClass "ShellSum$Signs" = some m.cls := findClass_of_methodNamed B.named
  have hlocks := B.notSynchronized
  have hl := lv_entry ([.int s0, .long a0, .long b0]) (n := 5) (Nat.le_of_ble_eq_true rfl)
  rw [lg_entry_eq]
  generalize (lg_sl ([.int s0, .long a0, .long b0]) ++ List.replicate (5 - (lg_sl ([.int s0, .long a0, .long b0])).length) Slot.unset).toArray = ls at hl ⊢
  have hl : lv_has ls 5 [(0, .int s0), (1, .long a0), (3, .long b0)] := hl
  refine lv_iload_n hx hb dG_holds_0 rfl (lv_at hl 0 rfl) ?_
  by_cases c_1 : s0 = 60
  · skip
    refine lv_lookup (off := 135) (tgt := 136) hx hb dG_holds_1 (by decide) (by rw [c_1]; decide) (by decide) ?_
    refine lv_lload_n hx hb dG_holds_136 rfl (lv_at hl 1 rfl) ?_
    refine lv_lload_n hx hb dG_holds_137 rfl (lv_at hl 2 rfl) ?_
    refine W.lcmp hx hb dG_holds_138 ?_
    refine lv_if_ge (tgt := 146) hx hb dG_holds_139 (by decide) (fun c_2 => ?_) (fun c_2 => ?_)
    · skip
      rw [lg_cmp_ge] at c_2
      refine lv_iconst (v := 0) hx hb dG_holds_146 (by decide) ?_
      exact W.zret (v := 0) hx hb hr (rfl) (fun t ht _ => ⟨by rw [show sh_b (sh_holds s0 a0 b0) = 0 from by first | (simp [sh_b, sh_holds, c_1, c_2]; done) | grind [sh_b, sh_holds]], ht⟩) t_nil dG_holds_147
    rw [lg_cmp_ge] at c_2
    refine lv_iconst (v := 1) hx hb dG_holds_142 (by decide) ?_
    refine lv_goto (tgt := 147) hx hb dG_holds_143 (by decide) ?_
    exact W.zret (v := 1) hx hb hr (rfl) (fun t ht _ => ⟨by rw [show sh_b (sh_holds s0 a0 b0) = 1 from by first | (simp [sh_b, sh_holds, c_1, c_2]; done) | grind [sh_b, sh_holds]], ht⟩) t_nil dG_holds_147
  by_cases c_3 : s0 = 62
  · skip
    refine lv_lookup (off := 147) (tgt := 148) hx hb dG_holds_1 (by decide) (by rw [c_3]; decide) (by decide) ?_
    refine lv_lload_n hx hb dG_holds_148 rfl (lv_at hl 1 rfl) ?_
    refine lv_lload_n hx hb dG_holds_149 rfl (lv_at hl 2 rfl) ?_
    refine W.lcmp hx hb dG_holds_150 ?_
    refine lv_if_le (tgt := 158) hx hb dG_holds_151 (by decide) (fun c_4 => ?_) (fun c_4 => ?_)
    · skip
      rw [lg_cmp_le] at c_4
      refine lv_iconst (v := 0) hx hb dG_holds_158 (by decide) ?_
      exact W.zret (v := 0) hx hb hr (rfl) (fun t ht _ => ⟨by rw [show sh_b (sh_holds s0 a0 b0) = 0 from by first | (simp [sh_b, sh_holds, c_3, c_4]; done) | grind [sh_b, sh_holds]], ht⟩) t_nil dG_holds_159
    rw [lg_cmp_le] at c_4
    refine lv_iconst (v := 1) hx hb dG_holds_154 (by decide) ?_
    refine lv_goto (tgt := 159) hx hb dG_holds_155 (by decide) ?_
    exact W.zret (v := 1) hx hb hr (rfl) (fun t ht _ => ⟨by rw [show sh_b (sh_holds s0 a0 b0) = 1 from by first | (simp [sh_b, sh_holds, c_3, c_4]; done) | grind [sh_b, sh_holds]], ht⟩) t_nil dG_holds_159
  by_cases c_5 : s0 = 8509
  · skip
    refine lv_lookup (off := 123) (tgt := 124) hx hb dG_holds_1 (by decide) (by rw [c_5]; decide) (by decide) ?_
    refine lv_lload_n hx hb dG_holds_124 rfl (lv_at hl 1 rfl) ?_
    refine lv_lload_n hx hb dG_holds_125 rfl (lv_at hl 2 rfl) ?_
    refine W.lcmp hx hb dG_holds_126 ?_
    refine lv_if_eq (tgt := 134) hx hb dG_holds_127 (by decide) (fun c_6 => ?_) (fun c_6 => ?_)
    · skip
      rw [lg_cmp_eq] at c_6
      refine lv_iconst (v := 0) hx hb dG_holds_134 (by decide) ?_
      exact W.zret (v := 0) hx hb hr (rfl) (fun t ht _ => ⟨by rw [show sh_b (sh_holds s0 a0 b0) = 0 from by first | (simp [sh_b, sh_holds, c_5, c_6]; done) | grind [sh_b, sh_holds]], ht⟩) t_nil dG_holds_135
    rw [lg_cmp_eq] at c_6
    refine lv_iconst (v := 1) hx hb dG_holds_130 (by decide) ?_
    refine lv_goto (tgt := 135) hx hb dG_holds_131 (by decide) ?_
    exact W.zret (v := 1) hx hb hr (rfl) (fun t ht _ => ⟨by rw [show sh_b (sh_holds s0 a0 b0) = 1 from by first | (simp [sh_b, sh_holds, c_5, c_6]; done) | grind [sh_b, sh_holds]], ht⟩) t_nil dG_holds_135
  by_cases c_7 : s0 = 9766
  · skip
    refine lv_lookup (off := 93) (tgt := 94) hx hb dG_holds_1 (by decide) (by rw [c_7]; decide) (by decide) ?_
    refine lv_lload_n hx hb dG_holds_94 rfl (lv_at hl 1 rfl) ?_
    refine lv_lconst (v := 0) hx hb dG_holds_95 (by decide) ?_
    refine W.lcmp hx hb dG_holds_96 ?_
    refine lv_if_eq (tgt := 110) hx hb dG_holds_97 (by decide) (fun c_8 => ?_) (fun c_8 => ?_)
    · skip
      rw [lg_cmp_eq] at c_8
      refine lv_iconst (v := 0) hx hb dG_holds_110 (by decide) ?_
      exact W.zret (v := 0) hx hb hr (rfl) (fun t ht _ => ⟨by rw [show sh_b (sh_holds s0 a0 b0) = 0 from by first | (simp [sh_b, sh_holds, c_7, c_8]; done) | grind [sh_b, sh_holds]], ht⟩) t_nil dG_holds_111
    rw [lg_cmp_eq] at c_8
    refine lv_lload_n hx hb dG_holds_100 rfl (lv_at hl 2 rfl) ?_
    refine lv_lconst (v := 0) hx hb dG_holds_101 (by decide) ?_
    refine W.lcmp hx hb dG_holds_102 ?_
    refine lv_if_eq (tgt := 110) hx hb dG_holds_103 (by decide) (fun c_9 => ?_) (fun c_9 => ?_)
    · skip
      rw [lg_cmp_eq] at c_9
      refine lv_iconst (v := 0) hx hb dG_holds_110 (by decide) ?_
      exact W.zret (v := 0) hx hb hr (rfl) (fun t ht _ => ⟨by rw [show sh_b (sh_holds s0 a0 b0) = 0 from by first | (simp [sh_b, sh_holds, c_7, c_8, c_9]; done) | grind [sh_b, sh_holds]], ht⟩) t_nil dG_holds_111
    rw [lg_cmp_eq] at c_9
    refine lv_iconst (v := 1) hx hb dG_holds_106 (by decide) ?_
    refine lv_goto (tgt := 111) hx hb dG_holds_107 (by decide) ?_
    exact W.zret (v := 1) hx hb hr (rfl) (fun t ht _ => ⟨by rw [show sh_b (sh_holds s0 a0 b0) = 1 from by first | (simp [sh_b, sh_holds, c_7, c_8, c_9]; done) | grind [sh_b, sh_holds]], ht⟩) t_nil dG_holds_111
  by_cases c_10 : s0 = 15421
  · skip
    refine lv_lookup (off := 159) (tgt := 160) hx hb dG_holds_1 (by decide) (by rw [c_10]; decide) (by decide) ?_
    refine lv_lload_n hx hb dG_holds_160 rfl (lv_at hl 1 rfl) ?_
    refine lv_lload_n hx hb dG_holds_161 rfl (lv_at hl 2 rfl) ?_
    refine W.lcmp hx hb dG_holds_162 ?_
    refine lv_if_gt (tgt := 170) hx hb dG_holds_163 (by decide) (fun c_11 => ?_) (fun c_11 => ?_)
    · skip
      rw [lg_cmp_gt] at c_11
      refine lv_iconst (v := 0) hx hb dG_holds_170 (by decide) ?_
      exact W.zret (v := 0) hx hb hr (rfl) (fun t ht _ => ⟨by rw [show sh_b (sh_holds s0 a0 b0) = 0 from by first | (simp [sh_b, sh_holds, c_10, c_11]; done) | grind [sh_b, sh_holds]], ht⟩) t_nil dG_holds_171
    rw [lg_cmp_gt] at c_11
    refine lv_iconst (v := 1) hx hb dG_holds_166 (by decide) ?_
    refine lv_goto (tgt := 171) hx hb dG_holds_167 (by decide) ?_
    exact W.zret (v := 1) hx hb hr (rfl) (fun t ht _ => ⟨by rw [show sh_b (sh_holds s0 a0 b0) = 1 from by first | (simp [sh_b, sh_holds, c_10, c_11]; done) | grind [sh_b, sh_holds]], ht⟩) t_nil dG_holds_171
  by_cases c_12 : s0 = 15677
  · skip
    refine lv_lookup (off := 111) (tgt := 112) hx hb dG_holds_1 (by decide) (by rw [c_12]; decide) (by decide) ?_
    refine lv_lload_n hx hb dG_holds_112 rfl (lv_at hl 1 rfl) ?_
    refine lv_lload_n hx hb dG_holds_113 rfl (lv_at hl 2 rfl) ?_
    refine W.lcmp hx hb dG_holds_114 ?_
    refine lv_if_ne (tgt := 122) hx hb dG_holds_115 (by decide) (fun c_13 => ?_) (fun c_13 => ?_)
    · skip
      rw [lg_cmp_eq] at c_13
      refine lv_iconst (v := 0) hx hb dG_holds_122 (by decide) ?_
      exact W.zret (v := 0) hx hb hr (rfl) (fun t ht _ => ⟨by rw [show sh_b (sh_holds s0 a0 b0) = 0 from by first | (simp [sh_b, sh_holds, c_12, c_13]; done) | grind [sh_b, sh_holds]], ht⟩) t_nil dG_holds_123
    rw [lg_cmp_eq] at c_13
    refine lv_iconst (v := 1) hx hb dG_holds_118 (by decide) ?_
    refine lv_goto (tgt := 123) hx hb dG_holds_119 (by decide) ?_
    exact W.zret (v := 1) hx hb hr (rfl) (fun t ht _ => ⟨by rw [show sh_b (sh_holds s0 a0 b0) = 1 from by first | (simp [sh_b, sh_holds, c_12, c_13]; done) | grind [sh_b, sh_holds]], ht⟩) t_nil dG_holds_123
  by_cases c_14 : s0 = 15933
  · skip
    refine lv_lookup (off := 171) (tgt := 172) hx hb dG_holds_1 (by decide) (by rw [c_14]; decide) (by decide) ?_
    refine lv_lload_n hx hb dG_holds_172 rfl (lv_at hl 1 rfl) ?_
    refine lv_lload_n hx hb dG_holds_173 rfl (lv_at hl 2 rfl) ?_
    refine W.lcmp hx hb dG_holds_174 ?_
    refine lv_if_lt (tgt := 182) hx hb dG_holds_175 (by decide) (fun c_15 => ?_) (fun c_15 => ?_)
    · skip
      rw [lg_cmp_lt] at c_15
      refine lv_iconst (v := 0) hx hb dG_holds_182 (by decide) ?_
      exact W.zret (v := 0) hx hb hr (rfl) (fun t ht _ => ⟨by rw [show sh_b (sh_holds s0 a0 b0) = 0 from by first | (simp [sh_b, sh_holds, c_14, c_15]; done) | grind [sh_b, sh_holds]], ht⟩) t_nil dG_holds_183
    rw [lg_cmp_lt] at c_15
    refine lv_iconst (v := 1) hx hb dG_holds_178 (by decide) ?_
    refine lv_goto (tgt := 183) hx hb dG_holds_179 (by decide) ?_
    exact W.zret (v := 1) hx hb hr (rfl) (fun t ht _ => ⟨by rw [show sh_b (sh_holds s0 a0 b0) = 1 from by first | (simp [sh_b, sh_holds, c_14, c_15]; done) | grind [sh_b, sh_holds]], ht⟩) t_nil dG_holds_183
  by_cases c_16 : s0 = 31868
  · skip
    refine lv_lookup (off := 75) (tgt := 76) hx hb dG_holds_1 (by decide) (by rw [c_16]; decide) (by decide) ?_
    refine lv_lload_n hx hb dG_holds_76 rfl (lv_at hl 1 rfl) ?_
    refine lv_lconst (v := 0) hx hb dG_holds_77 (by decide) ?_
    refine W.lcmp hx hb dG_holds_78 ?_
    refine lv_if_ne (tgt := 88) hx hb dG_holds_79 (by decide) (fun c_17 => ?_) (fun c_17 => ?_)
    · skip
      rw [lg_cmp_eq] at c_17
      refine lv_iconst (v := 1) hx hb dG_holds_88 (by decide) ?_
      refine lv_goto (tgt := 93) hx hb dG_holds_89 (by decide) ?_
      exact W.zret (v := 1) hx hb hr (rfl) (fun t ht _ => ⟨by rw [show sh_b (sh_holds s0 a0 b0) = 1 from by first | (simp [sh_b, sh_holds, c_16, c_17]; done) | grind [sh_b, sh_holds]], ht⟩) t_nil dG_holds_93
    rw [lg_cmp_eq] at c_17
    refine lv_lload_n hx hb dG_holds_82 rfl (lv_at hl 2 rfl) ?_
    refine lv_lconst (v := 0) hx hb dG_holds_83 (by decide) ?_
    refine W.lcmp hx hb dG_holds_84 ?_
    refine lv_if_eq (tgt := 92) hx hb dG_holds_85 (by decide) (fun c_18 => ?_) (fun c_18 => ?_)
    · skip
      rw [lg_cmp_eq] at c_18
      refine lv_iconst (v := 0) hx hb dG_holds_92 (by decide) ?_
      exact W.zret (v := 0) hx hb hr (rfl) (fun t ht _ => ⟨by rw [show sh_b (sh_holds s0 a0 b0) = 0 from by first | (simp [sh_b, sh_holds, c_16, c_17, c_18]; done) | grind [sh_b, sh_holds]], ht⟩) t_nil dG_holds_93
    rw [lg_cmp_eq] at c_18
    refine lv_iconst (v := 1) hx hb dG_holds_88 (by decide) ?_
    refine lv_goto (tgt := 93) hx hb dG_holds_89 (by decide) ?_
    exact W.zret (v := 1) hx hb hr (rfl) (fun t ht _ => ⟨by rw [show sh_b (sh_holds s0 a0 b0) = 1 from by first | (simp [sh_b, sh_holds, c_16, c_17, c_18]; done) | grind [sh_b, sh_holds]], ht⟩) t_nil dG_holds_93
  refine lv_lookup (off := 183) (tgt := 184) hx hb dG_holds_1 (by decide) (by rw [lv_osw c_1 (k := 60) (by decide), lv_osw c_3 (k := 62) (by decide), lv_osw c_5 (k := 8509) (by decide), lv_osw c_7 (k := 9766) (by decide), lv_osw c_10 (k := 15421) (by decide), lv_osw c_12 (k := 15677) (by decide), lv_osw c_14 (k := 15933) (by decide), lv_osw c_16 (k := 31868) (by decide)]; rfl) (by decide) ?_
  refine lv_iconst (v := 0) hx hb dG_holds_184 (by decide) ?_
  exact W.zret (v := 0) hx hb hr (rfl) (fun t ht _ => ⟨by rw [show sh_b (sh_holds s0 a0 b0) = 0 from by first | (simp [sh_b, sh_holds, c_1, c_3, c_5, c_7, c_10, c_12, c_14, c_16]; done) | grind [sh_b, sh_holds]], ht⟩) t_nil dG_holds_185
set_option maxHeartbeats 4000000 in
set_option maxRecDepth 100000 in
/-- digitOf(c) -/
theorem k_M_digitOf (l : Launch) (c0 : Int32) : Met l yM_digitOf wsM_digitOf ({ frames := 1, cells := 0, slots := 0, locals := 20 }) (va_Pc [.int c0] (fun _ => True)) (rq_ (some (.int (sh_digM c0)))) 0 0 (fun _ => False) := by
  refine Met.ofW (cc := cM_digitOf) (maxL := 1) (ret := (some .int)) (by decide) rfl ?_
  intro p e s m args below meth c s₁ B hml hv
  obtain ⟨rfl, -⟩ := hv
  have hx := B.exec
  have hb := B.bytes
  have hr := B.returns
  have htz : ∀ w ∈ zw, w.before _ s = true := fun w h => atoms_spec (ws := wsM_digitOf) B.pre w (List.mem_cons_of_mem _ h)
  have hown : s.vm.findClass "ShellSumModel" = some m.cls := findClass_of_methodNamed B.named
  have hlocks := B.notSynchronized
  have hl := lv_entry ([.int c0]) (n := 1) (Nat.le_of_ble_eq_true rfl)
  rw [lg_entry_eq]
  generalize (lg_sl ([.int c0]) ++ List.replicate (1 - (lg_sl ([.int c0])).length) Slot.unset).toArray = ls at hl ⊢
  have hl : lv_has ls 1 [(0, .int c0)] := hl
  refine lv_iload_n hx hb dM_digitOf_0 rfl (lv_at hl 0 rfl) ?_
  refine rq_call (va_runS (As := [.int c0]) (rest := []) ⟨hx, hb, hml, hown, htz⟩ (k_M_isDigit l c0) (cwS 1 htz (zg_S zw_3_25 zw_3_26 zw_1_4 zw_3_27) rfl rfl rfl (by decide +kernel) ⟨Nat.le_of_ble_eq_true rfl, Nat.le_of_ble_eq_true rfl⟩) rq_pre rfl rfl hl.1 rfl (lv_room (Nat.le_of_ble_eq_true rfl)) dM_digitOf_1 ⟨Nat.zero_le _, Nat.zero_le _⟩) ?_
  refine W.eq (g2 := F0 m 4 ls [.int (sh_b (sh_digit c0))]) rfl ?_
  refine lv_if_eq (tgt := 14) hx hb dM_digitOf_4 (by decide) (fun c_1 => ?_) (fun c_1 => ?_)
  · skip
    refine lv_iload_n hx hb dM_digitOf_14 rfl (lv_at hl 0 rfl) ?_
    refine lv_bipush (v := 97) hx hb dM_digitOf_15 (by decide) ?_
    refine lv_icmp_lt (tgt := 36) hx hb dM_digitOf_17 (by decide) (fun c_2 => ?_) (fun c_2 => ?_)
    · skip
      refine lv_iload_n hx hb dM_digitOf_36 rfl (lv_at hl 0 rfl) ?_
      refine lv_bipush (v := 65) hx hb dM_digitOf_37 (by decide) ?_
      refine lv_icmp_lt (tgt := 58) hx hb dM_digitOf_39 (by decide) (fun c_3 => ?_) (fun c_3 => ?_)
      · skip
        refine lv_bipush (v := 99) hx hb dM_digitOf_58 (by decide) ?_
        exact W.iret (v := 99) hx hb hr (fun t ht _ => ⟨by rw [show sh_digM c0 = 99 from by first | (simp [sh_b, sh_digM, sh_digit, c_1, c_2, c_3]; done) | grind [sh_b, sh_digM, sh_digit]], ht⟩) t_nil dM_digitOf_60
      refine lv_iload_n hx hb dM_digitOf_42 rfl (lv_at hl 0 rfl) ?_
      refine lv_bipush (v := 70) hx hb dM_digitOf_43 (by decide) ?_
      refine lv_icmp_gt (tgt := 58) hx hb dM_digitOf_45 (by decide) (fun c_4 => ?_) (fun c_4 => ?_)
      · skip
        refine lv_bipush (v := 99) hx hb dM_digitOf_58 (by decide) ?_
        exact W.iret (v := 99) hx hb hr (fun t ht _ => ⟨by rw [show sh_digM c0 = 99 from by first | (simp [sh_b, sh_digM, sh_digit, c_1, c_2, c_3, c_4]; done) | grind [sh_b, sh_digM, sh_digit]], ht⟩) t_nil dM_digitOf_60
      refine lv_iload_n hx hb dM_digitOf_48 rfl (lv_at hl 0 rfl) ?_
      refine lv_bipush (v := 65) hx hb dM_digitOf_49 (by decide) ?_
      refine lv_isub hx hb dM_digitOf_51 ?_
      refine lv_bipush (v := 10) hx hb dM_digitOf_52 (by decide) ?_
      refine lv_iadd hx hb dM_digitOf_54 ?_
      refine lv_goto (tgt := 60) hx hb dM_digitOf_55 (by decide) ?_
      exact W.iret (v := (c0 - 65) + 10) hx hb hr (fun t ht _ => ⟨by rw [show sh_digM c0 = (c0 - 65) + 10 from by first | (simp [sh_b, sh_digM, sh_digit, c_1, c_2, c_3, c_4]; done) | grind [sh_b, sh_digM, sh_digit]], ht⟩) t_nil dM_digitOf_60
    refine lv_iload_n hx hb dM_digitOf_20 rfl (lv_at hl 0 rfl) ?_
    refine lv_bipush (v := 102) hx hb dM_digitOf_21 (by decide) ?_
    refine lv_icmp_gt (tgt := 36) hx hb dM_digitOf_23 (by decide) (fun c_5 => ?_) (fun c_5 => ?_)
    · skip
      refine lv_iload_n hx hb dM_digitOf_36 rfl (lv_at hl 0 rfl) ?_
      refine lv_bipush (v := 65) hx hb dM_digitOf_37 (by decide) ?_
      refine lv_icmp_lt (tgt := 58) hx hb dM_digitOf_39 (by decide) (fun c_6 => ?_) (fun c_6 => ?_)
      · skip
        refine lv_bipush (v := 99) hx hb dM_digitOf_58 (by decide) ?_
        exact W.iret (v := 99) hx hb hr (fun t ht _ => ⟨by rw [show sh_digM c0 = 99 from by first | (simp [sh_b, sh_digM, sh_digit, c_1, c_2, c_5, c_6]; done) | grind [sh_b, sh_digM, sh_digit]], ht⟩) t_nil dM_digitOf_60
      refine lv_iload_n hx hb dM_digitOf_42 rfl (lv_at hl 0 rfl) ?_
      refine lv_bipush (v := 70) hx hb dM_digitOf_43 (by decide) ?_
      refine lv_icmp_gt (tgt := 58) hx hb dM_digitOf_45 (by decide) (fun c_7 => ?_) (fun c_7 => ?_)
      · skip
        refine lv_bipush (v := 99) hx hb dM_digitOf_58 (by decide) ?_
        exact W.iret (v := 99) hx hb hr (fun t ht _ => ⟨by rw [show sh_digM c0 = 99 from by first | (simp [sh_b, sh_digM, sh_digit, c_1, c_2, c_5, c_6, c_7]; done) | grind [sh_b, sh_digM, sh_digit]], ht⟩) t_nil dM_digitOf_60
      refine lv_iload_n hx hb dM_digitOf_48 rfl (lv_at hl 0 rfl) ?_
      refine lv_bipush (v := 65) hx hb dM_digitOf_49 (by decide) ?_
      refine lv_isub hx hb dM_digitOf_51 ?_
      refine lv_bipush (v := 10) hx hb dM_digitOf_52 (by decide) ?_
      refine lv_iadd hx hb dM_digitOf_54 ?_
      refine lv_goto (tgt := 60) hx hb dM_digitOf_55 (by decide) ?_
      exact W.iret (v := (c0 - 65) + 10) hx hb hr (fun t ht _ => ⟨by rw [show sh_digM c0 = (c0 - 65) + 10 from by first | (simp [sh_b, sh_digM, sh_digit, c_1, c_2, c_5, c_6, c_7]; done) | grind [sh_b, sh_digM, sh_digit]], ht⟩) t_nil dM_digitOf_60
    refine lv_iload_n hx hb dM_digitOf_26 rfl (lv_at hl 0 rfl) ?_
    refine lv_bipush (v := 97) hx hb dM_digitOf_27 (by decide) ?_
    refine lv_isub hx hb dM_digitOf_29 ?_
    refine lv_bipush (v := 10) hx hb dM_digitOf_30 (by decide) ?_
    refine lv_iadd hx hb dM_digitOf_32 ?_
    refine lv_goto (tgt := 60) hx hb dM_digitOf_33 (by decide) ?_
    exact W.iret (v := (c0 - 97) + 10) hx hb hr (fun t ht _ => ⟨by rw [show sh_digM c0 = (c0 - 97) + 10 from by first | (simp [sh_b, sh_digM, sh_digit, c_1, c_2, c_5]; done) | grind [sh_b, sh_digM, sh_digit]], ht⟩) t_nil dM_digitOf_60
  refine lv_iload_n hx hb dM_digitOf_7 rfl (lv_at hl 0 rfl) ?_
  refine lv_bipush (v := 48) hx hb dM_digitOf_8 (by decide) ?_
  refine lv_isub hx hb dM_digitOf_10 ?_
  refine lv_goto (tgt := 60) hx hb dM_digitOf_11 (by decide) ?_
  exact W.iret (v := c0 - 48) hx hb hr (fun t ht _ => ⟨by rw [show sh_digM c0 = c0 - 48 from by first | (simp [sh_b, sh_digM, sh_digit, c_1]; done) | grind [sh_b, sh_digM, sh_digit]], ht⟩) t_nil dM_digitOf_60
