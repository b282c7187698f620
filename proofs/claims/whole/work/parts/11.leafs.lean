set_option maxHeartbeats 4000000 in
set_option maxRecDepth 100000 in
/-- isBlank(c) -/
theorem k_A_isBlank (l : Launch) (c0 : Int32) : Met l yA_isBlank wsA_isBlank ({ frames := 0, cells := 0, slots := 0, locals := 0 }) (va_Pc [.int c0] (fun _ => True)) (rq_ (some (.int (sh_b (sh_blank c0))))) 0 0 (fun _ => False) := by
  refine Met.ofW (cc := cA_isBlank) (maxL := 1) (ret := (some .boolean)) (by decide) rfl ?_
  intro p e s m args below meth c s₁ B hml hv
  obtain ⟨rfl, -⟩ := hv
  have hx := B.exec
  have hb := B.bytes
  have hr := B.returns
  have htz : ∀ w ∈ zw, w.before _ s = true := fun w h => atoms_spec (ws := wsA_isBlank) B.pre w (List.mem_cons_of_mem _ h)
  have hown : s.vm.findClass "ShellSum" = some m.cls := findClass_of_methodNamed B.named
  have hlocks := B.notSynchronized
  have hl := lv_entry ([.int c0]) (n := 1) (Nat.le_of_ble_eq_true rfl)
  rw [lg_entry_eq]
  generalize (lg_sl ([.int c0]) ++ List.replicate (1 - (lg_sl ([.int c0])).length) Slot.unset).toArray = ls at hl ⊢
  have hl : lv_has ls 1 [(0, .int c0)] := hl
  refine lv_iload_n hx hb dA_isBlank_0 rfl (lv_at hl 0 rfl) ?_
  refine lv_bipush (v := 9) hx hb dA_isBlank_1 (by decide) ?_
  refine lv_icmp_eq (tgt := 18) hx hb dA_isBlank_3 (by decide) (fun c_1 => ?_) (fun c_1 => ?_)
  · skip
    refine lv_iconst (v := 1) hx hb dA_isBlank_18 (by decide) ?_
    refine lv_goto (tgt := 23) hx hb dA_isBlank_19 (by decide) ?_
    exact W.zret (v := 1) hx hb hr (rfl) (fun t ht _ => ⟨by rw [show sh_b (sh_blank c0) = 1 from by first | (simp [sh_b, sh_blank, c_1]; done) | grind [sh_b, sh_blank]], ht⟩) t_nil dA_isBlank_23
  refine lv_iload_n hx hb dA_isBlank_6 rfl (lv_at hl 0 rfl) ?_
  refine lv_bipush (v := 10) hx hb dA_isBlank_7 (by decide) ?_
  refine lv_icmp_eq (tgt := 18) hx hb dA_isBlank_9 (by decide) (fun c_2 => ?_) (fun c_2 => ?_)
  · skip
    refine lv_iconst (v := 1) hx hb dA_isBlank_18 (by decide) ?_
    refine lv_goto (tgt := 23) hx hb dA_isBlank_19 (by decide) ?_
    exact W.zret (v := 1) hx hb hr (rfl) (fun t ht _ => ⟨by rw [show sh_b (sh_blank c0) = 1 from by first | (simp [sh_b, sh_blank, c_1, c_2]; done) | grind [sh_b, sh_blank]], ht⟩) t_nil dA_isBlank_23
  refine lv_iload_n hx hb dA_isBlank_12 rfl (lv_at hl 0 rfl) ?_
  refine lv_bipush (v := 32) hx hb dA_isBlank_13 (by decide) ?_
  refine lv_icmp_ne (tgt := 22) hx hb dA_isBlank_15 (by decide) (fun c_3 => ?_) (fun c_3 => ?_)
  · skip
    refine lv_iconst (v := 0) hx hb dA_isBlank_22 (by decide) ?_
    exact W.zret (v := 0) hx hb hr (rfl) (fun t ht _ => ⟨by rw [show sh_b (sh_blank c0) = 0 from by first | (simp [sh_b, sh_blank, c_1, c_2, c_3]; done) | grind [sh_b, sh_blank]], ht⟩) t_nil dA_isBlank_23
  refine lv_iconst (v := 1) hx hb dA_isBlank_18 (by decide) ?_
  refine lv_goto (tgt := 23) hx hb dA_isBlank_19 (by decide) ?_
  exact W.zret (v := 1) hx hb hr (rfl) (fun t ht _ => ⟨by rw [show sh_b (sh_blank c0) = 1 from by first | (simp [sh_b, sh_blank, c_1, c_2, c_3]; done) | grind [sh_b, sh_blank]], ht⟩) t_nil dA_isBlank_23
set_option maxHeartbeats 4000000 in
set_option maxRecDepth 100000 in
/-- isDigit(c) -/
theorem k_A_isDigit (l : Launch) (c0 : Int32) : Met l yA_isDigit wsA_isDigit ({ frames := 0, cells := 0, slots := 0, locals := 0 }) (va_Pc [.int c0] (fun _ => True)) (rq_ (some (.int (sh_b (sh_digit c0))))) 0 0 (fun _ => False) := by
  refine Met.ofW (cc := cA_isDigit) (maxL := 1) (ret := (some .boolean)) (by decide) rfl ?_
  intro p e s m args below meth c s₁ B hml hv
  obtain ⟨rfl, -⟩ := hv
  have hx := B.exec
  have hb := B.bytes
  have hr := B.returns
  have htz : ∀ w ∈ zw, w.before _ s = true := fun w h => atoms_spec (ws := wsA_isDigit) B.pre w (List.mem_cons_of_mem _ h)
  have hown : s.vm.findClass "ShellSum" = some m.cls := findClass_of_methodNamed B.named
  have hlocks := B.notSynchronized
  have hl := lv_entry ([.int c0]) (n := 1) (Nat.le_of_ble_eq_true rfl)
  rw [lg_entry_eq]
  generalize (lg_sl ([.int c0]) ++ List.replicate (1 - (lg_sl ([.int c0])).length) Slot.unset).toArray = ls at hl ⊢
  have hl : lv_has ls 1 [(0, .int c0)] := hl
  refine lv_iload_n hx hb dA_isDigit_0 rfl (lv_at hl 0 rfl) ?_
  refine lv_bipush (v := 48) hx hb dA_isDigit_1 (by decide) ?_
  refine lv_icmp_lt (tgt := 16) hx hb dA_isDigit_3 (by decide) (fun c_1 => ?_) (fun c_1 => ?_)
  · skip
    refine lv_iconst (v := 0) hx hb dA_isDigit_16 (by decide) ?_
    exact W.zret (v := 0) hx hb hr (rfl) (fun t ht _ => ⟨by rw [show sh_b (sh_digit c0) = 0 from by first | (simp [sh_b, sh_digit, c_1]; done) | grind [sh_b, sh_digit]], ht⟩) t_nil dA_isDigit_17
  refine lv_iload_n hx hb dA_isDigit_6 rfl (lv_at hl 0 rfl) ?_
  refine lv_bipush (v := 57) hx hb dA_isDigit_7 (by decide) ?_
  refine lv_icmp_gt (tgt := 16) hx hb dA_isDigit_9 (by decide) (fun c_2 => ?_) (fun c_2 => ?_)
  · skip
    refine lv_iconst (v := 0) hx hb dA_isDigit_16 (by decide) ?_
    exact W.zret (v := 0) hx hb hr (rfl) (fun t ht _ => ⟨by rw [show sh_b (sh_digit c0) = 0 from by first | (simp [sh_b, sh_digit, c_1, c_2]; done) | grind [sh_b, sh_digit]], ht⟩) t_nil dA_isDigit_17
  refine lv_iconst (v := 1) hx hb dA_isDigit_12 (by decide) ?_
  refine lv_goto (tgt := 17) hx hb dA_isDigit_13 (by decide) ?_
  exact W.zret (v := 1) hx hb hr (rfl) (fun t ht _ => ⟨by rw [show sh_b (sh_digit c0) = 1 from by first | (simp [sh_b, sh_digit, c_1, c_2]; done) | grind [sh_b, sh_digit]], ht⟩) t_nil dA_isDigit_17
set_option maxHeartbeats 4000000 in
set_option maxRecDepth 100000 in
/-- startsName(c) -/
theorem k_A_startsName (l : Launch) (c0 : Int32) : Met l yA_startsName wsA_startsName ({ frames := 0, cells := 0, slots := 0, locals := 0 }) (va_Pc [.int c0] (fun _ => True)) (rq_ (some (.int (sh_b (sh_start c0))))) 0 0 (fun _ => False) := by
  refine Met.ofW (cc := cA_startsName) (maxL := 1) (ret := (some .boolean)) (by decide) rfl ?_
  intro p e s m args below meth c s₁ B hml hv
  obtain ⟨rfl, -⟩ := hv
  have hx := B.exec
  have hb := B.bytes
  have hr := B.returns
  have htz : ∀ w ∈ zw, w.before _ s = true := fun w h => atoms_spec (ws := wsA_startsName) B.pre w (List.mem_cons_of_mem _ h)
  have hown : s.vm.findClass "ShellSum" = some m.cls := findClass_of_methodNamed B.named
  have hlocks := B.notSynchronized
  have hl := lv_entry ([.int c0]) (n := 1) (Nat.le_of_ble_eq_true rfl)
  rw [lg_entry_eq]
  generalize (lg_sl ([.int c0]) ++ List.replicate (1 - (lg_sl ([.int c0])).length) Slot.unset).toArray = ls at hl ⊢
  have hl : lv_has ls 1 [(0, .int c0)] := hl
  refine lv_iload_n hx hb dA_startsName_0 rfl (lv_at hl 0 rfl) ?_
  refine lv_bipush (v := 97) hx hb dA_startsName_1 (by decide) ?_
  refine lv_icmp_lt (tgt := 12) hx hb dA_startsName_3 (by decide) (fun c_1 => ?_) (fun c_1 => ?_)
  · skip
    refine lv_iload_n hx hb dA_startsName_12 rfl (lv_at hl 0 rfl) ?_
    refine lv_bipush (v := 65) hx hb dA_startsName_13 (by decide) ?_
    refine lv_icmp_lt (tgt := 24) hx hb dA_startsName_15 (by decide) (fun c_2 => ?_) (fun c_2 => ?_)
    · skip
      refine lv_iload_n hx hb dA_startsName_24 rfl (lv_at hl 0 rfl) ?_
      refine lv_bipush (v := 95) hx hb dA_startsName_25 (by decide) ?_
      refine lv_icmp_ne (tgt := 34) hx hb dA_startsName_27 (by decide) (fun c_3 => ?_) (fun c_3 => ?_)
      · skip
        refine lv_iconst (v := 0) hx hb dA_startsName_34 (by decide) ?_
        exact W.zret (v := 0) hx hb hr (rfl) (fun t ht _ => ⟨by rw [show sh_b (sh_start c0) = 0 from by first | (simp [sh_b, sh_start, c_1, c_2, c_3]; done) | grind [sh_b, sh_start]], ht⟩) t_nil dA_startsName_35
      refine lv_iconst (v := 1) hx hb dA_startsName_30 (by decide) ?_
      refine lv_goto (tgt := 35) hx hb dA_startsName_31 (by decide) ?_
      exact W.zret (v := 1) hx hb hr (rfl) (fun t ht _ => ⟨by rw [show sh_b (sh_start c0) = 1 from by first | (simp [sh_b, sh_start, c_1, c_2, c_3]; done) | grind [sh_b, sh_start]], ht⟩) t_nil dA_startsName_35
    refine lv_iload_n hx hb dA_startsName_18 rfl (lv_at hl 0 rfl) ?_
    refine lv_bipush (v := 90) hx hb dA_startsName_19 (by decide) ?_
    refine lv_icmp_le (tgt := 30) hx hb dA_startsName_21 (by decide) (fun c_4 => ?_) (fun c_4 => ?_)
    · skip
      refine lv_iconst (v := 1) hx hb dA_startsName_30 (by decide) ?_
      refine lv_goto (tgt := 35) hx hb dA_startsName_31 (by decide) ?_
      exact W.zret (v := 1) hx hb hr (rfl) (fun t ht _ => ⟨by rw [show sh_b (sh_start c0) = 1 from by first | (simp [sh_b, sh_start, c_1, c_2, c_4]; done) | grind [sh_b, sh_start]], ht⟩) t_nil dA_startsName_35
    refine lv_iload_n hx hb dA_startsName_24 rfl (lv_at hl 0 rfl) ?_
    refine lv_bipush (v := 95) hx hb dA_startsName_25 (by decide) ?_
    refine lv_icmp_ne (tgt := 34) hx hb dA_startsName_27 (by decide) (fun c_5 => ?_) (fun c_5 => ?_)
    · skip
      refine lv_iconst (v := 0) hx hb dA_startsName_34 (by decide) ?_
      exact W.zret (v := 0) hx hb hr (rfl) (fun t ht _ => ⟨by rw [show sh_b (sh_start c0) = 0 from by first | (simp [sh_b, sh_start, c_1, c_2, c_4, c_5]; done) | grind [sh_b, sh_start]], ht⟩) t_nil dA_startsName_35
    refine lv_iconst (v := 1) hx hb dA_startsName_30 (by decide) ?_
    refine lv_goto (tgt := 35) hx hb dA_startsName_31 (by decide) ?_
    exact W.zret (v := 1) hx hb hr (rfl) (fun t ht _ => ⟨by rw [show sh_b (sh_start c0) = 1 from by first | (simp [sh_b, sh_start, c_1, c_2, c_4, c_5]; done) | grind [sh_b, sh_start]], ht⟩) t_nil dA_startsName_35
  refine lv_iload_n hx hb dA_startsName_6 rfl (lv_at hl 0 rfl) ?_
  refine lv_bipush (v := 122) hx hb dA_startsName_7 (by decide) ?_
  refine lv_icmp_le (tgt := 30) hx hb dA_startsName_9 (by decide) (fun c_6 => ?_) (fun c_6 => ?_)
  · skip
    refine lv_iconst (v := 1) hx hb dA_startsName_30 (by decide) ?_
    refine lv_goto (tgt := 35) hx hb dA_startsName_31 (by decide) ?_
    exact W.zret (v := 1) hx hb hr (rfl) (fun t ht _ => ⟨by rw [show sh_b (sh_start c0) = 1 from by first | (simp [sh_b, sh_start, c_1, c_6]; done) | grind [sh_b, sh_start]], ht⟩) t_nil dA_startsName_35
  refine lv_iload_n hx hb dA_startsName_12 rfl (lv_at hl 0 rfl) ?_
  refine lv_bipush (v := 65) hx hb dA_startsName_13 (by decide) ?_
  refine lv_icmp_lt (tgt := 24) hx hb dA_startsName_15 (by decide) (fun c_7 => ?_) (fun c_7 => ?_)
  · skip
    refine lv_iload_n hx hb dA_startsName_24 rfl (lv_at hl 0 rfl) ?_
    refine lv_bipush (v := 95) hx hb dA_startsName_25 (by decide) ?_
    refine lv_icmp_ne (tgt := 34) hx hb dA_startsName_27 (by decide) (fun c_8 => ?_) (fun c_8 => ?_)
    · skip
      refine lv_iconst (v := 0) hx hb dA_startsName_34 (by decide) ?_
      exact W.zret (v := 0) hx hb hr (rfl) (fun t ht _ => ⟨by rw [show sh_b (sh_start c0) = 0 from by first | (simp [sh_b, sh_start, c_1, c_6, c_7, c_8]; done) | grind [sh_b, sh_start]], ht⟩) t_nil dA_startsName_35
    refine lv_iconst (v := 1) hx hb dA_startsName_30 (by decide) ?_
    refine lv_goto (tgt := 35) hx hb dA_startsName_31 (by decide) ?_
    exact W.zret (v := 1) hx hb hr (rfl) (fun t ht _ => ⟨by rw [show sh_b (sh_start c0) = 1 from by first | (simp [sh_b, sh_start, c_1, c_6, c_7, c_8]; done) | grind [sh_b, sh_start]], ht⟩) t_nil dA_startsName_35
  refine lv_iload_n hx hb dA_startsName_18 rfl (lv_at hl 0 rfl) ?_
  refine lv_bipush (v := 90) hx hb dA_startsName_19 (by decide) ?_
  refine lv_icmp_le (tgt := 30) hx hb dA_startsName_21 (by decide) (fun c_9 => ?_) (fun c_9 => ?_)
  · skip
    refine lv_iconst (v := 1) hx hb dA_startsName_30 (by decide) ?_
    refine lv_goto (tgt := 35) hx hb dA_startsName_31 (by decide) ?_
    exact W.zret (v := 1) hx hb hr (rfl) (fun t ht _ => ⟨by rw [show sh_b (sh_start c0) = 1 from by first | (simp [sh_b, sh_start, c_1, c_6, c_7, c_9]; done) | grind [sh_b, sh_start]], ht⟩) t_nil dA_startsName_35
  refine lv_iload_n hx hb dA_startsName_24 rfl (lv_at hl 0 rfl) ?_
  refine lv_bipush (v := 95) hx hb dA_startsName_25 (by decide) ?_
  refine lv_icmp_ne (tgt := 34) hx hb dA_startsName_27 (by decide) (fun c_10 => ?_) (fun c_10 => ?_)
  · skip
    refine lv_iconst (v := 0) hx hb dA_startsName_34 (by decide) ?_
    exact W.zret (v := 0) hx hb hr (rfl) (fun t ht _ => ⟨by rw [show sh_b (sh_start c0) = 0 from by first | (simp [sh_b, sh_start, c_1, c_6, c_7, c_9, c_10]; done) | grind [sh_b, sh_start]], ht⟩) t_nil dA_startsName_35
  refine lv_iconst (v := 1) hx hb dA_startsName_30 (by decide) ?_
  refine lv_goto (tgt := 35) hx hb dA_startsName_31 (by decide) ?_
  exact W.zret (v := 1) hx hb hr (rfl) (fun t ht _ => ⟨by rw [show sh_b (sh_start c0) = 1 from by first | (simp [sh_b, sh_start, c_1, c_6, c_7, c_9, c_10]; done) | grind [sh_b, sh_start]], ht⟩) t_nil dA_startsName_35
set_option maxHeartbeats 4000000 in
set_option maxRecDepth 100000 in
/-- isOfWord(c) -/
theorem k_A_isOfWord (l : Launch) (c0 : Int32) : Met l yA_isOfWord wsA_isOfWord ({ frames := 1, cells := 0, slots := 0, locals := 20 }) (va_Pc [.int c0] (fun _ => True)) (rq_ (some (.int (sh_b (sh_word c0))))) 0 0 (fun _ => False) := by
  refine Met.ofW (cc := cA_isOfWord) (maxL := 1) (ret := (some .boolean)) (by decide) rfl ?_
  intro p e s m args below meth c s₁ B hml hv
  obtain ⟨rfl, -⟩ := hv
  have hx := B.exec
  have hb := B.bytes
  have hr := B.returns
  have htz : ∀ w ∈ zw, w.before _ s = true := fun w h => atoms_spec (ws := wsA_isOfWord) B.pre w (List.mem_cons_of_mem _ h)
  have hown : s.vm.findClass "ShellSum" = some m.cls := findClass_of_methodNamed B.named
  have hlocks := B.notSynchronized
  have hl := lv_entry ([.int c0]) (n := 1) (Nat.le_of_ble_eq_true rfl)
  rw [lg_entry_eq]
  generalize (lg_sl ([.int c0]) ++ List.replicate (1 - (lg_sl ([.int c0])).length) Slot.unset).toArray = ls at hl ⊢
  have hl : lv_has ls 1 [(0, .int c0)] := hl
  refine lv_iload_n hx hb dA_isOfWord_0 rfl (lv_at hl 0 rfl) ?_
  refine rq_call (va_runS (As := [.int c0]) (rest := []) ⟨hx, hb, hml, hown, htz⟩ (k_A_startsName l c0) (cwS 1 htz (zg_S zw_1_125 zw_1_126 zw_1_1 zw_1_127) rfl rfl rfl (by decide +kernel) ⟨Nat.le_of_ble_eq_true rfl, Nat.le_of_ble_eq_true rfl⟩) rq_pre rfl rfl hl.1 rfl (lv_room (Nat.le_of_ble_eq_true rfl)) dA_isOfWord_1 ⟨Nat.zero_le _, Nat.zero_le _⟩) ?_
  refine W.eq (g2 := F0 m 4 ls [.int (sh_b (sh_start c0))]) rfl ?_
  refine lv_if_ne (tgt := 14) hx hb dA_isOfWord_4 (by decide) (fun c_1 => ?_) (fun c_1 => ?_)
  · skip
    refine lv_iconst (v := 1) hx hb dA_isOfWord_14 (by decide) ?_
    refine lv_goto (tgt := 19) hx hb dA_isOfWord_15 (by decide) ?_
    exact W.zret (v := 1) hx hb hr (rfl) (fun t ht _ => ⟨by rw [show sh_b (sh_word c0) = 1 from by first | (simp [sh_b, sh_word, c_1]; done) | grind [sh_b, sh_word]], ht⟩) t_nil dA_isOfWord_19
  refine lv_iload_n hx hb dA_isOfWord_7 rfl (lv_at hl 0 rfl) ?_
  refine rq_call (va_runS (As := [.int c0]) (rest := []) ⟨hx, hb, hml, hown, htz⟩ (k_A_isDigit l c0) (cwS 1 htz (zg_S zw_1_131 zw_1_132 zw_1_1 zw_1_133) rfl rfl rfl (by decide +kernel) ⟨Nat.le_of_ble_eq_true rfl, Nat.le_of_ble_eq_true rfl⟩) rq_pre rfl rfl hl.1 rfl (lv_room (Nat.le_of_ble_eq_true rfl)) dA_isOfWord_8 ⟨Nat.zero_le _, Nat.zero_le _⟩) ?_
  refine W.eq (g2 := F0 m 11 ls [.int (sh_b (sh_digit c0))]) rfl ?_
  refine lv_if_eq (tgt := 18) hx hb dA_isOfWord_11 (by decide) (fun c_2 => ?_) (fun c_2 => ?_)
  · skip
    refine lv_iconst (v := 0) hx hb dA_isOfWord_18 (by decide) ?_
    exact W.zret (v := 0) hx hb hr (rfl) (fun t ht _ => ⟨by rw [show sh_b (sh_word c0) = 0 from by first | (simp [sh_b, sh_word, c_1, c_2]; done) | grind [sh_b, sh_word]], ht⟩) t_nil dA_isOfWord_19
  refine lv_iconst (v := 1) hx hb dA_isOfWord_14 (by decide) ?_
  refine lv_goto (tgt := 19) hx hb dA_isOfWord_15 (by decide) ?_
  exact W.zret (v := 1) hx hb hr (rfl) (fun t ht _ => ⟨by rw [show sh_b (sh_word c0) = 1 from by first | (simp [sh_b, sh_word, c_1, c_2]; done) | grind [sh_b, sh_word]], ht⟩) t_nil dA_isOfWord_19
set_option maxHeartbeats 4000000 in
set_option maxRecDepth 100000 in
/-- baseOf(a, b) -/
theorem k_A_baseOf (l : Launch) (a0 b0 : Int32) : Met l yA_baseOf wsA_baseOf ({ frames := 0, cells := 0, slots := 0, locals := 0 }) (va_Pc [.int a0, .int b0] (fun _ => True)) (rq_ (some (.int (sh_base a0 b0)))) 0 0 (fun _ => False) := by
  refine Met.ofW (cc := cA_baseOf) (maxL := 2) (ret := (some .int)) (by decide) rfl ?_
  intro p e s m args below meth c s₁ B hml hv
  obtain ⟨rfl, -⟩ := hv
  have hx := B.exec
  have hb := B.bytes
  have hr := B.returns
  have htz : ∀ w ∈ zw, w.before _ s = true := fun w h => atoms_spec (ws := wsA_baseOf) B.pre w (List.mem_cons_of_mem _ h)
  have hown : s.vm.findClass "ShellSum" = some m.cls := findClass_of_methodNamed B.named
  have hlocks := B.notSynchronized
  have hl := lv_entry ([.int a0, .int b0]) (n := 2) (Nat.le_of_ble_eq_true rfl)
  rw [lg_entry_eq]
  generalize (lg_sl ([.int a0, .int b0]) ++ List.replicate (2 - (lg_sl ([.int a0, .int b0])).length) Slot.unset).toArray = ls at hl ⊢
  have hl : lv_has ls 2 [(0, .int a0), (1, .int b0)] := hl
  refine lv_iload_n hx hb dA_baseOf_0 rfl (lv_at hl 0 rfl) ?_
  refine lv_bipush (v := 48) hx hb dA_baseOf_1 (by decide) ?_
  refine lv_icmp_eq (tgt := 9) hx hb dA_baseOf_3 (by decide) (fun c_1 => ?_) (fun c_1 => ?_)
  · skip
    refine lv_iload_n hx hb dA_baseOf_9 rfl (lv_at hl 1 rfl) ?_
    refine lv_bipush (v := 120) hx hb dA_baseOf_10 (by decide) ?_
    refine lv_icmp_eq (tgt := 21) hx hb dA_baseOf_12 (by decide) (fun c_2 => ?_) (fun c_2 => ?_)
    · skip
      refine lv_bipush (v := 16) hx hb dA_baseOf_21 (by decide) ?_
      refine lv_goto (tgt := 28) hx hb dA_baseOf_23 (by decide) ?_
      exact W.iret (v := 16) hx hb hr (fun t ht _ => ⟨by rw [show sh_base a0 b0 = 16 from by first | (simp [sh_base, c_1, c_2]; done) | grind [sh_base]], ht⟩) t_nil dA_baseOf_28
    refine lv_iload_n hx hb dA_baseOf_15 rfl (lv_at hl 1 rfl) ?_
    refine lv_bipush (v := 88) hx hb dA_baseOf_16 (by decide) ?_
    refine lv_icmp_ne (tgt := 26) hx hb dA_baseOf_18 (by decide) (fun c_3 => ?_) (fun c_3 => ?_)
    · skip
      refine lv_bipush (v := 8) hx hb dA_baseOf_26 (by decide) ?_
      exact W.iret (v := 8) hx hb hr (fun t ht _ => ⟨by rw [show sh_base a0 b0 = 8 from by first | (simp [sh_base, c_1, c_2, c_3]; done) | grind [sh_base]], ht⟩) t_nil dA_baseOf_28
    refine lv_bipush (v := 16) hx hb dA_baseOf_21 (by decide) ?_
    refine lv_goto (tgt := 28) hx hb dA_baseOf_23 (by decide) ?_
    exact W.iret (v := 16) hx hb hr (fun t ht _ => ⟨by rw [show sh_base a0 b0 = 16 from by first | (simp [sh_base, c_1, c_2, c_3]; done) | grind [sh_base]], ht⟩) t_nil dA_baseOf_28
  refine lv_bipush (v := 10) hx hb dA_baseOf_6 (by decide) ?_
  exact W.iret (v := 10) hx hb hr (fun t ht _ => ⟨by rw [show sh_base a0 b0 = 10 from by first | (simp [sh_base, c_1]; done) | grind [sh_base]], ht⟩) t_nil dA_baseOf_8
set_option maxHeartbeats 4000000 in
set_option maxRecDepth 100000 in
/-- digitOf(c) -/
theorem k_A_digitOf (l : Launch) (c0 : Int32) : Met l yA_digitOf wsA_digitOf ({ frames := 0, cells := 0, slots := 0, locals := 0 }) (va_Pc [.int c0] (fun _ => True)) (rq_ (some (.int (sh_digOf c0)))) 0 0 (fun _ => False) := by
  refine Met.ofW (cc := cA_digitOf) (maxL := 1) (ret := (some .int)) (by decide) rfl ?_
  intro p e s m args below meth c s₁ B hml hv
  obtain ⟨rfl, -⟩ := hv
  have hx := B.exec
  have hb := B.bytes
  have hr := B.returns
  have htz : ∀ w ∈ zw, w.before _ s = true := fun w h => atoms_spec (ws := wsA_digitOf) B.pre w (List.mem_cons_of_mem _ h)
  have hown : s.vm.findClass "ShellSum" = some m.cls := findClass_of_methodNamed B.named
  have hlocks := B.notSynchronized
  have hl := lv_entry ([.int c0]) (n := 1) (Nat.le_of_ble_eq_true rfl)
  rw [lg_entry_eq]
  generalize (lg_sl ([.int c0]) ++ List.replicate (1 - (lg_sl ([.int c0])).length) Slot.unset).toArray = ls at hl ⊢
  have hl : lv_has ls 1 [(0, .int c0)] := hl
  refine lv_iload_n hx hb dA_digitOf_0 rfl (lv_at hl 0 rfl) ?_
  refine lv_bipush (v := 48) hx hb dA_digitOf_1 (by decide) ?_
  refine lv_icmp_lt (tgt := 17) hx hb dA_digitOf_3 (by decide) (fun c_1 => ?_) (fun c_1 => ?_)
  · skip
    refine lv_iload_n hx hb dA_digitOf_17 rfl (lv_at hl 0 rfl) ?_
    refine lv_bipush (v := 97) hx hb dA_digitOf_18 (by decide) ?_
    refine lv_icmp_lt (tgt := 37) hx hb dA_digitOf_20 (by decide) (fun c_2 => ?_) (fun c_2 => ?_)
    · skip
      refine lv_iload_n hx hb dA_digitOf_37 rfl (lv_at hl 0 rfl) ?_
      refine lv_bipush (v := 65) hx hb dA_digitOf_38 (by decide) ?_
      refine lv_icmp_lt (tgt := 59) hx hb dA_digitOf_40 (by decide) (fun c_3 => ?_) (fun c_3 => ?_)
      · skip
        refine lv_iconst (v := (-1)) hx hb dA_digitOf_59 (by decide) ?_
        exact W.iret (v := (-1)) hx hb hr (fun t ht _ => ⟨by rw [show sh_digOf c0 = (-1) from by first | (simp [sh_digOf, c_1, c_2, c_3]; done) | grind [sh_digOf]], ht⟩) t_nil dA_digitOf_60
      refine lv_iload_n hx hb dA_digitOf_43 rfl (lv_at hl 0 rfl) ?_
      refine lv_bipush (v := 70) hx hb dA_digitOf_44 (by decide) ?_
      refine lv_icmp_gt (tgt := 59) hx hb dA_digitOf_46 (by decide) (fun c_4 => ?_) (fun c_4 => ?_)
      · skip
        refine lv_iconst (v := (-1)) hx hb dA_digitOf_59 (by decide) ?_
        exact W.iret (v := (-1)) hx hb hr (fun t ht _ => ⟨by rw [show sh_digOf c0 = (-1) from by first | (simp [sh_digOf, c_1, c_2, c_3, c_4]; done) | grind [sh_digOf]], ht⟩) t_nil dA_digitOf_60
      refine lv_iload_n hx hb dA_digitOf_49 rfl (lv_at hl 0 rfl) ?_
      refine lv_bipush (v := 65) hx hb dA_digitOf_50 (by decide) ?_
      refine lv_isub hx hb dA_digitOf_52 ?_
      refine lv_bipush (v := 10) hx hb dA_digitOf_53 (by decide) ?_
      refine lv_iadd hx hb dA_digitOf_55 ?_
      refine lv_goto (tgt := 60) hx hb dA_digitOf_56 (by decide) ?_
      exact W.iret (v := (c0 - 65) + 10) hx hb hr (fun t ht _ => ⟨by rw [show sh_digOf c0 = (c0 - 65) + 10 from by first | (simp [sh_digOf, c_1, c_2, c_3, c_4]; done) | grind [sh_digOf]], ht⟩) t_nil dA_digitOf_60
    refine lv_iload_n hx hb dA_digitOf_23 rfl (lv_at hl 0 rfl) ?_
    refine lv_bipush (v := 102) hx hb dA_digitOf_24 (by decide) ?_
    refine lv_icmp_gt (tgt := 37) hx hb dA_digitOf_26 (by decide) (fun c_5 => ?_) (fun c_5 => ?_)
    · skip
      refine lv_iload_n hx hb dA_digitOf_37 rfl (lv_at hl 0 rfl) ?_
      refine lv_bipush (v := 65) hx hb dA_digitOf_38 (by decide) ?_
      refine lv_icmp_lt (tgt := 59) hx hb dA_digitOf_40 (by decide) (fun c_6 => ?_) (fun c_6 => ?_)
      · skip
        refine lv_iconst (v := (-1)) hx hb dA_digitOf_59 (by decide) ?_
        exact W.iret (v := (-1)) hx hb hr (fun t ht _ => ⟨by rw [show sh_digOf c0 = (-1) from by first | (simp [sh_digOf, c_1, c_2, c_5, c_6]; done) | grind [sh_digOf]], ht⟩) t_nil dA_digitOf_60
      refine lv_iload_n hx hb dA_digitOf_43 rfl (lv_at hl 0 rfl) ?_
      refine lv_bipush (v := 70) hx hb dA_digitOf_44 (by decide) ?_
      refine lv_icmp_gt (tgt := 59) hx hb dA_digitOf_46 (by decide) (fun c_7 => ?_) (fun c_7 => ?_)
      · skip
        refine lv_iconst (v := (-1)) hx hb dA_digitOf_59 (by decide) ?_
        exact W.iret (v := (-1)) hx hb hr (fun t ht _ => ⟨by rw [show sh_digOf c0 = (-1) from by first | (simp [sh_digOf, c_1, c_2, c_5, c_6, c_7]; done) | grind [sh_digOf]], ht⟩) t_nil dA_digitOf_60
      refine lv_iload_n hx hb dA_digitOf_49 rfl (lv_at hl 0 rfl) ?_
      refine lv_bipush (v := 65) hx hb dA_digitOf_50 (by decide) ?_
      refine lv_isub hx hb dA_digitOf_52 ?_
      refine lv_bipush (v := 10) hx hb dA_digitOf_53 (by decide) ?_
      refine lv_iadd hx hb dA_digitOf_55 ?_
      refine lv_goto (tgt := 60) hx hb dA_digitOf_56 (by decide) ?_
      exact W.iret (v := (c0 - 65) + 10) hx hb hr (fun t ht _ => ⟨by rw [show sh_digOf c0 = (c0 - 65) + 10 from by first | (simp [sh_digOf, c_1, c_2, c_5, c_6, c_7]; done) | grind [sh_digOf]], ht⟩) t_nil dA_digitOf_60
    refine lv_iload_n hx hb dA_digitOf_29 rfl (lv_at hl 0 rfl) ?_
    refine lv_bipush (v := 97) hx hb dA_digitOf_30 (by decide) ?_
    refine lv_isub hx hb dA_digitOf_32 ?_
    refine lv_bipush (v := 10) hx hb dA_digitOf_33 (by decide) ?_
    refine lv_iadd hx hb dA_digitOf_35 ?_
    exact W.iret (v := (c0 - 97) + 10) hx hb hr (fun t ht _ => ⟨by rw [show sh_digOf c0 = (c0 - 97) + 10 from by first | (simp [sh_digOf, c_1, c_2, c_5]; done) | grind [sh_digOf]], ht⟩) t_nil dA_digitOf_36
  refine lv_iload_n hx hb dA_digitOf_6 rfl (lv_at hl 0 rfl) ?_
  refine lv_bipush (v := 57) hx hb dA_digitOf_7 (by decide) ?_
  refine lv_icmp_gt (tgt := 17) hx hb dA_digitOf_9 (by decide) (fun c_8 => ?_) (fun c_8 => ?_)
  · skip
    refine lv_iload_n hx hb dA_digitOf_17 rfl (lv_at hl 0 rfl) ?_
    refine lv_bipush (v := 97) hx hb dA_digitOf_18 (by decide) ?_
    refine lv_icmp_lt (tgt := 37) hx hb dA_digitOf_20 (by decide) (fun c_9 => ?_) (fun c_9 => ?_)
    · skip
      refine lv_iload_n hx hb dA_digitOf_37 rfl (lv_at hl 0 rfl) ?_
      refine lv_bipush (v := 65) hx hb dA_digitOf_38 (by decide) ?_
      refine lv_icmp_lt (tgt := 59) hx hb dA_digitOf_40 (by decide) (fun c_10 => ?_) (fun c_10 => ?_)
      · skip
        refine lv_iconst (v := (-1)) hx hb dA_digitOf_59 (by decide) ?_
        exact W.iret (v := (-1)) hx hb hr (fun t ht _ => ⟨by rw [show sh_digOf c0 = (-1) from by first | (simp [sh_digOf, c_1, c_8, c_9, c_10]; done) | grind [sh_digOf]], ht⟩) t_nil dA_digitOf_60
      refine lv_iload_n hx hb dA_digitOf_43 rfl (lv_at hl 0 rfl) ?_
      refine lv_bipush (v := 70) hx hb dA_digitOf_44 (by decide) ?_
      refine lv_icmp_gt (tgt := 59) hx hb dA_digitOf_46 (by decide) (fun c_11 => ?_) (fun c_11 => ?_)
      · skip
        refine lv_iconst (v := (-1)) hx hb dA_digitOf_59 (by decide) ?_
        exact W.iret (v := (-1)) hx hb hr (fun t ht _ => ⟨by rw [show sh_digOf c0 = (-1) from by first | (simp [sh_digOf, c_1, c_8, c_9, c_10, c_11]; done) | grind [sh_digOf]], ht⟩) t_nil dA_digitOf_60
      refine lv_iload_n hx hb dA_digitOf_49 rfl (lv_at hl 0 rfl) ?_
      refine lv_bipush (v := 65) hx hb dA_digitOf_50 (by decide) ?_
      refine lv_isub hx hb dA_digitOf_52 ?_
      refine lv_bipush (v := 10) hx hb dA_digitOf_53 (by decide) ?_
      refine lv_iadd hx hb dA_digitOf_55 ?_
      refine lv_goto (tgt := 60) hx hb dA_digitOf_56 (by decide) ?_
      exact W.iret (v := (c0 - 65) + 10) hx hb hr (fun t ht _ => ⟨by rw [show sh_digOf c0 = (c0 - 65) + 10 from by first | (simp [sh_digOf, c_1, c_8, c_9, c_10, c_11]; done) | grind [sh_digOf]], ht⟩) t_nil dA_digitOf_60
    refine lv_iload_n hx hb dA_digitOf_23 rfl (lv_at hl 0 rfl) ?_
    refine lv_bipush (v := 102) hx hb dA_digitOf_24 (by decide) ?_
    refine lv_icmp_gt (tgt := 37) hx hb dA_digitOf_26 (by decide) (fun c_12 => ?_) (fun c_12 => ?_)
    · skip
      refine lv_iload_n hx hb dA_digitOf_37 rfl (lv_at hl 0 rfl) ?_
      refine lv_bipush (v := 65) hx hb dA_digitOf_38 (by decide) ?_
      refine lv_icmp_lt (tgt := 59) hx hb dA_digitOf_40 (by decide) (fun c_13 => ?_) (fun c_13 => ?_)
      · skip
        refine lv_iconst (v := (-1)) hx hb dA_digitOf_59 (by decide) ?_
        exact W.iret (v := (-1)) hx hb hr (fun t ht _ => ⟨by rw [show sh_digOf c0 = (-1) from by first | (simp [sh_digOf, c_1, c_8, c_9, c_12, c_13]; done) | grind [sh_digOf]], ht⟩) t_nil dA_digitOf_60
      refine lv_iload_n hx hb dA_digitOf_43 rfl (lv_at hl 0 rfl) ?_
      refine lv_bipush (v := 70) hx hb dA_digitOf_44 (by decide) ?_
      refine lv_icmp_gt (tgt := 59) hx hb dA_digitOf_46 (by decide) (fun c_14 => ?_) (fun c_14 => ?_)
      · skip
        refine lv_iconst (v := (-1)) hx hb dA_digitOf_59 (by decide) ?_
        exact W.iret (v := (-1)) hx hb hr (fun t ht _ => ⟨by rw [show sh_digOf c0 = (-1) from by first | (simp [sh_digOf, c_1, c_8, c_9, c_12, c_13, c_14]; done) | grind [sh_digOf]], ht⟩) t_nil dA_digitOf_60
      refine lv_iload_n hx hb dA_digitOf_49 rfl (lv_at hl 0 rfl) ?_
      refine lv_bipush (v := 65) hx hb dA_digitOf_50 (by decide) ?_
      refine lv_isub hx hb dA_digitOf_52 ?_
      refine lv_bipush (v := 10) hx hb dA_digitOf_53 (by decide) ?_
      refine lv_iadd hx hb dA_digitOf_55 ?_
      refine lv_goto (tgt := 60) hx hb dA_digitOf_56 (by decide) ?_
      exact W.iret (v := (c0 - 65) + 10) hx hb hr (fun t ht _ => ⟨by rw [show sh_digOf c0 = (c0 - 65) + 10 from by first | (simp [sh_digOf, c_1, c_8, c_9, c_12, c_13, c_14]; done) | grind [sh_digOf]], ht⟩) t_nil dA_digitOf_60
    refine lv_iload_n hx hb dA_digitOf_29 rfl (lv_at hl 0 rfl) ?_
    refine lv_bipush (v := 97) hx hb dA_digitOf_30 (by decide) ?_
    refine lv_isub hx hb dA_digitOf_32 ?_
    refine lv_bipush (v := 10) hx hb dA_digitOf_33 (by decide) ?_
    refine lv_iadd hx hb dA_digitOf_35 ?_
    exact W.iret (v := (c0 - 97) + 10) hx hb hr (fun t ht _ => ⟨by rw [show sh_digOf c0 = (c0 - 97) + 10 from by first | (simp [sh_digOf, c_1, c_8, c_9, c_12]; done) | grind [sh_digOf]], ht⟩) t_nil dA_digitOf_36
  refine lv_iload_n hx hb dA_digitOf_12 rfl (lv_at hl 0 rfl) ?_
  refine lv_bipush (v := 48) hx hb dA_digitOf_13 (by decide) ?_
  refine lv_isub hx hb dA_digitOf_15 ?_
  exact W.iret (v := c0 - 48) hx hb hr (fun t ht _ => ⟨by rw [show sh_digOf c0 = c0 - 48 from by first | (simp [sh_digOf, c_1, c_8]; done) | grind [sh_digOf]], ht⟩) t_nil dA_digitOf_16
set_option maxHeartbeats 4000000 in
set_option maxRecDepth 100000 in
/-- rankOf(sign) -/
theorem k_G_rankOf (l : Launch) (s0 : Int32) : Met l yG_rankOf wsG_rankOf ({ frames := 0, cells := 0, slots := 0, locals := 0 }) (va_Pc [.int s0] (fun _ => True)) (rq_ (some (.int (nI (sh_rank s0))))) 0 0 (fun _ => False) := by
  refine Met.ofW (cc := cG_rankOf) (maxL := 1) (ret := (some .int)) (by decide) rfl ?_
  intro p e s m args below meth c s₁ B hml hv
  obtain ⟨rfl, -⟩ := hv
  have hx := B.exec
  have hb := B.bytes
  have hr := B.returns
  have htz : ∀ w ∈ zw, w.before _ s = true := fun w h => atoms_spec (ws := wsG_rankOf) B.pre w (List.mem_cons_of_mem _ h)
  have hown : s.vm.findClass "ShellSum$Signs" = some m.cls := findClass_of_methodNamed B.named
  have hlocks := B.notSynchronized
  have hl := lv_entry ([.int s0]) (n := 1) (Nat.le_of_ble_eq_true rfl)
  rw [lg_entry_eq]
  generalize (lg_sl ([.int s0]) ++ List.replicate (1 - (lg_sl ([.int s0])).length) Slot.unset).toArray = ls at hl ⊢
  have hl : lv_has ls 1 [(0, .int s0)] := hl
  refine lv_iload_n hx hb dG_rankOf_0 rfl (lv_at hl 0 rfl) ?_
  by_cases c_1 : s0 = 37
  · skip
    refine lv_lookup (off := 177) (tgt := 178) hx hb dG_rankOf_1 (by decide) (by rw [c_1]; decide) (by decide) ?_
    refine lv_bipush (v := 10) hx hb dG_rankOf_178 (by decide) ?_
    exact W.iret (v := 10) hx hb hr (fun t ht _ => ⟨by rw [show nI (sh_rank s0) = 10 from by rw [c_1]; rfl], ht⟩) t_nil dG_rankOf_180
  by_cases c_2 : s0 = 38
  · skip
    refine lv_lookup (off := 163) (tgt := 164) hx hb dG_rankOf_1 (by decide) (by rw [c_2]; decide) (by decide) ?_
    refine lv_iconst (v := 5) hx hb dG_rankOf_164 (by decide) ?_
    exact W.iret (v := 5) hx hb hr (fun t ht _ => ⟨by rw [show nI (sh_rank s0) = 5 from by rw [c_2]; rfl], ht⟩) t_nil dG_rankOf_165
  by_cases c_3 : s0 = 42
  · skip
    refine lv_lookup (off := 177) (tgt := 178) hx hb dG_rankOf_1 (by decide) (by rw [c_3]; decide) (by decide) ?_
    refine lv_bipush (v := 10) hx hb dG_rankOf_178 (by decide) ?_
    exact W.iret (v := 10) hx hb hr (fun t ht _ => ⟨by rw [show nI (sh_rank s0) = 10 from by rw [c_3]; rfl], ht⟩) t_nil dG_rankOf_180
  by_cases c_4 : s0 = 43
  · skip
    refine lv_lookup (off := 174) (tgt := 175) hx hb dG_rankOf_1 (by decide) (by rw [c_4]; decide) (by decide) ?_
    refine lv_bipush (v := 9) hx hb dG_rankOf_175 (by decide) ?_
    exact W.iret (v := 9) hx hb hr (fun t ht _ => ⟨by rw [show nI (sh_rank s0) = 9 from by rw [c_4]; rfl], ht⟩) t_nil dG_rankOf_177
  by_cases c_5 : s0 = 45
  · skip
    refine lv_lookup (off := 174) (tgt := 175) hx hb dG_rankOf_1 (by decide) (by rw [c_5]; decide) (by decide) ?_
    refine lv_bipush (v := 9) hx hb dG_rankOf_175 (by decide) ?_
    exact W.iret (v := 9) hx hb hr (fun t ht _ => ⟨by rw [show nI (sh_rank s0) = 9 from by rw [c_5]; rfl], ht⟩) t_nil dG_rankOf_177
  by_cases c_6 : s0 = 47
  · skip
    refine lv_lookup (off := 177) (tgt := 178) hx hb dG_rankOf_1 (by decide) (by rw [c_6]; decide) (by decide) ?_
    refine lv_bipush (v := 10) hx hb dG_rankOf_178 (by decide) ?_
    exact W.iret (v := 10) hx hb hr (fun t ht _ => ⟨by rw [show nI (sh_rank s0) = 10 from by rw [c_6]; rfl], ht⟩) t_nil dG_rankOf_180
  by_cases c_7 : s0 = 60
  · skip
    refine lv_lookup (off := 168) (tgt := 169) hx hb dG_rankOf_1 (by decide) (by rw [c_7]; decide) (by decide) ?_
    refine lv_bipush (v := 7) hx hb dG_rankOf_169 (by decide) ?_
    exact W.iret (v := 7) hx hb hr (fun t ht _ => ⟨by rw [show nI (sh_rank s0) = 7 from by rw [c_7]; rfl], ht⟩) t_nil dG_rankOf_171
  by_cases c_8 : s0 = 62
  · skip
    refine lv_lookup (off := 168) (tgt := 169) hx hb dG_rankOf_1 (by decide) (by rw [c_8]; decide) (by decide) ?_
    refine lv_bipush (v := 7) hx hb dG_rankOf_169 (by decide) ?_
    exact W.iret (v := 7) hx hb hr (fun t ht _ => ⟨by rw [show nI (sh_rank s0) = 7 from by rw [c_8]; rfl], ht⟩) t_nil dG_rankOf_171
  by_cases c_9 : s0 = 94
  · skip
    refine lv_lookup (off := 161) (tgt := 162) hx hb dG_rankOf_1 (by decide) (by rw [c_9]; decide) (by decide) ?_
    refine lv_iconst (v := 4) hx hb dG_rankOf_162 (by decide) ?_
    exact W.iret (v := 4) hx hb hr (fun t ht _ => ⟨by rw [show nI (sh_rank s0) = 4 from by rw [c_9]; rfl], ht⟩) t_nil dG_rankOf_163
  by_cases c_10 : s0 = 124
  · skip
    refine lv_lookup (off := 159) (tgt := 160) hx hb dG_rankOf_1 (by decide) (by rw [c_10]; decide) (by decide) ?_
    refine lv_iconst (v := 3) hx hb dG_rankOf_160 (by decide) ?_
    exact W.iret (v := 3) hx hb hr (fun t ht _ => ⟨by rw [show nI (sh_rank s0) = 3 from by rw [c_10]; rfl], ht⟩) t_nil dG_rankOf_161
  by_cases c_11 : s0 = 8509
  · skip
    refine lv_lookup (off := 165) (tgt := 166) hx hb dG_rankOf_1 (by decide) (by rw [c_11]; decide) (by decide) ?_
    refine lv_bipush (v := 6) hx hb dG_rankOf_166 (by decide) ?_
    exact W.iret (v := 6) hx hb hr (fun t ht _ => ⟨by rw [show nI (sh_rank s0) = 6 from by rw [c_11]; rfl], ht⟩) t_nil dG_rankOf_168
  by_cases c_12 : s0 = 9766
  · skip
    refine lv_lookup (off := 157) (tgt := 158) hx hb dG_rankOf_1 (by decide) (by rw [c_12]; decide) (by decide) ?_
    refine lv_iconst (v := 2) hx hb dG_rankOf_158 (by decide) ?_
    exact W.iret (v := 2) hx hb hr (fun t ht _ => ⟨by rw [show nI (sh_rank s0) = 2 from by rw [c_12]; rfl], ht⟩) t_nil dG_rankOf_159
  by_cases c_13 : s0 = 15420
  · skip
    refine lv_lookup (off := 171) (tgt := 172) hx hb dG_rankOf_1 (by decide) (by rw [c_13]; decide) (by decide) ?_
    refine lv_bipush (v := 8) hx hb dG_rankOf_172 (by decide) ?_
    exact W.iret (v := 8) hx hb hr (fun t ht _ => ⟨by rw [show nI (sh_rank s0) = 8 from by rw [c_13]; rfl], ht⟩) t_nil dG_rankOf_174
  by_cases c_14 : s0 = 15421
  · skip
    refine lv_lookup (off := 168) (tgt := 169) hx hb dG_rankOf_1 (by decide) (by rw [c_14]; decide) (by decide) ?_
    refine lv_bipush (v := 7) hx hb dG_rankOf_169 (by decide) ?_
    exact W.iret (v := 7) hx hb hr (fun t ht _ => ⟨by rw [show nI (sh_rank s0) = 7 from by rw [c_14]; rfl], ht⟩) t_nil dG_rankOf_171
  by_cases c_15 : s0 = 15677
  · skip
    refine lv_lookup (off := 165) (tgt := 166) hx hb dG_rankOf_1 (by decide) (by rw [c_15]; decide) (by decide) ?_
    refine lv_bipush (v := 6) hx hb dG_rankOf_166 (by decide) ?_
    exact W.iret (v := 6) hx hb hr (fun t ht _ => ⟨by rw [show nI (sh_rank s0) = 6 from by rw [c_15]; rfl], ht⟩) t_nil dG_rankOf_168
  by_cases c_16 : s0 = 15933
  · skip
    refine lv_lookup (off := 168) (tgt := 169) hx hb dG_rankOf_1 (by decide) (by rw [c_16]; decide) (by decide) ?_
    refine lv_bipush (v := 7) hx hb dG_rankOf_169 (by decide) ?_
    exact W.iret (v := 7) hx hb hr (fun t ht _ => ⟨by rw [show nI (sh_rank s0) = 7 from by rw [c_16]; rfl], ht⟩) t_nil dG_rankOf_171
  by_cases c_17 : s0 = 15934
  · skip
    refine lv_lookup (off := 171) (tgt := 172) hx hb dG_rankOf_1 (by decide) (by rw [c_17]; decide) (by decide) ?_
    refine lv_bipush (v := 8) hx hb dG_rankOf_172 (by decide) ?_
    exact W.iret (v := 8) hx hb hr (fun t ht _ => ⟨by rw [show nI (sh_rank s0) = 8 from by rw [c_17]; rfl], ht⟩) t_nil dG_rankOf_174
  by_cases c_18 : s0 = 31868
  · skip
    refine lv_lookup (off := 155) (tgt := 156) hx hb dG_rankOf_1 (by decide) (by rw [c_18]; decide) (by decide) ?_
    refine lv_iconst (v := 1) hx hb dG_rankOf_156 (by decide) ?_
    exact W.iret (v := 1) hx hb hr (fun t ht _ => ⟨by rw [show nI (sh_rank s0) = 1 from by rw [c_18]; rfl], ht⟩) t_nil dG_rankOf_157
  refine lv_lookup (off := 180) (tgt := 181) hx hb dG_rankOf_1 (by decide) (by rw [lv_osw c_1 (k := 37) (by decide), lv_osw c_2 (k := 38) (by decide), lv_osw c_3 (k := 42) (by decide), lv_osw c_4 (k := 43) (by decide), lv_osw c_5 (k := 45) (by decide), lv_osw c_6 (k := 47) (by decide), lv_osw c_7 (k := 60) (by decide), lv_osw c_8 (k := 62) (by decide), lv_osw c_9 (k := 94) (by decide), lv_osw c_10 (k := 124) (by decide), lv_osw c_11 (k := 8509) (by decide), lv_osw c_12 (k := 9766) (by decide), lv_osw c_13 (k := 15420) (by decide), lv_osw c_14 (k := 15421) (by decide), lv_osw c_15 (k := 15677) (by decide), lv_osw c_16 (k := 15933) (by decide), lv_osw c_17 (k := 15934) (by decide), lv_osw c_18 (k := 31868) (by decide)]; rfl) (by decide) ?_
  refine lv_iconst (v := 0) hx hb dG_rankOf_181 (by decide) ?_
  exact W.iret (v := 0) hx hb hr (fun t ht _ => ⟨by rw [show nI (sh_rank s0) = 0 from by simp [sh_rank, nI, c_1, c_2, c_3, c_4, c_5, c_6, c_7, c_8, c_9, c_10, c_11, c_12, c_13, c_14, c_15, c_16, c_17, c_18]], ht⟩) t_nil dG_rankOf_182
set_option maxHeartbeats 4000000 in
set_option maxRecDepth 100000 in
/-- isShift(sign) -/
theorem k_R_isShift (l : Launch) (s0 : Int32) : Met l yR_isShift wsR_isShift ({ frames := 0, cells := 0, slots := 0, locals := 0 }) (va_Pc [.int s0] (fun _ => True)) (rq_ (some (.int (sh_b (sh_shift s0))))) 0 0 (fun _ => False) := by
  refine Met.ofW (cc := cR_isShift) (maxL := 1) (ret := (some .boolean)) (by decide) rfl ?_
  intro p e s m args below meth c s₁ B hml hv
  obtain ⟨rfl, -⟩ := hv
  have hx := B.exec
  have hb := B.bytes
  have hr := B.returns
  have htz : ∀ w ∈ zw, w.before _ s = true := fun w h => atoms_spec (ws := wsR_isShift) B.pre w (List.mem_cons_of_mem _ h)
  have hown : s.vm.findClass "ShellSum$Reckoner" = some m.cls := findClass_of_methodNamed B.named
  have hlocks := B.notSynchronized
  have hl := lv_entry ([.int s0]) (n := 1) (Nat.le_of_ble_eq_true rfl)
  rw [lg_entry_eq]
  generalize (lg_sl ([.int s0]) ++ List.replicate (1 - (lg_sl ([.int s0])).length) Slot.unset).toArray = ls at hl ⊢
  have hl : lv_has ls 1 [(0, .int s0)] := hl
  refine lv_iload_n hx hb dR_isShift_0 rfl (lv_at hl 0 rfl) ?_
  refine lv_sipush (v := 15420) hx hb dR_isShift_1 (by decide) ?_
  refine lv_icmp_eq (tgt := 14) hx hb dR_isShift_4 (by decide) (fun c_1 => ?_) (fun c_1 => ?_)
  · skip
    refine lv_iconst (v := 1) hx hb dR_isShift_14 (by decide) ?_
    refine lv_goto (tgt := 19) hx hb dR_isShift_15 (by decide) ?_
    exact W.zret (v := 1) hx hb hr (rfl) (fun t ht _ => ⟨by rw [show sh_b (sh_shift s0) = 1 from by first | (simp [sh_b, sh_shift, c_1]; done) | grind [sh_b, sh_shift]], ht⟩) t_nil dR_isShift_19
  refine lv_iload_n hx hb dR_isShift_7 rfl (lv_at hl 0 rfl) ?_
  refine lv_sipush (v := 15934) hx hb dR_isShift_8 (by decide) ?_
  refine lv_icmp_ne (tgt := 18) hx hb dR_isShift_11 (by decide) (fun c_2 => ?_) (fun c_2 => ?_)
  · skip
    refine lv_iconst (v := 0) hx hb dR_isShift_18 (by decide) ?_
    exact W.zret (v := 0) hx hb hr (rfl) (fun t ht _ => ⟨by rw [show sh_b (sh_shift s0) = 0 from by first | (simp [sh_b, sh_shift, c_1, c_2]; done) | grind [sh_b, sh_shift]], ht⟩) t_nil dR_isShift_19
  refine lv_iconst (v := 1) hx hb dR_isShift_14 (by decide) ?_
  refine lv_goto (tgt := 19) hx hb dR_isShift_15 (by decide) ?_
  exact W.zret (v := 1) hx hb hr (rfl) (fun t ht _ => ⟨by rw [show sh_b (sh_shift s0) = 1 from by first | (simp [sh_b, sh_shift, c_1, c_2]; done) | grind [sh_b, sh_shift]], ht⟩) t_nil dR_isShift_19
set_option maxHeartbeats 4000000 in
set_option maxRecDepth 100000 in
/-- isLetter(c) -/
theorem k_M_isLetter (l : Launch) (c0 : Int32) : Met l yM_isLetter wsM_isLetter ({ frames := 0, cells := 0, slots := 0, locals := 0 }) (va_Pc [.int c0] (fun _ => True)) (rq_ (some (.int (sh_b (sh_start c0))))) 0 0 (fun _ => False) := by
  refine Met.ofW (cc := cM_isLetter) (maxL := 1) (ret := (some .boolean)) (by decide) rfl ?_
  intro p e s m args below meth c s₁ B hml hv
  obtain ⟨rfl, -⟩ := hv
  have hx := B.exec
  have hb := B.bytes
  have hr := B.returns
  have htz : ∀ w ∈ zw, w.before _ s = true := fun w h => atoms_spec (ws := wsM_isLetter) B.pre w (List.mem_cons_of_mem _ h)
  have hown : s.vm.findClass "ShellSumModel" = some m.cls := findClass_of_methodNamed B.named
  have hlocks := B.notSynchronized
  have hl := lv_entry ([.int c0]) (n := 1) (Nat.le_of_ble_eq_true rfl)
  rw [lg_entry_eq]
  generalize (lg_sl ([.int c0]) ++ List.replicate (1 - (lg_sl ([.int c0])).length) Slot.unset).toArray = ls at hl ⊢
  have hl : lv_has ls 1 [(0, .int c0)] := hl
  refine lv_iload_n hx hb dM_isLetter_0 rfl (lv_at hl 0 rfl) ?_
  refine lv_bipush (v := 97) hx hb dM_isLetter_1 (by decide) ?_
  refine lv_icmp_lt (tgt := 12) hx hb dM_isLetter_3 (by decide) (fun c_1 => ?_) (fun c_1 => ?_)
  · skip
    refine lv_iload_n hx hb dM_isLetter_12 rfl (lv_at hl 0 rfl) ?_
    refine lv_bipush (v := 65) hx hb dM_isLetter_13 (by decide) ?_
    refine lv_icmp_lt (tgt := 24) hx hb dM_isLetter_15 (by decide) (fun c_2 => ?_) (fun c_2 => ?_)
    · skip
      refine lv_iload_n hx hb dM_isLetter_24 rfl (lv_at hl 0 rfl) ?_
      refine lv_bipush (v := 95) hx hb dM_isLetter_25 (by decide) ?_
      refine lv_icmp_ne (tgt := 34) hx hb dM_isLetter_27 (by decide) (fun c_3 => ?_) (fun c_3 => ?_)
      · skip
        refine lv_iconst (v := 0) hx hb dM_isLetter_34 (by decide) ?_
        exact W.zret (v := 0) hx hb hr (rfl) (fun t ht _ => ⟨by rw [show sh_b (sh_start c0) = 0 from by first | (simp [sh_b, sh_start, c_1, c_2, c_3]; done) | grind [sh_b, sh_start]], ht⟩) t_nil dM_isLetter_35
      refine lv_iconst (v := 1) hx hb dM_isLetter_30 (by decide) ?_
      refine lv_goto (tgt := 35) hx hb dM_isLetter_31 (by decide) ?_
      exact W.zret (v := 1) hx hb hr (rfl) (fun t ht _ => ⟨by rw [show sh_b (sh_start c0) = 1 from by first | (simp [sh_b, sh_start, c_1, c_2, c_3]; done) | grind [sh_b, sh_start]], ht⟩) t_nil dM_isLetter_35
    refine lv_iload_n hx hb dM_isLetter_18 rfl (lv_at hl 0 rfl) ?_
    refine lv_bipush (v := 90) hx hb dM_isLetter_19 (by decide) ?_
    refine lv_icmp_le (tgt := 30) hx hb dM_isLetter_21 (by decide) (fun c_4 => ?_) (fun c_4 => ?_)
    · skip
      refine lv_iconst (v := 1) hx hb dM_isLetter_30 (by decide) ?_
      refine lv_goto (tgt := 35) hx hb dM_isLetter_31 (by decide) ?_
      exact W.zret (v := 1) hx hb hr (rfl) (fun t ht _ => ⟨by rw [show sh_b (sh_start c0) = 1 from by first | (simp [sh_b, sh_start, c_1, c_2, c_4]; done) | grind [sh_b, sh_start]], ht⟩) t_nil dM_isLetter_35
    refine lv_iload_n hx hb dM_isLetter_24 rfl (lv_at hl 0 rfl) ?_
    refine lv_bipush (v := 95) hx hb dM_isLetter_25 (by decide) ?_
    refine lv_icmp_ne (tgt := 34) hx hb dM_isLetter_27 (by decide) (fun c_5 => ?_) (fun c_5 => ?_)
    · skip
      refine lv_iconst (v := 0) hx hb dM_isLetter_34 (by decide) ?_
      exact W.zret (v := 0) hx hb hr (rfl) (fun t ht _ => ⟨by rw [show sh_b (sh_start c0) = 0 from by first | (simp [sh_b, sh_start, c_1, c_2, c_4, c_5]; done) | grind [sh_b, sh_start]], ht⟩) t_nil dM_isLetter_35
    refine lv_iconst (v := 1) hx hb dM_isLetter_30 (by decide) ?_
    refine lv_goto (tgt := 35) hx hb dM_isLetter_31 (by decide) ?_
    exact W.zret (v := 1) hx hb hr (rfl) (fun t ht _ => ⟨by rw [show sh_b (sh_start c0) = 1 from by first | (simp [sh_b, sh_start, c_1, c_2, c_4, c_5]; done) | grind [sh_b, sh_start]], ht⟩) t_nil dM_isLetter_35
  refine lv_iload_n hx hb dM_isLetter_6 rfl (lv_at hl 0 rfl) ?_
  refine lv_bipush (v := 122) hx hb dM_isLetter_7 (by decide) ?_
  refine lv_icmp_le (tgt := 30) hx hb dM_isLetter_9 (by decide) (fun c_6 => ?_) (fun c_6 => ?_)
  · skip
    refine lv_iconst (v := 1) hx hb dM_isLetter_30 (by decide) ?_
    refine lv_goto (tgt := 35) hx hb dM_isLetter_31 (by decide) ?_
    exact W.zret (v := 1) hx hb hr (rfl) (fun t ht _ => ⟨by rw [show sh_b (sh_start c0) = 1 from by first | (simp [sh_b, sh_start, c_1, c_6]; done) | grind [sh_b, sh_start]], ht⟩) t_nil dM_isLetter_35
  refine lv_iload_n hx hb dM_isLetter_12 rfl (lv_at hl 0 rfl) ?_
  refine lv_bipush (v := 65) hx hb dM_isLetter_13 (by decide) ?_
  refine lv_icmp_lt (tgt := 24) hx hb dM_isLetter_15 (by decide) (fun c_7 => ?_) (fun c_7 => ?_)
  · skip
    refine lv_iload_n hx hb dM_isLetter_24 rfl (lv_at hl 0 rfl) ?_
    refine lv_bipush (v := 95) hx hb dM_isLetter_25 (by decide) ?_
    refine lv_icmp_ne (tgt := 34) hx hb dM_isLetter_27 (by decide) (fun c_8 => ?_) (fun c_8 => ?_)
    · skip
      refine lv_iconst (v := 0) hx hb dM_isLetter_34 (by decide) ?_
      exact W.zret (v := 0) hx hb hr (rfl) (fun t ht _ => ⟨by rw [show sh_b (sh_start c0) = 0 from by first | (simp [sh_b, sh_start, c_1, c_6, c_7, c_8]; done) | grind [sh_b, sh_start]], ht⟩) t_nil dM_isLetter_35
    refine lv_iconst (v := 1) hx hb dM_isLetter_30 (by decide) ?_
    refine lv_goto (tgt := 35) hx hb dM_isLetter_31 (by decide) ?_
    exact W.zret (v := 1) hx hb hr (rfl) (fun t ht _ => ⟨by rw [show sh_b (sh_start c0) = 1 from by first | (simp [sh_b, sh_start, c_1, c_6, c_7, c_8]; done) | grind [sh_b, sh_start]], ht⟩) t_nil dM_isLetter_35
  refine lv_iload_n hx hb dM_isLetter_18 rfl (lv_at hl 0 rfl) ?_
  refine lv_bipush (v := 90) hx hb dM_isLetter_19 (by decide) ?_
  refine lv_icmp_le (tgt := 30) hx hb dM_isLetter_21 (by decide) (fun c_9 => ?_) (fun c_9 => ?_)
  · skip
    refine lv_iconst (v := 1) hx hb dM_isLetter_30 (by decide) ?_
    refine lv_goto (tgt := 35) hx hb dM_isLetter_31 (by decide) ?_
    exact W.zret (v := 1) hx hb hr (rfl) (fun t ht _ => ⟨by rw [show sh_b (sh_start c0) = 1 from by first | (simp [sh_b, sh_start, c_1, c_6, c_7, c_9]; done) | grind [sh_b, sh_start]], ht⟩) t_nil dM_isLetter_35
  refine lv_iload_n hx hb dM_isLetter_24 rfl (lv_at hl 0 rfl) ?_
  refine lv_bipush (v := 95) hx hb dM_isLetter_25 (by decide) ?_
  refine lv_icmp_ne (tgt := 34) hx hb dM_isLetter_27 (by decide) (fun c_10 => ?_) (fun c_10 => ?_)
  · skip
    refine lv_iconst (v := 0) hx hb dM_isLetter_34 (by decide) ?_
    exact W.zret (v := 0) hx hb hr (rfl) (fun t ht _ => ⟨by rw [show sh_b (sh_start c0) = 0 from by first | (simp [sh_b, sh_start, c_1, c_6, c_7, c_9, c_10]; done) | grind [sh_b, sh_start]], ht⟩) t_nil dM_isLetter_35
  refine lv_iconst (v := 1) hx hb dM_isLetter_30 (by decide) ?_
  refine lv_goto (tgt := 35) hx hb dM_isLetter_31 (by decide) ?_
  exact W.zret (v := 1) hx hb hr (rfl) (fun t ht _ => ⟨by rw [show sh_b (sh_start c0) = 1 from by first | (simp [sh_b, sh_start, c_1, c_6, c_7, c_9, c_10]; done) | grind [sh_b, sh_start]], ht⟩) t_nil dM_isLetter_35
set_option maxHeartbeats 4000000 in
set_option maxRecDepth 100000 in
/-- isDigit(c) -/
theorem k_M_isDigit (l : Launch) (c0 : Int32) : Met l yM_isDigit wsM_isDigit ({ frames := 0, cells := 0, slots := 0, locals := 0 }) (va_Pc [.int c0] (fun _ => True)) (rq_ (some (.int (sh_b (sh_digit c0))))) 0 0 (fun _ => False) := by
  refine Met.ofW (cc := cM_isDigit) (maxL := 1) (ret := (some .boolean)) (by decide) rfl ?_
  intro p e s m args below meth c s₁ B hml hv
  obtain ⟨rfl, -⟩ := hv
  have hx := B.exec
  have hb := B.bytes
  have hr := B.returns
  have htz : ∀ w ∈ zw, w.before _ s = true := fun w h => atoms_spec (ws := wsM_isDigit) B.pre w (List.mem_cons_of_mem _ h)
  have hown : s.vm.findClass "ShellSumModel" = some m.cls := findClass_of_methodNamed B.named
  have hlocks := B.notSynchronized
  have hl := lv_entry ([.int c0]) (n := 1) (Nat.le_of_ble_eq_true rfl)
  rw [lg_entry_eq]
  generalize (lg_sl ([.int c0]) ++ List.replicate (1 - (lg_sl ([.int c0])).length) Slot.unset).toArray = ls at hl ⊢
  have hl : lv_has ls 1 [(0, .int c0)] := hl
  refine lv_iload_n hx hb dM_isDigit_0 rfl (lv_at hl 0 rfl) ?_
  refine lv_bipush (v := 48) hx hb dM_isDigit_1 (by decide) ?_
  refine lv_icmp_lt (tgt := 16) hx hb dM_isDigit_3 (by decide) (fun c_1 => ?_) (fun c_1 => ?_)
  · skip
    refine lv_iconst (v := 0) hx hb dM_isDigit_16 (by decide) ?_
    exact W.zret (v := 0) hx hb hr (rfl) (fun t ht _ => ⟨by rw [show sh_b (sh_digit c0) = 0 from by first | (simp [sh_b, sh_digit, c_1]; done) | grind [sh_b, sh_digit]], ht⟩) t_nil dM_isDigit_17
  refine lv_iload_n hx hb dM_isDigit_6 rfl (lv_at hl 0 rfl) ?_
  refine lv_bipush (v := 57) hx hb dM_isDigit_7 (by decide) ?_
  refine lv_icmp_gt (tgt := 16) hx hb dM_isDigit_9 (by decide) (fun c_2 => ?_) (fun c_2 => ?_)
  · skip
    refine lv_iconst (v := 0) hx hb dM_isDigit_16 (by decide) ?_
    exact W.zret (v := 0) hx hb hr (rfl) (fun t ht _ => ⟨by rw [show sh_b (sh_digit c0) = 0 from by first | (simp [sh_b, sh_digit, c_1, c_2]; done) | grind [sh_b, sh_digit]], ht⟩) t_nil dM_isDigit_17
  refine lv_iconst (v := 1) hx hb dM_isDigit_12 (by decide) ?_
  refine lv_goto (tgt := 17) hx hb dM_isDigit_13 (by decide) ?_
  exact W.zret (v := 1) hx hb hr (rfl) (fun t ht _ => ⟨by rw [show sh_b (sh_digit c0) = 1 from by first | (simp [sh_b, sh_digit, c_1, c_2]; done) | grind [sh_b, sh_digit]], ht⟩) t_nil dM_isDigit_17
