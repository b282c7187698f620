set_option maxHeartbeats 4000000 in
set_option maxRecDepth 100000 in
/-- areOfText(chars, n) -/
theorem k_A_areOfText (l : Launch) (x0 : Int64) (n0 : Int32) : Met l yA_areOfText wsA_areOfText ({ frames := 1, cells := 0, slots := 0, locals := 40 }) (va_Pc [.long x0, .int n0] (fun _ => True)) (rq_ (some (.int (sh_b (sh_areT x0 n0))))) 0 0 (fun _ => False) := by
  refine Met.ofW (cc := cA_areOfText) (maxL := 5) (ret := (some .boolean)) (by decide) rfl ?_
  intro p e s m args below meth c s₁ B hml hv
  obtain ⟨rfl, -⟩ := hv
  have hx := B.exec
  have hb := B.bytes
  have hr := B.returns
  have htz : ∀ w ∈ zw, w.before _ s = true := fun w h => atoms_spec (ws := wsA_areOfText) B.pre w (List.mem_cons_of_mem _ h)
  have hown : s.vm.findClass "ShellSum" = some m.cls := findClass_of_methodNamed B.named
  have hlocks := B.notSynchronized
  have hl := lv_entry ([.long x0, .int n0]) (n := 5) (Nat.le_of_ble_eq_true rfl)
  rw [lg_entry_eq]
  generalize (lg_sl ([.long x0, .int n0]) ++ List.replicate (5 - (lg_sl ([.long x0, .int n0])).length) Slot.unset).toArray = ls at hl ⊢
  have hl : lv_has ls 5 [(0, .long x0), (2, .int n0)] := hl
  refine lv_iload_n hx hb dA_areOfText_0 rfl (lv_at hl 1 rfl) ?_
  refine lv_if_lt (tgt := 10) hx hb dA_areOfText_1 (by decide) (fun c_1 => ?_) (fun c_1 => ?_)
  · skip
    refine lv_iconst (v := 0) hx hb dA_areOfText_10 (by decide) ?_
    exact W.zret (v := 0) hx hb hr (rfl) (fun t ht _ => ⟨by rw [show sh_b (sh_areT x0 n0) = 0 from by grind [sh_b, sh_areT]], ht⟩) t_nil dA_areOfText_11
  refine lv_iload_n hx hb dA_areOfText_4 rfl (lv_at hl 1 rfl) ?_
  refine lv_bipush (v := 8) hx hb dA_areOfText_5 (by decide) ?_
  refine lv_icmp_le (tgt := 12) hx hb dA_areOfText_7 (by decide) (fun c_2 => ?_) (fun c_2 => ?_)
  · skip
    obtain ⟨n, hn, rfl⟩ : ∃ n : Nat, n ≤ 8 ∧ n0 = nI n := nI_of2 (M := 8) rfl c_1 c_2
    refine lv_iconst (v := 0) hx hb dA_areOfText_12 (by decide) ?_
    refine xw_topi (y := nI 0) (nI_0.symm) ?_
    refine lv_istore_n (lv' := [(3, .int (nI 0)), (0, .long x0), (2, .int (nI n))]) hx hb dA_areOfText_13 rfl hl (by decide) rfl (fun ls hl => ?_)
    have loop_14 : ∀ (f_loop_14 : Nat) (k : Nat), n - k < f_loop_14 → (k ≤ n) → (∀ j, j < k → sh_ok (sh_byte x0 n j) = true) → ∀ ls : Array Slot, lv_has ls 5 [(3, .int (nI k)), (0, .long x0), (2, .int (nI n))] → W p l e (headSpec wsA_areOfText ({ frames := 1, cells := 0, slots := 0, locals := 40 })).room s m ([.long x0, .int (nI n)] : List Value).toArray below meth c s.heap [] 0 0 (MQ below (rq_ (some (.int (sh_b (sh_areT x0 (nI n)))))) ([.long x0, .int (nI n)] : List Value).toArray s 0 0 (fun _ => False)) (F0 m 14 ls []) := by
      intro f_loop_14
      induction f_loop_14 with
      | zero => intro k hf; exact absurd hf (Nat.not_lt_zero _)
      | succ f_loop_14 ih_loop_14 =>
        intro k hf_loop_14 hk hj ls hl
        refine lv_iload_n hx hb dA_areOfText_14 rfl (lv_at hl 0 rfl) ?_
        refine lv_iload_n hx hb dA_areOfText_15 rfl (lv_at hl 2 rfl) ?_
        refine lv_icmp_ge (tgt := 57) hx hb dA_areOfText_16 (by decide) (fun c_3 => ?_) (fun c_3 => ?_)
        · skip
          have e_16 : n ≤ k := xi_le c_3 (by omega) (by omega)
          refine lv_iconst (v := 1) hx hb dA_areOfText_57 (by decide) ?_
          exact W.zret (v := 1) hx hb hr (rfl) (fun t ht _ => ⟨by rw [show sh_b (sh_areT x0 (nI n)) = 1 from by rw [sh_areT_n hn, sh_bytes_all (fun j hj9 => hj j (by omega))]; rfl], ht⟩) t_nil dA_areOfText_58
        have e_16 : k < n := xi_nle c_3 (by omega) (by omega)
        refine lv_lload_n hx hb dA_areOfText_19 rfl (lv_at hl 1 rfl) ?_
        refine lv_iload_n hx hb dA_areOfText_20 rfl (lv_at hl 2 rfl) ?_
        refine lv_iload_n hx hb dA_areOfText_21 rfl (lv_at hl 0 rfl) ?_
        refine rq_call (va_runS (As := [.long x0, .int (nI n), .int (nI k)]) (rest := []) ⟨hx, hb, hml, hown, htz⟩ (k_A_byteAt l x0 (nI n) (nI k)) (cwS 3 htz (zg_S zw_1_108 zw_1_109 zw_1_1 zw_1_110) rfl rfl rfl (by decide +kernel) ⟨Nat.le_of_ble_eq_true rfl, Nat.le_of_ble_eq_true rfl⟩) rq_pre rfl rfl hl.1 rfl (lv_room (Nat.le_of_ble_eq_true rfl)) dA_areOfText_22 ⟨Nat.zero_le _, Nat.zero_le _⟩) ?_
        refine W.eq (g2 := F0 m 25 ls [.int (sh_bA x0 (nI n) (nI k))]) rfl ?_
        refine xw_topi (y := sh_byte x0 n k) (sh_bA_eq (by omega) hn) ?_
        refine lv_istore (lv' := [(4, .int (sh_byte x0 n k)), (3, .int (nI k)), (0, .long x0), (2, .int (nI n))]) hx hb dA_areOfText_25 hl (by decide) rfl (fun ls hl => ?_)
        refine lv_iload hx hb dA_areOfText_27 (lv_at hl 0 rfl) ?_
        refine rq_call (va_runS (As := [.int (sh_byte x0 n k)]) (rest := []) ⟨hx, hb, hml, hown, htz⟩ (k_A_isBlank l (sh_byte x0 n k)) (cwS 1 htz (zg_S zw_1_112 zw_1_113 zw_1_1 zw_1_114) rfl rfl rfl (by decide +kernel) ⟨Nat.le_of_ble_eq_true rfl, Nat.le_of_ble_eq_true rfl⟩) rq_pre rfl rfl hl.1 rfl (lv_room (Nat.le_of_ble_eq_true rfl)) dA_areOfText_29 ⟨Nat.zero_le _, Nat.zero_le _⟩) ?_
        refine W.eq (g2 := F0 m 32 ls [.int (sh_b (sh_blank (sh_byte x0 n k)))]) rfl ?_
        refine lv_if_ne (tgt := 51) hx hb dA_areOfText_32 (by decide) (fun c_4 => ?_) (fun c_4 => ?_)
        · skip
          refine lv_iinc (v := nI (k + 1)) (lv' := [(3, .int (nI (k + 1))), (4, .int (sh_byte x0 n k)), (0, .long x0), (2, .int (nI n))]) hx hb dA_areOfText_51 hl (k := 1) rfl (nI_1 k) (by decide) rfl (fun ls hl => ?_)
          refine lv_goto (tgt := 14) hx hb dA_areOfText_54 (by decide) ?_
          exact ih_loop_14 (k + 1) (by omega) (by omega) (lt_s hj (by grind [sh_ok, sh_b])) ls (lv_sub hl [0, 2, 3] rfl)
        refine lv_iload hx hb dA_areOfText_35 (lv_at hl 0 rfl) ?_
        refine lv_bipush (v := 32) hx hb dA_areOfText_37 (by decide) ?_
        refine lv_icmp_lt (tgt := 49) hx hb dA_areOfText_39 (by decide) (fun c_5 => ?_) (fun c_5 => ?_)
        · skip
          refine lv_iconst (v := 0) hx hb dA_areOfText_49 (by decide) ?_
          exact W.zret (v := 0) hx hb hr (rfl) (fun t ht _ => ⟨by rw [show sh_b (sh_areT x0 (nI n)) = 0 from by rw [sh_areT_n hn, sh_bytes_not (j := k) (by omega) (by grind [sh_ok, sh_b])]; rfl], ht⟩) t_nil dA_areOfText_50
        refine lv_iload hx hb dA_areOfText_42 (lv_at hl 0 rfl) ?_
        refine lv_bipush (v := 126) hx hb dA_areOfText_44 (by decide) ?_
        refine lv_icmp_le (tgt := 51) hx hb dA_areOfText_46 (by decide) (fun c_6 => ?_) (fun c_6 => ?_)
        · skip
          refine lv_iinc (v := nI (k + 1)) (lv' := [(3, .int (nI (k + 1))), (4, .int (sh_byte x0 n k)), (0, .long x0), (2, .int (nI n))]) hx hb dA_areOfText_51 hl (k := 1) rfl (nI_1 k) (by decide) rfl (fun ls hl => ?_)
          refine lv_goto (tgt := 14) hx hb dA_areOfText_54 (by decide) ?_
          exact ih_loop_14 (k + 1) (by omega) (by omega) (lt_s hj (by grind [sh_ok, sh_b])) ls (lv_sub hl [0, 2, 3] rfl)
        refine lv_iconst (v := 0) hx hb dA_areOfText_49 (by decide) ?_
        exact W.zret (v := 0) hx hb hr (rfl) (fun t ht _ => ⟨by rw [show sh_b (sh_areT x0 (nI n)) = 0 from by rw [sh_areT_n hn, sh_bytes_not (j := k) (by omega) (by grind [sh_ok, sh_b])]; rfl], ht⟩) t_nil dA_areOfText_50
    exact loop_14 _ 0 (Nat.lt_succ_self _) (Nat.zero_le _) (fun j h => absurd h (Nat.not_lt_zero _)) ls (lv_sub hl [0, 1, 2] rfl)
  refine lv_iconst (v := 0) hx hb dA_areOfText_10 (by decide) ?_
  exact W.zret (v := 0) hx hb hr (rfl) (fun t ht _ => ⟨by rw [show sh_b (sh_areT x0 n0) = 0 from by grind [sh_b, sh_areT]], ht⟩) t_nil dA_areOfText_11
set_option maxHeartbeats 4000000 in
set_option maxRecDepth 100000 in
/-- areName(chars, n) -/
theorem k_A_areName (l : Launch) (x0 : Int64) (n0 : Int32) : Met l yA_areName wsA_areName ({ frames := 2, cells := 0, slots := 0, locals := 60 }) (va_Pc [.long x0, .int n0] (fun _ => True)) (rq_ (some (.int (sh_b (sh_areN x0 n0))))) 0 0 (fun _ => False) := by
  refine Met.ofW (cc := cA_areName) (maxL := 4) (ret := (some .boolean)) (by decide) rfl ?_
  intro p e s m args below meth c s₁ B hml hv
  obtain ⟨rfl, -⟩ := hv
  have hx := B.exec
  have hb := B.bytes
  have hr := B.returns
  have htz : ∀ w ∈ zw, w.before _ s = true := fun w h => atoms_spec (ws := wsA_areName) B.pre w (List.mem_cons_of_mem _ h)
  have hown : s.vm.findClass "ShellSum" = some m.cls := findClass_of_methodNamed B.named
  have hlocks := B.notSynchronized
  have hl := lv_entry ([.long x0, .int n0]) (n := 4) (Nat.le_of_ble_eq_true rfl)
  rw [lg_entry_eq]
  generalize (lg_sl ([.long x0, .int n0]) ++ List.replicate (4 - (lg_sl ([.long x0, .int n0])).length) Slot.unset).toArray = ls at hl ⊢
  have hl : lv_has ls 4 [(0, .long x0), (2, .int n0)] := hl
  refine lv_iload_n hx hb dA_areName_0 rfl (lv_at hl 1 rfl) ?_
  refine lv_iconst (v := 1) hx hb dA_areName_1 (by decide) ?_
  refine lv_icmp_lt (tgt := 23) hx hb dA_areName_2 (by decide) (fun c_1 => ?_) (fun c_1 => ?_)
  · skip
    refine lv_iconst (v := 0) hx hb dA_areName_23 (by decide) ?_
    exact W.zret (v := 0) hx hb hr (rfl) (fun t ht _ => ⟨by rw [show sh_b (sh_areN x0 n0) = 0 from by grind [sh_b, sh_areN]], ht⟩) t_nil dA_areName_24
  refine lv_iload_n hx hb dA_areName_5 rfl (lv_at hl 1 rfl) ?_
  refine lv_bipush (v := 8) hx hb dA_areName_6 (by decide) ?_
  refine lv_icmp_gt (tgt := 23) hx hb dA_areName_8 (by decide) (fun c_2 => ?_) (fun c_2 => ?_)
  · skip
    refine lv_iconst (v := 0) hx hb dA_areName_23 (by decide) ?_
    exact W.zret (v := 0) hx hb hr (rfl) (fun t ht _ => ⟨by rw [show sh_b (sh_areN x0 n0) = 0 from by grind [sh_b, sh_areN]], ht⟩) t_nil dA_areName_24
  obtain ⟨n, hn, rfl⟩ : ∃ n : Nat, n ≤ 8 ∧ n0 = nI n := nI_of2 (M := 8) rfl (by grind) (by grind)
  have hn1 : 1 ≤ n := xi_nlt (a := n) (b := 1) c_1 (by omega) (by decide)
  refine lv_lload_n hx hb dA_areName_11 rfl (lv_at hl 0 rfl) ?_
  refine lv_iload_n hx hb dA_areName_12 rfl (lv_at hl 1 rfl) ?_
  refine lv_iconst (v := 0) hx hb dA_areName_13 (by decide) ?_
  refine xw_topi (y := nI 0) (nI_0.symm) ?_
  refine rq_call (va_runS (As := [.long x0, .int (nI n), .int (nI 0)]) (rest := []) ⟨hx, hb, hml, hown, htz⟩ (k_A_byteAt l x0 (nI n) (nI 0)) (cwS 3 htz (zg_S zw_1_108 zw_1_109 zw_1_1 zw_1_110) rfl rfl rfl (by decide +kernel) ⟨Nat.le_of_ble_eq_true rfl, Nat.le_of_ble_eq_true rfl⟩) rq_pre rfl rfl hl.1 rfl (lv_room (Nat.le_of_ble_eq_true rfl)) dA_areName_14 ⟨Nat.zero_le _, Nat.zero_le _⟩) ?_
  refine W.eq (g2 := F0 m 17 ls [.int (sh_bA x0 (nI n) (nI 0))]) rfl ?_
  refine xw_topi (y := sh_byte x0 n 0) (sh_bA_eq (by omega) hn) ?_
  refine rq_call (va_runS (As := [.int (sh_byte x0 n 0)]) (rest := []) ⟨hx, hb, hml, hown, htz⟩ (k_A_startsName l (sh_byte x0 n 0)) (cwS 1 htz (zg_S zw_1_125 zw_1_126 zw_1_1 zw_1_127) rfl rfl rfl (by decide +kernel) ⟨Nat.le_of_ble_eq_true rfl, Nat.le_of_ble_eq_true rfl⟩) rq_pre rfl rfl hl.1 rfl (lv_room (Nat.le_of_ble_eq_true rfl)) dA_areName_17 ⟨Nat.zero_le _, Nat.zero_le _⟩) ?_
  refine W.eq (g2 := F0 m 20 ls [.int (sh_b (sh_start (sh_byte x0 n 0)))]) rfl ?_
  refine lv_if_ne (tgt := 25) hx hb dA_areName_20 (by decide) (fun c_3 => ?_) (fun c_3 => ?_)
  · skip
    refine lv_iconst (v := 1) hx hb dA_areName_25 (by decide) ?_
    refine xw_topi (y := nI 1) (rfl) ?_
    refine lv_istore_n (lv' := [(3, .int (nI 1)), (0, .long x0), (2, .int (nI n))]) hx hb dA_areName_26 rfl hl (by decide) rfl (fun ls hl => ?_)
    have loop_27 : ∀ (f_loop_27 : Nat) (k : Nat), n - k < f_loop_27 → (1 ≤ k) → (k ≤ n) → (∀ j, j < k → sh_word (sh_byte x0 n j) = true) → (sh_start (sh_byte x0 n 0) = true) → ∀ ls : Array Slot, lv_has ls 4 [(3, .int (nI k)), (0, .long x0), (2, .int (nI n))] → W p l e (headSpec wsA_areName ({ frames := 2, cells := 0, slots := 0, locals := 60 })).room s m ([.long x0, .int (nI n)] : List Value).toArray below meth c s.heap [] 0 0 (MQ below (rq_ (some (.int (sh_b (sh_areN x0 (nI n)))))) ([.long x0, .int (nI n)] : List Value).toArray s 0 0 (fun _ => False)) (F0 m 27 ls []) := by
      intro f_loop_27
      induction f_loop_27 with
      | zero => intro k hf; exact absurd hf (Nat.not_lt_zero _)
      | succ f_loop_27 ih_loop_27 =>
        intro k hf_loop_27 hk1 hk hj hs ls hl
        refine lv_iload_n hx hb dA_areName_27 rfl (lv_at hl 0 rfl) ?_
        refine lv_iload_n hx hb dA_areName_28 rfl (lv_at hl 2 rfl) ?_
        refine lv_icmp_ge (tgt := 52) hx hb dA_areName_29 (by decide) (fun c_4 => ?_) (fun c_4 => ?_)
        · skip
          have e_29 : n ≤ k := xi_le c_4 (by omega) (by omega)
          refine lv_iconst (v := 1) hx hb dA_areName_52 (by decide) ?_
          exact W.zret (v := 1) hx hb hr (rfl) (fun t ht _ => ⟨by rw [show sh_b (sh_areN x0 (nI n)) = 1 from by rw [sh_areN_n hn1 hn, hs, sh_bytes_all (fun j hj9 => hj j (by omega))]; rfl], ht⟩) t_nil dA_areName_53
        have e_29 : k < n := xi_nle c_4 (by omega) (by omega)
        refine lv_lload_n hx hb dA_areName_32 rfl (lv_at hl 1 rfl) ?_
        refine lv_iload_n hx hb dA_areName_33 rfl (lv_at hl 2 rfl) ?_
        refine lv_iload_n hx hb dA_areName_34 rfl (lv_at hl 0 rfl) ?_
        refine rq_call (va_runS (As := [.long x0, .int (nI n), .int (nI k)]) (rest := []) ⟨hx, hb, hml, hown, htz⟩ (k_A_byteAt l x0 (nI n) (nI k)) (cwS 3 htz (zg_S zw_1_108 zw_1_109 zw_1_1 zw_1_110) rfl rfl rfl (by decide +kernel) ⟨Nat.le_of_ble_eq_true rfl, Nat.le_of_ble_eq_true rfl⟩) rq_pre rfl rfl hl.1 rfl (lv_room (Nat.le_of_ble_eq_true rfl)) dA_areName_35 ⟨Nat.zero_le _, Nat.zero_le _⟩) ?_
        refine W.eq (g2 := F0 m 38 ls [.int (sh_bA x0 (nI n) (nI k))]) rfl ?_
        refine xw_topi (y := sh_byte x0 n k) (sh_bA_eq (by omega) hn) ?_
        refine rq_call (va_runS (As := [.int (sh_byte x0 n k)]) (rest := []) ⟨hx, hb, hml, hown, htz⟩ (k_A_isOfWord l (sh_byte x0 n k)) (cwS 1 htz (zg_S zw_1_128 zw_1_129 zw_1_1 zw_1_130) rfl rfl rfl (by decide +kernel) ⟨Nat.le_of_ble_eq_true rfl, Nat.le_of_ble_eq_true rfl⟩) rq_pre rfl rfl hl.1 rfl (lv_room (Nat.le_of_ble_eq_true rfl)) dA_areName_38 ⟨Nat.zero_le _, Nat.zero_le _⟩) ?_
        refine W.eq (g2 := F0 m 41 ls [.int (sh_b (sh_word (sh_byte x0 n k)))]) rfl ?_
        refine lv_if_ne (tgt := 46) hx hb dA_areName_41 (by decide) (fun c_5 => ?_) (fun c_5 => ?_)
        · skip
          refine lv_iinc (v := nI (k + 1)) (lv' := [(3, .int (nI (k + 1))), (0, .long x0), (2, .int (nI n))]) hx hb dA_areName_46 hl (k := 0) rfl (nI_1 k) (by decide) rfl (fun ls hl => ?_)
          refine lv_goto (tgt := 27) hx hb dA_areName_49 (by decide) ?_
          exact ih_loop_27 (k + 1) (by omega) (by omega) (by omega) (lt_s hj (by grind [sh_b])) (hs) ls (lv_sub hl [0, 1, 2] rfl)
        refine lv_iconst (v := 0) hx hb dA_areName_44 (by decide) ?_
        exact W.zret (v := 0) hx hb hr (rfl) (fun t ht _ => ⟨by rw [show sh_b (sh_areN x0 (nI n)) = 0 from by rw [sh_areN_n hn1 hn, sh_bytes_not (j := k) (p := sh_word) (by omega) (by grind [sh_b])]; simp [sh_b]], ht⟩) t_nil dA_areName_45
    exact loop_27 _ 1 (Nat.lt_succ_self _) (Nat.le_refl _) (hn1) (fun j h => by rw [show j = 0 by omega]; grind [sh_word, sh_b]) (by grind [sh_b]) ls (lv_sub hl [0, 1, 2] rfl)
  refine lv_iconst (v := 0) hx hb dA_areName_23 (by decide) ?_
  exact W.zret (v := 0) hx hb hr (rfl) (fun t ht _ => ⟨by rw [show sh_b (sh_areN x0 (nI n)) = 0 from by rw [sh_areN_n hn1 hn]; grind [sh_b]], ht⟩) t_nil dA_areName_24
