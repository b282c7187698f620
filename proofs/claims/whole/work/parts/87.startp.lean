theorem zEn_start : zEn (fun _ => none) [] [] := by
  refine ⟨rfl, ?_, ?_, Nat.zero_le _, List.nodup_nil⟩
  all_goals first | (intro x h; exact absurd h List.not_mem_nil) | (intros; simp_all) | rfl
theorem zMn_start : zMn (fun _ => 0) (fun _ => 0) (fun _ => 0) (fun _ => 0) (List.replicate 64 none) [] := by
  refine ⟨List.length_replicate, fun k o h => ?_, ?_, List.nodup_nil, Nat.zero_le _⟩
  · have := List.mem_of_getElem? h
    rw [List.eq_of_mem_replicate this]
    rfl
  · exact List.Perm.refl _
theorem zN_start {b : Nat} {s : State} (hts : ∀ w ∈ lw_tbl, w.before #[Value.ref b] s = true) : zN s := fun w hw => va_Nw.of (zn_on w hw) (hts w (zn_t w hw))
theorem zA_start {ty : FieldType} {s : State} {b : Nat} (h : (Cond.arrayClass ty).before #[Value.ref b] s = true) (hp : ∀ C, ty ≠ .object C) : ∃ cA, ArrOfT s cA ty ∧ va_RA s cA ty := by
  obtain ⟨c, k, comp, h1, h2, h3⟩ := Cond.arrayClass_spec h
  refine ⟨c, fun n z => ⟨fun k h => (by cases h), k, h2, comp, h3⟩, ?_⟩
  cases ty with
  | object C => exact absurd rfl (hp C)
  | _ => exact h1
theorem zQ_start {s : State} (h : va_AO "ShellSum$Named" s) : ∃ cA, ArrOfT s cA (.object "ShellSum$Named") ∧ va_RA s cA (.object "ShellSum$Named") := by
  obtain ⟨comp, c, k, h1, h2, h3, h4, h5⟩ := Cond.arrayOver_spec h
  exact ⟨c, fun n z => ⟨fun k h => (by cases h), k, h3, comp, h4⟩, k, comp, h3, h4, h1, h5⟩
theorem zS1 {own t : String} {k b : Nat} {s : State} (hts : ∀ w ∈ lw_tbl, w.before #[Value.ref b] s = true) (h : Cond.stringRef own k t ∈ lw_tbl) (hx : (Cond.exactly (.string own k) "java/lang/String").before #[Value.ref b] s = true) : ∃ a : Nat, vk_R own k t a s := by
  obtain ⟨a, c, cell, kk, q1, -⟩ := Cond.exactly_spec hx
  exact ⟨a, vk_R.of (hts _ h) q1⟩
theorem zK_start {b : Nat} {s : State} (htz : ∀ w ∈ zw, w.before #[Value.ref b] s = true) (hAO : va_AO "ShellSum$Named" s) : ∃ (dC : Nat → ClassId) (dI : Nat → Nat → Nat) (kC kI kJ kQ kZ : ClassId), va_K (dC, dI) vwCl [(kC, .char), (kI, .int), (kJ, .long), (kQ, .object "ShellSum$Named"), (kZ, .boolean)] s := by
  obtain ⟨c0, i0, h0⟩ := u_known (C := "ShellSum$Named") (T := TN) (N := 3) (n := 3) htz zu_N (htz _ zw_1_149)
  obtain ⟨c1, i1, h1⟩ := u_known (C := "ShellSum$Names") (T := TS) (N := 2) (n := 2) htz zu_S (htz _ zw_1_27)
  obtain ⟨c2, i2, h2⟩ := u_known (C := "ShellSum$Reckoner") (T := TR) (N := 9) (n := 9) htz zu_R (htz _ zw_1_21)
  obtain ⟨c3, i3, h3⟩ := u_known (C := "ShellSum") (T := TA) (N := 8) (n := 8) htz zu_A (htz _ zw_1_13)
  obtain ⟨c4, i4, h4⟩ := u_known (C := "ShellSumModel") (T := TM) (N := 26) (n := 26) htz zu_M (htz _ zw_2_155)
  obtain ⟨kC, aC⟩ := zA_start (htz _ zw_1_42) (fun C h => by cases h)
  obtain ⟨kI, aI⟩ := zA_start (htz _ zw_1_74) (fun C h => by cases h)
  obtain ⟨kJ, aJ⟩ := zA_start (htz _ zw_1_75) (fun C h => by cases h)
  obtain ⟨kZ, aZ⟩ := zA_start (htz _ zw_2_239) (fun C h => by cases h)
  obtain ⟨kQ, aQ⟩ := zQ_start hAO
  refine ⟨fun k => if k = 0 then c0 else if k = 1 then c1 else if k = 2 then c2 else if k = 3 then c3 else c4, fun k => if k = 0 then i0 else if k = 1 then i1 else if k = 2 then i2 else if k = 3 then i3 else i4, kC, kI, kJ, kQ, kZ, ?_, ?_⟩
  · intro k q hq
    match k, hq with
    | 0, hq => cases hq; exact h0
    | 1, hq => cases hq; exact h1
    | 2, hq => cases hq; exact h2
    | 3, hq => cases hq; exact h3
    | 4, hq => cases hq; exact h4
    | k + 5, hq => simp [vwCl] at hq
  · intro k q hq
    match k, hq with
    | 0, hq => cases hq; exact aC
    | 1, hq => cases hq; exact aI
    | 2, hq => cases hq; exact aJ
    | 3, hq => cases hq; exact aQ
    | 4, hq => cases hq; exact aZ
    | k + 5, hq => simp at hq
set_option maxRecDepth 100000 in
theorem zS_start {b : Nat} {s : State} (hts : ∀ w ∈ lw_tbl, w.before #[Value.ref b] s = true) (hgv : (Jvm.Cond.and given_1 narrow_1).before #[Value.ref b] s = true) : zS s := by
  have hs := flat_of_before _ hgv
  have h0 := zS1 hts zw_2_32 (hs (.exactly (.string "ShellSum$Reckoner" 114) "java/lang/String") (by decide +kernel))
  have h1 := zS1 hts zw_2_72 (hs (.exactly (.string "ShellSum" 107) "java/lang/String") (by decide +kernel))
  have h2 := zS1 hts zw_2_77 (hs (.exactly (.string "ShellSum" 113) "java/lang/String") (by decide +kernel))
  have h3 := zS1 hts zw_2_81 (hs (.exactly (.string "ShellSum" 119) "java/lang/String") (by decide +kernel))
  have h4 := zS1 hts zw_2_90 (hs (.exactly (.string "ShellSum$Signs" 23) "java/lang/String") (by decide +kernel))
  have h5 := zS1 hts zw_2_96 (hs (.exactly (.string "ShellSum$Reckoner" 147) "java/lang/String") (by decide +kernel))
  have h6 := zS1 hts zw_2_126 (hs (.exactly (.string "ShellSum$Reckoner" 166) "java/lang/String") (by decide +kernel))
  have h7 := zS1 hts zw_2_132 (hs (.exactly (.string "ShellSum$Reckoner" 126) "java/lang/String") (by decide +kernel))
  have h8 := zS1 hts zw_2_152 (hs (.exactly (.string "ShellSum$Reckoner" 153) "java/lang/String") (by decide +kernel))
  have h9 := zS1 hts zw_2_153 (hs (.exactly (.string "ShellSum" 56) "java/lang/String") (by decide +kernel))
  intro o k t h
  exact (show ∀ q ∈ zstr, ∃ a : Nat, vk_R q.1 q.2.1 q.2.2 a s from List.forall_mem_cons.mpr ⟨h0, List.forall_mem_cons.mpr ⟨h1, List.forall_mem_cons.mpr ⟨h2, List.forall_mem_cons.mpr ⟨h3, List.forall_mem_cons.mpr ⟨h4, List.forall_mem_cons.mpr ⟨h5, List.forall_mem_cons.mpr ⟨h6, List.forall_mem_cons.mpr ⟨h7, List.forall_mem_cons.mpr ⟨h8, List.forall_mem_cons.mpr ⟨h9, fun _ h => absurd h List.not_mem_nil⟩⟩⟩⟩⟩⟩⟩⟩⟩⟩) (o, k, t) h
set_option maxRecDepth 100000 in
theorem zU_start {b : Nat} {s : State} (hts : ∀ w ∈ lw_tbl, w.before #[Value.ref b] s = true) (hgv : (Jvm.Cond.and given_1 narrow_1).before #[Value.ref b] s = true) : zU (fun q : Nat => s.heap.size ≤ q) s s.heap := by
  have hs := flat_of_before _ hgv
  exact ⟨vx_Zqof (hts _ zw_2_20) (hts _ (zw_t zw_1_6)) (hs (.isRef (.static "java/lang/Throwable" "UNASSIGNED_STACK" "[Ljava/lang/StackTraceElement;")) (by decide +kernel)) (fun a h => Nat.not_le.mpr h), vx_Zqof (hts _ zw_2_22) (hts _ (zw_t zw_1_6)) (hs (.isRef (.static "java/lang/Throwable" "SUPPRESSED_SENTINEL" "Ljava/util/List;")) (by decide +kernel)) (fun a h => Nat.not_le.mpr h)⟩
