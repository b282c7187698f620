set_option maxHeartbeats 8000000 in
set_option maxRecDepth 100000 in
/-- on to the next group -/
theorem law_393 {p : Program} {l : Launch} {e : Env} {s : State} {m : MethodId} {below : List Frame} {meth : Method} {c : Code} {dC : Nat → ClassId} {dI : Nat → Nat → Nat} {b L : Nat} {xs : Nat → Int32} {kC kI kJ kQ kZ : ClassId} {a0 aR aN aS aF aK aA aH ao am bT bU bS b1 b2 bL bK bV bN bX bA bB bH : Nat} (hl9 : l.stackTraces = false) (hL : L ≤ 2048) (C0 : lw_At p s m meth c b L xs) (hK5 : va_K (dC, dI) vwCl [(kC, .char), (kI, .int), (kJ, .long), (kQ, .object "ShellSum$Named"), (kZ, .boolean)] s) (hN : zN s) (hT : zS s) (hU : zU (fun q : Nat => s.heap.size ≤ q) s s.heap) {g : Nat} (hgb : 4 * g ≤ L) (hk : lwAt p l e s m below meth c dC dI b kC kI kJ kQ kZ a0 aR aN aS aF aK aA aH ao am bT bU bS b1 b2 bL bK bV bN bX bA bB bH 23 (g + 1) (g + 1)) : lwAt p l e s m below meth c dC dI b kC kI kJ kQ kZ a0 aR aN aS aF aK aA aH ao am bT bU bS b1 b2 bL bK bV bN bX bA bB bH 393 g (g + 1) := by
  obtain ⟨hx, hb, hr, hml, hown, hts, hX, hbl, hlocks, hgv⟩ := C0
  have htz : ∀ w ∈ zw, w.before #[Value.ref b] s = true := fun w h => hts w (zw_t h)
  have hA : ∀ q : Nat, s.heap.size ≤ q → (fun q : Nat => s.heap.size ≤ q) q := fun _ h => h
  have hbA : ¬ (fun q : Nat => s.heap.size ≤ q) b := Nat.not_le.mpr hbl
  intro tx nl env rt wg wt un pl ln fh rs fx sg ff q ns fr fo cd ml mp ne bd wa hi nu fT fU fS f1 f2 fL fN fX fA fB fH fK fV sl hx3 hO hn1 hn8 hBn hfh hfx hE hft hfH hM H locs hP hD hS ls hl
  have hl : lv_has ls 8 [(0, .ref b), (1, .ref aA), (2, .ref am), (3, .ref ao), (4, .int (nI (4 * g)))] := hl
  refine lv_iinc (v := nI (4 * (g + 1))) (lv' := [(4, .int (nI (4 * (g + 1)))), (0, .ref b), (1, .ref aA), (2, .ref am), (3, .ref ao)]) hx hb dL_law_393 hl (k := 4) rfl ((nI_add (4 * g) 4).trans rfl) (by decide) rfl (fun ls hl => ?_)
  refine lv_goto (tgt := 23) hx hb dL_law_396 (by decide) ?_
  exact hk tx nl env rt wg wt un pl ln fh rs fx sg ff q ns fr fo cd ml mp ne bd wa hi nu fT fU fS f1 f2 fL fN fX fA fB fH fK fV sl hx3 hO hn1 hn8 hBn hfh hfx hE hft hfH hM _ _ hP hD hS ls (lv_sub hl [1, 2, 3, 4, 0] rfl)
theorem law_loop {p : Program} {l : Launch} {e : Env} {s : State} {m : MethodId} {below : List Frame} {meth : Method} {c : Code} {dC : Nat → ClassId} {dI : Nat → Nat → Nat} {b L : Nat} {xs : Nat → Int32} {kC kI kJ kQ kZ : ClassId} {a0 aR aN aS aF aK aA aH ao am bT bU bS b1 b2 bL bK bV bN bX bA bB bH : Nat} (hl9 : l.stackTraces = false) (hL : L ≤ 2048) (C0 : lw_At p s m meth c b L xs) (hK5 : va_K (dC, dI) vwCl [(kC, .char), (kI, .int), (kJ, .long), (kQ, .object "ShellSum$Named"), (kZ, .boolean)] s) (hN : zN s) (hT : zS s) (hU : zU (fun q : Nat => s.heap.size ≤ q) s s.heap) : ∀ (n g : Nat), 4 * g ≤ L + 4 → L + 4 ≤ 4 * g + n → lwAt p l e s m below meth c dC dI b kC kI kJ kQ kZ a0 aR aN aS aF aK aA aH ao am bT bU bS b1 b2 bL bK bV bN bX bA bB bH 23 g g := by
  intro n
  induction n with
  | zero => intro g h1 h2; exact law_sw hl9 hL C0 hK5 hN hT hU h1 (fun h => absurd h (by omega))
  | succ n ih => intro g h1 h2; exact law_sw hl9 hL C0 hK5 hN hT hU h1 (fun h => law_393 hl9 hL C0 hK5 hN hT hU (by omega) (ih (g + 1) (by omega) (by omega)))
