set_option maxHeartbeats 8000000 in
set_option maxRecDepth 100000 in
/-- a group of the script -/
theorem law_sw {p : Program} {l : Launch} {e : Env} {s : State} {m : MethodId} {below : List Frame} {meth : Method} {c : Code} {dC : Nat → ClassId} {dI : Nat → Nat → Nat} {b L : Nat} {xs : Nat → Int32} {kC kI kJ kQ kZ : ClassId} {a0 aR aN aS aF aK aA aH ao am bT bU bS b1 b2 bL bK bV bN bX bA bB bH : Nat} (hl9 : l.stackTraces = false) (hL : L ≤ 2048) (C0 : lw_At p s m meth c b L xs) (hK5 : va_K (dC, dI) vwCl [(kC, .char), (kI, .int), (kJ, .long), (kQ, .object "ShellSum$Named"), (kZ, .boolean)] s) (hN : zN s) (hT : zS s) (hU : zU (fun q : Nat => s.heap.size ≤ q) s s.heap) {g : Nat} (hgb : 4 * g ≤ L + 4) (hk : 4 * g + 4 ≤ L → lwAt p l e s m below meth c dC dI b kC kI kJ kQ kZ a0 aR aN aS aF aK aA aH ao am bT bU bS b1 b2 bL bK bV bN bX bA bB bH 393 g (g + 1)) : lwAt p l e s m below meth c dC dI b kC kI kJ kQ kZ a0 aR aN aS aF aK aA aH ao am bT bU bS b1 b2 bL bK bV bN bX bA bB bH 23 g g := by
  have C1 := C0
  obtain ⟨hx, hb, hr, hml, hown, hts, hX, hbl, hlocks, hgv⟩ := C0
  have htz : ∀ w ∈ zw, w.before #[Value.ref b] s = true := fun w h => hts w (zw_t h)
  have hA : ∀ q : Nat, s.heap.size ≤ q → (fun q : Nat => s.heap.size ≤ q) q := fun _ h => h
  have hbA : ¬ (fun q : Nat => s.heap.size ≤ q) b := Nat.not_le.mpr hbl
  intro tx nl env rt wg wt un pl ln fh rs fx sg ff q ns fr fo cd ml mp ne bd wa hi nu fT fU fS f1 f2 fL fN fX fA fB fH fK fV sl hx3 hO hn1 hn8 hBn hfh hfx hE hft hfH hM H locs hP hD hS ls hl
  have hl : lv_has ls 8 [(0, .ref b), (1, .ref aA), (2, .ref am), (3, .ref ao), (4, .int (nI (4 * g)))] := hl
  have h64 := hM.2.2.2.2
  refine lv_iload hx hb dL_law_23 (lv_at hl 4 rfl) ?_
  refine lv_aload_n hx hb dL_law_25 rfl (lv_at hl 0 rfl) ?_
  refine va_slen hx hb hX hbl hbA hS dL_law_26 ?_
  refine W.eq (g2 := F0 m 27 ls [.int (nI L), .int (nI (4 * g))]) rfl ?_
  refine lv_iconst (v := 4) hx hb dL_law_27 (by decide) ?_
  refine lv_isub hx hb dL_law_28 ?_
  refine lv_icmp_gt (tgt := 399) hx hb dL_law_29 (by decide) (fun c_1 => ?_) (fun c_1 => ?_)
  · skip
    refine lv_iconst (v := 1) hx hb dL_law_399 (by decide) ?_
    refine va_forget (fun q9 hq9 => hS.2.2 q9 hq9) ?_
    refine W.widen (k := 601024) (n := 7293034) (by omega) (by omega) ?_
    exact lw_ret hx hb hr hlocks dL_law_400
  have hg : 4 * g + 4 ≤ L := Decidable.not_not.mp (mt (law_gt (by omega) (by omega)).mpr c_1)
  refine lv_aload_n hx hb dL_law_32 rfl (lv_at hl 0 rfl) ?_
  refine lv_iload hx hb dL_law_33 (lv_at hl 4 rfl) ?_
  refine va_sld hx hb hX hbl hbA hS (vp_in_nI (by omega) (by omega)) dL_law_35 ?_
  refine xw_topi (y := xs (4 * g)) (by rw [nI_clamp (by omega)]) ?_
  refine lv_bipush (v := 7) hx hb dL_law_36 (by decide) ?_
  refine lv_iand hx hb dL_law_38 ?_
  by_cases c_2 : ((xs (4 * g)) &&& 7) = 0
  · skip
    refine lv_tableIn (off := 41) (tgt := 80) hx hb dL_law_39 (by rw [c_2]; decide) (by rw [c_2]; decide) (by rw [c_2]; rfl) (by decide) ?_
    exact law_0 hl9 hL C1 hK5 hN hT hU hg (hk hg) tx nl env rt wg wt un pl ln fh rs fx sg ff q ns fr fo cd ml mp ne bd wa hi nu fT fU fS f1 f2 fL fN fX fA fB fH fK fV sl hx3 hO hn1 hn8 hBn hfh hfx hE hft hfH hM _ _ hP hD hS ls (lv_sub hl [0, 1, 2, 3, 4] rfl)
  by_cases c_3 : ((xs (4 * g)) &&& 7) = 1
  · skip
    refine lv_tableIn (off := 110) (tgt := 149) hx hb dL_law_39 (by rw [c_3]; decide) (by rw [c_3]; decide) (by rw [c_3]; rfl) (by decide) ?_
    exact law_1 hl9 hL C1 hK5 hN hT hU hg (hk hg) tx nl env rt wg wt un pl ln fh rs fx sg ff q ns fr fo cd ml mp ne bd wa hi nu fT fU fS f1 f2 fL fN fX fA fB fH fK fV sl hx3 hO hn1 hn8 hBn hfh hfx hE hft hfH hM _ _ hP hD hS ls (lv_sub hl [0, 1, 2, 3, 4] rfl)
  by_cases c_4 : ((xs (4 * g)) &&& 7) = 2
  · skip
    refine lv_tableIn (off := 153) (tgt := 192) hx hb dL_law_39 (by rw [c_4]; decide) (by rw [c_4]; decide) (by rw [c_4]; rfl) (by decide) ?_
    exact law_2 hl9 hL C1 hK5 hN hT hU hg (hk hg) tx nl env rt wg wt un pl ln fh rs fx sg ff q ns fr fo cd ml mp ne bd wa hi nu fT fU fS f1 f2 fL fN fX fA fB fH fK fV sl hx3 hO hn1 hn8 hBn hfh hfx hE hft hfH hM _ _ hP hD hS ls (lv_sub hl [0, 1, 2, 3, 4] rfl)
  by_cases c_5 : ((xs (4 * g)) &&& 7) = 3
  · skip
    refine lv_tableIn (off := 222) (tgt := 261) hx hb dL_law_39 (by rw [c_5]; decide) (by rw [c_5]; decide) (by rw [c_5]; rfl) (by decide) ?_
    exact law_3 hl9 hL C1 hK5 hN hT hU hg (hk hg) tx nl env rt wg wt un pl ln fh rs fx sg ff q ns fr fo cd ml mp ne bd wa hi nu fT fU fS f1 f2 fL fN fX fA fB fH fK fV sl hx3 hO hn1 hn8 hBn hfh hfx hE hft hfH hM _ _ hP hD hS ls (lv_sub hl [0, 1, 2, 3, 4] rfl)
  by_cases c_6 : ((xs (4 * g)) &&& 7) = 4
  · skip
    refine lv_tableIn (off := 291) (tgt := 330) hx hb dL_law_39 (by rw [c_6]; decide) (by rw [c_6]; decide) (by rw [c_6]; rfl) (by decide) ?_
    exact law_4 hl9 hL C1 hK5 hN hT hU hg (hk hg) tx nl env rt wg wt un pl ln fh rs fx sg ff q ns fr fo cd ml mp ne bd wa hi nu fT fU fS f1 f2 fL fN fX fA fB fH fK fV sl hx3 hO hn1 hn8 hBn hfh hfx hE hft hfH hM _ _ hP hD hS ls (lv_sub hl [0, 1, 2, 3, 4] rfl)
  by_cases c_7 : ((xs (4 * g)) &&& 7) = 5
  · skip
    refine lv_tableIn (off := 304) (tgt := 343) hx hb dL_law_39 (by rw [c_7]; decide) (by rw [c_7]; decide) (by rw [c_7]; rfl) (by decide) ?_
    exact law_5 hl9 hL C1 hK5 hN hT hU hg (hk hg) tx nl env rt wg wt un pl ln fh rs fx sg ff q ns fr fo cd ml mp ne bd wa hi nu fT fU fS f1 f2 fL fN fX fA fB fH fK fV sl hx3 hO hn1 hn8 hBn hfh hfx hE hft hfH hM _ _ hP hD hS ls (lv_sub hl [0, 1, 2, 3, 4] rfl)
  by_cases c_8 : ((xs (4 * g)) &&& 7) = 6
  · skip
    refine lv_tableIn (off := 329) (tgt := 368) hx hb dL_law_39 (by rw [c_8]; decide) (by rw [c_8]; decide) (by rw [c_8]; rfl) (by decide) ?_
    exact law_6 hl9 hL C1 hK5 hN hT hU hg (hk hg) tx nl env rt wg wt un pl ln fh rs fx sg ff q ns fr fo cd ml mp ne bd wa hi nu fT fU fS f1 f2 fL fN fX fA fB fH fK fV sl hx3 hO hn1 hn8 hBn hfh hfx hE hft hfH hM _ _ hP hD hS ls (lv_sub hl [0, 1, 2, 3, 4] rfl)
  refine lv_tableOut (tgt := 393) hx hb dL_law_39 (by have e0 := lv_neT c_2 (k := 0) (a := 0) (by decide); have e1 := lv_neT c_3 (k := 1) (a := 1) (by decide); have e2 := lv_neT c_4 (k := 2) (a := 2) (by decide); have e3 := lv_neT c_5 (k := 3) (a := 3) (by decide); have e4 := lv_neT c_6 (k := 4) (a := 4) (by decide); have e5 := lv_neT c_7 (k := 5) (a := 5) (by decide); have e6 := lv_neT c_8 (k := 6) (a := 6) (by decide); omega) (by decide) ?_
  refine W.widen (k := 23 + 5 * (g + 1) + 3 * env.length) (n := 32590 + 335 * (g + 1) + 323 * env.length) (by omega) (by omega) ?_
  exact hk hg tx nl env rt wg wt un pl ln fh rs fx sg ff q ns fr fo cd ml mp ne bd wa hi nu fT fU fS f1 f2 fL fN fX fA fB fH fK fV sl hx3 hO hn1 hn8 hBn hfh hfx hE hft hfH hM _ _ hP hD hS ls (lv_sub hl [0, 1, 2, 3, 4] rfl)
