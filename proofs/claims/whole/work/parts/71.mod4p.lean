/-! the reference's world by its parts -/
abbrev mW (kI kJ kZ : ClassId) (am bT bU bS b1 b2 bL bK bV bN bX bA bB bH : Nat) (cd fsz ln pl ne bd wa hi my gd wr hs : Int32) (nu : Int64) (fT fU fS f1 f2 fL fN fX fA fB fH : Nat → Int32) (fK fV : Nat → Int64) (tl : va_W) : va_W := ((am, .inr (4, [.int cd, .ref bT, .ref bU, .int fsz, .int ln, .int pl, .int ne, .int bd, .ref bS, .ref b1, .ref b2, .ref bL, .ref bK, .ref bV, .int wa, .int hi, .ref bN, .ref bX, .ref bA, .ref bB, .int my, .int gd, .int wr, .ref bH, .int hs, .long nu])) :: (bT, .inl (kI, 300, .inl fT)) :: (bU, .inl (kI, 300, .inl fU)) :: (bS, .inl (kI, 2000, .inl fS)) :: (b1, .inl (kI, 2000, .inl f1)) :: (b2, .inl (kI, 2000, .inl f2)) :: (bL, .inl (kZ, 2000, .inl fL)) :: (bK, .inl (kJ, 2000, .inr (.inl fK))) :: (bV, .inl (kJ, 400, .inr (.inl fV))) :: (bN, .inl (kI, 19200, .inl fN)) :: (bX, .inl (kI, 1536, .inl fX)) :: (bA, .inl (kI, 64, .inl fA)) :: (bB, .inl (kI, 64, .inl fB)) :: (bH, .inl (kI, 8, .inl fH)) :: tl)
def zVv (fV : Nat → Int64) (hi : Int32) (v : Option Int64) : Prop := match v with
  | none => hi = nI 0
  | some x => hi = nI (0 + 1) ∧ fV 0 = x
def zMs (pl ne bd wa hi : Int32) (fS f1 f2 fL : Nat → Int32) (fK fV : Nat → Int64) (o : Option mS) : Prop := match o with
  | none => bd = 1
  | some s => bd = 0 ∧ pl = nI s.2.1 ∧ ne = nI s.2.2.1 ∧ wa = nI s.1.length ∧ zSt fS fL f1 f2 fK s.1 ∧ zVv fV hi s.2.2.2.1
def m_en (env : sh_Env) (o : Option mS) : sh_Env := match o with
  | none => env
  | some s => s.2.2.2.2
def zMd (kI kJ kZ : ClassId) (am bT bU bS b1 b2 bL bK bV bN bX bA bB bH : Nat) (cd fsz ln gd wr hs : Int32) (fT fU fH : Nat → Int32) (tl : va_W) (o : Option mS) (e2 : sh_Env) (w : va_W) : Prop := ∃ (pl ne bd wa hi : Int32) (nu : Int64) (fS f1 f2 fL fN fX fA fB : Nat → Int32) (fK fV : Nat → Int64) (sl : List mO), zMn fN fX fA fB sl e2 ∧ zMs pl ne bd wa hi fS f1 f2 fL fK fV o ∧ w = mW kI kJ kZ am bT bU bS b1 b2 bL bK bV bN bX bA bB bH cd fsz ln pl ne bd wa hi (nI e2.length) gd wr hs nu fT fU fS f1 f2 fL fN fX fA fB fH fK fV tl
theorem m_gv_le (tx : List Int32) (i : Nat) : m_gv tx i ≤ 3 := by
  unfold m_gv m_gc
  repeat' split
  all_goals decide
theorem gv_in {tx : List Int32} (hO : sh_O tx) {i : Nat} (hi : i ≤ tx.length) (h : 0 < m_gv tx i) : sh_skip tx i + m_gv tx i ≤ tx.length := by
  rcases sgA_ok hO i with ⟨a1, -⟩ | ⟨-, -, -, a4, -⟩
  · omega
  · rw [← a4]; exact (sh_signA_ok hi).2
theorem m_at_st0 {c : Int32} (h : c < 0) : ¬ sh_start c = true := by
  intro q; unfold sh_start at q; grind
theorem m_at_dg0 {c : Int32} (h : c < 0) : ¬ sh_digit c = true := by
  intro q; unfold sh_digit at q; grind
theorem m_at_in0 {tx : List Int32} {i : Nat} {m : Int32} (e : m_at tx i = m) (h : sh_start m = true) : i < tx.length := by
  rcases Nat.lt_or_ge i tx.length with q | q
  · exact q
  · rw [← e, m_at_out q] at h; exact absurd h (by decide)
theorem m_at_in1 {tx : List Int32} {i : Nat} {m : Int32} (e : m_at tx i = m) (h : sh_digit m = true) : i < tx.length := by
  rcases Nat.lt_or_ge i tx.length with q | q
  · exact q
  · rw [← e, m_at_out q] at h; exact absurd h (by decide)
def m_givq (nd : Bool) (ql : List Int32) (o : Int32) (k : List mI) (pl ns : Nat) (x : Int64) (env : sh_Env) : Option mS :=
  if nd = false then some (k, pl, ns - 1, some x, env)
  else match sh_asg env ql (m_sg o) x with
    | (none, _) => none
    | (some y, e2) => some (k, pl, ns - 1, some y, e2)
section
variable {nd : Bool} {ql : List Int32} {o : Int32} {k : List mI} {pl ns : Nat} {x u : Int64} {env : sh_Env}
theorem giv_f (h : nd = false) : m_givq nd ql o k pl ns x env = some (k, pl, ns - 1, some x, env) := if_pos h
theorem giv_0 (h : nd = true) (h0 : o = 0) : m_givq nd ql o k pl ns x env = match sh_put env ql (sh_dec x) with
    | none => none
    | some e2 => some (k, pl, ns - 1, some x, e2) := by
  unfold m_givq
  rw [if_neg (by rw [h]; decide), h0]
  unfold sh_asg
  rw [if_pos (by decide)]
  dsimp only
  cases sh_put env ql (sh_dec x) <;> rfl
theorem giv_n (h : nd = true) (ho : m_ops o = true) (h0 : ¬ o = 0) (hv : sh_nameVal env ql = none) : m_givq nd ql o k pl ns x env = none := by
  unfold m_givq
  rw [if_neg (by rw [h]; decide)]
  unfold sh_asg
  rw [if_neg (do_giv (f := 0) (v := 0) ho h0).1, hv]
  rfl
theorem giv_j (h : nd = true) (ho : m_ops o = true) (h0 : ¬ o = 0) (hv : sh_nameVal env ql = some u) (hj : m_jb o x true = true) : m_givq nd ql o k pl ns x env = none := by
  unfold m_givq
  rw [if_neg (by rw [h]; decide)]
  unfold sh_asg
  rw [if_neg (do_giv (f := 0) (v := 0) ho h0).1, hv]
  dsimp only [Option.bind]
  rw [(do_giv (f := u) (v := x) ho h0).2, if_pos hj]
theorem giv_v (h : nd = true) (ho : m_ops o = true) (h0 : ¬ o = 0) (hv : sh_nameVal env ql = some u) (hj : m_jb o x true = false) : m_givq nd ql o k pl ns x env = match sh_put env ql (sh_dec (m_jn o 8 false u x)) with
    | none => none
    | some e2 => some (k, pl, ns - 1, some (m_jn o 8 false u x), e2) := by
  unfold m_givq
  rw [if_neg (by rw [h]; decide)]
  unfold sh_asg
  rw [if_neg (do_giv (f := 0) (v := 0) ho h0).1, hv]
  dsimp only [Option.bind]
  rw [(do_giv (f := u) (v := x) ho h0).2, if_neg (by rw [hj]; decide)]
  dsimp only
  cases sh_put env ql (sh_dec (m_jn o 8 false u x)) <;> rfl
end

