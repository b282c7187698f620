/-! The reference: a machine with a row of work. -/
def m_at (tx : List Int32) (i : Nat) : Int32 := if i < tx.length then sh_at tx i else -1
/-- how many characters the sign of an assignment takes here; 0: none stands -/
def m_gc (c d f : Int32) : Nat := if c = 61 then (if d = 61 then 0 else 1) else if (c = 60 ∨ c = 62) ∧ d = c then (if f = 61 then 3 else 0)
  else if (c = 42 ∨ c = 47 ∨ c = 37 ∨ c = 43 ∨ c = 45 ∨ c = 38 ∨ c = 94 ∨ c = 124) ∧ d = 61 then 2 else 0
def m_gv (tx : List Int32) (pl : Nat) : Nat := m_gc (m_at tx (sh_skip tx pl)) (m_at tx (sh_skip tx pl + 1)) (m_at tx (sh_skip tx pl + 2))
def m_rc (c d f : Int32) : Nat := if c = 124 then (if d = 124 then 1 else if d = 61 then 0 else 3) else if c = 38 then (if d = 38 then 2 else if d = 61 then 0 else 5)
  else if c = 94 then (if d = 61 then 0 else 4) else if c = 61 ∨ c = 33 then (if d = 61 then 6 else 0) else if c = 60 ∨ c = 62 then (if ¬ d = c then 7 else if f = 61 then 0 else 8)
  else if c = 43 ∨ c = 45 then (if d = 61 then 0 else 9) else if (c = 42 ∨ c = 47 ∨ c = 37) ∧ ¬ d = 61 then 10 else 0
def m_rk (tx : List Int32) (pl : Nat) : Nat := m_rc (m_at tx (sh_skip tx pl)) (m_at tx (sh_skip tx pl + 1)) (m_at tx (sh_skip tx pl + 2))
def m_jn (c r : Int32) (eq : Bool) (a b : Int64) : Int64 :=
  if c = 33 then (if a = b then 0 else 1) else if c = 37 then (if b = 0 then 0 else a - a / b * b) else if c = 38 then (if r = 2 then (if a = 0 then 0 else if b = 0 then 0 else 1) else a &&& b)
  else if c = 42 then a * b else if c = 43 then a + b else if c = 45 then a - b else if c = 47 then (if b = 0 then 0 else a / b)
  else if c = 60 then (if r = 8 then a <<< (b.toInt32.toInt64 &&& 63) else if a < b then 1 else if eq = true ∧ a = b then 1 else 0)
  else if c = 61 then (if a = b then 1 else 0) else if c = 94 then a ^^^ b else if c = 124 then (if r = 1 then (if a = 0 then (if b = 0 then 0 else 1) else 1) else a ||| b)
  else (if r = 8 then a >>> (b.toInt32.toInt64 &&& 63) else if b < a then 1 else if eq = true ∧ a = b then 1 else 0)
def m_jb (c : Int32) (b : Int64) (nd : Bool) : Bool := (decide (c = 47) || decide (c = 37)) && (nd && decide (b = 0))
abbrev mI : Type := Nat × Bool × Int32 × Int32 × Int64
/-- the work that waits, on the heap -/
def zSt (fS fL f1 f2 : Nat → Int32) (fK : Nat → Int64) : List mI → Prop
  | [] => True
  | q :: k => fS k.length = nI q.1 ∧ fL k.length = sh_b q.2.1 ∧ f1 k.length = q.2.2.1 ∧ f2 k.length = q.2.2.2.1 ∧ fK k.length = q.2.2.2.2 ∧ zSt fS fL f1 f2 fK k
theorem sh_b_nar (b : Bool) : vp_nar .boolean (sh_b b) = sh_b b := by cases b <;> rfl
theorem zSt_same {fS fL f1 f2 gS gL g1 g2 : Nat → Int32} {fK gK : Nat → Int64} {k : List mI} (h : ∀ j, j < k.length → gS j = fS j ∧ gL j = fL j ∧ g1 j = f1 j ∧ g2 j = f2 j ∧ gK j = fK j) (hp : zSt fS fL f1 f2 fK k) : zSt gS gL g1 g2 gK k := by
  induction k with
  | nil => trivial
  | cons q r ih =>
    have hl : (q :: r).length = r.length + 1 := rfl
    obtain ⟨h1, h2, h3, h4, h5⟩ := h r.length (by omega)
    exact ⟨h1.trans hp.1, h2.trans hp.2.1, h3.trans hp.2.2.1, h4.trans hp.2.2.2.1, h5.trans hp.2.2.2.2.1, ih (fun j hj => h j (by omega)) hp.2.2.2.2.2⟩
theorem zSt_push {fS fL f1 f2 : Nat → Int32} {fK : Nat → Int64} {k : List mI} (q : mI) {n : Nat} (hn : k.length = n) (hp : zSt fS fL f1 f2 fK k) : zSt (upd fS n (nI q.1)) (upd fL n (sh_b q.2.1)) (upd f1 n q.2.2.1) (upd f2 n q.2.2.2.1) (vp_updL fK n q.2.2.2.2) (q :: k) := by
  subst hn
  exact ⟨pk_us, pk_us, pk_us, pk_us, if_pos rfl, zSt_same (fun j hj => ⟨pk_un (by omega), pk_un (by omega), pk_un (by omega), pk_un (by omega), if_neg (by omega)⟩) hp⟩
theorem m_at_in {tx : List Int32} {i : Nat} (h : i < tx.length) : m_at tx i = sh_at tx i := if_pos h
theorem m_at_out {tx : List Int32} {i : Nat} (h : tx.length ≤ i) : m_at tx i = -1 := if_neg (by omega)
