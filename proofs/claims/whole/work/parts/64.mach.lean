/-! The reference's machine: a row of work, a place, how deep, a value, the names. -/
abbrev mS : Type := List mI × Nat × Nat × Option Int64 × sh_Env
def m_op (tx : List Int32) (j : Nat) : Int64 := if m_gv tx j = 1 then 0 else (sh_at tx (sh_skip tx j)).toInt64
def m_sum (tx : List Int32) (nd : Bool) (k : List mI) (pl ns : Nat) (env : sh_Env) : Option mS :=
  if sh_start (m_at tx (sh_skip tx pl)) = true ∧ 0 < m_gv tx (sh_wend tx (sh_skip tx pl)) then
    (if ns = 40 then none else some ((0, nd, 0, 0, 0) :: (10, nd, nI (sh_skip tx pl), nI (sh_wend tx (sh_skip tx pl) - sh_skip tx pl), m_op tx (sh_wend tx (sh_skip tx pl))) :: k, sh_skip tx (sh_wend tx (sh_skip tx pl)) + m_gv tx (sh_wend tx (sh_skip tx pl)), ns + 1, none, env))
  else some ((4, nd, 1, 0, 0) :: (1, nd, 0, 0, 0) :: k, sh_skip tx pl, ns, none, env)
def m_asks (tx : List Int32) (nd : Bool) (k : List mI) (pl ns : Nat) (x : Int64) (env : sh_Env) : Option mS :=
  if m_at tx (sh_skip tx pl) = 63 then (if ns = 40 then none else some ((0, nd && decide (¬ x = 0), 0, 0, 0) :: (2, nd, sh_b (decide (¬ x = 0)), 0, 0) :: k, sh_skip tx pl + 1, ns + 1, none, env))
  else some (k, sh_skip tx pl, ns, some x, env)
def m_first (tx : List Int32) (nd : Bool) (a : Int32) (k : List mI) (pl ns : Nat) (x : Int64) (env : sh_Env) : Option mS :=
  if m_at tx (sh_skip tx pl) = 58 then some ((4, nd && decide (a = 0), 1, 0, 0) :: (1, nd && decide (a = 0), 0, 0, 0) :: (3, nd, a, 0, x) :: k, sh_skip tx pl + 1, ns, none, env) else none
def m_both (tx : List Int32) (pl : Nat) : Bool := decide (m_rk tx pl = 1) || (decide (m_rk tx pl = 2) || (decide (m_rk tx pl = 6) || (decide (m_rk tx pl = 8) || (decide (m_rk tx pl = 7) && decide (m_at tx (sh_skip tx pl + 1) = 61)))))
def m_other (nd : Bool) (r : Nat) (x : Int64) : Bool := nd && (if r = 1 then decide (x = 0) else (decide (¬ r = 2) || decide (¬ x = 0)))
def m_more (tx : List Int32) (nd : Bool) (a : Int32) (k : List mI) (pl ns : Nat) (x : Int64) (env : sh_Env) : Option mS :=
  if m_rk tx pl = 0 ∨ nI (m_rk tx pl) < a then some (k, sh_skip tx pl, ns, some x, env)
  else some ((4, m_other nd (m_rk tx pl) x, nI (m_rk tx pl + 1), 0, 0) :: (6, nd, m_at tx (sh_skip tx pl), (if m_both tx pl = true then - nI (m_rk tx pl) else nI (m_rk tx pl)), x) :: (5, nd, a, 0, 0) :: k, sh_skip tx pl + (if m_both tx pl = true then 2 else 1), ns, none, env)
def m_join (nd : Bool) (a b : Int32) (v : Int64) (k : List mI) (pl ns : Nat) (x : Int64) (env : sh_Env) : Option mS :=
  if m_jb a x nd = true then none else some (k, pl, ns, some (m_jn a (if b < 0 then -b else b) (decide (b < 0)) v x), env)
def m_term (tx : List Int32) (nd : Bool) (k : List mI) (pl ns : Nat) (env : sh_Env) : Option mS :=
  if m_at tx (sh_skip tx pl) = 43 ∨ m_at tx (sh_skip tx pl) = 45 ∨ m_at tx (sh_skip tx pl) = 33 ∨ m_at tx (sh_skip tx pl) = 126 then
    (if ns = 40 then none else some ((7, nd, 0, 0, 0) :: (8, nd, m_at tx (sh_skip tx pl), 0, 0) :: k, sh_skip tx pl + 1, ns + 1, none, env))
  else if m_at tx (sh_skip tx pl) = 40 then (if ns = 40 then none else some ((0, nd, 0, 0, 0) :: (9, nd, 0, 0, 0) :: k, sh_skip tx pl + 1, ns + 1, none, env))
  else if sh_start (m_at tx (sh_skip tx pl)) = true then
    (if nd = true then (sh_nameVal env (sh_cut tx (sh_skip tx pl) (sh_wend tx (sh_skip tx pl)))).map (fun v => (k, sh_wend tx (sh_skip tx pl), ns, some v, env)) else some (k, sh_wend tx (sh_skip tx pl), ns, some 0, env))
  else if sh_digit (m_at tx (sh_skip tx pl)) = true then (sh_num (m_w (tx.drop (sh_skip tx pl)))).map (fun v => (k, sh_skip tx pl + (m_w (tx.drop (sh_skip tx pl))).length, ns, some v, env))
  else none
def m_sgn (a : Int32) (x : Int64) : Int64 := if a = 43 then x else if a = 45 then -x else if a = 126 then x ^^^ (-1) else if x = 0 then 1 else 0
def m_close (tx : List Int32) (k : List mI) (pl ns : Nat) (x : Int64) (env : sh_Env) : Option mS :=
  if m_at tx (sh_skip tx pl) = 41 then some (k, sh_skip tx pl + 1, ns - 1, some x, env) else none
def m_sg (o : Int32) : Int32 := if o = 0 then 61 else if o = 60 then 15420 else if o = 62 then 15934 else o
def m_giv (tx : List Int32) (nd : Bool) (i n : Nat) (o : Int32) (k : List mI) (pl ns : Nat) (x : Int64) (env : sh_Env) : Option mS :=
  if nd = false then some (k, pl, ns - 1, some x, env)
  else match sh_asg env (sh_cut tx i (i + n)) (m_sg o) x with
    | (none, _) => none
    | (some y, e2) => some (k, pl, ns - 1, some y, e2)
def m_step (tx : List Int32) (q : mI) (k : List mI) (pl ns : Nat) (v : Option Int64) (env : sh_Env) : Option mS := match q.1 with
  | 0 => m_sum tx q.2.1 k pl ns env
  | 1 => m_asks tx q.2.1 k pl ns (v.getD 0) env
  | 2 => m_first tx q.2.1 q.2.2.1 k pl ns (v.getD 0) env
  | 3 => some (k, pl, ns - 1, some (if q.2.2.1 = 1 then q.2.2.2.2 else v.getD 0), env)
  | 4 => some ((7, q.2.1, 0, 0, 0) :: (5, q.2.1, q.2.2.1, 0, 0) :: k, pl, ns, none, env)
  | 5 => m_more tx q.2.1 q.2.2.1 k pl ns (v.getD 0) env
  | 6 => m_join q.2.1 q.2.2.1 q.2.2.2.1 q.2.2.2.2 k pl ns (v.getD 0) env
  | 7 => m_term tx q.2.1 k pl ns env
  | 8 => some (k, pl, ns - 1, some (m_sgn q.2.2.1 (v.getD 0)), env)
  | 9 => m_close tx k pl ns (v.getD 0) env
  | _ => m_giv tx q.2.1 q.2.2.1.toNatClampNeg q.2.2.2.1.toNatClampNeg q.2.2.2.2.toInt32 k pl ns (v.getD 0) env
def m_ops (o : Int32) : Bool := decide (o = 0) || (decide (o = 42) || (decide (o = 47) || (decide (o = 37) || (decide (o = 43) || (decide (o = 45) || (decide (o = 38) || (decide (o = 94) || (decide (o = 124) || (decide (o = 60) || decide (o = 62))))))))))
/-- what holds when an item of work is taken up -/
def m_gd (tx : List Int32) (q : mI) (k : List mI) (pl ns : Nat) (v : Option Int64) : Prop := k.length < 1990 ∧ pl ≤ tx.length ∧ ns ≤ 40 ∧ q.1 ≤ 10 ∧ (if q.1 = 0 ∨ q.1 = 4 ∨ q.1 = 7 then v = none else v.isSome = true) ∧ ((q.1 = 3 ∨ q.1 = 8 ∨ q.1 = 9 ∨ q.1 = 10) → 1 ≤ ns) ∧ (q.1 = 10 → ∃ i n : Nat, q.2.2.1 = nI i ∧ q.2.2.2.1 = nI n ∧ 1 ≤ n ∧ i + n ≤ tx.length ∧ m_ops (q.2.2.2.2.toInt32) = true)
def m_runs (tx : List Int32) : Nat → mS → Option mS × sh_Env → Prop
  | 0, s, r => s.1 = [] ∧ r = (some s, s.2.2.2.2)
  | n + 1, s, r => match s.1 with
    | [] => False
    | q :: k => m_gd tx q k s.2.1 s.2.2.1 s.2.2.2.1 ∧ match m_step tx q k s.2.1 s.2.2.1 s.2.2.2.1 s.2.2.2.2 with
      | none => r = (none, s.2.2.2.2)
      | some s' => m_runs tx n s' r
def m_R (tx : List Int32) (s : mS) (r : Option mS × sh_Env) : Prop := ∃ n, m_runs tx n s r
def m_to (tx : List Int32) (s s' : mS) : Prop := ∀ r, m_R tx s' r → m_R tx s r
section
variable {tx : List Int32} {q : mI} {k : List mI} {pl ns : Nat} {v : Option Int64} {env : sh_Env} {s s' s'' : mS}
theorem m_to_tr (h : m_to tx s s') (h2 : m_to tx s' s'') : m_to tx s s'' := fun r hr => h r (h2 r hr)
theorem m_to_rf (s : mS) : m_to tx s s := fun _ hr => hr
theorem m_to1 (hg : m_gd tx q k pl ns v) (h : m_step tx q k pl ns v env = some s') : m_to tx (q :: k, pl, ns, v, env) s' := by
  intro r ⟨n, hn⟩
  refine ⟨n + 1, ?_⟩
  show m_gd tx q k pl ns v ∧ _
  refine ⟨hg, ?_⟩
  dsimp only
  rw [h]
  exact hn
theorem m_R1 (hg : m_gd tx q k pl ns v) (h : m_step tx q k pl ns v env = none) : m_R tx (q :: k, pl, ns, v, env) (none, env) := by
  refine ⟨1, ?_⟩
  show m_gd tx q k pl ns v ∧ _
  refine ⟨hg, ?_⟩
  dsimp only
  rw [h]
end
