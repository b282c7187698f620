/-! The class as a function: characters, signs, numbers, names, the reckoner by levels. -/
def sh_b (b : Bool) : Int32 := if b then 1 else 0
def sh_blank (c : Int32) : Bool := decide (c = 9) || (decide (c = 10) || decide (c = 32))
def sh_digit (c : Int32) : Bool := decide (48 ≤ c) && decide (c ≤ 57)
def sh_start (c : Int32) : Bool := (decide (97 ≤ c) && decide (c ≤ 122)) || ((decide (65 ≤ c) && decide (c ≤ 90)) || decide (c = 95))
def sh_word (c : Int32) : Bool := sh_start c || sh_digit c
def sh_ok (c : Int32) : Bool := sh_blank c || (decide (32 ≤ c) && decide (c ≤ 126))
def sh_at (tx : List Int32) (i : Nat) : Int32 := tx.getD i 0
/-- the first place from i on whose character isn't of the kind -/
def sh_run (p : Int32 → Bool) (tx : List Int32) (i : Nat) : Nat := i + ((tx.drop i).takeWhile p).length
def sh_skip (tx : List Int32) (i : Nat) : Nat := sh_run sh_blank tx i
def sh_wend (tx : List Int32) (i : Nat) : Nat := sh_run sh_word tx i
def sh_cut (tx : List Int32) (i j : Nat) : List Int32 := (tx.drop i).take (j - i)
def sh_digOf (c : Int32) : Int32 := if 48 ≤ c ∧ c ≤ 57 then c - 48 else if 97 ≤ c ∧ c ≤ 102 then c - 97 + 10 else if 65 ≤ c ∧ c ≤ 70 then c - 65 + 10 else -1
def sh_digs (base : Int32) : List Int32 → Int64 → Option Int64
  | [], v => some v
  | c :: r, v => if sh_digOf c < 0 ∨ base ≤ sh_digOf c then none else sh_digs base r (v * base.toInt64 + (sh_digOf c).toInt64)
def sh_base (a b : Int32) : Int32 := if a = 48 then (if b = 120 ∨ b = 88 then 16 else 8) else 10
def sh_num (l : List Int32) : Option Int64 := match l with
  | [] => none
  | a :: r => if sh_base a (r.headD 48) = 16 then (if r.tail = [] then none else sh_digs 16 r.tail 0) else sh_digs (sh_base a (r.headD 48)) (a :: r) 0
def sh_rank (s : Int32) : Nat :=
  if s = 31868 then 1 else if s = 9766 then 2 else if s = 124 then 3 else if s = 94 then 4 else if s = 38 then 5
  else if s = 15677 ∨ s = 8509 then 6 else if s = 60 ∨ s = 62 ∨ s = 15421 ∨ s = 15933 then 7 else if s = 15420 ∨ s = 15934 then 8
  else if s = 43 ∨ s = 45 then 9 else if s = 42 ∨ s = 47 ∨ s = 37 then 10 else 0
def sh_shift (s : Int32) : Bool := decide (s = 15420) || decide (s = 15934)
def sh_two (a b : Int32) : Int32 := (a <<< ((8 : Int32) &&& 31)) ||| b
/-- the sign of two at a place: the sign (0: none), the place behind it -/
def sh_sign2 (tx : List Int32) (pl : Nat) : Int32 × Nat :=
  if 0 < sh_rank (sh_two (sh_at tx (sh_skip tx pl)) (sh_at tx (sh_skip tx pl + 1))) then
    (if sh_shift (sh_two (sh_at tx (sh_skip tx pl)) (sh_at tx (sh_skip tx pl + 1))) = true ∧ sh_at tx (sh_skip tx pl + 2) = 61 then (0, sh_skip tx pl)
     else (sh_two (sh_at tx (sh_skip tx pl)) (sh_at tx (sh_skip tx pl + 1)), sh_skip tx pl + 2))
  else if sh_rank (sh_at tx (sh_skip tx pl)) = 0 ∨ sh_at tx (sh_skip tx pl + 1) = 61 then (0, sh_skip tx pl)
  else (sh_at tx (sh_skip tx pl), sh_skip tx pl + 1)
/-- the sign of an assignment at a place, likewise -/
def sh_signA (tx : List Int32) (pl : Nat) : Int32 × Nat :=
  if sh_at tx (sh_skip tx pl) = 61 ∧ ¬ sh_at tx (sh_skip tx pl + 1) = 61 then (61, sh_skip tx pl + 1)
  else if sh_shift (sh_two (sh_at tx (sh_skip tx pl)) (sh_at tx (sh_skip tx pl + 1))) = true ∧ sh_at tx (sh_skip tx pl + 2) = 61 then
    (sh_two (sh_at tx (sh_skip tx pl)) (sh_at tx (sh_skip tx pl + 1)), sh_skip tx pl + 3)
  else if sh_at tx (sh_skip tx pl + 1) = 61 ∧ ¬ sh_at tx (sh_skip tx pl) = 60 ∧ ¬ sh_at tx (sh_skip tx pl) = 62 ∧ 0 < sh_rank (sh_at tx (sh_skip tx pl)) then
    (sh_at tx (sh_skip tx pl), sh_skip tx pl + 2)
  else (0, sh_skip tx pl)
abbrev sh_Env : Type := List (List Int32 × List Int32)
def sh_find (env : sh_Env) (nm : List Int32) : Option (List Int32) := (env.find? (fun q => decide (q.1 = nm))).map (·.2)
def sh_nameVal (env : sh_Env) (nm : List Int32) : Option Int64 := match sh_find env nm with
  | none => some 0
  | some [] => some 0
  | some (c :: r) => if c = 45 then (sh_num r).map (fun v => -v) else sh_num (c :: r)
def sh_put (env : sh_Env) (nm t : List Int32) : Option sh_Env :=
  if (sh_find env nm).isSome then some (env.map (fun q => if q.1 = nm then (nm, t) else q))
  else if 64 ≤ env.length then none else some (env ++ [(nm, t)])
def sh_settled (s : Int32) (f : Int64) : Bool := (decide (s = 31868) && decide (¬ f = 0)) || (decide (s = 9766) && decide (f = 0))
def sh_holds (s : Int32) (a b : Int64) : Bool :=
  if s = 31868 then decide (¬ a = 0) || decide (¬ b = 0) else if s = 9766 then decide (¬ a = 0) && decide (¬ b = 0) else if s = 15677 then decide (a = b) else if s = 8509 then decide (¬ a = b)
  else if s = 60 then decide (a < b) else if s = 62 then decide (b < a) else if s = 15421 then decide (a ≤ b) else if s = 15933 then decide (b ≤ a) else false
abbrev sh_F : Type := Nat → Nat → sh_Env → Option (Int64 × Nat) × sh_Env
def sh_bad : sh_F := fun _ _ env => (none, env)
def sh_map (f : Int64 → Int64) (r : Option (Int64 × Nat) × sh_Env) : Option (Int64 × Nat) × sh_Env := (r.1.map (fun q => (f q.1, q.2)), r.2)
def sh_W (tx : List Int32) : sh_F := fun un p env =>
  if sh_digit (sh_at tx p) = true then ((sh_num (sh_cut tx p (sh_wend tx p))).map (fun v => (v, sh_wend tx p)), env)
  else if sh_start (sh_at tx p) = true then
    (if 0 < un then some (0, sh_wend tx p) else (sh_nameVal env (sh_cut tx p (sh_wend tx p))).map (fun v => (v, sh_wend tx p)), env)
  else (none, env)
/-- a closing sign is read behind a value -/
def sh_exp (tx : List Int32) (k : Int32) (r : Option (Int64 × Nat) × sh_Env) : Option (Int64 × Nat) × sh_Env := match r.1 with
  | none => (none, r.2)
  | some q => if sh_at tx (sh_skip tx q.2) = k then (some (q.1, sh_skip tx q.2 + 1), r.2) else (none, r.2)
def sh_U (tx : List Int32) (U E : sh_F) : sh_F := fun un pl env =>
  if sh_at tx (sh_skip tx pl) = 43 then U un (sh_skip tx pl + 1) env
  else if sh_at tx (sh_skip tx pl) = 45 then sh_map (fun v => -v) (U un (sh_skip tx pl + 1) env)
  else if sh_at tx (sh_skip tx pl) = 33 then sh_map (fun v => if v = 0 then 1 else 0) (U un (sh_skip tx pl + 1) env)
  else if sh_at tx (sh_skip tx pl) = 126 then sh_map (fun v => v ^^^ (-1)) (U un (sh_skip tx pl + 1) env)
  else if sh_at tx (sh_skip tx pl) = 40 then sh_exp tx 41 (E un (sh_skip tx pl + 1) env)
  else sh_W tx un (sh_skip tx pl) env
def sh_bA (x : Int64) (n i : Int32) : Int32 := (((((x).toUInt64 >>> ((8 * ((n - 1) - i)).toInt64.toUInt64 &&& Int64.toUInt64 63)).toInt64 &&& 255).toInt32).toUInt32 % 65536).toInt32
def sh_bM (x : Int64) (n i : Int32) : Int32 := ((x >>> ((8 * ((n - 1) - i)).toInt64 &&& 63)) &&& 255).toInt32
def sh_byte (x : Int64) (n i : Nat) : Int32 := nI (x.toBitVec.toNat / 2 ^ (8 * (n - 1 - i)) % 256)
def sh_bytes (x : Int64) (n : Nat) : List Int32 := (List.range n).map (sh_byte x n)
def sh_digM (c : Int32) : Int32 := if sh_digit c = true then c - 48 else if 97 ≤ c ∧ c ≤ 102 then c - 97 + 10 else if 65 ≤ c ∧ c ≤ 70 then c - 65 + 10 else 99
