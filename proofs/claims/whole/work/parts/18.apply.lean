def zk {α : Type} (o : Option α) : Nat := match o with
  | none => 1
  | some _ => 0
def sh_div (s : Int32) (a b : Int64) : Option Int64 := if b = 0 then none else if s = 47 then some (a / b) else some (a - a / b * b)
def sh_apply (s : Int32) (a b : Int64) : Option Int64 :=
  if s = 124 then some (a ||| b) else if s = 94 then some (a ^^^ b) else if s = 38 then some (a &&& b)
  else if s = 15420 then some (a <<< ((b &&& 63).toInt32.toInt64 &&& 63)) else if s = 15934 then some (a >>> ((b &&& 63).toInt32.toInt64 &&& 63))
  else if s = 43 then some (a + b) else if s = 45 then some (a - b) else if s = 42 then some (a * b)
  else if s = 47 ∨ s = 37 then sh_div s a b else some (if sh_holds s a b = true then 1 else 0)
