/-- the text of a named thing -/
def rw_tx (x : rw_N) : List Int32 := (List.range x.2.2.2.toNatClampNeg).map x.2.2.1
def rw_ok (x : rw_N) : Prop := (∃ L : Nat, L ≤ 20 ∧ x.2.2.2 = nI L) ∧ sh_B (rw_tx x) ∧ x.2.1.length ≤ 300
/-- the names of the class: on the heap, and as pairs of texts -/
def zEn (q : Nat → Option Nat) (ns : List rw_N) (env : sh_Env) : Prop := env = ns.map (fun x => (x.2.1, rw_tx x)) ∧ (∀ (i : Nat) (x : rw_N), ns[i]? = some x → q i = some x.1.1) ∧ (∀ x ∈ ns, rw_ok x) ∧ ns.length ≤ 64 ∧ (env.map (·.1)).Nodup
theorem zEn_pool {q : Nat → Option Nat} {ns : List rw_N} {env : sh_Env} {kC : ClassId} (pre : va_W) (h : zEn q ns env) : sh_pool (pre ++ rw_p 0 kC ns) pre.length kC q ns := by
  intro i x hi
  have e0 := rw_p_get (ci := 0) (cA := kC) 0 (by decide) hi
  have e1 := rw_p_get (ci := 0) (cA := kC) 1 (by decide) hi
  have e2 := rw_p_get (ci := 0) (cA := kC) 2 (by decide) hi
  refine ⟨h.2.1 i x hi, ?_, ?_, ?_, (h.2.2.1 x (List.mem_of_getElem? hi)).2.2⟩
  · rw [xa_get]; exact e0
  · rw [Nat.add_assoc, xa_get]; exact e1
  · rw [Nat.add_assoc, xa_get]; exact e2
theorem zEn_find {q : Nat → Option Nat} {ns : List rw_N} {env : sh_Env} (h : zEn q ns env) (nm : List Int32) : sh_find env nm = (sh_fi ns nm).map rw_tx := by
  rw [h.1]
  unfold sh_find sh_fi
  rw [List.find?_map, Option.map_map]
  rfl
theorem rw_tx_len {x : rw_N} {L : Nat} (hL : L ≤ 20) (h : x.2.2.2 = nI L) : (rw_tx x).length = L := by
  unfold rw_tx
  rw [List.length_map, List.length_range, h, nI_clamp (by omega)]
theorem rw_tx_at {x : rw_N} {L j : Nat} (hL : L ≤ 20) (h : x.2.2.2 = nI L) (hj : j < L) : x.2.2.1 j = sh_at (rw_tx x) j := by
  rw [sh_at_get (by rw [rw_tx_len hL h]; exact hj)]
  simp [rw_tx]
theorem nv_none {env : sh_Env} {nm : List Int32} (h : sh_find env nm = none) : sh_nameVal env nm = some 0 := by
  unfold sh_nameVal; rw [h]
theorem nv_some {env : sh_Env} {nm t : List Int32} (h : sh_find env nm = some t) : sh_nameVal env nm = if t.length = 0 then some 0 else if sh_at t 0 = 45 then (sh_num t.tail).map (fun v => -v) else sh_num t := by
  unfold sh_nameVal; rw [h]
  cases t with
  | nil => rfl
  | cons c r => rfl
theorem zk_map {α β : Type} (o : Option α) (f : α → β) : zk (o.map f) = zk o := by cases o <;> rfl
