abbrev cJ_max : ByteArray := prog_10_method_65_code
def yJ_max : MethodName := ⟨"java/lang/Math", "max", "(II)I"⟩
abbrev wsJ_max : List Cond := .code yJ_max cJ_max 2 (some .int) :: zw
theorem dJ_max_0 : decode cJ_max 0 = .ok (.iload_n 0, 1) := by decide +kernel
theorem dJ_max_1 : decode cJ_max 1 = .ok (.iload_n 1, 1) := by decide +kernel
theorem dJ_max_2 : decode cJ_max 2 = .ok (.if_icmp .lt 7, 3) := by decide +kernel
theorem dJ_max_5 : decode cJ_max 5 = .ok (.iload_n 0, 1) := by decide +kernel
theorem dJ_max_6 : decode cJ_max 6 = .ok (.goto 4, 3) := by decide +kernel
theorem dJ_max_9 : decode cJ_max 9 = .ok (.iload_n 1, 1) := by decide +kernel
theorem dJ_max_10 : decode cJ_max 10 = .ok (.ireturn, 1) := by decide +kernel
section XA
variable {α : Type}
theorem xa_get (a b : List α) (i : Nat) : (a ++ b)[a.length + i]? = b[i]? := by
  rw [List.getElem?_append_right (Nat.le_add_right _ _), Nat.add_sub_cancel_left]
theorem xa_set (a b : List α) (i : Nat) (x : α) : (a ++ b).set (a.length + i) x = a ++ b.set i x := by
  rw [List.set_append_right _ _ (Nat.le_add_right _ _), Nat.add_sub_cancel_left]
theorem xa_old {a b : List α} {k : Nat} {x : α} (h : a[k]? = some x) : (a ++ b)[k]? = some x := by
  rw [List.getElem?_append_left (List.getElem?_eq_some_iff.mp h).1]; exact h
end XA
/-- an array is what it holds within its bounds -/
theorem na_cell {cA : ClassId} {n : Nat} {f g : Nat → Int32} (h : ∀ j, j < n → f j = g j) : vp_cell cA (n, .inl f) = vp_cell cA (n, .inl g) := by
  show arrV cA n (fun j => .int (f j)) = arrV cA n (fun j => .int (g j))
  unfold arrV
  congr 2
  funext j
  show Value.int (f j.val) = Value.int (g j.val)
  rw [h j.val j.isLt]
theorem na_P {D : va_G} {cl : List vw_C} {ws : va_W} {x y : Nat × va_E} {la : Nat} {cA : ClassId} {n : Nat} {g g2 : Nat → Int32} {H : Heap} (hP : va_P D cl (ws ++ [x, (la, .inl (cA, n, .inl g)), y]) H) (h : ∀ j, j < n → g j = g2 j) : va_P D cl (ws ++ [x, (la, .inl (cA, n, .inl g2)), y]) H := by
  refine va_P.app (fun k q hk => hP k q (xa_old hk)) (fun k q hk => ?_)
  have h1 := hP (ws.length + k)
  rw [xa_get] at h1
  match k, hk with
  | 0, hk => cases hk; exact h1 _ rfl
  | 1, hk =>
    cases hk
    have h2 := h1 _ rfl
    show H[la]? = some (vp_cell cA (n, .inl g2))
    rw [← na_cell h]; exact h2
  | 2, hk => cases hk; exact h1 _ rfl
  | k + 3, hk => simp at hk
theorem na_D {A : Nat → Prop} {ws : va_W} {x y : Nat × va_E} {la : Nat} {cA : ClassId} {n : Nat} {g g2 : Nat → Int32} (hD : va_D A (ws ++ [x, (la, .inl (cA, n, .inl g)), y])) : va_D A (ws ++ [x, (la, .inl (cA, n, .inl g2)), y]) := by
  rw [xw_Dnd] at hD ⊢
  obtain ⟨h1, h2⟩ := hD
  refine ⟨by simpa using h1, fun q hq => ?_⟩
  rcases List.mem_append.mp hq with h | h
  · exact h2 q (List.mem_append_left _ h)
  · rcases List.mem_cons.mp h with h | h
    · exact h2 q (List.mem_append_right _ (by rw [h]; exact List.mem_cons_self))
    · rcases List.mem_cons.mp h with h | h
      · rw [h]; exact h2 (la, .inl (cA, n, .inl g)) (List.mem_append_right _ (List.mem_cons_of_mem _ List.mem_cons_self))
      · exact h2 q (List.mem_append_right _ (List.mem_cons_of_mem _ (List.mem_cons_of_mem _ h)))
