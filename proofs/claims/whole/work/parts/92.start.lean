/-! level 1: the memory that the class' constructor leaves is the one with no doors, walls, pictures, terms -/
theorem q_upc {α : Type} {f g : Nat → α} {k o : Nat} {v : α} (h : f o = g o) : va_up f k v o = va_up g k v o := by
  unfold va_up
  split
  · rfl
  · exact h
theorem q_p2c {P P' : Nat → Nat → Nat} {a k v o : Nat} (h : P o = P' o) : q_p2 P a k v o = q_p2 P' a k v o := by
  unfold q_p2
  by_cases z : o = a
  · subst z
    rw [if_pos rfl, if_pos rfl, h]
  · rw [if_neg z, if_neg z, h]
theorem q_p2n {P : Nat → Nat → Nat} {a k v o : Nat} (h : o ≠ a) : q_p2 P a k v o = P o := by
  unfold q_p2
  rw [if_neg h]
def q_c0 : Nat → Nat := fun _ => 0
def q_T0 : Nat → Nat := fun o => if o = 1 then 21 else 0
set_option maxRecDepth 20000 in
theorem q_iT_cg {T T' : Nat → Nat} {o : Nat} (h : T o = T' o) : wX11_initT T o = wX11_initT T' o := by
  unfold wX11_initT wX3_initT wX6_initT wX9_initT wX8_initT wX2_initT
  repeat (first | with_reducible exact h | with_reducible apply q_upc)
theorem q_iL_cg {T T' : Nat → Nat} {o : Nat} (h : T o = T' o) : wX11_initL T o = wX11_initL T' o := by
  unfold wX11_initL wX3_initL wX6_initL wX9_initL wX8_initL wX2_initL
  repeat (first | with_reducible exact h | with_reducible apply q_upc)
theorem q_iP_cg {T T' : Nat → Nat → Nat} {o : Nat} (h : T o = T' o) : wX11_initP T o = wX11_initP T' o := by
  unfold wX11_initP wX3_initP wX6_initP wX9_initP wX8_initP wX2_initP
  repeat (first | with_reducible exact h | with_reducible apply q_upc | with_reducible apply q_p2c)
theorem q_iT_hi {T : Nat → Nat} {o : Nat} (h : 120 ≤ o) : wX11_initT T o = T o := by
  unfold wX11_initT wX3_initT wX6_initT wX9_initT wX8_initT wX2_initT
  repeat rw [va_up_ne _ _ (by omega)]
theorem q_iL_hi {T : Nat → Nat} {o : Nat} (h : 120 ≤ o) : wX11_initL T o = T o := by
  unfold wX11_initL wX3_initL wX6_initL wX9_initL wX8_initL wX2_initL
  repeat rw [va_up_ne _ _ (by omega)]
theorem q_iP_hi {T : Nat → Nat → Nat} {o : Nat} (h : 120 ≤ o) : wX11_initP T o = T o := by
  unfold wX11_initP wX3_initP wX6_initP wX9_initP wX8_initP wX2_initP
  repeat (first | rw [va_up_ne _ _ (by omega)] | rw [q_p2n (by omega)])
theorem q_start : ∀ o, o < 120 → wX11_initT q_T0 o = qTX q_c0 o ∧ (wX11_initT q_T0 o ≠ 0 → wX11_initT q_T0 o ≤ 4 → wX11_initL (fun _ => 0) o = qLX q_c0 o) ∧ wX11_initT q_T0 o ≠ 3 ∧ (4 < wX11_initT q_T0 o → ∀ k, k < 13 → (q_rt (wX11_initT q_T0 o - 10)).getD k false = true → wX11_initP (fun _ _ => 0) o k = qPX q_c0 o k) := by decide +kernel
theorem q_rt13 : ∀ i, i < 14 → i ≠ 5 → i ≠ 12 → (q_rt i).length ≤ 13 := by decide +kernel
