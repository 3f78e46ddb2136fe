/-! level 1: the memory that the model's constructor leaves is the model's -/
def q_T5 : Nat → Nat := fun o => if o = 5001 then 22 else 0
theorem q_jT_cg {T T' : Nat → Nat} {o : Nat} (h : T o = T' o) : wX12_initT T o = wX12_initT T' o := by
  unfold wX12_initT
  repeat (first | with_reducible exact h | with_reducible apply q_upc)
theorem q_jL_cg {T T' : Nat → Nat} {o : Nat} (h : T o = T' o) : wX12_initL T o = wX12_initL T' o := by
  unfold wX12_initL
  repeat (first | with_reducible exact h | with_reducible apply q_upc)
theorem q_jP_cg {T T' : Nat → Nat → Nat} {o : Nat} (h : T o = T' o) : wX12_initP T o = wX12_initP T' o := by
  unfold wX12_initP
  repeat (first | with_reducible exact h | with_reducible apply q_upc | with_reducible apply q_p2c)
theorem q_jT_hi {T : Nat → Nat} {o : Nat} (h : o < 5001 ∨ 5100 ≤ o) : wX12_initT T o = T o := by
  unfold wX12_initT
  repeat rw [va_up_ne _ _ (by omega)]
theorem q_jL_hi {T : Nat → Nat} {o : Nat} (h : o < 5001 ∨ 5100 ≤ o) : wX12_initL T o = T o := by
  unfold wX12_initL
  repeat rw [va_up_ne _ _ (by omega)]
theorem q_jP_hi {T : Nat → Nat → Nat} {o : Nat} (h : o < 5001 ∨ 5100 ≤ o) : wX12_initP T o = T o := by
  unfold wX12_initP
  repeat (first | rw [va_up_ne _ _ (by omega)] | rw [q_p2n (by omega)])
theorem q_start2 : ∀ i, i < 100 → wX12_initT q_T5 (5000 + i) = qTM (5000 + i) ∧ (wX12_initT q_T5 (5000 + i) ≠ 0 → wX12_initT q_T5 (5000 + i) ≤ 4 → wX12_initL (fun _ => 0) (5000 + i) = qLM (5000 + i)) ∧ wX12_initT q_T5 (5000 + i) ≠ 3 ∧ (4 < wX12_initT q_T5 (5000 + i) → ∀ k, k < 77 → (q_rt (wX12_initT q_T5 (5000 + i) - 10)).getD k false = true → wX12_initP (fun _ _ => 0) (5000 + i) k = qPM (5000 + i) k) := by decide +kernel
