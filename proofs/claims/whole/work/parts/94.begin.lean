/-! the start: class and model hold the same -/
def q_z0 : q_MM := fun _ _ => 0
def q_n0 : Nat → Nat := fun i => if i = 0 then 0 else if i = 1 then 0 else 1
theorem b_5024 : wX12_initM q_z0 5024 = fun _ => 0 := by
  unfold wX12_initM
  first | rfl | simp [va_up, q_u2, upd, q_z0]
theorem b_5044 : wX12_initM q_z0 5044 = fun _ => 0 := by
  unfold wX12_initM
  first | rfl | simp [va_up, q_u2, upd, q_z0]
theorem b_5086 : wX12_initM q_z0 5086 = fun _ => 0 := by
  unfold wX12_initM
  first | rfl | simp [va_up, q_u2, upd, q_z0]
theorem b_20 : ∀ k, k < 400 → wX11_initM q_z0 20 k = 0 := by decide +kernel
theorem b_small : wX12_initM q_z0 5001 3 = nI 0 ∧ wX11_initM q_z0 2 10 = nI 0 ∧ wX12_initM q_z0 5001 35 = nI 0 ∧ wX11_initM q_z0 2 12 = nI 0 ∧ wX12_initM q_z0 5001 4 = nI 0 ∧ wX11_initM q_z0 13 2 = nI 0 ∧ wX11_initM q_z0 18 0 = nI 0 ∧ wX11_initM q_z0 2 11 = 0 ∧ wX12_initM q_z0 5001 9 = nI 0 ∧ wX11_initM q_z0 14 2 = nI 0 ∧ wX12_initM q_z0 5001 18 = nI 0 ∧ wX11_initM q_z0 15 2 = nI 0 ∧ wX12_initM q_z0 5001 36 = nI 0 ∧ wX11_initM q_z0 27 2 = nI 0 := by decide +kernel
theorem b_rows : wX11_initM q_z0 6 1 = nI 0 ∧ wX12_initM q_z0 5001 1 = nI 0 ∧ wX11_initM q_z0 7 1 = nI 0 ∧ wX12_initM q_z0 5001 42 = nI 0 ∧ wX11_initM q_z0 8 1 = nI 0 ∧ wX12_initM q_z0 5001 60 = nI 0 ∧ wX11_initM q_z0 9 1 = nI 0 ∧ wX12_initM q_z0 5001 62 = nI 0 ∧ wX11_initM q_z0 39 1 = nI 0 ∧ wX11_initM q_z0 40 1 = nI 0 ∧ wX11_initM q_z0 41 1 = nI 0 ∧ wX12_initM q_z0 5001 66 = nI 0 ∧ wX11_initM q_z0 37 1 = 0 ∧ wX12_initM q_z0 5001 57 = 0 ∧ wX12_initM q_z0 5001 55 = nI 0 := by decide +kernel
theorem b_4 : ∀ r, r < 10 → wX12_initM q_z0 5075 r = 0 ∧ a_bit (wX11_initM q_z0 2 11) r = false := by decide +kernel
theorem b_6 : (∀ k, k < 4 → wX11_initM q_z0 16 k = wX12_initM q_z0 5027 k) ∧ a_rg (wX12_initM q_z0 5027 0) 100 200 ∧ a_rg (wX12_initM q_z0 5027 1) 0 99 ∧ a_rg (wX12_initM q_z0 5027 2) 0 23 ∧ a_rg (wX12_initM q_z0 5027 3) 0 23 ∧ (wX12_initM q_z0 5027 2).toInt ≤ (wX12_initM q_z0 5027 3).toInt := by unfold a_rg; decide +kernel
theorem b_8 : ∀ p, p < 24 → wX11_initM q_z0 61 p = -1 ∧ wX11_initM q_z0 63 p = -1 ∧ wX12_initM q_z0 5040 p = 0 ∧ wX12_initM q_z0 5043 p = 0 := by decide +kernel
theorem b_11 : ∀ k, k < 64 → wX11_initM q_z0 17 k = 0 ∧ wX12_initM q_z0 5059 k = 0 := by decide +kernel
theorem b_bit0 : ∀ p, p < 24 → a_bit 0 p = false := by decide +kernel
theorem a_X0 : a_X q_c0 q_n0 (wX12_initM q_z0) (wX11_initM q_z0) := by
  obtain ⟨s1, s2, s3, s4, s5, s6, s7, s8, s9, s10, s11, s12, s13, s14⟩ := b_small
  obtain ⟨t1, t2, t3, t4, t5, t6, t7, t8, t9, t10, t11, t12, t13, t14, t15⟩ := b_rows
  intro i
  match i with
  | 0 => exact ⟨by decide, s1, s2⟩
  | 1 => exact ⟨by decide, s3, s4⟩
  | 2 =>
    refine ⟨by decide, s5, s6, fun d hd => absurd hd (Nat.not_lt_zero _), fun r hr => ?_⟩
    exact absurd hr (Nat.not_lt_zero _)
  | 3 => trivial
  | 4 =>
    intro r hr
    obtain ⟨e1, e2⟩ := b_4 r hr
    rw [e1, e2]
    exact ⟨Or.inl rfl, rfl⟩
  | 5 => exact ⟨by decide, s9, s10, fun w hw => absurd hw (Nat.not_lt_zero _), fun w hw => absurd hw (Nat.not_lt_zero _), fun w hw => absurd hw (Nat.not_lt_zero _), fun w _ _ => ⟨fun h _ => by rw [b_5024], fun r _ => by rw [b_5086]⟩⟩
  | 6 => exact b_6
  | 7 => exact ⟨by decide, s11, s12, fun p hp => absurd hp (Nat.not_lt_zero _), fun p q hp => absurd hp (Nat.not_lt_zero _)⟩
  | 8 => exact ⟨by decide, fun p hp => absurd hp (Nat.not_lt_zero _), fun p _ hp => ⟨(b_8 p hp).1, (b_8 p hp).2.1, (b_8 p hp).2.2.1⟩, fun p hp => absurd hp (Nat.not_lt_zero _), fun p q hp => absurd hp (Nat.not_lt_zero _)⟩
  | 9 => exact ⟨by decide, fun p hp => absurd hp (Nat.not_lt_zero _), fun p _ hp => (b_8 p hp).2.2.2, fun p hp => absurd hp (Nat.not_lt_zero _)⟩
  | 10 =>
    intro p hp k hk
    rw [b_5044, b_20 k hk, b_bit0 p hp]
    exact ⟨Or.inl rfl, rfl, fun _ => rfl⟩
  | 11 =>
    intro a b ha hb
    obtain ⟨e1, e2⟩ := b_11 (8 * a + b) (by omega)
    obtain ⟨-, e3⟩ := b_11 (8 * b + a) (by omega)
    rw [e1, e2, e3]
    exact ⟨rfl, by unfold a_rg; decide, rfl⟩
  | 12 => exact ⟨0, by decide, t1, t2, fun i hi => absurd hi (Nat.not_lt_zero _)⟩
  | 13 => exact ⟨0, by decide, t3, t4, fun i hi => absurd hi (Nat.not_lt_zero _)⟩
  | 14 => exact ⟨⟨0, by decide, t5, t6, fun i hi => absurd hi (Nat.not_lt_zero _)⟩, by rw [t6]; exact fun i j hi => absurd hi (Nat.not_lt_zero _)⟩
  | 15 => exact ⟨⟨0, by decide, t7, t8, fun i hi => absurd hi (Nat.not_lt_zero _)⟩, by rw [t8]; exact fun i j hi => absurd hi (Nat.not_lt_zero _)⟩
  | 16 => exact ⟨⟨0, by decide, t9, t12, fun i hi => absurd hi (Nat.not_lt_zero _)⟩, ⟨0, by decide, t10, t12, fun i hi => absurd hi (Nat.not_lt_zero _)⟩, ⟨0, by decide, t11, t12, fun i hi => absurd hi (Nat.not_lt_zero _)⟩, by rw [t12]; exact fun i j hi => absurd hi (Nat.not_lt_zero _)⟩
  | 17 => exact Or.inl ⟨t14, t13, 0, by decide, t15, fun i hi => absurd hi (Nat.not_lt_zero _)⟩
  | 18 => exact ⟨by decide, s13, s14, fun t ht => absurd ht (Nat.not_lt_zero _)⟩
  | k + 19 => trivial
