/-! stand: whom one looks at -/
theorem a_lf_as {W X : Nat → Int32} {w x : Int32} {i : Nat} (hi : W i ≠ w) (hi2 : i < 100) : ∀ N, N ≤ 100 → a_lf W X w x (nI i) N = a_lf W X w x (-1) N
  | 0, _ => rfl
  | N + 1, hN => by
    have ih := a_lf_as (X := X) (x := x) hi hi2 N (by omega)
    rw [a_lf_s, a_lf_s, ih]
    by_cases z : W N = w
    · have h1 : nI N ≠ -1 := nI_neg1 (by omega)
      have h2 : nI N ≠ nI i := fun e => hi (by rw [← nI_inj (by omega) (by omega) e]; exact z)
      simp [h1, h2]
    · simp [z]
theorem a_rt_as {W X : Nat → Int32} {w x : Int32} {i : Nat} (hi : W i ≠ w) (hi2 : i < 100) : ∀ N, N ≤ 100 → a_rt W X w x (nI i) N = a_rt W X w x (-1) N
  | 0, _ => rfl
  | N + 1, hN => by
    have ih := a_rt_as (X := X) (x := x) hi hi2 N (by omega)
    rw [a_rt_s, a_rt_s, ih]
    by_cases z : W N = w
    · have h1 : nI N ≠ -1 := nI_neg1 (by omega)
      have h2 : nI N ≠ nI i := fun e => hi (by rw [← nI_inj (by omega) (by omega) e]; exact z)
      simp [h1, h2]
    · simp [z]
def a_Pt (m : q_MM) (p w : Nat) (x : Int32) : q_MM := q_u2 (q_u2 (q_u2 m 5040 p 1) 5041 p (nI w)) 5042 p x
theorem a_Pt_t8 {m : q_MM} {p w : Nat} {x : Int32} : a_t8 (a_Pt m p w x) m := fun o k h1 h2 => by
  unfold a_Pt
  rw [q_u2_ne, q_u2_ne, q_u2_ne]
  · rintro ⟨rfl, rfl⟩
    exact h1 rfl
  · rintro ⟨rfl, rfl⟩
    exact h1 rfl
  · rintro ⟨rfl, rfl⟩
    exact h1 rfl
theorem a_Pt_sm {m m' : q_MM} {p w : Nat} {x : Int32} (h : a_sm m m') : a_sm (a_Pt m p w x) (a_Pt m' p w x) := fun o k h1 h2 h3 h4 => by
  unfold a_Pt
  by_cases z1 : o = 5042 ∧ k = p
  · obtain ⟨rfl, rfl⟩ := z1
    rw [q_u2_eq, q_u2_eq]
  · rw [q_u2_ne z1, q_u2_ne z1]
    by_cases z2 : o = 5041 ∧ k = p
    · obtain ⟨rfl, rfl⟩ := z2
      rw [q_u2_eq, q_u2_eq]
    · rw [q_u2_ne z2, q_u2_ne z2]
      by_cases z3 : o = 5040 ∧ k = p
      · obtain ⟨rfl, rfl⟩ := z3
        rw [q_u2_eq, q_u2_eq]
      · rw [q_u2_ne z3, q_u2_ne z3]
        exact h o k h1 h2 h3 h4
