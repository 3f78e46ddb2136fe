/-! letters -/
def a_nb (r : Int32) : Int32 := if r = -1 then 0 else 1
def a_sf (m : q_MM) (p : Nat) (l : Int32) : Int32 := if l = -1 then 0 else if m 5032 l.toNatClampNeg = m 5032 p then 1 else 0
def a_fe (m : q_MM) (p : Nat) (l r : Int32) : Int32 := if l ≠ -1 ∧ l = m 5036 p then 1 else if r ≠ -1 ∧ r = m 5036 p then 1 else 0
def a_nbr (c : Nat → Nat) (l : Int32) (x : Nat) : Prop := (l = -1 ∧ x = 0) ∨ ∃ a, a < c 2 ∧ l = nI a ∧ x = 1300 + a
theorem s_E {c : Nat → Nat} (hC : a_C c) {m M : q_MM} {o p w x5 x6 : Nat} {l r s0 : Int32} (hp : p < c 2) (hM : ∀ a, a < c 2 → M (1300 + a) 0 = nI a ∧ M (1300 + a) 4 = m 5032 a ∧ M (1300 + a) 8 = m 5036 a) (hl : a_nbr c l x5) (hr : a_nbr c r x6) : b_X9_readLetters_109 c o (1300 + p) (1100 + w) x5 x6 s0 4 29 M = b_X9_readLetters_217 c o (1300 + p) (1100 + w) (a_fe m p l r) 6 29 (q_u2 (q_u2 M 29 4 (s0 + a_nb r)) 29 5 (a_sf m p l + a_sf m p r)) := by
  have hC2 := hC.2.2.1
  have q4 : ∀ (M' : q_MM) (v : Int32) (k : q_MM → Option q_MM), q_as M' 29 12 4 v k = k (q_u2 M' 29 4 v) := fun M' v k => w_as (i := 4) (by decide) (by decide)
  have q5 : ∀ (M' : q_MM) (v : Int32) (k : q_MM → Option q_MM), q_as M' 29 12 5 v k = k (q_u2 M' 29 5 v) := fun M' v k => w_as (i := 5) (by decide) (by decide)
  have t29 : qTX c 29 = 1 := rfl
  have l29 : qLX c 29 = 12 := rfl
  have hpM := hM p hp
  have ne : ∀ a k j (v : Int32) (M' : q_MM), q_u2 M' 29 j v (1300 + a) k = M' (1300 + a) k := fun a k j v M' => q_u2_ne (by omega)
  rcases hl with ⟨rfl, rfl⟩ | ⟨a, ha, rfl, rfl⟩ <;> rcases hr with ⟨rfl, rfl⟩ | ⟨b, hb, rfl, rfl⟩
  · simp only [b_X9_readLetters_109, b_X9_readLetters_119, b_X9_readLetters_147, b_X9_readLetters_148, b_X9_readLetters_169, b_X9_readLetters_170, b_X9_readLetters_195, b_X9_readLetters_212, b_X9_readLetters_216, w_ck t29, l29, q4, q5, if_true, a_nb, a_sf, a_fe, ne_eq, not_true, false_and, if_false]
  · have hbM := hM b hb
    have tb : qTX c (1300 + b) = 15 := t_pic hC hb
    have tp : qTX c (1300 + p) = 15 := t_pic hC hp
    have nb : nI b ≠ -1 := nI_neg1 (by omega)
    simp only [b_X9_readLetters_109, b_X9_readLetters_119, b_X9_readLetters_147, b_X9_readLetters_148, b_X9_readLetters_169, b_X9_readLetters_170, b_X9_readLetters_195, b_X9_readLetters_212, b_X9_readLetters_216, w_ck t29, l29, q4, q5, a_nb, a_sf, a_fe, w_ck tb, w_ck tp, ne, hbM, hpM, nI_clamp (show b < 2 ^ 31 by omega), show ¬ 1300 + b = 0 by omega, nb]
    by_cases z1 : m 5032 b = m 5032 p <;> by_cases z2 : nI b = m 5036 p <;> simp [z1, z2, nb]
    all_goals (rw [← z2] at *; simp [nb])
  · have haM := hM a ha
    have ta : qTX c (1300 + a) = 15 := t_pic hC ha
    have tp : qTX c (1300 + p) = 15 := t_pic hC hp
    have na : nI a ≠ -1 := nI_neg1 (by omega)
    simp only [b_X9_readLetters_109, b_X9_readLetters_119, b_X9_readLetters_147, b_X9_readLetters_148, b_X9_readLetters_169, b_X9_readLetters_170, b_X9_readLetters_195, b_X9_readLetters_212, b_X9_readLetters_216, w_ck t29, l29, q4, q5, a_nb, a_sf, a_fe, w_ck ta, w_ck tp, ne, haM, hpM, nI_clamp (show a < 2 ^ 31 by omega), show ¬ 1300 + a = 0 by omega, na]
    by_cases z1 : m 5032 a = m 5032 p <;> by_cases z2 : nI a = m 5036 p <;> simp [z1, z2, na]
    all_goals (rw [← z2] at *; simp [na])
  · have haM := hM a ha
    have hbM := hM b hb
    have ta : qTX c (1300 + a) = 15 := t_pic hC ha
    have tb : qTX c (1300 + b) = 15 := t_pic hC hb
    have tp : qTX c (1300 + p) = 15 := t_pic hC hp
    have na : nI a ≠ -1 := nI_neg1 (by omega)
    have nb : nI b ≠ -1 := nI_neg1 (by omega)
    simp only [b_X9_readLetters_109, b_X9_readLetters_119, b_X9_readLetters_147, b_X9_readLetters_148, b_X9_readLetters_169, b_X9_readLetters_170, b_X9_readLetters_195, b_X9_readLetters_212, b_X9_readLetters_216, w_ck t29, l29, q4, q5, a_nb, a_sf, a_fe, w_ck ta, w_ck tb, w_ck tp, ne, haM, hbM, hpM, nI_clamp (show a < 2 ^ 31 by omega), nI_clamp (show b < 2 ^ 31 by omega), show ¬ 1300 + a = 0 by omega, show ¬ 1300 + b = 0 by omega, na, nb]
    by_cases z1 : m 5032 a = m 5032 p <;> by_cases z3 : m 5032 b = m 5032 p <;> by_cases z2 : nI a = m 5036 p <;> by_cases z4 : nI b = m 5036 p <;> simp [z1, z2, z3, z4]
    all_goals
      have h5 : ¬ m 5036 p = -1 := by first | (rw [← z2]; exact na) | (rw [← z4]; exact nb)
      simp [h5]
theorem s_Em {c : Nat → Nat} (hC : a_C c) {m : q_MM} {p w : Nat} {l r s0 T : Int32} {x5 x6 : Nat} (hp : p < c 2) (hf : a_ltm (m 5036 p) (c 2)) (hs : s0 = 0 ∨ s0 = 1) (hl : a_nbr c l x5) (hr : a_nbr c r x6) : b_X12_barring_90 (nI p) (nI w) T l r s0 4 5056 m = b_X12_barring_215 (nI p) (nI w) T (a_fe m p l r) 6 5056 (q_u2 (q_u2 m 5056 4 (s0 + a_nb r)) 5056 5 (a_sf m p l + a_sf m p r)) := by
  have hC2 := hC.2.2.1
  have q4 : ∀ (M' : q_MM) (v : Int32) (k : q_MM → Option (Int32 × q_MM)), q_as M' 5056 12 4 v k = k (q_u2 M' 5056 4 v) := fun M' v k => w_as (i := 4) (by decide) (by decide)
  have q5 : ∀ (M' : q_MM) (v : Int32) (k : q_MM → Option (Int32 × q_MM)), q_as M' 5056 12 5 v k = k (q_u2 M' 5056 5 v) := fun M' v k => w_as (i := 5) (by decide) (by decide)
  have t56 : qTM 5056 = 1 := rfl
  have l56 : qLM 5056 = 12 := rfl
  have ts : f_X12_truth m s0 = some s0 := by
    rcases hs with rfl | rfl
    · exact s_truth0
    · exact s_truth1
  have tt0 : ∀ M', f_X12_truth M' 0 = some 0 := fun M' => s_truth0
  have tt1 : ∀ M', f_X12_truth M' 1 = some 1 := fun M' => s_truth1
  have ld : ∀ (M' : q_MM) (o a : Nat) (_ : a < c 2) (k : Int32 → Option (Int32 × q_MM)), q_ld M' o 24 (nI a) k = k (M' o a) := fun M' o a ha k => w_ld (by omega) (by decide)
  have ne2 : ∀ a j (v : Int32) (M' : q_MM), q_u2 M' 5056 j v 5032 a = M' 5032 a := fun a j v M' => q_u2_ne (by omega)
  have ne6 : ∀ a j (v : Int32) (M' : q_MM), q_u2 M' 5056 j v 5036 a = M' 5036 a := fun a j v M' => q_u2_ne (by omega)
  have m1 : (-1 : Int32) < 0 := by decide
  have fel : (m 5036 p < 0 ∧ m 5036 p = -1) ∨ (¬ m 5036 p < 0 ∧ m 5036 p ≠ -1) := by
    rcases hf with e | ⟨f, hf, e⟩
    · exact Or.inl ⟨by rw [e]; decide, e⟩
    · exact Or.inr ⟨by rw [e]; exact nI_pos (by omega), by rw [e]; exact nI_neg1 (by omega)⟩
  rcases hl with ⟨rfl, rfl⟩ | ⟨a, ha, rfl, rfl⟩ <;> rcases hr with ⟨rfl, rfl⟩ | ⟨b, hb, rfl, rfl⟩
  · simp only [b_X12_barring_90, b_X12_barring_103, b_X12_barring_138, b_X12_barring_139, b_X12_barring_167, b_X12_barring_168, b_X12_barring_210, b_X12_barring_214, ts, tt0, tt1, w_ck t56, l56, q4, q5, ld _ _ p hp, ne2, ne6, Option.bind_some, m1, if_true, a_nb, a_sf, a_fe, ne_eq, not_true, false_and, if_false]
    rcases fel with ⟨f1, f2⟩ | ⟨f1, f2⟩ <;> simp [f1, f2]
  · have nb : nI b ≠ -1 := nI_neg1 (by omega)
    have pb : ¬ nI b < 0 := nI_pos (by omega)
    simp only [b_X12_barring_90, b_X12_barring_103, b_X12_barring_138, b_X12_barring_139, b_X12_barring_167, b_X12_barring_168, b_X12_barring_210, b_X12_barring_214, ts, tt0, tt1, w_ck t56, l56, q4, q5, ld _ _ p hp, ld _ _ b hb, ne2, ne6, Option.bind_some, m1, pb, if_true, a_nb, a_sf, a_fe, nb, nI_clamp (show b < 2 ^ 31 by omega), ne_eq, not_true, false_and, if_false, show (nI b = m 5036 p) = (m 5036 p = nI b) from propext ⟨Eq.symm, Eq.symm⟩]
    rcases fel with ⟨f1, f2⟩ | ⟨f1, f2⟩ <;> by_cases z1 : m 5032 b = m 5032 p <;> by_cases z2 : m 5036 p = nI b <;> simp [f1, z1, z2, nb, pb, tt0, tt1]
    all_goals first | (exact absurd (z2.symm.trans f2) nb) | (simp [f2])
  · have na : nI a ≠ -1 := nI_neg1 (by omega)
    have pa : ¬ nI a < 0 := nI_pos (by omega)
    simp only [b_X12_barring_90, b_X12_barring_103, b_X12_barring_138, b_X12_barring_139, b_X12_barring_167, b_X12_barring_168, b_X12_barring_210, b_X12_barring_214, ts, tt0, tt1, w_ck t56, l56, q4, q5, ld _ _ p hp, ld _ _ a ha, ne2, ne6, Option.bind_some, m1, pa, if_true, a_nb, a_sf, a_fe, na, nI_clamp (show a < 2 ^ 31 by omega), ne_eq, not_true, false_and, if_false, show (nI a = m 5036 p) = (m 5036 p = nI a) from propext ⟨Eq.symm, Eq.symm⟩]
    rcases fel with ⟨f1, f2⟩ | ⟨f1, f2⟩ <;> by_cases z1 : m 5032 a = m 5032 p <;> by_cases z2 : m 5036 p = nI a <;> simp [f1, z1, z2, na, pa, tt0, tt1]
    all_goals first | (exact absurd (z2.symm.trans f2) na) | (simp [f2])
  · have na : nI a ≠ -1 := nI_neg1 (by omega)
    have pa : ¬ nI a < 0 := nI_pos (by omega)
    have nb : nI b ≠ -1 := nI_neg1 (by omega)
    have pb : ¬ nI b < 0 := nI_pos (by omega)
    simp only [b_X12_barring_90, b_X12_barring_103, b_X12_barring_138, b_X12_barring_139, b_X12_barring_167, b_X12_barring_168, b_X12_barring_210, b_X12_barring_214, ts, tt0, tt1, w_ck t56, l56, q4, q5, ld _ _ p hp, ld _ _ a ha, ld _ _ b hb, ne2, ne6, Option.bind_some, m1, pa, pb, if_true, a_nb, a_sf, a_fe, na, nb, nI_clamp (show a < 2 ^ 31 by omega), nI_clamp (show b < 2 ^ 31 by omega), ne_eq, not_true, false_and, if_false, show (nI a = m 5036 p) = (m 5036 p = nI a) from propext ⟨Eq.symm, Eq.symm⟩, show (nI b = m 5036 p) = (m 5036 p = nI b) from propext ⟨Eq.symm, Eq.symm⟩]
    rcases fel with ⟨f1, f2⟩ | ⟨f1, f2⟩ <;> by_cases z1 : m 5032 a = m 5032 p <;> by_cases z3 : m 5032 b = m 5032 p <;> by_cases z2 : m 5036 p = nI a <;> by_cases z4 : m 5036 p = nI b <;> simp [f1, z1, z2, z3, z4, na, nb, pa, pb, tt0, tt1]
    all_goals first | (exact absurd (z2.symm.trans f2) na) | (exact absurd (z4.symm.trans f2) nb) | (simp [f2])
