/-! neighbours; what holds; how many -/
def a_lf (W X : Nat → Int32) (w x aside : Int32) : Nat → Int32
  | 0 => -1
  | i + 1 => if nI i ≠ aside ∧ W i = w ∧ X i ≤ x ∧ (a_lf W X w x aside i = -1 ∨ X (a_lf W X w x aside i).toNatClampNeg ≤ X i) then nI i else a_lf W X w x aside i
def a_rt (W X : Nat → Int32) (w x aside : Int32) : Nat → Int32
  | 0 => -1
  | i + 1 => if nI i ≠ aside ∧ W i = w ∧ x < X i ∧ (a_rt W X w x aside i = -1 ∨ X i < X (a_rt W X w x aside i).toNatClampNeg) then nI i else a_rt W X w x aside i
theorem a_lf_s {W X : Nat → Int32} {w x aside : Int32} {i : Nat} : a_lf W X w x aside (i + 1) = if nI i ≠ aside ∧ W i = w ∧ X i ≤ x ∧ (a_lf W X w x aside i = -1 ∨ X (a_lf W X w x aside i).toNatClampNeg ≤ X i) then nI i else a_lf W X w x aside i := rfl
theorem a_rt_s {W X : Nat → Int32} {w x aside : Int32} {i : Nat} : a_rt W X w x aside (i + 1) = if nI i ≠ aside ∧ W i = w ∧ x < X i ∧ (a_rt W X w x aside i = -1 ∨ X i < X (a_rt W X w x aside i).toNatClampNeg) then nI i else a_rt W X w x aside i := rfl
theorem a_lf_rg {W X : Nat → Int32} {w x aside : Int32} : ∀ i : Nat, a_ltm (a_lf W X w x aside i) i
  | 0 => Or.inl rfl
  | i + 1 => by
    rw [a_lf_s]
    split
    · exact Or.inr ⟨i, by omega, rfl⟩
    · rcases a_lf_rg (W := W) (X := X) (w := w) (x := x) (aside := aside) i with h | ⟨j, hj, e⟩
      · exact Or.inl h
      · exact Or.inr ⟨j, by omega, e⟩
theorem a_rt_rg {W X : Nat → Int32} {w x aside : Int32} : ∀ i : Nat, a_ltm (a_rt W X w x aside i) i
  | 0 => Or.inl rfl
  | i + 1 => by
    rw [a_rt_s]
    split
    · exact Or.inr ⟨i, by omega, rfl⟩
    · rcases a_rt_rg (W := W) (X := X) (w := w) (x := x) (aside := aside) i with h | ⟨j, hj, e⟩
      · exact Or.inl h
      · exact Or.inr ⟨j, by omega, e⟩
theorem a_lf_cong {W X W' X' : Nat → Int32} {w x aside : Int32} : ∀ {N : Nat}, N ≤ 100 → (∀ i, i < N → W i = W' i ∧ X i = X' i) → a_lf W X w x aside N = a_lf W' X' w x aside N
  | 0, _, _ => rfl
  | i + 1, hN, h => by
    have ih := a_lf_cong (W := W) (X := X) (w := w) (x := x) (aside := aside) (N := i) (by omega) (fun j hj => h j (by omega))
    rw [a_lf_s, a_lf_s, ih, (h i (by omega)).1, (h i (by omega)).2]
    rcases a_lf_rg (W := W') (X := X') (w := w) (x := x) (aside := aside) i with e | ⟨j, hj, e⟩
    · rw [e]
      simp
    · rw [e, nI_clamp (by omega), (h j (by omega)).2]
theorem a_rt_cong {W X W' X' : Nat → Int32} {w x aside : Int32} : ∀ {N : Nat}, N ≤ 100 → (∀ i, i < N → W i = W' i ∧ X i = X' i) → a_rt W X w x aside N = a_rt W' X' w x aside N
  | 0, _, _ => rfl
  | i + 1, hN, h => by
    have ih := a_rt_cong (W := W) (X := X) (w := w) (x := x) (aside := aside) (N := i) (by omega) (fun j hj => h j (by omega))
    rw [a_rt_s, a_rt_s, ih, (h i (by omega)).1, (h i (by omega)).2]
    rcases a_rt_rg (W := W') (X := X') (w := w) (x := x) (aside := aside) i with e | ⟨j, hj, e⟩
    · rw [e]
      simp
    · rw [e, nI_clamp (by omega), (h j (by omega)).2]
theorem a_lf_more {W X : Nat → Int32} {w x aside : Int32} {N : Nat} : ∀ {d : Nat}, (∀ i, N ≤ i → i < N + d → W i ≠ w) → a_lf W X w x aside (N + d) = a_lf W X w x aside N
  | 0, _ => rfl
  | d + 1, h => by
    rw [← Nat.add_assoc, a_lf_s, if_neg (fun z => h (N + d) (by omega) (by omega) z.2.1)]
    exact a_lf_more (fun i h1 h2 => h i h1 (by omega))
theorem a_rt_more {W X : Nat → Int32} {w x aside : Int32} {N : Nat} : ∀ {d : Nat}, (∀ i, N ≤ i → i < N + d → W i ≠ w) → a_rt W X w x aside (N + d) = a_rt W X w x aside N
  | 0, _ => rfl
  | d + 1, h => by
    rw [← Nat.add_assoc, a_rt_s, if_neg (fun z => h (N + d) (by omega) (by omega) z.2.1)]
    exact a_rt_more (fun i h1 h2 => h i h1 (by omega))
/-- the wall under a picture, as the model has it -/
def a_W (m : q_MM) (p : Nat) : Int32 := if m 5040 p = 1 then m 5041 p else -1
/-- a hanging of the class (its rows a, b) says what the model says -/
def a_H (c : Nat → Nat) (m M : q_MM) (a b : Nat) : Prop := (∀ p, p < c 2 → M a p = a_W m p ∧ M b p = m 5042 p) ∧ ∀ p, c 2 ≤ p → p < 24 → M a p = -1
theorem a_X.H {c n : Nat → Nat} {m M : q_MM} (h : a_X c n m M) : a_H c m M 61 63 := by
  have h8 : a_B8 c n m M := h 8
  refine ⟨fun p hp => ?_, fun p h1 h2 => (h8.2.2.1 p h1 h2).1⟩
  obtain ⟨g1, g2, -, -, g5, g6⟩ := h8.2.1 p hp
  refine ⟨?_, g2⟩
  unfold a_W
  split
  · exact g1
  · rename_i z
    exact g1.trans (g6 z).1
theorem s_leftOf_loop {c : Nat → Nat} {M : q_MM} {o a b : Nat} (ho : (o, a, b) ∈ [(21, 61, 63), (22, 62, 64)]) (w x aside : Int32) : ∀ (d i nf : Nat), i + d = 24 → d < nf → b_X1_leftOf_6 c M nf o aside w x (a_lf (M a) (M b) w x aside i) (nI i) = some (a_lf (M a) (M b) w x aside 24)
  | d, i, 0, _, h => absurd h (Nat.not_lt_zero _)
  | 0, i, nf + 1, hi, _ => by
    have : i = 24 := by omega
    subst this
    rw [b_X1_leftOf_6, if_pos (by decide)]
  | d + 1, i, nf + 1, hi, hf => by
    have hh : qTX c o = 11 ∧ qPX c o 0 = a ∧ qPX c o 1 = b ∧ qTX c a = 1 ∧ qTX c b = 1 ∧ qLX c a = 24 ∧ qLX c b = 24 := by
      simp only [List.mem_cons, List.not_mem_nil, or_false, Prod.mk.injEq] at ho
      rcases ho with ⟨rfl, rfl, rfl⟩ | ⟨rfl, rfl, rfl⟩ <;> exact ⟨rfl, rfl, rfl, rfl, rfl, rfl, rfl⟩
    obtain ⟨h1, h2, h3, h4, h5, h6, h7⟩ := hh
    have IH := s_leftOf_loop (c := c) (M := M) ho w x aside d (i + 1) nf (by omega) (by omega)
    rw [b_X1_leftOf_6, if_neg (show ¬ (24 : Int32) ≤ nI i from nI_ge (a := i) (b := 24) (by omega) (by decide))]
    simp only [b_X1_leftOf_45, b_X1_leftOf_46, b_X1_leftOf_76, b_X1_leftOf_80, w_ck h1, h2, h3, w_ck h4, w_ck h5, h6, h7, w_ld (show i < 24 by omega) (show 24 ≤ 100000 by decide), nI_1]
    by_cases e1 : nI i = aside
    · have es : a_lf (M a) (M b) w x aside (i + 1) = a_lf (M a) (M b) w x aside i := by rw [a_lf_s, if_neg (fun z => z.1 e1)]
      rw [if_pos e1, if_pos trivial, ← es]
      exact IH
    · rw [if_neg e1]
      by_cases e2 : M a i = w
      · rw [if_pos e2]
        by_cases e3 : M b i ≤ x
        · rw [if_neg (by rw [i_lt]; rw [i_le] at e3; omega), if_neg (by decide)]
          rcases a_lf_rg (W := M a) (X := M b) (w := w) (x := x) (aside := aside) i with e | ⟨j, hj, e⟩
          · have es : a_lf (M a) (M b) w x aside (i + 1) = nI i := by rw [a_lf_s, if_pos ⟨e1, e2, e3, Or.inl e⟩]
            rw [if_pos e, ← es]
            rw [es] at IH ⊢
            exact IH
          · rw [e, if_neg (nI_neg1 (by omega)), w_ld (show j < 24 by omega) (by decide)]
            by_cases e4 : M b i < M b j
            · have es : a_lf (M a) (M b) w x aside (i + 1) = nI j := by
                rw [a_lf_s, if_neg, e]
                rw [e, nI_clamp (by omega)]
                rintro ⟨-, -, -, z | z⟩
                · exact nI_neg1 (by omega) z
                · rw [i_lt] at e4; rw [i_le] at z; omega
              rw [if_pos e4, ← es]
              exact IH
            · have es : a_lf (M a) (M b) w x aside (i + 1) = nI i := by
                rw [a_lf_s, if_pos]
                rw [e, nI_clamp (by omega)]
                exact ⟨e1, e2, e3, Or.inr (by rw [i_lt] at e4; rw [i_le]; omega)⟩
              rw [if_neg e4]
              rw [es] at IH
              exact IH
        · have es : a_lf (M a) (M b) w x aside (i + 1) = a_lf (M a) (M b) w x aside i := by rw [a_lf_s, if_neg (fun z => e3 z.2.2.1)]
          rw [if_pos (by rw [i_lt]; rw [i_le] at e3; omega), if_pos trivial, ← es]
          exact IH
      · have es : a_lf (M a) (M b) w x aside (i + 1) = a_lf (M a) (M b) w x aside i := by rw [a_lf_s, if_neg (fun z => e2 z.2.1)]
        rw [if_neg e2, if_pos trivial, ← es]
        exact IH
theorem s_rightOf_loop {c : Nat → Nat} {M : q_MM} {o a b : Nat} (ho : (o, a, b) ∈ [(21, 61, 63), (22, 62, 64)]) (w x aside : Int32) : ∀ (d i nf : Nat), i + d = 24 → d < nf → b_X1_rightOf_6 c M nf o aside w x (a_rt (M a) (M b) w x aside i) (nI i) = some (a_rt (M a) (M b) w x aside 24)
  | d, i, 0, _, h => absurd h (Nat.not_lt_zero _)
  | 0, i, nf + 1, hi, _ => by
    have : i = 24 := by omega
    subst this
    rw [b_X1_rightOf_6, if_pos (by decide)]
  | d + 1, i, nf + 1, hi, hf => by
    have hh : qTX c o = 11 ∧ qPX c o 0 = a ∧ qPX c o 1 = b ∧ qTX c a = 1 ∧ qTX c b = 1 ∧ qLX c a = 24 ∧ qLX c b = 24 := by
      simp only [List.mem_cons, List.not_mem_nil, or_false, Prod.mk.injEq] at ho
      rcases ho with ⟨rfl, rfl, rfl⟩ | ⟨rfl, rfl, rfl⟩ <;> exact ⟨rfl, rfl, rfl, rfl, rfl, rfl, rfl⟩
    obtain ⟨h1, h2, h3, h4, h5, h6, h7⟩ := hh
    have IH := s_rightOf_loop (c := c) (M := M) ho w x aside d (i + 1) nf (by omega) (by omega)
    rw [b_X1_rightOf_6, if_neg (show ¬ (24 : Int32) ≤ nI i from nI_ge (a := i) (b := 24) (by omega) (by decide))]
    simp only [b_X1_rightOf_45, b_X1_rightOf_46, b_X1_rightOf_76, b_X1_rightOf_80, w_ck h1, h2, h3, w_ck h4, w_ck h5, h6, h7, w_ld (show i < 24 by omega) (show 24 ≤ 100000 by decide), nI_1]
    by_cases e1 : nI i = aside
    · have es : a_rt (M a) (M b) w x aside (i + 1) = a_rt (M a) (M b) w x aside i := by rw [a_rt_s, if_neg (fun z => z.1 e1)]
      rw [if_pos e1, if_pos trivial, ← es]
      exact IH
    · rw [if_neg e1]
      by_cases e2 : M a i = w
      · rw [if_pos e2]
        by_cases e3 : x < M b i
        · rw [if_neg (by rw [i_le]; rw [i_lt] at e3; omega), if_neg (by decide)]
          rcases a_rt_rg (W := M a) (X := M b) (w := w) (x := x) (aside := aside) i with e | ⟨j, hj, e⟩
          · have es : a_rt (M a) (M b) w x aside (i + 1) = nI i := by rw [a_rt_s, if_pos ⟨e1, e2, e3, Or.inl e⟩]
            rw [if_pos e]
            rw [es] at IH
            exact IH
          · rw [e, if_neg (nI_neg1 (by omega)), w_ld (show j < 24 by omega) (by decide)]
            by_cases e4 : M b j ≤ M b i
            · have es : a_rt (M a) (M b) w x aside (i + 1) = nI j := by
                rw [a_rt_s, if_neg, e]
                rw [e, nI_clamp (by omega)]
                rintro ⟨-, -, -, z | z⟩
                · exact nI_neg1 (by omega) z
                · rw [i_le] at e4; rw [i_lt] at z; omega
              rw [if_pos e4, ← es]
              exact IH
            · have es : a_rt (M a) (M b) w x aside (i + 1) = nI i := by
                rw [a_rt_s, if_pos]
                rw [e, nI_clamp (by omega)]
                exact ⟨e1, e2, e3, Or.inr (by rw [i_le] at e4; rw [i_lt]; omega)⟩
              rw [if_neg e4]
              rw [es] at IH
              exact IH
        · have es : a_rt (M a) (M b) w x aside (i + 1) = a_rt (M a) (M b) w x aside i := by rw [a_rt_s, if_neg (fun z => e3 z.2.2.1)]
          rw [if_pos (by rw [i_le]; rw [i_lt] at e3; omega), if_pos trivial, ← es]
          exact IH
      · have es : a_rt (M a) (M b) w x aside (i + 1) = a_rt (M a) (M b) w x aside i := by rw [a_rt_s, if_neg (fun z => e2 z.2.1)]
        rw [if_neg e2, if_pos trivial, ← es]
        exact IH
/-- the left neighbour, the right one, as the model's memory has them -/
def a_left (c : Nat → Nat) (m : q_MM) (w x aside : Int32) : Int32 := a_lf (a_W m) (m 5042) w x aside (c 2)
def a_right (c : Nat → Nat) (m : q_MM) (w x aside : Int32) : Int32 := a_rt (a_W m) (m 5042) w x aside (c 2)
theorem s_leftOf {c : Nat → Nat} {m M : q_MM} {o a b w : Nat} (ho : (o, a, b) ∈ [(21, 61, 63), (22, 62, 64)]) (hH : a_H c m M a b) (hc : c 2 ≤ 24) (hw : w < 100) (x aside : Int32) : f_X1_leftOf c M o aside (nI w) x = some (a_left c m (nI w) x aside) := by
  have := q_fu_le
  unfold f_X1_leftOf a_left
  refine (s_leftOf_loop ho (nI w) x aside 24 0 q_fu (by omega) (by omega)).trans ?_
  congr 1
  obtain ⟨d, hd⟩ : ∃ d, 24 = c 2 + d := ⟨24 - c 2, by omega⟩
  rw [hd, a_lf_more (fun i h1 h2 z => nI_neg1 (by omega) (z.symm.trans (hH.2 i h1 (by omega))))]
  exact a_lf_cong (by omega) (fun i hi => hH.1 i hi)
theorem s_rightOf {c : Nat → Nat} {m M : q_MM} {o a b w : Nat} (ho : (o, a, b) ∈ [(21, 61, 63), (22, 62, 64)]) (hH : a_H c m M a b) (hc : c 2 ≤ 24) (hw : w < 100) (x aside : Int32) : f_X1_rightOf c M o aside (nI w) x = some (a_right c m (nI w) x aside) := by
  have := q_fu_le
  unfold f_X1_rightOf a_right
  refine (s_rightOf_loop ho (nI w) x aside 24 0 q_fu (by omega) (by omega)).trans ?_
  congr 1
  obtain ⟨d, hd⟩ : ∃ d, 24 = c 2 + d := ⟨24 - c 2, by omega⟩
  rw [hd, a_rt_more (fun i h1 h2 z => nI_neg1 (by omega) (z.symm.trans (hH.2 i h1 (by omega))))]
  exact a_rt_cong (by omega) (fun i hi => hH.1 i hi)
theorem s_isOn {m : q_MM} {p w : Nat} (hp : p < 24) (hw : w < 100) : f_X12_isOn m (nI p) (nI w) = some (if a_W m p = nI w then 1 else 0) := by
  unfold f_X12_isOn a_W
  rw [w_ld hp (by decide)]
  by_cases z : m 5040 p = 1
  · rw [if_pos z, if_pos z, w_ld hp (by decide), w_bl1, w_bl0]
    split <;> rfl
  · rw [if_neg z, if_neg z, w_bl0, if_neg (fun q => nI_neg1 (by omega) q.symm)]
theorem s_besideL_loop {m : q_MM} {N w : Nat} (hN : m 5001 18 = nI N) (hN2 : N ≤ 24) (hw : w < 100) (x aside : Int32) : ∀ (d i nf : Nat), i + d = N → d < nf → b_X12_beside_6 m nf (nI w) x aside 1 (a_lf (a_W m) (m 5042) (nI w) x aside i) (nI i) = some (a_lf (a_W m) (m 5042) (nI w) x aside N)
  | d, i, 0, _, h => absurd h (Nat.not_lt_zero _)
  | 0, i, nf + 1, hi, _ => by
    have : i = N := by omega
    subst this
    rw [b_X12_beside_6, hN, if_pos (nI_le (Nat.le_refl i) (by omega))]
  | d + 1, i, nf + 1, hi, hf => by
    have IH := s_besideL_loop hN hN2 hw x aside d (i + 1) nf (by omega) (by omega)
    rw [b_X12_beside_6, hN, if_neg (nI_ge (by omega) (by omega))]
    simp only [b_X12_beside_123, b_X12_beside_121, b_X12_beside_107, b_X12_beside_106, b_X12_beside_102, b_X12_beside_47, s_isOn (show i < 24 by omega) hw, Option.bind_some, w_ld (show i < 24 by omega) (show 24 ≤ 100000 by decide), nI_1]
    by_cases e1 : nI i = aside
    · have es : a_lf (a_W m) (m 5042) (nI w) x aside (i + 1) = a_lf (a_W m) (m 5042) (nI w) x aside i := by rw [a_lf_s, if_neg (fun z => z.1 e1)]
      rw [if_pos e1, ← es]
      exact IH
    · rw [if_neg e1]
      by_cases e2 : a_W m i = nI w
      · rw [if_pos e2, if_neg (show ¬ (1 : Int32) = 0 by decide)]
        by_cases e3 : m 5042 i ≤ x
        · rw [if_neg (by rw [i_lt]; rw [i_le] at e3; omega), if_pos trivial]
          rcases a_lf_rg (W := a_W m) (X := m 5042) (w := nI w) (x := x) (aside := aside) i with e | ⟨j, hj, e⟩
          · have es : a_lf (a_W m) (m 5042) (nI w) x aside (i + 1) = nI i := by rw [a_lf_s, if_pos ⟨e1, e2, e3, Or.inl e⟩]
            rw [e, if_pos (by decide), if_neg (show ¬ (1 : Int32) = 0 by decide)]
            rw [es] at IH
            exact IH
          · rw [e, if_neg (nI_pos (by omega)), if_neg (show ¬ (1 : Int32) = 0 by decide), w_ld (show j < 24 by omega) (by decide)]
            by_cases e4 : m 5042 i < m 5042 j
            · have es : a_lf (a_W m) (m 5042) (nI w) x aside (i + 1) = nI j := by
                rw [a_lf_s, if_neg, e]
                rw [e, nI_clamp (by omega)]
                rintro ⟨-, -, -, z | z⟩
                · exact nI_neg1 (by omega) z
                · rw [i_lt] at e4; rw [i_le] at z; omega
              rw [if_pos e4, if_pos trivial, ← es]
              exact IH
            · have es : a_lf (a_W m) (m 5042) (nI w) x aside (i + 1) = nI i := by
                rw [a_lf_s, if_pos]
                rw [e, nI_clamp (by omega)]
                exact ⟨e1, e2, e3, Or.inr (by rw [i_lt] at e4; rw [i_le]; omega)⟩
              rw [if_neg e4, if_neg (show ¬ (1 : Int32) = 0 by decide)]
              rw [es] at IH
              exact IH
        · have es : a_lf (a_W m) (m 5042) (nI w) x aside (i + 1) = a_lf (a_W m) (m 5042) (nI w) x aside i := by rw [a_lf_s, if_neg (fun z => e3 z.2.2.1)]
          rw [if_pos (by rw [i_lt]; rw [i_le] at e3; omega), if_neg (by decide), ← es]
          exact IH
      · have es : a_lf (a_W m) (m 5042) (nI w) x aside (i + 1) = a_lf (a_W m) (m 5042) (nI w) x aside i := by rw [a_lf_s, if_neg (fun z => e2 z.2.1)]
        rw [if_neg e2, if_pos trivial, ← es]
        exact IH
theorem s_besideR_loop {m : q_MM} {N w : Nat} (hN : m 5001 18 = nI N) (hN2 : N ≤ 24) (hw : w < 100) (x aside : Int32) : ∀ (d i nf : Nat), i + d = N → d < nf → b_X12_beside_6 m nf (nI w) x aside 0 (a_rt (a_W m) (m 5042) (nI w) x aside i) (nI i) = some (a_rt (a_W m) (m 5042) (nI w) x aside N)
  | d, i, 0, _, h => absurd h (Nat.not_lt_zero _)
  | 0, i, nf + 1, hi, _ => by
    have : i = N := by omega
    subst this
    rw [b_X12_beside_6, hN, if_pos (nI_le (Nat.le_refl i) (by omega))]
  | d + 1, i, nf + 1, hi, hf => by
    have IH := s_besideR_loop hN hN2 hw x aside d (i + 1) nf (by omega) (by omega)
    rw [b_X12_beside_6, hN, if_neg (nI_ge (by omega) (by omega))]
    simp only [b_X12_beside_123, b_X12_beside_121, b_X12_beside_107, b_X12_beside_106, b_X12_beside_102, b_X12_beside_47, s_isOn (show i < 24 by omega) hw, Option.bind_some, w_ld (show i < 24 by omega) (show 24 ≤ 100000 by decide), nI_1]
    by_cases e1 : nI i = aside
    · have es : a_rt (a_W m) (m 5042) (nI w) x aside (i + 1) = a_rt (a_W m) (m 5042) (nI w) x aside i := by rw [a_rt_s, if_neg (fun z => z.1 e1)]
      rw [if_pos e1, ← es]
      exact IH
    · rw [if_neg e1]
      by_cases e2 : a_W m i = nI w
      · rw [if_pos e2, if_neg (show ¬ (1 : Int32) = 0 by decide)]
        by_cases e3 : x < m 5042 i
        · rw [if_pos e3, if_pos trivial]
          rcases a_rt_rg (W := a_W m) (X := m 5042) (w := nI w) (x := x) (aside := aside) i with e | ⟨j, hj, e⟩
          · have es : a_rt (a_W m) (m 5042) (nI w) x aside (i + 1) = nI i := by rw [a_rt_s, if_pos ⟨e1, e2, e3, Or.inl e⟩]
            rw [e, if_pos (by decide), if_neg (show ¬ (1 : Int32) = 0 by decide)]
            rw [es] at IH
            exact IH
          · rw [e, if_neg (nI_pos (by omega)), if_pos trivial, w_ld (show j < 24 by omega) (by decide)]
            by_cases e4 : m 5042 j ≤ m 5042 i
            · have es : a_rt (a_W m) (m 5042) (nI w) x aside (i + 1) = nI j := by
                rw [a_rt_s, if_neg, e]
                rw [e, nI_clamp (by omega)]
                rintro ⟨-, -, -, z | z⟩
                · exact nI_neg1 (by omega) z
                · rw [i_le] at e4; rw [i_lt] at z; omega
              rw [if_pos e4, if_pos trivial, ← es]
              exact IH
            · have es : a_rt (a_W m) (m 5042) (nI w) x aside (i + 1) = nI i := by
                rw [a_rt_s, if_pos]
                rw [e, nI_clamp (by omega)]
                exact ⟨e1, e2, e3, Or.inr (by rw [i_le] at e4; rw [i_lt]; omega)⟩
              rw [if_neg e4, if_neg (show ¬ (1 : Int32) = 0 by decide)]
              rw [es] at IH
              exact IH
        · have es : a_rt (a_W m) (m 5042) (nI w) x aside (i + 1) = a_rt (a_W m) (m 5042) (nI w) x aside i := by rw [a_rt_s, if_neg (fun z => e3 z.2.2.1)]
          rw [if_neg e3, if_neg (by decide), ← es]
          exact IH
      · have es : a_rt (a_W m) (m 5042) (nI w) x aside (i + 1) = a_rt (a_W m) (m 5042) (nI w) x aside i := by rw [a_rt_s, if_neg (fun z => e2 z.2.1)]
        rw [if_neg e2, if_pos trivial, ← es]
        exact IH
theorem s_besideL {c : Nat → Nat} {m : q_MM} {w : Nat} (hN : m 5001 18 = nI (c 2)) (hN2 : c 2 ≤ 24) (hw : w < 100) (x aside : Int32) : f_X12_beside m (nI w) x aside 1 = some (a_left c m (nI w) x aside) := by
  have := q_fu_le
  exact s_besideL_loop hN hN2 hw x aside (c 2) 0 q_fu (by omega) (by omega)
theorem s_besideR {c : Nat → Nat} {m : q_MM} {w : Nat} (hN : m 5001 18 = nI (c 2)) (hN2 : c 2 ≤ 24) (hw : w < 100) (x aside : Int32) : f_X12_beside m (nI w) x aside 0 = some (a_right c m (nI w) x aside) := by
  have := q_fu_le
  exact s_besideR_loop hN hN2 hw x aside (c 2) 0 q_fu (by omega) (by omega)
