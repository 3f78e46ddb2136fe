/-! who is in a room; foes; the term in force -/
def a_in (m : q_MM) (i : Nat) (r : Int32) : Prop := m 5040 i = 1 ∧ m 5020 (m 5041 i).toNatClampNeg = r
theorem s_wallOfK1 {c n : Nat → Nat} {m M : q_MM} (y : a_Y c n m M) (h8 : a_B8 c n m M) {p w : Nat} (hp : p < c 2) (hs : m 5040 p = 1) (hw : m 5041 p = nI w) (hw2 : w < c 1) : f_X2_wallOf c M (1300 + p) = some (1100 + w) := by
  have hC := y.C.2.2.1
  have h7 : a_B7 c n m M := y.1 7 (by decide)
  unfold f_X2_wallOf
  rw [w_ck (t_pic y.C hp), (h7.2.2.2.1 p hp).1.1, s_wallUnder (a := 61) (b := 63) (by decide) (by omega), (h8.2.1 p hp).1, hw, Option.bind_some, s_wallAtK1 y.2 hw2]
  rfl
theorem s_wallOfK0 {c n : Nat → Nat} {m M : q_MM} (y : a_Y c n m M) (h8 : a_B8 c n m M) {p : Nat} (hp : p < c 2) (hs : m 5040 p ≠ 1) : f_X2_wallOf c M (1300 + p) = some 0 := by
  have hC := y.C.2.2.1
  have hC1 := y.C.2.1
  have h7 : a_B7 c n m M := y.1 7 (by decide)
  unfold f_X2_wallOf
  rw [w_ck (t_pic y.C hp), (h7.2.2.2.1 p hp).1.1, s_wallUnder (a := 61) (b := 63) (by decide) (by omega), (h8.2.1 p hp).1, ((h8.2.1 p hp).2.2.2.2.2 hs).1, Option.bind_some, s_wallAtK0 y.2 (a_ltm1 (by omega))]
  rfl
theorem s_wallOf1 {c n : Nat → Nat} {m M : q_MM} (h : a_X c n m M) {p w : Nat} (hp : p < c 2) (hs : m 5040 p = 1) (hw : m 5041 p = nI w) (hw2 : w < c 1) : f_X2_wallOf c M (1300 + p) = some (1100 + w) := s_wallOfK1 h.Y (h 8) hp hs hw hw2
theorem s_wallOf0 {c n : Nat → Nat} {m M : q_MM} (h : a_X c n m M) {p : Nat} (hp : p < c 2) (hs : m 5040 p ≠ 1) : f_X2_wallOf c M (1300 + p) = some 0 := s_wallOfK0 h.Y (h 8) hp hs
theorem s_stateOf {c n : Nat → Nat} {m M : q_MM} (h : a_X c n m M) {p : Nat} (hp : p < c 2) : f_X2_stateOf c M (1300 + p) = some (m 5040 p) := by
  have hC := h.C.2.2.1
  have hC1 := h.C.2.1
  have h8 : a_B8 c n m M := h 8
  obtain ⟨g1, g2, g3, ⟨s, hs, g4⟩, g5, g6⟩ := h8.2.1 p hp
  unfold f_X2_stateOf
  rw [w_ck (t_pic h.C hp), ((h 7).2.2.2.1 p hp).1.1, s_has (by omega), g3]
  rcases (show s = 0 ∨ s = 1 ∨ s = 2 ∨ s = 3 by omega) with rfl | rfl | rfl | rfl
  · have e61 : M 61 p = -1 := g1.trans (g6 (by rw [g4]; decide)).1
    simp [g4, e61, nI_0]
  · obtain ⟨⟨w, hw, e⟩, -⟩ := g5 g4
    have e61 : ¬ M 61 p = -1 := by rw [g1, e]; exact nI_neg1 (by omega)
    simp [g4, e61, show nI 1 = 1 from rfl]
  · simp [g4, show nI 2 = 2 from rfl]
  · simp [g4, show nI 3 = 3 from rfl]
theorem s_isInX {c n : Nat → Nat} {m M : q_MM} (y : a_Y c n m M) {o a b : Nat} (ho : (o, a, b) ∈ [(21, 61, 63), (22, 62, 64)]) (hH : a_H c m M a b) (hV : a_V c m) {i : Nat} (hi : i < c 2) (r : Int32) : f_X2_isIn c M o (nI i) r = some (a_if (a_in m i r) 1 0) := by
  have hC := y.C.2.2.1
  have hC1 := y.C.2.1
  have h5 : a_B5 c n m M := y.1 5 (by decide)
  have hσ := y.2
  have hh : qTX c o = 11 := by
    simp only [List.mem_cons, List.not_mem_nil, or_false, Prod.mk.injEq] at ho
    rcases ho with ⟨rfl, rfl, rfl⟩ | ⟨rfl, rfl, rfl⟩ <;> rfl
  unfold f_X2_isIn
  rw [w_ck hh, s_wallUnder ho (by omega), (hH.1 i hi).1, Option.bind_some]
  unfold a_W
  by_cases z : m 5040 i = 1
  · obtain ⟨w, hw, e⟩ := (hV i hi z).1
    rw [if_pos z, e, s_wallAtK1 hσ hw, Option.bind_some, if_neg (by omega), w_ck (t_wall y.C hw), (h5.2.2.2.1 w hw).1.2.1]
    have e2 : (m 5041 i).toNatClampNeg = w := by rw [e, nI_clamp (by omega)]
    by_cases z2 : m 5020 w = r
    · rw [if_pos z2, w_bl1, a_ifp ⟨z, by rw [e2]; exact z2⟩]
    · rw [if_neg z2, w_bl0, a_ifn (fun q => z2 (by have := q.2; rw [e2] at this; exact this))]
  · rw [if_neg z, s_wallAtK0 hσ (a_ltm1 (by omega)), Option.bind_some, if_pos rfl, w_bl0, a_ifn (fun q => z q.1)]
theorem s_isInM {c : Nat → Nat} {m : q_MM} (hC : a_C c) (hV : a_V c m) {i : Nat} (hi : i < c 2) (r : Int32) : f_X12_isIn m (nI i) r = some (a_if (a_in m i r) 1 0) := by
  have hC2 := hC.2.2.1
  have hC1 := hC.2.1
  unfold f_X12_isIn
  rw [w_ld (by omega) (by decide)]
  by_cases z : m 5040 i = 1
  · obtain ⟨w, hw, e⟩ := (hV i hi z).1
    have e2 : (m 5041 i).toNatClampNeg = w := by rw [e, nI_clamp (by omega)]
    rw [if_pos z, w_ld (by omega) (by decide), e, w_ld (by omega) (by decide)]
    by_cases z2 : m 5020 w = r
    · rw [if_pos z2, w_bl1, a_ifp ⟨z, by rw [e2]; exact z2⟩]
    · rw [if_neg z2, w_bl0, a_ifn (fun q => z2 (by have := q.2; rw [e2] at this; exact this))]
  · rw [if_neg z, w_bl0, a_ifn (fun q => z q.1)]
def a_fo (m : q_MM) (p : Nat) (r : Int32) (i : Nat) : Prop := (m 5037 p = nI i ∨ m 5037 i = nI p) ∧ a_in m i r
theorem s_meetsFoe_loop {c n : Nat → Nat} {m M : q_MM} (y : a_Y c n m M) {o a b : Nat} (ho : (o, a, b) ∈ [(21, 61, 63), (22, 62, 64)]) (hH : a_H c m M a b) (hV : a_V c m) {p : Nat} (hp : p < c 2) (r : Int32) : ∀ (d i nf : Nat), i + d = c 2 → d < nf → (∀ j, j < i → ¬ a_fo m p r j) → b_X2_meetsFoe_3 c M nf o (1300 + p) r (nI i) = some (a_if (∃ j, j < c 2 ∧ a_fo m p r j) 1 0)
  | d, i, 0, _, h, _ => absurd h (Nat.not_lt_zero _)
  | 0, i, nf + 1, hi, _, hb => by
    have hC := y.C.2.2.1
    have h7 : a_B7 c n m M := y.1 7 (by decide)
    rw [b_X2_meetsFoe_3, s_size rfl, h7.2.2.1, Option.bind_some, if_pos (nI_le (by omega) (by omega)), w_bl0, a_ifn (fun ⟨j, hj, hbj⟩ => hb j (by omega) hbj)]
  | d + 1, i, nf + 1, hi, hf, hb => by
    have hC := y.C.2.2.1
    have h7 : a_B7 c n m M := y.1 7 (by decide)
    have hσ := y.2
    have IH := s_meetsFoe_loop y ho hH hV hp r d (i + 1) nf (by omega) (by omega)
    obtain ⟨i0, i1, i2, i3, i4, i5, i6, i7, i8, i9, -⟩ := (h7.2.2.2.1 i (by omega)).1
    obtain ⟨p0, p1, p2, p3, p4, p5, p6, p7, p8, p9, -⟩ := (h7.2.2.2.1 p hp).1
    have IH2 : ¬ a_fo m p r i → b_X2_meetsFoe_3 c M nf o (1300 + p) r (nI (i + 1)) = some (a_if (∃ j, j < c 2 ∧ a_fo m p r j) 1 0) := fun z => IH (fun j hj => by
      by_cases e : j = i
      · exact e ▸ z
      · exact hb j (by omega))
    rw [b_X2_meetsFoe_3, s_size rfl, h7.2.2.1, Option.bind_some, if_neg (nI_ge (by omega) (by omega))]
    simp only [b_X2_meetsFoe_46, b_X2_meetsFoe_51, b_X2_meetsFoe_71, w_ck (t_pic y.C hp), p0, p9, s_getPK hσ (show i < c 2 by omega), Option.bind_some, w_ck (t_pic y.C (show i < c 2 by omega)), i9, s_isInX y ho hH hV (show i < c 2 by omega), nI_1]
    have key : (m 5037 p = nI i ∨ m 5037 i = nI p) → (if a_if (a_in m i r) (1 : Int32) 0 = 0 then b_X2_meetsFoe_3 c M nf o (1300 + p) r (nI (i + 1)) else q_bl 1 (some 1)) = some (a_if (∃ j, j < c 2 ∧ a_fo m p r j) 1 0) := fun q => by
      by_cases z : a_in m i r
      · rw [a_ifp z, if_neg (by decide), w_bl1, a_ifp ⟨i, by omega, q, z⟩]
      · rw [a_ifn z, if_pos rfl]
        exact IH2 (fun w => z w.2)
    by_cases e1 : m 5037 p = nI i
    · rw [if_pos e1, if_neg (by decide)]
      exact key (Or.inl e1)
    · rw [if_neg e1]
      by_cases e2 : m 5037 i = nI p
      · rw [if_pos e2, if_neg (by decide)]
        exact key (Or.inr e2)
      · rw [if_neg e2, if_pos trivial]
        exact IH2 (fun w => w.1.elim e1 e2)
theorem s_meetsFoe {c n : Nat → Nat} {m M : q_MM} (y : a_Y c n m M) {o a b : Nat} (ho : (o, a, b) ∈ [(21, 61, 63), (22, 62, 64)]) (hH : a_H c m M a b) (hV : a_V c m) {p : Nat} (hp : p < c 2) (r : Int32) : f_X2_meetsFoe c M o (1300 + p) r = some (a_if (∃ j, j < c 2 ∧ a_fo m p r j) 1 0) := by
  have := q_fu_le
  have := y.C.2.2.1
  exact s_meetsFoe_loop y ho hH hV hp r (c 2) 0 q_fu (by omega) (by omega) (fun j hj => absurd hj (Nat.not_lt_zero j))
theorem s_foesM_loop {c n : Nat → Nat} {m M : q_MM} (y : a_Y c n m M) (hV : a_V c m) {p w : Nat} (hp : p < c 2) (hw : w < c 1) (x : Int32) : ∀ (d i nf : Nat), i + d = c 2 → d < nf → (∀ j, j < i → ¬ a_fo m p (m 5020 w) j) → b_X12_wrong_77 nf (nI p) (nI w) x 6 (nI i) m = a_if (∃ j, j < c 2 ∧ a_fo m p (m 5020 w) j) (some (5, m)) (b_X12_wrong_131 (nI p) (nI w) x 6 m)
  | d, i, 0, _, h, _ => absurd h (Nat.not_lt_zero _)
  | 0, i, nf + 1, hi, _, hb => by
    have hC := y.C.2.2.1
    have e : i = c 2 := by omega
    rw [b_X12_wrong_77, y.N, if_pos (nI_le (by omega) (by omega)), a_ifn (fun ⟨j, hj, hbj⟩ => hb j (by omega) hbj)]
  | d + 1, i, nf + 1, hi, hf, hb => by
    have hC := y.C.2.2.1
    have hC1 := y.C.2.1
    have h7 : a_B7 c n m M := y.1 7 (by decide)
    have IH := s_foesM_loop y hV hp hw x d (i + 1) nf (by omega) (by omega)
    have IH2 : ¬ a_fo m p (m 5020 w) i → b_X12_wrong_77 nf (nI p) (nI w) x 6 (nI (i + 1)) m = a_if (∃ j, j < c 2 ∧ a_fo m p (m 5020 w) j) (some (5, m)) (b_X12_wrong_131 (nI p) (nI w) x 6 m) := fun z => IH (fun j hj => by
      by_cases e : j = i
      · exact e ▸ z
      · exact hb j (by omega))
    rw [b_X12_wrong_77, y.N, if_neg (nI_ge (by omega) (by omega)), if_neg (by decide)]
    simp only [b_X12_wrong_125, w_ld (show w < 16 by omega) (show 16 ≤ 100000 by decide), s_isInM y.C hV (show i < c 2 by omega), Option.bind_some, nI_1, f_X12_areFoes, b_X12_areFoes_20, w_bl1, w_bl0, w_ld (show i < 24 by omega) (show 24 ≤ 100000 by decide), w_ld (show p < 24 by omega) (show 24 ≤ 100000 by decide)]
    by_cases e0 : i = p
    · subst e0
      rw [if_pos rfl]
      refine IH2 (fun z => ?_)
      have := (h7.2.2.2.1 i hp).2.2.2.2.2.2.2.2.2.2.2.1
      exact z.1.elim this this
    · rw [if_neg (fun z => e0 (nI_inj (by omega) (by omega) z))]
      by_cases z : a_in m i (m 5020 w)
      · rw [a_ifp z, if_neg (by decide)]
        by_cases e1 : m 5037 i = nI p
        · rw [if_pos e1, Option.bind_some, if_neg (by decide), a_ifp ⟨i, by omega, Or.inr e1, z⟩]
        · rw [if_neg e1]
          by_cases e2 : m 5037 p = nI i
          · rw [if_pos e2, Option.bind_some, if_neg (by decide), a_ifp ⟨i, by omega, Or.inl e2, z⟩]
          · rw [if_neg e2, Option.bind_some, if_pos rfl]
            exact IH2 (fun q => q.1.elim e2 e1)
      · rw [a_ifn z, if_pos rfl]
        exact IH2 (fun q => z q.2)
/-- how many others hang in a room -/
noncomputable def a_ot (m : q_MM) (p : Nat) (r : Int32) : Nat → Int32
  | 0 => 0
  | i + 1 => a_ot m p r i + a_if (i ≠ p ∧ a_in m i r) 1 0
theorem a_ot_s {m : q_MM} {p : Nat} {r : Int32} {i : Nat} : a_ot m p r (i + 1) = a_ot m p r i + a_if (i ≠ p ∧ a_in m i r) 1 0 := rfl
theorem s_othersX_loop {c n : Nat → Nat} {m M : q_MM} (y : a_Y c n m M) {o a b : Nat} (ho : (o, a, b) ∈ [(21, 61, 63), (22, 62, 64)]) (hH : a_H c m M a b) (hV : a_V c m) {p : Nat} (hp : p < c 2) (r : Int32) : ∀ (d i nf : Nat), i + d = c 2 → d < nf → b_X2_othersIn_6 c M nf o (1300 + p) r (a_ot m p r i) (nI i) = some (a_ot m p r (c 2))
  | d, i, 0, _, h => absurd h (Nat.not_lt_zero _)
  | 0, i, nf + 1, hi, _ => by
    have hC := y.C.2.2.1
    have h7 : a_B7 c n m M := y.1 7 (by decide)
    have e : i = c 2 := by omega
    rw [b_X2_othersIn_6, s_size rfl, h7.2.2.1, Option.bind_some, if_pos (nI_le (by omega) (by omega)), e]
  | d + 1, i, nf + 1, hi, hf => by
    have hC := y.C.2.2.1
    have hC1 := y.C.2.1
    have h7 : a_B7 c n m M := y.1 7 (by decide)
    have h5 : a_B5 c n m M := y.1 5 (by decide)
    have hσ := y.2
    have hh : qTX c o = 11 := by
      simp only [List.mem_cons, List.not_mem_nil, or_false, Prod.mk.injEq] at ho
      rcases ho with ⟨rfl, rfl, rfl⟩ | ⟨rfl, rfl, rfl⟩ <;> rfl
    have IH := s_othersX_loop y ho hH hV hp r d (i + 1) nf (by omega) (by omega)
    rw [a_ot_s] at IH
    obtain ⟨p0, -⟩ := (h7.2.2.2.1 p hp).1
    rw [b_X2_othersIn_6, s_size rfl, h7.2.2.1, Option.bind_some, if_neg (nI_ge (by omega) (by omega)), w_ck hh, s_wallUnder ho (by omega), (hH.1 i (by omega)).1, Option.bind_some]
    simp only [b_X2_othersIn_59, b_X2_othersIn_60, w_let, nI_1, w_ck (t_pic y.C hp), p0]
    unfold a_W
    by_cases z : m 5040 i = 1
    · obtain ⟨w, hw, e⟩ := (hV i (by omega) z).1
      have e2 : (m 5041 i).toNatClampNeg = w := by rw [e, nI_clamp (by omega)]
      rw [if_pos z, e, s_wallAtK1 hσ hw, Option.bind_some, if_neg (show ¬ 1100 + w = 0 by omega), w_ck (t_wall y.C hw), (h5.2.2.2.1 w hw).1.2.1]
      by_cases e0 : i = p
      · rw [a_ifn (fun q => q.1 e0)] at IH
        rw [if_pos (by rw [e0])]
        exact IH
      · rw [if_neg (fun q => e0 (nI_inj (by omega) (by omega) q))]
        by_cases z2 : m 5020 w = r
        · rw [a_ifp ⟨e0, z, by rw [e2]; exact z2⟩] at IH
          rw [if_pos z2]
          exact IH
        · rw [a_ifn (fun q => z2 (by have := q.2.2; rw [e2] at this; exact this))] at IH
          rw [if_neg z2]
          exact IH
    · rw [if_neg z, s_wallAtK0 hσ (a_ltm1 (by omega)), Option.bind_some, if_pos rfl]
      rw [a_ifn (fun q => z q.2.1)] at IH
      split <;> exact IH
theorem s_othersX {c n : Nat → Nat} {m M : q_MM} (y : a_Y c n m M) {o a b : Nat} (ho : (o, a, b) ∈ [(21, 61, 63), (22, 62, 64)]) (hH : a_H c m M a b) (hV : a_V c m) {p : Nat} (hp : p < c 2) (r : Int32) : f_X2_othersIn c M o (1300 + p) r = some (a_ot m p r (c 2)) := by
  have := q_fu_le
  have := y.C.2.2.1
  exact s_othersX_loop y ho hH hV hp r (c 2) 0 q_fu (by omega) (by omega)
theorem s_truth1 {m : q_MM} : f_X12_truth m 1 = some 1 := by simp [f_X12_truth]
theorem s_truth0 {m : q_MM} : f_X12_truth m 0 = some 0 := by simp [f_X12_truth]
theorem s_othersM_loop {c : Nat → Nat} {m : q_MM} (hC : a_C c) (hN : m 5001 18 = nI (c 2)) (hV : a_V c m) {p : Nat} (hp : p < c 2) (r : Int32) : ∀ (d i nf : Nat), i + d = c 2 → d < nf → b_X12_others_5 m nf (nI p) r (a_ot m p r i) (nI i) = some (a_ot m p r (c 2))
  | d, i, 0, _, h => absurd h (Nat.not_lt_zero _)
  | 0, i, nf + 1, hi, _ => by
    have hC2 := hC.2.2.1
    have e : i = c 2 := by omega
    rw [b_X12_others_5, hN, if_pos (nI_le (by omega) (by omega)), e]
  | d + 1, i, nf + 1, hi, hf => by
    have hC2 := hC.2.2.1
    have IH := s_othersM_loop hC hN hV hp r d (i + 1) nf (by omega) (by omega)
    rw [a_ot_s] at IH
    rw [b_X12_others_5, hN, if_neg (nI_ge (by omega) (by omega))]
    simp only [b_X12_others_35, b_X12_others_36, w_let, nI_1, s_truth0, s_truth1, Option.bind_some, s_isInM hC hV (show i < c 2 by omega)]
    by_cases e0 : i = p
    · rw [a_ifn (fun q => q.1 e0)] at IH
      rw [if_pos (by rw [e0])]
      exact IH
    · rw [if_neg (fun q => e0 (nI_inj (by omega) (by omega) q))]
      by_cases z : a_in m i r
      · rw [a_ifp ⟨e0, z⟩] at IH
        rw [a_ifp z, if_neg (by decide)]
        exact IH
      · rw [a_ifn (fun q => z q.2)] at IH
        rw [a_ifn z, if_pos rfl]
        exact IH
theorem s_othersM {c : Nat → Nat} {m : q_MM} (hC : a_C c) (hN : m 5001 18 = nI (c 2)) (hV : a_V c m) {p : Nat} (hp : p < c 2) (r : Int32) : f_X12_others m (nI p) r = some (a_ot m p r (c 2)) := by
  have := q_fu_le
  have := hC.2.2.1
  exact s_othersM_loop hC hN hV hp r (c 2) 0 q_fu (by omega) (by omega)
/-- the term that holds -/
def a_frc (m : q_MM) (x : Int32) : Nat → Int32
  | 0 => -1
  | i + 1 => if m 5047 i = x ∧ m 5048 i ≤ m 5001 35 ∧ (a_frc m x i = -1 ∨ m 5048 (a_frc m x i).toNatClampNeg ≤ m 5048 i) then nI i else a_frc m x i
theorem a_frc_s {m : q_MM} {x : Int32} {i : Nat} : a_frc m x (i + 1) = if m 5047 i = x ∧ m 5048 i ≤ m 5001 35 ∧ (a_frc m x i = -1 ∨ m 5048 (a_frc m x i).toNatClampNeg ≤ m 5048 i) then nI i else a_frc m x i := rfl
theorem a_frc_rg {m : q_MM} {x : Int32} : ∀ i : Nat, a_ltm (a_frc m x i) i
  | 0 => Or.inl rfl
  | i + 1 => by
    rw [a_frc_s]
    split
    · exact Or.inr ⟨i, by omega, rfl⟩
    · rcases a_frc_rg (m := m) (x := x) i with h | ⟨j, hj, e⟩
      · exact Or.inl h
      · exact Or.inr ⟨j, by omega, e⟩
def a_since (m : q_MM) (f : Int32) : Int32 := if f = -1 then -1 else m 5048 f.toNatClampNeg
theorem s_inForceX_loop {c n : Nat → Nat} {m M : q_MM} (h : a_X c n m M) (x : Int32) : ∀ (d i nf : Nat), i + d = c 3 → d < nf → b_X9_inForce_7 c M nf x (a_frc m x i) (a_since m (a_frc m x i)) (nI i) = some (a_frc m x (c 3))
  | d, i, 0, _, z => absurd z (Nat.not_lt_zero _)
  | 0, i, nf + 1, hi, _ => by
    have hC := h.C.2.2.2
    have e : i = c 3 := by omega
    have h18 : a_B18 c n m M := h 18
    rw [b_X9_inForce_7, s_size rfl, h18.2.2.1, Option.bind_some, if_pos (nI_le (by omega) (by omega)), e]
  | d + 1, i, nf + 1, hi, hf => by
    have hC := h.C.2.2.2
    have h18 : a_B18 c n m M := h 18
    have h1 : a_B1 c n m M := h 1
    have IH := s_inForceX_loop h x d (i + 1) nf (by omega) (by omega)
    obtain ⟨t0, t1, t2, t3, -⟩ := h18.2.2.2 i (by omega)
    unfold a_rg at t3
    rw [b_X9_inForce_7, s_size rfl, h18.2.2.1, Option.bind_some, if_neg (nI_ge (by omega) (by omega)), s_getT h (by omega), Option.bind_some, w_ck (t_term h.C (by omega)), t0, t1, h1.2.2, ← h1.2.1]
    simp only [b_X9_inForce_75, w_let, nI_1]
    have hold : ¬ (m 5047 i = x ∧ m 5048 i ≤ m 5001 35 ∧ (a_frc m x i = -1 ∨ m 5048 (a_frc m x i).toNatClampNeg ≤ m 5048 i)) → b_X9_inForce_7 c M nf x (a_frc m x i) (a_since m (a_frc m x i)) (nI (i + 1)) = some (a_frc m x (c 3)) := fun z => by
      have es : a_frc m x (i + 1) = a_frc m x i := by rw [a_frc_s, if_neg z]
      rw [es] at IH
      exact IH
    by_cases e1 : m 5047 i = x
    · rw [if_pos e1]
      by_cases e2 : m 5001 35 < m 5048 i
      · rw [if_pos e2]
        exact hold (fun z => by have := z.2.1; rw [i_le] at this; rw [i_lt] at e2; omega)
      · rw [if_neg e2]
        have e2' : m 5048 i ≤ m 5001 35 := by rw [i_le]; rw [i_lt] at e2; omega
        by_cases e3 : m 5048 i < a_since m (a_frc m x i)
        · rw [if_pos e3]
          refine hold (fun z => ?_)
          unfold a_since at e3
          rcases z.2.2 with q | q
          · rw [if_pos q, i_lt] at e3
            have : (-1 : Int32).toInt = -1 := by decide
            omega
          · by_cases q2 : a_frc m x i = -1
            · rw [if_pos q2, i_lt] at e3
              have : (-1 : Int32).toInt = -1 := by decide
              omega
            · rw [if_neg q2, i_lt] at e3
              rw [i_le] at q
              omega
        · rw [if_neg e3]
          have es : a_frc m x (i + 1) = nI i := by
            rw [a_frc_s, if_pos]
            refine ⟨e1, e2', ?_⟩
            unfold a_since at e3
            by_cases q2 : a_frc m x i = -1
            · exact Or.inl q2
            · rw [if_neg q2, i_lt] at e3
              exact Or.inr (by rw [i_le]; omega)
          rw [es] at IH
          have e9 : a_since m (nI i) = m 5048 i := by
            unfold a_since
            rw [if_neg (nI_neg1 (by omega)), nI_clamp (by omega)]
          rw [e9] at IH
          exact IH
    · rw [if_neg e1]
      exact hold (fun z => e1 z.1)
theorem s_inForceX {c n : Nat → Nat} {m M : q_MM} (h : a_X c n m M) (x : Int32) : f_X9_inForce c M x = some (a_frc m x (c 3)) := by
  have := q_fu_le
  have := h.C.2.2.2
  exact s_inForceX_loop h x (c 3) 0 q_fu (by omega) (by omega)
theorem s_inForceM_loop {m : q_MM} {N : Nat} (hN : m 5001 36 = nI N) (hN2 : N ≤ 30) (x : Int32) : ∀ (d i nf : Nat), i + d = N → d < nf → b_X12_inForce_4 m nf x (a_frc m x i) (nI i) = some (a_frc m x N)
  | d, i, 0, _, z => absurd z (Nat.not_lt_zero _)
  | 0, i, nf + 1, hi, _ => by
    have e : i = N := by omega
    rw [b_X12_inForce_4, hN, if_pos (nI_le (by omega) (by omega)), e]
  | d + 1, i, nf + 1, hi, hf => by
    have IH := s_inForceM_loop hN hN2 x d (i + 1) nf (by omega) (by omega)
    rw [b_X12_inForce_4, hN, if_neg (nI_ge (by omega) (by omega)), w_ld (by omega) (by decide), w_ld (by omega) (by decide)]
    simp only [b_X12_inForce_56, b_X12_inForce_54, nI_1, w_ld (show i < 30 by omega) (show 30 ≤ 100000 by decide)]
    have hold : ¬ (m 5047 i = x ∧ m 5048 i ≤ m 5001 35 ∧ (a_frc m x i = -1 ∨ m 5048 (a_frc m x i).toNatClampNeg ≤ m 5048 i)) → b_X12_inForce_4 m nf x (a_frc m x i) (nI (i + 1)) = some (a_frc m x N) := fun z => by
      have es : a_frc m x (i + 1) = a_frc m x i := by rw [a_frc_s, if_neg z]
      rw [es] at IH
      exact IH
    have hnew : (m 5047 i = x ∧ m 5048 i ≤ m 5001 35 ∧ (a_frc m x i = -1 ∨ m 5048 (a_frc m x i).toNatClampNeg ≤ m 5048 i)) → b_X12_inForce_4 m nf x (nI i) (nI (i + 1)) = some (a_frc m x N) := fun z => by
      have es : a_frc m x (i + 1) = nI i := by rw [a_frc_s, if_pos z]
      rw [es] at IH
      exact IH
    by_cases e1 : m 5047 i = x
    · rw [if_pos e1]
      by_cases e2 : m 5001 35 < m 5048 i
      · rw [if_pos e2]
        exact hold (fun z => by have := z.2.1; rw [i_le] at this; rw [i_lt] at e2; omega)
      · rw [if_neg e2]
        have e2' : m 5048 i ≤ m 5001 35 := by rw [i_le]; rw [i_lt] at e2; omega
        rcases a_frc_rg (m := m) (x := x) i with e | ⟨j, hj, e⟩
        · rw [e, if_pos (by decide)]
          exact hnew ⟨e1, e2', Or.inl e⟩
        · rw [e, if_neg (nI_pos (by omega)), w_ld (show j < 30 by omega) (by decide)]
          by_cases e3 : m 5048 i < m 5048 j
          · rw [if_pos e3]
            rw [e] at hold
            refine hold (fun z => ?_)
            rw [nI_clamp (by omega)] at z
            rcases z.2.2 with q | q
            · exact nI_neg1 (by omega) q
            · rw [i_le] at q; rw [i_lt] at e3; omega
          · rw [if_neg e3]
            refine hnew ⟨e1, e2', Or.inr ?_⟩
            rw [e, nI_clamp (by omega), i_le]
            rw [i_lt] at e3
            omega
    · rw [if_neg e1]
      exact hold (fun z => e1 z.1)
theorem s_inForceM {c : Nat → Nat} {m : q_MM} (hN : m 5001 36 = nI (c 3)) (hN2 : c 3 ≤ 30) (x : Int32) : f_X12_inForce m x = some (a_frc m x (c 3)) := by
  have := q_fu_le
  exact s_inForceM_loop hN hN2 x (c 3) 0 q_fu (by omega) (by omega)
theorem pub_force {c n : Nat → Nat} {m M : q_MM} (h : a_X c n m M) (a1 : Int32) : a_Tr c M (f_X11_force c M a1) (f_X12_force m a1) := by
  unfold f_X11_force f_X12_force
  simp only [w_let]
  replace h := h.t0
  generalize q_u2 m 5001 0 0 = m at h ⊢
  have h18 : a_B18 c n m M := h 18
  by_cases z1 : a_lt a1 (c 2)
  · obtain ⟨p, hp, rfl⟩ := z1
    exact ⟨a_frc m (nI p) (c 3), n, m, by simp [s_picAt1 h hp, s_inForceX h], by simp [h.isPicture1 hp, s_inForceM h18.2.1 h.C.2.2.2], h⟩
  · exact ⟨-1, n, m, by simp [s_picAt0 h z1], by simp [h.isPicture0 z1], h⟩
