/-! what is asked: count, at, row, like; signs -/
theorem s_hung_loop {m : q_MM} {N : Nat} (hN : m 5001 18 = nI N) (hN2 : N ≤ 24) : ∀ (d i nf : Nat), i + d = N → d < nf → b_X12_hungMany_4 m nf (nI (fb_ct (fun p => m 5040 p == 1) i)) (nI i) = some (nI (fb_ct (fun p => m 5040 p == 1) N))
  | d, i, 0, _, z => absurd z (Nat.not_lt_zero _)
  | 0, i, nf + 1, hi, _ => by
    have e : i = N := by omega
    rw [b_X12_hungMany_4, hN, if_pos (nI_le (by omega) (by omega)), e]
  | d + 1, i, nf + 1, hi, hf => by
    have IH := s_hung_loop hN hN2 d (i + 1) nf (by omega) (by omega)
    rw [fb_ct_succ] at IH
    rw [b_X12_hungMany_4, hN, if_neg (nI_ge (by omega) (by omega)), w_ld (by omega) (by decide)]
    simp only [b_X12_hungMany_28, w_let, nI_1, s_truth0, s_truth1, Option.bind_some]
    by_cases z : m 5040 i = 1
    · rw [if_pos z]
      rw [if_pos (by simpa using z)] at IH
      exact IH
    · rw [if_neg z, Int32.add_zero]
      rw [if_neg (by simpa using z)] at IH
      exact IH
theorem s_howMany_loop {c : Nat → Nat} {M : q_MM} : ∀ (d i nf : Nat), i + d = 24 → d < nf → b_X1_howMany_4 c M nf 21 (nI (fb_ct (fun p => M 61 p != -1) i)) (nI i) = some (nI (fb_ct (fun p => M 61 p != -1) 24))
  | d, i, 0, _, z => absurd z (Nat.not_lt_zero _)
  | 0, i, nf + 1, hi, _ => by
    have e : i = 24 := by omega
    subst e
    rw [b_X1_howMany_4, if_pos (by decide)]
  | d + 1, i, nf + 1, hi, hf => by
    have IH := s_howMany_loop (c := c) (M := M) d (i + 1) nf (by omega) (by omega)
    rw [fb_ct_succ] at IH
    rw [b_X1_howMany_4, if_neg (show ¬ (24 : Int32) ≤ nI i from nI_ge (a := i) (b := 24) (by omega) (by decide)), w_ck (show qTX c 21 = 11 from rfl), w_ck (show qTX c (qPX c 21 0) = 1 from rfl), show qPX c 21 0 = 61 from rfl, show qLX c 61 = 24 from rfl, w_ld (by omega) (by decide)]
    simp only [b_X1_howMany_26, w_let, nI_1]
    by_cases z : M 61 i = -1
    · rw [if_pos z, Int32.add_zero]
      rw [if_neg (by simpa using z)] at IH
      exact IH
    · rw [if_neg z]
      rw [if_pos (by simpa using z)] at IH
      exact IH
theorem a_hungs {c n : Nat → Nat} {m M : q_MM} (h : a_X c n m M) : fb_ct (fun p => M 61 p != -1) 24 = fb_ct (fun p => m 5040 p == 1) (c 2) := by
  have hC := h.C.2.2.1
  have hC1 := h.C.2.1
  have h8 : a_B8 c n m M := h 8
  obtain ⟨d, hd⟩ : ∃ d, 24 = c 2 + d := ⟨24 - c 2, by omega⟩
  rw [hd, fb_ct_split]
  have e0 : fb_ct (fun k => M 61 (c 2 + k) != -1) d = 0 := by
    rw [fb_ct_zero]
    intro k hk
    have := (h8.2.2.1 (c 2 + k) (by omega) (by omega)).1
    simpa using this
  rw [e0, Nat.add_zero]
  refine fb_ct_cong (fun p hp => ?_)
  obtain ⟨g1, -, -, -, g5, g6⟩ := h8.2.1 p hp
  by_cases z : m 5040 p = 1
  · obtain ⟨⟨w, hw, e⟩, -⟩ := g5 z
    have : M 61 p ≠ -1 := by rw [g1, e]; exact nI_neg1 (by omega)
    simp [z, this]
  · have : M 61 p = -1 := by rw [g1]; exact (g6 z).1
    simp [z, this]
theorem a_Tr.ite {c : Nat → Nat} {M : q_MM} {P : Prop} [Decidable P] {X X' : Option Int32} {Y Y' : Option (Int32 × q_MM)} (h1 : a_Tr c M X Y) (h2 : a_Tr c M X' Y') : a_Tr c M (if P then X else X') (if P then Y else Y') := by
  split
  · exact h1
  · exact h2
theorem pub_count {c n : Nat → Nat} {m M : q_MM} (h : a_X c n m M) (a1 : Int32) : a_Tr c M (f_X11_count c M a1) (f_X12_count m a1) := by
  unfold f_X11_count f_X12_count
  simp only [w_let]
  replace h := h.t0
  generalize q_u2 m 5001 0 0 = m at h ⊢
  have hfu := q_fu_le
  have eh : f_X12_hungMany m = some (nI (fb_ct (fun p => m 5040 p == 1) (c 2))) := s_hung_loop h.Y.N h.C.2.2.1 (c 2) 0 q_fu (by omega) (by have := h.C.2.2.1; omega)
  have ex : f_X1_howMany c M 21 = some (nI (fb_ct (fun p => m 5040 p == 1) (c 2))) := by
    rw [← a_hungs h]
    exact s_howMany_loop 24 0 q_fu (by omega) (by omega)
  have h0 : a_B0 c n m M := h 0
  have h1 : a_B1 c n m M := h 1
  have h2 : a_B2 c n m M := h 2
  have h5 : a_B5 c n m M := h 5
  have h6 : a_B6 c n m M := h 6
  have h7 : a_B7 c n m M := h 7
  have h18 : a_B18 c n m M := h 18
  obtain ⟨k12, -, a12, b12, -⟩ := show a_B12 c n m M from h 12
  obtain ⟨k13, -, a13, b13, -⟩ := show a_B13 c n m M from h 13
  obtain ⟨⟨k14, -, a14, b14, -⟩, -⟩ := show a_B14 c n m M from h 14
  obtain ⟨⟨k15, -, a15, b15, -⟩, -⟩ := show a_B15 c n m M from h 15
  obtain ⟨⟨k16, -, a16, b16, -⟩, -⟩ := show a_B16 c n m M from h 16
  have key : ∀ r : Int32, f_X11_count c M a1 = some r → f_X12_count m a1 = some (r, q_u2 m 5001 0 0) → True := fun _ _ _ => trivial
  simp only [s_size (c := c) (M := M) (show qTX c 13 = 23 from rfl), s_size (c := c) (M := M) (show qTX c 14 = 23 from rfl), s_size (c := c) (M := M) (show qTX c 15 = 23 from rfl), s_size (c := c) (M := M) (show qTX c 27 = 23 from rfl), w_ld0, w_ld1, w_ld2, w_ld3, eh, ex, Option.bind_some, h0.2.1, h0.2.2, h1.2.1, h1.2.2, h2.2.1, h2.2.2.1, h5.2.1, h5.2.2.1, h7.2.1, h7.2.2.1, h18.2.1, h18.2.2.1, a12, b12, a13, b13, a14, b14, a15, b15, a16, b16, h6.1 0 (by decide), h6.1 1 (by decide), h6.1 2 (by decide), h6.1 3 (by decide)]
  have fin : ∀ r : Int32, a_Tr c M (some r) (some (r, m)) := fun r => ⟨r, n, m, rfl, rfl, h⟩
  repeat (refine a_Tr.ite (fin _) ?_)
  exact fin _
/-- a call that may throw: both answer, or both throw -/
def a_Th (c : Nat → Nat) (M : q_MM) (fx : Option Int32) (fm : Option (Int32 × q_MM)) : Prop := ∃ r n' m', fx = some r ∧ fm = some (r, m') ∧ m' 5001 0 = 0 ∧ a_X c n' m' M
def a_Tx (c : Nat → Nat) (M : q_MM) (fm : Option (Int32 × q_MM)) : Prop := ∃ r n' m', fm = some (r, m') ∧ m' 5001 0 = 1 ∧ a_X c n' m' M
theorem a_X.t1 {c n : Nat → Nat} {m M : q_MM} (h : a_X c n m M) : a_X c n (q_u2 m 5001 0 1) M := h.ag (a_ag.rf.u2 rfl)
theorem s_refuse {m : q_MM} : f_X12_refuse m = some (0, q_u2 m 5001 0 1) := rfl
/-- row: the class throws where the number is not within -/
theorem pub_row {c n : Nat → Nat} {m M : q_MM} (h : a_X c n m M) (a1 : Int32) : (a_rg a1 0 (M 6 1 - 1).toInt ∧ a_Th c M (f_X11_row c M a1) (f_X12_row m a1)) ∨ (¬ a_rg a1 0 (M 6 1 - 1).toInt ∧ a_Tx c M (f_X12_row m a1)) := by
  unfold f_X12_row
  simp only [w_let]
  have e0 : q_u2 m 5001 0 0 5001 0 = 0 := q_u2_eq
  replace h := h.t0
  generalize q_u2 m 5001 0 0 = m at h e0 ⊢
  obtain ⟨k, k1, k2, k3, k4⟩ := show a_B12 c n m M from h 12
  rw [k2, k3, s_in0 (by omega)]
  by_cases z : a_lt a1 k
  · obtain ⟨i, hi, rfl⟩ := z
    refine Or.inl ⟨(a_rg0 (by omega)).mpr ⟨i, hi, rfl⟩, m 5012 i, n, m, ?_, ?_, e0, h⟩
    · unfold f_X11_row
      rw [k2, s_within1 ((a_rg0 (by omega)).mpr ⟨i, hi, rfl⟩) rfl rfl, Option.bind_some, if_neg (by decide), s_get1 (r := 56) (N := 32) (by decide) k2 k1 hi, Option.bind_some, (k4 i hi).1]
    · rw [a_ifp ⟨i, hi, rfl⟩, Option.bind_some, if_neg (by decide), w_ld (by omega) (by decide)]
  · refine Or.inr ⟨fun q => z ((a_rg0 (by omega)).mp q), 0, n, q_u2 m 5001 0 1, ?_, q_u2_eq, h.t1⟩
    rw [a_ifn z, Option.bind_some, if_pos rfl, s_refuse]
    rfl
theorem pub_like {c n : Nat → Nat} {m M : q_MM} (h : a_X c n m M) (a1 a2 a3 : Int32) : ((a_rg a1 0 7 ∧ a_rg a2 0 7 ∧ a_rg a3 (-99) 99) ∧ ∃ r M' m', f_X11_like c M a1 a2 a3 = some (r, M') ∧ f_X12_like m a1 a2 a3 = some (r, m') ∧ m' 5001 0 = 0 ∧ a_X c n m' M') ∨ (¬ (a_rg a1 0 7 ∧ a_rg a2 0 7 ∧ a_rg a3 (-99) 99) ∧ a_Tx c M (f_X12_like m a1 a2 a3)) := by
  unfold f_X12_like b_X12_like_43
  simp only [w_let]
  have e0 : q_u2 m 5001 0 0 5001 0 = 0 := q_u2_eq
  replace h := h.t0
  generalize q_u2 m 5001 0 0 = m at h e0 ⊢
  simp only [s_refuse, Option.bind_some]
  have bad : a_Tx c M (some (0, q_u2 m 5001 0 1)) := ⟨0, n, q_u2 m 5001 0 1, rfl, q_u2_eq, h.t1⟩
  by_cases z1 : a_rg a1 0 7
  · by_cases z2 : a_rg a2 0 7
    · by_cases z3 : a_rg a3 (-99) 99
      · refine Or.inl ⟨⟨z1, z2, z3⟩, ?_⟩
        obtain ⟨a, ha, rfl⟩ := (a_lt_i (x := a1) (N := 8) (by decide)).mpr (by unfold a_rg at z1; omega)
        obtain ⟨b, hb, rfl⟩ := (a_lt_i (x := a2) (N := 8) (by decide)).mpr (by unfold a_rg at z2; omega)
        have h11 : a_B11 c n m M := h 11
        have e1 : f_X11_within c M (nI a) 0 7 = some 1 := s_within1 z1 rfl rfl
        have e2 : f_X11_within c M (nI b) 0 7 = some 1 := s_within1 z2 rfl rfl
        have e3 : f_X11_within c M a3 (-99) 99 = some 1 := s_within1 z3 (by decide) rfl
        have f1 : f_X12_in m (Int32.toInt64 (nI a)) 0 7 = some 1 := s_in1 z1 rfl rfl
        have f2 : f_X12_in m (Int32.toInt64 (nI b)) 0 7 = some 1 := s_in1 z2 rfl rfl
        have f3 : f_X12_in m (Int32.toInt64 a3) (-99) 99 = some 1 := s_in1 z3 (by decide) rfl
        have g1 : nI a * 8 + nI b = nI (8 * a + b) := by rw [show (8 : Int32) = nI 8 from rfl, pk_mul, nI_add, Nat.mul_comm]
        have g2 : nI b * 8 + nI a = nI (8 * b + a) := by rw [show (8 : Int32) = nI 8 from rfl, pk_mul, nI_add, Nat.mul_comm]
        have g3 : (8 : Int32) * nI a + nI b = nI (8 * a + b) := by rw [show (8 : Int32) = nI 8 from rfl, pk_mul, nI_add]
        have g4 : (8 : Int32) * nI b + nI a = nI (8 * b + a) := by rw [show (8 : Int32) = nI 8 from rfl, pk_mul, nI_add]
        refine ⟨m 5059 (8 * a + b), q_u2 (q_u2 M 17 (8 * a + b) a3) 17 (8 * b + a) a3, q_u2 (q_u2 m 5059 (8 * a + b) a3) 5059 (8 * b + a) a3, ?_, ?_, ?_, ?_⟩
        · unfold f_X11_like
          simp [e1, e2, e3, g1, g2, w_ld (show 8 * a + b < 64 by omega) (show 64 ≤ 100000 by decide), w_as (show 8 * a + b < 64 by omega) (show 64 ≤ 100000 by decide), w_as (show 8 * b + a < 64 by omega) (show 64 ≤ 100000 by decide), (h11 a b ha hb).1]
        · simp [f1, f2, f3, g3, g4, w_ld (show 8 * a + b < 64 by omega) (show 64 ≤ 100000 by decide), w_as (show 8 * a + b < 64 by omega) (show 64 ≤ 100000 by decide), w_as (show 8 * b + a < 64 by omega) (show 64 ≤ 100000 by decide)]
        · rw [q_u2_ne (by omega), q_u2_ne (by omega), e0]
        · refine h.wr [11] (a_wM.s1 (a_wM.s1 a_wM.rf rfl) rfl) (a_wS.s1 (a_wS.s1 a_wS.rf rfl) rfl) (a_one ?_)
          intro p q hp hq
          have h1 := h11 p q hp hq
          have h2 := h11 q p hq hp
          have c1 : (8 * p + q = 8 * a + b) ↔ (p = a ∧ q = b) := by omega
          have c2 : (8 * p + q = 8 * b + a) ↔ (p = b ∧ q = a) := by omega
          have c3 : (8 * q + p = 8 * a + b) ↔ (q = a ∧ p = b) := by omega
          have c4 : (8 * q + p = 8 * b + a) ↔ (q = b ∧ p = a) := by omega
          simp only [q_u2_at, if_true, c1, c2, c3, c4]
          by_cases x1 : p = b ∧ q = a
          · rw [if_pos x1, if_pos x1]
            refine ⟨rfl, z3, ?_⟩
            by_cases x2 : q = b ∧ p = a
            · rw [if_pos x2]
            · rw [if_neg x2, if_pos ⟨x1.2, x1.1⟩]
          · rw [if_neg x1, if_neg x1]
            by_cases x2 : p = a ∧ q = b
            · rw [if_pos x2, if_pos x2, if_pos ⟨x2.2, x2.1⟩]
              exact ⟨rfl, z3, rfl⟩
            · rw [if_neg x2, if_neg x2, if_neg (fun w => x2 ⟨w.2, w.1⟩), if_neg (fun w => x1 ⟨w.2, w.1⟩)]
              exact h1
      · refine Or.inr ⟨fun q => z3 q.2.2, ?_⟩
        have f1 : f_X12_in m (Int32.toInt64 a1) 0 7 = some 1 := s_in1 z1 rfl rfl
        have f2 : f_X12_in m (Int32.toInt64 a2) 0 7 = some 1 := s_in1 z2 rfl rfl
        have f3 : f_X12_in m (Int32.toInt64 a3) (-99) 99 = some 0 := s_inn z3 (by decide) rfl
        simpa [f1, f2, f3] using bad
    · refine Or.inr ⟨fun q => z2 q.2.1, ?_⟩
      have f1 : f_X12_in m (Int32.toInt64 a1) 0 7 = some 1 := s_in1 z1 rfl rfl
      have f2 : f_X12_in m (Int32.toInt64 a2) 0 7 = some 0 := s_inn z2 rfl rfl
      simpa [f1, f2] using bad
  · refine Or.inr ⟨fun q => z1 q.1, ?_⟩
    have f1 : f_X12_in m (Int32.toInt64 a1) 0 7 = some 0 := s_inn z1 rfl rfl
    simpa [f1] using bad
/-- at: the class throws where there is no such picture, or what is not 0 .. 7 -/
theorem pub_at {c n : Nat → Nat} {m M : q_MM} (h : a_X c n m M) (a1 a2 : Int32) : ((a_lt a1 (c 2) ∧ a_rg a2 0 7) ∧ a_Th c M (f_X11_at c M a1 a2) (f_X12_at m a1 a2)) ∨ (¬ (a_lt a1 (c 2) ∧ a_rg a2 0 7) ∧ a_Tx c M (f_X12_at m a1 a2)) := by
  unfold f_X12_at
  simp only [w_let]
  have e0 : q_u2 m 5001 0 0 5001 0 = 0 := q_u2_eq
  replace h := h.t0
  generalize q_u2 m 5001 0 0 = m at h e0 ⊢
  have bad : a_Tx c M (some (0, q_u2 m 5001 0 1)) := ⟨0, n, q_u2 m 5001 0 1, rfl, q_u2_eq, h.t1⟩
  have hC := h.C
  have hC1 := hC.2.1
  have hC2 := hC.2.2.1
  by_cases z1 : a_lt a1 (c 2)
  · obtain ⟨p, hp, rfl⟩ := z1
    have h7 : a_B7 c n m M := h 7
    have h5 : a_B5 c n m M := h 5
    have h8 : a_B8 c n m M := h 8
    have h9 : a_B9 c n m M := h 9
    obtain ⟨g1, g2, g3, ⟨s, hs, g4⟩, g5, g6⟩ := h8.2.1 p hp
    have m33 : (f_X12_isPicture m (nI p)).bind (fun r27 => if r27 = 0 then (f_X12_refuse m).bind fun r29 => some (r29.1, r29.2) else q_ld m 5040 24 (nI p) fun v30 => if v30 = (1 : Int32) then b_X12_at_33 (nI p) a2 1 m else b_X12_at_33 (nI p) a2 0 m) = b_X12_at_33 (nI p) a2 (if m 5040 p = 1 then 1 else 0) m := by
      rw [h.isPicture1 hp, Option.bind_some, if_neg (by decide), w_ld (by omega) (by decide)]
      split <;> rfl
    rw [m33]
    by_cases z2 : a_rg a2 0 7
    · refine Or.inl ⟨⟨⟨p, hp, rfl⟩, z2⟩, ?_⟩
      have e2 : f_X11_within c M a2 0 7 = some 1 := s_within1 z2 rfl rfl
      obtain ⟨k, hk, rfl⟩ := (a_lt_i (x := a2) (N := 8) (by decide)).mpr (by unfold a_rg at z2; omega)
      have fin : ∀ r : Int32, f_X11_at c M (nI p) (nI k) = some r → b_X12_at_33 (nI p) (nI k) (if m 5040 p = 1 then 1 else 0) m = some (r, m) → a_Th c M (f_X11_at c M (nI p) (nI k)) (b_X12_at_33 (nI p) (nI k) (if m 5040 p = 1 then 1 else 0) m) := fun r q1 q2 => ⟨r, n, m, q1, q2, e0, h⟩
      have ld : ∀ (o : Nat) (f : Int32 → Option (Int32 × q_MM)), q_ld m o 24 (nI p) f = f (m o p) := fun o f => w_ld (by omega) (by decide)
      have eC : f_X11_at c M (nI p) (nI k) = if nI k = 0 then some (m 5040 p) else if nI k = 3 then some (m 5043 p) else if nI k = 7 then some (m 5036 p) else f_X11_placeOf c M (1300 + p) (nI k) := by
        unfold f_X11_at
        rw [s_picAt1 h hp, Option.bind_some, if_neg (by omega), e2, Option.bind_some, if_neg (by decide), s_stateOf h hp, w_ck (t_pic hC hp), w_ck (t_pic hC hp), (h9.2.1 p hp).1, (h7.2.2.2.1 p hp).1.2.2.2.2.2.2.2.2.1]
        cases f_X11_placeOf c M (1300 + p) (nI k) <;> rfl
      rw [eC] at fin ⊢
      by_cases hs1 : m 5040 p = 1
      · obtain ⟨⟨w, hw, ew⟩, -⟩ := g5 hs1
        have eL : f_X1_leftSide c M 21 (nI p) = some (m 5042 p) := by rw [s_leftSide (a := 61) (b := 63) (by decide) (by omega), g2]
        have eA := s_leftOf (o := 21) (M := M) (a := 61) (b := 63) (by decide) h.H hC2 (show w < 100 by omega) (m 5042 p) (nI p)
        have eB := s_rightOf (o := 21) (M := M) (a := 61) (b := 63) (by decide) h.H hC2 (show w < 100 by omega) (m 5042 p) (nI p)
        have mA := s_besideL (c := c) h.Y.N hC2 (show w < 100 by omega) (m 5042 p) (nI p)
        have mB := s_besideR (c := c) h.Y.N hC2 (show w < 100 by omega) (m 5042 p) (nI p)
        have p0 := (h7.2.2.2.1 p hp).1.1
        have w0 := (h5.2.2.2.1 w hw).1
        have ldw : ∀ f : Int32 → Option (Int32 × q_MM), q_ld m 5020 16 (nI w) f = f (m 5020 w) := fun f => w_ld (by omega) (by decide)
        have ePl : f_X11_placeOf c M (1300 + p) (nI k) = if nI k = 1 then some (nI w) else if nI k = 2 then some (m 5042 p) else if nI k = 4 then some (a_left c m (nI w) (m 5042 p) (nI p)) else if nI k = 5 then some (a_right c m (nI w) (m 5042 p) (nI p)) else some (m 5020 w) := by
          unfold f_X11_placeOf
          rw [s_wallOf1 h hp hs1 ew hw, Option.bind_some, if_neg (by omega), w_ck (t_pic hC hp), p0, eL, Option.bind_some, w_ck (t_wall hC hw), w_ck (t_wall hC hw), w_ck (t_wall hC hw), w_ck (t_wall hC hw), w0.1, w0.2.1, eA, eB]
          rfl
        rw [ePl] at fin ⊢
        rw [if_pos hs1] at fin ⊢
        rcases (show k = 0 ∨ k = 1 ∨ k = 2 ∨ k = 3 ∨ k = 4 ∨ k = 5 ∨ k = 6 ∨ k = 7 by omega) with rfl | rfl | rfl | rfl | rfl | rfl | rfl | rfl
        · exact fin (m 5040 p) (by rw [if_pos (by decide)]) (by simp [b_X12_at_33, ld, show nI 0 = 0 from rfl])
        · exact fin (nI w) (by rw [if_neg (by decide), if_neg (by decide), if_neg (by decide), if_pos (by decide)]) (by simp [b_X12_at_33, ld, show nI 1 = 1 from rfl, ew])
        · exact fin (m 5042 p) (by rw [if_neg (by decide), if_neg (by decide), if_neg (by decide), if_neg (by decide), if_pos (by decide)]) (by simp [b_X12_at_33, ld, show nI 2 = 2 from rfl])
        · exact fin (m 5043 p) (by rw [if_neg (by decide), if_pos (by decide)]) (by simp [b_X12_at_33, ld, show nI 3 = 3 from rfl])
        · exact fin (a_left c m (nI w) (m 5042 p) (nI p)) (by rw [if_neg (by decide), if_neg (by decide), if_neg (by decide), if_neg (by decide), if_neg (by decide), if_pos (by decide)]) (by simp [b_X12_at_33, ld, show nI 4 = 4 from rfl, ew, mA])
        · exact fin (a_right c m (nI w) (m 5042 p) (nI p)) (by rw [if_neg (by decide), if_neg (by decide), if_neg (by decide), if_neg (by decide), if_neg (by decide), if_neg (by decide), if_pos (by decide)]) (by simp [b_X12_at_33, ld, show nI 5 = 5 from rfl, ew, mB])
        · exact fin (m 5020 w) (by rw [if_neg (by decide), if_neg (by decide), if_neg (by decide), if_neg (by decide), if_neg (by decide), if_neg (by decide), if_neg (by decide)]) (by simp [b_X12_at_33, ld, show nI 6 = 6 from rfl, ew, ldw])
        · exact fin (m 5036 p) (by rw [if_neg (by decide), if_neg (by decide), if_pos (by decide)]) (by simp [b_X12_at_33, ld, show nI 7 = 7 from rfl])
      · have ePl : f_X11_placeOf c M (1300 + p) (nI k) = some (-1) := by
          unfold f_X11_placeOf
          rw [s_wallOf0 h hp hs1, Option.bind_some, if_pos rfl]
        rw [ePl] at fin ⊢
        rw [if_neg hs1] at fin ⊢
        have g6' := g6 hs1
        rcases (show k = 0 ∨ k = 1 ∨ k = 2 ∨ k = 3 ∨ k = 4 ∨ k = 5 ∨ k = 6 ∨ k = 7 by omega) with rfl | rfl | rfl | rfl | rfl | rfl | rfl | rfl
        · exact fin (m 5040 p) (by rw [if_pos (by decide)]) (by simp [b_X12_at_33, ld, show nI 0 = 0 from rfl])
        · exact fin (-1) (by rw [if_neg (by decide), if_neg (by decide), if_neg (by decide)]) (by simp [b_X12_at_33, ld, show nI 1 = 1 from rfl, g6'.1])
        · exact fin (-1) (by rw [if_neg (by decide), if_neg (by decide), if_neg (by decide)]) (by simp [b_X12_at_33, ld, show nI 2 = 2 from rfl, g6'.2])
        · exact fin (m 5043 p) (by rw [if_neg (by decide), if_pos (by decide)]) (by simp [b_X12_at_33, ld, show nI 3 = 3 from rfl])
        · exact fin (-1) (by rw [if_neg (by decide), if_neg (by decide), if_neg (by decide)]) (by simp [b_X12_at_33, ld, show nI 4 = 4 from rfl])
        · exact fin (-1) (by rw [if_neg (by decide), if_neg (by decide), if_neg (by decide)]) (by simp [b_X12_at_33, ld, show nI 5 = 5 from rfl])
        · exact fin (-1) (by rw [if_neg (by decide), if_neg (by decide), if_neg (by decide)]) (by simp [b_X12_at_33, ld, show nI 6 = 6 from rfl])
        · exact fin (m 5036 p) (by rw [if_neg (by decide), if_neg (by decide), if_pos (by decide)]) (by simp [b_X12_at_33, ld, show nI 7 = 7 from rfl])
    · refine Or.inr ⟨fun q => z2 q.2, ?_⟩
      have g0 : ∀ k : Int32, a_rg k 0 7 → a2 ≠ k := fun k hk e => z2 (e ▸ hk)
      have e9 : ∀ x : Int32, b_X12_at_33 (nI p) a2 x m = some (0, q_u2 m 5001 0 1) := fun x => by
        simp [b_X12_at_33, g0 0 (by unfold a_rg; decide), g0 1 (by unfold a_rg; decide), g0 2 (by unfold a_rg; decide), g0 3 (by unfold a_rg; decide), g0 4 (by unfold a_rg; decide), g0 5 (by unfold a_rg; decide), g0 6 (by unfold a_rg; decide), g0 7 (by unfold a_rg; decide), s_refuse]
      rw [e9]
      exact bad
  · refine Or.inr ⟨fun q => z1 q.1, ?_⟩
    simpa [h.isPicture0 z1, s_refuse] using bad
