/-! done: the call -/
theorem a_sfY {c n : Nat → Nat} {m M : q_MM} (y : a_Y c n m M) {p w : Nat} (hp : p < c 2) (hw : w < c 1) {x : Int32} (z : a_w4 c m p w x = 0) : a_rg x 0 3000 ∧ ∀ q, q < c 2 → q ≠ p → m 5040 q = 1 → m 5041 q = nI w → m 5042 q ≠ x := by
  have hC1 := y.C.2.1
  have h7 := (y.1 7 (by decide) : a_B7 c n m M).2.2.2.1
  have h6 : a_B6 c n m M := y.1 6 (by decide)
  have w5 := ((y.1 5 (by decide) : a_B5 c n m M).2.2.2.1 w hw).2.2.1
  unfold a_w4 at z
  have z1 : ¬ (x.toInt < 0 ∨ (m 5021 w).toInt < x.toInt + (m 5029 p).toInt) := fun q => by
    rw [a_ifp q] at z
    exact absurd z (by decide)
  rw [a_ifn z1] at z
  have z2 : a_hi m p w := by
    apply Classical.byContradiction
    intro q
    rw [a_ifp q] at z
    exact absurd z (by decide)
  rw [a_ifn (fun q => q z2)] at z
  have z3 : ¬ a_bd m p (nI w) x (c 2) := fun q => by
    rw [a_ifp q] at z
    exact absurd z (by decide)
  have pw := (h7 p hp).2.1
  refine ⟨?_, fun q hq hqp q1 q2 q3 => z3 ⟨q, hq, hqp, (a_W_w (by omega)).mpr ⟨q1, q2⟩, fun cl => ?_⟩⟩
  · unfold a_rg at *
    omega
  · have qw := (h7 q hq).2.1
    have g := h6.2.2.1
    unfold a_cl at cl
    unfold a_rg at *
    rw [q3] at cl
    omega
theorem a_full : ∀ k, k ≤ 8 → ∀ j, j < k → bt (nI (2 ^ k - 1)) j = true := by decide +kernel
theorem pub_done {c n : Nat → Nat} {m M : q_MM} (h : a_X c n m M) : a_T c (f_X11_done c M) (f_X12_done m) := by
  unfold f_X11_done f_X12_done
  simp only [w_let]
  replace h := h.t0
  generalize q_u2 m 5001 0 0 = m at h ⊢
  have hfu := q_fu_le
  have hC := h.C
  have hC1 := hC.2.1
  have hC2 := hC.2.2.1
  have h8 : a_B8 c n m M := h 8
  have h16 : a_B16 c n m M := h 16
  obtain ⟨⟨k, q1, q2, q3, q4⟩, ⟨k', s1, s2, s3, s4⟩, ⟨k'', t1, t2, t3, t4⟩, hd⟩ := id h16
  have : k' = k := nI_inj (by omega) (by omega) (s3.symm.trans q3)
  subst this
  have : k'' = k' := nI_inj (by omega) (by omega) (t3.symm.trans q3)
  subst this
  have pw : 2 ^ k'' ≤ 2 ^ 8 := Nat.pow_le_pow_right (by decide) q1
  have pw0 : 0 < 2 ^ k'' := Nat.two_pow_pos _
  obtain ⟨m1, u1, u2, u3⟩ := s_keeps (c := c) h.Y.N hC2
  have hN1 : m1 5001 18 = nI (c 2) := by rw [u2 5001 (by decide) (by decide) (by decide)]; exact h.Y.N
  obtain ⟨mr, v1, v2, v3⟩ := s_restores (c := c) hN1 hC2
  obtain ⟨M1, b1, b2, b3, b4⟩ := s_become (c := c) (M := M) (o1 := 21) (a1 := 61) (b1 := 63) (o2 := 22) (a2 := 62) (b2 := 64) (by decide) (by decide) (by decide)
  have hst : ∀ p, p < c 2 → mr 5040 p = m 5040 p ∧ mr 5041 p = m 5041 p ∧ mr 5042 p = m 5042 p := fun p hp => by
    have g := v3 p hp
    have g2 := u3 p hp
    exact ⟨g.1.trans g2.1, g.2.1.trans g2.2.1, g.2.2.trans g2.2.2⟩
  have hH1 : a_H c mr M1 62 64 := by
    refine ⟨fun p hp => ?_, fun p hp hp2 => ?_⟩
    · have g := h.H.1 p hp
      have g2 := hst p hp
      rw [(b3 p (by omega)).1, (b3 p (by omega)).2, g.1, g.2, g2.2.2]
      refine ⟨?_, rfl⟩
      unfold a_W
      rw [g2.1, g2.2.1]
    · rw [(b3 p hp2).1]
      exact (h8.2.2.1 p hp hp2).1
  have tl0 : a_tl c m m1 M (nI (2 ^ k'' - 1)) 0 mr M1 := ⟨v2, b2, hH1, fun p hp hp2 => by rw [(b3 p hp2).2]; exact (h8.2.2.1 p hp hp2).2.1, fun j p _ hj => absurd hj (Nat.not_lt_zero _), fun p hp _ => hst p hp⟩
  obtain ⟨m2, M2, w1, w2, w3⟩ := s_try_loop h u2 q3 q1 k'' 0 q_fu q_fu mr M1 (by omega) (by omega) (by omega) tl0
  obtain ⟨x1, x2, x3, x4, x5, x6⟩ := id w3
  have e1M : f_X3_allMoves c M = some (nI (2 ^ k'' - 1)) := by
    unfold f_X3_allMoves
    rw [q2, a_pow _ (by omega), show (1 : Int32) = nI 1 from rfl, pk_sub (by omega)]
  have eTry : f_X3_tryDone c M (nI (2 ^ k'' - 1)) = some M2 := by
    unfold f_X3_tryDone
    rw [b1, Option.bind_some]
    exact w1
  have eDo : f_X12_does m1 (nI (2 ^ k'' - 1)) = some m2 := by
    unfold f_X12_does
    rw [v1, Option.bind_some]
    exact w2
  have ht : a_t8 m m2 := fun o j a1 a2 => by
    have n1 : ¬ ((o = 5040 ∨ o = 5041 ∨ o = 5042) ∧ j < c 2) := by
      rintro ⟨rfl | rfl | rfl, -⟩ <;> exact a1 rfl
    rw [x1 o j n1, u2 o (by rintro rfl; exact a2 rfl) (by rintro rfl; exact a2 rfl) (by rintro rfl; exact a2 rfl)]
  have hX2 : a_X c n m M2 := h.scr (fun o j => by
    by_cases e : o = 62 ∨ o = 64
    · rcases e with rfl | rfl <;> exact Or.inr (Or.inl rfl)
    · rw [x2 o (by omega) (by omega)]
      exact Or.inr (Or.inr rfl))
  have hcase : ∀ p, p < c 2 → (∃ j, j < k'' ∧ m 5077 j = nI p ∧ m2 5040 p = 1 ∧ m2 5041 p = m 5078 j ∧ m2 5042 p = m 5079 j) ∨ (m2 5040 p = m 5040 p ∧ m2 5041 p = m 5041 p ∧ m2 5042 p = m 5042 p) := fun p hp => by
    by_cases z : ∃ j, j < k'' ∧ m 5077 j = nI p
    · obtain ⟨j, hj, e⟩ := z
      have g := x5 j p hp hj (a_full _ q1 j hj) e
      exact Or.inl ⟨j, hj, e, g⟩
    · exact Or.inr (x6 p hp (fun j hj _ e => z ⟨j, hj, e⟩))
  have hV : a_V c m2 := fun p hp hs => by
    rcases hcase p hp with ⟨j, hj, -, -, g2, g3⟩ | ⟨g1, g2, g3⟩
    · rw [g2, g3]
      exact ⟨(s4 j hj).2, (t4 j hj).2⟩
    · rw [g2, g3]
      exact h.V p hp (g1 ▸ hs)
  have h80 : ∀ p, p < c 2 → m2 5080 p = m 5040 p := fun p hp => by
    rw [x1 5080 p (by omega)]
    exact (u3 p hp).1
  have emask : (1 : Int32) <<< (m 5001 66 &&& 31) - 1 = nI (2 ^ k'' - 1) := by rw [q3, a_pow _ (by omega), show (1 : Int32) = nI 1 from rfl, pk_sub (by omega)]
  unfold f_X3_allCanStand
  rw [emask, u1, Option.bind_some, eDo, Option.bind_some, e1M, Option.bind_some, eTry, Option.bind_some, show (0 : Int32) = nI 0 from rfl]
  rcases s_chk_loop h hX2 ht x3 hV h80 q3 q1 k'' 0 q_fu q_fu (by omega) (by omega) (by omega) (fun j p w hj => absurd hj (Nat.not_lt_zero _)) with ⟨c1, c2'⟩ | ⟨c1, c2', ok⟩
  · obtain ⟨m3, r1, r2, r3⟩ := s_restores (c := c) (m0 := m2) (by rw [x1 5001 18 (by omega)]; exact hN1) hC2
    rw [c1, c2', Option.bind_some, if_pos (show (0 : Int32) = nI 0 from rfl)]
    unfold b_X12_done_74
    rw [r1, Option.bind_some]
    refine ⟨-2, n, M2, m3, rfl, rfl, hX2.ag (fun o j a1 _ _ => ?_)⟩
    by_cases e : (o = 5040 ∨ o = 5041 ∨ o = 5042) ∧ j < c 2
    · have g := r3 j e.2
      have k0 := u3 j e.2
      have z0 : m2 5080 j = m 5040 j := h80 j e.2
      have z1 : m2 5081 j = m 5041 j := by rw [x1 5081 j (by omega)]; exact k0.2.1
      have z2 : m2 5082 j = m 5042 j := by rw [x1 5082 j (by omega)]; exact k0.2.2
      rcases e.1 with rfl | rfl | rfl
      · exact g.1.trans z0
      · exact g.2.1.trans z1
      · exact g.2.2.trans z2
    · rw [r2 o j e, x1 o j e, u2 o (by rintro rfl; exact a1 rfl) (by rintro rfl; exact a1 rfl) (by rintro rfl; exact a1 rfl)]
  · obtain ⟨M3, d1, d2, d3, d4⟩ := s_become (c := c) (M := M2) (o1 := 22) (a1 := 62) (b1 := 64) (o2 := 21) (a2 := 61) (b2 := 63) (by decide) (by decide) (by decide)
    have y2 := hX2.tY ht
    have moved : ∀ p j, p < c 2 → j < k'' → m 5077 j = nI p → ∃ w, w < c 1 ∧ m 5078 j = nI w ∧ (m 5040 p = 0 ∨ m 5040 p = 1) ∧ a_rg (m 5079 j) 0 3000 ∧ ∀ q, q < c 2 → q ≠ p → m2 5040 q = 1 → m2 5041 q = nI w → m2 5042 q ≠ m 5079 j := fun p j hp hj e => by
      obtain ⟨w, hw, ew⟩ := (s4 j hj).2
      have g := ok j p w hj e hp ew hw
      have sf := a_sfY y2 hp hw g.2
      exact ⟨w, hw, ew, g.1, sf⟩
    have nx : ∀ o j, o ≠ 61 → o ≠ 62 → o ≠ 63 → o ≠ 64 → M3 o j = M o j := fun o j a1 a2 a3 a4 => by rw [d2 o a1 a3, x2 o a2 a4]
    rw [c1, c2', Option.bind_some, if_neg (show ¬ (1 : Int32) = nI 0 by decide)]
    dsimp only
    rw [x2 39 (by decide) (by decide), q2, d1, Option.bind_some]
    unfold f_X3_forget
    rw [s_clear (r := 89) (N := 8) (by decide), Option.bind_some, s_clear (r := 90) (N := 8) (by decide), Option.bind_some, s_clear (r := 91) (N := 8) (by decide), Option.bind_some, Option.bind_some]
    refine ⟨nI k'', n, _, _, rfl, rfl, ?_⟩
    refine h.wr [8, 16] (fun o j => ?_) (fun o j => ?_) (a_two ?_ ?_)
    · by_cases e : o = 61 ∨ o = 63 ∨ o = 39 ∨ o = 40 ∨ o = 41
      · rcases e with rfl | rfl | rfl | rfl | rfl
        · exact Or.inl (by show (8 : Nat) ∈ _; decide)
        · exact Or.inl (by show (8 : Nat) ∈ _; decide)
        · exact Or.inl (by show (16 : Nat) ∈ _; decide)
        · exact Or.inl (by show (16 : Nat) ∈ _; decide)
        · exact Or.inl (by show (16 : Nat) ∈ _; decide)
      · by_cases e2 : o = 62 ∨ o = 64
        · rcases e2 with rfl | rfl <;> exact Or.inr (Or.inl rfl)
        · rw [q_u2_ne (by omega), q_u2_ne (by omega), q_u2_ne (by omega), nx o j (by omega) (by omega) (by omega) (by omega)]
          exact Or.inr (Or.inr rfl)
    · by_cases e : o = 5001 ∧ j = 66
      · obtain ⟨rfl, rfl⟩ := e
        exact Or.inl (by show (16 : Nat) ∈ _; decide)
      · rw [q_u2_ne e]
        by_cases e8 : ownS o j = 8
        · exact Or.inl (by rw [e8]; decide)
        · by_cases e9 : ownS o j = 19
          · exact Or.inr (Or.inl e9)
          · exact Or.inr (Or.inr (ht o j e8 e9))
    · refine ⟨hC2, fun p hp => ?_, fun p hp hp2 => ?_, fun p hp a1 a2 => ?_, fun p q hp hq hpq a1 a2 a3 => ?_⟩
      · have g := h8.2.1 p hp
        have hh := x3.1 p hp
        have f1 : q_u2 (q_u2 (q_u2 M3 39 1 0) 40 1 0) 41 1 0 61 p = a_W m2 p := by
          rw [q_u2_ne (by omega), q_u2_ne (by omega), q_u2_ne (by omega), (d3 p (by omega)).1]
          exact hh.1
        have f2 : q_u2 (q_u2 (q_u2 M3 39 1 0) 40 1 0) 41 1 0 63 p = m2 5042 p := by
          rw [q_u2_ne (by omega), q_u2_ne (by omega), q_u2_ne (by omega), (d3 p (by omega)).2]
          exact hh.2
        have f3 : q_u2 (q_u2 (q_u2 M3 39 1 0) 40 1 0) 41 1 0 (1300 + p) 12 = M (1300 + p) 12 := by
          rw [q_u2_ne (by omega), q_u2_ne (by omega), q_u2_ne (by omega), nx _ _ (by omega) (by omega) (by omega) (by omega)]
        rw [f1, f2, f3, q_u2_ne (by omega), q_u2_ne (by omega), q_u2_ne (by omega)]
        rcases hcase p hp with ⟨j, hj, e, g1, g2, g3⟩ | ⟨g1, g2, g3⟩
        · obtain ⟨w, hw, ew, hs, hr, -⟩ := moved p j hp hj e
          have e12 : M (1300 + p) 12 = 0 := by
            rw [g.2.2.1]
            rcases hs with z | z <;> rw [z] <;> decide
          unfold a_W
          rw [g1, g2, g3, e12, ew, if_pos rfl, if_pos rfl]
          exact ⟨rfl, rfl, rfl, ⟨1, by decide, rfl⟩, fun _ => ⟨⟨w, hw, rfl⟩, hr⟩, fun q => absurd rfl q⟩
        · have hW : a_W m2 p = m 5041 p := by
            unfold a_W
            rw [g1, g2]
            by_cases z : m 5040 p = 1
            · rw [if_pos z]
            · rw [if_neg z]
              exact (g.2.2.2.2.2 z).1.symm
          rw [hW, g1, g2, g3]
          exact ⟨rfl, rfl, g.2.2.1, g.2.2.2⟩
      · have hh := x3.2 p hp hp2
        have g := h8.2.2.1 p hp hp2
        rw [q_u2_ne (by omega), q_u2_ne (by omega), q_u2_ne (by omega), (d3 p hp2).1, q_u2_ne (by omega), q_u2_ne (by omega), q_u2_ne (by omega), (d3 p hp2).2, q_u2_ne (by omega), x1 5040 p (by omega), u2 5040 (by decide) (by decide) (by decide)]
        exact ⟨hh, x4 p hp hp2, g.2.2⟩
      · rw [q_u2_ne (by omega)]
        have g := h8.2.2.2.1 p hp a1 a2
        rcases hcase p hp with ⟨j, hj, e, -⟩ | ⟨g1, -, -⟩
        · obtain ⟨w, hw, ew, hs, -⟩ := moved p j hp hj e
          rw [g] at hs
          rcases hs with z | z <;> exact absurd z (by decide)
        · exact g1.trans g
      · rw [q_u2_ne (by omega)] at a1 a2
        rw [q_u2_ne (by omega), q_u2_ne (by omega)] at a3
        rw [q_u2_ne (by omega), q_u2_ne (by omega)]
        rcases hcase p hp with ⟨j, hj, e, g1, g2, g3⟩ | ⟨g1, g2, g3⟩
        · obtain ⟨w, hw, ew, hs, hr, hfree⟩ := moved p j hp hj e
          rw [g3]
          exact fun z => hfree q hq hpq.symm a2 (by rw [← a3, g2, ew]) z.symm
        · rcases hcase q hq with ⟨j, hj, e, f1, f2, f3⟩ | ⟨f1, f2, f3⟩
          · obtain ⟨w, hw, ew, hs, hr, hfree⟩ := moved q j hq hj e
            rw [f3]
            exact hfree p hp hpq a1 (by rw [a3, f2, ew])
          · rw [g3, f3]
            exact h8.2.2.2.2 p q hp hq hpq (g1 ▸ a1) (f1 ▸ a2) (by rw [← g2, ← f2]; exact a3)
    · refine ⟨⟨0, by decide, ?_, q_u2_eq, fun i hi => absurd hi (Nat.not_lt_zero _)⟩, ⟨0, by decide, ?_, q_u2_eq, fun i hi => absurd hi (Nat.not_lt_zero _)⟩, ⟨0, by decide, ?_, q_u2_eq, fun i hi => absurd hi (Nat.not_lt_zero _)⟩, ?_⟩
      · rw [q_u2_ne (by omega), q_u2_ne (by omega), q_u2_eq]
        rfl
      · rw [q_u2_ne (by omega), q_u2_eq]
        rfl
      · rw [q_u2_eq]
        rfl
      · rw [q_u2_eq]
        intro i j hi
        exact absurd (show i < 0 from hi) (Nat.not_lt_zero _)
