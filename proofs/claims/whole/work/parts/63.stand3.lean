/-! stand: the call -/
theorem pub_stand {c n : Nat → Nat} {m M : q_MM} (h : a_X c n m M) (a1 : Int32) : a_T c (f_X11_stand c M a1) (f_X12_stand m a1) := by
  unfold f_X11_stand f_X12_stand b_X11_stand_25
  simp only [w_let]
  replace h := h.t0
  generalize q_u2 m 5001 0 0 = m at h ⊢
  have hfu := q_fu_le
  have hC := h.C
  have hC1 := hC.2.1
  have hC2 := hC.2.2.1
  have h8 : a_B8 c n m M := h 8
  by_cases z1 : a_lt a1 (c 2)
  · obtain ⟨p, hp, rfl⟩ := z1
    have ep0 : M (1300 + p) 0 = nI p := ((h 7 : a_B7 c n m M).2.2.2.1 p hp).1.1
    rw [s_picAt1 h hp, h.isPicture1 hp, Option.bind_some, Option.bind_some, if_neg (by omega), if_neg (show ¬ (1 : Int32) = 0 by decide), w_ld (by omega) (by decide)]
    by_cases z2 : m 5040 p = 1
    · obtain ⟨⟨w, hw, hwe⟩, hx⟩ := (h8.2.1 p hp).2.2.2.2.1 z2
      obtain ⟨M1, b1, b2, b3, b4⟩ := s_become (c := c) (M := M) (o1 := 21) (a1 := 61) (b1 := 63) (o2 := 22) (a2 := 62) (b2 := 64) (by decide) (by decide) (by decide)
      obtain ⟨m0, hm0⟩ : ∃ m0, m0 = q_u2 (q_u2 (q_u2 (q_u2 m 5040 p 0) 5041 p (-1)) 5042 p (-1)) 5001 1 0 := ⟨_, rfl⟩
      obtain ⟨M0, hM0⟩ : ∃ M0, M0 = q_u2 (q_u2 (q_u2 M1 62 p (-1)) 64 p (-1)) 6 1 0 := ⟨_, rfl⟩
      have e40 : m0 5040 p = 0 := by rw [hm0, q_u2_ne (by omega), q_u2_ne (by omega), q_u2_ne (by omega), q_u2_eq]
      have e42 : m0 5042 p = -1 := by rw [hm0, q_u2_ne (by omega), q_u2_eq]
      have eo : ∀ o k, ¬ ((o = 5040 ∨ o = 5041 ∨ o = 5042) ∧ k = p) → ¬ (o = 5001 ∧ k = 1) → m0 o k = m o k := fun o k h1 h2 => by rw [hm0, q_u2_ne h2, q_u2_ne (by omega), q_u2_ne (by omega), q_u2_ne (by omega)]
      have hPt : ∀ o k, ¬ (o = 5001 ∧ k = 1) → a_Pt m0 p w (m 5042 p) o k = m o k := fun o k h2 => by
        unfold a_Pt
        by_cases q1 : o = 5042 ∧ k = p
        · obtain ⟨rfl, rfl⟩ := q1
          rw [q_u2_eq]
        · rw [q_u2_ne q1]
          by_cases q2 : o = 5041 ∧ k = p
          · obtain ⟨rfl, rfl⟩ := q2
            rw [q_u2_eq, hwe]
          · rw [q_u2_ne q2]
            by_cases q3 : o = 5040 ∧ k = p
            · obtain ⟨rfl, rfl⟩ := q3
              rw [q_u2_eq, z2]
            · rw [q_u2_ne q3]
              exact eo o k (by omega) h2
      have hPt1 : a_Pt m0 p w (m 5042 p) 5001 1 = 0 := by
        unfold a_Pt
        rw [q_u2_ne (by omega), q_u2_ne (by omega), q_u2_ne (by omega), hm0, q_u2_eq]
      have hX0 : a_X c n (a_Pt m0 p w (m 5042 p)) M0 := by
        refine h.wr [12] (fun o k => ?_) (fun o k => ?_) (a_one ⟨0, by decide, by rw [hM0, q_u2_eq]; rfl, hPt1, fun i hi => absurd hi (Nat.not_lt_zero _)⟩)
        · by_cases q1 : o = 62 ∨ o = 64
          · rcases q1 with rfl | rfl <;> exact Or.inr (Or.inl rfl)
          · by_cases q2 : o = 6 ∧ k = 1
            · obtain ⟨rfl, rfl⟩ := q2
              exact Or.inl (List.mem_singleton.mpr rfl)
            · rw [hM0, q_u2_ne q2, q_u2_ne (by omega), q_u2_ne (by omega), b2 o (by omega) (by omega)]
              exact Or.inr (Or.inr rfl)
        · by_cases q1 : o = 5001 ∧ k = 1
          · obtain ⟨rfl, rfl⟩ := q1
            exact Or.inl (List.mem_singleton.mpr rfl)
          · exact Or.inr (Or.inr (hPt o k q1))
      have hH0 : a_H c m0 M0 62 64 := by
        refine ⟨fun q hq => ?_, fun q hq hq2 => ?_⟩
        · have g := h.H.1 q hq
          by_cases e : q = p
          · subst e
            rw [hM0, q_u2_ne (by omega), q_u2_ne (by omega), q_u2_eq, q_u2_ne (by omega), q_u2_eq, e42]
            refine ⟨?_, rfl⟩
            unfold a_W
            rw [e40, if_neg (by decide)]
          · rw [hM0, q_u2_ne (by omega), q_u2_ne (by omega), q_u2_ne (by omega), q_u2_ne (by omega), q_u2_ne (by omega), q_u2_ne (by omega), (b3 q (by omega)).1, (b3 q (by omega)).2, g.1, g.2, eo 5042 q (by omega) (by omega)]
            refine ⟨?_, rfl⟩
            unfold a_W
            rw [eo 5040 q (by omega) (by omega), eo 5041 q (by omega) (by omega)]
        · rw [hM0, q_u2_ne (by omega), q_u2_ne (by omega), q_u2_ne (by omega), (b3 q hq2).1]
          exact (h8.2.2.1 q hq hq2).1
      have hV0 : a_V c m0 := fun q hq hs => by
        by_cases e : q = p
        · subst e
          rw [e40] at hs
          exact absurd hs (by decide)
        · rw [eo 5040 q (by omega) (by omega)] at hs
          rw [eo 5041 q (by omega) (by omega), eo 5042 q (by omega) (by omega)]
          exact h.V q hq hs
      have fW : a_W (q_u2 (q_u2 (q_u2 m 5040 p 0) 5041 p (-1)) 5042 p (-1)) = a_W m0 := by
        funext q
        unfold a_W
        rw [hm0, q_u2_ne (M := q_u2 (q_u2 (q_u2 m 5040 p 0) 5041 p (-1)) 5042 p (-1)) (by omega), q_u2_ne (M := q_u2 (q_u2 (q_u2 m 5040 p 0) 5041 p (-1)) 5042 p (-1)) (by omega)]
      have fX : q_u2 (q_u2 (q_u2 m 5040 p 0) 5041 p (-1)) 5042 p (-1) 5042 = m0 5042 := by
        funext q
        rw [hm0, q_u2_ne (M := q_u2 (q_u2 (q_u2 m 5040 p 0) 5041 p (-1)) 5042 p (-1)) (by omega)]
      have hN : q_u2 (q_u2 (q_u2 m 5040 p 0) 5041 p (-1)) 5042 p (-1) 5001 18 = nI (c 2) := by
        rw [q_u2_ne (by omega), q_u2_ne (by omega), q_u2_ne (by omega)]
        exact h.Y.N
      have eL : a_left c (q_u2 (q_u2 (q_u2 m 5040 p 0) 5041 p (-1)) 5042 p (-1)) (nI w) (m 5042 p) (-1) = a_left c m0 (nI w) (m 5042 p) (-1) := by
        unfold a_left
        rw [fW, fX]
      have eR : a_right c (q_u2 (q_u2 (q_u2 m 5040 p 0) 5041 p (-1)) 5042 p (-1)) (nI w) (m 5042 p) (-1) = a_right c m0 (nI w) (m 5042 p) (-1) := by
        unfold a_right
        rw [fW, fX]
      obtain ⟨m', M', t1, t2, t3, t4⟩ := s_stand_loop (c := c) (n := n) (m0 := m0) (p := p) (w := w) (x := m 5042 p) (A := fun q => a_sum m0 q (a_left c m0 (nI w) (m 5042 p) (-1)) (a_right c m0 (nI w) (m 5042 p) (-1))) hp hw e40 hV0 rfl rfl (fun _ => rfl) (c 2) 0 q_fu q_fu m0 M0 (by omega) (by omega) (by omega) ⟨hX0, hH0, fun _ _ => rfl, 0, fun _ => 0, by omega, by rw [hm0, q_u2_eq]; rfl, by rw [hM0, q_u2_eq]; rfl, fun j hj => absurd hj (Nat.not_lt_zero _)⟩
      rw [show nI 0 = 0 from rfl] at t1 t2
      rw [s_wallOf1 h hp z2 hwe hw, Option.bind_some, if_neg (by omega), if_neg (by omega), w_ck (t_pic hC hp), ep0, s_leftSide (a := 61) (b := 63) (by decide) (by omega), (h8.2.1 p hp).2.1, Option.bind_some, b1, Option.bind_some, b2 (1300 + p) (by omega) (by omega), ep0, s_take (a := 62) (b := 64) (by decide) (by omega), Option.bind_some, s_clear (r := 56) (N := 32) (by decide), Option.bind_some, ← hM0, t1]
      rw [if_pos z2, w_ld (by omega) (by decide), w_ld (by omega) (by decide), hwe, s_takes (by omega), Option.bind_some, s_besideL (c := c) hN hC2 (by omega), Option.bind_some, s_besideR (c := c) hN hC2 (by omega), Option.bind_some, eL, eR]
      rw [← hm0, t2]
      exact ⟨_, n, M', _, rfl, by rw [t4], t3⟩
    · rw [s_wallOf0 h hp z2, Option.bind_some, if_neg (by omega), if_pos rfl, if_neg z2]
      exact a_T.no h (-1) rfl rfl
  · rw [s_picAt0 h z1, h.isPicture0 z1, Option.bind_some, Option.bind_some, if_pos rfl, if_pos rfl, if_pos rfl]
    exact a_T.no h (-1) rfl rfl
