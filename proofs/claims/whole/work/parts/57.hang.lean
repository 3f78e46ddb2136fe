/-! hang -/
theorem a_sf42 {c n : Nat → Nat} {m M : q_MM} (h : a_X c n m M) {p w : Nat} (hp : p < c 2) (hw : w < c 1) {x : Int32} (z : a_w4 c m p w x = 0) : a_rg x 0 3000 ∧ ∀ q, q < c 2 → q ≠ p → m 5040 q = 1 → m 5041 q = nI w → m 5042 q ≠ x := by
  have hC1 := h.C.2.1
  have h7 := (h 7 : a_B7 c n m M).2.2.2.1
  have h6 : a_B6 c n m M := h 6
  have w5 := ((h 5 : a_B5 c n m M).2.2.2.1 w hw).2.2.1
  unfold a_w4 at z
  have z1 : ¬ (x.toInt < 0 ∨ (m 5021 w).toInt < x.toInt + (m 5029 p).toInt) := fun q => by
    rw [a_ifp q] at z
    exact absurd z (by decide)
  rw [a_ifn z1] at z
  have z2 : a_hi m p w := by
    apply Classical.byContradiction
    intro q
    rw [a_ifp q] at z
    exact absurd z (by decide)
  rw [a_ifn (fun q => q z2)] at z
  have z3 : ¬ a_bd m p (nI w) x (c 2) := fun q => by
    rw [a_ifp q] at z
    exact absurd z (by decide)
  have pw := (h7 p hp).2.1
  refine ⟨?_, fun q hq hqp q1 q2 q3 => z3 ⟨q, hq, hqp, (a_W_w (by omega)).mpr ⟨q1, q2⟩, fun cl => ?_⟩⟩
  · unfold a_rg at *
    omega
  · have qw := (h7 q hq).2.1
    have g := h6.2.2.1
    unfold a_cl at cl
    unfold a_rg at *
    rw [q3] at cl
    omega
theorem pub_hang {c n : Nat → Nat} {m M : q_MM} (h : a_X c n m M) (a1 a2 a3 : Int32) : a_T c (f_X11_hang c M a1 a2 a3) (f_X12_hang m a1 a2 a3) := by
  unfold f_X11_hang f_X12_hang b_X11_hang_79 b_X12_hang_46
  simp only [w_let]
  replace h := h.t0
  generalize q_u2 m 5001 0 0 = m at h ⊢
  have hC := h.C
  have hC2 := hC.2.2.1
  by_cases z1 : a_here c m a1
  · obtain ⟨p, hp, rfl, hs⟩ := z1
    rw [s_present1 h hp hs, h.isHere1 hp hs, Option.bind_some, Option.bind_some, if_neg (show ¬ (1 : Int32) = 0 by decide)]
    by_cases z2 : a_lt a2 (c 1)
    · obtain ⟨w, hw, rfl⟩ := z2
      obtain ⟨r, m', M', t1, t2, t3, t4, t5⟩ := s_unfit h a_t8.rf (o := 21) (a := 61) (b := 63) (by decide) h.H h.V hp hw a3
      have hX := h.sx t4 t5
      rw [s_wallAt1 h hw, h.isWall1 hw, Option.bind_some, Option.bind_some, if_neg (by omega), if_neg (by omega), if_neg (show ¬ (1 : Int32) = 0 by decide), t1, t2, Option.bind_some, Option.bind_some]
      dsimp only
      by_cases z3 : r = 0
      · have sf := a_sf42 h hp hw (t3 z3)
        have e0 : M' (1300 + p) 0 = nI p := ((hX 7 : a_B7 c n m' M').2.2.2.1 p hp).1.1
        have e1 : M' (1100 + w) 0 = nI w := ((hX 5 : a_B5 c n m' M').2.2.2.1 w hw).1.1
        have r40 : m' 5040 = m 5040 := funext fun k => t5 _ _ (by decide) (by decide) (by decide) (by omega)
        have r41 : m' 5041 = m 5041 := funext fun k => t5 _ _ (by decide) (by decide) (by decide) (by omega)
        have r42 : m' 5042 = m 5042 := funext fun k => t5 _ _ (by decide) (by decide) (by decide) (by omega)
        have hX2 := hX.hang hp hw sf.1 (by rw [r40]; exact hs) (by rw [r40, r41, r42]; exact sf.2)
        rw [if_pos z3, if_pos z3, w_ck (t_pic hC hp), w_ck (t_wall hC hw), e0, e1, s_put (a := 61) (b := 63) (by decide) (by omega), Option.bind_some, s_puts (by omega), Option.bind_some]
        exact ⟨r, n, _, _, rfl, rfl, hX2⟩
      · rw [if_neg z3, if_neg z3]
        exact ⟨r, n, _, _, rfl, rfl, hX⟩
    · rw [s_wallAt0 h z2, h.isWall0 z2, Option.bind_some, Option.bind_some, if_neg (by omega), if_pos rfl, if_pos rfl]
      exact a_T.no h (-1) rfl rfl
  · rw [s_present0 h z1, h.isHere0 z1, Option.bind_some, Option.bind_some, if_pos rfl]
    rcases Classical.em (a_lt a2 (c 1)) with ⟨w, hw, rfl⟩ | z2
    · rw [s_wallAt1 h hw, Option.bind_some, if_pos rfl]
      exact a_T.no h (-1) rfl rfl
    · rw [s_wallAt0 h z2, Option.bind_some, if_pos rfl]
      exact a_T.no h (-1) rfl rfl
theorem pub_why {c n : Nat → Nat} {m M : q_MM} (h : a_X c n m M) (a1 a2 a3 : Int32) : a_T c (f_X11_why c M a1 a2 a3) (f_X12_why m a1 a2 a3) := by
  unfold f_X11_why f_X12_why b_X11_why_30
  simp only [w_let]
  replace h := h.t0
  generalize q_u2 m 5001 0 0 = m at h ⊢
  by_cases z1 : a_lt a1 (c 2)
  · obtain ⟨p, hp, rfl⟩ := z1
    rw [s_picAt1 h hp, h.isPicture1 hp, Option.bind_some, Option.bind_some, if_neg (show ¬ (1 : Int32) = 0 by decide)]
    by_cases z2 : a_lt a2 (c 1)
    · obtain ⟨w, hw, rfl⟩ := z2
      obtain ⟨r, r', m', M', t1, t2, t3, t4, t5⟩ := s_terms h a_t8.rf (o := 21) (a := 61) (b := 63) (by decide) h.H h.V hp hw a3
      rw [s_wallAt1 h hw, h.isWall1 hw, Option.bind_some, Option.bind_some, if_neg (by omega), if_neg (by omega), if_neg (show ¬ (1 : Int32) = 0 by decide), t1, t2, Option.bind_some, Option.bind_some]
      dsimp only
      rcases t3 with ⟨e1, e2⟩ | ⟨f, hf, e1, e2⟩
      · rw [e2, if_neg (by decide), e1]
        exact ⟨_, n, M', m', rfl, rfl, h.sx t4 t5⟩
      · rw [e2, if_pos (show (0 : Int32) ≤ nI f from nI_le (a := 0) (by omega) (by omega)), e1]
        exact ⟨_, n, M', m', rfl, rfl, h.sx t4 t5⟩
    · rw [s_wallAt0 h z2, h.isWall0 z2, Option.bind_some, Option.bind_some, if_neg (by omega), if_pos rfl, if_pos rfl]
      exact a_T.no h (-1) rfl rfl
  · rw [s_picAt0 h z1, h.isPicture0 z1, Option.bind_some, Option.bind_some, if_pos rfl]
    rcases Classical.em (a_lt a2 (c 1)) with ⟨w, hw, rfl⟩ | z2
    · rw [s_wallAt1 h hw, Option.bind_some, if_pos rfl]
      exact a_T.no h (-1) rfl rfl
    · rw [s_wallAt0 h z2, Option.bind_some, if_pos rfl]
      exact a_T.no h (-1) rfl rfl
