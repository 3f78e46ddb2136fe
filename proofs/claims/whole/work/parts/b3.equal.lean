/-! level 1 meets level 2: the lifted makers are those that level 2 speaks of -/
theorem n20 {x : Int32} (h : ¬ (20 : Int32) ≤ x) : x < 20 := Int32.not_le.mp h
theorem e_size {c : Nat → Nat} {M : q_MM} {o : Nat} (h : qTX c o = 23) : f_Jx4a65c_size_8abf5 (qTX c) (qLX c) (qPX c) M o = some (M o 2) := by
  unfold f_Jx4a65c_size_8abf5 q_ck
  rw [if_pos h]
theorem e_lt {x : Int32} {n b : Nat} (hx : x = nI n) (hn : n ≤ b) (hb : b < 1000) (h : ¬ nI b ≤ x) : n < b := by
  by_cases z : n < b
  · exact z
  · exfalso
    apply h
    rw [hx, show n = b by omega]
    exact nI_le (Nat.le_refl _) (by omega)
theorem e_door {c n : Nat → Nat} {m M : q_MM} (h : a_X c n m M) (a1 a2 a3 a4 : Int32) : f_X11_door c M a1 a2 a3 a4 = h_door c M a1 a2 a3 a4 := by
  obtain ⟨c20, -, e13, -⟩ := show a_B2 c n m M from h 2
  have e0 : b_X11_door_57 c a1 a2 a3 a4 0 M = some (-1, c, M) := by
    unfold b_X11_door_57
    rw [if_pos rfl]
  have e1 : b_X11_door_57 c a1 a2 a3 a4 1 M = if (20 : Int32) ≤ M 13 2 then some (-1, c, M) else (f_X2_measure (a_ndc c) (a_ndM c M fun x => [a1, a2, a3, a4].getD x 0) 18 0 0 (-1)).bind fun r => some ((r 13 2) - 1, a_ndc c, r) := by
    unfold b_X11_door_57
    rw [if_neg (show ¬ (1 : Int32) = 0 by decide), e_size rfl, Option.bind_some]
    by_cases z : (20 : Int32) ≤ M 13 2
    · rw [if_pos z, if_neg (Int32.not_lt.mpr z)]
    · rw [if_neg z, if_pos (Int32.not_le.mp z)]
      unfold h_doorB
      rw [q_hyT ⟨h.C, e_lt e13 c20 (by decide) z, e13⟩]
  unfold f_X11_door h_door b_X11_door_56
  simp only [e0, e1]
theorem e_wall {c n : Nat → Nat} {m M : q_MM} (h : a_X c n m M) (a1 a2 a3 a4 : Int32) : f_X11_wall c M a1 a2 a3 a4 = h_wall c M a1 a2 a3 a4 := by
  obtain ⟨c16, -, e14, -⟩ := show a_B5 c n m M from h 5
  have e0 : b_X11_wall_52 c a1 a2 a3 a4 0 M = some (-1, c, M) := by
    unfold b_X11_wall_52
    rw [if_pos rfl]
  have e1 : b_X11_wall_52 c a1 a2 a3 a4 1 M = if (16 : Int32) ≤ M 14 2 then some (-1, c, M) else some (nI (c 1), a_nwc c, a_nwM c M fun x => [nI (c 1), a1, a2, a3, a4, 0, 1, 0, (1 : Int32) <<< (a1 &&& 31)].getD x 0) := by
    unfold b_X11_wall_52
    rw [if_neg (show ¬ (1 : Int32) = 0 by decide), e_size rfl, Option.bind_some]
    by_cases z : (16 : Int32) ≤ M 14 2
    · rw [if_pos z, if_neg (Int32.not_lt.mpr z)]
    · rw [if_neg z, if_pos (Int32.not_le.mp z)]
      unfold h_wallB
      rw [q_hyT ⟨h.C, e_lt e14 c16 (by decide) z, e14⟩]
  unfold f_X11_wall h_wall b_X11_wall_51
  simp only [e0, e1]
theorem e_picture {c n : Nat → Nat} {m M : q_MM} (h : a_X c n m M) (a1 a2 a3 a4 a5 a6 a7 : Int32) : f_X11_picture c M a1 a2 a3 a4 a5 a6 a7 = h_picture c M a1 a2 a3 a4 a5 a6 a7 := by
  obtain ⟨c24, -, e15, -⟩ := show a_B7 c n m M from h 7
  have e0 : b_X11_picture_86 c a1 a2 a3 a4 a5 a6 a7 0 M = some (-1, c, M) := by
    unfold b_X11_picture_86
    rw [if_pos rfl]
  have e1 : b_X11_picture_86 c a1 a2 a3 a4 a5 a6 a7 1 M = if (24 : Int32) ≤ M 15 2 then some (-1, c, M) else some (nI (c 2), a_npc c, a_npM c M fun x => [nI (c 2), a1, a2, a3, a4, a5, a6, a7, -1, -1, 1000000, 400, 0, 0].getD x 0) := by
    unfold b_X11_picture_86
    rw [if_neg (show ¬ (1 : Int32) = 0 by decide), e_size rfl, Option.bind_some]
    by_cases z : (24 : Int32) ≤ M 15 2
    · rw [if_pos z, if_neg (Int32.not_lt.mpr z)]
    · rw [if_neg z, if_pos (Int32.not_le.mp z)]
      unfold h_picB
      rw [q_hyT ⟨h.C, e_lt e15 c24 (by decide) z, e15⟩]
  unfold f_X11_picture h_picture b_X11_picture_85
  simp only [e0, e1]
theorem e_takeOk {c n : Nat → Nat} {m M : q_MM} (h : a_X c n m M) (h30 : c 3 < 30) {r : Int32 × q_MM} (hr : f_X8_firstWrong c M 7 = some r) (h1 : r.1 = -1) : r.2 27 2 = nI (c 3) ∧ ∃ n : Nat, n ≤ 61 ∧ r.2 31 1 = nI n := by
  obtain ⟨k, k1, k2, k3, k4⟩ := show a_B13 c n m M from h 13
  obtain ⟨-, e36, e27, -⟩ := show a_B18 c n m M from h 18
  obtain ⟨nn, hnn⟩ : ∃ nn, nn = (if 60 < k then 60 else k) := ⟨_, rfl⟩
  have n60 : nn ≤ 60 := by rw [hnn]; split <;> omega
  have nk : nn ≤ k := by rw [hnn]; split <;> omega
  obtain ⟨t, ht⟩ : ∃ t : Nat → Nat, ∀ j, j < k → m 5051 j = nI (t j) ∧ t j < 256 := ⟨fun j => (m 5051 j).toNatClampNeg, fun j hj => by
    obtain ⟨x, x1, x2⟩ := (k4 j hj).2
    show m 5051 j = nI (m 5051 j).toNatClampNeg ∧ (m 5051 j).toNatClampNeg < 256
    rw [x2, nI_clamp (by omega)]
    exact ⟨rfl, x1⟩⟩
  obtain ⟨M15, hM15⟩ : ∃ M15, M15 = q_u2 (q_u2 (q_u2 m 5001 44 (nI (c 3))) 5050 (c 3) 0) 5001 43 0 := ⟨_, rfl⟩
  have mk0 : a_mk M15 (c 3) [] 0 := by
    rw [hM15]
    refine ⟨h30, ?_, ?_, fun j hj => absurd hj (Nat.not_lt_zero _), q_u2_eq⟩
    · rw [q_u2_ne (by omega), q_u2_ne (by omega), q_u2_eq]
    · rw [q_u2_ne (by omega), q_u2_eq]; rfl
  have tp0 : a_tp2 M15 t nn := ⟨n60, fun j hj => by
    rw [hM15, q_u2_ne (by omega), q_u2_ne (by omega), q_u2_ne (by omega)]
    exact ht j (by omega)⟩
  obtain ⟨m1, b1, b2, b3, b4, b5⟩ := s_allT mk0 tp0
  obtain ⟨g1, g2⟩ := s_fw (c := c) (t := t) (N := k) (n := nn) (M := M) k1 hnn k2 (fun j hj => ⟨by rw [(k4 j hj).1]; exact (ht j hj).1, (ht j hj).2⟩)
  by_cases zg : ((a_txt t nn).1 = true ∧ (a_txt t nn).2.1 = nn) ∧ k ≤ 60
  · obtain ⟨M1, d1, d2, d3, d4⟩ := g1 zg
    rw [hr] at d1
    cases Option.some.inj d1
    exact ⟨by show M1 27 2 = _; rw [d2 27 2 (by omega) (by omega) (by omega) (by omega) (by omega)]; exact e27, (a_txt t nn).2.2.length + 1, by omega, d3⟩
  · obtain ⟨M1, d1, d2⟩ := g2 zg
    rw [hr] at d1
    cases Option.some.inj d1
    have w60 : (if (a_txt t nn).1 = true ∧ (a_txt t nn).2.1 = nn then 60 else (a_txt t nn).2.1) ≤ 60 := by split <;> omega
    exact absurd h1 (a_neg1 w60)
theorem e_take {c n : Nat → Nat} {m M : q_MM} (h : a_X c n m M) (h30 : c 3 < 30) (a1 a2 : Int32) : f_X9_take c M 7 a1 a2 = h_take c M a1 a2 := by
  unfold f_X9_take h_take
  cases hr : f_X8_firstWrong c M 7 with
  | none => rfl
  | some r =>
    rw [Option.bind_some, Option.bind_some, w_let]
    by_cases z : r.1 = -1
    · rw [if_pos z, if_pos z]
      obtain ⟨x1, n1, x2, x3⟩ := e_takeOk h h30 hr z
      unfold h_takeB
      rw [q_hyT ⟨h.C, h30, x1, n1, x2, x3⟩]
    · rw [if_neg z, if_neg z]
theorem e_clear {c : Nat → Nat} {M : q_MM} : f_X4_clear c M 7 = some (q_u2 M 7 1 0) := by
  unfold f_X4_clear q_ck q_let
  rw [if_pos (show qTX c 7 = 14 from rfl)]
theorem e_term {c n : Nat → Nat} {m M : q_MM} (h : a_X c n m M) (a1 a2 : Int32) : f_X11_term c M a1 a2 = h_term c M a1 a2 := by
  obtain ⟨c30, -, e27, -⟩ := show a_B18 c n m M from h 18
  have e0 : b_X11_term_42 c a1 a2 0 M = some (-100, c, q_u2 M 7 1 0) := by
    unfold b_X11_term_42
    rw [if_pos rfl, e_clear, Option.bind_some]
  unfold f_X11_term h_term b_X11_term_41
  simp only [e0]
  rw [e_size rfl]
  by_cases z : (30 : Int32) ≤ M 27 2
  · simp only [if_pos z, Option.bind_some]
  · have h30 := e_lt e27 c30 (by decide) z
    have e1 : b_X11_term_42 c a1 a2 1 M = (h_take c M a1 a2).bind fun r => some (r.1, r.2.1, q_u2 r.2.2 7 1 0) := by
      unfold b_X11_term_42
      rw [if_neg (show ¬ (1 : Int32) = 0 by decide)]
      unfold h_termB
      rw [e_take h h30]
      congr 1
    simp only [if_neg z, Option.bind_some, e1]
/-! .. and the throwers -/
theorem e_row1 {c : Nat → Nat} {M : q_MM} {a1 r : Int32} (h : f_X11_row c M a1 = some r) : ft_X11_row c M a1 = some (some r, M) := by
  unfold f_X11_row at h
  unfold ft_X11_row
  obtain ⟨r1, x1, x2⟩ := Option.bind_eq_some_iff.mp h
  rw [x1, Option.bind_some]
  by_cases z : r1 = 0
  · rw [if_pos z] at x2; cases x2
  · rw [if_neg z] at x2 ⊢
    obtain ⟨r3, y1, y2⟩ := Option.bind_eq_some_iff.mp x2
    cases y2
    rw [y1, Option.bind_some]
theorem e_row0 {c : Nat → Nat} {M : q_MM} {a1 : Int32} (h : ¬ a_rg a1 0 (M 6 1 - 1).toInt) : ft_X11_row c M a1 = some (none, M) := by
  unfold ft_X11_row
  rw [s_within0 h rfl rfl, Option.bind_some, if_pos rfl]
theorem e_like1 {c : Nat → Nat} {M M' : q_MM} {a1 a2 a3 r : Int32} (h : f_X11_like c M a1 a2 a3 = some (r, M')) : ft_X11_like c M a1 a2 a3 = some (some r, M') := by
  unfold f_X11_like at h
  unfold ft_X11_like
  obtain ⟨r1, x1, x2⟩ := Option.bind_eq_some_iff.mp h
  rw [x1, Option.bind_some]
  by_cases z : r1 = 0
  · rw [if_pos z] at x2; cases x2
  rw [if_neg z] at x2 ⊢
  obtain ⟨r3, y1, y2⟩ := Option.bind_eq_some_iff.mp x2
  rw [y1, Option.bind_some]
  by_cases w : r3 = 0
  · rw [if_pos w] at y2; cases y2
  rw [if_neg w] at y2 ⊢
  obtain ⟨r5, u1, u2⟩ := Option.bind_eq_some_iff.mp y2
  rw [u1, Option.bind_some]
  by_cases v : r5 = 0
  · rw [if_pos v] at u2; cases u2
  rw [if_neg v] at u2 ⊢
  unfold q_ld q_as at u2 ⊢
  revert u2
  repeat' split
  all_goals (intro u2; first | cases u2; done | (cases u2; rfl))
theorem e_like0 {c : Nat → Nat} {M : q_MM} {a1 a2 a3 : Int32} (h : ¬ (a_rg a1 0 7 ∧ a_rg a2 0 7 ∧ a_rg a3 (-99) 99)) : ft_X11_like c M a1 a2 a3 = some (none, M) := by
  unfold ft_X11_like bt_X11_like_31
  by_cases z1 : a_rg a1 0 7
  · rw [s_within1 z1 rfl rfl, Option.bind_some, if_neg (show ¬ (1 : Int32) = 0 by decide)]
    by_cases z2 : a_rg a2 0 7
    · rw [s_within1 z2 rfl rfl, Option.bind_some, if_neg (show ¬ (1 : Int32) = 0 by decide), s_within0 (fun q => h ⟨z1, z2, q⟩) rfl rfl, Option.bind_some, if_pos rfl]
    · rw [s_within0 z2 rfl rfl, Option.bind_some, if_pos rfl]
  · rw [s_within0 z1 rfl rfl, Option.bind_some, if_pos rfl]
theorem e_at1 {c : Nat → Nat} {M : q_MM} {a1 a2 r : Int32} (h : f_X11_at c M a1 a2 = some r) : ft_X11_at c M a1 a2 = some (some r, M) := by
  unfold f_X11_at at h
  unfold ft_X11_at
  obtain ⟨r1, x1, x2⟩ := Option.bind_eq_some_iff.mp h
  rw [x1, Option.bind_some]
  by_cases z : r1 = 0
  · rw [if_pos z] at x2; cases x2
  rw [if_neg z] at x2 ⊢
  obtain ⟨r3, y1, y2⟩ := Option.bind_eq_some_iff.mp x2
  rw [y1, Option.bind_some]
  by_cases w : r3 = 0
  · rw [if_pos w] at y2; cases y2
  rw [if_neg w] at y2 ⊢
  by_cases v : a2 = 0
  · rw [if_pos v] at y2 ⊢
    obtain ⟨r6, u1, u2⟩ := Option.bind_eq_some_iff.mp y2
    cases u2
    rw [u1, Option.bind_some]
  rw [if_neg v] at y2 ⊢
  by_cases u : a2 = 3
  · rw [if_pos u] at y2 ⊢
    unfold q_ck at y2 ⊢
    by_cases t : qTX c r1 = 15
    · rw [if_pos t] at y2 ⊢
      cases y2
      rfl
    · rw [if_neg t] at y2; cases y2
  rw [if_neg u] at y2 ⊢
  by_cases s : a2 = 7
  · rw [if_pos s] at y2 ⊢
    unfold q_ck at y2 ⊢
    by_cases t : qTX c r1 = 15
    · rw [if_pos t] at y2 ⊢
      cases y2
      rfl
    · rw [if_neg t] at y2; cases y2
  rw [if_neg s] at y2 ⊢
  obtain ⟨r11, u1, u2⟩ := Option.bind_eq_some_iff.mp y2
  cases u2
  rw [u1, Option.bind_some]
theorem e_at0 {c n : Nat → Nat} {m M : q_MM} (hX : a_X c n m M) {a1 a2 : Int32} (h : ¬ (a_lt a1 (c 2) ∧ a_rg a2 0 7)) : ft_X11_at c M a1 a2 = some (none, M) := by
  unfold ft_X11_at bt_X11_at_23
  rw [s_picAt hX, Option.bind_some]
  by_cases z1 : a_lt a1 (c 2)
  · rw [a_ifp z1, if_neg (show ¬ 1300 + a1.toNatClampNeg = 0 by omega), s_within0 (fun q => h ⟨z1, q⟩) rfl rfl, Option.bind_some, if_pos rfl]
  · rw [a_ifn z1, if_pos rfl]
theorem e_best1 {c : Nat → Nat} {M M' : q_MM} {a1 a2 r : Int32} (h : f_X11_best c M a1 a2 = some (r, M')) : ft_X11_best c M a1 a2 = some (some r, M') := by
  unfold f_X11_best b_X11_best_35 at h
  unfold ft_X11_best
  obtain ⟨r1, x1, x2⟩ := Option.bind_eq_some_iff.mp h
  rw [x1, Option.bind_some]
  by_cases z : r1 = 0
  · rw [if_pos z] at x2; cases x2
  rw [if_neg z] at x2 ⊢
  obtain ⟨r3, y1, y2⟩ := Option.bind_eq_some_iff.mp x2
  rw [y1, Option.bind_some]
  by_cases w : r3.1 = 0
  · rw [if_pos w] at y2; cases y2
  rw [if_neg w] at y2 ⊢
  obtain ⟨r5, u1, u2⟩ := Option.bind_eq_some_iff.mp y2
  rw [u1, Option.bind_some]
  by_cases v : r5 = 0
  · rw [if_pos v] at u2; cases u2
  rw [if_neg v] at u2 ⊢
  obtain ⟨r7, t1, t2⟩ := Option.bind_eq_some_iff.mp u2
  rw [t1, Option.bind_some]
  unfold q_let at t2 ⊢
  obtain ⟨r9, s1, s2⟩ := Option.bind_eq_some_iff.mp t2
  cases s2
  rw [s1]
  rfl
theorem e_best0 {c : Nat → Nat} {M M' : q_MM} {a1 a2 : Int32} (h : a_bth c M a1 a2 M') : ft_X11_best c M a1 a2 = some (none, M') := by
  unfold ft_X11_best bt_X11_best_35
  rcases h with ⟨h1, h2⟩ | ⟨w, w0, h1, h2⟩
  · rw [h1, Option.bind_some, if_pos rfl, h2]
  · rw [h1, Option.bind_some, if_neg w0]
    rcases h2 with h2 | ⟨h2, h3⟩
    · rw [h2, Option.bind_some, if_pos rfl]
    · rw [h2, Option.bind_some, if_neg (show ¬ (1 : Int32) = 0 by decide), h3, Option.bind_some, if_pos rfl]
