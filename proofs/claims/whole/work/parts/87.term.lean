/-! term: what is made, and the answers -/
theorem a_R.cc {c c' n : Nat → Nat} {σ M : q_MM} {i : Nat} (hi : i ≠ 18) (h0 : c' 0 = c 0) (h1 : c' 1 = c 1) (h2 : c' 2 = c 2) (h : a_R i c n σ M) : a_R i c' n σ M := by
  match i, hi, h with
  | 0, _, h => exact h
  | 1, _, h => exact h
  | 2, _, h =>
    have h : a_B2 c n σ M := h
    show a_B2 c' n σ M
    unfold a_B2 at h ⊢
    rw [h0]; exact h
  | 3, _, _ => trivial
  | 4, _, h => exact h
  | 5, _, h =>
    have h : a_B5 c n σ M := h
    show a_B5 c' n σ M
    unfold a_B5 at h ⊢
    rw [h1]; exact h
  | 6, _, h => exact h
  | 7, _, h =>
    have h : a_B7 c n σ M := h
    show a_B7 c' n σ M
    unfold a_B7 at h ⊢
    rw [h2]; exact h
  | 8, _, h =>
    have h : a_B8 c n σ M := h
    show a_B8 c' n σ M
    unfold a_B8 at h ⊢
    rw [h2, h1]; exact h
  | 9, _, h =>
    have h : a_B9 c n σ M := h
    show a_B9 c' n σ M
    unfold a_B9 at h ⊢
    rw [h2]; exact h
  | 10, _, h =>
    have h : a_B10 c n σ M := h
    show a_B10 c' n σ M
    unfold a_B10 at h ⊢
    rw [h2]; exact h
  | 11, _, h => exact h
  | 12, _, h => exact h
  | 13, _, h => exact h
  | 14, _, h =>
    have h : a_B14 c n σ M := h
    show a_B14 c' n σ M
    unfold a_B14 at h ⊢
    rw [h2]; exact h
  | 15, _, h => exact h
  | 16, _, h =>
    have h : a_B16 c n σ M := h
    show a_B16 c' n σ M
    unfold a_B16 at h ⊢
    rw [h2, h1]; exact h
  | 17, _, h =>
    have h : a_B17 c n σ M := h
    show a_B17 c' n σ M
    unfold a_B17 at h ⊢
    rw [h2, h1]; exact h
  | 18, hi, _ => exact absurd rfl hi
  | k + 19, _, _ => trivial
/-- a term is made -/
theorem a_X.nt {c c' n : Nat → Nat} {σ σ' M M' : q_MM} (h : a_X c n σ M) (h0 : c' 0 = c 0) (h1 : c' 1 = c 1) (h2 : c' 2 = c 2) (hM : a_wM [13, 18] M M') (hσ : a_wS [13, 18] σ σ') (hB : a_B13 c n σ' M') (hB18 : a_B18 c' n σ' M') : a_X c' n σ' M' := by
  intro i
  by_cases h9 : i = 19
  · subst h9; trivial
  by_cases h18 : i = 18
  · subst h18; exact hB18
  refine a_R.cc h18 h0 h1 h2 ?_
  by_cases h13 : i = 13
  · subst h13; exact hB
  have hi : i ∉ [13, 18] := fun q => by
    rcases List.mem_cons.mp q with q | q
    · exact h13 q
    · exact h18 (List.mem_singleton.mp q)
  refine a_cong i (fun o k e => ?_) (fun o k e => ?_) (h i)
  · rcases hM o k with z | z | z
    · exact absurd (e ▸ z) hi
    · exact absurd (e.symm.trans z) h9
    · exact z
  · rcases hσ o k with z | z | z
    · exact absurd (e ▸ z) hi
    · exact absurd (e.symm.trans z) h9
    · exact z
theorem a_w8.wM {S : List Nat} {M M' : q_MM} (h : a_w8 M M') : a_wM S M M' := fun o k => by
  by_cases z1 : o = 31
  · subst z1; exact Or.inr (Or.inl rfl)
  by_cases z2 : o = 32
  · subst z2; exact Or.inr (Or.inl rfl)
  by_cases z3 : o = 81
  · subst z3; exact Or.inr (Or.inl rfl)
  by_cases z4 : o = 82
  · subst z4; exact Or.inr (Or.inl rfl)
  by_cases z5 : o = 28
  · subst z5; exact Or.inr (Or.inl rfl)
  · exact Or.inr (Or.inr (h o k z1 z2 z3 z4 (fun q => z5 q.1)))
theorem a_wM.trans {S : List Nat} {M M' M'' : q_MM} (h : a_wM S M M') (h' : a_wM S M' M'') : a_wM S M M'' := fun o k => by
  rcases h' o k with z | z | z
  · exact Or.inl z
  · exact Or.inr (Or.inl z)
  · rw [z]; exact h o k
theorem a_wS.trans {S : List Nat} {M M' M'' : q_MM} (h : a_wS S M M') (h' : a_wS S M' M'') : a_wS S M M'' := fun o k => by
  rcases h' o k with z | z | z
  · exact Or.inl z
  · exact Or.inr (Or.inl z)
  · rw [z]; exact h o k
theorem a_fm.wS {S : List Nat} {u : Nat} {m m' : q_MM} (h : a_fm u m m') (hS : 18 ∈ S) : a_wS S m m' := fun o k => by
  by_cases z1 : o = 5001 ∧ k = 43
  · obtain ⟨rfl, rfl⟩ := z1; exact Or.inr (Or.inl rfl)
  by_cases z2 : o = 5050
  · subst z2; exact Or.inl hS
  by_cases z3 : o = 5049
  · subst z3; exact Or.inl hS
  · exact Or.inr (Or.inr (h o k z1 (fun q => z2 q.1) (fun q => z3 q.1)))
def a_ntc (c : Nat → Nat) (L : Nat) : Nat → Nat := fun i => if i = 3 then c 3 + 1 else if i = 10 + c 3 then L else c i
theorem a_ntc_ne {c : Nat → Nat} {L i : Nat} (h : i ≠ 3) (h2 : i ≠ 10 + c 3) : a_ntc c L i = c i := by
  unfold a_ntc
  rw [if_neg h, if_neg h2]
def a_ntM (c : Nat → Nat) (M : q_MM) (a1 a2 : Int32) : q_MM := fun o x => if o = 1500 + c 3 then M 81 x else if o = 1400 + c 3 then (if x = 0 then a1 else if x = 1 then a2 else 0) else if o = 27 ∧ x = 2 then nI (c 3 + 1) else if o = 27 ∧ x = 0 then M 27 0 + 1 else M o x
/-- Terms.take and term, with the memory that they leave -/
noncomputable def h_take (c : Nat → Nat) (M : q_MM) (a1 a2 : Int32) : Option (Int32 × (Nat → Nat) × q_MM) := (f_X8_firstWrong c M 7).bind fun r => if r.1 = -1 then some (nI (c 3), a_ntc c (r.2 31 1).toNatClampNeg, a_ntM c r.2 a1 a2) else some (-1 - r.1, c, r.2)
noncomputable def h_term (c : Nat → Nat) (M : q_MM) (a1 a2 : Int32) : Option (Int32 × (Nat → Nat) × q_MM) :=
  (f_X2_pictureAt c M a1).bind fun r1 => if r1 = 0 then some (-100, c, q_u2 M 7 1 0) else
  (f_X11_within c M a2 0 400).bind fun r2 => if r2 = 0 then some (-100, c, q_u2 M 7 1 0) else
  if (30 : Int32) ≤ M 27 2 then some (-100, c, q_u2 M 7 1 0) else
  (h_take c M a1 a2).bind fun r => some (r.1, r.2.1, q_u2 r.2.2 7 1 0)
/-- class and model answer alike; the class may have made objects -/
def a_Tc (fx : Option (Int32 × (Nat → Nat) × q_MM)) (fm : Option (Int32 × q_MM)) : Prop := ∃ r c' n' Mx' m', fx = some (r, c', Mx') ∧ fm = some (r, m') ∧ a_X c' n' m' Mx'
theorem a_own4 {d k : Nat} (hd : d < 200) : ownM (1400 + d) k = 18 := by
  unfold ownM
  repeat (first | rw [if_pos (by omega)] | rw [if_neg (by omega)])
theorem a_neg1 {w : Nat} (h : w ≤ 60) : ¬ nI w = -1 := fun q => nI_neg1 (by omega) q
theorem pub_term {c n : Nat → Nat} {m M : q_MM} (h : a_X c n m M) (a1 a2 : Int32) : a_Tc (h_term c M a1 a2) (f_X12_term m a1 a2) := by
  have hC := h.C
  obtain ⟨k, k1, k2, k3, k4⟩ := show a_B13 c n m M from h 13
  obtain ⟨c30, e36, e27, old⟩ := show a_B18 c n m M from h 18
  obtain ⟨M7, hM7⟩ : ∃ M7, M7 = q_u2 (q_u2 m 5001 0 0) 5001 42 0 := ⟨_, rfl⟩
  have h7 : a_X c n M7 (q_u2 M 7 1 0) := by
    rw [hM7]
    refine h.t0.wr [13] (a_wM.rf.u2 (Or.inl (by decide))) (a_wS.rf.u2 (Or.inl (by decide))) (fun i hi => ?_)
    rw [List.mem_singleton.mp hi]
    exact ⟨0, by decide, q_u2_eq, q_u2_eq, fun i hi => absurd hi (Nat.not_lt_zero _)⟩
  unfold f_X12_term h_term
  rw [w_let, w_let, w_let, q_u2_ne (M := m) (by omega), k3, ← hM7, h7.isPicture, s_picAt h, Option.bind_some, Option.bind_some]
  by_cases z1 : a_lt a1 (c 2)
  rotate_left
  · rw [a_ifn z1, a_ifn z1, if_pos rfl, if_pos rfl]
    exact ⟨_, c, n, _, _, rfl, rfl, h7⟩
  rw [a_ifp z1, a_ifp z1, if_neg (show ¬ 1300 + a1.toNatClampNeg = 0 by omega), if_neg (show ¬ (1 : Int32) = 0 by decide)]
  by_cases z2 : a_rg a2 0 400
  rotate_left
  · rw [s_within0 z2 rfl rfl, s_inn z2 rfl rfl, Option.bind_some, Option.bind_some, if_pos rfl, if_pos rfl]
    exact ⟨_, c, n, _, _, rfl, rfl, h7⟩
  have e36' : M7 5001 36 = nI (c 3) := by rw [hM7, q_u2_ne (by omega), q_u2_ne (by omega)]; exact e36
  rw [s_within1 z2 rfl rfl, s_in1 z2 rfl rfl, Option.bind_some, Option.bind_some, if_neg (show ¬ (1 : Int32) = 0 by decide), if_neg (show ¬ (1 : Int32) = 0 by decide), e36', e27]
  by_cases z3 : c 3 = 30
  · rw [z3, if_pos (show nI 30 = (30 : Int32) from rfl), if_pos (show (30 : Int32) ≤ nI 30 by decide)]
    exact ⟨_, c, n, _, _, rfl, rfl, h7⟩
  have u30 : c 3 < 30 := by omega
  rw [if_neg (show ¬ nI (c 3) = (30 : Int32) from fun q => z3 (nI_inj (j := 30) (by omega) (by decide) q)), if_neg (show ¬ (30 : Int32) ≤ nI (c 3) from nI_ge (b := 30) u30 (by decide)), w_let, q_u2_eq, w_as (show c 3 < 31 by omega) (by decide), w_let]
  obtain ⟨M15, hM15⟩ : ∃ M15, M15 = q_u2 (q_u2 (q_u2 M7 5001 44 (nI (c 3))) 5050 (c 3) 0) 5001 43 0 := ⟨_, rfl⟩
  rw [← hM15]
  obtain ⟨nn, hnn⟩ : ∃ nn, nn = (if 60 < k then 60 else k) := ⟨_, rfl⟩
  have n60 : nn ≤ 60 := by rw [hnn]; split <;> omega
  have nk : nn ≤ k := by rw [hnn]; split <;> omega
  have eN : (if (60 : Int32) < nI k then (60 : Int32) else nI k) = nI nn := by
    rw [hnn]
    by_cases z : 60 < k
    · rw [if_pos z, if_pos (show (60 : Int32) < nI k from nI_lt (a := 60) z (by omega))]; rfl
    · rw [if_neg z, if_neg (show ¬ (60 : Int32) < nI k from nI_nlt (a := 60) (by omega) (by decide))]
  rw [eN]
  obtain ⟨t, ht⟩ : ∃ t : Nat → Nat, ∀ j, j < k → m 5051 j = nI (t j) ∧ t j < 256 := ⟨fun j => (m 5051 j).toNatClampNeg, fun j hj => by
    obtain ⟨x, x1, x2⟩ := (k4 j hj).2
    show m 5051 j = nI (m 5051 j).toNatClampNeg ∧ (m 5051 j).toNatClampNeg < 256
    rw [x2, nI_clamp (by omega)]
    exact ⟨rfl, x1⟩⟩
  have mk0 : a_mk M15 (c 3) [] 0 := by
    rw [hM15]
    refine ⟨u30, ?_, ?_, fun j hj => absurd hj (Nat.not_lt_zero _), q_u2_eq⟩
    · rw [q_u2_ne (by omega), q_u2_ne (by omega), q_u2_eq]
    · rw [q_u2_ne (by omega), q_u2_eq]; rfl
  have tp0 : a_tp2 M15 t nn := ⟨n60, fun j hj => by
    rw [hM15, hM7, q_u2_ne (by omega), q_u2_ne (by omega), q_u2_ne (by omega), q_u2_ne (by omega), q_u2_ne (by omega)]
    exact ht j (by omega)⟩
  obtain ⟨m1, b1, b2, b3, b4, b5⟩ := s_allT mk0 tp0
  obtain ⟨g1, g2⟩ := s_fw (c := c) (t := t) (N := k) (n := nn) (M := M) k1 hnn k2 (fun j hj => ⟨by rw [(k4 j hj).1]; exact (ht j hj).1, (ht j hj).2⟩)
  rw [b1, Option.bind_some]
  dsimp only
  rw [w_let]
  have e43 : m1 5001 43 = nI (a_txt t nn).2.1 := b2.2.2.2.2
  have w15 : a_wS [13, 18] m M15 := by
    rw [hM15, hM7]
    exact ((((a_wS.rf.u2 (Or.inr rfl)).u2 (Or.inl (by decide))).u2 (Or.inr rfl)).u2 (Or.inl (by show 18 ∈ [13, 18]; decide))).u2 (Or.inr rfl)
  by_cases zg : ((a_txt t nn).1 = true ∧ (a_txt t nn).2.1 = nn) ∧ k ≤ 60
  · -- a term is made
    obtain ⟨M1, d1, d2, d3, d4⟩ := g1 zg
    have D60 : (a_txt t nn).2.2.length ≤ 60 := by omega
    obtain ⟨-, -, -, -, -, -, hcha⟩ := (a_txt_g (t := t) (n := nn) (fun j hj => (ht j (by omega)).2) n60).2 zg.1
    obtain ⟨D, hD⟩ : ∃ D, (a_txt t nn).2.2 = D := ⟨_, rfl⟩
    rw [hD] at d3 d4 D60 hcha b2
    have hwf := a_cha_wf2 hcha
    unfold h_take
    rw [d1, Option.bind_some]
    dsimp only
    rw [if_pos rfl, Option.bind_some, d3, nI_clamp (by omega), a_ifp zg.1, if_pos (show nI k ≤ (60 : Int32) from nI_le (b := 60) zg.2 (by decide))]
    unfold b_X12_term_105
    have e361 : m1 5001 36 = nI (c 3) := by
      rw [b3 5001 36 (by omega) (by omega) (by omega), hM15, q_u2_ne (by omega), q_u2_ne (by omega), q_u2_ne (by omega)]; exact e36'
    have e421 : m1 5001 42 = 0 := by
      rw [b3 5001 42 (by omega) (by omega) (by omega), hM15, q_u2_ne (by omega), q_u2_ne (by omega), q_u2_ne (by omega), hM7, q_u2_eq]
    rw [if_neg (show ¬ (1 : Int32) = 0 by decide), e361, w_as u30 (by decide), q_u2_ne (M := m1) (by omega), e361, w_as u30 (by decide), w_let, q_u2_eq, q_u2_ne (by omega), q_u2_ne (M := m1) (by omega), e361, nI_1, nI_pred]
    refine ⟨nI (c 3), a_ntc c (D.length + 1), n, q_u2 (a_ntM c M1 a1 a2) 7 1 0, _, rfl, rfl, h.nt (c' := a_ntc c (D.length + 1)) (a_ntc_ne (i := 0) (by decide) (by omega)) (a_ntc_ne (i := 1) (by decide) (by omega)) (a_ntc_ne (i := 2) (by decide) (by omega)) ?_ ?_ ?_ ?_⟩
    · -- the class' writes
      refine a_wM.u2 ?_ (Or.inl (by decide))
      intro o x
      unfold a_ntM
      by_cases y1 : o = 1500 + c 3
      · exact Or.inl (by rw [y1, show 1500 + c 3 = 1400 + (100 + c 3) by omega, a_own4 (by omega)]; decide)
      by_cases y2 : o = 1400 + c 3
      · exact Or.inl (by rw [y2, a_own4 (by omega)]; decide)
      by_cases y3 : o = 27
      · exact Or.inl (by rw [y3]; show 18 ∈ [13, 18]; decide)
      · rw [if_neg y1, if_neg y2, if_neg (fun q => y3 q.1), if_neg (fun q => y3 q.1)]
        exact d2.wM o x
    · exact (((w15.trans (b3.wS (by decide))).u2 (Or.inl (by show 18 ∈ [13, 18]; decide))).u2 (Or.inl (by show 18 ∈ [13, 18]; decide))).u2 (Or.inl (by decide))
    · refine ⟨0, by decide, q_u2_eq, ?_, fun i hi => absurd hi (Nat.not_lt_zero _)⟩
      rw [q_u2_ne (by omega), q_u2_ne (by omega), q_u2_ne (by omega), e421]
      rfl
    · refine ⟨by show c 3 + 1 ≤ 30; omega, q_u2_eq, ?_, fun t' ht' => ?_⟩
      · rw [q_u2_ne (by omega)]
        unfold a_ntM
        rw [if_neg (by omega), if_neg (by omega), if_pos ⟨rfl, rfl⟩]
        rfl
      · have ht' : t' < c 3 + 1 := ht'
        have mo : ∀ o x, ¬ (o = 5001 ∧ x = 36) → ¬ (o = 5048 ∧ x = c 3) → ¬ (o = 5047 ∧ x = c 3) → q_u2 (q_u2 (q_u2 m1 5047 (c 3) a1) 5048 (c 3) a2) 5001 36 (nI (c 3 + 1)) o x = m1 o x := fun o x x1 x2 x3 => by rw [q_u2_ne x1, q_u2_ne x2, q_u2_ne x3]
        by_cases zt : t' = c 3
        · subst zt
          refine ⟨?_, ?_, ?_, ?_, D.length, D60, ?_, ?_, ?_, fun i hi => ?_, a_wf_cong hwf fun i hi => ?_⟩
          · rw [q_u2_ne (by omega), q_u2_ne (by omega), q_u2_ne (by omega), q_u2_eq]
            unfold a_ntM
            rw [if_neg (by omega), if_pos rfl, if_pos rfl]
          · rw [q_u2_ne (by omega), q_u2_ne (by omega), q_u2_eq]
            unfold a_ntM
            rw [if_neg (by omega), if_pos rfl, if_neg (by decide), if_pos rfl]
          · rw [q_u2_ne (by omega), q_u2_ne (by omega), q_u2_eq]
            rw [a_ntc_ne (i := 2) (by decide) (by omega)]
            exact z1
          · rw [q_u2_ne (by omega), q_u2_eq]
            exact z2
          · rw [mo _ _ (by omega) (by omega) (by omega)]
            exact b2.2.2.1
          · unfold a_ntc
            rw [if_neg (by omega), if_pos rfl]
          · rw [q_u2_ne (by omega)]
            unfold a_ntM
            rw [if_pos rfl, d4 _ (Nat.lt_succ_self _), a_getD_app (by rw [List.length_map]; exact Nat.lt_succ_self _), if_pos (by rw [List.length_map])]
          · rw [q_u2_ne (by omega), mo _ _ (by omega) (by omega) (by omega), b2.2.2.2.1 i hi]
            unfold a_ntM
            rw [if_pos rfl, d4 i (by omega), a_getD_app (by rw [List.length_map]; omega), if_neg (by rw [List.length_map]; omega)]
            simp [List.getD, List.getElem?_map, List.getElem?_eq_getElem hi]
          · rw [mo _ _ (by omega) (by omega) (by omega), b2.2.2.2.1 i hi]
        · obtain ⟨o1, o2, o3, o4, k', o5, o6, o7, o8, o9, o10⟩ := old t' (by omega)
          have mold : ∀ o x, ownS o x = 18 → (o = 5050 → x < c 3) → (o = 5049 → x < 64 * c 3) → (o = 5047 → x < c 3) → (o = 5048 → x < c 3) → o ≠ 5001 → q_u2 (q_u2 (q_u2 m1 5047 (c 3) a1) 5048 (c 3) a2) 5001 36 (nI (c 3 + 1)) o x = m o x := fun o x y0 y1 y2 y3 y4 y5 => by
            rw [mo o x (fun q => y5 q.1) (fun q => by have := y4 q.1; omega) (fun q => by have := y3 q.1; omega), b3 o x (fun q => y5 q.1) (fun q => by have := y1 q.1; omega) (fun q => by have := y2 q.1; omega), hM15, q_u2_ne (fun q => y5 q.1), q_u2_ne (fun q => by have := y1 q.1; omega), q_u2_ne (fun q => y5 q.1), hM7, q_u2_ne (fun q => y5 q.1), q_u2_ne (fun q => y5 q.1)]
          have cold : ∀ o x, (1400 ≤ o ∧ o < 1600) → o ≠ 1400 + c 3 → o ≠ 1500 + c 3 → q_u2 (a_ntM c M1 a1 a2) 7 1 0 o x = M o x := fun o x y1 y2 y3 => by
            rw [q_u2_ne (by omega)]
            unfold a_ntM
            rw [if_neg y3, if_neg y2, if_neg (by omega), if_neg (by omega), d2 o x (by omega) (by omega) (by omega) (by omega) (by omega)]
          have m47 := mold 5047 t' rfl (by omega) (by omega) (by omega) (by omega) (by decide)
          have m48 := mold 5048 t' rfl (by omega) (by omega) (by omega) (by omega) (by decide)
          have m50 := mold 5050 t' rfl (by omega) (by omega) (by omega) (by omega) (by decide)
          have m49 : ∀ i, i < k' → _ := fun i hi => mold 5049 (64 * t' + i) rfl (by omega) (by omega) (by omega) (by omega) (by decide)
          refine ⟨?_, ?_, ?_, ?_, k', o5, ?_, ?_, ?_, fun i hi => ?_, a_wf_cong o10 m49⟩
          · rw [m47, cold _ _ (by omega) (by omega) (by omega)]; exact o1
          · rw [m48, cold _ _ (by omega) (by omega) (by omega)]; exact o2
          · rw [m47, a_ntc_ne (i := 2) (by decide) (by omega)]; exact o3
          · rw [m48]; exact o4
          · rw [m50]; exact o6
          · unfold a_ntc
            rw [if_neg (by omega), if_neg (by omega)]; exact o7
          · rw [cold _ _ (by omega) (by omega) (by omega)]; exact o8
          · rw [m49 i hi, cold _ _ (by omega) (by omega) (by omega)]; exact o9 i hi
  · -- none is made
    obtain ⟨M1, d1, d2⟩ := g2 zg
    have hr : a_X c n m1 (q_u2 M1 7 1 0) := by
      refine (h7.ag (m := m1) ?_).scr ?_
      · intro o x x1 x2 x3
        rw [b3 o x (fun q => x1 (by rw [q.1, q.2]; rfl)) (fun q => by have := x3 q.1; omega) (fun q => by have := x2 q.1; omega), hM15, q_u2_ne (fun q => x1 (by rw [q.1, q.2]; rfl)), q_u2_ne (fun q => by have := x3 q.1; omega), q_u2_ne (fun q => x1 (by rw [q.1, q.2]; rfl))]
      · intro o x
        by_cases y : o = 7 ∧ x = 1
        · obtain ⟨rfl, rfl⟩ := y
          exact Or.inr (Or.inr (by rw [q_u2_eq, q_u2_eq]))
        · rw [q_u2_ne y, q_u2_ne y]
          exact d2.wM o x
    unfold h_take
    rw [d1, Option.bind_some]
    dsimp only
    have w60 : (if (a_txt t nn).1 = true ∧ (a_txt t nn).2.1 = nn then 60 else (a_txt t nn).2.1) ≤ 60 := by split <;> omega
    rw [if_neg (a_neg1 w60), Option.bind_some]
    refine ⟨_, c, n, _, m1, rfl, ?_, hr⟩
    unfold b_X12_term_105
    by_cases zv : (a_txt t nn).1 = true ∧ (a_txt t nn).2.1 = nn
    · have k60 : 60 < k := by
        by_cases q : 60 < k
        · exact q
        · exact absurd ⟨zv, by omega⟩ zg
      rw [a_ifp zv, if_pos zv, if_neg (show ¬ nI k ≤ (60 : Int32) from nI_ge (a := 60) k60 (by omega)), if_neg (show ¬ (1 : Int32) = 0 by decide)]
      rfl
    · rw [a_ifn zv, if_neg zv, if_pos rfl, if_pos rfl]
      show (if nI k ≤ (60 : Int32) then some (-1 - m1 5001 43, m1) else if m1 5001 43 < (60 : Int32) then some (-1 - m1 5001 43, m1) else some (-61, m1)) = some (-1 - nI (a_txt t nn).2.1, m1)
      rw [e43]
      by_cases k60 : k ≤ 60
      · rw [if_pos (show nI k ≤ (60 : Int32) from nI_le (b := 60) k60 (by decide))]
      · rw [if_neg (show ¬ nI k ≤ (60 : Int32) from nI_ge (a := 60) (by omega) (by omega))]
        by_cases a60 : (a_txt t nn).2.1 < 60
        · rw [if_pos (show nI (a_txt t nn).2.1 < (60 : Int32) from nI_lt (b := 60) a60 (by decide))]
        · rw [if_neg (show ¬ nI (a_txt t nn).2.1 < (60 : Int32) from nI_nlt (b := 60) (by omega) (by omega)), show (a_txt t nn).2.1 = 60 by omega]
          rfl
