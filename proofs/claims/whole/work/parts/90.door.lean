/-! door: what is made, and the answers -/
theorem a_R.c0 {c c' n : Nat → Nat} {σ M : q_MM} {i : Nat} (hi : i ≠ 2) (hc : ∀ k, k ≠ 0 → c' k = c k) (h : a_R i c n σ M) : a_R i c' n σ M := by
  by_cases h18 : i = 18
  · subst h18
    have h : a_B18 c n σ M := h
    have h3 := hc 3 (by decide)
    show a_B18 c' n σ M
    refine ⟨by rw [h3]; exact h.1, by rw [h3]; exact h.2.1, by rw [h3]; exact h.2.2.1, fun t ht => ?_⟩
    rw [h3] at ht
    obtain ⟨e1, e2, e3, e4, k, e5, e6, e7, e8⟩ := h.2.2.2 t ht
    exact ⟨e1, e2, by rw [hc 2 (by decide)]; exact e3, e4, k, e5, e6, by rw [hc (10 + t) (by omega)]; exact e7, e8⟩
  have h1 := hc 1 (by decide)
  have h2 := hc 2 (by decide)
  match i, hi, h18, h with
  | 0, _, _, h => exact h
  | 1, _, _, h => exact h
  | 2, hi, _, _ => exact absurd rfl hi
  | 3, _, _, _ => trivial
  | 4, _, _, h => exact h
  | 5, _, _, h =>
    have h : a_B5 c n σ M := h
    show a_B5 c' n σ M
    unfold a_B5 at h ⊢
    rw [h1]; exact h
  | 6, _, _, h => exact h
  | 7, _, _, h =>
    have h : a_B7 c n σ M := h
    show a_B7 c' n σ M
    unfold a_B7 at h ⊢
    rw [h2]; exact h
  | 8, _, _, h =>
    have h : a_B8 c n σ M := h
    show a_B8 c' n σ M
    unfold a_B8 at h ⊢
    rw [h2, h1]; exact h
  | 9, _, _, h =>
    have h : a_B9 c n σ M := h
    show a_B9 c' n σ M
    unfold a_B9 at h ⊢
    rw [h2]; exact h
  | 10, _, _, h =>
    have h : a_B10 c n σ M := h
    show a_B10 c' n σ M
    unfold a_B10 at h ⊢
    rw [h2]; exact h
  | 11, _, _, h => exact h
  | 12, _, _, h => exact h
  | 13, _, _, h => exact h
  | 14, _, _, h =>
    have h : a_B14 c n σ M := h
    show a_B14 c' n σ M
    unfold a_B14 at h ⊢
    rw [h2]; exact h
  | 15, _, _, h => exact h
  | 16, _, _, h =>
    have h : a_B16 c n σ M := h
    show a_B16 c' n σ M
    unfold a_B16 at h ⊢
    rw [h2, h1]; exact h
  | 17, _, _, h =>
    have h : a_B17 c n σ M := h
    show a_B17 c' n σ M
    unfold a_B17 at h ⊢
    rw [h2, h1]; exact h
  | 18, _, h18, _ => exact absurd rfl h18
  | k + 19, _, _, _ => trivial
def a_ndc (c : Nat → Nat) : Nat → Nat := fun i => if i = 0 then c 0 + 1 else c i
def a_ndM (c : Nat → Nat) (M : q_MM) (a : Nat → Int32) : q_MM := fun o x => if o = 1000 + c 0 then a x else if o = 13 ∧ x = 2 then nI (c 0 + 1) else if o = 13 ∧ x = 0 then M 13 0 + 1 else M o x
noncomputable def h_door (c : Nat → Nat) (M : q_MM) (a1 a2 a3 a4 : Int32) : Option (Int32 × (Nat → Nat) × q_MM) :=
  (f_X2_hasRoom c M a1).bind fun r => if r = 0 then some (-1, c, M) else
  (f_X2_hasRoom c M a2).bind fun r => if r = 0 then some (-1, c, M) else
  if a1 = a2 then some (-1, c, M) else
  (f_X11_within c M a3 50 400).bind fun r => if r = 0 then some (-1, c, M) else
  (f_X11_within c M a4 100 600).bind fun r => if r = 0 then some (-1, c, M) else
  if (20 : Int32) ≤ M 13 2 then some (-1, c, M) else
  (f_X2_measure (a_ndc c) (a_ndM c M fun x => [a1, a2, a3, a4].getD x 0) 18 0 0 (-1)).bind fun r => some ((r 13 2) - 1, a_ndc c, r)
theorem pub_door {c n : Nat → Nat} {m M : q_MM} (h : a_X c n m M) (a1 a2 a3 a4 : Int32) : a_Tc (h_door c M a1 a2 a3 a4) (f_X12_door m a1 a2 a3 a4) := by
  obtain ⟨M7, hM7⟩ : ∃ M7, M7 = q_u2 m 5001 0 0 := ⟨_, rfl⟩
  have h7 : a_X c n M7 M := by rw [hM7]; exact h.t0
  have B2 : a_B2 c n M7 M := h7 2
  obtain ⟨c20, e4, e13, old, -⟩ := B2
  unfold f_X12_door h_door
  rw [w_let, ← hM7]
  by_cases z1 : a_lt a1 (n 0)
  rotate_left
  · rw [s_hasRoom0 h7 z1, h7.isRoom0 z1, Option.bind_some, Option.bind_some, if_pos rfl, if_pos rfl]
    exact ⟨_, c, n, _, _, rfl, rfl, h7⟩
  obtain ⟨j1, hj1, rfl⟩ := z1
  rw [s_hasRoom1 h7 hj1, h7.isRoom1 hj1, Option.bind_some, Option.bind_some, if_neg (show ¬ (1 : Int32) = 0 by decide), if_neg (show ¬ (1 : Int32) = 0 by decide)]
  by_cases z2 : a_lt a2 (n 0)
  rotate_left
  · rw [s_hasRoom0 h7 z2, h7.isRoom0 z2, Option.bind_some, Option.bind_some, if_pos rfl, if_pos rfl]
    exact ⟨_, c, n, _, _, rfl, rfl, h7⟩
  obtain ⟨j2, hj2, rfl⟩ := z2
  rw [s_hasRoom1 h7 hj2, h7.isRoom1 hj2, Option.bind_some, Option.bind_some, if_neg (show ¬ (1 : Int32) = 0 by decide), if_neg (show ¬ (1 : Int32) = 0 by decide)]
  by_cases z5 : nI j1 = nI j2
  · rw [if_pos z5, if_pos z5]
    exact ⟨_, c, n, _, _, rfl, rfl, h7⟩
  rw [if_neg z5, if_neg z5]
  by_cases z3 : a_rg a3 50 400
  rotate_left
  · rw [s_within0 z3 rfl rfl, s_inn z3 rfl rfl, Option.bind_some, Option.bind_some, if_pos rfl, if_pos rfl]
    exact ⟨_, c, n, _, _, rfl, rfl, h7⟩
  rw [s_within1 z3 rfl rfl, s_in1 z3 rfl rfl, Option.bind_some, Option.bind_some, if_neg (show ¬ (1 : Int32) = 0 by decide), if_neg (show ¬ (1 : Int32) = 0 by decide)]
  by_cases z4 : a_rg a4 100 600
  rotate_left
  · rw [s_within0 z4 rfl rfl, s_inn z4 rfl rfl, Option.bind_some, Option.bind_some, if_pos rfl, if_pos rfl]
    exact ⟨_, c, n, _, _, rfl, rfl, h7⟩
  rw [s_within1 z4 rfl rfl, s_in1 z4 rfl rfl, Option.bind_some, Option.bind_some, if_neg (show ¬ (1 : Int32) = 0 by decide), if_neg (show ¬ (1 : Int32) = 0 by decide), e13, e4]
  by_cases z8 : c 0 = 20
  · rw [z8, if_pos (show nI 20 = (20 : Int32) from rfl), if_pos (show (20 : Int32) ≤ nI 20 by decide)]
    exact ⟨_, c, n, _, _, rfl, rfl, h7⟩
  have hc : c 0 < 20 := by omega
  rw [if_neg (show ¬ nI (c 0) = (20 : Int32) from fun q => z8 (nI_inj (j := 20) (by omega) (by decide) q)), if_neg (show ¬ (20 : Int32) ≤ nI (c 0) from nI_ge (b := 20) hc (by decide)), w_as hc (by decide), q_u2_ne (by omega), e4, w_as hc (by decide), q_u2_ne (by omega), q_u2_ne (by omega), e4, w_as hc (by decide), q_u2_ne (by omega), q_u2_ne (by omega), q_u2_ne (by omega), e4, w_as hc (by decide), w_let, q_u2_eq, q_u2_ne (by omega), q_u2_ne (by omega), q_u2_ne (by omega), q_u2_ne (by omega), e4, nI_1, nI_pred]
  obtain ⟨σ', hσ'⟩ : ∃ σ', σ' = q_u2 (q_u2 (q_u2 (q_u2 (q_u2 M7 5015 (c 0) (nI j1)) 5016 (c 0) (nI j2)) 5017 (c 0) a3) 5018 (c 0) a4) 5001 4 (nI (c 0 + 1)) := ⟨_, rfl⟩
  rw [← hσ']
  have So : ∀ o x, ¬ (x = c 0 ∧ 5015 ≤ o ∧ o ≤ 5018) → ¬ (o = 5001 ∧ x = 4) → σ' o x = M7 o x := fun o x y1 y2 => by
    rw [hσ', q_u2_ne y2, q_u2_ne (by omega), q_u2_ne (by omega), q_u2_ne (by omega), q_u2_ne (by omega)]
  have n1 : σ' 5015 (c 0) = nI j1 := by rw [hσ', q_u2_ne (by omega), q_u2_ne (by omega), q_u2_ne (by omega), q_u2_ne (by omega), q_u2_eq]
  have n2 : σ' 5016 (c 0) = nI j2 := by rw [hσ', q_u2_ne (by omega), q_u2_ne (by omega), q_u2_ne (by omega), q_u2_eq]
  have n3 : σ' 5017 (c 0) = a3 := by rw [hσ', q_u2_ne (by omega), q_u2_ne (by omega), q_u2_eq]
  have n4 : σ' 5018 (c 0) = a4 := by rw [hσ', q_u2_ne (by omega), q_u2_eq]
  have n5 : σ' 5001 4 = nI (c 0 + 1) := by rw [hσ', q_u2_eq]
  obtain ⟨M2, hM2⟩ : ∃ M2, M2 = a_ndM c M fun x => [nI j1, nI j2, a3, a4].getD x 0 := ⟨_, rfl⟩
  rw [← hM2]
  have Mn : ∀ x, M2 (1000 + c 0) x = [nI j1, nI j2, a3, a4].getD x 0 := fun x => by rw [hM2]; unfold a_ndM; rw [if_pos rfl]
  have Mo : ∀ o x, o ≠ 1000 + c 0 → o ≠ 13 → M2 o x = M o x := fun o x y1 y2 => by
    rw [hM2]
    unfold a_ndM
    rw [if_neg y1, if_neg (fun q => y2 q.1), if_neg (fun q => y2 q.1)]
  have M13 : M2 13 2 = nI (c 0 + 1) := by
    rw [hM2]
    unfold a_ndM
    rw [if_neg (by omega), if_pos ⟨rfl, rfl⟩]
  have hC := h7.C
  have hC' : a_C (a_ndc c) := ⟨by show c 0 + 1 ≤ 20; omega, hC.2⟩
  have h0 := h7.Ms
  have N10 := h0.N10
  have hMs : a_Ms (a_ndc c) M2 (n 0) (a_A σ') (a_Bd σ') := by
    refine ⟨hC', M13, by rw [Mo 2 10 (by omega) (by decide)]; exact h0.R, N10, fun i hi => ?_⟩
    have hi : i < c 0 + 1 := hi
    unfold a_A a_Bd
    by_cases z : i = c 0
    · subst z
      rw [n1, n2, nI_clamp (by omega), nI_clamp (by omega), Mn 0, Mn 1]
      exact ⟨rfl, rfl, hj1, hj2⟩
    · have hi2 : i < c 0 := by omega
      rw [So 5015 i (by omega) (by omega), So 5016 i (by omega) (by omega), Mo _ _ (by omega) (by omega), Mo _ _ (by omega) (by omega)]
      exact h0.AB i hi2
  obtain ⟨M', f1, f2, f3⟩ := s_measure (x1 := 18) (g := 0) (P := fun _ => True) (x3 := 0) (x4 := -1) (Or.inl rfl) (by decide) hMs (fun M' hf i hi => s_goes0 hC' (by rw [hf 13 (by decide)]; exact M13) hi)
  rw [show (0 : Int32) = nI 0 from rfl, f1, Option.bind_some, f2 13 (by decide), M13, nI_pred]
  refine ⟨nI (c 0), a_ndc c, n, M', σ', rfl, rfl, fun i => ?_⟩
  by_cases i2 : i = 2
  · subst i2
    refine ⟨hC'.1, n5, by rw [f2 13 (by decide)]; exact M13, fun d hd => ?_, fun r hr => ⟨_, f3 r (by omega), a_rds_dst (fun i hi => (hMs.AB i hi).2.2) (by omega) (by omega) (by omega) hr⟩⟩
    have hd : d < c 0 + 1 := hd
    rw [f2 (1000 + d) (by omega)]
    by_cases z : d = c 0
    · subst z
      simp only [Mn]
      rw [n1, n2, n3, n4]
      exact ⟨rfl, rfl, rfl, rfl, ⟨j1, hj1, rfl⟩, ⟨j2, hj2, rfl⟩, z5⟩
    · have hd2 : d < c 0 := by omega
      rw [Mo _ _ (by omega) (by omega), Mo _ _ (by omega) (by omega), Mo _ _ (by omega) (by omega), Mo _ _ (by omega) (by omega), So 5015 d (by omega) (by omega), So 5016 d (by omega) (by omega), So 5017 d (by omega) (by omega), So 5018 d (by omega) (by omega)]
      exact old d hd2
  · by_cases h19 : i = 19
    · subst h19; trivial
    refine a_R.c0 (c := c) i2 (fun k hk => by unfold a_ndc; rw [if_neg hk]) (a_cong i (fun o x e => ?_) (fun o x e => ?_) (h7 i))
    · by_cases y1 : o = 18
      · exfalso
        subst y1
        exact i2 e.symm
      by_cases y2 : o = 13
      · exfalso
        subst y2
        exact i2 e.symm
      by_cases y3 : o = 1000 + c 0
      · exfalso
        have : ownM o x = 2 := by
          unfold ownM
          rw [if_neg (by omega), if_pos (by omega)]
        exact i2 (e.symm.trans this)
      · rw [f2 o y1]
        exact Mo o x y3 y2
    · refine So o x (fun q => ?_) (fun q => ?_)
      · have : ownS o x = 2 := by
          unfold ownS
          rw [if_neg (by omega), if_pos (by omega)]
        exact i2 (e.symm.trans this)
      · obtain ⟨rfl, rfl⟩ := q
        exact i2 e.symm
