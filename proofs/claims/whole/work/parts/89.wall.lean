/-! wall: what is made, and the answers -/
theorem a_R.cw {c c' n : Nat → Nat} {σ M : q_MM} {i : Nat} (hi : i ≠ 5) (h0 : c' 0 = c 0) (h1 : c' 1 = c 1 + 1) (h2 : c' 2 = c 2) (h3 : c' 3 = c 3) (h10 : ∀ t, t < c 3 → c' (10 + t) = c (10 + t)) (h : a_R i c n σ M) : a_R i c' n σ M := by
  match i, hi, h with
  | 0, _, h => exact h
  | 1, _, h => exact h
  | 2, _, h =>
    have h : a_B2 c n σ M := h
    show a_B2 c' n σ M
    unfold a_B2 at h ⊢
    rw [h0]; exact h
  | 3, _, _ => trivial
  | 4, _, h => exact h
  | 5, hi, _ => exact absurd rfl hi
  | 6, _, h => exact h
  | 7, _, h =>
    have h : a_B7 c n σ M := h
    show a_B7 c' n σ M
    unfold a_B7 at h ⊢
    rw [h2]; exact h
  | 8, _, h =>
    have h : a_B8 c n σ M := h
    show a_B8 c' n σ M
    obtain ⟨e1, e2, e3, e4, e5⟩ := h
    refine ⟨by rw [h2]; exact e1, fun p hp => ?_, by rw [h2]; exact e3, by rw [h2]; exact e4, by rw [h2]; exact e5⟩
    rw [h2] at hp
    obtain ⟨f1, f2, f3, f4, f5, f6⟩ := e2 p hp
    exact ⟨f1, f2, f3, f4, fun q => ⟨by rw [h1]; exact (f5 q).1.up, (f5 q).2⟩, f6⟩
  | 9, _, h =>
    have h : a_B9 c n σ M := h
    show a_B9 c' n σ M
    unfold a_B9 at h ⊢
    rw [h2]; exact h
  | 10, _, h =>
    have h : a_B10 c n σ M := h
    show a_B10 c' n σ M
    unfold a_B10 at h ⊢
    rw [h2]; exact h
  | 11, _, h => exact h
  | 12, _, h => exact h
  | 13, _, h => exact h
  | 14, _, h =>
    have h : a_B14 c n σ M := h
    show a_B14 c' n σ M
    unfold a_B14 at h ⊢
    rw [h2]; exact h
  | 15, _, h => exact h
  | 16, _, h =>
    have h : a_B16 c n σ M := h
    show a_B16 c' n σ M
    refine ⟨by rw [h2]; exact h.1, h.2.1.imp fun x hx => ?_, h.2.2⟩
    rw [h1]; exact hx.up
  | 17, _, h =>
    have h : a_B17 c n σ M := h
    show a_B17 c' n σ M
    rcases h with e | ⟨e1, e2, e3, e4⟩
    · exact Or.inl (by rw [h2]; exact e)
    · exact Or.inr ⟨e1, e2, by rw [h1]; exact e3.up, by rw [h2]; exact e4⟩
  | 18, _, h =>
    have h : a_B18 c n σ M := h
    show a_B18 c' n σ M
    refine ⟨by rw [h3]; exact h.1, by rw [h3]; exact h.2.1, by rw [h3]; exact h.2.2.1, fun t ht => ?_⟩
    rw [h3] at ht
    obtain ⟨e1, e2, e3, e4, k, e5, e6, e7, e8⟩ := h.2.2.2 t ht
    exact ⟨e1, e2, by rw [h2]; exact e3, e4, k, e5, e6, by rw [h10 t ht]; exact e7, e8⟩
  | k + 19, _, _ => trivial
def a_nwc (c : Nat → Nat) : Nat → Nat := fun i => if i = 1 then c 1 + 1 else c i
def a_nwM (c : Nat → Nat) (M : q_MM) (a : Nat → Int32) : q_MM := fun o x => if o = 1100 + c 1 then a x else if o = 1200 + c 1 then 0 else if o = 14 ∧ x = 2 then nI (c 1 + 1) else if o = 14 ∧ x = 0 then M 14 0 + 1 else M o x
theorem a_seen1 : ∀ j, j < 10 → ∀ r, r < 10 → a_bit ((1 : Int32) <<< (nI j &&& 31)) r = (j == r) := by decide +kernel
/-- a wall is made -/
theorem a_X.nw {c n : Nat → Nat} {σ σ' M : q_MM} {a : Nat → Int32} {j : Nat} (h : a_X c n σ M) (hc : c 1 < 16) (a0 : a 0 = nI (c 1)) (hσ : ∀ o x, ¬ (x = c 1 ∧ 5020 ≤ o ∧ o ≤ 5026 ∧ o ≠ 5024) → o ≠ 5001 → σ' o x = σ o x) (hσ2 : ∀ x, ownS 5001 x ≠ 19 → x ≠ 9 → σ' 5001 x = σ 5001 x) (h9 : σ' 5001 9 = nI (c 1 + 1)) (s1 : a 1 = σ' 5020 (c 1)) (s2 : a 2 = σ' 5021 (c 1)) (s3 : a 3 = σ' 5022 (c 1)) (s4 : a 4 = σ' 5023 (c 1)) (s6 : a 6 = 1 ∧ σ' 5025 (c 1) = 1) (s7 : a 7 = 0 ∧ σ' 5026 (c 1) = 0) (hj : j < n 0) (r1 : a 1 = nI j) (r2 : a_rg (a 2) 50 3000) (r3 : a_rg (a 3) 100 900) (r4 : a_rg (a 4) 1 9999) (r8 : a 8 = (1 : Int32) <<< (nI j &&& 31)) : a_X (a_nwc c) n σ' (a_nwM c M a) := by
  have h5 : a_B5 c n σ M := h 5
  have n10 : n 0 ≤ 10 := (h 0).1
  obtain ⟨e1, e2, e3, e4, e5, e6, e7⟩ := h5
  have c1 : a_nwc c 1 = c 1 + 1 := rfl
  have Mo : ∀ o x, o ≠ 1100 + c 1 → o ≠ 1200 + c 1 → o ≠ 14 → a_nwM c M a o x = M o x := fun o x y1 y2 y3 => by
    unfold a_nwM
    rw [if_neg y1, if_neg y2, if_neg (fun q => y3 q.1), if_neg (fun q => y3 q.1)]
  have Mn : ∀ x, a_nwM c M a (1100 + c 1) x = a x := fun x => by unfold a_nwM; rw [if_pos rfl]
  have So : ∀ o w, w < c 1 → o ≠ 5001 → σ' o w = σ o w := fun o p hp ho => hσ o p (fun q => by omega) ho
  have f24 : ∀ k, σ' 5024 k = σ 5024 k := fun k => hσ 5024 k (fun q => q.2.2.2 rfl) (by decide)
  have f86 : ∀ k, σ' 5086 k = σ 5086 k := fun k => hσ 5086 k (fun q => by omega) (by decide)
  have new := e7 (c 1) (Nat.le_refl _) hc
  intro i
  by_cases hi : i = 5
  · subst hi
    refine ⟨by rw [c1]; omega, by rw [c1]; exact h9, ?_, fun w hw => ?_, fun w hw k hk => ?_, fun w hw r hr => ?_, fun w hw hw2 => ?_⟩
    · rw [c1]
      unfold a_nwM
      rw [if_neg (by omega), if_neg (by omega), if_pos ⟨rfl, rfl⟩]
    · rw [c1] at hw
      by_cases z : w = c 1
      · subst z
        simp only [Mn]
        refine ⟨⟨a0, s1, s2, s3, s4, s6.1.trans s6.2.symm, s7.1.trans s7.2.symm⟩, ?_⟩
        rw [← s1, ← s2, ← s3, ← s4, s6.2, s7.2]
        exact ⟨⟨j, hj, r1⟩, r2, r3, r4, by unfold a_rg; decide, by unfold a_rg; decide⟩
      · have hw2 : w < c 1 := by omega
        have hM : ∀ x, a_nwM c M a (1100 + w) x = M (1100 + w) x := fun x => Mo _ _ (by omega) (by omega) (by omega)
        simp only [hM]
        rw [So 5020 w hw2 (by decide), So 5021 w hw2 (by decide), So 5022 w hw2 (by decide), So 5023 w hw2 (by decide), So 5025 w hw2 (by decide), So 5026 w hw2 (by decide)]
        exact e4 w hw2
    · rw [c1] at hw
      rw [f24]
      by_cases z : w = c 1
      · subst z
        unfold a_nwM
        rw [if_neg (by omega), if_pos rfl, new.1 k hk]
        exact ⟨rfl, by unfold a_rg; decide⟩
      · rw [Mo _ _ (by omega) (by omega) (by omega)]
        exact e5 w (by omega) k hk
    · rw [c1] at hw
      rw [f86]
      by_cases z : w = c 1
      · subst z
        rw [Mn 8, ← s1, r1, r8, new.2 r hr, a_seen1 j (by omega) r hr]
        refine ⟨Or.inl rfl, ?_⟩
        by_cases y : j = r
        · subst y; simp
        · have : ¬ nI j = nI r := fun q => y (nI_inj (by omega) (by omega) q)
          rw [show (j == r) = false from beq_eq_false_iff_ne.mpr y, show (nI j == nI r) = false from beq_eq_false_iff_ne.mpr this]
          rfl
      · rw [Mo _ _ (by omega) (by omega) (by omega), So 5020 w (by omega) (by decide)]
        exact e6 w (by omega) r hr
    · rw [c1] at hw
      obtain ⟨g1, g2⟩ := e7 w (by omega) hw2
      exact ⟨fun k hk => by rw [f24]; exact g1 k hk, fun r hr => by rw [f86]; exact g2 r hr⟩
  · by_cases h19 : i = 19
    · subst h19; trivial
    refine a_R.cw (c := c) hi rfl rfl rfl rfl (fun t ht => ?_) ?_
    · unfold a_nwc
      rw [if_neg (by omega)]
    · refine a_cong i (fun o x e => ?_) (fun o x e => ?_) (h i)
      · by_cases y1 : 1100 ≤ o ∧ o < 1300
        · exfalso
          have : ownM o x = 5 := by
            unfold ownM
            rw [if_neg (by omega), if_neg (by omega), if_pos (by omega)]
          exact hi (e.symm.trans this)
        · by_cases y2 : o = 14
          · exfalso
            subst y2
            exact hi e.symm
          · exact Mo o x (by omega) (by omega) y2
      · by_cases y1 : o = 5001
        · subst y1
          by_cases y3 : x = 9
          · exfalso
            subst y3
            exact hi e.symm
          · exact hσ2 x (fun q => h19 (e.symm.trans q)) y3
        · by_cases y2 : x = c 1 ∧ 5020 ≤ o ∧ o ≤ 5026 ∧ o ≠ 5024
          · exfalso
            have : ownS o x = 5 := by
              unfold ownS
              rw [if_neg (by omega), if_neg (by omega), if_neg (by omega), if_pos (by omega)]
            exact hi (e.symm.trans this)
          · exact hσ o x y2 y1
noncomputable def h_wall (c : Nat → Nat) (M : q_MM) (a1 a2 a3 a4 : Int32) : Option (Int32 × (Nat → Nat) × q_MM) :=
  (f_X2_hasRoom c M a1).bind fun r => if r = 0 then some (-1, c, M) else
  (f_X11_within c M a2 50 3000).bind fun r => if r = 0 then some (-1, c, M) else
  (f_X11_within c M a3 100 900).bind fun r => if r = 0 then some (-1, c, M) else
  (f_X11_within c M a4 1 9999).bind fun r => if r = 0 then some (-1, c, M) else
  if (16 : Int32) ≤ M 14 2 then some (-1, c, M) else
  some (nI (c 1), a_nwc c, a_nwM c M fun x => [nI (c 1), a1, a2, a3, a4, 0, 1, 0, (1 : Int32) <<< (a1 &&& 31)].getD x 0)
theorem pub_wall {c n : Nat → Nat} {m M : q_MM} (h : a_X c n m M) (a1 a2 a3 a4 : Int32) : a_Tc (h_wall c M a1 a2 a3 a4) (f_X12_wall m a1 a2 a3 a4) := by
  obtain ⟨M7, hM7⟩ : ∃ M7, M7 = q_u2 m 5001 0 0 := ⟨_, rfl⟩
  have h7 : a_X c n M7 M := by rw [hM7]; exact h.t0
  obtain ⟨c16, e9, e14, -⟩ := show a_B5 c n M7 M from h7 5
  unfold f_X12_wall h_wall
  rw [w_let, ← hM7]
  by_cases z1 : a_lt a1 (n 0)
  rotate_left
  · rw [s_hasRoom0 h7 z1, h7.isRoom0 z1, Option.bind_some, Option.bind_some, if_pos rfl, if_pos rfl]
    exact ⟨_, c, n, _, _, rfl, rfl, h7⟩
  obtain ⟨j, hj, rfl⟩ := z1
  rw [s_hasRoom1 h7 hj, h7.isRoom1 hj, Option.bind_some, Option.bind_some, if_neg (show ¬ (1 : Int32) = 0 by decide), if_neg (show ¬ (1 : Int32) = 0 by decide)]
  by_cases z2 : a_rg a2 50 3000
  rotate_left
  · rw [s_within0 z2 rfl rfl, s_inn z2 rfl rfl, Option.bind_some, Option.bind_some, if_pos rfl, if_pos rfl]
    exact ⟨_, c, n, _, _, rfl, rfl, h7⟩
  rw [s_within1 z2 rfl rfl, s_in1 z2 rfl rfl, Option.bind_some, Option.bind_some, if_neg (show ¬ (1 : Int32) = 0 by decide), if_neg (show ¬ (1 : Int32) = 0 by decide)]
  by_cases z3 : a_rg a3 100 900
  rotate_left
  · rw [s_within0 z3 rfl rfl, s_inn z3 rfl rfl, Option.bind_some, Option.bind_some, if_pos rfl, if_pos rfl]
    exact ⟨_, c, n, _, _, rfl, rfl, h7⟩
  rw [s_within1 z3 rfl rfl, s_in1 z3 rfl rfl, Option.bind_some, Option.bind_some, if_neg (show ¬ (1 : Int32) = 0 by decide), if_neg (show ¬ (1 : Int32) = 0 by decide)]
  by_cases z4 : a_rg a4 1 9999
  rotate_left
  · rw [s_within0 z4 rfl rfl, s_inn z4 rfl rfl, Option.bind_some, Option.bind_some, if_pos rfl, if_pos rfl]
    exact ⟨_, c, n, _, _, rfl, rfl, h7⟩
  rw [s_within1 z4 rfl rfl, s_in1 z4 rfl rfl, Option.bind_some, Option.bind_some, if_neg (show ¬ (1 : Int32) = 0 by decide), if_neg (show ¬ (1 : Int32) = 0 by decide), e14, e9]
  by_cases z8 : c 1 = 16
  · rw [z8, if_pos (show nI 16 = (16 : Int32) from rfl), if_pos (show (16 : Int32) ≤ nI 16 by decide)]
    exact ⟨_, c, n, _, _, rfl, rfl, h7⟩
  have hc : c 1 < 16 := by omega
  rw [if_neg (show ¬ nI (c 1) = (16 : Int32) from fun q => z8 (nI_inj (j := 16) (by omega) (by decide) q)), if_neg (show ¬ (16 : Int32) ≤ nI (c 1) from nI_ge (b := 16) hc (by decide)), w_as hc (by decide), q_u2_ne (by omega), e9, w_as hc (by decide), q_u2_ne (by omega), q_u2_ne (by omega), e9, w_as hc (by decide), q_u2_ne (by omega), q_u2_ne (by omega), q_u2_ne (by omega), e9, w_as hc (by decide), q_u2_ne (by omega), q_u2_ne (by omega), q_u2_ne (by omega), q_u2_ne (by omega), e9, w_as hc (by decide), q_u2_ne (by omega), q_u2_ne (by omega), q_u2_ne (by omega), q_u2_ne (by omega), q_u2_ne (by omega), e9, w_as hc (by decide), w_let, q_u2_eq, q_u2_ne (by omega), q_u2_ne (by omega), q_u2_ne (by omega), q_u2_ne (by omega), q_u2_ne (by omega), q_u2_ne (by omega), e9, nI_1, nI_pred]
  refine ⟨nI (c 1), a_nwc c, n, _, _, rfl, rfl, h7.nw hc rfl (fun o x q q2 => ?_) (fun x q q2 => ?_) ?_ ?_ ?_ ?_ ?_ ⟨rfl, ?_⟩ ⟨rfl, ?_⟩ hj rfl z2 z3 z4 rfl⟩
  · rw [q_u2_ne (by omega), q_u2_ne (by omega), q_u2_ne (by omega), q_u2_ne (by omega), q_u2_ne (by omega), q_u2_ne (by omega), q_u2_ne (by omega)]
  · rw [q_u2_ne (by omega), q_u2_ne (by omega), q_u2_ne (by omega), q_u2_ne (by omega), q_u2_ne (by omega), q_u2_ne (by omega), q_u2_ne (by omega)]
  all_goals simp [q_u2_at]
