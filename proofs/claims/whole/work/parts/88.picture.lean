/-! picture: what is made, and the answers -/
theorem a_lt.up {x : Int32} {N : Nat} (h : a_lt x N) : a_lt x (N + 1) := by
  obtain ⟨j, h1, h2⟩ := h
  exact ⟨j, Nat.lt_succ_of_lt h1, h2⟩
theorem a_row.imp {N : Nat} {x y : Int32} {f g : Nat → Int32} {P Q : Int32 → Prop} (h : a_row N x y f g P) (hPQ : ∀ x, P x → Q x) : a_row N x y f g Q := by
  obtain ⟨k, h1, h2, h3, h4⟩ := h
  exact ⟨k, h1, h2, h3, fun i hi => ⟨(h4 i hi).1, hPQ _ (h4 i hi).2⟩⟩
/-- parts that don't count pictures -/
theorem a_R.cn {c c' n n' : Nat → Nat} {σ M : q_MM} {i : Nat} (hi : i ∉ [7, 8, 9]) (h0 : c' 0 = c 0) (h1 : c' 1 = c 1) (h2 : c' 2 = c 2 + 1) (h3 : c' 3 = c 3) (h10 : ∀ t, t < c 3 → c' (10 + t) = c (10 + t)) (n0 : n' 0 = n 0) (n1 : n' 1 = n 1) (h : a_R i c n σ M) : a_R i c' n' σ M := by
  match i, hi, h with
  | 0, _, h =>
    have h : a_B0 c n σ M := h
    show a_B0 c' n' σ M
    unfold a_B0 at h ⊢
    rw [n0]; exact h
  | 1, _, h =>
    have h : a_B1 c n σ M := h
    show a_B1 c' n' σ M
    unfold a_B1 at h ⊢
    rw [n1]; exact h
  | 2, _, h =>
    have h : a_B2 c n σ M := h
    show a_B2 c' n' σ M
    unfold a_B2 at h ⊢
    rw [h0, n0]; exact h
  | 3, _, _ => trivial
  | 4, _, h => exact h
  | 5, _, h =>
    have h : a_B5 c n σ M := h
    show a_B5 c' n' σ M
    unfold a_B5 at h ⊢
    rw [h1, n0]; exact h
  | 6, _, h => exact h
  | 7, hi, _ => exact absurd (by decide) hi
  | 8, hi, _ => exact absurd (by decide) hi
  | 9, hi, _ => exact absurd (by decide) hi
  | 10, _, h =>
    have h : a_B10 c n σ M := h
    show a_B10 c' n' σ M
    intro p hp k hk
    obtain ⟨e1, e2, e3⟩ := h p hp k hk
    exact ⟨e1, e2, fun q => e3 (by rw [n1, h2] at q; omega)⟩
  | 11, _, h => exact h
  | 12, _, h => exact h
  | 13, _, h => exact h
  | 14, _, h =>
    have h : a_B14 c n σ M := h
    show a_B14 c' n' σ M
    refine ⟨h.1.imp fun x hx => ?_, h.2⟩
    rw [h2]; exact hx.up
  | 15, _, h =>
    have h : a_B15 c n σ M := h
    show a_B15 c' n' σ M
    unfold a_B15 at h ⊢
    rw [n0]; exact h
  | 16, _, h =>
    have h : a_B16 c n σ M := h
    show a_B16 c' n' σ M
    refine ⟨h.1.imp fun x hx => ?_, h.2.1.imp fun x hx => ?_, h.2.2⟩
    · rw [h2]; exact hx.up
    · rw [h1]; exact hx
  | 17, _, h =>
    have h : a_B17 c n σ M := h
    show a_B17 c' n' σ M
    rcases h with ⟨e1, e2, k, e3, e4, e5⟩ | ⟨e1, e2, e3, e4, e5, e6⟩
    · exact Or.inl ⟨e1, e2, k, e3, e4, fun i hi => by rw [h2]; exact (e5 i hi).up⟩
    · exact Or.inr ⟨e1, e2, by rw [h1]; exact e3, e4, e5.imp fun x hx => (by rw [h2]; exact hx.up), e6⟩
  | 18, _, h =>
    have h : a_B18 c n σ M := h
    show a_B18 c' n' σ M
    refine ⟨by rw [h3]; exact h.1, by rw [h3]; exact h.2.1, by rw [h3]; exact h.2.2.1, fun t ht => ?_⟩
    rw [h3] at ht
    obtain ⟨e1, e2, e3, e4, k, e5, e6, e7, e8⟩ := h.2.2.2 t ht
    exact ⟨e1, e2, by rw [h2]; exact e3.up, e4, k, e5, e6, by rw [h10 t ht]; exact e7, e8⟩
  | k + 19, _, _ => trivial
def a_npc (c : Nat → Nat) : Nat → Nat := fun i => if i = 2 then c 2 + 1 else c i
def a_npn (c n : Nat → Nat) : Nat → Nat := fun i => if i = 100 + c 2 then 1 else n i
def a_npM (c : Nat → Nat) (M : q_MM) (a : Nat → Int32) : q_MM := fun o x => if o = 1300 + c 2 then a x else if o = 15 ∧ x = 2 then nI (c 2 + 1) else if o = 15 ∧ x = 0 then M 15 0 + 1 else M o x
/-- a picture is made -/
theorem a_X.np {c n : Nat → Nat} {σ σ' M : q_MM} {a : Nat → Int32} (h : a_X c n σ M) (hc : c 2 < 24) (a0 : a 0 = nI (c 2)) (hσ : ∀ o x, ¬ (x = c 2 ∧ 5029 ≤ o ∧ o ≤ 5042 ∧ o ≠ 5040) → o ≠ 5001 → σ' o x = σ o x) (hσ2 : ∀ x, ownS 5001 x ≠ 19 → x ≠ 18 → σ' 5001 x = σ 5001 x) (h18 : σ' 5001 18 = nI (c 2 + 1)) (s1 : a 1 = σ' 5029 (c 2)) (s2 : a 2 = σ' 5030 (c 2)) (s3 : a 3 = σ' 5031 (c 2)) (s4 : a 4 = σ' 5032 (c 2)) (s5 : a 5 = σ' 5033 (c 2)) (s6 : a 6 = σ' 5034 (c 2)) (s7 : a 7 = σ' 5035 (c 2)) (s8 : a 8 = -1 ∧ σ' 5036 (c 2) = -1) (s9 : a 9 = -1 ∧ σ' 5037 (c 2) = -1) (s10 : a 10 = 1000000 ∧ σ' 5038 (c 2) = 1000000) (s11 : a 11 = 400 ∧ σ' 5039 (c 2) = 400) (s12 : a 12 = 0) (s13 : a 13 = 0) (s41 : σ' 5041 (c 2) = -1) (s42 : σ' 5042 (c 2) = -1) (r1 : a_rg (a 1) 10 800) (r2 : a_rg (a 2) 10 800) (r3 : a_rg (a 3) 1 999) (r4 : a_lt (a 4) 8) (r5 : a_rg (a 5) 0 2999) (r6 : a_rg (a 6) 0 999) (r7 : a_lt (a 7) 8) : a_X (a_npc c) (a_npn c n) σ' (a_npM c M a) := by
  have h7 : a_B7 c n σ M := h 7
  have h8 : a_B8 c n σ M := h 8
  have h9 : a_B9 c n σ M := h 9
  have c2 : a_npc c 2 = c 2 + 1 := rfl
  have n1 : a_npn c n 1 = n 1 := by unfold a_npn; rw [if_neg (by omega)]
  have nn : ∀ p, p < c 2 → a_npn c n (100 + p) = n (100 + p) := fun p hp => by unfold a_npn; rw [if_neg (by omega)]
  have nw : a_npn c n (100 + c 2) = 1 := by unfold a_npn; rw [if_pos rfl]
  have Mo : ∀ o x, o ≠ 1300 + c 2 → o ≠ 15 → a_npM c M a o x = M o x := fun o x y1 y2 => by
    unfold a_npM
    rw [if_neg y1, if_neg (fun q => y2 q.1), if_neg (fun q => y2 q.1)]
  have Mn : ∀ x, a_npM c M a (1300 + c 2) x = a x := fun x => by unfold a_npM; rw [if_pos rfl]
  have So : ∀ o p, p < c 2 → o ≠ 5001 → σ' o p = σ o p := fun o p hp ho => hσ o p (fun q => by omega) ho
  intro i
  by_cases hi : i ∈ [7, 8, 9]
  · rcases List.mem_cons.mp hi with rfl | hi
    · -- the pictures' own
      refine ⟨by rw [c2]; omega, by rw [c2]; exact h18, ?_, fun p hp => ?_, fun p q hp hq e => ?_⟩
      · rw [c2]
        unfold a_npM
        rw [if_neg (by omega), if_pos ⟨rfl, rfl⟩]
      · rw [c2] at hp ⊢
        by_cases z : p = c 2
        · subst z
          simp only [Mn]
          refine ⟨⟨a0, s1, s2, s3, s4, s5, s6, s7, s8.1.trans s8.2.symm, s9.1.trans s9.2.symm, s10.1.trans s10.2.symm, s11.1.trans s11.2.symm⟩, ?_⟩
          rw [← s1, ← s2, ← s3, ← s4, ← s5, ← s6, ← s7, s8.2, s9.2, s10.2, s11.2]
          exact ⟨r1, r2, r3, r4, r5, r6, r7, Or.inl rfl, fun q => nI_neg1 (by omega) q.symm, Or.inl rfl, fun q => nI_neg1 (by omega) q.symm, by unfold a_rg; decide, by unfold a_rg; decide⟩
        · have hp2 : p < c 2 := by omega
          obtain ⟨e1, f1, f2, f3, f4, f5, f6, f7, f8, f9, f10, f11⟩ := h7.2.2.2.1 p hp2
          have hM : ∀ x, a_npM c M a (1300 + p) x = M (1300 + p) x := fun x => Mo _ _ (by omega) (by omega)
          simp only [hM]
          rw [So 5029 p hp2 (by decide), So 5030 p hp2 (by decide), So 5031 p hp2 (by decide), So 5032 p hp2 (by decide), So 5033 p hp2 (by decide), So 5034 p hp2 (by decide), So 5035 p hp2 (by decide), So 5036 p hp2 (by decide), So 5037 p hp2 (by decide), So 5038 p hp2 (by decide), So 5039 p hp2 (by decide)]
          refine ⟨e1, f1, f2, f3, f4, f5, f6, f7, ?_, f9, ?_, f11⟩
          · exact f8.elim Or.inl (fun q => Or.inr q.up)
          · exact f10.elim Or.inl (fun q => Or.inr q.up)
      · rw [c2] at hp hq
        by_cases z : p = c 2
        · rw [z, s8.2] at e
          exact absurd e.symm (nI_neg1 (by omega))
        · have hp2 : p < c 2 := by omega
          rw [So 5036 p hp2 (by decide)] at e
          by_cases z2 : q = c 2
          · exfalso
            rcases (h7.2.2.2.1 p hp2).2.2.2.2.2.2.2.2.1 with y | ⟨j, y1, y2⟩
            · rw [y] at e
              exact nI_neg1 (by omega) e.symm
            · rw [y2] at e
              have := nI_inj (by omega) (by omega) e
              omega
          · rw [So 5036 q (by omega) (by decide)]
            exact h7.2.2.2.2 p q hp2 (by omega) e
    · rcases List.mem_cons.mp hi with rfl | hi
      · -- where they are
        have f40 : ∀ p, σ' 5040 p = σ 5040 p := fun p => hσ 5040 p (fun q => q.2.2.2 rfl) (by decide)
        have new := h8.2.2.1 (c 2) (Nat.le_refl _) hc
        refine ⟨by rw [c2]; omega, fun p hp => ?_, fun p hp hp2 => ?_, fun p hp e1 e2 => ?_, fun p q hp hq hpq e1 e2 e3 => ?_⟩
        · rw [c2] at hp
          rw [Mo 61 p (by omega) (by omega), Mo 63 p (by omega) (by omega), f40 p]
          by_cases z : p = c 2
          · subst z
            rw [Mn 12, s12, s41, s42, new.2.2, if_neg (by decide)]
            exact ⟨new.1, new.2.1, rfl, ⟨0, by decide, rfl⟩, fun q => absurd q (by decide), fun _ => ⟨rfl, rfl⟩⟩
          · have hp2 : p < c 2 := by omega
            rw [Mo (1300 + p) 12 (by omega) (by omega), So 5041 p hp2 (by decide), So 5042 p hp2 (by decide)]
            exact h8.2.1 p hp2
        · rw [c2] at hp
          rw [Mo 61 p (by omega) (by omega), Mo 63 p (by omega) (by omega), f40 p]
          exact h8.2.2.1 p (by omega) hp2
        · rw [c2] at hp
          rw [f40 p]
          by_cases z : p = c 2
          · rw [z, nw] at e2
            exact absurd e2 (by decide)
          · rw [nn p (by omega)] at e2
            rw [n1] at e1
            exact h8.2.2.2.1 p (by omega) e1 e2
        · rw [c2] at hp hq
          rw [f40] at e1 e2
          have pz : p ≠ c 2 := fun z => by rw [z, new.2.2] at e1; exact absurd e1 (by decide)
          have qz : q ≠ c 2 := fun z => by rw [z, new.2.2] at e2; exact absurd e2 (by decide)
          have hp2 : p < c 2 := by omega
          have hq2 : q < c 2 := by omega
          rw [So 5041 p hp2 (by decide), So 5041 q hq2 (by decide)] at e3
          rw [So 5042 p hp2 (by decide), So 5042 q hq2 (by decide)]
          exact h8.2.2.2.2 p q hp2 hq2 hpq e1 e2 e3
      · -- their nights
        rw [List.mem_singleton.mp hi]
        have f43 : ∀ p, σ' 5043 p = σ 5043 p := fun p => hσ 5043 p (fun q => by omega) (by decide)
        refine ⟨by rw [c2]; omega, fun p hp => ?_, fun p hp hp2 => ?_, fun p hp e1 => ?_⟩
        · rw [c2] at hp
          rw [f43 p, n1]
          by_cases z : p = c 2
          · subst z
            rw [Mn 13, s13, h9.2.2.1 _ (Nat.le_refl _) hc]
            exact ⟨rfl, Int.le_refl _, by show (0 : Int) ≤ _; omega⟩
          · rw [Mo (1300 + p) 13 (by omega) (by omega)]
            exact h9.2.1 p (by omega)
        · rw [c2] at hp
          rw [f43 p]
          exact h9.2.2.1 p (by omega) hp2
        · rw [c2] at hp
          rw [f43 p]
          by_cases z : p = c 2
          · exact Or.inr (by rw [z]; exact h9.2.2.1 _ (Nat.le_refl _) hc)
          · rw [nn p (by omega)]
            rw [n1] at e1
            exact h9.2.2.2 p (by omega) e1
  · by_cases h19 : i = 19
    · subst h19; trivial
    refine a_R.cn (c := c) (n := n) hi rfl rfl rfl rfl (fun t ht => ?_) ?_ n1 ?_
    · unfold a_npc
      rw [if_neg (by omega)]
    · unfold a_npn
      rw [if_neg (by omega)]
    · refine a_cong i (fun o x e => ?_) (fun o x e => ?_) (h i)
      · by_cases y1 : o = 1300 + c 2
        · exfalso
          subst y1
          have : ownM (1300 + c 2) x = 7 ∨ ownM (1300 + c 2) x = 8 ∨ ownM (1300 + c 2) x = 9 ∨ ownM (1300 + c 2) x = 19 := by
            unfold ownM
            rw [if_neg (by omega), if_neg (by omega), if_neg (by omega), if_neg (by omega), if_neg (by omega), if_pos (by omega)]
            repeat' split
            all_goals omega
          rcases this with q | q | q | q
          · exact hi (by rw [← e, q]; decide)
          · exact hi (by rw [← e, q]; decide)
          · exact hi (by rw [← e, q]; decide)
          · exact h19 (e.symm.trans q)
        · by_cases y2 : o = 15
          · exfalso
            subst y2
            exact hi (by rw [← e]; show 7 ∈ [7, 8, 9]; decide)
          · exact Mo o x y1 y2
      · by_cases y1 : o = 5001
        · subst y1
          by_cases y3 : x = 18
          · exfalso
            subst y3
            exact hi (by rw [← e]; show 7 ∈ [7, 8, 9]; decide)
          · exact hσ2 x (fun q => h19 (e.symm.trans q)) y3
        · by_cases y2 : x = c 2 ∧ 5029 ≤ o ∧ o ≤ 5042 ∧ o ≠ 5040
          · exfalso
            have : ownS o x = 7 ∨ ownS o x = 8 := by
              unfold ownS
              rw [if_neg (by omega), if_neg (by omega), if_neg (by omega), if_neg (by omega), if_neg (by omega)]
              by_cases y3 : o ≤ 5039
              · rw [if_pos (by omega)]; exact Or.inl rfl
              · rw [if_neg (by omega), if_pos (by omega)]; exact Or.inr rfl
            rcases this with q | q
            · exact hi (by rw [← e, q]; decide)
            · exact hi (by rw [← e, q]; decide)
          · exact hσ o x y2 y1
noncomputable def h_picture (c : Nat → Nat) (M : q_MM) (a1 a2 a3 a4 a5 a6 a7 : Int32) : Option (Int32 × (Nat → Nat) × q_MM) :=
  (f_X11_within c M a1 10 800).bind fun r => if r = 0 then some (-1, c, M) else
  (f_X11_within c M a2 10 800).bind fun r => if r = 0 then some (-1, c, M) else
  (f_X11_within c M a3 1 999).bind fun r => if r = 0 then some (-1, c, M) else
  (f_X11_within c M a4 0 7).bind fun r => if r = 0 then some (-1, c, M) else
  (f_X11_within c M a5 0 2999).bind fun r => if r = 0 then some (-1, c, M) else
  (f_X11_within c M a6 0 999).bind fun r => if r = 0 then some (-1, c, M) else
  (f_X11_within c M a7 0 7).bind fun r => if r = 0 then some (-1, c, M) else
  if (24 : Int32) ≤ M 15 2 then some (-1, c, M) else
  some (nI (c 2), a_npc c, a_npM c M fun x => [nI (c 2), a1, a2, a3, a4, a5, a6, a7, -1, -1, 1000000, 400, 0, 0].getD x 0)
theorem a_rg_lt {x : Int32} (h : a_rg x 0 7) : a_lt x 8 := by
  obtain ⟨h1, h2⟩ := h
  obtain ⟨j, j1, j2⟩ := nI_of (fun q => absurd (Int32.lt_iff_toInt_lt.mp q) (by show ¬ x.toInt < 0; omega))
  refine ⟨j, ?_, j2⟩
  rw [j2, nI_toInt j1] at h2
  omega
theorem pub_picture {c n : Nat → Nat} {m M : q_MM} (h : a_X c n m M) (a1 a2 a3 a4 a5 a6 a7 : Int32) : a_Tc (h_picture c M a1 a2 a3 a4 a5 a6 a7) (f_X12_picture m a1 a2 a3 a4 a5 a6 a7) := by
  obtain ⟨M7, hM7⟩ : ∃ M7, M7 = q_u2 m 5001 0 0 := ⟨_, rfl⟩
  have h7 : a_X c n M7 M := by rw [hM7]; exact h.t0
  obtain ⟨c24, e18, e15, -⟩ := show a_B7 c n M7 M from h7 7
  have bad : b_X12_picture_101 a1 a2 a3 a4 a5 a6 a7 M7 = some (-1, M7) := rfl
  unfold f_X12_picture h_picture
  rw [w_let, ← hM7]
  by_cases z1 : a_rg a1 10 800
  rotate_left
  · rw [s_within0 z1 rfl rfl, s_inn z1 rfl rfl, Option.bind_some, Option.bind_some, if_pos rfl, if_pos rfl, bad]
    exact ⟨_, c, n, _, _, rfl, rfl, h7⟩
  rw [s_within1 z1 rfl rfl, s_in1 z1 rfl rfl, Option.bind_some, Option.bind_some, if_neg (show ¬ (1 : Int32) = 0 by decide), if_neg (show ¬ (1 : Int32) = 0 by decide)]
  by_cases z2 : a_rg a2 10 800
  rotate_left
  · rw [s_within0 z2 rfl rfl, s_inn z2 rfl rfl, Option.bind_some, Option.bind_some, if_pos rfl, if_pos rfl, bad]
    exact ⟨_, c, n, _, _, rfl, rfl, h7⟩
  rw [s_within1 z2 rfl rfl, s_in1 z2 rfl rfl, Option.bind_some, Option.bind_some, if_neg (show ¬ (1 : Int32) = 0 by decide), if_neg (show ¬ (1 : Int32) = 0 by decide)]
  by_cases z3 : a_rg a3 1 999
  rotate_left
  · rw [s_within0 z3 rfl rfl, s_inn z3 rfl rfl, Option.bind_some, Option.bind_some, if_pos rfl, if_pos rfl, bad]
    exact ⟨_, c, n, _, _, rfl, rfl, h7⟩
  rw [s_within1 z3 rfl rfl, s_in1 z3 rfl rfl, Option.bind_some, Option.bind_some, if_neg (show ¬ (1 : Int32) = 0 by decide), if_neg (show ¬ (1 : Int32) = 0 by decide)]
  by_cases z4 : a_rg a4 0 7
  rotate_left
  · rw [s_within0 z4 rfl rfl, s_inn z4 rfl rfl, Option.bind_some, Option.bind_some, if_pos rfl, if_pos rfl, bad]
    exact ⟨_, c, n, _, _, rfl, rfl, h7⟩
  rw [s_within1 z4 rfl rfl, s_in1 z4 rfl rfl, Option.bind_some, Option.bind_some, if_neg (show ¬ (1 : Int32) = 0 by decide), if_neg (show ¬ (1 : Int32) = 0 by decide)]
  by_cases z5 : a_rg a5 0 2999
  rotate_left
  · rw [s_within0 z5 rfl rfl, s_inn z5 rfl rfl, Option.bind_some, Option.bind_some, if_pos rfl, if_pos rfl, bad]
    exact ⟨_, c, n, _, _, rfl, rfl, h7⟩
  rw [s_within1 z5 rfl rfl, s_in1 z5 rfl rfl, Option.bind_some, Option.bind_some, if_neg (show ¬ (1 : Int32) = 0 by decide), if_neg (show ¬ (1 : Int32) = 0 by decide)]
  by_cases z6 : a_rg a6 0 999
  rotate_left
  · rw [s_within0 z6 rfl rfl, s_inn z6 rfl rfl, Option.bind_some, Option.bind_some, if_pos rfl, if_pos rfl, bad]
    exact ⟨_, c, n, _, _, rfl, rfl, h7⟩
  rw [s_within1 z6 rfl rfl, s_in1 z6 rfl rfl, Option.bind_some, Option.bind_some, if_neg (show ¬ (1 : Int32) = 0 by decide), if_neg (show ¬ (1 : Int32) = 0 by decide)]
  by_cases z7 : a_rg a7 0 7
  rotate_left
  · rw [s_within0 z7 rfl rfl, s_inn z7 rfl rfl, Option.bind_some, Option.bind_some, if_pos rfl, if_pos rfl, bad]
    exact ⟨_, c, n, _, _, rfl, rfl, h7⟩
  rw [s_within1 z7 rfl rfl, s_in1 z7 rfl rfl, Option.bind_some, Option.bind_some, if_neg (show ¬ (1 : Int32) = 0 by decide), if_neg (show ¬ (1 : Int32) = 0 by decide)]
  unfold b_X12_picture_102
  rw [if_neg (show ¬ (1 : Int32) = 0 by decide), e15, e18]
  by_cases z8 : c 2 = 24
  · rw [z8, if_pos (show nI 24 = (24 : Int32) from rfl), if_pos (show (24 : Int32) ≤ nI 24 by decide)]
    exact ⟨_, c, n, _, _, rfl, rfl, h7⟩
  have hc : c 2 < 24 := by omega
  rw [if_neg (show ¬ nI (c 2) = (24 : Int32) from fun q => z8 (nI_inj (j := 24) (by omega) (by decide) q)), if_neg (show ¬ (24 : Int32) ≤ nI (c 2) from nI_ge (b := 24) hc (by decide)), w_let, w_as hc (by decide), w_as hc (by decide), w_as hc (by decide), w_as hc (by decide), w_as hc (by decide), w_as hc (by decide), w_as hc (by decide), w_as hc (by decide), w_as hc (by decide), w_as hc (by decide), w_as hc (by decide), w_as hc (by decide), w_as hc (by decide), w_let]
  refine ⟨nI (c 2), a_npc c, a_npn c n, _, _, rfl, rfl, h7.np hc rfl (fun o x q q2 => ?_) (fun x q q2 => ?_) ?_ ?_ ?_ ?_ ?_ ?_ ?_ ?_ ⟨rfl, ?_⟩ ⟨rfl, ?_⟩ ⟨rfl, ?_⟩ ⟨rfl, ?_⟩ rfl rfl ?_ ?_ z1 z2 z3 (a_rg_lt z4) z5 z6 (a_rg_lt z7)⟩
  · rw [q_u2_ne (by omega), q_u2_ne (by omega), q_u2_ne (by omega), q_u2_ne (by omega), q_u2_ne (by omega), q_u2_ne (by omega), q_u2_ne (by omega), q_u2_ne (by omega), q_u2_ne (by omega), q_u2_ne (by omega), q_u2_ne (by omega), q_u2_ne (by omega), q_u2_ne (by omega), q_u2_ne (by omega)]
  · rw [q_u2_ne (by omega), q_u2_ne (by omega), q_u2_ne (by omega), q_u2_ne (by omega), q_u2_ne (by omega), q_u2_ne (by omega), q_u2_ne (by omega), q_u2_ne (by omega), q_u2_ne (by omega), q_u2_ne (by omega), q_u2_ne (by omega), q_u2_ne (by omega), q_u2_ne (by omega), q_u2_ne (by omega)]
  all_goals simp [q_u2_at, e18, nI_1]
