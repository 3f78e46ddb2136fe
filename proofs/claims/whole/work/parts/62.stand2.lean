/-! stand: whom one looks at -/
theorem a_lf_as {W X : Nat → Int32} {w x : Int32} {i : Nat} (hi : W i ≠ w) (hi2 : i < 100) : ∀ N, N ≤ 100 → a_lf W X w x (nI i) N = a_lf W X w x (-1) N
  | 0, _ => rfl
  | N + 1, hN => by
    have ih := a_lf_as (X := X) (x := x) hi hi2 N (by omega)
    rw [a_lf_s, a_lf_s, ih]
    by_cases z : W N = w
    · have h1 : nI N ≠ -1 := nI_neg1 (by omega)
      have h2 : nI N ≠ nI i := fun e => hi (by rw [← nI_inj (by omega) (by omega) e]; exact z)
      simp [h1, h2]
    · simp [z]
theorem a_rt_as {W X : Nat → Int32} {w x : Int32} {i : Nat} (hi : W i ≠ w) (hi2 : i < 100) : ∀ N, N ≤ 100 → a_rt W X w x (nI i) N = a_rt W X w x (-1) N
  | 0, _ => rfl
  | N + 1, hN => by
    have ih := a_rt_as (X := X) (x := x) hi hi2 N (by omega)
    rw [a_rt_s, a_rt_s, ih]
    by_cases z : W N = w
    · have h1 : nI N ≠ -1 := nI_neg1 (by omega)
      have h2 : nI N ≠ nI i := fun e => hi (by rw [← nI_inj (by omega) (by omega) e]; exact z)
      simp [h1, h2]
    · simp [z]
def a_Pt (m : q_MM) (p w : Nat) (x : Int32) : q_MM := q_u2 (q_u2 (q_u2 m 5040 p 1) 5041 p (nI w)) 5042 p x
theorem a_Pt_t8 {m : q_MM} {p w : Nat} {x : Int32} : a_t8 (a_Pt m p w x) m := fun o k h1 h2 => by
  unfold a_Pt
  rw [q_u2_ne, q_u2_ne, q_u2_ne]
  · rintro ⟨rfl, rfl⟩
    exact h1 rfl
  · rintro ⟨rfl, rfl⟩
    exact h1 rfl
  · rintro ⟨rfl, rfl⟩
    exact h1 rfl
theorem a_Pt_sm {m m' : q_MM} {p w : Nat} {x : Int32} (h : a_sm m m') : a_sm (a_Pt m p w x) (a_Pt m' p w x) := fun o k h1 h2 h3 h4 => by
  unfold a_Pt
  by_cases z1 : o = 5042 ∧ k = p
  · obtain ⟨rfl, rfl⟩ := z1
    rw [q_u2_eq, q_u2_eq]
  · rw [q_u2_ne z1, q_u2_ne z1]
    by_cases z2 : o = 5041 ∧ k = p
    · obtain ⟨rfl, rfl⟩ := z2
      rw [q_u2_eq, q_u2_eq]
    · rw [q_u2_ne z2, q_u2_ne z2]
      by_cases z3 : o = 5040 ∧ k = p
      · obtain ⟨rfl, rfl⟩ := z3
        rw [q_u2_eq, q_u2_eq]
      · rw [q_u2_ne z3, q_u2_ne z3]
        exact h o k h1 h2 h3 h4
/-- stand, midway -/
def a_Sd (c n : Nat → Nat) (m0 : q_MM) (p w : Nat) (x : Int32) (A : Nat → Int32) (i : Nat) (m M : q_MM) : Prop := a_X c n (a_Pt m p w x) M ∧ a_H c m M 62 64 ∧ (∀ o, o = 5032 ∨ o = 5059 ∨ o = 5040 ∨ o = 5041 ∨ o = 5042 → m o = m0 o) ∧ ∃ (e : Nat) (s : Nat → Nat), e ≤ i ∧ m 5001 1 = nI e ∧ M 6 1 = nI e ∧ ∀ j, j < e → s j < c 2 ∧ m 5012 j = nI (s j) ∧ M 56 j = nI (s j) ∧ M 12 j = A (s j)
theorem s_stand_loop {c n : Nat → Nat} {m0 : q_MM} {p w : Nat} {x : Int32} {A : Nat → Int32} {L R : Int32} (hp : p < c 2) (hw : w < c 1) (h0 : m0 5040 p = 0) (hV : a_V c m0) (hL : a_left c m0 (nI w) x (-1) = L) (hR : a_right c m0 (nI w) x (-1) = R) (hA : ∀ q, A q = a_sum m0 q L R) : ∀ (d i nf nf' : Nat) (m M : q_MM), i + d = c 2 → d < nf → d < nf' → a_Sd c n m0 p w x A i m M → ∃ m' M', b_X11_stand_93 c nf (1100 + w) x (nI i) M = some (M' 6 1, M') ∧ b_X12_stand_73 nf' (nI p) (nI w) x L R (nI i) m = some (a_Pt m' p w x 5001 1, a_Pt m' p w x) ∧ a_X c n (a_Pt m' p w x) M' ∧ a_Pt m' p w x 5001 1 = M' 6 1
  | d, i, 0, _, _, _, _, h, _, _ => absurd h (Nat.not_lt_zero _)
  | d, i, _ + 1, 0, _, _, _, _, h, _ => absurd h (Nat.not_lt_zero _)
  | 0, i, nf + 1, nf' + 1, m, M, hi, _, _, h => by
    obtain ⟨hX, hH, hfr, e, s, he, e1, e2, e3⟩ := h
    have hC2 := hX.C.2.2.1
    have hN : m 5001 18 = nI (c 2) := (hX.tY a_Pt_t8).N
    have : i = c 2 := by omega
    subst this
    refine ⟨m, M, ?_, ?_, hX, ?_⟩
    · rw [b_X11_stand_93, s_size rfl, hX.K.2.2, Option.bind_some, if_pos (nI_le (by omega) (by omega))]
    · rw [b_X12_stand_73, hN, if_pos (nI_le (by omega) (by omega)), s_puts (by omega), Option.bind_some]
      rfl
    · unfold a_Pt
      rw [q_u2_ne (by omega), q_u2_ne (by omega), q_u2_ne (by omega), e1, e2]
  | d + 1, i, nf + 1, nf' + 1, m, M, hi, hf, hf', h => by
    have hfu := q_fu_le
    obtain ⟨hX, hH, hfr, e, s, he, e1, e2, e3⟩ := id h
    have hC := hX.C
    have hC1 := hC.2.1
    have hC2 := hC.2.2.1
    have hic : i < c 2 := by omega
    have y := hX.tY a_Pt_t8
    have hN : m 5001 18 = nI (c 2) := y.N
    have r40 := hfr 5040 (by decide)
    have r41 := hfr 5041 (by decide)
    have r42 := hfr 5042 (by decide)
    have hVm : a_V c m := fun q hq hs => by
      rw [r40] at hs
      rw [r41, r42]
      exact hV q hq hs
    have skip : a_Sd c n m0 p w x A (i + 1) m M := ⟨hX, hH, hfr, e, s, by omega, e1, e2, e3⟩
    rw [b_X11_stand_93, s_size rfl, hX.K.2.2, Option.bind_some, if_neg (nI_ge (by omega) (by omega)), s_getP hX hic, Option.bind_some, w_ck (t_pic hC hic), s_stateOf hX hic, Option.bind_some]
    rw [b_X12_stand_73, hN, if_neg (nI_ge (by omega) (by omega))]
    unfold b_X11_stand_184 b_X12_stand_200
    rw [nI_1]
    by_cases zp : i = p
    · subst zp
      have : a_Pt m i w x 5040 i = 1 := by
        unfold a_Pt
        rw [q_u2_ne (by omega), q_u2_ne (by omega), q_u2_eq]
      rw [this, if_neg (by decide), if_pos rfl]
      exact s_stand_loop hp hw h0 hV hL hR hA d (i + 1) nf nf' m M (by omega) (by omega) (by omega) skip
    · have : a_Pt m p w x 5040 i = m 5040 i := by
        unfold a_Pt
        rw [q_u2_ne (by omega), q_u2_ne (by omega), q_u2_ne (by omega)]
      rw [this, if_neg (fun q => zp (nI_inj (by omega) (by omega) q)), w_ld (by omega) (by decide)]
      by_cases z : m 5040 i = 0
      · obtain ⟨r, m1, M1, t1, t2, t3, t4, t5⟩ := s_unfit hX a_Pt_t8 (o := 22) (a := 62) (b := 64) (by decide) hH hVm hic hw x
        have hX1 : a_X c n (a_Pt m1 p w x) M1 := hX.sx t4 (a_Pt_sm t5)
        have f1 : ∀ o, o = 5032 ∨ o = 5059 ∨ o = 5040 ∨ o = 5041 ∨ o = 5042 ∨ o = 5012 → m1 o = m o := fun o ho => funext fun k => t5 o k (by omega) (by omega) (by omega) (by omega)
        have hH1 : a_H c m1 M1 62 64 := by
          have g : a_H c m M1 62 64 := hH.fr (t4 62 (by decide) (by decide) (by decide)) (t4 64 (by decide) (by decide) (by decide))
          have eW : a_W m1 = a_W m := by
            funext q
            unfold a_W
            rw [f1 5040 (by decide), f1 5041 (by decide)]
          unfold a_H at *
          rw [eW, f1 5042 (by decide)]
          exact g
        have fr1 : ∀ o, o = 5032 ∨ o = 5059 ∨ o = 5040 ∨ o = 5041 ∨ o = 5042 → m1 o = m0 o := fun o ho => (f1 o (by omega)).trans (hfr o ho)
        have c1 : m1 5001 1 = nI e := (t5 5001 1 (by decide) (by decide) (by decide) (by omega)).trans e1
        have c2' : M1 6 1 = nI e := by rw [t4 6 (by decide) (by decide) (by decide)]; exact e2
        have e3' : ∀ j, j < e → s j < c 2 ∧ m1 5012 j = nI (s j) ∧ M1 56 j = nI (s j) ∧ M1 12 j = A (s j) := fun j hj => by
          rw [f1 5012 (by decide), t4 56 (by decide) (by decide) (by decide), t4 12 (by decide) (by decide) (by decide)]
          exact e3 j hj
        rw [if_pos z, if_pos z, t1, t2, Option.bind_some, Option.bind_some]
        dsimp only
        by_cases z2 : r = 0
        · have y1 := hX1.tY a_Pt_t8
          have h11 : a_B11 c n m1 M1 := a_cong 11 (fun _ _ _ => rfl) (fun o k ho => a_Pt_t8 o k (by omega) (by omega)) (hX1 11)
          have eW0 : a_W m1 = a_W m0 := by
            funext q
            unfold a_W
            rw [fr1 5040 (by decide), fr1 5041 (by decide)]
          have hnw : a_W m0 i ≠ nI w := fun q => by
            have := ((a_W_w (show w < 100 by omega)).mp q).1
            rw [← r40, z] at this
            exact absurd this (by decide)
          have eL : a_left c m1 (nI w) x (nI i) = L := by
            unfold a_left
            rw [eW0, fr1 5042 (by decide), a_lf_as hnw (by omega) _ (by omega)]
            exact hL
          have eR : a_right c m1 (nI w) x (nI i) = R := by
            unfold a_right
            rw [eW0, fr1 5042 (by decide), a_rt_as hnw (by omega) _ (by omega)]
            exact hR
          have hLr : a_ltm L (c 2) := hL ▸ a_left_rg
          have hRr : a_ltm R (c 2) := hR ▸ a_right_rg
          have eA : ∀ q, a_sum m1 q L R = A q := fun q => by
            rw [hA]
            unfold a_sum a_lk
            rw [fr1 5032 (by decide), fr1 5059 (by decide)]
          have he24 : e < 24 := by omega
          have hsum : ∀ m', (∀ o, o ≠ 5012 → m' o = m1 o) → ∀ q, q < c 2 → f_X12_sumOf m' (nI q) L R = some (A q) := fun m' hm' q hq => by
            have y' : a_Y c n m' M1 := ⟨fun k hk => a_cong k (fun _ _ _ => rfl) (fun o j ho => by
              by_cases e5 : o = 5012
              · subst e5
                have ho : (12 : Nat) = k := ho
                omega
              · rw [hm' o e5]) (y1.1 k hk), y1.2⟩
            rw [s_sumOf y' hq hLr hRr, ← eA q]
            unfold a_sum a_lk
            rw [hm' 5032 (by decide), hm' 5059 (by decide)]
          obtain ⟨m2, M2, s2, i1, i2, i3, i4, i5, i6⟩ := s_ins2 (c := c) (m0 := m1) (M0 := q_u2 (q_u2 M1 56 e (nI i)) 6 1 (nI (e + 1))) (v := i) (e := e) (S := A i) (L := L) (R := R) (x1 := nI p) (x2 := nI w) (x3 := x) (A := A) (s := s) (k73 := b_X12_stand_73 nf') he24 hic hC2 (fun j hj => (e3 j hj).1) rfl hsum c1 e q_fu q_fu m1 (q_u2 (q_u2 M1 56 e (nI i)) 6 1 (nI (e + 1))) (Nat.le_refl e) (by omega) (by omega) (fun _ _ => rfl) (fun _ _ _ => rfl) (fun j hj => by
            rw [q_u2_ne (by omega), q_u2_ne (by omega), q_u2_ne (by omega), q_u2_ne (by omega)]
            exact (e3' j hj).2) (fun j h1 h2 => by omega)
          have n1 : ∀ o k, o ≠ 56 → o ≠ 12 → ¬ (o = 6 ∧ k = 1) → M2 o k = M1 o k := fun o k h1 h2 h3 => by rw [i4 o h1 h2, q_u2_ne h3, q_u2_ne (fun q => h1 q.1)]
          have g2 : ∀ o, o = 5032 ∨ o = 5059 ∨ o = 5040 ∨ o = 5041 ∨ o = 5042 → m2 o = m1 o := fun o ho => funext fun k => i3 o k (by omega) (by omega)
          have nP : ∀ o k, o ≠ 5012 → ¬ (o = 5001 ∧ k = 1) → a_Pt m2 p w x o k = a_Pt m1 p w x o k := fun o k h1 h2 => by
            unfold a_Pt
            by_cases q1 : o = 5042 ∧ k = p
            · obtain ⟨rfl, rfl⟩ := q1
              rw [q_u2_eq, q_u2_eq]
            · rw [q_u2_ne q1, q_u2_ne q1]
              by_cases q2 : o = 5041 ∧ k = p
              · obtain ⟨rfl, rfl⟩ := q2
                rw [q_u2_eq, q_u2_eq]
              · rw [q_u2_ne q2, q_u2_ne q2]
                by_cases q3 : o = 5040 ∧ k = p
                · obtain ⟨rfl, rfl⟩ := q3
                  rw [q_u2_eq, q_u2_eq]
                · rw [q_u2_ne q3, q_u2_ne q3]
                  exact i3 o k h1 h2
          have P12 : ∀ k, a_Pt m2 p w x 5012 k = m2 5012 k := fun k => by
            unfold a_Pt
            rw [q_u2_ne (by omega), q_u2_ne (by omega), q_u2_ne (by omega)]
          have P1 : a_Pt m2 p w x 5001 1 = nI (e + 1) := by
            unfold a_Pt
            rw [q_u2_ne (by omega), q_u2_ne (by omega), q_u2_ne (by omega), i5]
          have M61 : M2 6 1 = nI (e + 1) := by rw [i4 6 (by decide) (by decide), q_u2_eq]
          have hX2 : a_X c n (a_Pt m2 p w x) M2 := by
            refine hX1.wr [12] (fun o k => ?_) (fun o k => ?_) (a_one ⟨e + 1, by omega, M61, P1, fun j hj => ⟨?_, trivial⟩⟩)
            · by_cases q1 : o = 56
              · subst q1
                exact Or.inl (List.mem_singleton.mpr rfl)
              · by_cases q2 : o = 12
                · subst q2
                  exact Or.inr (Or.inl rfl)
                · by_cases q3 : o = 6 ∧ k = 1
                  · obtain ⟨rfl, rfl⟩ := q3
                    exact Or.inl (List.mem_singleton.mpr rfl)
                  · exact Or.inr (Or.inr (n1 o k q1 q2 q3))
            · by_cases q1 : o = 5012
              · subst q1
                exact Or.inl (List.mem_singleton.mpr rfl)
              · by_cases q3 : o = 5001 ∧ k = 1
                · obtain ⟨rfl, rfl⟩ := q3
                  exact Or.inl (List.mem_singleton.mpr rfl)
                · exact Or.inr (Or.inr (nP o k q1 q3))
            · rw [P12, (i6 j hj).2.1, (i6 j hj).2.2.1]
          have hH2 : a_H c m2 M2 62 64 := by
            have g : a_H c m1 M2 62 64 := hH1.fr (funext fun k => n1 62 k (by decide) (by decide) (by omega)) (funext fun k => n1 64 k (by decide) (by decide) (by omega))
            have eW : a_W m2 = a_W m1 := by
              funext q
              unfold a_W
              rw [g2 5040 (by decide), g2 5041 (by decide)]
            unfold a_H at *
            rw [eW, g2 5042 (by decide)]
            exact g
          rw [if_pos z2, if_pos z2, s_likedAt y1 h11 (o := 22) (a := 62) (b := 64) (by decide) hH1 hic hw, eL, eR, eA, Option.bind_some, s_sumOf y1 hic hLr hRr, eA, Option.bind_some, w_let, c1, i2]
          unfold f_X11_insert
          rw [w_let, s_add (r := 56) (N := 32) (k := e) (by decide) c2' (by omega), Option.bind_some, q_u2_eq, w_let, c2', show (1 : Int32) = nI 1 from rfl, pk_sub (by omega), Nat.add_sub_cancel, i1, Option.bind_some]
          exact s_stand_loop hp hw h0 hV hL hR hA d (i + 1) nf nf' m2 M2 (by omega) (by omega) (by omega) ⟨hX2, hH2, fun o ho => (g2 o ho).trans (fr1 o ho), e + 1, s2, by omega, i5, M61, i6⟩
        · rw [if_neg z2, if_neg z2]
          exact s_stand_loop hp hw h0 hV hL hR hA d (i + 1) nf nf' m1 M1 (by omega) (by omega) (by omega) ⟨hX1, hH1, fr1, e, s, by omega, c1, c2', e3'⟩
      · rw [if_neg z, if_neg z]
        exact s_stand_loop hp hw h0 hV hL hR hA d (i + 1) nf nf' m M (by omega) (by omega) (by omega) skip
