/-! nights: the call -/
def a_o83 (m : q_MM) (R : Nat → Int32) : q_MM := fun o k => if o = 5083 then R k else m o k
theorem a_o83_ne {m : q_MM} {R : Nat → Int32} {o : Nat} (h : o ≠ 5083) : a_o83 m R o = m o := funext fun _ => if_neg h
theorem a_o83_eq {m : q_MM} {R : Nat → Int32} : a_o83 m R 5083 = R := funext fun _ => if_pos rfl
/-- all sets looked at, below t -/
def a_lk3 (k t : Nat) (m0 m M : q_MM) : Prop := ∀ S, S < t → M 42 S = m 5083 S ∧ M 43 S = a_tc m0 S k ∧ ∀ j, bt (M 42 S) j = true → j < k ∧ S.testBit j = false
theorem s_look_out {c n : Nat → Nat} {m0 m1 M0 : q_MM} {k : Nat} {a1 a2 : Int32} (hX : a_X c n m0 M0) (hk : m0 5001 66 = nI k) (hk8 : k ≤ 8) (u2 : ∀ o, o ≠ 5080 → o ≠ 5081 → o ≠ 5082 → m1 o = m0 o) (u3 : ∀ p, p < c 2 → m1 5080 p = m0 5040 p ∧ m1 5081 p = m0 5041 p ∧ m1 5082 p = m0 5042 p) : ∀ (d t nf nf' : Nat) (m M : q_MM), t + d = 2 ^ k → d < nf → d < nf' → (∀ o j, ¬ ((o = 5040 ∨ o = 5041 ∨ o = 5042) ∧ j < c 2) → o ≠ 5083 → m o j = m1 o j) → (∀ o, o ≠ 42 → o ≠ 43 → o ≠ 62 → o ≠ 64 → M o = M0 o) → a_lk3 k t m0 m M → ∃ m' M', b_X3_lookAtSets_7 c nf (nI (2 ^ k - 1)) (nI t) M = some M' ∧ b_X12_nights_47 nf' a1 a2 (nI (2 ^ k - 1)) (nI t) m = (f_X12_restores m').bind (fun r39 => b_X12_nights_171 q_fu a1 a2 (nI (2 ^ k - 1)) (nI (2 ^ k - 1)) r39) ∧ (∀ o j, ¬ ((o = 5040 ∨ o = 5041 ∨ o = 5042) ∧ j < c 2) → o ≠ 5083 → m' o j = m1 o j) ∧ (∀ o, o ≠ 42 → o ≠ 43 → o ≠ 62 → o ≠ 64 → M' o = M0 o) ∧ a_lk3 k (2 ^ k) m0 m' M'
  | d, t, 0, _, _, _, _, h, _, _, _, _ => absurd h (Nat.not_lt_zero _)
  | d, t, _ + 1, 0, _, _, _, _, h, _, _, _ => absurd h (Nat.not_lt_zero _)
  | 0, t, nf + 1, nf' + 1, m, M, hi, _, _, h1, h2, h3 => by
    have p2 := a_p8 hk8
    have hp : 0 < 2 ^ k := Nat.two_pow_pos k
    have : t = 2 ^ k := by omega
    subst this
    refine ⟨m, M, ?_, ?_, h1, h2, h3⟩
    · rw [b_X3_lookAtSets_7, if_pos (nI_lt (by omega) (by omega))]
    · rw [b_X12_nights_47, if_pos (nI_lt (by omega) (by omega))]
  | d + 1, t, nf + 1, nf' + 1, m, M, hi, hf, hf', h1, h2, h3 => by
    have hfu := q_fu_le
    have p2 := a_p8 hk8
    have hp : 0 < 2 ^ k := Nat.two_pow_pos k
    have ht : t < 2 ^ k := by omega
    have hC := hX.C
    have hC1 := hC.2.1
    have hC2 := hC.2.2.1
    have h8 : a_B8 c n m0 M0 := hX 8
    obtain ⟨q39, q40, q41, hmv⟩ := a_mv hX hk hk8
    obtain ⟨⟨_, _, _, _, _⟩, ⟨k2, s1, s2, s3, s4⟩, ⟨k3, t1, t2, t3, t4⟩, hd⟩ := (hX 16 : a_B16 c n m0 M0)
    have e2k : k2 = k := nI_inj (by omega) (by omega) (s3.symm.trans hk)
    have e3k : k3 = k := nI_inj (by omega) (by omega) (t3.symm.trans hk)
    subst e2k
    subst e3k
    -- the memories of this trial
    obtain ⟨σ, hσ⟩ : ∃ σ, σ = a_o83 m0 (m 5083) := ⟨_, rfl⟩
    obtain ⟨m1', hm1'⟩ : ∃ z, z = a_o83 m1 (m 5083) := ⟨_, rfl⟩
    have σne : ∀ o, o ≠ 5083 → σ o = m0 o := fun o ho => by rw [hσ, a_o83_ne ho]
    have hXM : a_X c n m0 M := hX.scr (fun o j => by
      by_cases e : o = 42 ∨ o = 43 ∨ o = 62 ∨ o = 64
      · rcases e with rfl | rfl | rfl | rfl <;> exact Or.inr (Or.inl rfl)
      · rw [h2 o (by omega) (by omega) (by omega) (by omega)]
        exact Or.inr (Or.inr rfl))
    have hXσ : a_X c n σ M := hXM.ag (fun o j a1 _ _ => by rw [σne o (by rintro rfl; exact a1 rfl)])
    have hmσ : ∀ o, o ≠ 5080 → o ≠ 5081 → o ≠ 5082 → m1' o = σ o := fun o b1 b2 b3 => by
      rw [hm1', hσ]
      by_cases e : o = 5083
      · subst e
        rw [a_o83_eq, a_o83_eq]
      · rw [a_o83_ne e, a_o83_ne e, u2 o b1 b2 b3]
    have hN : m 5001 18 = nI (c 2) := by rw [h1 5001 18 (by omega) (by decide), u2 5001 (by decide) (by decide) (by decide)]; exact hX.Y.N
    obtain ⟨mr, v1, v2, v3⟩ := s_restores (c := c) hN hC2
    obtain ⟨M1, b1, b2, b3, b4⟩ := s_become (c := c) (M := M) (o1 := 21) (a1 := 61) (b1 := 63) (o2 := 22) (a2 := 62) (b2 := 64) (by decide) (by decide) (by decide)
    have hst : ∀ p, p < c 2 → mr 5040 p = m0 5040 p ∧ mr 5041 p = m0 5041 p ∧ mr 5042 p = m0 5042 p := fun p hp => by
      have g := v3 p hp
      have g2 := u3 p hp
      rw [h1 5080 p (by omega) (by decide), h1 5081 p (by omega) (by decide), h1 5082 p (by omega) (by decide)] at g
      exact ⟨g.1.trans g2.1, g.2.1.trans g2.2.1, g.2.2.trans g2.2.2⟩
    have hH1 : a_H c mr M1 62 64 := by
      refine ⟨fun p hp => ?_, fun p hp hp2 => ?_⟩
      · have g := hXM.H.1 p hp
        have g2 := hst p hp
        rw [(b3 p (by omega)).1, (b3 p (by omega)).2, g.1, g.2, g2.2.2]
        refine ⟨?_, rfl⟩
        unfold a_W
        rw [g2.1, g2.2.1]
      · rw [(b3 p hp2).1]
        exact ((hXM 8 : a_B8 c n m0 M).2.2.1 p hp hp2).1
    have tl0 : a_tl c σ m1' M (nI t) 0 mr M1 := ⟨fun o j ho => by
      rw [v2 o j ho, hm1']
      by_cases e : o = 5083
      · subst e
        rw [a_o83_eq]
      · rw [a_o83_ne e]
        exact h1 o j ho e, b2, hH1, fun p hp hp2 => by rw [(b3 p hp2).2]; exact ((hXM 8 : a_B8 c n m0 M).2.2.1 p hp hp2).2.1, fun j p _ hj => absurd hj (Nat.not_lt_zero _), fun p hp _ => by
      rw [σne 5040 (by decide), σne 5041 (by decide), σne 5042 (by decide)]
      exact hst p hp⟩
    have hkσ : σ 5001 66 = nI k3 := by rw [σne 5001 (by decide)]; exact hk
    obtain ⟨m2, M2, w1, w2, x1, x2, x3, x4, x5, x6⟩ := s_try_loop hXσ hmσ hkσ hk8 k3 0 q_fu q_fu mr M1 (by omega) (by omega) (by omega) tl0
    have hcase : ∀ p, p < c 2 → (∃ j, j < k3 ∧ m2 5040 p = 1 ∧ m2 5041 p = m0 5078 j ∧ m2 5042 p = m0 5079 j) ∨ (m2 5040 p = m0 5040 p ∧ m2 5041 p = m0 5041 p ∧ m2 5042 p = m0 5042 p) := fun p hp => by
      rw [σne 5077 (by decide), σne 5078 (by decide), σne 5079 (by decide)] at x5
      rw [σne 5077 (by decide), σne 5040 (by decide), σne 5041 (by decide), σne 5042 (by decide)] at x6
      by_cases z : ∃ j, j < k3 ∧ bt (nI t) j = true ∧ m0 5077 j = nI p
      · obtain ⟨j, hj, hb, e⟩ := z
        exact Or.inl ⟨j, hj, x5 j p hp hj hb e⟩
      · exact Or.inr (x6 p hp (fun j hj hb e => z ⟨j, hj, hb, e⟩))
    have tf2 : a_tf c n σ m2 M2 := by
      refine ⟨hXσ.scr (fun o j => ?_), fun o j q1 q2 => ?_, x3, fun p hp hs => ?_, fun p hp => ?_⟩
      · by_cases e : o = 62 ∨ o = 64
        · rcases e with rfl | rfl <;> exact Or.inr (Or.inl rfl)
        · rw [x2 o (by omega) (by omega)]
          exact Or.inr (Or.inr rfl)
      · have n1 : ¬ ((o = 5040 ∨ o = 5041 ∨ o = 5042) ∧ j < c 2) := by
          rintro ⟨rfl | rfl | rfl, -⟩ <;> exact q1 rfl
        rw [x1 o j n1, hmσ o (by rintro rfl; exact q2 rfl) (by rintro rfl; exact q2 rfl) (by rintro rfl; exact q2 rfl)]
      · rcases hcase p hp with ⟨j, hj, -, g2, g3⟩ | ⟨g1, g2, g3⟩
        · rw [g2, g3]
          exact ⟨(s4 j hj).2, (t4 j hj).2⟩
        · rw [g2, g3]
          exact hX.V p hp (g1 ▸ hs)
      · have g := u3 p hp
        rw [x1 5080 p (by omega), x1 5081 p (by omega), hm1', a_o83_ne (by decide), a_o83_ne (by decide), σne 5040 (by decide), σne 5041 (by decide)]
        exact ⟨g.1, g.2.1⟩
    obtain ⟨m3, hm3⟩ : ∃ z, z = q_u2 m2 5083 t 0 := ⟨_, rfl⟩
    obtain ⟨M3, hM3⟩ : ∃ z, z = q_u2 (q_u2 M2 42 t 0) 43 t 0 := ⟨_, rfl⟩
    have f3 : ∀ o j, ¬ (o = 5083 ∧ j = t) → m3 o j = m2 o j := fun o j ho => by rw [hm3, q_u2_ne ho]
    have F3 : ∀ o j, ¬ ((o = 42 ∨ o = 43) ∧ j = t) → M3 o j = M2 o j := fun o j ho => by rw [hM3, q_u2_ne (by omega), q_u2_ne (by omega)]
    have tf3 : a_tf c n σ m3 M3 := tf2.fr (fun o q1 q2 => funext fun j => F3 o j (by omega)) (fun o q1 => funext fun j => f3 o j (by omega))
    obtain ⟨m4, M4, y1, y2, y3, y4, y5, y6, y7⟩ := s_look_in (k7 := b_X3_lookAtSets_7 c nf) (k47 := b_X12_nights_47 nf') (x1 := nI (2 ^ k3 - 1)) (a1 := a1) (a2 := a2) (x3 := nI (2 ^ k3 - 1)) hkσ hk8 ht k3 0 q_fu q_fu m3 M3 (by omega) (by omega) (by omega) tf3 (by rw [hM3, hm3, q_u2_ne (by omega), q_u2_eq, q_u2_eq]) (by rw [hM3, q_u2_eq]; rfl) (fun j hj => by
      rw [hM3, q_u2_ne (by omega), q_u2_eq, b_0] at hj
      cases hj)
    rw [show nI 0 = 0 from rfl] at y1 y2
    rw [b_X3_lookAtSets_7, if_neg (nI_nlt (by omega) (by omega)), b_X12_nights_47, if_neg (nI_nlt (by omega) (by omega))]
    unfold f_X3_tryDone f_X12_does
    rw [b1, Option.bind_some, show (0 : Int32) = nI 0 from rfl, w1, Option.bind_some, w_as (by omega) (by decide), w_as (by omega) (by decide), v1, Option.bind_some, w2, Option.bind_some, w_as (by omega) (by decide), show nI 0 = 0 from rfl, ← hM3, ← hm3, y1, y2]
    refine s_look_out hX hk hk8 u2 u3 d (t + 1) nf nf' m4 M4 (by omega) (by omega) (by omega) (fun o j ho ho2 => ?_) (fun o q1 q2 q3 q4 => ?_) (fun S hS => ?_)
    · rw [y4 o j (by omega), f3 o j (by omega), x1 o j ho, hm1', a_o83_ne ho2]
    · funext j
      rw [y3 o j (by omega), F3 o j (by omega), x2 o q3 q4, h2 o q1 q2 q3 q4]
    · by_cases e : S = t
      · subst e
        exact ⟨y5, by rw [y6]; exact a_tc_cong σne k3, y7⟩
      · have g := h3 S (by omega)
        have e42 : M4 42 S = M 42 S := by rw [y3 42 S (by omega), F3 42 S (by omega), x2 42 (by decide) (by decide)]
        have e43 : M4 43 S = M 43 S := by rw [y3 43 S (by omega), F3 43 S (by omega), x2 43 (by decide) (by decide)]
        have e83 : m4 5083 S = m 5083 S := by rw [y4 5083 S (by omega), f3 5083 S (by omega), x1 5083 S (by omega), hm1', a_o83_eq]
        rw [e42, e43, e83]
        exact g
theorem s_plM_top {k : Nat} {can tch : Nat → Int32} {m M : q_MM} {g r : Int32} {nf : Nat} (hw : a_nw k can tch m M) : ∃ m', b_X12_nights_171 (nf + 1) g r (nI (2 ^ k - 1)) (nI (2 ^ k - 1)) m = b_X12_nights_171 nf g r (nI (2 ^ k - 1)) (nI (2 ^ k - 1) + (-1)) m' ∧ a_g84 m m' ∧ m' 5084 (2 ^ k - 1) = 0 := by
  have hfu := q_fu_le
  have hk := hw.1
  have hc := hw.2.1
  have p2 := a_p8 hk
  have hp : 0 < 2 ^ k := Nat.two_pow_pos k
  have hf : 2 ^ k - 1 < 2 ^ k := by omega
  obtain ⟨m1, y1, y2, y3⟩ := s_reM (m0 := q_u2 m 5084 (2 ^ k - 1) 0) hk hc hf (by rw [q_u2_ne (by omega)]; exact hw.2.2.2.2.2.1) (fun S hS => by rw [q_u2_ne (by omega)]; exact hw.2.2.2.2.2.2.1 S hS)
  have gM : a_g84 m m1 := fun o a b => by
    rw [y2 o b]
    funext j
    exact q_u2_ne (fun q => a q.1)
  have nN : ∀ s, ¬ a_nt can tch g r (2 ^ k - 1) s := fun s q => by
    have := q.up hc hk hf
    omega
  obtain ⟨m2, y4, y5, y6⟩ := s_plM_in (k171 := b_X12_nights_171 nf) (h := m 5084) (v0 := 0) (g := g) (r := r) (hw.fr gM.f a_f44.rf) hf y3 (fun S q1 q2 => absurd q2 (by omega)) (2 ^ k - 1) 1 q_fu m1 (by omega) (by omega) (fun _ _ _ => rfl) (by
    rw [y2 5084 (by decide), q_u2_eq, a_nd_to (t := 0) (Nat.zero_le _) (fun s _ _ => nN s)]
    rfl)
  refine ⟨m2, ?_, gM.trans (fun o a b => funext fun j => y5 o j (fun q => a q.1)), ?_⟩
  · rw [b_X12_nights_171, if_neg (nI_pos (by omega)), if_pos rfl]
    unfold b_X12_nights_194
    rw [w_ck (show qTM 5084 = 1 from rfl), show qLM 5084 = 256 from rfl, w_as (by omega) (by decide), y1, Option.bind_some, show (1 : Int32) = nI 1 from rfl, y4]
    rfl
  · rw [y6, a_nd_to (t := 0) (Nat.zero_le _) (fun s _ _ => nN s)]
    rfl
theorem pub_nights {c n : Nat → Nat} {m M : q_MM} (h : a_X c n m M) (a1 a2 : Int32) : a_T c (f_X11_nights c M a1 a2) (f_X12_nights m a1 a2) := by
  unfold f_X11_nights f_X12_nights
  simp only [w_let]
  replace h := h.t0
  generalize q_u2 m 5001 0 0 = m at h ⊢
  have hfu := q_fu_le
  have hC := h.C
  have hC1 := hC.2.1
  have hC2 := hC.2.2.1
  by_cases z1 : a_rg a1 1 8
  · rw [s_within1 z1 rfl rfl, s_in1 z1 rfl rfl, Option.bind_some, Option.bind_some, if_neg (show ¬ (1 : Int32) = 0 by decide), if_neg (show ¬ (1 : Int32) = 0 by decide)]
    by_cases z2 : a_rg a2 1 8
    · rw [s_within1 z2 rfl rfl, s_in1 z2 rfl rfl, Option.bind_some, Option.bind_some, if_neg (show ¬ (1 : Int32) = 0 by decide), if_neg (show ¬ (1 : Int32) = 0 by decide)]
      obtain ⟨⟨k, hk8, q39, hk, -⟩, -⟩ := id (h 16 : a_B16 c n m M)
      have p2 := a_p8 hk8
      have hp : 0 < 2 ^ k := Nat.two_pow_pos k
      obtain ⟨-, -, -, hmv⟩ := a_mv h hk hk8
      obtain ⟨m1, u1, u2, u3⟩ := s_keeps (c := c) h.Y.N hC2
      have emask : (1 : Int32) <<< (m 5001 66 &&& 31) - 1 = nI (2 ^ k - 1) := by rw [hk, a_pow _ (by omega), show (1 : Int32) = nI 1 from rfl, pk_sub (by omega)]
      obtain ⟨m2, M2, w1, w2, w3, w4, w5⟩ := s_look_out (a1 := a1) (a2 := a2) h hk hk8 u2 u3 (2 ^ k) 0 q_fu q_fu m1 M (by omega) (by omega) (by omega) (fun _ _ _ _ => rfl) (fun _ _ _ _ _ => rfl) (fun S hS => absurd hS (Nat.not_lt_zero _))
      rw [show nI 0 = 0 from rfl] at w1 w2
      have hN2 : m2 5001 18 = nI (c 2) := by rw [w3 5001 18 (by omega) (by decide), u2 5001 (by decide) (by decide) (by decide)]; exact h.Y.N
      obtain ⟨m3, v1, v2, v3⟩ := s_restores (c := c) hN2 hC2
      -- back as it was
      have back : ∀ o j, o ≠ 5080 → o ≠ 5081 → o ≠ 5082 → o ≠ 5083 → m3 o j = m o j := fun o j b1 b2 b3 b4 => by
        by_cases e : (o = 5040 ∨ o = 5041 ∨ o = 5042) ∧ j < c 2
        · have g := v3 j e.2
          have g2 := u3 j e.2
          rw [w3 5080 j (by omega) (by decide), w3 5081 j (by omega) (by decide), w3 5082 j (by omega) (by decide), g2.1, g2.2.1, g2.2.2] at g
          rcases e.1 with rfl | rfl | rfl
          · exact g.1
          · exact g.2.1
          · exact g.2.2
        · rw [v2 o j e, w3 o j e b4, u2 o b1 b2 b3]
      have h80 : ∀ p, p < c 2 → m3 5080 p = m 5040 p ∧ m3 5081 p = m 5041 p := fun p hp => by
        have g2 := u3 p hp
        rw [v2 5080 p (by omega), v2 5081 p (by omega), w3 5080 p (by omega) (by decide), w3 5081 p (by omega) (by decide)]
        exact ⟨g2.1, g2.2.1⟩
      have h83 : ∀ S, m3 5083 S = m2 5083 S := fun S => v2 5083 S (by omega)
      have hw : a_nw k (M2 42) (M2 43) m3 M2 := by
        refine ⟨hk8, fun S hS i hi => (w5 S hS).2.2 i hi, by rw [w4 39 (by decide) (by decide) (by decide) (by decide)]; exact q39, fun _ _ => rfl, fun _ _ => rfl, by rw [back 5001 66 (by decide) (by decide) (by decide) (by decide)]; exact hk, fun S hS => by rw [h83]; exact (w5 S hS).1.symm, fun m' hm' S hS => ?_⟩
        have e : ∀ o j, o = 5077 ∨ o = 5078 ∨ o = 5020 → m' o j = m o j := fun o j ho => by
          rw [hm' o j (by omega) (by omega) (by omega) (by omega), back o j (by omega) (by omega) (by omega) (by omega)]
        unfold f_X12_roomsTouched
        have g := s_rooms_loop (c := c) (σ := m) (m := m') (k := k) (S := S) hC hk8 (by rw [hm' 5001 66 (by decide) (by decide) (by decide) (by omega), back 5001 66 (by decide) (by decide) (by decide) (by decide)]; exact hk) (fun j => e 5077 j (by decide)) (fun j => e 5078 j (by decide)) (fun j => e 5020 j (by decide)) (fun p hp => by
          rw [hm' 5080 p (by decide) (by decide) (by decide) (by omega), hm' 5081 p (by decide) (by decide) (by decide) (by omega)]
          exact h80 p hp) (fun p hp hs => (h.V p hp hs).1) (fun i hi => by
          obtain ⟨p, w, b1, b2, b3, -, b5, -⟩ := hmv i hi
          exact ⟨p, w, b1, b2, b3, b5⟩) k 0 q_fu (by omega) (by omega)
        rw [show nI 0 = 0 from rfl] at g
        rw [show a_tc m S 0 = 0 from rfl] at g
        rw [g, (w5 S hS).2.1]
      obtain ⟨fu, efu⟩ : ∃ fu, q_fu = fu + 1 := ⟨q_fu - 1, by omega⟩
      obtain ⟨m4, y1, y2, y3⟩ := s_plM_top (nf := fu) (g := a1) (r := a2) hw
      have g0 : a_g44 M2 (q_u2 M2 44 (2 ^ k - 1) 0) := fun o a b => funext fun j => q_u2_ne (fun q => a q.1)
      obtain ⟨m5, M5, x1, x2, x3, x4, x5⟩ := s_pl_out (c := c) (g := a1) (r := a2) hw (2 ^ k - 1) q_fu fu m4 (q_u2 M2 44 (2 ^ k - 1) 0) (Nat.le_refl _) (by omega) (by omega) y2 g0 (fun S q1 q2 => by
        have : S = 2 ^ k - 1 := by omega
        subst this
        exact ⟨by rw [y3, q_u2_eq], fun _ => q_u2_eq, fun q => absurd rfl q⟩)
      have x5' := x5
      obtain ⟨u, hu, eu⟩ := x5.rg (Nat.le_refl 0) hp
      have eM : m5 5084 0 = nI u := (x5 0 (Nat.le_refl 0) hp).1.trans eu
      have nX : ∀ o j, o ≠ 42 → o ≠ 43 → o ≠ 44 → o ≠ 45 → o ≠ 62 → o ≠ 64 → M5 o j = M o j := fun o j b1 b2 b3 b4 b5 b6 => by rw [x4 o b3 b4, w4 o b1 b2 b5 b6]
      have nM : ∀ o j, o ≠ 5080 → o ≠ 5081 → o ≠ 5082 → o ≠ 5083 → o ≠ 5084 → o ≠ 5085 → m5 o j = m o j := fun o j b1 b2 b3 b4 b5 b6 => by rw [x3 o b5 b6, back o j b1 b2 b3 b4]
      have ePlan : f_X3_plan c M a1 a2 = some (nI u, M5) := by
        unfold f_X3_plan f_X3_lookAtSets
        rw [s_all hk8 q39, Option.bind_some, w1, Option.bind_some, s_all hk8 hw.2.2.1, Option.bind_some, w_as (by omega) (by decide), w_let, a_sub1, x1, eu]
      rw [ePlan, Option.bind_some, u1, Option.bind_some, emask, w2, v1, Option.bind_some, show b_X12_nights_171 q_fu = b_X12_nights_171 (fu + 1) from by rw [efu], y1, x2, eM]
      dsimp only
      by_cases z3 : u = 99
      · subst z3
        rw [if_pos (show nI 99 = (99 : Int32) from rfl), if_neg (show ¬ nI 99 < (99 : Int32) by decide)]
        refine ⟨-2, n, M5, m5, rfl, rfl, h.wr [] (fun o j => ?_) (fun o j => ?_) (fun i hi => by cases hi)⟩
        · by_cases e : o = 42 ∨ o = 43 ∨ o = 44 ∨ o = 45 ∨ o = 62 ∨ o = 64
          · rcases e with rfl | rfl | rfl | rfl | rfl | rfl <;> exact Or.inr (Or.inl rfl)
          · exact Or.inr (Or.inr (nX o j (by omega) (by omega) (by omega) (by omega) (by omega) (by omega)))
        · by_cases e : o = 5080 ∨ o = 5081 ∨ o = 5082 ∨ o = 5083 ∨ o = 5084 ∨ o = 5085
          · rcases e with rfl | rfl | rfl | rfl | rfl | rfl <;> exact Or.inr (Or.inl rfl)
          · exact Or.inr (Or.inr (nM o j (by omega) (by omega) (by omega) (by omega) (by omega) (by omega)))
      · have ne : ¬ nI u = (99 : Int32) := fun q => z3 (nI_inj (i := u) (j := 99) (by omega) (by decide) q)
        rw [if_neg ne, if_pos (show nI u < (99 : Int32) from nI_lt (a := u) (b := 99) (by omega) (by decide)), s_clear (r := 56) (N := 32) (by decide), Option.bind_some]
        have fm : a_f84 m3 (q_u2 m5 5001 1 0) := fun o j b1 b2 b3 b4 => by rw [q_u2_ne b4, x3 o b1 b2]
        have fM : a_f44 M2 (q_u2 M5 6 1 0) := fun o j b1 b2 b3 b4 => by rw [q_u2_ne b4, x4 o b1 b2]
        have k44 : q_u2 M5 6 1 0 44 = M5 44 := funext fun j => q_u2_ne (by omega)
        have k84 : q_u2 m5 5001 1 0 5084 = m5 5084 := funext fun j => q_u2_ne (by omega)
        obtain ⟨m6, M6, e', l0, l1, l2, l3, l4, l5, l6, l7⟩ := s_tell_loop (c := c) (g := a1) (r := a2) hw (2 ^ k) 0 0 u q_fu q_fu (q_u2 m5 5001 1 0) (q_u2 M5 6 1 0) (by omega) (by omega) (by omega) hp fm fM (by
          intro S q1 q2
          rw [k44, k84]
          exact x5' S q1 q2) (by omega) (by rw [k44]; exact eu) (Nat.zero_le _) q_u2_eq q_u2_eq (fun j hj => absurd hj (Nat.not_lt_zero _))
        rw [show nI 0 = 0 from rfl] at l1 l2
        unfold f_X3_tellPlan
        rw [show q_ld (q_u2 M5 6 1 0) 44 256 (0 : Int32) = q_ld (q_u2 M5 6 1 0) 44 256 (nI 0) from rfl, w_ld (by decide) (by decide), k44, eu, w_let, a_sub1, l1, l2, k84, eM]
        refine ⟨nI u, n, M6, m6, rfl, rfl, h.wr [12] (fun o j => ?_) (fun o j => ?_) (a_one ⟨e', by omega, l5, l6, fun j hj => ⟨l7 j hj, trivial⟩⟩)⟩
        · by_cases e : o = 42 ∨ o = 43 ∨ o = 44 ∨ o = 45 ∨ o = 62 ∨ o = 64
          · rcases e with rfl | rfl | rfl | rfl | rfl | rfl <;> exact Or.inr (Or.inl rfl)
          · by_cases e2 : o = 56
            · subst e2
              exact Or.inl (List.mem_singleton.mpr rfl)
            · by_cases e3 : o = 6 ∧ j = 1
              · obtain ⟨rfl, rfl⟩ := e3
                exact Or.inl (List.mem_singleton.mpr rfl)
              · refine Or.inr (Or.inr ?_)
                rw [l4 o j (by omega) (by omega) e2 e3, w4 o (by omega) (by omega) (by omega) (by omega)]
        · by_cases e : o = 5080 ∨ o = 5081 ∨ o = 5082 ∨ o = 5083 ∨ o = 5084 ∨ o = 5085
          · rcases e with rfl | rfl | rfl | rfl | rfl | rfl <;> exact Or.inr (Or.inl rfl)
          · by_cases e2 : o = 5012
            · subst e2
              exact Or.inl (List.mem_singleton.mpr rfl)
            · by_cases e3 : o = 5001 ∧ j = 1
              · obtain ⟨rfl, rfl⟩ := e3
                exact Or.inl (List.mem_singleton.mpr rfl)
              · refine Or.inr (Or.inr ?_)
                rw [l3 o j (by omega) (by omega) e2 e3, back o j (by omega) (by omega) (by omega) (by omega)]
    · rw [s_within0 z2 rfl rfl, s_inn z2 rfl rfl, Option.bind_some, Option.bind_some, if_pos rfl, if_pos rfl]
      exact a_T.no h (-1) rfl rfl
  · rw [s_within0 z1 rfl rfl, s_inn z1 rfl rfl, Option.bind_some, Option.bind_some, if_pos rfl, if_pos rfl]
    exact a_T.no h (-1) rfl rfl
