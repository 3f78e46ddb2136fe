/-! lay -/
theorem q_u2_id {M : q_MM} {o k : Nat} {v : Int32} (h : M o k = v) : q_u2 M o k v = M := by
  funext x y
  by_cases z : x = o ∧ y = k
  · rw [z.1, z.2, q_u2_eq, h]
  · rw [q_u2_ne z]
theorem a_X.hang {c n : Nat → Nat} {m M : q_MM} (h : a_X c n m M) {p w : Nat} (hp : p < c 2) (hw : w < c 1) {x : Int32} (hx : a_rg x 0 3000) (hs : m 5040 p = 0 ∨ m 5040 p = 1) (ho : ∀ q, q < c 2 → q ≠ p → m 5040 q = 1 → m 5041 q = nI w → m 5042 q ≠ x) : a_X c n (q_u2 (q_u2 (q_u2 m 5040 p 1) 5041 p (nI w)) 5042 p x) (q_u2 (q_u2 M 61 p (nI w)) 63 p x) := by
  have hC := h.C.2.2.1
  refine h.wr [8] (a_wM.s1 (a_wM.s1 a_wM.rf rfl) rfl) (a_wS.s1 (a_wS.s1 (a_wS.s1 a_wS.rf rfl) rfl) rfl) (a_one ?_)
  have h8 : a_B8 c n m M := h 8
  refine ⟨hC, fun q hq => ?_, fun q hq hq2 => ?_, fun q hq e1 e2 => ?_, fun q r hq hr hqr e1 e2 e3 => ?_⟩
  · have g := h8.2.1 q hq
    by_cases e : q = p
    · subst e
      have e12 : M (1300 + q) 12 = 0 := by
        rw [g.2.2.1]
        rcases hs with z | z <;> rw [z] <;> decide
      have e40 : q_u2 (q_u2 (q_u2 m 5040 q 1) 5041 q (nI w)) 5042 q x 5040 q = 1 := by rw [q_u2_ne (by omega), q_u2_ne (by omega), q_u2_eq]
      have e41 : q_u2 (q_u2 (q_u2 m 5040 q 1) 5041 q (nI w)) 5042 q x 5041 q = nI w := by rw [q_u2_ne (by omega), q_u2_eq]
      rw [e40, e41, q_u2_eq, q_u2_eq, q_u2_ne (by omega), q_u2_eq, q_u2_ne (by omega), q_u2_ne (by omega), e12, if_pos rfl]
      exact ⟨rfl, rfl, rfl, ⟨1, by decide, rfl⟩, fun _ => ⟨⟨w, hw, rfl⟩, hx⟩, fun q => absurd rfl q⟩
    · rw [q_u2_ne (by omega), q_u2_ne (by omega), q_u2_ne (by omega), q_u2_ne (by omega), q_u2_ne (by omega), q_u2_ne (by omega), q_u2_ne (by omega), q_u2_ne (by omega), q_u2_ne (by omega), q_u2_ne (by omega), q_u2_ne (by omega), q_u2_ne (by omega), q_u2_ne (by omega), q_u2_ne (by omega), q_u2_ne (by omega)]
      exact g
  · have g := h8.2.2.1 q hq hq2
    rw [q_u2_ne (by omega), q_u2_ne (by omega), q_u2_ne (by omega), q_u2_ne (by omega), q_u2_ne (by omega), q_u2_ne (by omega), q_u2_ne (by omega)]
    exact g
  · have g := h8.2.2.2.1 q hq e1 e2
    by_cases e : q = p
    · subst e
      rw [g] at hs
      rcases hs with z | z <;> exact absurd z (by decide)
    · rw [q_u2_ne (by omega), q_u2_ne (by omega), q_u2_ne (by omega)]
      exact g
  · have g := h8.2.2.2.2 q r hq hr hqr
    by_cases e : q = p
    · subst e
      rw [q_u2_ne (by omega), q_u2_ne (by omega), q_u2_ne (by omega)] at e2
      rw [q_u2_ne (by omega), q_u2_eq, q_u2_ne (by omega), q_u2_ne (by omega), q_u2_ne (by omega)] at e3
      rw [q_u2_eq, q_u2_ne (by omega), q_u2_ne (by omega), q_u2_ne (by omega)]
      exact fun z => ho r hr (by omega) e2 e3.symm z.symm
    · rw [q_u2_ne (by omega), q_u2_ne (by omega), q_u2_ne (by omega)] at e1
      by_cases e' : r = p
      · subst e'
        rw [q_u2_ne (by omega), q_u2_ne (by omega), q_u2_ne (by omega), q_u2_ne (by omega), q_u2_eq] at e3
        rw [q_u2_ne (by omega), q_u2_ne (by omega), q_u2_ne (by omega), q_u2_eq]
        exact ho q hq e e1 e3
      · rw [q_u2_ne (by omega), q_u2_ne (by omega), q_u2_ne (by omega)] at e2
        rw [q_u2_ne (by omega), q_u2_ne (by omega), q_u2_ne (by omega), q_u2_ne (by omega), q_u2_ne (by omega), q_u2_ne (by omega)] at e3
        rw [q_u2_ne (by omega), q_u2_ne (by omega), q_u2_ne (by omega), q_u2_ne (by omega), q_u2_ne (by omega), q_u2_ne (by omega)]
        exact g e1 e2 e3
/-- nothing but where pictures hang changes -/
def a_o8 (m M m' M' : q_MM) : Prop := (∀ o k, ownS o k ≠ 8 → m' o k = m o k) ∧ (∀ o k, ownM o k ≠ 8 → M' o k = M o k)
theorem a_o8.rf {m M : q_MM} : a_o8 m M m M := ⟨fun _ _ _ => rfl, fun _ _ _ => rfl⟩
theorem s_puts {m : q_MM} {p : Nat} {w x : Int32} (hp : p < 24) : f_X12_puts m (nI p) w x = some (q_u2 (q_u2 (q_u2 m 5040 p 1) 5041 p w) 5042 p x) := by
  unfold f_X12_puts
  rw [w_as hp (by decide), w_as hp (by decide), w_as hp (by decide)]
theorem s_takes {m : q_MM} {p : Nat} {v : Int32} (hp : p < 24) : f_X12_takes m (nI p) v = some (q_u2 (q_u2 (q_u2 m 5040 p v) 5041 p (-1)) 5042 p (-1)) := by
  unfold f_X12_takes
  rw [w_as hp (by decide), w_as hp (by decide), w_as hp (by decide)]
theorem s_putUp_rest {c : Nat → Nat} {M : q_MM} {w : Nat} (hw : M 4 7 = nI w) (hw2 : w < 100) {N : Nat} (hN : ∀ p, N ≤ p → p < 24 → M 61 p = -1) : ∀ (d i nf : Nat), i + d = 24 → d < nf → N ≤ i → b_X6_putUp_2 c nf (nI i) M = b_X6_putUp_45 c q_fu 0 M
  | d, i, 0, _, h, _ => absurd h (Nat.not_lt_zero _)
  | 0, i, nf + 1, hi, _, _ => by
    have : i = 24 := by omega
    subst this
    rw [b_X6_putUp_2, if_pos (by decide)]
  | d + 1, i, nf + 1, hi, hf, hN2 => by
    rw [b_X6_putUp_2, if_neg (show ¬ (24 : Int32) ≤ nI i from nI_ge (a := i) (b := 24) (by omega) (by decide)), s_wallUnder (a := 61) (b := 63) (by decide) (by omega), Option.bind_some, hN i hN2 (by omega), hw, if_neg (fun q => nI_neg1 (by omega) q.symm)]
    unfold b_X6_putUp_37
    rw [nI_1]
    exact s_putUp_rest hw hw2 hN d (i + 1) nf (by omega) (by omega) (by omega)
theorem s_clear_loop {c n : Nat → Nat} {w : Nat} (hwc : w < c 1) : ∀ (d i nf nf' : Nat) (m M : q_MM), i + d = c 2 → d + (24 - c 2) < nf → d < nf' → a_X c n m M → M 4 7 = nI w → m 5001 56 = nI w → (∀ p, p < i → ¬ (m 5040 p = 1 ∧ m 5041 p = nI w)) → ∃ m' M', a_X c n m' M' ∧ a_o8 m M m' M' ∧ (∀ p, p < c 2 → ¬ (m' 5040 p = 1 ∧ m' 5041 p = nI w)) ∧ (∀ p, m 5040 p = 0 ∨ m 5040 p = 1 → m' 5040 p = 0 ∨ m' 5040 p = 1) ∧ b_X6_putUp_2 c nf (nI i) M = b_X6_putUp_45 c q_fu 0 M' ∧ b_X12_lay_47 nf' (nI i) m = b_X12_lay_81 q_fu 0 m'
  | d, i, 0, _, _, _, _, h, _, _, _, _, _ => absurd h (Nat.not_lt_zero _)
  | d, i, _ + 1, 0, _, _, _, _, h, _, _, _, _ => absurd h (Nat.not_lt_zero _)
  | 0, i, nf + 1, nf' + 1, m, M, hi, hf, _, h, e1, e2, hb => by
    have hC := h.C.2.2.1
    have hC1 := h.C.2.1
    have : i = c 2 := by omega
    subst this
    refine ⟨m, M, h, a_o8.rf, hb, fun p hp => hp, ?_, ?_⟩
    · exact s_putUp_rest e1 (by omega) (N := c 2) (fun p h1 h2 => ((h 8 : a_B8 c n m M).2.2.1 p h1 h2).1) (24 - c 2) (c 2) (nf + 1) (by omega) (by omega) (Nat.le_refl _)
    · rw [b_X12_lay_47, h.Y.N, if_pos (nI_le (by omega) (by omega))]
  | d + 1, i, nf + 1, nf' + 1, m, M, hi, hf, hf', h, e1, e2, hb => by
    have hC := h.C.2.2.1
    have hC1 := h.C.2.1
    have hH := h.H.1 i (by omega)
    rw [b_X6_putUp_2, if_neg (show ¬ (24 : Int32) ≤ nI i from nI_ge (a := i) (b := 24) (by omega) (by decide)), s_wallUnder (a := 61) (b := 63) (by decide) (by omega), Option.bind_some, hH.1, e1]
    rw [b_X12_lay_47, h.Y.N, if_neg (nI_ge (by omega) (by omega)), e2, s_isOn (by omega) (by omega), Option.bind_some]
    unfold b_X6_putUp_37 b_X12_lay_73
    rw [nI_1]
    by_cases z : a_W m i = nI w
    · have z2 := (a_W_w (show w < 100 by omega)).mp z
      rw [if_pos z, if_pos z, if_neg (show ¬ (1 : Int32) = 0 by decide), s_takes (by omega), Option.bind_some, s_take (a := 61) (b := 63) (by decide) (by omega), Option.bind_some]
      have hX := h.leave (p := i) (by omega) (v := 0) (Or.inl rfl) (Or.inr (by rw [z2.1]; decide))
      have e12 : M (1300 + i) 12 = 0 := by rw [((h 8 : a_B8 c n m M).2.1 i (by omega)).2.2.1, if_pos z2.1]
      rw [q_u2_id e12] at hX
      obtain ⟨m', M', r1, r2, r3, r4, r5, r6⟩ := s_clear_loop hwc d (i + 1) nf nf' _ _ (by omega) (by omega) (by omega) hX (by rw [q_u2_ne (by omega), q_u2_ne (by omega)]; exact e1) (by rw [q_u2_ne (by omega), q_u2_ne (by omega), q_u2_ne (by omega)]; exact e2) (fun p hp => by
        by_cases e : p = i
        · subst e
          rw [q_u2_ne (by omega), q_u2_ne (by omega), q_u2_eq]
          exact fun q => absurd q.1 (by decide)
        · rw [q_u2_ne (by omega), q_u2_ne (by omega), q_u2_ne (by omega), q_u2_ne (by omega), q_u2_ne (by omega), q_u2_ne (by omega)]
          exact hb p (by omega))
      refine ⟨m', M', r1, ⟨fun o k ho => ?_, fun o k ho => ?_⟩, r3, fun p hp => r4 p ?_, r5, r6⟩
      · rw [r2.1 o k ho, q_u2_ne, q_u2_ne, q_u2_ne]
        · rintro ⟨rfl, rfl⟩
          exact ho rfl
        · rintro ⟨rfl, rfl⟩
          exact ho rfl
        · rintro ⟨rfl, rfl⟩
          exact ho rfl
      · rw [r2.2 o k ho, q_u2_ne, q_u2_ne]
        · rintro ⟨rfl, rfl⟩
          exact ho rfl
        · rintro ⟨rfl, rfl⟩
          exact ho rfl
      · by_cases e : p = i
        · subst e
          rw [q_u2_ne (by omega), q_u2_ne (by omega), q_u2_eq]
          exact Or.inl rfl
        · rw [q_u2_ne (by omega), q_u2_ne (by omega), q_u2_ne (by omega)]
          exact hp
    · rw [if_neg z, if_neg z, if_pos rfl]
      refine s_clear_loop hwc d (i + 1) nf nf' m M (by omega) (by omega) (by omega) h e1 e2 (fun p hp => ?_)
      by_cases e : p = i
      · subst e
        exact fun q => z ((a_W_w (by omega)).mpr q)
      · exact hb p (by omega)
theorem s_put_loop {c n : Nat → Nat} {w K : Nat} (hwc : w < c 1) (hK : K ≤ 7) : ∀ (d i nf nf' : Nat) (m M : q_MM), i + d = K → d < nf → d < nf' → a_X c n m M → M 4 7 = nI w → m 5001 56 = nI w → m 5001 55 = nI K → M 37 1 = nI K → M 38 1 = nI K → (∀ j, j < K → M 87 j = m 5068 j ∧ M 88 j = m 5069 j ∧ a_rg (m 5069 j) 0 3000 ∧ a_here c m (m 5068 j)) → (∀ j l, j < K → l < K → m 5069 j = m 5069 l → j = l) → (∀ p, p < c 2 → m 5040 p = 1 → m 5041 p = nI w → ∃ j, j < i ∧ m 5068 j = nI p ∧ m 5042 p = m 5069 j) → ∃ m' M', a_X c n m' M' ∧ a_o8 m M m' M' ∧ b_X6_putUp_45 c nf (nI i) M = some (q_u2 M' 37 1 0) ∧ b_X12_lay_81 nf' (nI i) m = some (nI K, q_u2 m' 5001 57 0)
  | d, i, 0, _, _, _, _, h, _, _, _, _, _, _, _, _, _, _ => absurd h (Nat.not_lt_zero _)
  | d, i, _ + 1, 0, _, _, _, _, h, _, _, _, _, _, _, _, _, _ => absurd h (Nat.not_lt_zero _)
  | 0, i, nf + 1, nf' + 1, m, M, hi, hf, _, h, e1, e2, e3, e4, e5, hk, hd, hw => by
    have : i = K := by omega
    subst this
    refine ⟨m, M, h, a_o8.rf, ?_, ?_⟩
    · rw [b_X6_putUp_45, e4, if_pos (nI_le (by omega) (by omega)), s_clear (r := 87) (N := 7) (by decide), Option.bind_some]
    · rw [b_X12_lay_81, e3, if_pos (nI_le (by omega) (by omega)), w_bl0, w_let, q_u2_ne (by omega), e3]
  | d + 1, i, nf + 1, nf' + 1, m, M, hi, hf, hf', h, e1, e2, e3, e4, e5, hk, hd, hw => by
    have hC := h.C.2.2.1
    obtain ⟨g1, g2, g3, ⟨p, hp, hpe, hs⟩⟩ := hk i (by omega)
    rw [b_X6_putUp_45, e4, if_neg (nI_ge (by omega) (by omega)), s_get1 (r := 87) (N := 7) (by decide) e4 (by omega) (show i < K by omega), Option.bind_some, s_get1 (r := 88) (N := 7) (by decide) e5 (by omega) (show i < K by omega), Option.bind_some, g1, g2, hpe, e1, s_put (a := 61) (b := 63) (by decide) (by omega), Option.bind_some, nI_1]
    rw [b_X12_lay_81, e3, if_neg (nI_ge (by omega) (by omega)), w_ld (by omega) (by decide), w_ld (by omega) (by decide), hpe, e2, s_puts (by omega), Option.bind_some, nI_1]
    have hX := h.hang hp hwc g3 hs (fun q hq hqp q1 q2 q3 => by
      obtain ⟨j, hj, j1, j2⟩ := hw q hq q1 q2
      have : j = i := hd j i (by omega) (by omega) (j2.symm.trans q3)
      omega)
    have hf1 : ∀ o k, o ≠ 5040 → o ≠ 5041 → o ≠ 5042 → q_u2 (q_u2 (q_u2 m 5040 p 1) 5041 p (nI w)) 5042 p (m 5069 i) o k = m o k := fun o k a1 a2 a3 => by
      rw [q_u2_ne (fun z => a3 z.1), q_u2_ne (fun z => a2 z.1), q_u2_ne (fun z => a1 z.1)]
    have hf2 : ∀ o k, o ≠ 61 → o ≠ 63 → q_u2 (q_u2 M 61 p (nI w)) 63 p (m 5069 i) o k = M o k := fun o k a1 a2 => by
      rw [q_u2_ne (fun z => a2 z.1), q_u2_ne (fun z => a1 z.1)]
    obtain ⟨m', M', r1, r2, r3, r4⟩ := s_put_loop hwc hK d (i + 1) nf nf' _ _ (by omega) (by omega) (by omega) hX ((hf2 _ _ (by decide) (by decide)).trans e1) ((hf1 _ _ (by decide) (by decide) (by decide)).trans e2) ((hf1 _ _ (by decide) (by decide) (by decide)).trans e3) ((hf2 _ _ (by decide) (by decide)).trans e4) ((hf2 _ _ (by decide) (by decide)).trans e5) (fun j hj => by
        obtain ⟨k1, k2, k3, ⟨q, hq, hqe, hqs⟩⟩ := hk j hj
        rw [hf1 _ _ (by decide) (by decide) (by decide), hf1 _ _ (by decide) (by decide) (by decide), hf2 _ _ (by decide) (by decide), hf2 _ _ (by decide) (by decide)]
        refine ⟨k1, k2, k3, q, hq, hqe, ?_⟩
        by_cases e : q = p
        · subst e
          rw [q_u2_ne (by omega), q_u2_ne (by omega), q_u2_eq]
          exact Or.inr rfl
        · rw [q_u2_ne (by omega), q_u2_ne (by omega), q_u2_ne (by omega)]
          exact hqs) (fun j l hj hl => by
        rw [hf1 _ _ (by decide) (by decide) (by decide), hf1 _ _ (by decide) (by decide) (by decide)]
        exact hd j l hj hl) (fun q hq q1 q2 => by
        by_cases e : q = p
        · subst e
          refine ⟨i, by omega, ?_, ?_⟩
          · rw [hf1 _ _ (by decide) (by decide) (by decide)]
            exact hpe
          · rw [q_u2_eq, hf1 _ _ (by decide) (by decide) (by decide)]
        · rw [q_u2_ne (by omega), q_u2_ne (by omega), q_u2_ne (by omega)] at q1 q2
          obtain ⟨j, hj, j1, j2⟩ := hw q hq q1 q2
          refine ⟨j, by omega, ?_, ?_⟩
          · rw [hf1 _ _ (by decide) (by decide) (by decide)]
            exact j1
          · rw [q_u2_ne (by omega), q_u2_ne (by omega), q_u2_ne (by omega), hf1 _ _ (by decide) (by decide) (by decide)]
            exact j2)
    refine ⟨m', M', r1, ⟨fun o k ho => ?_, fun o k ho => ?_⟩, r3, r4⟩
    · rw [r2.1 o k ho, q_u2_ne, q_u2_ne, q_u2_ne]
      · rintro ⟨rfl, rfl⟩
        exact ho rfl
      · rintro ⟨rfl, rfl⟩
        exact ho rfl
      · rintro ⟨rfl, rfl⟩
        exact ho rfl
    · rw [r2.2 o k ho, q_u2_ne, q_u2_ne]
      · rintro ⟨rfl, rfl⟩
        exact ho rfl
      · rintro ⟨rfl, rfl⟩
        exact ho rfl
/-- are they all here -/
theorem s_hereM_loop {c n : Nat → Nat} {m M : q_MM} (h : a_X c n m M) {K : Nat} (hK : K ≤ 7) (e : m 5001 55 = nI K) : ∀ (d i nf : Nat), i + d = K → d < nf → b_X12_lay_7 nf (nI i) m = a_if (∀ j, i ≤ j → j < K → a_here c m (m 5068 j)) (if m 5001 57 = 0 then some (-1, m) else b_X12_lay_47 q_fu 0 m) (some (-1, m))
  | d, i, 0, _, h => absurd h (Nat.not_lt_zero _)
  | 0, i, nf + 1, hi, _ => by
    rw [b_X12_lay_7, e, if_pos (nI_le (by omega) (by omega)), a_ifp (fun j h1 h2 => by omega)]
  | d + 1, i, nf + 1, hi, hf => by
    rw [b_X12_lay_7, e, if_neg (nI_ge (by omega) (by omega)), w_ld (by omega) (by decide)]
    by_cases z : a_here c m (m 5068 i)
    · obtain ⟨p, hp, hpe, hs⟩ := id z
      rw [hpe, h.isHere1 hp hs, Option.bind_some, if_neg (by decide), nI_1, s_hereM_loop h hK e d (i + 1) nf (by omega) (by omega)]
      congr 1
      apply propext
      constructor
      · intro q j h1 h2
        by_cases e2 : j = i
        · exact e2 ▸ z
        · exact q j (by omega) h2
      · exact fun q j h1 h2 => q j (by omega) h2
    · rw [h.isHere0 z, Option.bind_some, if_pos rfl, a_ifn (fun q => z (q i (Nat.le_refl i) (by omega)))]
theorem s_hereX_loop {c n : Nat → Nat} {m M : q_MM} (h : a_X c n m M) {o r N K : Nat} (ho : (o, r, N) ∈ a_nums) (hK : K ≤ N) (e : M o 1 = nI K) : ∀ (d i nf : Nat), i + d = K → d < nf → b_X6_arePresent_2 c M nf o (nI i) = some (a_if (∀ j, i ≤ j → j < K → a_here c m (M r j)) 1 0)
  | d, i, 0, _, h => absurd h (Nat.not_lt_zero _)
  | 0, i, nf + 1, hi, _ => by
    obtain ⟨h1, h2, h3, h4, h5, h6, -⟩ := a_numf c _ ho
    dsimp only at h1 h5
    rw [b_X6_arePresent_2, w_ck h1, e, if_pos (nI_le (by omega) (by omega)), w_bl1, a_ifp (fun j h1 h2 => by omega)]
  | d + 1, i, nf + 1, hi, hf => by
    obtain ⟨h1, h2, h3, h4, h5, h6, -⟩ := a_numf c _ ho
    dsimp only at h1 h5
    rw [b_X6_arePresent_2, w_ck h1, e, if_neg (nI_ge (by omega) (by omega)), s_get1 ho e hK (show i < K by omega), Option.bind_some]
    by_cases z : a_here c m (M r i)
    · obtain ⟨p, hp, hpe, hs⟩ := id z
      rw [hpe, s_present1 h hp hs, Option.bind_some, if_neg (by omega), nI_1, s_hereX_loop h ho hK e d (i + 1) nf (by omega) (by omega)]
      congr 2
      apply propext
      constructor
      · intro q j h1 h2
        by_cases e2 : j = i
        · exact e2 ▸ z
        · exact q j (by omega) h2
      · exact fun q j h1 h2 => q j (by omega) h2
    · rw [s_present0 h z, Option.bind_some, if_pos rfl, w_bl0, a_ifn (fun q => z (q i (Nat.le_refl i) (by omega)))]
theorem pub_lay {c n : Nat → Nat} {m M : q_MM} (h : a_X c n m M) : a_T c (f_X11_lay c M) (f_X12_lay m) := by
  unfold f_X11_lay f_X12_lay
  simp only [w_let]
  replace h := h.t0
  generalize q_u2 m 5001 0 0 = m at h ⊢
  have hfu := q_fu_le
  have hC2 := h.C.2.2.1
  have h17 : a_B17 c n m M := h 17
  rcases h17 with ⟨e57, e37, K, hK, e55, -⟩ | ⟨e57, e47, ⟨w, hw, e56⟩, ⟨K, hK1, hK7, e55⟩, ⟨K1, hK2, b1, b2, b3⟩, ⟨K2, hK3, b4, b5, b6⟩, hd1, hd2⟩
  · rw [if_pos e37, show (0 : Int32) = nI 0 from rfl, s_hereM_loop h hK e55 K 0 q_fu (by omega) (by omega), if_pos e57]
    exact a_T.no h (-1) rfl (by unfold a_if; split <;> rfl)
  · have e1 : K1 = K2 := nI_inj (by omega) (by omega) (b2.symm.trans b5)
    subst e1
    have e1 : K = K1 := nI_inj (by omega) (by omega) (e55.symm.trans b2)
    subst e1
    rw [b2, nI_clamp (by omega)] at hd1 hd2
    have e56' : M 4 7 = nI w := e47.trans e56
    rw [b1, if_neg (show ¬ nI K = 0 from fun q => by have := nI_inj (by omega) (by omega) (show nI K = nI 0 from q); omega)]
    unfold f_X6_arePresent
    rw [show (0 : Int32) = nI 0 from rfl, s_hereM_loop h hK2 e55 K 0 q_fu (by omega) (by omega), s_hereX_loop h (o := 37) (r := 87) (N := 7) (by decide) hK2 b1 K 0 q_fu (by omega) (by omega), Option.bind_some]
    by_cases z : ∀ j, 0 ≤ j → j < K → a_here c m (m 5068 j)
    · rw [a_ifp z, a_ifp (fun j h1 h2 => by rw [(b3 j h2).1]; exact z j h1 h2), if_neg (show ¬ (1 : Int32) = nI 0 by decide), if_neg (by rw [e57]; decide)]
      obtain ⟨m1, M1, r1, r2, r3, r4, r5, r6⟩ := s_clear_loop hw (c 2) 0 q_fu q_fu m M (by omega) (by omega) (by omega) h e56' e56 (fun p hp => absurd hp (Nat.not_lt_zero _))
      have f1 : ∀ k, m1 5068 k = m 5068 k := fun k => r2.1 _ _ (show (17 : Nat) ≠ 8 by decide)
      have f2 : ∀ k, m1 5069 k = m 5069 k := fun k => r2.1 _ _ (show (17 : Nat) ≠ 8 by decide)
      have f3 : ∀ k, M1 87 k = M 87 k := fun k => r2.2 _ _ (show (17 : Nat) ≠ 8 by decide)
      have f4 : ∀ k, M1 88 k = M 88 k := fun k => r2.2 _ _ (show (17 : Nat) ≠ 8 by decide)
      obtain ⟨m2, M2, t1, t2, t3, t4⟩ := s_put_loop hw hK2 K 0 q_fu q_fu m1 M1 (by omega) (by omega) (by omega) r1 ((r2.2 _ _ (by decide)).trans e56') ((r2.1 _ _ (by decide)).trans e56) ((r2.1 _ _ (by decide)).trans e55) ((r2.2 _ _ (by decide)).trans b1) ((r2.2 _ _ (by decide)).trans b4) (fun j hj => by
          rw [f1, f2, f3, f4]
          refine ⟨(b3 j hj).1, (b6 j hj).1, (b6 j hj).2, ?_⟩
          obtain ⟨p, hp, hpe, hs⟩ := z j (Nat.zero_le _) hj
          exact ⟨p, hp, hpe, r4 p hs⟩) (fun j l hj hl => by
          rw [f2, f2]
          exact hd2 j l hj hl) (fun p hp q1 q2 => absurd ⟨q1, q2⟩ (r3 p hp))
      unfold f_X6_putUp
      rw [show (0 : Int32) = nI 0 from rfl] at r5 r6
      rw [show (0 : Int32) = nI 0 from rfl, r5, r6, t3, t4, Option.bind_some]
      refine ⟨_, n, _, _, rfl, rfl, ?_⟩
      refine t1.wr [17] (a_wM.s1 a_wM.rf rfl) (a_wS.s1 a_wS.rf rfl) (a_one (Or.inl ⟨q_u2_eq, q_u2_eq, K, hK2, ?_, fun i hi => ?_⟩))
      · rw [q_u2_ne (by omega), t2.1 _ _ (by decide), r2.1 _ _ (by decide), e55]
      · rw [q_u2_ne (by omega), t2.1 5068 i (show (17 : Nat) ≠ 8 by decide), r2.1 5068 i (show (17 : Nat) ≠ 8 by decide)]
        exact (b3 i hi).2
    · rw [a_ifn z, a_ifn (fun q => z (fun j h1 h2 => by rw [← (b3 j h2).1]; exact q j h1 h2)), if_pos (show (0 : Int32) = nI 0 from rfl)]
      exact a_T.no h (-1) rfl rfl
