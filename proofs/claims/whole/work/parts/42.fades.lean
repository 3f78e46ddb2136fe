/-! fades -/
theorem a_ds_rg {m M : q_MM} {c n : Nat → Nat} (hX : a_B5 c n m M) {w : Nat} (hw : w < c 1) : ∀ h : Nat, h ≤ 24 → 0 ≤ (a_ds m w h).toInt ∧ (a_ds m w h).toInt ≤ 9999 * h
  | 0, _ => by
    rw [show a_ds m w 0 = 0 from rfl]
    decide
  | h + 1, hh => by
    have ih := a_ds_rg hX hw h (by omega)
    have e := a_lit_0 hX hw (show h < 24 by omega)
    rw [a_ds_s, fb_addI (by omega) (by omega)]
    omega
theorem a_rg.nat {x : Int32} {N : Nat} (h : a_rg x 0 N) (hN : N < 2 ^ 31) : ∃ k : Nat, k ≤ N ∧ x = nI k := by
  obtain ⟨k, hk, e⟩ := (a_lt_i (x := x) (N := N + 1) (by omega)).mpr (by unfold a_rg at h; omega)
  exact ⟨k, by omega, e⟩
theorem a_cmp {x y : Int64} : lg_cmp x y ≤ 0 ↔ x.toInt ≤ y.toInt := by
  unfold lg_cmp
  simp only [gt_iff_lt, Int64.lt_iff_toInt_lt, ← Int64.toInt_inj]
  by_cases h1 : y.toInt < x.toInt
  · rw [if_pos h1]
    exact ⟨fun q => absurd q (by decide), fun q => by omega⟩
  · rw [if_neg h1]
    refine ⟨fun _ => by omega, fun _ => ?_⟩
    split <;> decide
theorem s_fades_loop {m : q_MM} {p L H D now q : Nat} (hp : p < 24) (hL : m 5038 p = nI L) (hL2 : L ≤ 1000000) (hD : D ≤ 240000) (hq : ∀ i, i ≤ 400 → (i ≤ q ↔ H + i * D ≤ L)) (hn : now ≤ 400) : ∀ (d i nf : Nat) (x : Int64), now + i + d = 400 → d < nf → x.toInt = (H + i * D : Nat) → i ≤ q → b_X12_fades_51 nf (nI p) x (nI D) (nI (now + i)) m = some (if now + q < 400 then nI (now + q) else -1, m)
  | d, i, 0, x, _, h, _, _ => absurd h (Nat.not_lt_zero _)
  | 0, i, nf + 1, x, hi, _, _, hiq => by
    rw [b_X12_fades_51, if_pos (show (400 : Int32) ≤ nI (now + i) from nI_le (a := 400) (by omega) (by omega)), if_neg (by omega)]
  | d + 1, i, nf + 1, x, hi, hf, hx, hiq => by
    have h0 := (hq i (by omega)).mp hiq
    have hb : i * D ≤ 400 * 240000 := Nat.mul_le_mul (by omega) hD
    have e1 : (nI L).toInt64.toInt = L := (Int32.toInt_toInt64 _).trans (nI_toInt (by omega))
    have e2 : (nI D).toInt64.toInt = D := (Int32.toInt_toInt64 _).trans (nI_toInt (by omega))
    have e3 : (x + (nI D).toInt64).toInt = (H + (i + 1) * D : Nat) := by
      have : H + (i + 1) * D = H + i * D + D := by rw [Nat.succ_mul, Nat.add_assoc]
      rw [fb_addL (by rw [hx, e2]; omega) (by rw [hx, e2]; omega), hx, e2, this]
      omega
    rw [b_X12_fades_51, if_neg (show ¬ (400 : Int32) ≤ nI (now + i) from nI_ge (a := now + i) (b := 400) (by omega) (by omega)), w_ld hp (by decide), hL, if_pos (a_cmp.mpr (by rw [hx, e1]; omega))]
    unfold b_X12_fades_79
    rw [w_ld hp (by decide), hL]
    by_cases z : i + 1 ≤ q
    · have h1 := (hq (i + 1) (by omega)).mp z
      rw [if_pos (a_cmp.mpr (by rw [e3, e1]; omega)), nI_1, Nat.add_assoc]
      exact s_fades_loop hp hL hL2 hD hq hn d (i + 1) nf _ (by omega) (by omega) e3 z
    · have h1 : ¬ H + (i + 1) * D ≤ L := fun q' => z ((hq (i + 1) (by omega)).mpr q')
      rw [if_neg (fun q' => by have := a_cmp.mp q'; rw [e3, e1] at this; omega)]
      have : i = q := by omega
      subst this
      rw [if_pos (by omega)]
theorem pub_fades {c n : Nat → Nat} {m M : q_MM} (h : a_X c n m M) (a1 : Int32) : a_Tr c M (f_X11_fades c M a1) (f_X12_fades m a1) := by
  unfold f_X11_fades f_X12_fades
  simp only [w_let]
  replace h := h.t0
  generalize q_u2 m 5001 0 0 = m at h ⊢
  have hC := h.C
  have hC1 := hC.2.1
  have hC2 := hC.2.2.1
  have hfu := q_fu_le
  by_cases z1 : a_lt a1 (c 2)
  · obtain ⟨p, hp, rfl⟩ := z1
    rw [s_picAt1 h hp, h.isPicture1 hp, Option.bind_some, Option.bind_some, if_neg (by omega), if_neg (show ¬ (1 : Int32) = 0 by decide), w_ld (show p < 24 by omega) (by decide)]
    by_cases z2 : m 5040 p = 1
    · obtain ⟨⟨w, hw, hwe⟩, -⟩ := (h 8 : a_B8 c n m M).2.1 p hp |>.2.2.2.2.1 z2
      have h9 : a_B9 c n m M := h 9
      have h7 := ((h 7 : a_B7 c n m M).2.2.2.1 p hp)
      have hB1 : a_B1 c n m M := h 1
      obtain ⟨b1, b2, b3⟩ := hB1
      obtain ⟨H, hH, eH⟩ := a_rg.nat (N := 239976 * n 1) (by have := (h9.2.1 p hp).2; simpa using this) (by omega)
      obtain ⟨L, hL, eL⟩ := a_rg.nat (N := 1000000) h7.2.2.2.2.2.2.2.2.2.2.2.2.1 (by omega)
      have hds := a_ds_rg (h 5) hw 24 (by omega)
      obtain ⟨D, hD, eD⟩ := a_rg.nat (x := a_ds m w 24) (N := 239976) ⟨hds.1, by omega⟩ (by omega)
      have eX13 : M (1300 + p) 13 = nI H := (h9.2.1 p hp).1.trans eH
      have eX10 : M (1300 + p) 10 = nI L := h7.1.2.2.2.2.2.2.2.2.2.2.1.trans eL
      rw [s_wallOf1 h hp z2 hwe hw, Option.bind_some, if_pos z2, w_ld (show p < 24 by omega) (by decide), w_ld (show p < 24 by omega) (by decide), hwe, s_daylightM (by omega), Option.bind_some, b2, eH, eD]
      unfold b_X11_fades_25
      rw [if_neg (by omega), if_neg (by omega), w_ck (t_pic hC hp), eX13, eX10, s_daylight h.Y hw, eD, b3, Option.bind_some]
      by_cases z3 : H ≤ L
      · rw [if_pos (nI_le z3 (by omega))]
        by_cases z4 : 0 < D
        · have hq : ∀ i, i ≤ 400 → (i ≤ (L - H) / D ↔ H + i * D ≤ L) := fun i _ => by
            rw [Nat.le_div_iff_mul_le z4]
            omega
          have e := s_fades_loop (m := m) (H := H) (now := n 1) (show p < 24 by omega) eL hL (by omega) hq b1 (400 - n 1) 0 q_fu (nI H).toInt64 (by omega) (by omega) (by rw [Int32.toInt_toInt64, nI_toInt (by omega)]; simp) (Nat.zero_le _)
          rw [Nat.add_zero] at e
          rw [e, if_pos (show 0 < nI D from nI_lt z4 (by omega)), if_neg (show ¬ nI D = 0 from fun q => by have := nI_inj (by omega) (by omega) (show nI D = nI 0 from q); omega), w_let, pk_sub z3, pk_div (by omega) z4 (by omega), nI_add]
          have hb : (L - H) / D ≤ 1000000 := Nat.le_trans (Nat.div_le_self _ _) (by omega)
          by_cases z5 : n 1 + (L - H) / D < 400
          · rw [if_pos z5, if_neg (show ¬ (400 : Int32) ≤ _ from nI_ge (b := 400) z5 (by omega))]
            exact ⟨_, n, m, rfl, rfl, h⟩
          · rw [if_neg z5, if_pos (show (400 : Int32) ≤ _ from nI_le (a := 400) (by omega) (by omega))]
            exact ⟨_, n, m, rfl, rfl, h⟩
        · have : D = 0 := by omega
          subst this
          have e := s_fades_loop (m := m) (H := H) (q := 400) (now := n 1) (D := 0) (show p < 24 by omega) eL hL (by omega) (fun i hi => by omega) b1 (400 - n 1) 0 q_fu (nI H).toInt64 (by omega) (by omega) (by rw [Int32.toInt_toInt64, nI_toInt (by omega)]; simp) (Nat.zero_le _)
          rw [Nat.add_zero] at e
          rw [e, if_neg (show ¬ n 1 + 400 < 400 by omega), if_neg (show ¬ 0 < nI 0 by decide)]
          exact ⟨_, n, m, rfl, rfl, h⟩
      · have hn : n 1 < 400 := by
          rcases Nat.lt_or_ge (n 1) 400 with q | q
          · exact q
          · have e4 : n 1 = 400 := by omega
            exfalso
            rcases h9.2.2.2 p hp e4 with q2 | q2
            · have := (h 8 : a_B8 c n m M).2.2.2.1 p hp e4 q2
              rw [z2] at this
              exact absurd this (by decide)
            · have := nI_inj (j := 0) (by omega) (by omega) (eH.symm.trans q2)
              omega
        rw [if_neg (show ¬ nI H ≤ nI L from nI_nl2 H L (by omega) (by omega) (by omega))]
        obtain ⟨f, hf⟩ : ∃ f, q_fu = f + 1 := ⟨q_fu - 1, by omega⟩
        have g1 : (nI H).toInt64.toInt = H := (Int32.toInt_toInt64 _).trans (nI_toInt (by omega))
        have g2 : (nI L).toInt64.toInt = L := (Int32.toInt_toInt64 _).trans (nI_toInt (by omega))
        rw [hf, b_X12_fades_51, if_neg (show ¬ (400 : Int32) ≤ nI (n 1) from nI_ge (a := n 1) (b := 400) hn (by omega)), w_ld (show p < 24 by omega) (by decide), eL, if_neg (fun q => by have := a_cmp.mp q; omega)]
        unfold b_X12_fades_79
        rw [w_ld (show p < 24 by omega) (by decide), eL, if_neg (fun q => by have := a_cmp.mp q; rw [show (nI H).toInt64 + 0 = (nI H).toInt64 from by simp] at this; omega)]
        exact ⟨_, n, m, rfl, rfl, h⟩
    · rw [s_wallOf0 h hp z2, Option.bind_some, if_neg z2]
      unfold b_X11_fades_25
      rw [if_neg (by omega), if_pos rfl]
      exact ⟨_, n, m, rfl, rfl, h⟩
  · rw [s_picAt0 h z1, h.isPicture0 z1, Option.bind_some, Option.bind_some, if_pos rfl, if_pos rfl]
    unfold b_X11_fades_25
    rw [if_pos rfl]
    exact ⟨_, n, m, rfl, rfl, h⟩
