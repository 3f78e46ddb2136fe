/-! best: what the class chooses and compares -/
theorem b_ush1 (x : Int32) {r : Nat} (hr : r < 32) : (x.toUInt32 >>> ((nI r).toUInt32 &&& Int32.toUInt32 31)).toInt32 &&& 1 = 0 ↔ bt x r = false := by
  have := b_and1 (x := (x.toUInt32 >>> ((nI r).toUInt32 &&& Int32.toUInt32 31)).toInt32) (i := 0) (by decide)
  rw [show (1 : Int32) <<< (nI 0 &&& 31) = 1 from by decide, b_ushr r hr] at this
  exact this
/-- the chosen ones, so far -/
def a_co (bits : Int32) (i k : Nat) (ch : Nat → Nat) : Prop := k = fb_ct (bt bits) i ∧ (∀ j, j < k → ch j < i ∧ bt bits (ch j) = true) ∧ (∀ j l, j < l → l < k → ch j < ch l) ∧ ∀ p, p < i → bt bits p = true → ∃ j, j < k ∧ ch j = p
theorem a_co.skip {bits : Int32} {i k : Nat} {ch : Nat → Nat} (h : a_co bits i k ch) (hb : bt bits i = false) : a_co bits (i + 1) k ch := by
  obtain ⟨h1, h2, h3, h4⟩ := h
  refine ⟨by rw [fb_ct_succ, hb, if_neg (by decide)]; exact h1, fun j hj => ⟨by have := (h2 j hj).1; omega, (h2 j hj).2⟩, h3, fun p hp hz => ?_⟩
  by_cases e : p = i
  · rw [e, hb] at hz
    cases hz
  · exact h4 p (by omega) hz
theorem a_co.add {bits : Int32} {i k : Nat} {ch : Nat → Nat} (h : a_co bits i k ch) (hb : bt bits i = true) : a_co bits (i + 1) (k + 1) (fun j => if j = k then i else ch j) := by
  obtain ⟨h1, h2, h3, h4⟩ := h
  refine ⟨by rw [fb_ct_succ, hb, if_pos rfl, h1], fun j hj => ?_, fun j l hjl hl => ?_, fun p hp hz => ?_⟩
  · by_cases e : j = k
    · subst e
      dsimp only
      rw [if_pos rfl]
      exact ⟨by omega, hb⟩
    · dsimp only
      rw [if_neg e]
      have := h2 j (by omega)
      exact ⟨by omega, this.2⟩
  · dsimp only
    rw [if_neg (show j ≠ k by omega)]
    by_cases e : l = k
    · rw [if_pos e]
      exact (h2 j (by omega)).1
    · rw [if_neg e]
      exact h3 j l hjl (by omega)
  · by_cases e : p = i
    · exact ⟨k, by omega, by dsimp only; rw [if_pos rfl, e]⟩
    · obtain ⟨j, j1, j2⟩ := h4 p (by omega) hz
      exact ⟨j, by omega, by dsimp only; rw [if_neg (by omega)]; exact j2⟩
/-- nothing but the chosen row -/
def a_w33 (M M' : q_MM) : Prop := ∀ o, o ≠ 33 → o ≠ 83 → M' o = M o
theorem a_X.w33 {c n : Nat → Nat} {m M M' : q_MM} (h : a_X c n m M) (hM : a_w33 M M') : a_X c n m M' := h.scr (fun o j => by
  by_cases e : o = 33 ∨ o = 83
  · rcases e with rfl | rfl <;> exact Or.inr (Or.inl rfl)
  · rw [hM o (by omega) (by omega)]
    exact Or.inr (Or.inr rfl))
theorem s_choose_loop {c : Nat → Nat} {M0 : q_MM} {bits : Int32} (h7 : fb_ct (bt bits) 32 ≤ 7) : ∀ (d i nf k : Nat) (ch : Nat → Nat) (M : q_MM), i + d = 32 → d < nf → a_w33 M0 M → M 33 1 = nI k → (∀ j, j < k → M 83 j = nI (ch j)) → a_co bits i k ch → ∃ k' ch' M', b_X6_choose_24 c nf bits (nI i) M = (f_X6_arePresent c M' 33).bind (fun r2 => q_bl r2 (some (r2, M'))) ∧ a_w33 M0 M' ∧ M' 33 1 = nI k' ∧ (∀ j, j < k' → M' 83 j = nI (ch' j)) ∧ a_co bits 32 k' ch'
  | d, i, 0, _, _, _, _, h, _, _, _, _ => absurd h (Nat.not_lt_zero _)
  | 0, i, nf + 1, k, ch, M, hi, _, hM, hk, h83, hco => by
    have : i = 32 := by omega
    subst this
    exact ⟨k, ch, M, by rw [b_X6_choose_24, if_pos (show (32 : Int32) ≤ nI 32 by decide)], hM, hk, h83, hco⟩
  | d + 1, i, nf + 1, k, ch, M, hi, hf, hM, hk, h83, hco => by
    rw [b_X6_choose_24, if_neg (show ¬ (32 : Int32) ≤ nI i from nI_ge (a := i) (b := 32) (by omega) (by decide))]
    unfold b_X6_choose_46
    rw [nI_1]
    cases z : bt bits i
    · rw [if_pos ((b_ush1 bits (by omega)).mpr z)]
      exact s_choose_loop h7 d (i + 1) nf k ch M (by omega) (by omega) hM hk h83 (hco.skip z)
    · have mono : fb_ct (bt bits) (i + 1) ≤ fb_ct (bt bits) 32 := fb_ct_mono _ (by omega)
      rw [fb_ct_succ, z, if_pos rfl, ← hco.1] at mono
      rw [if_neg (fun q => by rw [(b_ush1 bits (by omega)).mp q] at z; cases z), s_add (r := 83) (N := 7) (k := k) (by decide) hk (by omega), Option.bind_some]
      refine s_choose_loop h7 d (i + 1) nf (k + 1) (fun j => if j = k then i else ch j) _ (by omega) (by omega) (fun o o1 o2 => ?_) q_u2_eq (fun j hj => ?_) (hco.add z)
      · funext j
        rw [q_u2_ne (fun q => o1 q.1), q_u2_ne (fun q => o2 q.1), hM o o1 o2]
      · rw [q_u2_ne (by omega)]
        by_cases e : j = k
        · subst e
          rw [q_u2_eq, if_pos rfl]
        · rw [q_u2_ne (by omega), if_neg e]
          exact h83 j (by omega)
theorem s_present_loop {c n : Nat → Nat} {m M : q_MM} (h : a_X c n m M) {k : Nat} {ch : Nat → Nat} (hk : M 33 1 = nI k) (hk7 : k ≤ 7) (h83 : ∀ j, j < k → M 83 j = nI (ch j)) (h32 : ∀ j, j < k → ch j < 32) : ∀ (d i nf : Nat), i + d = k → d < nf → b_X6_arePresent_2 c M nf 33 (nI i) = some (a_if (∀ j, i ≤ j → j < k → a_here c m (nI (ch j))) 1 0)
  | d, i, 0, _, h => absurd h (Nat.not_lt_zero _)
  | 0, i, nf + 1, hi, _ => by
    have : i = k := by omega
    subst this
    rw [b_X6_arePresent_2, w_ck (show qTX c 33 = 14 from rfl), hk, if_pos (nI_le (by omega) (by omega)), w_bl1, a_ifp (fun j h1 h2 => by omega)]
  | d + 1, i, nf + 1, hi, hf => by
    have ih := s_present_loop h hk hk7 h83 h32 d (i + 1) nf (by omega) (by omega)
    have hi32 := h32 i (by omega)
    rw [b_X6_arePresent_2, w_ck (show qTX c 33 = 14 from rfl), hk, if_neg (nI_ge (by omega) (by omega)), s_get1 (r := 83) (N := 7) (k := k) (by decide) hk hk7 (by omega), Option.bind_some, h83 i (by omega), nI_1]
    by_cases z : a_here c m (nI (ch i))
    · obtain ⟨p, hp, e, hs⟩ := id z
      have hC2 := h.C.2.2.1
      have ep : ch i = p := nI_inj (by omega) (by omega) e
      rw [ep, s_present1 h hp hs, Option.bind_some, if_neg (by omega), ih]
      congr 1
      apply a_if_iff
      constructor
      · intro q j h1 h2
        by_cases e2 : j = i
        · rw [e2]; exact z
        · exact q j (by omega) h2
      · exact fun q j h1 h2 => q j (by omega) h2
    · rw [s_present0 h z, Option.bind_some, if_pos rfl, w_bl0, a_ifn (fun q => z (q i (Nat.le_refl i) (by omega)))]
/-- what can be chosen -/
def a_gd (c : Nat → Nat) (m : q_MM) (bits : Int32) : Prop := bits ≠ 0 ∧ fb_ct (bt bits) 32 ≤ 7 ∧ ∀ p, p < 32 → bt bits p = true → a_here c m (nI p)
theorem s_choose {c n : Nat → Nat} {m M : q_MM} (h : a_X c n m M) (bits : Int32) : ∃ M', a_w33 M M' ∧ ((¬ a_gd c m bits ∧ f_X6_choose c M bits = some (0, M')) ∨ (a_gd c m bits ∧ f_X6_choose c M bits = some (1, M') ∧ ∃ k ch, 1 ≤ k ∧ k ≤ 7 ∧ M' 33 1 = nI k ∧ (∀ j, j < k → M' 83 j = nI (ch j)) ∧ a_co bits 32 k ch)) := by
  have hfu := q_fu_le
  unfold f_X6_choose
  by_cases z0 : bits = 0
  · rw [if_pos z0]
    exact ⟨M, fun _ _ _ => rfl, Or.inl ⟨fun q => q.1 z0, by rw [w_bl0]⟩⟩
  · rw [if_neg z0, s_bits, Option.bind_some]
    have le32 : fb_ct (bt bits) 32 ≤ 32 := fb_ct_le _ 32
    by_cases z1 : fb_ct (bt bits) 32 ≤ 7
    · rw [if_pos (show nI _ ≤ (7 : Int32) from nI_le (b := 7) z1 (by decide)), s_clear (r := 83) (N := 7) (by decide), Option.bind_some, show (0 : Int32) = nI 0 from rfl]
      obtain ⟨k, ch, M', g1, g2, g3, g4, g5⟩ := s_choose_loop (c := c) (M0 := M) z1 32 0 q_fu 0 (fun _ => 0) (q_u2 M 33 1 (nI 0)) (by omega) (by omega) (fun o o1 o2 => funext fun j => q_u2_ne (fun q => o1 q.1)) q_u2_eq (fun j hj => absurd hj (Nat.not_lt_zero _)) ⟨rfl, fun j hj => absurd hj (Nat.not_lt_zero _), fun j l _ hl => absurd hl (Nat.not_lt_zero _), fun p hp => absurd hp (Nat.not_lt_zero _)⟩
      have hk7 : k ≤ 7 := by rw [g5.1]; exact z1
      have pr := s_present_loop (h.w33 g2) g3 hk7 g4 (fun j hj => (g5.2.1 j hj).1) k 0 q_fu (by omega) (by omega)
      refine ⟨M', g2, ?_⟩
      rw [g1]
      unfold f_X6_arePresent
      rw [show (0 : Int32) = nI 0 from rfl, pr, Option.bind_some]
      have iff : (∀ j, 0 ≤ j → j < k → a_here c m (nI (ch j))) ↔ ∀ p, p < 32 → bt bits p = true → a_here c m (nI p) := by
        constructor
        · intro q p hp hb
          obtain ⟨j, j1, j2⟩ := g5.2.2.2 p hp hb
          rw [← j2]
          exact q j (Nat.zero_le j) j1
        · exact fun q j _ hj => q _ (g5.2.1 j hj).1 (g5.2.1 j hj).2
      by_cases z2 : ∀ p, p < 32 → bt bits p = true → a_here c m (nI p)
      · rw [a_ifp (iff.mpr z2), w_bl1]
        refine Or.inr ⟨⟨z0, z1, z2⟩, rfl, k, ch, ?_, hk7, g3, g4, g5⟩
        apply Classical.byContradiction
        intro q
        have k0 : fb_ct (bt bits) 32 = 0 := by rw [← g5.1]; omega
        exact z0 (b_ext fun i hi => by rw [fb_ct_zero.mp k0 i hi, b_0])
      · rw [a_ifn (fun q => z2 (iff.mp q)), w_bl0]
        exact Or.inl ⟨fun q => z2 q.2.2, rfl⟩
    · rw [if_neg (show ¬ nI _ ≤ (7 : Int32) from nI_ge (a := 7) (by omega) (by omega)), w_bl0]
      exact ⟨M, fun _ _ _ => rfl, Or.inl ⟨fun q => z1 q.2.1, rfl⟩⟩
/-- sums over the chosen ones -/
def a_ac (b : Int32) (f : Nat → Int32) : Nat → Int32
  | 0 => b
  | i + 1 => a_ac b f i + f i
theorem a_ac_s {b : Int32} {f : Nat → Int32} {i : Nat} : a_ac b f (i + 1) = a_ac b f i + f i := rfl
/-- the chosen row stands -/
def a_cr (c : Nat → Nat) (M : q_MM) (k : Nat) (ch : Nat → Nat) : Prop := 1 ≤ k ∧ k ≤ 7 ∧ M 33 1 = nI k ∧ (∀ j, j < k → M 83 j = nI (ch j) ∧ ch j < c 2) ∧ ∀ j l, j < l → l < k → ch j < ch l
theorem a_cr.inj {c : Nat → Nat} {M : q_MM} {k : Nat} {ch : Nat → Nat} (h : a_cr c M k ch) {i j : Nat} (hi : i < k) (hj : j < k) (e : ch i = ch j) : i = j := by
  rcases Nat.lt_trichotomy i j with q | q | q
  · have := h.2.2.2.2 i j q hj; omega
  · exact q
  · have := h.2.2.2.2 j i q hi; omega
theorem s_chosenAt {c n : Nat → Nat} {m M : q_MM} (h : a_X c n m M) {k i : Nat} {ch : Nat → Nat} (hr : a_cr c M k ch) (hi : i < k) : f_X6_chosenAt c M (nI i) = some (1300 + ch i) := by
  have e := hr.2.2.2.1 i hi
  unfold f_X6_chosenAt
  rw [s_get1 (r := 83) (N := 7) (k := k) (by decide) hr.2.2.1 hr.2.1 hi, Option.bind_some, e.1, s_picAt1 h e.2, Option.bind_some]
theorem s_len_loop {c n : Nat → Nat} {m M : q_MM} (h : a_X c n m M) {k : Nat} {ch : Nat → Nat} (hr : a_cr c M k ch) (b : Int32) : ∀ (d i nf : Nat), i + d = k → d < nf → b_X6_lengthOfAll_22 c M nf (a_ac b (fun i => m 5029 (ch i)) i) (nI i) = some (a_ac b (fun i => m 5029 (ch i)) k)
  | d, i, 0, _, h => absurd h (Nat.not_lt_zero _)
  | 0, i, nf + 1, hi, _ => by
    have hk7 := hr.2.1
    have : i = k := by omega
    subst this
    rw [b_X6_lengthOfAll_22, hr.2.2.1, if_pos (nI_le (by omega) (by omega))]
  | d + 1, i, nf + 1, hi, hf => by
    have hk7 := hr.2.1
    have hp := (hr.2.2.2.1 i (by omega)).2
    have e1 : M (1300 + ch i) 1 = m 5029 (ch i) := ((h 7 : a_B7 c n m M).2.2.2.1 _ hp).1.2.1
    rw [b_X6_lengthOfAll_22, hr.2.2.1, if_neg (nI_ge (by omega) (by omega)), s_chosenAt h hr (by omega), Option.bind_some, if_neg (by omega), w_ck (t_pic h.C hp)]
    unfold b_X6_lengthOfAll_52
    rw [w_let, e1, nI_1]
    exact s_len_loop h hr b d (i + 1) nf (by omega) (by omega)
theorem s_len {c n : Nat → Nat} {m M : q_MM} (h : a_X c n m M) {k : Nat} {ch : Nat → Nat} (hr : a_cr c M k ch) : f_X6_lengthOfAll c M = some (a_ac (m 5027 1 * nI (k - 1)) (fun i => m 5029 (ch i)) k) := by
  have hfu := q_fu_le
  have hk7 := hr.2.1
  unfold f_X6_lengthOfAll
  rw [w_ld1, (h 6 : a_B6 c n m M).1 1 (by decide), w_let, hr.2.2.1, show nI k - 1 = nI (k - 1) from by rw [show (1 : Int32) = nI 1 from rfl, pk_sub hr.1], Int32.mul_comm]
  exact s_len_loop h hr _ k 0 q_fu (by omega) (by omega)
def a_fit (m : q_MM) (k w : Nat) (ch : Nat → Nat) (i : Nat) : Prop := a_hi m (ch i) w ∧ ∀ j, j < k → m 5037 (ch i) ≠ nI (ch j)
def a_goes (m : q_MM) (k w : Nat) (ch : Nat → Nat) : Prop := (∀ i, i < k → a_fit m k w ch i) ∧ ¬ m 5023 w < a_ac 0 (fun i => m 5031 (ch i)) k ∧ ¬ m 5021 w < a_ac (m 5027 1 * nI (k - 1)) (fun i => m 5029 (ch i)) k
theorem s_goOn_loop {c n : Nat → Nat} {m M : q_MM} (h : a_X c n m M) {k w : Nat} {ch : Nat → Nat} (hr : a_cr c M k ch) (hw : w < c 1) : ∀ (d i nf : Nat), i + d = k → d < nf → (∀ j, j < i → a_fit m k w ch j) → b_X6_goOn_4 c M nf (1100 + w) (a_ac 0 (fun i => m 5031 (ch i)) i) (nI i) = some (a_if (a_goes m k w ch) 1 0)
  | d, i, 0, _, h, _ => absurd h (Nat.not_lt_zero _)
  | 0, i, nf + 1, hi, _, hlow => by
    have hk7 := hr.2.1
    have : i = k := by omega
    subst this
    have g5 := ((h 5 : a_B5 c n m M).2.2.2.1 w hw).1
    rw [b_X6_goOn_4, hr.2.2.1, if_pos (nI_le (by omega) (by omega)), w_ck (t_wall h.C hw), g5.2.2.2.2.1]
    by_cases z1 : m 5023 w < a_ac 0 (fun i => m 5031 (ch i)) i
    · rw [if_pos z1, w_bl0, a_ifn (fun q => q.2.1 z1)]
    · rw [if_neg z1, s_len h hr, Option.bind_some, g5.2.2.1]
      by_cases z2 : m 5021 w < a_ac (m 5027 1 * nI (i - 1)) (fun i => m 5029 (ch i)) i
      · rw [if_pos z2, w_bl0, a_ifn (fun q => q.2.2 z2)]
      · rw [if_neg z2, w_bl1, a_ifp ⟨hlow, z1, z2⟩]
  | d + 1, i, nf + 1, hi, hf, hlow => by
    have hk7 := hr.2.1
    have hp := (hr.2.2.2.1 i (by omega)).2
    have g7 := ((h 7 : a_B7 c n m M).2.2.2.1 _ hp).1
    rw [b_X6_goOn_4, hr.2.2.1, if_neg (nI_ge (by omega) (by omega)), s_chosenAt h hr (by omega), Option.bind_some, if_neg (by omega), s_tooHigh h.Y hp hw, Option.bind_some]
    by_cases z1 : a_hi m (ch i) w
    · rw [a_ifp z1, if_pos rfl, w_ck (t_pic h.C hp), g7.2.2.2.2.2.2.2.2.2.1, s_find (r := 83) (N := 7) (by decide) hr.2.2.1 (by omega), Option.bind_some]
      by_cases z2 : ∀ j, j < k → m 5037 (ch i) ≠ nI (ch j)
      · rw [if_pos ((a_fnd_no (by omega)).mpr (fun j _ hj => by rw [(hr.2.2.2.1 j (by omega)).1]; exact (z2 j (by omega)).symm)), w_let, g7.2.2.2.1, nI_1]
        exact s_goOn_loop h hr hw d (i + 1) nf (by omega) (by omega) (fun j hj => by
          by_cases e : j = i
          · rw [e]; exact ⟨z1, z2⟩
          · exact hlow j (by omega))
      · rw [if_neg (fun q => z2 (fun j hj e => (a_fnd_no (by omega)).mp q j (Nat.zero_le j) (by omega) (by rw [(hr.2.2.2.1 j hj).1]; exact e.symm))), w_bl0, a_ifn (fun q => z2 (q.1 i (by omega)).2)]
    · rw [a_ifn z1, if_neg (show ¬ (1 : Int32) = 0 by decide), w_bl0, a_ifn (fun q => z1 (q.1 i (by omega)).1)]
theorem s_goOn {c n : Nat → Nat} {m M : q_MM} (h : a_X c n m M) {k w : Nat} {ch : Nat → Nat} (hr : a_cr c M k ch) (hw : w < c 1) : f_X6_goOn c M (1100 + w) = some (a_if (a_goes m k w ch) 1 0) := by
  have hfu := q_fu_le
  have hk7 := hr.2.1
  unfold f_X6_goOn
  exact s_goOn_loop h hr hw k 0 q_fu (by omega) (by omega) (fun j hj => absurd hj (Nat.not_lt_zero _))
/-! the model's check -/
theorem s_areFoes {c n : Nat → Nat} {m M m1 : q_MM} (h : a_X c n m M) (e37 : m1 5037 = m 5037) {p q : Nat} (hp : p < c 2) (hq : q < c 2) : f_X12_areFoes m1 (nI p) (nI q) = some (a_if (m 5037 p = nI q ∨ m 5037 q = nI p) 1 0) := by
  have hC2 := h.C.2.2.1
  unfold f_X12_areFoes b_X12_areFoes_20
  rw [w_ld (by omega) (by decide), w_ld (by omega) (by decide), e37]
  by_cases z1 : m 5037 p = nI q
  · rw [if_pos z1, w_bl1, a_ifp (Or.inl z1)]
  · rw [if_neg z1]
    by_cases z2 : m 5037 q = nI p
    · rw [if_pos z2, w_bl1, a_ifp (Or.inr z2)]
    · rw [if_neg z2, w_bl0, a_ifn (fun q => q.elim z1 z2)]
def a_nof (m : q_MM) (bits : Int32) (p o : Nat) : Prop := bt bits o = true → ¬ (m 5037 o = nI p ∨ m 5037 p = nI o)
theorem s_can_in {c n : Nat → Nat} {m M m1 : q_MM} (h : a_X c n m M) (e37 : m1 5037 = m 5037) {bits : Int32} {p : Nat} (hp : p < c 2) {x1 x3 x4 : Int32} {k23 : Int32 → Int32 → Int32 → Int32 → Int32 → Int32 → Option Int32} : ∀ (d o nf : Nat) (acc : Int32), o + d = p → d < nf → (acc = 0 ∨ acc = 1) → b_X12_canBe_91 m1 k23 nf x1 bits x3 x4 acc (nI p) (nI o) = k23 x1 bits x3 x4 (a_if (acc = 1 ∧ ∀ o', o ≤ o' → o' < p → a_nof m bits p o') 1 0) (nI (p + 1))
  | d, o, 0, _, _, h, _ => absurd h (Nat.not_lt_zero _)
  | 0, o, nf + 1, acc, hi, _, hacc => by
    have hC2 := h.C.2.2.1
    have : o = p := by omega
    subst this
    rw [b_X12_canBe_91, if_pos (nI_le (by omega) (by omega))]
    unfold b_X12_canBe_136
    rw [nI_1]
    rcases hacc with rfl | rfl
    · rw [a_ifn (fun q => absurd q.1 (by decide))]
    · rw [a_ifp ⟨rfl, fun b' q1 q2 => by omega⟩]
  | d + 1, o, nf + 1, acc, hi, hf, hacc => by
    have hC2 := h.C.2.2.1
    rw [b_X12_canBe_91, if_neg (nI_ge (by omega) (by omega))]
    unfold b_X12_canBe_127 b_X12_canBe_123 b_X12_canBe_128
    rw [nI_1]
    have bad : (acc = 1 → ¬ a_nof m bits p o) → b_X12_canBe_91 m1 k23 nf x1 bits x3 x4 0 (nI p) (nI (o + 1)) = k23 x1 bits x3 x4 (a_if (acc = 1 ∧ ∀ o', o ≤ o' → o' < p → a_nof m bits p o') 1 0) (nI (p + 1)) := fun q => by
      rw [s_can_in h e37 hp d (o + 1) nf 0 (by omega) (by omega) (Or.inl rfl), a_ifn (fun q2 => absurd q2.1 (by decide)), a_ifn (fun q2 => q q2.1 (q2.2 o (Nat.le_refl o) (by omega)))]
    have good : acc = 1 → a_nof m bits p o → b_X12_canBe_91 m1 k23 nf x1 bits x3 x4 1 (nI p) (nI (o + 1)) = k23 x1 bits x3 x4 (a_if (acc = 1 ∧ ∀ o', o ≤ o' → o' < p → a_nof m bits p o') 1 0) (nI (p + 1)) := fun e q => by
      rw [s_can_in h e37 hp d (o + 1) nf 1 (by omega) (by omega) (Or.inr rfl)]
      congr 1
      apply a_if_iff
      constructor
      · rintro ⟨-, q2⟩
        refine ⟨e, fun b' b1 b2 => ?_⟩
        by_cases eb : b' = o
        · subst eb
          exact q
        · exact q2 b' (by omega) b2
      · exact fun q2 => ⟨rfl, fun b' b1 b2 => q2.2 b' (by omega) b2⟩
    rcases hacc with rfl | rfl
    · rw [if_pos rfl]
      exact bad (fun q => absurd q (by decide))
    · rw [if_neg (show ¬ (1 : Int32) = 0 by decide)]
      by_cases z : bt bits o = true
      · rw [if_neg (fun q => by rw [(b_sh1 _ (by omega)).mp q] at z; cases z), s_areFoes h e37 (show o < c 2 by omega) hp, Option.bind_some]
        by_cases z2 : m 5037 o = nI p ∨ m 5037 p = nI o
        · rw [a_ifp z2, if_neg (show ¬ (1 : Int32) = 0 by decide)]
          exact bad (fun _ q => q z z2)
        · rw [a_ifn z2, if_pos rfl]
          exact good rfl (fun _ => z2)
      · rw [if_pos ((b_sh1 _ (by omega)).mpr (by simpa using z))]
        exact good rfl (fun q => absurd q z)
def a_pg (m : q_MM) (bits : Int32) (w p : Nat) : Prop := bt bits p = true → a_hi m p w ∧ ∀ o, o < p → a_nof m bits p o
theorem s_can_loop {c n : Nat → Nat} {m M m1 : q_MM} (h : a_X c n m M) (er : ∀ o, o ≠ 5001 → m1 o = m o) (e18 : m1 5001 18 = nI (c 2)) {bits : Int32} {w k : Nat} {ch : Nat → Nat} (hw : w < c 1) (hco : a_co bits 32 k ch) {b : Int32} : ∀ (d p i nf : Nat) (acc : Int32), p + d = c 2 → d < nf → (acc = 0 ∨ acc = 1) → (∀ j, j < i → ch j < p) → (∀ j, i ≤ j → j < k → p ≤ ch j) → i ≤ k → b_X12_canBe_23 m1 nf (nI w) bits (a_ac b (fun i => m 5029 (ch i)) i) (a_ac 0 (fun i => m 5031 (ch i)) i) acc (nI p) = (if a_if (acc = 1 ∧ ∀ p', p ≤ p' → p' < c 2 → a_pg m bits w p') (1 : Int32) 0 = 0 then some 0 else if m 5021 w < a_ac b (fun i => m 5029 (ch i)) k then some 0 else if m 5023 w < a_ac 0 (fun i => m 5031 (ch i)) k then some 0 else some 1) ∨ ¬ ∀ j, j < k → ch j < c 2
  | d, p, i, 0, _, _, h, _, _, _, _ => absurd h (Nat.not_lt_zero _)
  | 0, p, i, nf + 1, acc, hi, _, hacc, hlo, hhi, hik => by
    have hC1 := h.C.2.1
    have hC2 := h.C.2.2.1
    by_cases hch : ∀ j, j < k → ch j < c 2
    · left
      have : i = k := by
        apply Classical.byContradiction
        intro z
        have := hhi i (Nat.le_refl i) (by omega)
        have := hch i (by omega)
        omega
      subst this
      rw [b_X12_canBe_23, e18, if_pos (nI_le (by omega) (by omega))]
      rw [show a_if (acc = 1 ∧ ∀ p', p ≤ p' → p' < c 2 → a_pg m bits w p') (1 : Int32) 0 = acc from by
        rcases hacc with rfl | rfl
        · exact a_ifn (fun q => absurd q.1 (by decide))
        · exact a_ifp ⟨rfl, fun p' q1 q2 => by omega⟩]
      rw [w_ld (by omega) (by decide), w_ld (by omega) (by decide), er 5021 (by decide), er 5023 (by decide)]
      simp only [w_bl0, w_bl1]
    · exact Or.inr hch
  | d + 1, p, i, nf + 1, acc, hi, hf, hacc, hlo, hhi, hik => by
    have hfu := q_fu_le
    have hC1 := h.C.2.1
    have hC2 := h.C.2.2.1
    have hp : p < c 2 := by omega
    by_cases hch : ∀ j, j < k → ch j < c 2
    · have fin : ∀ (acc' : Int32) (i' : Nat), (acc' = 0 ∨ acc' = 1) → ((acc' = 1) ↔ (acc = 1 ∧ a_pg m bits w p)) → (∀ j, j < i' → ch j < p + 1) → (∀ j, i' ≤ j → j < k → p + 1 ≤ ch j) → i' ≤ k → b_X12_canBe_23 m1 nf (nI w) bits (a_ac b (fun i => m 5029 (ch i)) i') (a_ac 0 (fun i => m 5031 (ch i)) i') acc' (nI (p + 1)) = (if a_if (acc = 1 ∧ ∀ p', p ≤ p' → p' < c 2 → a_pg m bits w p') (1 : Int32) 0 = 0 then some 0 else if m 5021 w < a_ac b (fun i => m 5029 (ch i)) k then some 0 else if m 5023 w < a_ac 0 (fun i => m 5031 (ch i)) k then some 0 else some 1) := by
        intro acc' i' q1 q2 q3 q4 q5
        have := (s_can_loop h er e18 hw hco (b := b) d (p + 1) i' nf acc' (by omega) (by omega) q1 q3 q4 q5).resolve_right (fun q => q hch)
        rw [this]
        have : (acc' = 1 ∧ ∀ p', p + 1 ≤ p' → p' < c 2 → a_pg m bits w p') ↔ (acc = 1 ∧ ∀ p', p ≤ p' → p' < c 2 → a_pg m bits w p') := by
          rw [q2]
          constructor
          · rintro ⟨⟨g1, g2⟩, g3⟩
            refine ⟨g1, fun p' b1 b2 => ?_⟩
            by_cases e : p' = p
            · rw [e]; exact g2
            · exact g3 p' (by omega) b2
          · exact fun ⟨g1, g2⟩ => ⟨⟨g1, g2 p (Nat.le_refl p) hp⟩, fun p' b1 b2 => g2 p' (by omega) b2⟩
        rw [a_if_iff this]
      left
      rw [b_X12_canBe_23, e18, if_neg (nI_ge (by omega) (by omega))]
      unfold b_X12_canBe_136
      rw [nI_1]
      by_cases zb : bt bits p = true
      · obtain ⟨j, j1, j2⟩ := hco.2.2.2 p (by omega) zb
        have ji : j = i := by
          rcases Nat.lt_trichotomy j i with q | q | q
          · have := hlo j q; omega
          · exact q
          · have := hhi i (Nat.le_refl i) (by omega)
            have := hco.2.2.1 i j q j1
            omega
        subst ji
        have nlo : ∀ l, l < j + 1 → ch l < p + 1 := fun l hl => by
          by_cases e : l = j
          · rw [e, j2]; omega
          · have := hlo l (by omega); omega
        have nhi : ∀ l, j + 1 ≤ l → l < k → p + 1 ≤ ch l := fun l h1 h2 => by
          have := hco.2.2.1 j l (by omega) h2
          omega
        rw [if_neg (fun q => by rw [(b_sh1 _ (by omega)).mp q] at zb; cases zb), w_ld (by omega) (by decide), er 5029 (by decide), w_let, w_ld (by omega) (by decide), er 5031 (by decide), w_let]
        unfold b_X12_canBe_85 b_X12_canBe_86
        have inner : ∀ v : Int32, (v = 0 ∨ v = 1) → (v = 1 ↔ acc = 1 ∧ a_hi m p w) → b_X12_canBe_91 m1 (b_X12_canBe_23 m1 nf) q_fu (nI w) bits (a_ac b (fun i => m 5029 (ch i)) j + m 5029 p) (a_ac 0 (fun i => m 5031 (ch i)) j + m 5031 p) v (nI p) 0 = (if a_if (acc = 1 ∧ ∀ p', p ≤ p' → p' < c 2 → a_pg m bits w p') (1 : Int32) 0 = 0 then some 0 else if m 5021 w < a_ac b (fun i => m 5029 (ch i)) k then some 0 else if m 5023 w < a_ac 0 (fun i => m 5031 (ch i)) k then some 0 else some 1) := by
          intro v hv hv2
          rw [show b_X12_canBe_91 m1 (b_X12_canBe_23 m1 nf) q_fu (nI w) bits (a_ac b (fun i => m 5029 (ch i)) j + m 5029 p) (a_ac 0 (fun i => m 5031 (ch i)) j + m 5031 p) v (nI p) 0 = b_X12_canBe_91 m1 (b_X12_canBe_23 m1 nf) q_fu (nI w) bits (a_ac b (fun i => m 5029 (ch i)) j + m 5029 p) (a_ac 0 (fun i => m 5031 (ch i)) j + m 5031 p) v (nI p) (nI 0) from rfl, s_can_in h (er 5037 (by decide)) hp p 0 q_fu v (by omega) (by omega) hv, show a_ac b (fun i => m 5029 (ch i)) j + m 5029 p = a_ac b (fun i => m 5029 (ch i)) (j + 1) from by rw [a_ac_s, j2], show a_ac 0 (fun i => m 5031 (ch i)) j + m 5031 p = a_ac 0 (fun i => m 5031 (ch i)) (j + 1) from by rw [a_ac_s, j2]]
          refine fin _ (j + 1) ?_ ?_ nlo nhi (by omega)
          · by_cases z : v = 1 ∧ ∀ o', 0 ≤ o' → o' < p → a_nof m bits p o'
            · rw [a_ifp z]; exact Or.inr rfl
            · rw [a_ifn z]; exact Or.inl rfl
          · by_cases z : v = 1 ∧ ∀ o', 0 ≤ o' → o' < p → a_nof m bits p o'
            · rw [a_ifp z]
              exact ⟨fun _ => ⟨(hv2.mp z.1).1, fun _ => ⟨(hv2.mp z.1).2, fun o ho => z.2 o (Nat.zero_le o) ho⟩⟩, fun _ => rfl⟩
            · rw [a_ifn z]
              exact ⟨fun q => absurd q (by decide), fun q => absurd ⟨hv2.mpr ⟨q.1, (q.2 zb).1⟩, fun o _ ho => (q.2 zb).2 o ho⟩ z⟩
        rcases hacc with rfl | rfl
        · rw [if_pos rfl]
          exact inner 0 (Or.inl rfl) ⟨fun q => absurd q (by decide), fun q => absurd q.1 (by decide)⟩
        · rw [if_neg (show ¬ (1 : Int32) = 0 by decide)]
          have eh : f_X12_isHigh m1 (nI p) (nI w) = some (a_if (a_hi m p w) 1 0) := by
            rw [s_isHigh (by omega) (by omega)]
            unfold a_hi
            rw [er 5027 (by decide), er 5030 (by decide), er 5022 (by decide)]
          rw [eh, Option.bind_some]
          by_cases zh : a_hi m p w
          · rw [a_ifp zh, if_neg (show ¬ (1 : Int32) = 0 by decide)]
            exact inner 1 (Or.inr rfl) ⟨fun _ => ⟨rfl, zh⟩, fun _ => rfl⟩
          · rw [a_ifn zh, if_pos rfl]
            exact inner 0 (Or.inl rfl) ⟨fun q => absurd q (by decide), fun q => absurd q.2 zh⟩
      · rw [if_pos ((b_sh1 _ (by omega)).mpr (by simpa using zb))]
        refine fin acc i hacc ⟨fun q => ⟨q, fun q2 => absurd q2 zb⟩, fun q => q.1⟩ (fun j hj => by have := hlo j hj; omega) (fun j h1 h2 => ?_) hik
        have g1 := hhi j h1 h2
        by_cases e : ch j = p
        · exact absurd (e ▸ (hco.2.1 j h2).2) zb
        · omega
    · exact Or.inr hch
theorem s_canBe {c n : Nat → Nat} {m M m1 : q_MM} (h : a_X c n m M) (er : ∀ o, o ≠ 5001 → m1 o = m o) (e18 : m1 5001 18 = nI (c 2)) {bits : Int32} {w k : Nat} {ch : Nat → Nat} (e50 : m1 5001 50 = nI k) (hw : w < c 1) (hk1 : 1 ≤ k) (hco : a_co bits 32 k ch) (hch : ∀ j, j < k → ch j < c 2) : f_X12_canBe m1 (nI w) bits = some (a_if (a_goes m k w ch) 1 0) := by
  have hfu := q_fu_le
  have hC2 := h.C.2.2.1
  have h7 := (h 7 : a_B7 c n m M).2.2.2.1
  unfold f_X12_canBe
  rw [w_ld1, er 5027 (by decide), w_let, e50, show nI k - 1 = nI (k - 1) from by rw [show (1 : Int32) = nI 1 from rfl, pk_sub hk1]]
  have := (s_can_loop h er e18 hw hco (b := m 5027 1 * nI (k - 1)) (c 2) 0 0 q_fu 1 (by omega) (by omega) (Or.inr rfl) (fun j hj => absurd hj (Nat.not_lt_zero _)) (fun j _ _ => Nat.zero_le _) (Nat.zero_le k)).resolve_right (fun q => q hch)
  refine this.trans ?_
  have iff : ((1 : Int32) = 1 ∧ ∀ p', 0 ≤ p' → p' < c 2 → a_pg m bits w p') ↔ ∀ i, i < k → a_fit m k w ch i := by
    constructor
    · rintro ⟨-, q⟩ i hi
      have g := q (ch i) (Nat.zero_le _) (hch i hi) (hco.2.1 i hi).2
      refine ⟨g.1, fun j hj e => ?_⟩
      rcases Nat.lt_trichotomy (ch j) (ch i) with l | l | l
      · exact g.2 (ch j) l (hco.2.1 j hj).2 (Or.inr e)
      · rw [l] at e
        exact (h7 _ (hch i hi)).2.2.2.2.2.2.2.2.2.2.2.1 e
      · exact (q (ch j) (Nat.zero_le _) (hch j hj) (hco.2.1 j hj).2).2 (ch i) l (hco.2.1 i hi).2 (Or.inl e)
    · intro q
      refine ⟨rfl, fun p _ hp hb => ?_⟩
      obtain ⟨i, i1, i2⟩ := hco.2.2.2 p (by omega) hb
      subst i2
      refine ⟨(q i i1).1, fun o ho hbo e => ?_⟩
      obtain ⟨j, j1, j2⟩ := hco.2.2.2 o (by omega) hbo
      subst j2
      rcases e with e | e
      · exact (q j j1).2 i i1 e
      · exact (q i i1).2 j j1 e
  rw [a_if_iff iff]
  unfold a_goes
  by_cases z : ∀ i, i < k → a_fit m k w ch i
  · rw [a_ifp z, if_neg (show ¬ (1 : Int32) = 0 by decide)]
    by_cases z1 : m 5021 w < a_ac (m 5027 1 * nI (k - 1)) (fun i => m 5029 (ch i)) k
    · rw [if_pos z1, a_ifn (fun q => q.2.2 z1)]
    · rw [if_neg z1]
      by_cases z2 : m 5023 w < a_ac 0 (fun i => m 5031 (ch i)) k
      · rw [if_pos z2, a_ifn (fun q => q.2.1 z2)]
      · rw [if_neg z2, a_ifp ⟨z, z2, z1⟩]
  · rw [a_ifn z, if_pos rfl, a_ifn (fun q => z q.1)]
