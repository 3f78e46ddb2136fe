/-! shown, owed -/
theorem s_nights_loop {c : Nat → Nat} {M : q_MM} {mask : Int32} {a b : Nat} (hb : b ≤ 400) : ∀ (d t nf : Nat), a + t + d = b → d < nf → b_X2_nightsShown_10 c M nf mask (nI b) (nI (fb_sm (fun t => fb_ct (bt (M 20 (a + t) &&& mask)) 32) t)) (nI (a + t)) = some (nI (fb_sm (fun t => fb_ct (bt (M 20 (a + t) &&& mask)) 32) (b - a)))
  | d, t, 0, _, h => absurd h (Nat.not_lt_zero _)
  | 0, t, nf + 1, hi, _ => by
    rw [b_X2_nightsShown_10, if_pos (nI_le (by omega) (by omega)), show b - a = t by omega]
    rfl
  | d + 1, t, nf + 1, hi, hf => by
    rw [b_X2_nightsShown_10, if_neg (nI_ge (by omega) (by omega)), if_neg (show ¬ (400 : Int32) ≤ nI (a + t) from nI_ge (a := a + t) (b := 400) (by omega) (by decide)), w_ld (by omega) (by decide), s_bits, Option.bind_some, w_let, nI_add, nI_1, ← fb_sm_succ (fun t => fb_ct (bt (M 20 (a + t) &&& mask)) 32), Nat.add_assoc]
    exact s_nights_loop hb d (t + 1) nf (by omega) (by omega)
theorem s_nights {c : Nat → Nat} {M : q_MM} {mask : Int32} {a b : Nat} (hab : a ≤ b) (hb : b ≤ 400) : f_X2_nightsShown c M mask (nI a) (nI b) = some (nI (fb_sm (fun t => fb_ct (bt (M 20 (a + t) &&& mask)) 32) (b - a))) := by
  have hfu := q_fu_le
  unfold f_X2_nightsShown
  rw [w_let]
  have e : (if 0 < nI a then nI a else 0) = nI (a + 0) := by
    split
    · rfl
    · rename_i h
      rcases Nat.eq_zero_or_pos a with z | z
      · rw [z]
        rfl
      · exact absurd (show nI 0 < nI a from nI_lt z (by omega)) h
  rw [e]
  exact s_nights_loop hb (b - a) 0 q_fu (by omega) (by omega)
theorem a_ct1 {q : Nat → Bool} {p : Nat} : ∀ n : Nat, fb_ct (fun i => q i && decide (i = p)) n = if p < n ∧ q p = true then 1 else 0
  | 0 => by
    rw [if_neg (by omega)]
    rfl
  | n + 1 => by
    rw [fb_ct_succ, a_ct1 n]
    rcases Nat.lt_trichotomy p n with h | h | h
    · simp [h, Nat.lt_succ_of_lt h, show ¬ n = p by omega]
    · subst h
      simp
    · simp [show ¬ p < n by omega, show ¬ p < n + 1 by omega, show ¬ n = p by omega]
theorem s_shownM_loop {c n : Nat → Nat} {m M : q_MM} (h : a_X c n m M) {p a b : Nat} (hp : p < 24) (hb : b ≤ 400) : ∀ (d t nf : Nat), a + t + d = b → d < nf → b_X12_shown_46 nf (nI p) (nI b) (nI (fb_sm (fun t => if m 5044 (400 * p + (a + t)) = 1 then 1 else 0) t)) (nI (a + t)) m = some (nI (fb_sm (fun t => if m 5044 (400 * p + (a + t)) = 1 then 1 else 0) (b - a)), m)
  | d, t, 0, _, h => absurd h (Nat.not_lt_zero _)
  | 0, t, nf + 1, hi, _ => by
    rw [b_X12_shown_46, if_pos (nI_le (by omega) (by omega)), show b - a = t by omega]
  | d + 1, t, nf + 1, hi, hf => by
    have h10 := ((h 10 : a_B10 c n m M) p hp (a + t) (by omega)).1
    have ei : (400 : Int32) * nI p + nI (a + t) = nI (400 * p + (a + t)) := by rw [show (400 : Int32) = nI 400 from rfl, pk_mul, nI_add]
    have et : f_X12_truth m (m 5044 (400 * p + (a + t))) = some (nI (if m 5044 (400 * p + (a + t)) = 1 then 1 else 0)) := by
      rcases h10 with e | e
      · rw [e, s_truth0]
        rfl
      · rw [e, s_truth1]
        rfl
    rw [b_X12_shown_46, if_neg (nI_ge (by omega) (by omega)), ei, w_ld (by omega) (by decide), et, Option.bind_some, w_let, nI_add, nI_1, ← fb_sm_succ (fun t => if m 5044 (400 * p + (a + t)) = 1 then 1 else 0), Nat.add_assoc]
    exact s_shownM_loop h hp hb d (t + 1) nf (by omega) (by omega)
theorem pub_shown {c n : Nat → Nat} {m M : q_MM} (h : a_X c n m M) (a1 a2 a3 : Int32) : a_Tr c M (f_X11_shown c M a1 a2 a3) (f_X12_shown m a1 a2 a3) := by
  unfold f_X11_shown f_X12_shown b_X11_shown_37 b_X11_shown_38
  simp only [w_let]
  replace h := h.t0
  generalize q_u2 m 5001 0 0 = m at h ⊢
  have hC := h.C
  have hC2 := hC.2.2.1
  have hfu := q_fu_le
  by_cases z1 : a_lt a1 (c 2)
  · obtain ⟨p, hp, rfl⟩ := z1
    rw [s_picAt1 h hp, h.isPicture1 hp, Option.bind_some, Option.bind_some, if_neg (by omega), if_neg (show ¬ (1 : Int32) = 0 by decide)]
    by_cases z2 : a_rg a2 0 400
    · rw [s_within1 z2 rfl rfl, s_in1 z2 rfl rfl, Option.bind_some, Option.bind_some, if_neg (show ¬ (1 : Int32) = 0 by decide), if_neg (show ¬ (1 : Int32) = 0 by decide)]
      by_cases z3 : a_rg a3 a2.toInt 400
      · rw [s_within1 z3 rfl rfl, s_in1 z3 (Int32.toInt_toInt64 _) rfl, Option.bind_some, Option.bind_some, if_neg (show ¬ (1 : Int32) = 0 by decide), if_neg (show ¬ (1 : Int32) = 0 by decide), if_neg (show ¬ (1 : Int32) = 0 by decide)]
        obtain ⟨a, ha, rfl⟩ := a_rg.nat (N := 400) z2 (by omega)
        obtain ⟨b, hb, rfl⟩ := a_rg.nat (x := a3) (N := 400) (by unfold a_rg at *; omega) (by omega)
        have hab : a ≤ b := by
          have := z3.1
          rw [nI_toInt (by omega), nI_toInt (by omega)] at this
          omega
        have e := s_shownM_loop (a := a) h (show p < 24 by omega) hb (b - a) 0 q_fu (by omega) (by omega)
        rw [Nat.add_zero, show fb_sm (fun t => if m 5044 (400 * p + (a + t)) = 1 then 1 else 0) 0 = 0 from rfl, show nI 0 = 0 from rfl] at e
        rw [e, s_nights hab hb, Option.bind_some]
        refine ⟨_, n, m, ?_, rfl, h⟩
        congr 2
        refine fb_sm_cong fun t ht => ?_
        have h10 := (h 10 : a_B10 c n m M) p (by omega) (a + t) (by omega)
        have hb : fb_ct (bt (M 20 (a + t) &&& ((1 : Int32) <<< (nI p &&& 31)))) 32 = fb_ct (fun i => bt (M 20 (a + t)) i && decide (i = p)) 32 := fb_ct_cong fun i hi => by rw [b_and, b_one p (by omega) i hi]
        rw [hb, a_ct1, ← a_bt, h10.2.1]
        rcases h10.1 with e | e <;> rw [e] <;> simp <;> omega
      · rw [s_within0 z3 rfl rfl, s_inn z3 (Int32.toInt_toInt64 _) rfl, Option.bind_some, Option.bind_some, if_pos rfl, if_pos rfl, if_pos trivial]
        exact ⟨_, n, m, rfl, rfl, h⟩
    · rw [s_within0 z2 rfl rfl, s_inn z2 rfl rfl, Option.bind_some, Option.bind_some, if_pos rfl, if_pos rfl, if_pos trivial]
      exact ⟨_, n, m, rfl, rfl, h⟩
  · rw [s_picAt0 h z1, h.isPicture0 z1, Option.bind_some, Option.bind_some, if_pos rfl, if_pos rfl, if_pos trivial]
    exact ⟨_, n, m, rfl, rfl, h⟩
theorem s_given_loop {c n : Nat → Nat} {m M : q_MM} (h : a_X c n m M) (g : Int32) : ∀ (d i nf : Nat) (x : Int32), i + d = c 2 → d < nf → (∀ k, k < 32 → bt x k = (decide (k < i) && (m 5035 k == g))) → ∃ x', b_X2_givenBy_4 c M nf g x (nI i) = some x' ∧ ∀ k, k < 32 → bt x' k = (decide (k < c 2) && (m 5035 k == g))
  | d, i, 0, _, _, h, _ => absurd h (Nat.not_lt_zero _)
  | 0, i, nf + 1, x, hi, _, hx => by
    have hC := h.C.2.2.1
    have : i = c 2 := by omega
    subst this
    exact ⟨x, by rw [b_X2_givenBy_4, s_size rfl, h.K.2.2, Option.bind_some, if_pos (nI_le (by omega) (by omega))], hx⟩
  | d + 1, i, nf + 1, x, hi, hf, hx => by
    have hC := h.C
    have hC2 := hC.2.2.1
    have hic : i < c 2 := by omega
    have e7 : M (1300 + i) 7 = m 5035 i := ((h 7 : a_B7 c n m M).2.2.2.1 i hic).1.2.2.2.2.2.2.2.1
    rw [b_X2_givenBy_4, s_size rfl, h.K.2.2, Option.bind_some, if_neg (nI_ge (by omega) (by omega)), s_getP h hic, Option.bind_some, w_ck (t_pic hC hic), e7]
    unfold b_X2_givenBy_41
    rw [w_let, w_let, nI_1]
    by_cases z : m 5035 i = g
    · rw [if_pos z]
      refine s_given_loop h g d (i + 1) nf _ (by omega) (by omega) (fun k hk => ?_)
      rw [b_or, hx k hk, b_one i (by omega) k hk]
      by_cases e : k = i
      · subst e
        simp [z]
      · have : (decide (k < i + 1)) = decide (k < i) := by
          congr 1
          apply propext
          omega
        rw [this]
        simp [e]
    · rw [if_neg z]
      refine s_given_loop h g d (i + 1) nf _ (by omega) (by omega) (fun k hk => ?_)
      rw [b_or, hx k hk, b_0]
      by_cases e : k = i
      · subst e
        simp [z]
      · have : (decide (k < i + 1)) = decide (k < i) := by
          congr 1
          apply propext
          omega
        rw [this]
        simp
/-- what the model adds up for one picture -/
def a_ow (m : q_MM) (g : Int32) (a N p : Nat) : Nat := if m 5035 p = g then fb_ct (fun t => !(m 5044 (400 * p + (a + t)) == 1)) N else 0
theorem s_owedI_loop {c n : Nat → Nat} {m M : q_MM} (h : a_X c n m M) {g x2 : Int32} {a N p S : Nat} {k38 : Int32 → Int32 → Int32 → Int32 → q_MM → Option (Int32 × q_MM)} (hp : p < 24) (hg : m 5035 p = g) (haN : a + N = n 1) : ∀ (d t nf : Nat), t + d = N → d < nf → b_X12_owed_55 k38 nf g x2 (nI (S + fb_ct (fun t => !(m 5044 (400 * p + (a + t)) == 1)) t)) (nI p) (nI (a + t)) m = k38 g x2 (nI (S + fb_ct (fun t => !(m 5044 (400 * p + (a + t)) == 1)) N)) (nI (p + 1)) m
  | d, t, 0, _, h => absurd h (Nat.not_lt_zero _)
  | 0, t, nf + 1, hi, _ => by
    obtain ⟨b1, b2, b3⟩ : a_B1 c n m M := h 1
    have : t = N := by omega
    subst this
    rw [b_X12_owed_55, b2, if_pos (nI_le (by omega) (by omega))]
    unfold b_X12_owed_109
    rw [nI_1]
  | d + 1, t, nf + 1, hi, hf => by
    obtain ⟨b1, b2, b3⟩ : a_B1 c n m M := h 1
    have h10 := ((h 10 : a_B10 c n m M) p hp (a + t) (by omega)).1
    have ei : (400 : Int32) * nI p + nI (a + t) = nI (400 * p + (a + t)) := by rw [show (400 : Int32) = nI 400 from rfl, pk_mul, nI_add]
    have ih := s_owedI_loop h (x2 := x2) (S := S) (k38 := k38) hp hg haN d (t + 1) nf (by omega) (by omega)
    rw [← ih, b_X12_owed_55, b2, if_neg (nI_ge (by omega) (by omega)), w_ld hp (by decide), if_pos hg, ei, w_ld (by omega) (by decide)]
    unfold b_X12_owed_98
    rcases h10 with e | e
    · rw [e, if_pos rfl, s_truth1, Option.bind_some, w_let, nI_1, fb_ct_succ, if_pos (by rw [e]; decide), show (1 : Int32) = nI 1 from rfl, nI_add, Nat.add_assoc, Nat.add_assoc]
    · rw [e, if_neg (by decide), s_truth0, Option.bind_some, w_let, nI_1, fb_ct_succ, if_neg (by rw [e]; decide), show (0 : Int32) = nI 0 from rfl, nI_add, Nat.add_assoc, Nat.add_assoc]
theorem s_owedM_loop {c n : Nat → Nat} {m M : q_MM} (h : a_X c n m M) {g : Int32} {a N : Nat} (haN : a + N = n 1) : ∀ (d p nf : Nat), p + d = c 2 → d < nf → b_X12_owed_38 nf g (nI N) (nI (fb_sm (a_ow m g a N) p)) (nI p) m = some (nI (fb_sm (a_ow m g a N) (c 2)), m)
  | d, p, 0, _, h => absurd h (Nat.not_lt_zero _)
  | 0, p, nf + 1, hi, _ => by
    have hC := h.C.2.2.1
    have : p = c 2 := by omega
    subst this
    rw [b_X12_owed_38, h.Y.N, if_pos (nI_le (by omega) (by omega))]
  | d + 1, p, nf + 1, hi, hf => by
    have hC := h.C.2.2.1
    have hfu := q_fu_le
    obtain ⟨b1, b2, b3⟩ : a_B1 c n m M := h 1
    have ih := s_owedM_loop h (g := g) haN d (p + 1) nf (by omega) (by omega)
    rw [← ih, b_X12_owed_38, h.Y.N, if_neg (nI_ge (by omega) (by omega)), w_let, b2, pk_sub (by omega), show n 1 - N = a + 0 by omega, fb_sm_succ]
    by_cases z : m 5035 p = g
    · have := s_owedI_loop h (x2 := nI N) (S := fb_sm (a_ow m g a N) p) (k38 := b_X12_owed_38 nf) (show p < 24 by omega) z haN N 0 q_fu (by omega) (by omega)
      rw [show fb_ct (fun t => !(m 5044 (400 * p + (a + t)) == 1)) 0 = 0 from rfl, Nat.add_zero] at this
      rw [this]
      unfold a_ow
      rw [if_pos z]
    · obtain ⟨f, hf2⟩ : ∃ f, q_fu = f + 1 := ⟨q_fu - 1, by omega⟩
      have e0 : a_ow m g a N p = 0 := by unfold a_ow; rw [if_neg z]
      rw [hf2, b_X12_owed_55]
      simp only [e0, Nat.add_zero]
      unfold b_X12_owed_109
      rw [nI_1]
      split
      · rfl
      · rw [w_ld (by omega) (by decide), if_neg z]
theorem a_owes {m : q_MM} {g : Int32} {a N : Nat} : ∀ P : Nat, N * fb_ct (fun p => m 5035 p == g) P = fb_sm (a_ow m g a N) P + fb_sm (fun t => fb_ct (fun p => (m 5035 p == g) && (m 5044 (400 * p + (a + t)) == 1)) P) N
  | 0 => by
    have : ∀ N, fb_sm (fun t => fb_ct (fun p => (m 5035 p == g) && (m 5044 (400 * p + (a + t)) == 1)) 0) N = 0 := fun N => by
      rw [show (fun t => fb_ct (fun p => (m 5035 p == g) && (m 5044 (400 * p + (a + t)) == 1)) 0) = fun _ => 0 from rfl, fb_sm_const]
      omega
    rw [this]
    rfl
  | P + 1 => by
    have ih := a_owes (m := m) (g := g) (a := a) (N := N) P
    have e1 : fb_sm (fun t => fb_ct (fun p => (m 5035 p == g) && (m 5044 (400 * p + (a + t)) == 1)) (P + 1)) N = fb_sm (fun t => fb_ct (fun p => (m 5035 p == g) && (m 5044 (400 * p + (a + t)) == 1)) P) N + fb_sm (fun t => if ((m 5035 P == g) && (m 5044 (400 * P + (a + t)) == 1)) = true then 1 else 0) N := by
      rw [← fb_sm_add]
      rfl
    rw [e1, fb_ct_succ, fb_sm_succ, Nat.mul_add, ih]
    have e2 : N * (if (m 5035 P == g) = true then 1 else 0) = a_ow m g a N P + fb_sm (fun t => if ((m 5035 P == g) && (m 5044 (400 * P + (a + t)) == 1)) = true then 1 else 0) N := by
      unfold a_ow
      by_cases z : m 5035 P = g
      · have e3 : fb_sm (fun t => if ((m 5035 P == g) && (m 5044 (400 * P + (a + t)) == 1)) = true then 1 else 0) N = fb_ct (fun t => m 5044 (400 * P + (a + t)) == 1) N := by
          have : ∀ N, fb_sm (fun t => if ((m 5035 P == g) && (m 5044 (400 * P + (a + t)) == 1)) = true then 1 else 0) N = fb_ct (fun t => m 5044 (400 * P + (a + t)) == 1) N := fun N => by
            induction N with
            | zero => rfl
            | succ N ih =>
              rw [fb_sm_succ, fb_ct_succ, ih]
              simp [z]
          exact this N
        rw [e3, if_pos z, if_pos (by simp [z])]
        have := fb_ct_not (fun t => m 5044 (400 * P + (a + t)) == 1) N
        omega
      · have e3 : fb_sm (fun t => if ((m 5035 P == g) && (m 5044 (400 * P + (a + t)) == 1)) = true then 1 else 0) N = 0 := by
          have : (fun t => if ((m 5035 P == g) && (m 5044 (400 * P + (a + t)) == 1)) = true then 1 else 0) = fun _ => 0 := by
            funext t
            simp [z]
          rw [this, fb_sm_const]
          omega
        rw [e3, if_neg z, if_neg (by simp [z])]
        omega
    omega
theorem a_ct_more {p : Nat → Bool} {N : Nat} : ∀ {d : Nat}, (∀ k, N ≤ k → k < N + d → p k = false) → fb_ct p (N + d) = fb_ct p N
  | 0, _ => rfl
  | d + 1, h => by
    rw [← Nat.add_assoc, fb_ct_succ, a_ct_more (fun k h1 h2 => h k h1 (by omega)), h (N + d) (by omega) (by omega)]
    simp
theorem pub_owed {c n : Nat → Nat} {m M : q_MM} (h : a_X c n m M) (a1 a2 : Int32) : a_Tr c M (f_X11_owed c M a1 a2) (f_X12_owed m a1 a2) := by
  unfold f_X11_owed f_X12_owed
  simp only [w_let]
  replace h := h.t0
  generalize q_u2 m 5001 0 0 = m at h ⊢
  have hC := h.C
  have hC2 := hC.2.2.1
  have hfu := q_fu_le
  obtain ⟨b1, b2, b3⟩ : a_B1 c n m M := h 1
  by_cases z1 : a_rg a1 0 7
  · rw [s_within1 z1 rfl rfl, s_in1 z1 rfl rfl, Option.bind_some, Option.bind_some, if_neg (show ¬ (1 : Int32) = 0 by decide), if_neg (show ¬ (1 : Int32) = 0 by decide), b2, b3]
    by_cases z2 : a_rg a2 0 (n 1)
    · rw [s_within1 z2 rfl (nI_toInt (by omega)), s_in1 z2 rfl ((Int32.toInt_toInt64 _).trans (nI_toInt (by omega))), Option.bind_some, Option.bind_some, if_neg (show ¬ (1 : Int32) = 0 by decide), if_neg (show ¬ (1 : Int32) = 0 by decide)]
      obtain ⟨N, hN, rfl⟩ := a_rg.nat (N := n 1) z2 (by omega)
      obtain ⟨x, hx1, hx2⟩ := s_given_loop h a1 (c 2) 0 q_fu 0 (by omega) (by omega) (fun k hk => by rw [b_0]; simp)
      have eM := s_owedM_loop h (g := a1) (a := n 1 - N) (N := N) (by omega) (c 2) 0 q_fu (by omega) (by omega)
      rw [show fb_sm (a_ow m a1 (n 1 - N) N) 0 = 0 from rfl, show nI 0 = 0 from rfl] at eM
      unfold f_X2_givenBy
      rw [show (0 : Int32) = nI 0 from rfl] at hx1
      rw [eM, show (0 : Int32) = nI 0 from rfl, hx1, Option.bind_some, s_bits, Option.bind_some, pk_sub hN, s_nights (by omega) b1, Option.bind_some, show n 1 - (n 1 - N) = N by omega]
      have g1 : fb_ct (bt x) 32 = fb_ct (fun p => m 5035 p == a1) (c 2) := by
        rw [show 32 = c 2 + (32 - c 2) by omega, a_ct_more (fun k h1 h2 => by rw [hx2 k (by omega)]; simp; omega)]
        exact fb_ct_cong fun k hk => by rw [hx2 k (by omega)]; simp [hk]
      have g2 : fb_sm (fun t => fb_ct (bt (M 20 (n 1 - N + t) &&& x)) 32) N = fb_sm (fun t => fb_ct (fun p => (m 5035 p == a1) && (m 5044 (400 * p + (n 1 - N + t)) == 1)) (c 2)) N := by
        refine fb_sm_cong fun t ht => ?_
        rw [show 32 = c 2 + (32 - c 2) by omega, a_ct_more (fun k h1 h2 => by rw [b_and, hx2 k (by omega)]; simp; omega)]
        refine fb_ct_cong fun k hk => ?_
        rw [b_and, hx2 k (by omega), ← a_bt, ((h 10 : a_B10 c n m M) k (by omega) (n 1 - N + t) (by omega)).2.1]
        simp [hk, Bool.and_comm]
      have g3 := a_owes (m := m) (g := a1) (a := n 1 - N) (N := N) (c 2)
      rw [g1, g2, pk_mul, pk_sub (by omega)]
      refine ⟨_, n, m, rfl, ?_, h⟩
      rw [show N * fb_ct (fun p => m 5035 p == a1) (c 2) - fb_sm (fun t => fb_ct (fun p => (m 5035 p == a1) && (m 5044 (400 * p + (n 1 - N + t)) == 1)) (c 2)) N = fb_sm (a_ow m a1 (n 1 - N) N) (c 2) by omega]
    · rw [s_within0 z2 rfl (nI_toInt (by omega)), s_inn z2 rfl ((Int32.toInt_toInt64 _).trans (nI_toInt (by omega))), Option.bind_some, Option.bind_some, if_pos rfl, if_pos rfl]
      exact ⟨_, n, m, rfl, rfl, h⟩
  · rw [s_within0 z1 rfl rfl, s_inn z1 rfl rfl, Option.bind_some, Option.bind_some, if_pos rfl, if_pos rfl]
    exact ⟨_, n, m, rfl, rfl, h⟩
