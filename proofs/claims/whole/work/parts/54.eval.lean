/-! the first expression that does not hold -/
theorem a_tr59 {v : Int32} {d d' : Nat} (hw : a_wfs v d d') (hv : v ≠ -300) : a_tr v ≠ -59 := by
  unfold a_tr
  rcases hw with ⟨w1, w2, -⟩ | ⟨w1, w2, -⟩ | ⟨w1, -⟩ | ⟨w1, -⟩ | ⟨w1, -⟩
  · rw [if_pos w1]
    intro q
    rw [q] at w1
    exact absurd w1 (by decide)
  · rw [if_neg (by rw [i_lt] at w1; rw [i_le]; omega), if_pos w2]
    intro q
    have := congrArg Int32.toInt q
    rw [i_lt] at w1
    rw [i_le] at w2
    have e1 : (-1 : Int32).toInt = -1 := rfl
    have e2 : (-12 : Int32).toInt = -12 := rfl
    have e3 : (0 : Int32).toInt = 0 := rfl
    have e4 : (10000 : Int32).toInt = 10000 := rfl
    have e5 : (-59 : Int32).toInt = -59 := rfl
    have e6 : ((-1 : Int32) - v).toInt = -1 - v.toInt := by rw [fb_subI (by omega) (by omega), e1]
    rw [fb_addI (by omega) (by omega)] at this
    omega
  · rcases w1 with rfl | rfl <;> decide
  · simp only [List.mem_cons, List.not_mem_nil, or_false] at w1
    rcases w1 with rfl | rfl | rfl | rfl | rfl | rfl | rfl | rfl | rfl | rfl <;> decide
  · exact absurd w1 hv
theorem s_eval {c : Nat → Nat} (hC : a_C c) {t K : Nat} (ht : t < c 3) (hK : K ≤ 60) (hl : c (10 + t) = K + 1) {F G : Nat → Int32} {δ : Nat → Nat} (hδ0 : ∀ i, i ≤ K → δ i ≤ 60) (hδK : δ K = 1) (hw : ∀ i, i < K → a_wfs (G (64 * t + i)) (δ i) (δ (i + 1))) (hF : ∀ i, i < K → F i = a_tr (G (64 * t + i))) (hFK : F K = -59) : ∀ (d i nf nfw nfb e : Nat) (m M : q_MM), i + d = K → d + 1 < nf → d < nfw → d < nfb → e ≤ i → a_hp (δ i) m M → M (1500 + t) = F → m 5049 = G → ∃ r r' m' M', b_X9_firstBroken_69 c nf (1500 + t) (nI e) (nI i) M = some (r, M') ∧ ((b_X12_worked_5 nfw (nI (64 * t + K)) (nI (δ i)) (nI (64 * t + i)) m).bind fun r2 => if r2.1 = 0 then some (nI e, r2.2) else q_let ((r2.2 5001 48) + 1) fun v4 => b_X12_barring_320 nfb v4 (nI (64 * t + K)) (nI e + 1) r2.2) = some (r', m') ∧ ((r = -2 ∧ r' = -1) ∨ ∃ f, f ≤ 60 ∧ r = nI f ∧ r' = nI f) ∧ a_w30 M M' ∧ a_w55 m m'
  | d, i, 0, _, _, _, _, _, _, h, _, _, _, _, _, _ => absurd h (Nat.not_lt_zero _)
  | d, i, _ + 1, 0, _, _, _, _, _, _, h, _, _, _, _, _ => absurd h (Nat.not_lt_zero _)
  | d, i, _ + 1, _ + 1, 0, _, _, _, _, _, _, h, _, _, _, _ => absurd h (Nat.not_lt_zero _)
  | 0, i, nf + 1, nfw + 1, nfb + 1, e, m, M, hi, hf, _, _, he, hp, hM, hm => by
    have hc3 := hC.2.2.2
    have hiK : i = K := by omega
    subst hiK
    obtain ⟨nf, rfl⟩ : ∃ k, nf = k + 1 := ⟨nf - 1, by omega⟩
    obtain ⟨h1, h2, h3, h4⟩ := id hp
    rw [hδK] at h1 h2 h3
    have tk := s_take30 (c := c) (d := 0) h1 (by omega)
    rw [h3 0 (by omega)] at tk
    have cl : b_X9_firstBroken_69 c (nf + 1 + 1) (1500 + t) (nI e) (nI i) M = (if m 5055 0 = 0 then some (nI e, q_u2 M 30 1 (nI 0)) else some (-2, q_u2 M 30 1 (nI 0))) := by
      rw [b_X9_firstBroken_69, w_ck (t_code hC ht), l_code, hl, if_neg (show ¬ Int32.ofNat (i + 1) ≤ nI i from nI_nl2 (i + 1) i (by omega) (by omega) (by omega)), w_ld (by omega) (by omega), hM, hFK, if_pos rfl, tk, Option.bind_some]
      unfold b_X9_firstBroken_115
      simp only [nI_1]
      rw [b_X9_firstBroken_69, w_ck (t_code hC ht), l_code, hl, if_pos (show Int32.ofNat (i + 1) ≤ nI (i + 1) from nI_le (Nat.le_refl _) (by omega))]
    have md : b_X12_worked_5 (nfw + 1) (nI (64 * t + i)) (nI (δ i)) (nI (64 * t + i)) m = some (m 5055 0, q_u2 m 5001 48 (nI (64 * t + i))) := by
      rw [b_X12_worked_5, if_pos (nI_le (Nat.le_refl _) (by omega))]
      unfold b_X12_worked_190
      rw [w_let, show (0 : Int32) = nI 0 from rfl, w_ld (by decide) (by decide), q_u2_ne (by omega)]
    have wm : a_w55 m (q_u2 m 5001 48 (nI (64 * t + i))) := fun o k a b => q_u2_ne b
    rw [cl, md, Option.bind_some]
    by_cases z : m 5055 0 = 0
    · rw [if_pos z, if_pos z]
      exact ⟨_, _, _, _, rfl, rfl, Or.inr ⟨e, by omega, rfl, rfl⟩, a_w30.rf.u2 (Or.inl rfl), wm⟩
    · rw [if_neg z, if_neg z]
      dsimp only
      rw [w_let, q_u2_eq, nI_1, b_X12_barring_320, if_pos (nI_le (by omega) (by omega))]
      exact ⟨_, _, _, _, rfl, rfl, Or.inl ⟨rfl, rfl⟩, a_w30.rf.u2 (Or.inl rfl), wm⟩
  | d + 1, i, nf + 1, nfw + 1, nfb + 1, e, m, M, hi, hf, hfw, hfb, he, hp, hM, hm => by
    have hc3 := hC.2.2.2
    have hfu := q_fu_le
    have wi := hw i (by omega)
    have cl : b_X9_firstBroken_69 c (nf + 1) (1500 + t) (nI e) (nI i) M = (if a_tr (G (64 * t + i)) = -59 then (f_X4_take c M 30).bind fun r5 => if r5.1 = 0 then some (nI e, r5.2) else b_X9_firstBroken_69 c nf (1500 + t) (nI (e + 1)) (nI (i + 1)) r5.2 else (f_X9_work c M (a_tr (G (64 * t + i)))).bind fun r8 => b_X9_firstBroken_69 c nf (1500 + t) (nI e) (nI (i + 1)) r8) := by
      rw [b_X9_firstBroken_69, w_ck (t_code hC ht), l_code, hl, if_neg (show ¬ Int32.ofNat (K + 1) ≤ nI i from nI_nl2 (K + 1) i (by omega) (by omega) (by omega)), w_ld (by omega) (by omega), hM, hF i (by omega), w_ld (by omega) (by omega), hM, hF i (by omega)]
      unfold b_X9_firstBroken_115
      simp only [nI_1]
    rw [cl]
    by_cases z : G (64 * t + i) = -300
    · have hd : δ i = 1 ∧ δ (i + 1) = 0 := by
        rw [z] at wi
        rcases wi with ⟨w1, -⟩ | ⟨-, w2, -⟩ | ⟨w1, -⟩ | ⟨w1, -⟩ | ⟨-, w2, w3⟩
        · exact absurd w1 (by decide)
        · exact absurd w2 (by decide)
        · exact absurd w1 (by decide)
        · exact absurd w1 (by decide)
        · exact ⟨w2, w3⟩
      have hlt : i + 1 < K := by
        rcases Nat.lt_or_ge (i + 1) K with q | q
        · exact q
        · have : i + 1 = K := by omega
          rw [this, hδK] at hd
          omega
      obtain ⟨h1, h2, h3, h4⟩ := id hp
      rw [hd.1] at h1 h2 h3
      have tk := s_take30 (c := c) (d := 0) h1 (by omega)
      rw [h3 0 (by omega)] at tk
      have md : b_X12_worked_5 (nfw + 1) (nI (64 * t + K)) (nI (δ i)) (nI (64 * t + i)) m = some (m 5055 0, q_u2 m 5001 48 (nI (64 * t + i))) := by
        rw [b_X12_worked_5, if_neg (nI_ge (by omega) (by omega)), w_ld (by omega) (by decide), hm, z, if_pos rfl]
        unfold b_X12_worked_190
        rw [w_let, show (0 : Int32) = nI 0 from rfl, w_ld (by decide) (by decide), q_u2_ne (by omega)]
      have wm : a_w55 m (q_u2 m 5001 48 (nI (64 * t + i))) := fun o k a b => q_u2_ne b
      have wM : a_w30 M (q_u2 M 30 1 (nI 0)) := a_w30.rf.u2 (Or.inl rfl)
      rw [z, if_pos (by decide), tk, Option.bind_some, md, Option.bind_some]
      by_cases z2 : m 5055 0 = 0
      · rw [if_pos z2, if_pos z2]
        exact ⟨_, _, _, _, rfl, rfl, Or.inr ⟨e, by omega, rfl, rfl⟩, wM, wm⟩
      · have hp' : a_hp (δ (i + 1)) (q_u2 m 5001 48 (nI (64 * t + i))) (q_u2 M 30 1 (nI 0)) := by
          rw [hd.2]
          refine ⟨q_u2_eq, by omega, fun j hj => absurd hj (Nat.not_lt_zero _), fun j hj => ?_⟩
          rw [q_u2_ne (by omega), q_u2_ne (by omega)]
          exact h4 j hj
        obtain ⟨r, r', m', M', t1, t2, t3, t4, t5⟩ := s_eval hC ht hK hl hδ0 hδK hw hF hFK d (i + 1) nf q_fu nfb (e + 1) _ _ (by omega) (by omega) (by omega) (by omega) (by omega) hp' (by rw [wM _ (by omega) (by omega)]; exact hM) (by funext k; rw [wm _ _ (by omega) (by omega), hm])
        refine ⟨r, r', m', M', ?_, ?_, t3, wM.trans t4, wm.trans t5⟩
        · rw [if_neg z2]
          exact t1
        · rw [if_neg z2]
          dsimp only
          simp only [w_let, q_u2_eq, nI_1]
          rw [b_X12_barring_320, if_neg (nI_ge (by omega) (by omega))]
          unfold f_X12_worked
          rw [← t2, hd.2, nI_1]
          rfl
    · obtain ⟨m1, M1, k1, k2, k3, k4, k5⟩ := s_mark (c := c) wi z hp (hδ0 (i + 1) (by omega)) (x2 := nI (64 * t + K)) (pos := 64 * t + i) rfl (by omega) (by omega) (by rw [hm])
      rw [if_neg (a_tr59 wi z), k1, Option.bind_some, k2]
      obtain ⟨r, r', m', M', t1, t2, t3, t4, t5⟩ := s_eval hC ht hK hl hδ0 hδK hw hF hFK d (i + 1) nf nfw (nfb + 1) e m1 M1 (by omega) (by omega) (by omega) (by omega) (by omega) k3 (by rw [k4 _ (by omega) (by omega)]; exact hM) (by funext k; rw [k5 _ _ (by omega) (by omega), hm])
      exact ⟨r, r', m', M', t1, t2, t3, k4.trans t4, k5.trans t5⟩
theorem a_wf_60 {f : Nat → Int32} {k : Nat} {δ : Nat → Nat} (h0 : δ 0 = 0) (h : ∀ i, i < k → a_wfs (f i) (δ i) (δ (i + 1))) : ∀ i, i ≤ k → δ i ≤ i
  | 0, _ => by omega
  | i + 1, hi => by
    have ih := a_wf_60 h0 h i (by omega)
    rcases h i (by omega) with ⟨-, -, e⟩ | ⟨-, -, e⟩ | ⟨-, -, e⟩ | ⟨-, -, e⟩ | ⟨-, -, e⟩ <;> omega
