/-! done -/
theorem s_become {c : Nat → Nat} {M : q_MM} {o1 a1 b1 o2 a2 b2 : Nat} (h1 : (o1, a1, b1) ∈ [(21, 61, 63), (22, 62, 64)]) (h2 : (o2, a2, b2) ∈ [(21, 61, 63), (22, 62, 64)]) (hne : o1 ≠ o2) : ∃ M', f_X1_become c M o2 o1 = some M' ∧ (∀ o, o ≠ a2 → o ≠ b2 → M' o = M o) ∧ (∀ j, j < 24 → M' a2 j = M a1 j ∧ M' b2 j = M b1 j) ∧ ∀ j, 24 ≤ j → M' a2 j = M a2 j ∧ M' b2 j = M b2 j := by
  have t : ∀ o a b, (o, a, b) ∈ [(21, 61, 63), (22, 62, 64)] → qTX c o = 11 ∧ qPX c o 0 = a ∧ qPX c o 1 = b ∧ qTX c a = 1 ∧ qTX c b = 1 ∧ qLX c a = 24 ∧ qLX c b = 24 := by
    intro o a b ho
    simp only [List.mem_cons, List.not_mem_nil, or_false, Prod.mk.injEq] at ho
    rcases ho with ⟨rfl, rfl, rfl⟩ | ⟨rfl, rfl, rfl⟩ <;> exact ⟨rfl, rfl, rfl, rfl, rfl, rfl, rfl⟩
  obtain ⟨p1, p2, p3, p4, p5, p6, p7⟩ := t _ _ _ h1
  obtain ⟨r1, r2, r3, r4, r5, r6, r7⟩ := t _ _ _ h2
  have dif : a1 ≠ a2 ∧ b1 ≠ b2 ∧ a1 ≠ b2 ∧ b1 ≠ a2 ∧ a2 ≠ b2 := by
    simp only [List.mem_cons, List.not_mem_nil, or_false, Prod.mk.injEq] at h1 h2
    rcases h1 with ⟨rfl, rfl, rfl⟩ | ⟨rfl, rfl, rfl⟩ <;> rcases h2 with ⟨rfl, rfl, rfl⟩ | ⟨rfl, rfl, rfl⟩ <;> first | exact absurd rfl hne | decide
  obtain ⟨d1, d2, d3, d4, d5⟩ := dif
  unfold f_X1_become
  rw [w_ck p1, w_ck r1, p2, w_ck p4, r2, w_ck r4, p6, r6, w_if (by decide), w_let, p3, w_ck p5, r3, w_ck r5, p7, r7, w_if (by decide), w_let]
  have c24 : Int32.toNatClampNeg 24 = 24 := by decide
  have c0 : Int32.toNatClampNeg 0 = 0 := by decide
  refine ⟨_, rfl, fun o h1 h2 => ?_, fun j hj => ⟨?_, ?_⟩, fun j hj => ⟨?_, ?_⟩⟩
  · dsimp only
    rw [if_neg h2, if_neg h1]
  · dsimp only
    rw [if_neg d5, if_pos rfl, pk_cpy_in (by rw [c0]; omega) (by rw [c0, c24]; omega), c0]
    simp
  · dsimp only
    rw [if_pos rfl, pk_cpy_in (by rw [c0]; omega) (by rw [c0, c24]; omega), c0, if_neg d4]
    simp
  · dsimp only
    rw [if_neg d5, if_pos rfl, pk_cpy_out (Or.inr (by rw [c0, c24]; omega))]
  · dsimp only
    rw [if_pos rfl, pk_cpy_out (Or.inr (by rw [c0, c24]; omega)), if_neg d5.symm]
/-- kept: where pictures hang, in rows 5080 .. 5082 -/
theorem s_keeps {c : Nat → Nat} {m0 : q_MM} (hN : m0 5001 18 = nI (c 2)) (hN2 : c 2 ≤ 24) : ∃ m', f_X12_keeps m0 = some m' ∧ (∀ o, o ≠ 5080 → o ≠ 5081 → o ≠ 5082 → m' o = m0 o) ∧ ∀ p, p < c 2 → m' 5080 p = m0 5040 p ∧ m' 5081 p = m0 5041 p ∧ m' 5082 p = m0 5042 p := by
  have hfu := q_fu_le
  have loop : ∀ (d i nf : Nat) (m : q_MM), i + d = c 2 → d < nf → (∀ o, o ≠ 5080 → o ≠ 5081 → o ≠ 5082 → m o = m0 o) → (∀ p, p < i → m 5080 p = m0 5040 p ∧ m 5081 p = m0 5041 p ∧ m 5082 p = m0 5042 p) → ∃ m', b_X12_keeps_2 nf (nI i) m = some m' ∧ (∀ o, o ≠ 5080 → o ≠ 5081 → o ≠ 5082 → m' o = m0 o) ∧ ∀ p, p < c 2 → m' 5080 p = m0 5040 p ∧ m' 5081 p = m0 5041 p ∧ m' 5082 p = m0 5042 p := by
    intro d
    induction d with
    | zero =>
      intro i nf m hi hf hfr hk
      obtain ⟨nf, rfl⟩ : ∃ k, nf = k + 1 := ⟨nf - 1, by omega⟩
      have : i = c 2 := by omega
      subst this
      exact ⟨m, by rw [b_X12_keeps_2, hfr 5001 (by decide) (by decide) (by decide), hN, if_pos (nI_le (by omega) (by omega))], hfr, hk⟩
    | succ d ih =>
      intro i nf m hi hf hfr hk
      obtain ⟨nf, rfl⟩ : ∃ k, nf = k + 1 := ⟨nf - 1, by omega⟩
      have r0 := hfr 5040 (by decide) (by decide) (by decide)
      have r1 := hfr 5041 (by decide) (by decide) (by decide)
      have r2 := hfr 5042 (by decide) (by decide) (by decide)
      rw [b_X12_keeps_2, hfr 5001 (by decide) (by decide) (by decide), hN, if_neg (nI_ge (by omega) (by omega)), w_ld (by omega) (by decide), w_as (by omega) (by decide), w_ld (by omega) (by decide), w_as (by omega) (by decide), w_ld (by omega) (by decide), w_as (by omega) (by decide), nI_1]
      refine ih (i + 1) nf _ (by omega) (by omega) (fun o h0 h1 h2 => ?_) (fun p hp => ?_)
      · funext k
        rw [q_u2_ne (fun z => h2 z.1), q_u2_ne (fun z => h1 z.1), q_u2_ne (fun z => h0 z.1), hfr o h0 h1 h2]
      · by_cases e : p = i
        · subst e
          refine ⟨?_, ?_, ?_⟩
          · rw [q_u2_ne (by omega), q_u2_ne (by omega), q_u2_eq, r0]
          · rw [q_u2_ne (by omega), q_u2_eq, q_u2_ne (by omega), r1]
          · rw [q_u2_eq, q_u2_ne (by omega), q_u2_ne (by omega), r2]
        · rw [q_u2_ne (by omega), q_u2_ne (by omega), q_u2_ne (by omega), q_u2_ne (by omega), q_u2_ne (by omega), q_u2_ne (by omega), q_u2_ne (by omega), q_u2_ne (by omega), q_u2_ne (by omega)]
          exact hk p (by omega)
  exact loop (c 2) 0 q_fu m0 (by omega) (by omega) (fun _ _ _ _ => rfl) (fun p hp => absurd hp (Nat.not_lt_zero _))
/-- and given back -/
theorem s_restores {c : Nat → Nat} {m0 : q_MM} (hN : m0 5001 18 = nI (c 2)) (hN2 : c 2 ≤ 24) : ∃ m', f_X12_restores m0 = some m' ∧ (∀ o k, ¬ ((o = 5040 ∨ o = 5041 ∨ o = 5042) ∧ k < c 2) → m' o k = m0 o k) ∧ ∀ p, p < c 2 → m' 5040 p = m0 5080 p ∧ m' 5041 p = m0 5081 p ∧ m' 5042 p = m0 5082 p := by
  have hfu := q_fu_le
  have loop : ∀ (d i nf : Nat) (m : q_MM), i + d = c 2 → d < nf → (∀ o k, ¬ ((o = 5040 ∨ o = 5041 ∨ o = 5042) ∧ k < c 2) → m o k = m0 o k) → (∀ p, p < i → m 5040 p = m0 5080 p ∧ m 5041 p = m0 5081 p ∧ m 5042 p = m0 5082 p) → ∃ m', b_X12_restores_2 nf (nI i) m = some m' ∧ (∀ o k, ¬ ((o = 5040 ∨ o = 5041 ∨ o = 5042) ∧ k < c 2) → m' o k = m0 o k) ∧ ∀ p, p < c 2 → m' 5040 p = m0 5080 p ∧ m' 5041 p = m0 5081 p ∧ m' 5042 p = m0 5082 p := by
    intro d
    induction d with
    | zero =>
      intro i nf m hi hf hfr hk
      obtain ⟨nf, rfl⟩ : ∃ k, nf = k + 1 := ⟨nf - 1, by omega⟩
      have : i = c 2 := by omega
      subst this
      exact ⟨m, by rw [b_X12_restores_2, hfr 5001 18 (by omega), hN, if_pos (nI_le (by omega) (by omega))], hfr, hk⟩
    | succ d ih =>
      intro i nf m hi hf hfr hk
      obtain ⟨nf, rfl⟩ : ∃ k, nf = k + 1 := ⟨nf - 1, by omega⟩
      rw [b_X12_restores_2, hfr 5001 18 (by omega), hN, if_neg (nI_ge (by omega) (by omega)), w_ld (by omega) (by decide), w_as (by omega) (by decide), w_ld (by omega) (by decide), w_as (by omega) (by decide), w_ld (by omega) (by decide), w_as (by omega) (by decide), nI_1]
      refine ih (i + 1) nf _ (by omega) (by omega) (fun o k hok => ?_) (fun p hp => ?_)
      · rw [q_u2_ne (by omega), q_u2_ne (by omega), q_u2_ne (by omega), hfr o k hok]
      · by_cases e : p = i
        · subst e
          refine ⟨?_, ?_, ?_⟩
          · rw [q_u2_ne (by omega), q_u2_ne (by omega), q_u2_eq, hfr 5080 p (by omega)]
          · rw [q_u2_ne (by omega), q_u2_eq, q_u2_ne (by omega), hfr 5081 p (by omega)]
          · rw [q_u2_eq, q_u2_ne (by omega), q_u2_ne (by omega), hfr 5082 p (by omega)]
        · rw [q_u2_ne (by omega), q_u2_ne (by omega), q_u2_ne (by omega), q_u2_ne (by omega), q_u2_ne (by omega), q_u2_ne (by omega), q_u2_ne (by omega), q_u2_ne (by omega), q_u2_ne (by omega)]
          exact hk p (by omega)
  exact loop (c 2) 0 q_fu m0 (by omega) (by omega) (fun _ _ _ => rfl) (fun p hp => absurd hp (Nat.not_lt_zero _))
theorem a_H.put {c : Nat → Nat} {m M : q_MM} {a b p w : Nat} {x : Int32} (h : a_H c m M a b) (hab : a ≠ b) (hp : p < c 2) (hw : w < 100) : a_H c (q_u2 (q_u2 (q_u2 m 5040 p 1) 5041 p (nI w)) 5042 p x) (q_u2 (q_u2 M a p (nI w)) b p x) a b := by
  obtain ⟨h1, h2⟩ := h
  refine ⟨fun q hq => ?_, fun q hq hq2 => ?_⟩
  · have g := h1 q hq
    by_cases e : q = p
    · subst e
      refine ⟨?_, ?_⟩
      · rw [q_u2_ne (fun z => hab z.1), q_u2_eq]
        exact ((a_W_w hw).mpr ⟨by rw [q_u2_ne (by omega), q_u2_ne (by omega), q_u2_eq], by rw [q_u2_ne (by omega), q_u2_eq]⟩).symm
      · rw [q_u2_eq, q_u2_eq]
    · rw [q_u2_ne (fun z => hab z.1), q_u2_ne (fun z => e z.2), q_u2_ne (fun z => e z.2), q_u2_ne (M := M) (fun z => hab z.1.symm), q_u2_ne (fun z => e z.2)]
      refine ⟨?_, ?_⟩
      · rw [g.1]
        unfold a_W
        rw [q_u2_ne (by omega), q_u2_ne (by omega), q_u2_ne (by omega), q_u2_ne (by omega), q_u2_ne (by omega), q_u2_ne (by omega)]
      · rw [g.2, q_u2_ne (by omega), q_u2_ne (by omega)]
  · rw [q_u2_ne (fun z => hab z.1), q_u2_ne (by omega)]
    exact h2 q hq hq2
/-- a trial: moves below i whose bit is set are done -/
def a_tl (c : Nat → Nat) (σ m1 M0 : q_MM) (x : Int32) (i : Nat) (m M : q_MM) : Prop := (∀ o k, ¬ ((o = 5040 ∨ o = 5041 ∨ o = 5042) ∧ k < c 2) → m o k = m1 o k) ∧ (∀ o, o ≠ 62 → o ≠ 64 → M o = M0 o) ∧ a_H c m M 62 64 ∧ (∀ p, c 2 ≤ p → p < 24 → M 64 p = -1) ∧ (∀ j p, p < c 2 → j < i → bt x j = true → σ 5077 j = nI p → m 5040 p = 1 ∧ m 5041 p = σ 5078 j ∧ m 5042 p = σ 5079 j) ∧ ∀ p, p < c 2 → (∀ j, j < i → bt x j = true → σ 5077 j ≠ nI p) → m 5040 p = σ 5040 p ∧ m 5041 p = σ 5041 p ∧ m 5042 p = σ 5042 p
theorem b_sh1' (x : Int32) {r : Nat} (hr : r < 32) : (x >>> (nI r &&& 31)) &&& 1 = 1 ↔ bt x r = true := by
  have h := b_sh1 x hr
  rcases narz01 (x >>> (nI r &&& 31)) with e | e
  · rw [e]
    rw [h.mp e]
    exact ⟨fun q => absurd q (by decide), fun q => absurd q (by decide)⟩
  · rw [e]
    refine ⟨fun _ => ?_, fun _ => rfl⟩
    cases z : bt x r
    · rw [h.mpr z] at e
      exact absurd e (by decide)
    · rfl
theorem s_try_loop {c n : Nat → Nat} {σ m1 M0 : q_MM} (hX : a_X c n σ M0) (hm1 : ∀ o, o ≠ 5080 → o ≠ 5081 → o ≠ 5082 → m1 o = σ o) {x : Int32} {k : Nat} (hk : σ 5001 66 = nI k) (hk8 : k ≤ 8) : ∀ (d i nf nf' : Nat) (m M : q_MM), i + d = k → d < nf → d < nf' → a_tl c σ m1 M0 x i m M → ∃ m' M', b_X3_tryDone_19 c nf x (nI i) M = some M' ∧ b_X12_does_6 nf' x (nI i) m = some m' ∧ a_tl c σ m1 M0 x k m' M'
  | d, i, 0, _, _, _, _, h, _, _ => absurd h (Nat.not_lt_zero _)
  | d, i, _ + 1, 0, _, _, _, _, h, _ => absurd h (Nat.not_lt_zero _)
  | 0, i, nf + 1, nf' + 1, m, M, hi, _, _, h => by
    obtain ⟨⟨k1, q1, q2, q3, q4⟩, -⟩ := (hX 16 : a_B16 c n σ M0)
    have : k1 = k := nI_inj (by omega) (by omega) (q3.symm.trans hk)
    subst this
    have : i = k1 := by omega
    subst this
    refine ⟨m, M, ?_, ?_, h⟩
    · rw [b_X3_tryDone_19, h.2.1 39 (by decide) (by decide), q2, if_pos (nI_le (by omega) (by omega))]
    · rw [b_X12_does_6, h.1 5001 66 (by omega), hm1 5001 (by decide) (by decide) (by decide), hk, if_pos (nI_le (by omega) (by omega))]
  | d + 1, i, nf + 1, nf' + 1, m, M, hi, hf, hf', h => by
    have hC := hX.C
    have hC1 := hC.2.1
    have hC2 := hC.2.2.1
    obtain ⟨⟨k1, q1, q2, q3, q4⟩, ⟨k2, s1, s2, s3, s4⟩, ⟨k3, t1, t2, t3, t4⟩, hd⟩ := (hX 16 : a_B16 c n σ M0)
    have : k1 = k := nI_inj (by omega) (by omega) (q3.symm.trans hk)
    subst this
    have : k2 = k1 := nI_inj (by omega) (by omega) (s3.symm.trans hk)
    subst this
    have : k3 = k2 := nI_inj (by omega) (by omega) (t3.symm.trans hk)
    subst this
    rw [hk, nI_clamp (by omega)] at hd
    obtain ⟨h1, h2, h3, h4, h5, h6⟩ := id h
    have fm : ∀ o j, o = 5001 ∨ o = 5077 ∨ o = 5078 ∨ o = 5079 → m o j = σ o j := fun o j ho => by rw [h1 o j (by omega), hm1 o (by omega) (by omega) (by omega)]
    rw [b_X3_tryDone_19, h2 39 (by decide) (by decide), q2, if_neg (nI_ge (by omega) (by omega)), b_X12_does_6, fm 5001 66 (Or.inl rfl), hk, if_neg (nI_ge (by omega) (by omega))]
    unfold b_X3_tryDone_72 b_X12_does_45
    rw [nI_1]
    by_cases z : bt x i = true
    · obtain ⟨⟨e1, ⟨p, hp, ep⟩⟩, ⟨e2, ⟨w, hw, ew⟩⟩, e3, ex⟩ := (⟨q4 i (by omega), s4 i (by omega), t4 i (by omega)⟩ : (M0 89 i = σ 5077 i ∧ a_lt (σ 5077 i) (c 2)) ∧ (M0 90 i = σ 5078 i ∧ a_lt (σ 5078 i) (c 1)) ∧ (M0 91 i = σ 5079 i ∧ a_rg (σ 5079 i) (-1000) 4000))
      have g1 := s_get1 (c := c) (M := M) (o := 39) (r := 89) (N := 8) (k := k3) (i := i) (by decide) (by rw [h2 39 (by decide) (by decide)]; exact q2) (by omega) (by omega)
      have g2 := s_get1 (c := c) (M := M) (o := 40) (r := 90) (N := 8) (k := k3) (i := i) (by decide) (by rw [h2 40 (by decide) (by decide)]; exact s2) (by omega) (by omega)
      have g3 := s_get1 (c := c) (M := M) (o := 41) (r := 91) (N := 8) (k := k3) (i := i) (by decide) (by rw [h2 41 (by decide) (by decide)]; exact t2) (by omega) (by omega)
      rw [h2 89 (by decide) (by decide), e1, ep] at g1
      rw [h2 90 (by decide) (by decide), e2, ew] at g2
      rw [h2 91 (by decide) (by decide), e3] at g3
      rw [if_neg (fun q => by rw [(b_sh1 x (by omega)).mp q] at z; exact absurd z (by decide)), if_pos ((b_sh1' x (by omega)).mpr z), g1, g2, g3, Option.bind_some, Option.bind_some, Option.bind_some, s_put (a := 62) (b := 64) (by decide) (by omega), Option.bind_some, w_ld (by omega) (by decide), w_ld (by omega) (by decide), w_ld (by omega) (by decide), fm 5077 i (by omega), fm 5078 i (by omega), fm 5079 i (by omega), ep, ew, s_puts (by omega), Option.bind_some]
      refine s_try_loop hX hm1 hk hk8 d (i + 1) nf nf' _ _ (by omega) (by omega) (by omega) ⟨fun o j ho => ?_, fun o o1 o2 => ?_, h3.put (by decide) hp (by omega), fun q hq hq2 => ?_, fun j q hqc hj hb hq => ?_, fun q hq hn => ?_⟩
      · rw [q_u2_ne (by omega), q_u2_ne (by omega), q_u2_ne (by omega)]
        exact h1 o j ho
      · funext j
        rw [q_u2_ne (fun z => o2 z.1), q_u2_ne (fun z => o1 z.1), h2 o o1 o2]
      · rw [q_u2_ne (by omega), q_u2_ne (by omega)]
        exact h4 q hq hq2
      · by_cases e : j = i
        · subst e
          have : q = p := nI_inj (by omega) (by omega) (hq.symm.trans ep)
          subst this
          rw [q_u2_ne (by omega), q_u2_ne (by omega), q_u2_eq, q_u2_ne (by omega), q_u2_eq, q_u2_eq, ew]
          exact ⟨rfl, rfl, rfl⟩
        · have hqp : q ≠ p := by
            intro e2
            subst e2
            exact e (hd j i (by omega) (by omega) (hq.trans ep.symm))
          rw [q_u2_ne (by omega), q_u2_ne (by omega), q_u2_ne (by omega), q_u2_ne (by omega), q_u2_ne (by omega), q_u2_ne (by omega), q_u2_ne (by omega), q_u2_ne (by omega), q_u2_ne (by omega)]
          exact h5 j q hqc (by omega) hb hq
      · have hqp : q ≠ p := fun e2 => hn i (by omega) z (by rw [ep, e2])
        rw [q_u2_ne (by omega), q_u2_ne (by omega), q_u2_ne (by omega), q_u2_ne (by omega), q_u2_ne (by omega), q_u2_ne (by omega), q_u2_ne (by omega), q_u2_ne (by omega), q_u2_ne (by omega)]
        exact h6 q hq (fun j hj => hn j (by omega))
    · rw [if_pos ((b_sh1 x (by omega)).mpr (by simpa using z)), if_neg (fun q => z ((b_sh1' x (by omega)).mp q))]
      refine s_try_loop hX hm1 hk hk8 d (i + 1) nf nf' m M (by omega) (by omega) (by omega) ⟨h1, h2, h3, h4, fun j q hqc hj hb hq => ?_, fun q hq hn => h6 q hq (fun j hj => hn j (by omega))⟩
      by_cases e : j = i
      · subst e
        exact absurd hb z
      · exact h5 j q hqc (by omega) hb hq
/-- can they all stand -/
theorem s_chk_loop {c n : Nat → Nat} {σ m M0 M : q_MM} (hX : a_X c n σ M0) (hXM : a_X c n σ M) (ht : a_t8 σ m) (hH : a_H c m M 62 64) (hV : a_V c m) (h80 : ∀ p, p < c 2 → m 5080 p = σ 5040 p) {k : Nat} (hk : σ 5001 66 = nI k) (hk8 : k ≤ 8) : ∀ (d i nf nf' : Nat), i + d = k → d < nf → d < nf' → (∀ j p w, j < i → σ 5077 j = nI p → p < c 2 → σ 5078 j = nI w → w < c 1 → (σ 5040 p = 0 ∨ σ 5040 p = 1) ∧ a_w4 c m p w (σ 5079 j) = 0) → (b_X3_allCanStand_10 c nf (nI i) M = some (0, M) ∧ b_X12_done_25 nf' (nI i) m = b_X12_done_74 m) ∨ (b_X3_allCanStand_10 c nf (nI i) M = some (1, M) ∧ b_X12_done_25 nf' (nI i) m = some (nI k, q_u2 m 5001 66 0) ∧ ∀ j p w, j < k → σ 5077 j = nI p → p < c 2 → σ 5078 j = nI w → w < c 1 → (σ 5040 p = 0 ∨ σ 5040 p = 1) ∧ a_w4 c m p w (σ 5079 j) = 0)
  | d, i, 0, _, _, h, _, _ => absurd h (Nat.not_lt_zero _)
  | d, i, _ + 1, 0, _, _, h, _ => absurd h (Nat.not_lt_zero _)
  | 0, i, nf + 1, nf' + 1, hi, _, _, hok => by
    obtain ⟨⟨k1, q1, q2, q3, q4⟩, -⟩ := (hXM 16 : a_B16 c n σ M)
    have : k1 = k := nI_inj (by omega) (by omega) (q3.symm.trans hk)
    subst this
    have : i = k1 := by omega
    subst this
    have e66 : m 5001 66 = nI i := (ht 5001 66 (by decide) (by decide)).trans hk
    refine Or.inr ⟨?_, ?_, hok⟩
    · rw [b_X3_allCanStand_10, q2, if_pos (nI_le (by omega) (by omega)), w_bl1]
    · rw [b_X12_done_25, e66, if_pos (nI_le (by omega) (by omega)), w_let, w_let]
  | d + 1, i, nf + 1, nf' + 1, hi, hf, hf', hok => by
    have hC := hX.C
    have hC1 := hC.2.1
    have hC2 := hC.2.2.1
    obtain ⟨⟨k1, q1, q2, q3, q4⟩, ⟨k2, s1, s2, s3, s4⟩, ⟨k3, t1, t2, t3, t4⟩, -⟩ := (hXM 16 : a_B16 c n σ M)
    have : k1 = k := nI_inj (by omega) (by omega) (q3.symm.trans hk)
    subst this
    have : k2 = k1 := nI_inj (by omega) (by omega) (s3.symm.trans hk)
    subst this
    have : k3 = k2 := nI_inj (by omega) (by omega) (t3.symm.trans hk)
    subst this
    have y := hXM.tY ht
    have e66 : m 5001 66 = nI k3 := (ht 5001 66 (by decide) (by decide)).trans hk
    have r77 : m 5077 = σ 5077 := ht.row 5077 16 (fun _ => rfl) (by decide) (by decide)
    have r78 : m 5078 = σ 5078 := ht.row 5078 16 (fun _ => rfl) (by decide) (by decide)
    have r79 : m 5079 = σ 5079 := ht.row 5079 16 (fun _ => rfl) (by decide) (by decide)
    obtain ⟨e1, ⟨p, hp, ep⟩⟩ := q4 i (by omega)
    obtain ⟨e2, ⟨w, hw, ew⟩⟩ := s4 i (by omega)
    obtain ⟨e3, ex⟩ := t4 i (by omega)
    have g1 := s_get1 (c := c) (M := M) (o := 39) (r := 89) (N := 8) (k := k3) (i := i) (by decide) q2 (by omega) (by omega)
    have g2 := s_get1 (c := c) (M := M) (o := 40) (r := 90) (N := 8) (k := k3) (i := i) (by decide) s2 (by omega) (by omega)
    have g3 := s_get1 (c := c) (M := M) (o := 41) (r := 91) (N := 8) (k := k3) (i := i) (by decide) t2 (by omega) (by omega)
    rw [e1, ep] at g1
    rw [e2, ew] at g2
    rw [e3] at g3
    have st : m 5080 p = σ 5040 p := h80 p hp
    rw [b_X3_allCanStand_10, q2, if_neg (nI_ge (by omega) (by omega)), b_X12_done_25, e66, if_neg (nI_ge (by omega) (by omega)), w_ld (by omega) (by decide), r77, ep, w_ld (by omega) (by decide), st]
    unfold f_X3_canStand
    rw [g1, Option.bind_some]
    obtain ⟨s, hs, es⟩ := ((hXM 8 : a_B8 c n σ M).2.1 p hp).2.2.2.1
    by_cases z : σ 5040 p = 0 ∨ σ 5040 p = 1
    · have n2 : ¬ (2 : Int32) ≤ σ 5040 p := by rcases z with z | z <;> rw [z] <;> decide
      rw [s_present1 hXM hp z, Option.bind_some, g2, Option.bind_some, s_wallAt1 hXM hw, Option.bind_some, if_neg (by omega), if_neg (by omega), g3, Option.bind_some, s_hindrance y (o := 22) (a := 62) (b := 64) (by decide) hH hV hp hw, Option.bind_some, if_neg n2, w_ld (by omega) (by decide), w_ld (by omega) (by decide), w_ld (by omega) (by decide), r77, r78, r79, ep, ew, s_wrong4 (c := c) y.N hC2 (by omega) (by omega), Option.bind_some]
      by_cases z2 : a_w4 c m p w (σ 5079 i) = 0
      · rw [if_pos z2, w_bl1, Option.bind_some, if_neg (show ¬ (1 : Int32) = 0 by decide), nI_1]
        dsimp only
        rw [if_pos z2]
        refine s_chk_loop hX hXM ht hH hV h80 hk hk8 d (i + 1) nf nf' (by omega) (by omega) (by omega) (fun j p' w' hj h1 h2 h3 h4 => ?_)
        by_cases e : j = i
        · subst e
          have : p' = p := nI_inj (by omega) (by omega) (h1.symm.trans ep)
          subst this
          have : w' = w := nI_inj (by omega) (by omega) (h3.symm.trans ew)
          subst this
          exact ⟨z, z2⟩
        · exact hok j p' w' (by omega) h1 h2 h3 h4
      · rw [if_neg z2, w_bl0, Option.bind_some, if_pos rfl, w_bl0]
        dsimp only
        rw [if_neg z2]
        exact Or.inl ⟨rfl, rfl⟩
    · have n2 : (2 : Int32) ≤ σ 5040 p := by
        rcases (show s = 0 ∨ s = 1 ∨ s = 2 ∨ s = 3 by omega) with rfl | rfl | rfl | rfl
        · exact absurd (Or.inl es) z
        · exact absurd (Or.inr es) z
        · rw [es]; decide
        · rw [es]; decide
      have nh : ¬ a_here c σ (nI p) := by
        rintro ⟨p', hp', e, hz⟩
        have : p' = p := nI_inj (by omega) (by omega) e.symm
        subst this
        exact z hz
      rw [s_present0 hXM nh, Option.bind_some, g2, Option.bind_some, s_wallAt1 hXM hw, Option.bind_some, if_pos rfl, w_bl0, Option.bind_some, if_pos rfl, w_bl0, if_pos n2]
      exact Or.inl ⟨rfl, rfl⟩
