/-! done -/
theorem s_become {c : Nat → Nat} {M : q_MM} {o1 a1 b1 o2 a2 b2 : Nat} (h1 : (o1, a1, b1) ∈ [(21, 61, 63), (22, 62, 64)]) (h2 : (o2, a2, b2) ∈ [(21, 61, 63), (22, 62, 64)]) (hne : o1 ≠ o2) : ∃ M', f_X1_become c M o2 o1 = some M' ∧ (∀ o, o ≠ a2 → o ≠ b2 → M' o = M o) ∧ (∀ j, j < 24 → M' a2 j = M a1 j ∧ M' b2 j = M b1 j) ∧ ∀ j, 24 ≤ j → M' a2 j = M a2 j ∧ M' b2 j = M b2 j := by
  have t : ∀ o a b, (o, a, b) ∈ [(21, 61, 63), (22, 62, 64)] → qTX c o = 11 ∧ qPX c o 0 = a ∧ qPX c o 1 = b ∧ qTX c a = 1 ∧ qTX c b = 1 ∧ qLX c a = 24 ∧ qLX c b = 24 := by
    intro o a b ho
    simp only [List.mem_cons, List.not_mem_nil, or_false, Prod.mk.injEq] at ho
    rcases ho with ⟨rfl, rfl, rfl⟩ | ⟨rfl, rfl, rfl⟩ <;> exact ⟨rfl, rfl, rfl, rfl, rfl, rfl, rfl⟩
  obtain ⟨p1, p2, p3, p4, p5, p6, p7⟩ := t _ _ _ h1
  obtain ⟨r1, r2, r3, r4, r5, r6, r7⟩ := t _ _ _ h2
  have dif : a1 ≠ a2 ∧ b1 ≠ b2 ∧ a1 ≠ b2 ∧ b1 ≠ a2 ∧ a2 ≠ b2 := by
    simp only [List.mem_cons, List.not_mem_nil, or_false, Prod.mk.injEq] at h1 h2
    rcases h1 with ⟨rfl, rfl, rfl⟩ | ⟨rfl, rfl, rfl⟩ <;> rcases h2 with ⟨rfl, rfl, rfl⟩ | ⟨rfl, rfl, rfl⟩ <;> first | exact absurd rfl hne | decide
  obtain ⟨d1, d2, d3, d4, d5⟩ := dif
  unfold f_X1_become
  rw [w_ck p1, w_ck r1, p2, w_ck p4, r2, w_ck r4, p6, r6, w_if (by decide), w_let, p3, w_ck p5, r3, w_ck r5, p7, r7, w_if (by decide), w_let]
  have c24 : Int32.toNatClampNeg 24 = 24 := by decide
  have c0 : Int32.toNatClampNeg 0 = 0 := by decide
  refine ⟨_, rfl, fun o h1 h2 => ?_, fun j hj => ⟨?_, ?_⟩, fun j hj => ⟨?_, ?_⟩⟩
  · dsimp only
    rw [if_neg h2, if_neg h1]
  · dsimp only
    rw [if_neg d5, if_pos rfl, pk_cpy_in (by rw [c0]; omega) (by rw [c0, c24]; omega), c0]
    simp
  · dsimp only
    rw [if_pos rfl, pk_cpy_in (by rw [c0]; omega) (by rw [c0, c24]; omega), c0, if_neg d4]
    simp
  · dsimp only
    rw [if_neg d5, if_pos rfl, pk_cpy_out (Or.inr (by rw [c0, c24]; omega))]
  · dsimp only
    rw [if_pos rfl, pk_cpy_out (Or.inr (by rw [c0, c24]; omega)), if_neg d5.symm]
/-- kept: where pictures hang, in rows 5080 .. 5082 -/
theorem s_keeps {c : Nat → Nat} {m0 : q_MM} (hN : m0 5001 18 = nI (c 2)) (hN2 : c 2 ≤ 24) : ∃ m', f_X12_keeps m0 = some m' ∧ (∀ o, o ≠ 5080 → o ≠ 5081 → o ≠ 5082 → m' o = m0 o) ∧ ∀ p, p < c 2 → m' 5080 p = m0 5040 p ∧ m' 5081 p = m0 5041 p ∧ m' 5082 p = m0 5042 p := by
  have hfu := q_fu_le
  have loop : ∀ (d i nf : Nat) (m : q_MM), i + d = c 2 → d < nf → (∀ o, o ≠ 5080 → o ≠ 5081 → o ≠ 5082 → m o = m0 o) → (∀ p, p < i → m 5080 p = m0 5040 p ∧ m 5081 p = m0 5041 p ∧ m 5082 p = m0 5042 p) → ∃ m', b_X12_keeps_2 nf (nI i) m = some m' ∧ (∀ o, o ≠ 5080 → o ≠ 5081 → o ≠ 5082 → m' o = m0 o) ∧ ∀ p, p < c 2 → m' 5080 p = m0 5040 p ∧ m' 5081 p = m0 5041 p ∧ m' 5082 p = m0 5042 p := by
    intro d
    induction d with
    | zero =>
      intro i nf m hi hf hfr hk
      obtain ⟨nf, rfl⟩ : ∃ k, nf = k + 1 := ⟨nf - 1, by omega⟩
      have : i = c 2 := by omega
      subst this
      exact ⟨m, by rw [b_X12_keeps_2, hfr 5001 (by decide) (by decide) (by decide), hN, if_pos (nI_le (by omega) (by omega))], hfr, hk⟩
    | succ d ih =>
      intro i nf m hi hf hfr hk
      obtain ⟨nf, rfl⟩ : ∃ k, nf = k + 1 := ⟨nf - 1, by omega⟩
      have r0 := hfr 5040 (by decide) (by decide) (by decide)
      have r1 := hfr 5041 (by decide) (by decide) (by decide)
      have r2 := hfr 5042 (by decide) (by decide) (by decide)
      rw [b_X12_keeps_2, hfr 5001 (by decide) (by decide) (by decide), hN, if_neg (nI_ge (by omega) (by omega)), w_ld (by omega) (by decide), w_as (by omega) (by decide), w_ld (by omega) (by decide), w_as (by omega) (by decide), w_ld (by omega) (by decide), w_as (by omega) (by decide), nI_1]
      refine ih (i + 1) nf _ (by omega) (by omega) (fun o h0 h1 h2 => ?_) (fun p hp => ?_)
      · funext k
        rw [q_u2_ne (fun z => h2 z.1), q_u2_ne (fun z => h1 z.1), q_u2_ne (fun z => h0 z.1), hfr o h0 h1 h2]
      · by_cases e : p = i
        · subst e
          refine ⟨?_, ?_, ?_⟩
          · rw [q_u2_ne (by omega), q_u2_ne (by omega), q_u2_eq, r0]
          · rw [q_u2_ne (by omega), q_u2_eq, q_u2_ne (by omega), r1]
          · rw [q_u2_eq, q_u2_ne (by omega), q_u2_ne (by omega), r2]
        · rw [q_u2_ne (by omega), q_u2_ne (by omega), q_u2_ne (by omega), q_u2_ne (by omega), q_u2_ne (by omega), q_u2_ne (by omega), q_u2_ne (by omega), q_u2_ne (by omega), q_u2_ne (by omega)]
          exact hk p (by omega)
  exact loop (c 2) 0 q_fu m0 (by omega) (by omega) (fun _ _ _ _ => rfl) (fun p hp => absurd hp (Nat.not_lt_zero _))
/-- and given back -/
theorem s_restores {c : Nat → Nat} {m0 : q_MM} (hN : m0 5001 18 = nI (c 2)) (hN2 : c 2 ≤ 24) : ∃ m', f_X12_restores m0 = some m' ∧ (∀ o k, ¬ ((o = 5040 ∨ o = 5041 ∨ o = 5042) ∧ k < c 2) → m' o k = m0 o k) ∧ ∀ p, p < c 2 → m' 5040 p = m0 5080 p ∧ m' 5041 p = m0 5081 p ∧ m' 5042 p = m0 5082 p := by
  have hfu := q_fu_le
  have loop : ∀ (d i nf : Nat) (m : q_MM), i + d = c 2 → d < nf → (∀ o k, ¬ ((o = 5040 ∨ o = 5041 ∨ o = 5042) ∧ k < c 2) → m o k = m0 o k) → (∀ p, p < i → m 5040 p = m0 5080 p ∧ m 5041 p = m0 5081 p ∧ m 5042 p = m0 5082 p) → ∃ m', b_X12_restores_2 nf (nI i) m = some m' ∧ (∀ o k, ¬ ((o = 5040 ∨ o = 5041 ∨ o = 5042) ∧ k < c 2) → m' o k = m0 o k) ∧ ∀ p, p < c 2 → m' 5040 p = m0 5080 p ∧ m' 5041 p = m0 5081 p ∧ m' 5042 p = m0 5082 p := by
    intro d
    induction d with
    | zero =>
      intro i nf m hi hf hfr hk
      obtain ⟨nf, rfl⟩ : ∃ k, nf = k + 1 := ⟨nf - 1, by omega⟩
      have : i = c 2 := by omega
      subst this
      exact ⟨m, by rw [b_X12_restores_2, hfr 5001 18 (by omega), hN, if_pos (nI_le (by omega) (by omega))], hfr, hk⟩
    | succ d ih =>
      intro i nf m hi hf hfr hk
      obtain ⟨nf, rfl⟩ : ∃ k, nf = k + 1 := ⟨nf - 1, by omega⟩
      rw [b_X12_restores_2, hfr 5001 18 (by omega), hN, if_neg (nI_ge (by omega) (by omega)), w_ld (by omega) (by decide), w_as (by omega) (by decide), w_ld (by omega) (by decide), w_as (by omega) (by decide), w_ld (by omega) (by decide), w_as (by omega) (by decide), nI_1]
      refine ih (i + 1) nf _ (by omega) (by omega) (fun o k hok => ?_) (fun p hp => ?_)
      · rw [q_u2_ne (by omega), q_u2_ne (by omega), q_u2_ne (by omega), hfr o k hok]
      · by_cases e : p = i
        · subst e
          refine ⟨?_, ?_, ?_⟩
          · rw [q_u2_ne (by omega), q_u2_ne (by omega), q_u2_eq, hfr 5080 p (by omega)]
          · rw [q_u2_ne (by omega), q_u2_eq, q_u2_ne (by omega), hfr 5081 p (by omega)]
          · rw [q_u2_eq, q_u2_ne (by omega), q_u2_ne (by omega), hfr 5082 p (by omega)]
        · rw [q_u2_ne (by omega), q_u2_ne (by omega), q_u2_ne (by omega), q_u2_ne (by omega), q_u2_ne (by omega), q_u2_ne (by omega), q_u2_ne (by omega), q_u2_ne (by omega), q_u2_ne (by omega)]
          exact hk p (by omega)
  exact loop (c 2) 0 q_fu m0 (by omega) (by omega) (fun _ _ _ => rfl) (fun p hp => absurd hp (Nat.not_lt_zero _))
theorem a_H.put {c : Nat → Nat} {m M : q_MM} {a b p w : Nat} {x : Int32} (h : a_H c m M a b) (hab : a ≠ b) (hp : p < c 2) (hw : w < 100) : a_H c (q_u2 (q_u2 (q_u2 m 5040 p 1) 5041 p (nI w)) 5042 p x) (q_u2 (q_u2 M a p (nI w)) b p x) a b := by
  obtain ⟨h1, h2⟩ := h
  refine ⟨fun q hq => ?_, fun q hq hq2 => ?_⟩
  · have g := h1 q hq
    by_cases e : q = p
    · subst e
      refine ⟨?_, ?_⟩
      · rw [q_u2_ne (fun z => hab z.1), q_u2_eq]
        exact ((a_W_w hw).mpr ⟨by rw [q_u2_ne (by omega), q_u2_ne (by omega), q_u2_eq], by rw [q_u2_ne (by omega), q_u2_eq]⟩).symm
      · rw [q_u2_eq, q_u2_eq]
    · rw [q_u2_ne (fun z => hab z.1), q_u2_ne (fun z => e z.2), q_u2_ne (fun z => e z.2), q_u2_ne (M := M) (fun z => hab z.1.symm), q_u2_ne (fun z => e z.2)]
      refine ⟨?_, ?_⟩
      · rw [g.1]
        unfold a_W
        rw [q_u2_ne (by omega), q_u2_ne (by omega), q_u2_ne (by omega), q_u2_ne (by omega), q_u2_ne (by omega), q_u2_ne (by omega)]
      · rw [g.2, q_u2_ne (by omega), q_u2_ne (by omega)]
  · rw [q_u2_ne (fun z => hab z.1), q_u2_ne (by omega)]
    exact h2 q hq hq2
