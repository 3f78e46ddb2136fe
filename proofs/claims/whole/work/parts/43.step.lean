/-! step -/
theorem q_u2_comm {M : q_MM} {o k o2 k2 : Nat} {v v2 : Int32} (h : ¬ (o = o2 ∧ k = k2)) : q_u2 (q_u2 M o k v) o2 k2 v2 = q_u2 (q_u2 M o2 k2 v2) o k v := by
  funext x y
  by_cases a : x = o ∧ y = k
  · obtain ⟨rfl, rfl⟩ := a
    rw [q_u2_ne h, q_u2_eq, q_u2_eq]
  · by_cases b : x = o2 ∧ y = k2
    · obtain ⟨rfl, rfl⟩ := b
      rw [q_u2_eq, q_u2_ne a, q_u2_eq]
    · rw [q_u2_ne b, q_u2_ne a, q_u2_ne a, q_u2_ne b]
/-- a night, midway: pictures below i have their light -/
def a_N (c n : Nat → Nat) (i : Nat) (m M : q_MM) : Prop := (∀ j, j ≠ 9 → j ≠ 10 → a_R j c n m M) ∧ (∀ p, p < c 2 → M (1300 + p) 13 = m 5043 p ∧ a_rg (m 5043 p) 0 ((239976 * (n 1 + (if p < i then 1 else 0)) : Nat) : Int)) ∧ (∀ p, c 2 ≤ p → p < 24 → m 5043 p = 0) ∧ (∀ p, p < 24 → ∀ k, k < 400 → (m 5044 (400 * p + k) = 0 ∨ m 5044 (400 * p + k) = 1) ∧ a_bit (M 20 k) p = (m 5044 (400 * p + k) == 1) ∧ (n 1 + 1 ≤ k ∨ c 2 ≤ p → m 5044 (400 * p + k) = 0))
theorem a_X.N {c n : Nat → Nat} {m M : q_MM} (h : a_X c n m M) : a_N c n 0 m M := by
  have h9 : a_B9 c n m M := h 9
  have h10 : a_B10 c n m M := h 10
  refine ⟨fun j _ _ => h j, fun p hp => ?_, h9.2.2.1, fun p hp k hk => ?_⟩
  · have := h9.2.1 p hp
    simpa using this
  · obtain ⟨e1, e2, e3⟩ := h10 p hp k hk
    exact ⟨e1, e2, fun z => e3 (by omega)⟩
theorem a_N.C {c n : Nat → Nat} {i : Nat} {m M : q_MM} (h : a_N c n i m M) : a_C c := ⟨(h.1 2 (by decide) (by decide)).1, (h.1 5 (by decide) (by decide)).1, (h.1 7 (by decide) (by decide)).1, (h.1 18 (by decide) (by decide)).1⟩
theorem a_N.Y {c n : Nat → Nat} {i : Nat} {m M : q_MM} (h : a_N c n i m M) : a_Y c n m M := ⟨fun j hj => h.1 j (by omega) (by omega), h.C, (h.1 5 (by decide) (by decide)).2.2.1, (h.1 7 (by decide) (by decide)).2.2.1⟩
theorem a_N.skip {c n : Nat → Nat} {i : Nat} {m M : q_MM} (h : a_N c n i m M) : a_N c n (i + 1) m M := by
  refine ⟨h.1, fun p hp => ?_, h.2.2⟩
  have := h.2.1 p hp
  refine ⟨this.1, this.2.1, Int.le_trans this.2.2 ?_⟩
  by_cases z : p < i
  · rw [if_pos z, if_pos (by omega)]
    omega
  · rw [if_neg z]
    split <;> omega
theorem a_N.shine {c n : Nat → Nat} {i : Nat} {m M : q_MM} (h : a_N c n i m M) (hi : i < c 2) (hn : n 1 < 400) {D : Int32} (hD : a_rg D 0 239976) : a_N c n (i + 1) (q_u2 (q_u2 m 5043 i (m 5043 i + D)) 5044 (400 * i + n 1) 1) (q_u2 (q_u2 M (1300 + i) 13 (M (1300 + i) 13 + D)) 20 (n 1) (M 20 (n 1) ||| ((1 : Int32) <<< (nI i &&& 31)))) := by
  have hC := h.C.2.2.1
  obtain ⟨h1, h2, h3, h4⟩ := h
  have oo : ∀ j, j ≠ 9 → j ≠ 10 → a_only ownM j M (q_u2 (q_u2 M (1300 + i) 13 (M (1300 + i) 13 + D)) 20 (n 1) (M 20 (n 1) ||| ((1 : Int32) <<< (nI i &&& 31)))) := by
    intro j j1 j2 o k ho
    rw [q_u2_ne, q_u2_ne]
    · rintro ⟨rfl, rfl⟩
      rw [oM_pic13 (by omega)] at ho
      exact j1 ho.symm
    · rintro ⟨rfl, rfl⟩
      exact j2 ho.symm
  have os : ∀ j, j ≠ 9 → j ≠ 10 → a_only ownS j m (q_u2 (q_u2 m 5043 i (m 5043 i + D)) 5044 (400 * i + n 1) 1) := by
    intro j j1 j2 o k ho
    rw [q_u2_ne, q_u2_ne]
    · rintro ⟨rfl, rfl⟩
      exact j1 ho.symm
    · rintro ⟨rfl, rfl⟩
      exact j2 ho.symm
  refine ⟨fun j j1 j2 => a_cong j (oo j j1 j2) (os j j1 j2) (h1 j j1 j2), fun p hp => ?_, fun p hp hp2 => ?_, fun p hp k hk => ?_⟩
  · obtain ⟨e1, e2⟩ := h2 p hp
    by_cases e : p = i
    · subst e
      rw [q_u2_ne (by omega), q_u2_eq, q_u2_ne (by omega), q_u2_eq, e1, if_pos (by omega)]
      rw [if_neg (by omega)] at e2
      unfold a_rg at *
      rw [fb_addI (by omega) (by omega)]
      exact ⟨rfl, by omega, by omega⟩
    · rw [q_u2_ne (by omega), q_u2_ne (by omega), q_u2_ne (by omega), q_u2_ne (by omega)]
      refine ⟨e1, ?_⟩
      by_cases z : p < i
      · rw [if_pos (by omega)]
        rw [if_pos z] at e2
        exact e2
      · rw [if_neg (by omega)]
        rw [if_neg z] at e2
        exact e2
  · rw [q_u2_ne (by omega), q_u2_ne (by omega)]
    exact h3 p hp hp2
  · obtain ⟨e1, e2, e3⟩ := h4 p hp k hk
    rw [a_bt] at e2 ⊢
    by_cases e : k = n 1
    · subst e
      rw [q_u2_eq, b_or, b_one i (by omega) p (by omega), e2]
      by_cases e5 : p = i
      · subst e5
        rw [q_u2_eq]
        exact ⟨Or.inr rfl, by simp, fun z => by omega⟩
      · rw [q_u2_ne (by omega), q_u2_ne (by omega)]
        exact ⟨e1, by simp [e5], e3⟩
    · rw [q_u2_ne (by omega), q_u2_ne (by omega), q_u2_ne (by omega), q_u2_ne (by omega)]
      exact ⟨e1, e2, e3⟩
theorem s_night1 {c n : Nat → Nat} (hn : n 1 < 400) {x1 x2 : Int32} {k33 : Int32 → Int32 → q_MM → Option (Int32 × q_MM)} : ∀ (d i nf nf' : Nat) (m M : q_MM), i + d = c 2 → d < nf → d < nf' → a_N c n i m M → ∃ m' M', a_N c n (c 2) m' M' ∧ b_X2_pass_13 c nf (nI i) M = b_X2_pass_93 c q_fu 0 (q_u2 M' 2 12 (nI (n 1 + 1))) ∧ b_X12_step_40 k33 nf' x1 x2 (nI i) m = b_X12_step_111 k33 q_fu x1 x2 0 (q_u2 m' 5001 35 (nI (n 1 + 1)))
  | d, i, 0, _, _, _, _, h, _, _ => absurd h (Nat.not_lt_zero _)
  | d, i, _ + 1, 0, _, _, _, _, h, _ => absurd h (Nat.not_lt_zero _)
  | 0, i, nf + 1, nf' + 1, m, M, hi, _, _, h => by
    have hC := h.C.2.2.1
    have : i = c 2 := by omega
    subst this
    refine ⟨m, M, h, ?_, ?_⟩
    · rw [b_X2_pass_13, s_size rfl, (h.Y).2.2.2, Option.bind_some, if_pos (nI_le (by omega) (by omega)), w_let, (h.1 1 (by decide) (by decide)).2.2, nI_1]
    · rw [b_X12_step_40, h.Y.N, if_pos (nI_le (by omega) (by omega)), w_let, (h.1 1 (by decide) (by decide)).2.1, nI_1]
  | d + 1, i, nf + 1, nf' + 1, m, M, hi, hf, hf', h => by
    have hC := h.C
    have hC1 := hC.2.1
    have hC2 := hC.2.2.1
    have hic : i < c 2 := by omega
    have h8 : a_B8 c n m M := h.1 8 (by decide) (by decide)
    have eM : M 2 12 = nI (n 1) := (h.1 1 (by decide) (by decide)).2.2
    have em : m 5001 35 = nI (n 1) := (h.1 1 (by decide) (by decide)).2.1
    rw [b_X2_pass_13, s_size rfl, h.Y.2.2.2, Option.bind_some, if_neg (nI_ge (by omega) (by omega)), s_getPK h.Y.2 hic, Option.bind_some, w_ck (t_pic hC hic)]
    rw [b_X12_step_40, h.Y.N, if_neg (nI_ge (by omega) (by omega)), w_ld (show i < 24 by omega) (by decide)]
    by_cases z : m 5040 i = 1
    · obtain ⟨⟨w, hw, hwe⟩, -⟩ := (h8.2.1 i hic).2.2.2.2.1 z
      have h5 : a_B5 c n m M := h.1 5 (by decide) (by decide)
      have hds := a_ds_rg h5 hw 24 (by omega)
      have hD : a_rg (a_ds m w 24) 0 239976 := ⟨hds.1, by omega⟩
      have g0 : q_u2 M (1300 + i) 13 (M (1300 + i) 13 + a_ds m w 24) 2 12 = nI (n 1) := (q_u2_ne (by omega)).trans eM
      have g1 : q_u2 m 5043 i (m 5043 i + a_ds m w 24) 5001 35 = nI (n 1) := (q_u2_ne (by omega)).trans em
      obtain ⟨m', M', r1, r2, r3⟩ := s_night1 (x1 := x1) (x2 := x2) (k33 := k33) hn d (i + 1) nf nf' _ _ (by omega) (by omega) (by omega) (h.shine hic hn hD)
      refine ⟨m', M', r1, ?_, ?_⟩
      · rw [s_wallOfK1 h.Y h8 hic z hwe hw, Option.bind_some, if_neg (by omega), s_daylight h.Y hw, Option.bind_some, w_let, g0, w_ld (by omega) (by decide), w_as (by omega) (by decide), q_u2_ne (M := M) (by omega)]
        unfold b_X2_pass_75
        rw [nI_1]
        exact r2
      · have ek : (400 : Int32) * nI i + nI (n 1) = nI (400 * i + n 1) := by rw [show (400 : Int32) = nI 400 from rfl, pk_mul, nI_add]
        rw [if_pos z, w_ld (show i < 24 by omega) (by decide), w_ld (show i < 24 by omega) (by decide), hwe, s_daylightM (by omega), Option.bind_some, w_as (show i < 24 by omega) (by decide), g1, ek, w_as (by omega) (by decide)]
        unfold b_X12_step_93
        rw [nI_1]
        exact r3
    · obtain ⟨m', M', r1, r2, r3⟩ := s_night1 (x1 := x1) (x2 := x2) (k33 := k33) hn d (i + 1) nf nf' _ _ (by omega) (by omega) (by omega) h.skip
      refine ⟨m', M', r1, ?_, ?_⟩
      · rw [s_wallOfK0 h.Y h8 hic z, Option.bind_some, if_pos rfl]
        unfold b_X2_pass_75
        rw [nI_1]
        exact r2
      · rw [if_neg z]
        unfold b_X12_step_93
        rw [nI_1]
        exact r3
theorem a_N.back {c n : Nat → Nat} {i p : Nat} {m M : q_MM} (h : a_N c n i m M) (hp : p < c 2) : a_N c n i (q_u2 (q_u2 (q_u2 m 5040 p 3) 5041 p (-1)) 5042 p (-1)) (q_u2 (q_u2 (q_u2 M (1300 + p) 12 3) 61 p (-1)) 63 p (-1)) := by
  have hC := h.C.2.2.1
  obtain ⟨h1, h2, h3, h4⟩ := h
  refine ⟨fun j j1 j2 => ?_, fun q hq => ?_, fun q hq hq2 => ?_, fun q hq k hk => ?_⟩
  · by_cases e : j = 8
    · subst e
      exact a_B8_leave (h1 8 j1 j2) hp (Or.inr (Or.inr rfl)) (Or.inl rfl)
    · refine a_cong j (fun o k ho => ?_) (fun o k ho => ?_) (h1 j j1 j2)
      · rw [q_u2_ne, q_u2_ne, q_u2_ne]
        · rintro ⟨rfl, rfl⟩
          rw [oM_pic12 (by omega)] at ho
          exact e ho.symm
        · rintro ⟨rfl, rfl⟩
          exact e ho.symm
        · rintro ⟨rfl, rfl⟩
          exact e ho.symm
      · rw [q_u2_ne, q_u2_ne, q_u2_ne]
        · rintro ⟨rfl, rfl⟩
          exact e ho.symm
        · rintro ⟨rfl, rfl⟩
          exact e ho.symm
        · rintro ⟨rfl, rfl⟩
          exact e ho.symm
  · rw [q_u2_ne (by omega), q_u2_ne (by omega), q_u2_ne (by omega), q_u2_ne (by omega), q_u2_ne (by omega), q_u2_ne (by omega)]
    exact h2 q hq
  · rw [q_u2_ne (by omega), q_u2_ne (by omega), q_u2_ne (by omega)]
    exact h3 q hq hq2
  · rw [q_u2_ne (by omega), q_u2_ne (by omega), q_u2_ne (by omega), q_u2_ne (by omega), q_u2_ne (by omega), q_u2_ne (by omega)]
    exact h4 q hq k hk
theorem s_night2 {c n : Nat → Nat} {v : Int32} {x1 x2 : Int32} {k33 : Int32 → Int32 → q_MM → Option (Int32 × q_MM)} : ∀ (d i nf nf' : Nat) (m M : q_MM), i + d = c 2 → d < nf → d < nf' → a_N c n (c 2) m M → (∀ p, p < i → m 5039 p ≤ v → m 5040 p = 3) → ∃ m' M', a_N c n (c 2) m' M' ∧ (∀ p, p < c 2 → m' 5039 p ≤ v → m' 5040 p = 3) ∧ b_X2_pass_93 c nf (nI i) (q_u2 M 2 12 v) = some (q_u2 M' 2 12 v) ∧ b_X12_step_111 k33 nf' x1 x2 (nI i) (q_u2 m 5001 35 v) = k33 x1 (x2 + 1) (q_u2 m' 5001 35 v)
  | d, i, 0, _, _, _, _, h, _, _, _ => absurd h (Nat.not_lt_zero _)
  | d, i, _ + 1, 0, _, _, _, _, h, _, _ => absurd h (Nat.not_lt_zero _)
  | 0, i, nf + 1, nf' + 1, m, M, hi, _, _, h, hb => by
    have hC := h.C.2.2.1
    have : i = c 2 := by omega
    subst this
    have e1 : q_u2 M 2 12 v 15 2 = nI (c 2) := (q_u2_ne (by omega)).trans h.Y.2.2.2
    have e2 : q_u2 m 5001 35 v 5001 18 = nI (c 2) := (q_u2_ne (by omega)).trans h.Y.N
    refine ⟨m, M, h, hb, ?_, ?_⟩
    · rw [b_X2_pass_93, s_size rfl, e1, Option.bind_some, if_pos (nI_le (by omega) (by omega))]
    · rw [b_X12_step_111, e2, if_pos (nI_le (by omega) (by omega))]
  | d + 1, i, nf + 1, nf' + 1, m, M, hi, hf, hf', h, hb => by
    have hC := h.C
    have hC2 := hC.2.2.1
    have hic : i < c 2 := by omega
    have e1 : q_u2 M 2 12 v 15 2 = nI (c 2) := (q_u2_ne (by omega)).trans h.Y.2.2.2
    have e2 : q_u2 m 5001 35 v 5001 18 = nI (c 2) := (q_u2_ne (by omega)).trans h.Y.N
    have hK : a_K c (q_u2 M 2 12 v) := ⟨hC, (q_u2_ne (by omega)).trans h.Y.2.2.1, e1⟩
    have h7 : a_B7 c n m M := h.1 7 (by decide) (by decide)
    have e3 : q_u2 M 2 12 v (1300 + i) 11 = m 5039 i := (q_u2_ne (by omega)).trans (h7.2.2.2.1 i hic).1.2.2.2.2.2.2.2.2.2.2.2
    have e4 : q_u2 m 5001 35 v 5039 i = m 5039 i := q_u2_ne (by omega)
    rw [b_X2_pass_93, s_size rfl, e1, Option.bind_some, if_neg (nI_ge (by omega) (by omega)), s_getPK hK hic, Option.bind_some, w_ck (t_pic hC hic), q_u2_eq, e3]
    rw [b_X12_step_111, e2, if_neg (nI_ge (by omega) (by omega)), w_ld (show i < 24 by omega) (by decide), q_u2_eq, e4]
    unfold b_X2_pass_140 b_X12_step_138
    rw [nI_1]
    by_cases z : v < m 5039 i
    · rw [if_pos z, if_pos z]
      refine s_night2 d (i + 1) nf nf' m M (by omega) (by omega) (by omega) h (fun p hp hpv => ?_)
      by_cases e : p = i
      · subst e
        rw [i_lt] at z
        rw [i_le] at hpv
        omega
      · exact hb p (by omega) hpv
    · rw [if_neg z, if_neg z, w_let, s_take (a := 61) (b := 63) (by decide) (by omega), Option.bind_some]
      have em : f_X12_takes (q_u2 m 5001 35 v) (nI i) 3 = some (q_u2 (q_u2 (q_u2 (q_u2 m 5001 35 v) 5040 i 3) 5041 i (-1)) 5042 i (-1)) := by
        unfold f_X12_takes
        rw [w_as (by omega) (by decide), w_as (by omega) (by decide), w_as (by omega) (by decide)]
      rw [em, Option.bind_some]
      rw [q_u2_comm (M := M) (by omega), q_u2_comm (o := 2) (by omega), q_u2_comm (o := 2) (by omega), q_u2_comm (M := m) (by omega), q_u2_comm (o := 5001) (by omega), q_u2_comm (o := 5001) (by omega)]
      refine s_night2 d (i + 1) nf nf' _ _ (by omega) (by omega) (by omega) (h.back hic) (fun p hp hpv => ?_)
      by_cases e : p = i
      · subst e
        rw [q_u2_ne (by omega), q_u2_ne (by omega), q_u2_eq]
      · rw [q_u2_ne (by omega), q_u2_ne (by omega), q_u2_ne (by omega)] at hpv ⊢
        exact hb p (by omega) hpv
theorem a_nn {c n n' : Nat → Nat} {m M : q_MM} (h0 : n' 0 = n 0) {j : Nat} (h1 : j ≠ 1) (h8 : j ≠ 8) (h9 : j ≠ 9) (h10 : j ≠ 10) (h : a_R j c n m M) : a_R j c n' m M := by
  match j, h1, h8, h9, h10, h with
  | 0, _, _, _, _, h => unfold a_R a_B0 at *; rw [h0]; exact h
  | 1, h, _, _, _, _ => exact absurd rfl h
  | 2, _, _, _, _, h => unfold a_R a_B2 at *; rw [h0]; exact h
  | 3, _, _, _, _, h => exact trivial
  | 4, _, _, _, _, h => exact h
  | 5, _, _, _, _, h => unfold a_R a_B5 at *; rw [h0]; exact h
  | 6, _, _, _, _, h => exact h
  | 7, _, _, _, _, h => exact h
  | 8, _, h, _, _, _ => exact absurd rfl h
  | 9, _, _, h, _, _ => exact absurd rfl h
  | 10, _, _, _, h, _ => exact absurd rfl h
  | 11, _, _, _, _, h => exact h
  | 12, _, _, _, _, h => exact h
  | 13, _, _, _, _, h => exact h
  | 14, _, _, _, _, h => exact h
  | 15, _, _, _, _, h => unfold a_R a_B15 at *; rw [h0]; exact h
  | 16, _, _, _, _, h => exact h
  | 17, _, _, _, _, h => exact h
  | 18, _, _, _, _, h => exact h
  | k + 19, _, _, _, _, _ => trivial
def a_nx (n : Nat → Nat) : Nat → Nat := fun j => if j = 1 then n 1 + 1 else if 100 ≤ j then 0 else n j
theorem a_N.done {c n : Nat → Nat} {m M : q_MM} (h : a_N c n (c 2) m M) (hn : n 1 < 400) (hb : ∀ p, p < c 2 → m 5039 p ≤ nI (n 1 + 1) → m 5040 p = 3) : a_X c (a_nx n) (q_u2 m 5001 35 (nI (n 1 + 1))) (q_u2 M 2 12 (nI (n 1 + 1))) := by
  have hC := h.C.2.2.1
  have h7 : a_B7 c n m M := h.1 7 (by decide) (by decide)
  obtain ⟨h1, h2, h3, h4⟩ := h
  have oo : ∀ j, j ≠ 1 → a_only ownM j M (q_u2 M 2 12 (nI (n 1 + 1))) := by
    intro j j1 o k ho
    rw [q_u2_ne]
    rintro ⟨rfl, rfl⟩
    exact j1 ho.symm
  have os : ∀ j, j ≠ 1 → a_only ownS j m (q_u2 m 5001 35 (nI (n 1 + 1))) := by
    intro j j1 o k ho
    rw [q_u2_ne]
    rintro ⟨rfl, rfl⟩
    exact j1 ho.symm
  intro j
  by_cases e1 : j = 1
  · subst e1
    exact ⟨by show n 1 + 1 ≤ 400; omega, q_u2_eq, q_u2_eq⟩
  refine a_cong j (oo j e1) (os j e1) ?_
  by_cases e8 : j = 8
  · subst e8
    have h8 : a_B8 c n m M := h1 8 (by decide) (by decide)
    refine ⟨h8.1, h8.2.1, h8.2.2.1, fun p hp e1 e2 => hb p hp ?_, h8.2.2.2.2⟩
    have e1 : n 1 + 1 = 400 := e1
    rw [e1]
    have := (h7.2.2.2.1 p hp).2.2.2.2.2.2.2.2.2.2.2.2.2
    rw [i_le]
    exact this.2
  by_cases e9 : j = 9
  · subst e9
    refine ⟨hC, fun p hp => ?_, h3, fun p hp _ => Or.inl (by show (if 100 + p = 1 then _ else _) = 0; rw [if_neg (by omega), if_pos (by omega)])⟩
    have := h2 p hp
    rw [if_pos hp] at this
    refine ⟨this.1, this.2.1, Int.le_trans this.2.2 ?_⟩
    show _ ≤ 239976 * ((n 1 + 1 : Nat) : Int)
    omega
  by_cases e10 : j = 10
  · subst e10
    exact h4
  exact a_nn (n := n) (n' := a_nx n) rfl e1 e8 e9 e10 (h1 j e9 e10)
theorem s_step_loop {c : Nat → Nat} {N : Nat} (hN : N ≤ 100) : ∀ (d i nf nf' : Nat) (n : Nat → Nat) (m M : q_MM), i + d = N → d < nf → d < nf' → n 1 + d ≤ 400 → a_X c n m M → a_T c (b_X11_step_29 c nf (nI N) (nI i) M) (b_X12_step_33 nf' (nI N) (nI i) m)
  | d, i, 0, _, _, _, _, _, h, _, _, _ => absurd h (Nat.not_lt_zero _)
  | d, i, _ + 1, 0, _, _, _, _, _, h, _, _ => absurd h (Nat.not_lt_zero _)
  | 0, i, nf + 1, nf' + 1, n, m, M, hi, _, _, _, h => by
    obtain ⟨b1, b2, b3⟩ : a_B1 c n m M := h 1
    rw [b_X11_step_29, b_X12_step_33, if_pos (nI_le (by omega) (by omega)), if_pos (nI_le (by omega) (by omega)), b2, b3]
    exact a_T.no h _ rfl rfl
  | d + 1, i, nf + 1, nf' + 1, n, m, M, hi, hf, hf', hn, h => by
    have hfu := q_fu_le
    have hC := h.C.2.2.1
    obtain ⟨b1, b2, b3⟩ : a_B1 c n m M := h 1
    rw [b_X11_step_29, b_X12_step_33, if_neg (nI_ge (by omega) (by omega)), if_neg (nI_ge (by omega) (by omega))]
    obtain ⟨m1, M1, r1, r2, r3⟩ := s_night1 (n := n) (by omega) (x1 := nI N) (x2 := nI i) (k33 := b_X12_step_33 nf') (c 2) 0 q_fu q_fu m M (by omega) (by omega) (by omega) h.N
    obtain ⟨m2, M2, t1, t2, t3, t4⟩ := s_night2 (v := nI (n 1 + 1)) (x1 := nI N) (x2 := nI i) (k33 := b_X12_step_33 nf') (c 2) 0 q_fu q_fu m1 M1 (by omega) (by omega) (by omega) r1 (fun p hp => absurd hp (Nat.not_lt_zero _))
    have e : f_X2_pass c M = some (q_u2 M2 2 12 (nI (n 1 + 1))) := by
      unfold f_X2_pass
      rw [b3, if_pos (show nI (n 1) < 400 from nI_lt (a := n 1) (b := 400) (by omega) (by decide))]
      exact r2.trans t3
    rw [e, Option.bind_some, show (0 : Int32) = nI 0 from rfl, r3, show (0 : Int32) = nI 0 from rfl, t4, nI_1]
    exact s_step_loop hN d (i + 1) nf nf' (a_nx n) _ _ (by omega) (by omega) (by omega) (by show n 1 + 1 + d ≤ 400; omega) (t1.done (by omega) t2)
theorem pub_step {c n : Nat → Nat} {m M : q_MM} (h : a_X c n m M) (a1 : Int32) : a_T c (f_X11_step c M a1) (f_X12_step m a1) := by
  unfold f_X11_step f_X12_step
  simp only [w_let]
  replace h := h.t0
  generalize q_u2 m 5001 0 0 = m at h ⊢
  have hfu := q_fu_le
  obtain ⟨b1, b2, b3⟩ : a_B1 c n m M := h 1
  by_cases z1 : a_rg a1 0 100
  · have e1 : f_X11_within c M a1 0 100 = some 1 := s_within1 z1 rfl rfl
    have e2 : f_X12_in m (Int32.toInt64 a1) 0 100 = some 1 := s_in1 z1 rfl rfl
    obtain ⟨N, hN, rfl⟩ := a_rg.nat (N := 100) z1 (by omega)
    rw [e1, e2, Option.bind_some, Option.bind_some, if_neg (show ¬ (1 : Int32) = 0 by decide), if_neg (show ¬ (1 : Int32) = 0 by decide), b2, b3, show (400 : Int32) = nI 400 from rfl, pk_sub b1, nI_add]
    by_cases z2 : n 1 + N ≤ 400
    · rw [if_pos (nI_le (by omega) (by omega)), if_pos (nI_le z2 (by omega))]
      exact s_step_loop hN N 0 q_fu q_fu n m M (by omega) (by omega) (by omega) z2 h
    · rw [if_neg (nI_nl2 _ _ (by omega) (by omega) (by omega)), if_neg (nI_nl2 _ _ (by omega) (by omega) (by omega))]
      exact a_T.no h (-1) rfl rfl
  · have e1 : f_X11_within c M a1 0 100 = some 0 := s_within0 z1 rfl rfl
    have e2 : f_X12_in m (Int32.toInt64 a1) 0 100 = some 0 := s_inn z1 rfl rfl
    exact a_T.no h (-1) (by simp [e1]) (by simp [e2])
