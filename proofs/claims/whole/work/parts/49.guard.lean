/-! guard -/
def a_seen (n : Nat → Nat) (m : q_MM) (w : Nat) (x : Int32) : Prop := ∃ r, r < n 0 ∧ bt x r = true ∧ (m 5020 w = nI r ∨ m 5086 (16 * r + w) = 1)
def a_wat (m : q_MM) (v : Int32) (p : Nat) : Prop := m 5040 p = 1 ∧ ¬ m 5034 p < v
def a_SN (c n : Nat → Nat) (m : q_MM) (v x : Int32) : Prop := ∀ p, p < c 2 → a_wat m v p → a_seen n m (m 5041 p).toNatClampNeg x
theorem s_isSeen_loop {c n : Nat → Nat} {m M : q_MM} (h : a_X c n m M) {w : Nat} (hw : w < c 1) (x : Int32) : ∀ (d r nf : Nat) (acc : Int32), r + d = n 0 → d < nf → (acc = 0 ∨ acc = 1) → b_X12_isSeen_5 m nf (nI w) x acc (nI r) = some (a_if (acc = 1 ∨ ∃ k, r ≤ k ∧ k < n 0 ∧ bt x k = true ∧ (m 5020 w = nI k ∨ m 5086 (16 * k + w) = 1)) 1 0)
  | d, r, 0, _, _, h, _ => absurd h (Nat.not_lt_zero _)
  | 0, r, nf + 1, acc, hi, _, ha => by
    have h0 : n 0 ≤ 10 := (h 0).1
    rw [b_X12_isSeen_5, (h 0).2.1, if_pos (nI_le (by omega) (by omega))]
    rcases ha with rfl | rfl
    · rw [w_bl0, a_ifn]
      rintro (z | ⟨k, h1, h2, -⟩)
      · exact absurd z (by decide)
      · omega
    · rw [w_bl1, a_ifp (Or.inl rfl)]
  | d + 1, r, nf + 1, acc, hi, hf, ha => by
    have h0 : n 0 ≤ 10 := (h 0).1
    have hC1 := h.C.2.1
    have h5 : a_B5 c n m M := h 5
    rw [b_X12_isSeen_5, (h 0).2.1, if_neg (nI_ge (by omega) (by omega))]
    unfold b_X12_isSeen_58 b_X12_isSeen_54 b_X12_isSeen_59
    rw [nI_1]
    have no : ∀ z : ¬ (bt x r = true ∧ (m 5020 w = nI r ∨ m 5086 (16 * r + w) = 1)), b_X12_isSeen_5 m nf (nI w) x 0 (nI (r + 1)) = some (a_if ((0 : Int32) = 1 ∨ ∃ k, r ≤ k ∧ k < n 0 ∧ bt x k = true ∧ (m 5020 w = nI k ∨ m 5086 (16 * k + w) = 1)) 1 0) := by
      intro z
      rw [s_isSeen_loop h hw x d (r + 1) nf 0 (by omega) (by omega) (Or.inl rfl)]
      congr 2
      apply propext
      constructor
      · rintro (q | ⟨k, h1, h2, h3⟩)
        · exact absurd q (by decide)
        · exact Or.inr ⟨k, by omega, h2, h3⟩
      · rintro (q | ⟨k, h1, h2, h3⟩)
        · exact absurd q (by decide)
        · refine Or.inr ⟨k, ?_, h2, h3⟩
          by_cases e : k = r
          · exact absurd (e ▸ h3) z
          · omega
    have yes : b_X12_isSeen_5 m nf (nI w) x 1 (nI (r + 1)) = some 1 := by
      rw [s_isSeen_loop h hw x d (r + 1) nf 1 (by omega) (by omega) (Or.inr rfl), a_ifp (Or.inl rfl)]
    rcases ha with rfl | rfl
    · rw [if_pos rfl]
      have hb : ((x >>> (nI r &&& 31)) &&& 1 = 1) ↔ bt x r = true := by
        have := b_sh1 x (r := r) (by omega)
        rcases narz01 (x >>> (nI r &&& 31)) with e | e
        · rw [e]
          rw [this.mp e]
          exact ⟨fun q => absurd q (by decide), fun q => absurd q (by decide)⟩
        · rw [e]
          refine ⟨fun _ => ?_, fun _ => rfl⟩
          cases e2 : bt x r
          · rw [this.mpr e2] at e
            exact absurd e (by decide)
          · rfl
      by_cases z : bt x r = true
      · rw [if_pos (hb.mpr z), w_ld (by omega) (by decide)]
        by_cases z2 : m 5020 w = nI r
        · rw [if_pos z2, yes, a_ifp (Or.inr ⟨r, Nat.le_refl r, by omega, z, Or.inl z2⟩)]
        · have ei : (16 : Int32) * nI r + nI w = nI (16 * r + w) := by rw [show (16 : Int32) = nI 16 from rfl, pk_mul, nI_add]
          rw [if_neg z2, ei, w_ld (by omega) (by decide)]
          rcases (h5.2.2.2.2.2.1 w hw r (by omega)).1 with e | e
          · rw [e, if_pos rfl, no (by rw [e]; exact fun q => q.2.elim z2 (fun a => absurd a (by decide)))]
          · rw [e, if_neg (by decide), yes, a_ifp (Or.inr ⟨r, Nat.le_refl r, by omega, z, Or.inr e⟩)]
      · rw [if_neg (fun q => z (hb.mp q)), no (fun q => z q.1)]
    · rw [if_neg (by decide), yes, a_ifp (Or.inl rfl)]
theorem s_isSeen {c n : Nat → Nat} {m M : q_MM} (h : a_X c n m M) {w : Nat} (hw : w < c 1) (x : Int32) : f_X12_isSeen m (nI w) x = some (a_if (a_seen n m w x) 1 0) := by
  have hfu := q_fu_le
  have h0 : n 0 ≤ 10 := (h 0).1
  unfold f_X12_isSeen
  refine (s_isSeen_loop h hw x (n 0) 0 q_fu 0 (by omega) (by omega) (Or.inl rfl)).trans ?_
  congr 2
  apply propext
  constructor
  · rintro (q | ⟨k, h1, h2, h3⟩)
    · exact absurd q (by decide)
    · exact ⟨k, h2, h3⟩
  · exact fun ⟨k, h2, h3⟩ => Or.inr ⟨k, Nat.zero_le _, h2, h3⟩
theorem s_gm_loop {c n : Nat → Nat} {m M : q_MM} (h : a_X c n m M) (v x2 x3 : Int32) {k23 : Int32 → Int32 → Int32 → q_MM → Option (Int32 × q_MM)} : ∀ (d p nf : Nat) (acc : Int32), p + d = c 2 → d < nf → (acc = 0 ∨ acc = 1) → b_X12_guard_57 k23 nf v x2 x3 acc (nI p) m = k23 v (a_if (acc = 1 ∧ ∀ k, p ≤ k → k < c 2 → a_wat m v k → a_seen n m (m 5041 k).toNatClampNeg x3) x3 x2) (x3 + 1) m
  | d, p, 0, _, _, h, _ => absurd h (Nat.not_lt_zero _)
  | 0, p, nf + 1, acc, hi, _, ha => by
    have hC := h.C.2.2.1
    rw [b_X12_guard_57, h.Y.N, if_pos (nI_le (by omega) (by omega))]
    unfold b_X12_guard_131 b_X12_guard_132
    rcases ha with rfl | rfl
    · rw [if_pos rfl, a_ifn (fun q => absurd q.1 (by decide))]
    · rw [if_neg (by decide), a_ifp ⟨rfl, fun k h1 h2 => by omega⟩]
  | d + 1, p, nf + 1, acc, hi, hf, ha => by
    have hC := h.C
    have hC2 := hC.2.2.1
    have hC1 := hC.2.1
    rw [b_X12_guard_57, h.Y.N, if_neg (nI_ge (by omega) (by omega))]
    unfold b_X12_guard_112 b_X12_guard_108 b_X12_guard_113
    rw [nI_1]
    have ok : (a_wat m v p → a_seen n m (m 5041 p).toNatClampNeg x3) → b_X12_guard_57 k23 nf v x2 x3 1 (nI (p + 1)) m = k23 v (a_if ((1 : Int32) = 1 ∧ ∀ k, p ≤ k → k < c 2 → a_wat m v k → a_seen n m (m 5041 k).toNatClampNeg x3) x3 x2) (x3 + 1) m := by
      intro z
      rw [s_gm_loop h v x2 x3 d (p + 1) nf 1 (by omega) (by omega) (Or.inr rfl)]
      congr 2
      apply propext
      constructor
      · rintro ⟨-, q⟩
        refine ⟨rfl, fun k h1 h2 h3 => ?_⟩
        by_cases e : k = p
        · subst e
          exact z h3
        · exact q k (by omega) h2 h3
      · exact fun q => ⟨rfl, fun k h1 h2 h3 => q.2 k (by omega) h2 h3⟩
    have bad : b_X12_guard_57 k23 nf v x2 x3 0 (nI (p + 1)) m = k23 v x2 (x3 + 1) m := by
      rw [s_gm_loop h v x2 x3 d (p + 1) nf 0 (by omega) (by omega) (Or.inl rfl), a_ifn (fun q => absurd q.1 (by decide))]
    rcases ha with rfl | rfl
    · rw [if_pos rfl, bad, a_ifn (fun q => absurd q.1 (by decide))]
    · rw [if_neg (by decide), w_ld (by omega) (by decide)]
      by_cases z1 : m 5040 p = 1
      · obtain ⟨⟨w, hw, hwe⟩, -⟩ := ((h 8 : a_B8 c n m M).2.1 p (by omega)).2.2.2.2.1 z1
        rw [if_pos z1, w_ld (by omega) (by decide)]
        by_cases z2 : m 5034 p < v
        · rw [if_pos z2, ok (fun q => absurd z2 q.2)]
        · rw [if_neg z2, w_ld (by omega) (by decide), hwe, s_isSeen h hw, Option.bind_some]
          by_cases z3 : a_seen n m w x3
          · rw [a_ifp z3, if_neg (by decide), ok (fun _ => by rw [hwe, nI_clamp (by omega)]; exact z3)]
          · rw [a_ifn z3, if_pos rfl, bad, a_ifn]
            intro q
            have := q.2 p (Nat.le_refl p) (by omega) ⟨z1, z2⟩
            rw [hwe, nI_clamp (by omega)] at this
            exact z3 this
      · rw [if_neg z1, ok (fun q => absurd q.1 z1)]
/-- fewest, then least -/
def a_K2 (v : Nat) : Nat := fb_ct (bt (nI v)) 32
def a_bst (v u : Nat) : Prop := a_K2 v < a_K2 u ∨ (a_K2 v = a_K2 u ∧ v ≤ u)
theorem a_pow : ∀ k, k ≤ 10 → (1 : Int32) <<< (nI k &&& 31) = nI (2 ^ k) := by decide +kernel
theorem s_guardM_loop {c n : Nat → Nat} {m M : q_MM} (h : a_X c n m M) (v : Int32) : ∀ (d t nf : Nat) (x2 : Int32), t + d = 2 ^ (n 0) → d < nf → ((x2 = -1 ∧ ∀ u, u < t → ¬ a_SN c n m v (nI u)) ∨ ∃ w, w < t ∧ x2 = nI w ∧ a_SN c n m v (nI w) ∧ ∀ u, u < t → a_SN c n m v (nI u) → a_bst w u) → (∀ u, u < 2 ^ n 0 → u < 2 ^ 10) → ∃ x2', b_X12_guard_23 nf v x2 (nI t) m = some (nI (fb_ct (bt x2') 32), q_u2 (q_u2 (q_u2 m 5001 1 0) 5012 0 x2') 5001 1 1) ∧ ((x2' = -1 ∧ ∀ u, u < 2 ^ n 0 → ¬ a_SN c n m v (nI u)) ∨ ∃ w, w < 2 ^ n 0 ∧ x2' = nI w ∧ a_SN c n m v (nI w) ∧ ∀ u, u < 2 ^ n 0 → a_SN c n m v (nI u) → a_bst w u)
  | d, t, 0, _, _, h, _, _ => absurd h (Nat.not_lt_zero _)
  | 0, t, nf + 1, x2, hi, _, hx, hb => by
    have h0 : n 0 ≤ 10 := (h 0).1
    have hp2 : 2 ^ n 0 ≤ 2 ^ 10 := Nat.pow_le_pow_right (by decide) h0
    have : t = 2 ^ n 0 := by omega
    subst this
    refine ⟨x2, ?_, hx⟩
    rw [b_X12_guard_23, (h 0).2.1, a_pow _ h0, if_pos (nI_le (Nat.le_refl _) (by omega)), w_let]
    unfold f_X12_enters
    rw [q_u2_eq, show (0 : Int32) = nI 0 from rfl, w_as (by decide) (by decide), w_let, Option.bind_some, s_bits, Option.bind_some, q_u2_ne (M := q_u2 m 5001 1 (nI 0)) (by omega), q_u2_eq]
    rfl
  | d + 1, t, nf + 1, x2, hi, hf, hx, hb => by
    have h0 : n 0 ≤ 10 := (h 0).1
    have hp2 : 2 ^ n 0 ≤ 2 ^ 10 := Nat.pow_le_pow_right (by decide) h0
    have hfu := q_fu_le
    have hC := h.C.2.2.1
    have chk : b_X12_guard_51 (b_X12_guard_23 nf) v x2 (nI t) m = b_X12_guard_23 nf v (a_if (a_SN c n m v (nI t)) (nI t) x2) (nI (t + 1)) m := by
      unfold b_X12_guard_51
      rw [show (0 : Int32) = nI 0 from rfl, s_gm_loop h v x2 (nI t) (c 2) 0 q_fu 1 (by omega) (by omega) (Or.inr rfl), nI_1]
      congr 2
      apply propext
      exact ⟨fun q p hp => q.2 p (Nat.zero_le _) hp, fun q => ⟨rfl, fun k _ hk => q k hk⟩⟩
    rw [b_X12_guard_23, (h 0).2.1, a_pow _ h0, if_neg (nI_ge (by omega) (by omega)), chk]
    have next : ((a_if (a_SN c n m v (nI t)) (nI t) x2 = -1 ∧ ∀ u, u < t + 1 → ¬ a_SN c n m v (nI u)) ∨ ∃ w, w < t + 1 ∧ a_if (a_SN c n m v (nI t)) (nI t) x2 = nI w ∧ a_SN c n m v (nI w) ∧ ∀ u, u < t + 1 → a_SN c n m v (nI u) → a_bst w u) ∨ ∃ w, w < t ∧ x2 = nI w ∧ a_K2 w ≤ a_K2 t := by
      by_cases z : a_SN c n m v (nI t)
      · rw [a_ifp z]
        rcases hx with ⟨e, hn⟩ | ⟨w, hw, e, hs, hbest⟩
        · refine Or.inl (Or.inr ⟨t, by omega, rfl, z, fun u hu hus => ?_⟩)
          by_cases e2 : u = t
          · exact e2 ▸ Or.inr ⟨rfl, Nat.le_refl _⟩
          · exact absurd hus (hn u (by omega))
        · rcases Nat.lt_or_ge (a_K2 t) (a_K2 w) with q | q
          · refine Or.inl (Or.inr ⟨t, by omega, rfl, z, fun u hu hus => ?_⟩)
            by_cases e2 : u = t
            · exact e2 ▸ Or.inr ⟨rfl, Nat.le_refl _⟩
            · rcases hbest u (by omega) hus with q2 | q2
              · exact Or.inl (by omega)
              · exact Or.inl (by omega)
          · exact Or.inr ⟨w, hw, e, q⟩
      · rw [a_ifn z]
        refine Or.inl ?_
        rcases hx with ⟨e, hn⟩ | ⟨w, hw, e, hs, hbest⟩
        · refine Or.inl ⟨e, fun u hu => ?_⟩
          by_cases e2 : u = t
          · exact e2 ▸ z
          · exact hn u (by omega)
        · refine Or.inr ⟨w, by omega, e, hs, fun u hu hus => ?_⟩
          by_cases e2 : u = t
          · exact absurd (e2 ▸ hus) z
          · exact hbest u (by omega) hus
    rcases hx with ⟨e, hn⟩ | ⟨w, hw, e, hs, hbest⟩
    · rw [if_pos (by rw [e]; decide)]
      rcases next with q | ⟨w, hw, e2, -⟩
      · exact s_guardM_loop h v d (t + 1) nf _ (by omega) (by omega) q hb
      · exact absurd (e.symm.trans e2).symm (nI_neg1 (by omega))
    · have hK32 : ∀ y, fb_ct (bt y) 32 ≤ 32 := fun y => fb_ct_le _ _
      rw [if_neg (by rw [e]; exact nI_pos (by omega)), s_bits, s_bits, Option.bind_some, Option.bind_some]
      by_cases z : nI (fb_ct (bt (nI t)) 32) < nI (fb_ct (bt x2) 32)
      · rw [if_pos z]
        rcases next with q | ⟨w', hw', e2, hle⟩
        · exact s_guardM_loop h v d (t + 1) nf _ (by omega) (by omega) q hb
        · exfalso
          rw [e2, i_lt, nI_toInt (by have := hK32 (nI t); omega), nI_toInt (by have := hK32 (nI w'); omega)] at z
          unfold a_K2 at hle
          omega
      · rw [if_neg z]
        unfold b_X12_guard_132
        rw [nI_1]
        refine s_guardM_loop h v d (t + 1) nf _ (by omega) (by omega) (Or.inr ⟨w, by omega, e, hs, fun u hu hus => ?_⟩) hb
        by_cases e2 : u = t
        · rw [e, i_lt, nI_toInt (by have := hK32 (nI t); omega), nI_toInt (by have := hK32 (nI w); omega)] at z
          subst e2
          unfold a_bst a_K2
          omega
        · exact hbest u (by omega) hus
theorem s_with_loop {c n : Nat → Nat} {m M : q_MM} (h : a_X c n m M) (v : Int32) : ∀ (d i nf : Nat) (x : Int32), i + d = c 2 → d < nf → (∀ k, k < 32 → (bt x k = true ↔ ∃ p, p < i ∧ a_wat m v p ∧ m 5041 p = nI k)) → ∃ x', b_X2_wallsWith_4 c M nf v x (nI i) = some x' ∧ ∀ k, k < 32 → (bt x' k = true ↔ ∃ p, p < c 2 ∧ a_wat m v p ∧ m 5041 p = nI k)
  | d, i, 0, _, _, h, _ => absurd h (Nat.not_lt_zero _)
  | 0, i, nf + 1, x, hi, _, hx => by
    have hC := h.C.2.2.1
    have : i = c 2 := by omega
    subst this
    exact ⟨x, by rw [b_X2_wallsWith_4, s_size rfl, h.K.2.2, Option.bind_some, if_pos (nI_le (by omega) (by omega))], hx⟩
  | d + 1, i, nf + 1, x, hi, hf, hx => by
    have hC := h.C
    have hC1 := hC.2.1
    have hC2 := hC.2.2.1
    have hic : i < c 2 := by omega
    have e6 : M (1300 + i) 6 = m 5034 i := ((h 7 : a_B7 c n m M).2.2.2.1 i hic).1.2.2.2.2.2.2.1
    rw [b_X2_wallsWith_4, s_size rfl, h.K.2.2, Option.bind_some, if_neg (nI_ge (by omega) (by omega)), s_getP h hic, Option.bind_some, w_ck (t_pic hC hic)]
    unfold b_X2_wallsWith_65
    rw [nI_1]
    have skip : ¬ a_wat m v i → ∃ x', b_X2_wallsWith_4 c M nf v x (nI (i + 1)) = some x' ∧ ∀ k, k < 32 → (bt x' k = true ↔ ∃ p, p < c 2 ∧ a_wat m v p ∧ m 5041 p = nI k) := by
      intro z
      refine s_with_loop h v d (i + 1) nf x (by omega) (by omega) (fun k hk => (hx k hk).trans ⟨?_, ?_⟩)
      · rintro ⟨p, hp, h1, h2⟩
        exact ⟨p, by omega, h1, h2⟩
      · rintro ⟨p, hp, h1, h2⟩
        by_cases e : p = i
        · exact absurd (e ▸ h1) z
        · exact ⟨p, by omega, h1, h2⟩
    by_cases z1 : m 5040 i = 1
    · obtain ⟨⟨w, hw, hwe⟩, -⟩ := ((h 8 : a_B8 c n m M).2.1 i hic).2.2.2.2.1 z1
      have e0 : M (1100 + w) 0 = nI w := ((h 5 : a_B5 c n m M).2.2.2.1 w hw).1.1
      rw [s_wallOf1 h hic z1 hwe hw, Option.bind_some, if_neg (by omega), Option.bind_some, w_ck (t_pic hC hic), e6]
      by_cases z2 : m 5034 i < v
      · rw [if_pos z2]
        exact skip (fun q => q.2 z2)
      · rw [if_neg z2, w_ck (t_wall hC hw), w_let, e0]
        refine s_with_loop h v d (i + 1) nf _ (by omega) (by omega) (fun k hk => ?_)
        rw [b_or, b_one w (by omega) k hk, Bool.or_eq_true, hx k hk, decide_eq_true_eq]
        constructor
        · rintro (⟨p, hp, h1, h2⟩ | e)
          · exact ⟨p, by omega, h1, h2⟩
          · exact ⟨i, by omega, ⟨z1, z2⟩, by rw [hwe, e]⟩
        · rintro ⟨p, hp, h1, h2⟩
          by_cases e : p = i
          · subst e
            exact Or.inr (nI_inj (by omega) (by omega) (h2.symm.trans hwe))
          · exact Or.inl ⟨p, by omega, h1, h2⟩
    · rw [s_wallOf0 h hic z1, Option.bind_some, if_pos rfl]
      exact skip (fun q => z1 q.1)
theorem s_seenX_loop {c n : Nat → Nat} {m M : q_MM} (h : a_X c n m M) (x y : Int32) : ∀ (d i nf : Nat), i + d = c 1 → d < nf → b_X2_areSeen_2 c M nf x y (nI i) = some (a_if (∀ w, i ≤ w → w < c 1 → bt x w = true → ¬ (M (1100 + w) 8 &&& y = 0)) 1 0)
  | d, i, 0, _, h => absurd h (Nat.not_lt_zero _)
  | 0, i, nf + 1, hi, _ => by
    have hC := h.C.2.1
    rw [b_X2_areSeen_2, s_size rfl, h.K.2.1, Option.bind_some, if_pos (nI_le (by omega) (by omega)), w_bl1, a_ifp (fun w h1 h2 => by omega)]
  | d + 1, i, nf + 1, hi, hf => by
    have hC := h.C
    have hC1 := hC.2.1
    have hic : i < c 1 := by omega
    rw [b_X2_areSeen_2, s_size rfl, h.K.2.1, Option.bind_some, if_neg (nI_ge (by omega) (by omega))]
    unfold b_X2_areSeen_42
    rw [nI_1]
    have ok : (bt x i = true → ¬ (M (1100 + i) 8 &&& y = 0)) → b_X2_areSeen_2 c M nf x y (nI (i + 1)) = some (a_if (∀ w, i ≤ w → w < c 1 → bt x w = true → ¬ (M (1100 + w) 8 &&& y = 0)) 1 0) := by
      intro z
      rw [s_seenX_loop h x y d (i + 1) nf (by omega) (by omega)]
      congr 2
      apply propext
      constructor
      · intro q w h1 h2 h3
        by_cases e : w = i
        · subst e
          exact z h3
        · exact q w (by omega) h2 h3
      · exact fun q w h1 h2 h3 => q w (by omega) h2 h3
    by_cases z : bt x i = true
    · rw [if_neg (fun q => by rw [(b_sh1 x (by omega)).mp q] at z; exact absurd z (by decide)), s_getW h hic, Option.bind_some, w_ck (t_wall hC hic)]
      by_cases z2 : M (1100 + i) 8 &&& y = 0
      · rw [if_pos z2, w_bl0, a_ifn (fun q => q i (Nat.le_refl i) hic z z2)]
      · rw [if_neg z2, ok (fun _ => z2)]
    · rw [if_pos ((b_sh1 x (by omega)).mpr (by simpa using z)), ok (fun q => absurd q z)]
theorem a_and0 {x y : Int32} : x &&& y = 0 ↔ ∀ i, i < 32 → ¬ (bt x i = true ∧ bt y i = true) := by
  constructor
  · intro h i hi q
    have := b_and x y i
    rw [h, b_0, q.1, q.2] at this
    exact absurd this (by decide)
  · intro h
    refine b_ext fun i hi => ?_
    rw [b_and, b_0]
    have := h i hi
    revert this
    cases bt x i <;> cases bt y i <;> simp
theorem s_seenX {c n : Nat → Nat} {m M : q_MM} (h : a_X c n m M) (v : Int32) {x : Int32} {y : Nat} (hx : ∀ k, k < 32 → (bt x k = true ↔ ∃ p, p < c 2 ∧ a_wat m v p ∧ m 5041 p = nI k)) (hy : y < 2 ^ n 0) : f_X2_areSeen c M x (nI y) = some (a_if (a_SN c n m v (nI y)) 1 0) := by
  have hfu := q_fu_le
  have hC1 := h.C.2.1
  have h0 : n 0 ≤ 10 := (h 0).1
  unfold f_X2_areSeen
  refine (s_seenX_loop h x (nI y) (c 1) 0 q_fu (by omega) (by omega)).trans ?_
  congr 2
  apply propext
  have key : ∀ w, w < c 1 → (¬ (M (1100 + w) 8 &&& nI y = 0) ↔ a_seen n m w (nI y)) := by
    intro w hw
    rw [a_and0]
    constructor
    · intro q
      apply Classical.byContradiction
      intro q2
      refine q (fun i hi ⟨b1, b2⟩ => q2 ?_)
      have hin : i < n 0 := by
        rcases Nat.lt_or_ge i (n 0) with a | a
        · exact a
        · rw [b_nI hi, Nat.testBit_lt_two_pow (Nat.lt_of_lt_of_le hy (Nat.pow_le_pow_right (by decide) a))] at b2
          exact absurd b2 (by decide)
      have := ((h 5 : a_B5 c n m M).2.2.2.2.2.1 w hw i (by omega)).2
      rw [a_bt, b1] at this
      refine ⟨i, hin, b2, ?_⟩
      have := this.symm
      rw [Bool.or_eq_true] at this
      exact this.elim (fun a => Or.inl (by simpa using a)) (fun a => Or.inr (by simpa using a))
    · rintro ⟨r, hr, b1, b2⟩ q
      refine q r (by omega) ⟨?_, b1⟩
      have := ((h 5 : a_B5 c n m M).2.2.2.2.2.1 w hw r (by omega)).2
      rw [a_bt] at this
      rw [this, Bool.or_eq_true]
      exact b2.elim (fun a => Or.inl (by simp [a])) (fun a => Or.inr (by simp [a]))
  constructor
  · intro q p hp hpw
    obtain ⟨⟨w, hw, hwe⟩, -⟩ := ((h 8 : a_B8 c n m M).2.1 p hp).2.2.2.2.1 hpw.1
    rw [hwe, nI_clamp (by omega)]
    exact (key w hw).mp (q w (Nat.zero_le _) hw ((hx w (by omega)).mpr ⟨p, hp, hpw, hwe⟩))
  · intro q w _ hw hwx
    obtain ⟨p, hp, hpw, hwe⟩ := (hx w (by omega)).mp hwx
    have := q p hp hpw
    rw [hwe, nI_clamp (by omega)] at this
    exact (key w hw).mpr this
theorem s_guardX_loop {c n : Nat → Nat} {m M : q_MM} (h : a_X c n m M) (v : Int32) {x : Int32} (hx : ∀ k, k < 32 → (bt x k = true ↔ ∃ p, p < c 2 ∧ a_wat m v p ∧ m 5041 p = nI k)) : ∀ (t nf w : Nat), t < nf → t ≤ w → w < 2 ^ n 0 → a_SN c n m v (nI w) → (∀ u, t ≤ u → u < 2 ^ n 0 → a_SN c n m v (nI u) → a_bst w u) → ∃ w', w' < 2 ^ n 0 ∧ a_SN c n m v (nI w') ∧ (∀ u, u < 2 ^ n 0 → a_SN c n m v (nI u) → a_bst w' u) ∧ b_X11_guard_39 c nf x (nI w) (nI t - 1) M = some (nI (a_K2 w'), q_u2 (q_u2 (q_u2 M 6 1 0) 56 0 (nI w')) 6 1 1)
  | t, 0, _, h, _, _, _, _ => absurd h (Nat.not_lt_zero _)
  | 0, nf + 1, w, _, _, hw, hs, hb => by
    refine ⟨w, hw, hs, fun u hu => hb u (Nat.zero_le _) hu, ?_⟩
    rw [b_X11_guard_39, if_pos (by decide), s_clear (r := 56) (N := 32) (by decide), Option.bind_some, s_add (r := 56) (N := 32) (k := 0) (by decide) (show q_u2 M 6 1 0 6 1 = nI 0 from q_u2_eq) (by decide), Option.bind_some, s_bits, Option.bind_some]
    rfl
  | t + 1, nf + 1, w, hf, htw, hw, hs, hb => by
    have h0 : n 0 ≤ 10 := (h 0).1
    have hp2 : 2 ^ n 0 ≤ 2 ^ 10 := Nat.pow_le_pow_right (by decide) h0
    have hK32 : ∀ y, fb_ct (bt y) 32 ≤ 32 := fun y => fb_ct_le _ _
    have e1 : nI (t + 1) - 1 = nI t := by rw [show (1 : Int32) = nI 1 from rfl, pk_sub (by omega), Nat.add_sub_cancel]
    have e2 : nI t + (-1) = nI t - 1 := by rw [Int32.sub_eq_add_neg]
    rw [e1, b_X11_guard_39, if_neg (nI_pos (by omega)), s_bits, s_bits, Option.bind_some, Option.bind_some]
    unfold b_X11_guard_61 b_X11_guard_84
    rw [e2]
    have keep : (a_SN c n m v (nI t) → a_bst w t) → ∃ w', w' < 2 ^ n 0 ∧ a_SN c n m v (nI w') ∧ (∀ u, u < 2 ^ n 0 → a_SN c n m v (nI u) → a_bst w' u) ∧ b_X11_guard_39 c nf x (nI w) (nI t - 1) M = some (nI (a_K2 w'), q_u2 (q_u2 (q_u2 M 6 1 0) 56 0 (nI w')) 6 1 1) := by
      intro z
      refine s_guardX_loop h v hx t nf w (by omega) (by omega) hw hs (fun u h1 h2 h3 => ?_)
      by_cases e : u = t
      · subst e
        exact z h3
      · exact hb u (by omega) h2 h3
    by_cases z : nI (fb_ct (bt (nI w)) 32) < nI (fb_ct (bt (nI t)) 32)
    · rw [if_pos z, if_pos rfl]
      rw [i_lt, nI_toInt (by have := hK32 (nI w); omega), nI_toInt (by have := hK32 (nI t); omega)] at z
      exact keep (fun _ => Or.inl (by unfold a_K2; omega))
    · rw [if_neg z, if_neg (by decide), s_seenX h v hx (by omega), Option.bind_some]
      rw [i_lt, nI_toInt (by have := hK32 (nI w); omega), nI_toInt (by have := hK32 (nI t); omega)] at z
      by_cases z2 : a_SN c n m v (nI t)
      · rw [a_ifp z2, if_neg (by decide)]
        refine s_guardX_loop h v hx t nf t (by omega) (Nat.le_refl t) (by omega) z2 (fun u h1 h2 h3 => ?_)
        by_cases e : u = t
        · exact e ▸ Or.inr ⟨rfl, Nat.le_refl _⟩
        · have := hb u (by omega) h2 h3
          unfold a_bst a_K2 at *
          omega
      · rw [a_ifn z2, if_pos rfl]
        exact keep (fun q => absurd q z2)
theorem pub_guard {c n : Nat → Nat} {m M : q_MM} (h : a_X c n m M) (a1 : Int32) : a_T c (f_X11_guard c M a1) (f_X12_guard m a1) := by
  unfold f_X11_guard f_X12_guard
  simp only [w_let]
  replace h := h.t0
  generalize q_u2 m 5001 0 0 = m at h ⊢
  have hC := h.C
  have hC1 := hC.2.1
  have hC2 := hC.2.2.1
  have hfu := q_fu_le
  have h0 : n 0 ≤ 10 := (h 0).1
  have hp2 : 2 ^ n 0 ≤ 2 ^ 10 := Nat.pow_le_pow_right (by decide) h0
  have hp0 : 0 < 2 ^ n 0 := Nat.two_pow_pos _
  by_cases z1 : a_rg a1 0 999
  · rw [s_within1 z1 rfl rfl, s_in1 z1 rfl rfl, Option.bind_some, Option.bind_some, if_neg (show ¬ (1 : Int32) = 0 by decide), if_neg (show ¬ (1 : Int32) = 0 by decide)]
    obtain ⟨x, hx1, hx2⟩ := s_with_loop h a1 (c 2) 0 q_fu 0 (by omega) (by omega) (fun k hk => by
      rw [b_0]
      refine ⟨fun q => absurd q (by decide), ?_⟩
      rintro ⟨p, hp, -⟩
      omega)
    have full : a_SN c n m a1 (nI (2 ^ n 0 - 1)) := by
      intro p hp hpw
      obtain ⟨⟨w, hw, hwe⟩, -⟩ := ((h 8 : a_B8 c n m M).2.1 p hp).2.2.2.2.1 hpw.1
      rw [hwe, nI_clamp (by omega)]
      obtain ⟨r, hr, hre⟩ := ((h 5 : a_B5 c n m M).2.2.2.1 w hw).2.1
      refine ⟨r, hr, ?_, Or.inl hre⟩
      rw [b_nI (by omega), Nat.testBit_two_pow_sub_one]
      simp [hr]
    have eX := s_guardX_loop h a1 hx2 (2 ^ n 0 - 1) q_fu (2 ^ n 0 - 1) (by omega) (by omega) (by omega) full (fun u h1 h2 h3 => by
      have : u = 2 ^ n 0 - 1 := by omega
      exact this ▸ Or.inr ⟨rfl, Nat.le_refl _⟩)
    obtain ⟨w, hw, hs, hb, eX⟩ := eX
    obtain ⟨x2, eM, hM⟩ := s_guardM_loop h a1 (2 ^ n 0) 0 q_fu (-1) (by omega) (by omega) (Or.inl ⟨rfl, fun u hu => absurd hu (Nat.not_lt_zero _)⟩) (fun u hu => by omega)
    have e2 : x2 = nI w := by
      rcases hM with ⟨-, q⟩ | ⟨w', hw', e, hs', hb'⟩
      · exact absurd hs (q w hw)
      · have q1 := hb w' hw' hs'
        have q2 := hb' w hw hs
        have : w' = w := by
          unfold a_bst at q1 q2
          omega
        rw [e, this]
    subst e2
    unfold f_X2_wallsWith
    rw [show (0 : Int32) = nI 0 from rfl] at hx1
    rw [show (0 : Int32) = nI 0 from rfl, hx1, Option.bind_some, (h 0).2.2, a_pow _ h0, show (1 : Int32) = nI 1 from rfl, pk_sub (by omega), show nI 1 = 1 from rfl, eX, eM]
    refine ⟨_, n, _, _, rfl, rfl, ?_⟩
    refine h.wr [12] (a_wM.s1 (a_wM.s1 (a_wM.s1 a_wM.rf rfl) rfl) rfl) (a_wS.s1 (a_wS.s1 (a_wS.s1 a_wS.rf rfl) rfl) rfl) (a_one ?_)
    refine ⟨1, by decide, q_u2_eq, q_u2_eq, fun i hi => ⟨?_, trivial⟩⟩
    have : i = 0 := by omega
    subst this
    rw [q_u2_ne (by omega), q_u2_eq, q_u2_ne (by omega), q_u2_eq]
  · rw [s_within0 z1 rfl rfl, s_inn z1 rfl rfl, Option.bind_some, Option.bind_some, if_pos rfl, if_pos rfl]
    exact a_T.no h (-1) rfl rfl
