/-! on: a wall's pictures, from left to right -/
def a_srt (m : q_MM) (w i K : Nat) (s : Nat → Nat) : Prop := K ≤ i ∧ (∀ t, t < K → s t < i ∧ a_W m (s t) = nI w) ∧ (∀ p, p < i → a_W m p = nI w → ∃ t, t < K ∧ s t = p) ∧ (∀ t u, t < u → u < K → (m 5042 (s t)).toInt < (m 5042 (s u)).toInt)
theorem a_srt.skip {m : q_MM} {w i K : Nat} {s : Nat → Nat} (h : a_srt m w i K s) (hi : a_W m i ≠ nI w) : a_srt m w (i + 1) K s := by
  obtain ⟨h1, h2, h3, h4⟩ := h
  refine ⟨by omega, fun t ht => ⟨by have := (h2 t ht).1; omega, (h2 t ht).2⟩, fun p hp hw => ?_, h4⟩
  by_cases e : p = i
  · exact absurd (e ▸ hw) hi
  · exact h3 p (by omega) hw
def a_ins (s : Nat → Nat) (j v : Nat) : Nat → Nat := fun t => if t < j then s t else if t = j then v else s (t - 1)
theorem a_srt.ins {m : q_MM} {w i K j : Nat} {s : Nat → Nat} (h : a_srt m w i K s) (hi : a_W m i = nI w) (hj : j ≤ K) (hl : ∀ t, t < j → (m 5042 (s t)).toInt < (m 5042 i).toInt) (hr : ∀ t, j ≤ t → t < K → (m 5042 i).toInt < (m 5042 (s t)).toInt) : a_srt m w (i + 1) (K + 1) (a_ins s j i) := by
  obtain ⟨h1, h2, h3, h4⟩ := h
  refine ⟨by omega, fun t ht => ?_, fun p hp hw => ?_, fun t u htu hu => ?_⟩
  · unfold a_ins
    split
    · have := h2 t (by omega)
      exact ⟨by omega, this.2⟩
    · split
      · exact ⟨by omega, hi⟩
      · have := h2 (t - 1) (by omega)
        exact ⟨by omega, this.2⟩
  · by_cases e : p = i
    · exact ⟨j, by omega, by unfold a_ins; rw [if_neg (by omega), if_pos rfl, e]⟩
    · obtain ⟨t, ht, e2⟩ := h3 p (by omega) hw
      by_cases z : t < j
      · exact ⟨t, by omega, by unfold a_ins; rw [if_pos z, e2]⟩
      · exact ⟨t + 1, by omega, by unfold a_ins; rw [if_neg (by omega), if_neg (by omega), Nat.add_sub_cancel, e2]⟩
  · unfold a_ins
    by_cases z1 : t < j
    · rw [if_pos z1]
      by_cases z2 : u < j
      · rw [if_pos z2]
        exact h4 t u htu (by omega)
      · rw [if_neg z2]
        by_cases z3 : u = j
        · rw [if_pos z3]
          exact hl t z1
        · rw [if_neg z3]
          have := hl t z1
          have := hr (u - 1) (by omega) (by omega)
          omega
    · rw [if_neg z1]
      by_cases z2 : t = j
      · rw [if_pos z2, if_neg (by omega), if_neg (by omega)]
        exact hr (u - 1) (by omega) (by omega)
      · rw [if_neg z2, if_neg (by omega), if_neg (by omega)]
        exact h4 (t - 1) (u - 1) (by omega) (by omega)
/-- nothing but the row changes -/
def a_fr12 (b : Nat) (m m' : q_MM) : Prop := (∀ o k, o ≠ 5012 → ¬ (o = 5001 ∧ k = 1) → m' o k = m o k) ∧ ∀ t, t < b → m' 5012 t = m 5012 t
theorem a_fr12.rf {b : Nat} {m : q_MM} : a_fr12 b m m := ⟨fun _ _ _ _ => rfl, fun _ _ => rfl⟩
theorem a_fr12.trans {b : Nat} {m m' m'' : q_MM} (h : a_fr12 b m m') (h' : a_fr12 b m' m'') : a_fr12 b m m'' := ⟨fun o k a1 a2 => (h'.1 o k a1 a2).trans (h.1 o k a1 a2), fun t ht => (h'.2 t ht).trans (h.2 t ht)⟩
theorem a_fr12.u2 {b k : Nat} {v : Int32} {m m' : q_MM} (h : a_fr12 b m m') (hk : b ≤ k) : a_fr12 b m (q_u2 m' 5012 k v) := ⟨fun o j a1 a2 => by rw [q_u2_ne (fun z => a1 z.1)]; exact h.1 o j a1 a2, fun t ht => by rw [q_u2_ne (by omega)]; exact h.2 t ht⟩
theorem a_fr12.cnt {b : Nat} {v : Int32} {m m' : q_MM} (h : a_fr12 b m m') : a_fr12 b m (q_u2 m' 5001 1 v) := ⟨fun o j a1 a2 => by rw [q_u2_ne a2]; exact h.1 o j a1 a2, fun t ht => by rw [q_u2_ne (by omega)]; exact h.2 t ht⟩
theorem a_fr12.W {b : Nat} {m m' : q_MM} (h : a_fr12 b m m') : a_W m' = a_W m := by
  funext p
  unfold a_W
  rw [h.1 5040 p (by omega) (by omega), h.1 5041 p (by omega) (by omega)]
theorem a_fr12.X {b : Nat} {m m' : q_MM} (h : a_fr12 b m m') : m' 5042 = m 5042 := funext fun p => h.1 5042 p (by omega) (by omega)
theorem s_ins_loop {m0 : q_MM} {w i K b : Nat} {s : Nat → Nat} {x1 : Int32} {k7 : Int32 → Int32 → Int32 → q_MM → Option (q_MM)} (hs : a_srt m0 w i K s) (hw : a_W m0 i = nI w) (hi : i < 24) (hb : b + K < 64) (hd : ∀ t, t < K → m0 5042 (s t) ≠ m0 5042 i) : ∀ (j nf : Nat) (m : q_MM), j ≤ K → j < nf → a_fr12 b m0 m → m 5001 1 = nI (b + K) → (∀ t, t < j → m 5012 (b + t) = nI (s t)) → (∀ t, j ≤ t → t < K → m 5012 (b + (t + 1)) = nI (s t) ∧ (m0 5042 i).toInt < (m0 5042 (s t)).toInt) → ∃ m' s', a_fr12 b m0 m' ∧ m' 5001 1 = nI (b + (K + 1)) ∧ a_srt m0 w (i + 1) (K + 1) s' ∧ (∀ t, t < K + 1 → m' 5012 (b + t) = nI (s' t)) ∧ b_X12_entersWall_33 k7 nf x1 (nI b) (nI i) (nI (b + j)) m = k7 x1 (nI b) (nI (i + 1)) m'
  | j, 0, _, _, h, _, _, _, _ => absurd h (Nat.not_lt_zero _)
  | j, nf + 1, m, hj, hf, hfr, hc, hlo, hhi => by
    have stop : (∀ t, t < j → (m0 5042 (s t)).toInt < (m0 5042 i).toInt) → ∃ m' s', a_fr12 b m0 m' ∧ m' 5001 1 = nI (b + (K + 1)) ∧ a_srt m0 w (i + 1) (K + 1) s' ∧ (∀ t, t < K + 1 → m' 5012 (b + t) = nI (s' t)) ∧ b_X12_entersWall_84 k7 x1 (nI b) (nI i) (nI (b + j)) m = k7 x1 (nI b) (nI (i + 1)) m' := by
      intro hl
      refine ⟨q_u2 (q_u2 m 5012 (b + j) (nI i)) 5001 1 (nI (b + (K + 1))), a_ins s j i, (hfr.u2 (by omega)).cnt, q_u2_eq, hs.ins hw hj hl (fun t h1 h2 => (hhi t h1 h2).2), fun t ht => ?_, ?_⟩
      · rw [q_u2_ne (by omega)]
        unfold a_ins
        by_cases z1 : t < j
        · rw [if_pos z1, q_u2_ne (by omega)]
          exact hlo t z1
        · rw [if_neg z1]
          by_cases z2 : t = j
          · rw [if_pos z2, z2, q_u2_eq]
          · rw [if_neg z2, q_u2_ne (by omega)]
            have := (hhi (t - 1) (by omega) (by omega)).1
            rw [show t - 1 + 1 = t by omega] at this
            exact this
      · unfold b_X12_entersWall_84 b_X12_entersWall_102
        rw [w_as (by omega) (by decide), q_u2_ne (M := m) (by omega), hc, w_let, nI_1, nI_1, Nat.add_assoc]
    rw [b_X12_entersWall_33]
    by_cases z : j = 0
    · subst z
      rw [if_pos (nI_le (by omega) (by omega))]
      exact stop (fun t ht => absurd ht (Nat.not_lt_zero _))
    · have e1 : nI (b + j) - 1 = nI (b + (j - 1)) := by
        rw [show (1 : Int32) = nI 1 from rfl, pk_sub (by omega), show b + j - 1 = b + (j - 1) by omega]
      have e2 := hlo (j - 1) (by omega)
      have hsj := (hs.2.1 (j - 1) (by omega)).1
      rw [if_neg (nI_nl2 _ _ (by omega) (by omega) (by omega)), e1, w_ld (by omega) (by decide), e2, w_ld (by omega) (by decide), w_ld hi (by decide), hfr.X]
      by_cases z2 : m0 5042 (s (j - 1)) ≤ m0 5042 i
      · rw [if_pos z2]
        have h0 : (m0 5042 (s (j - 1))).toInt < (m0 5042 i).toInt := by
          rw [i_le] at z2
          have : (m0 5042 (s (j - 1))).toInt ≠ (m0 5042 i).toInt := fun q => hd (j - 1) (by omega) (Int32.toInt_inj.mp q)
          omega
        refine stop (fun t ht => ?_)
        by_cases e : t = j - 1
        · rw [e]
          exact h0
        · have := hs.2.2.2 t (j - 1) (by omega) (by omega)
          omega
      · rw [if_neg z2, w_ld (by omega) (by decide), e2, w_as (by omega) (by decide)]
        have e3 : nI (b + j) + (-1) = nI (b + (j - 1)) := by
          rw [show b + j = b + (j - 1) + 1 by omega, pk_m1]
        rw [e3]
        refine s_ins_loop hs hw hi hb hd (j - 1) nf _ (by omega) (by omega) (hfr.u2 (by omega)) ((q_u2_ne (by omega)).trans hc) (fun t ht => ?_) (fun t h1 h2 => ?_)
        · rw [q_u2_ne (by omega)]
          exact hlo t (by omega)
        · by_cases e : t = j - 1
          · subst e
            rw [show j - 1 + 1 = j by omega, q_u2_eq]
            rw [i_le] at z2
            exact ⟨rfl, by omega⟩
          · rw [q_u2_ne (by omega)]
            exact hhi t (by omega) h2
/-- no two pictures at one place -/
def a_ap (c : Nat → Nat) (m : q_MM) : Prop := ∀ p q, p < c 2 → q < c 2 → p ≠ q → m 5040 p = 1 → m 5040 q = 1 → m 5041 p = m 5041 q → m 5042 p ≠ m 5042 q
theorem a_W_w {m : q_MM} {p w : Nat} (hw : w < 100) : a_W m p = nI w ↔ m 5040 p = 1 ∧ m 5041 p = nI w := by
  unfold a_W
  split
  · rename_i h
    exact ⟨fun q => ⟨h, q⟩, fun q => q.2⟩
  · rename_i h
    exact ⟨fun q => absurd q.symm (nI_neg1 (by omega)), fun q => absurd q.1 h⟩
theorem s_enters_loop {c : Nat → Nat} {m0 : q_MM} {w b : Nat} {x1 : Int32} (hx : x1 = nI w) (hN : m0 5001 18 = nI (c 2)) (hN2 : c 2 ≤ 24) (hw : w < 100) (hb : b + c 2 ≤ 64) (ha : a_ap c m0) : ∀ (d i K nf : Nat) (s : Nat → Nat) (m : q_MM), i + d = c 2 → d < nf → a_fr12 b m0 m → m 5001 1 = nI (b + K) → a_srt m0 w i K s → (∀ t, t < K → m 5012 (b + t) = nI (s t)) → ∃ m' K' s', a_fr12 b m0 m' ∧ m' 5001 1 = nI (b + K') ∧ a_srt m0 w (c 2) K' s' ∧ (∀ t, t < K' → m' 5012 (b + t) = nI (s' t)) ∧ b_X12_entersWall_7 nf x1 (nI b) (nI i) m = some m'
  | d, i, K, 0, _, _, _, h, _, _, _, _ => absurd h (Nat.not_lt_zero _)
  | 0, i, K, nf + 1, s, m, hi, _, hfr, hc, hs, hr => by
    have : i = c 2 := by omega
    subst this
    refine ⟨m, K, s, hfr, hc, hs, hr, ?_⟩
    rw [b_X12_entersWall_7, hfr.1 5001 18 (by omega) (by omega), hN, if_pos (nI_le (by omega) (by omega))]
  | d + 1, i, K, nf + 1, s, m, hi, hf, hfr, hc, hs, hr => by
    have hfu := q_fu_le
    have hK := hs.1
    rw [b_X12_entersWall_7, hfr.1 5001 18 (by omega) (by omega), hN, if_neg (nI_ge (by omega) (by omega)), hx, s_isOn (by omega) hw, hfr.W, Option.bind_some]
    by_cases z : a_W m0 i = nI w
    · rw [if_pos z, if_neg (show ¬ (1 : Int32) = 0 by decide), w_let, hc]
      have hd : ∀ t, t < K → m0 5042 (s t) ≠ m0 5042 i := fun t ht e => by
        have h1 := hs.2.1 t ht
        have h2 := (a_W_w hw).mp h1.2
        have h3 := (a_W_w hw).mp z
        exact ha (s t) i (by omega) (by omega) (by omega) h2.1 h3.1 (h2.2.trans h3.2.symm) e
      obtain ⟨m', s', r1, r2, r3, r4, r5⟩ := s_ins_loop (x1 := nI w) (k7 := b_X12_entersWall_7 nf) hs z (by omega) (b := b) (by omega) hd K q_fu m (Nat.le_refl K) (by omega) hfr hc hr (fun t h1 h2 => by omega)
      rw [r5]
      exact s_enters_loop rfl hN hN2 hw hb ha d (i + 1) (K + 1) nf s' m' (by omega) (by omega) r1 r2 r3 r4
    · rw [if_neg z, if_pos rfl]
      unfold b_X12_entersWall_102
      rw [nI_1]
      exact s_enters_loop rfl hN hN2 hw hb ha d (i + 1) K nf s m (by omega) (by omega) hfr hc (hs.skip z) hr
theorem s_entersWall {c : Nat → Nat} {m : q_MM} {w b : Nat} (hN : m 5001 18 = nI (c 2)) (hN2 : c 2 ≤ 24) (hw : w < 100) (hb : b + c 2 ≤ 64) (ha : a_ap c m) (hc : m 5001 1 = nI b) : ∃ m' K s, a_fr12 b m m' ∧ m' 5001 1 = nI (b + K) ∧ a_srt m w (c 2) K s ∧ (∀ t, t < K → m' 5012 (b + t) = nI (s t)) ∧ f_X12_entersWall m (nI w) = some m' := by
  have hfu := q_fu_le
  unfold f_X12_entersWall
  rw [w_let, hc]
  exact s_enters_loop rfl hN hN2 hw hb ha (c 2) 0 0 q_fu (fun _ => 0) m (by omega) (by omega) a_fr12.rf hc ⟨by omega, fun t ht => absurd ht (Nat.not_lt_zero _), fun p hp => absurd hp (Nat.not_lt_zero _), fun t u _ hu => absurd hu (Nat.not_lt_zero _)⟩ (fun t ht => absurd ht (Nat.not_lt_zero _))
theorem a_rt_spec {W X : Nat → Int32} {w x aside : Int32} : ∀ {N : Nat}, N ≤ 100 → (a_rt W X w x aside N = -1 ∧ ∀ p, p < N → ¬ (nI p ≠ aside ∧ W p = w ∧ x < X p)) ∨ ∃ p, p < N ∧ a_rt W X w x aside N = nI p ∧ (nI p ≠ aside ∧ W p = w ∧ x < X p) ∧ ∀ q, q < N → (nI q ≠ aside ∧ W q = w ∧ x < X q) → (X p).toInt ≤ (X q).toInt
  | 0, _ => Or.inl ⟨rfl, fun p hp => absurd hp (Nat.not_lt_zero _)⟩
  | N + 1, h => by
    rw [a_rt_s]
    rcases a_rt_spec (W := W) (X := X) (w := w) (x := x) (aside := aside) (N := N) (by omega) with ⟨e, hn⟩ | ⟨p, hp, e, hc, hm⟩
    · rw [e]
      by_cases z : nI N ≠ aside ∧ W N = w ∧ x < X N
      · rw [if_pos ⟨z.1, z.2.1, z.2.2, Or.inl rfl⟩]
        refine Or.inr ⟨N, by omega, rfl, z, fun q hq hqc => ?_⟩
        by_cases e2 : q = N
        · rw [e2]
          omega
        · exact absurd hqc (hn q (by omega))
      · rw [if_neg (fun q => z ⟨q.1, q.2.1, q.2.2.1⟩)]
        refine Or.inl ⟨rfl, fun p hp => ?_⟩
        by_cases e2 : p = N
        · rw [e2]
          exact z
        · exact hn p (by omega)
    · rw [e, nI_clamp (by omega)]
      by_cases z : (nI N ≠ aside ∧ W N = w ∧ x < X N) ∧ X N < X p
      · rw [if_pos ⟨z.1.1, z.1.2.1, z.1.2.2, Or.inr z.2⟩]
        refine Or.inr ⟨N, by omega, rfl, z.1, fun q hq hqc => ?_⟩
        have z2 := i_lt.mp z.2
        by_cases e2 : q = N
        · rw [e2]
          omega
        · have := hm q (by omega) hqc
          omega
      · rw [if_neg (fun q => z ⟨⟨q.1, q.2.1, q.2.2.1⟩, q.2.2.2.elim (fun a => absurd a (nI_neg1 (by omega))) id⟩)]
        refine Or.inr ⟨p, by omega, rfl, hc, fun q hq hqc => ?_⟩
        by_cases e2 : q = N
        · subst e2
          rcases Int.lt_or_le (X q).toInt (X p).toInt with a | a
          · exact absurd ⟨hqc, i_lt.mpr a⟩ z
          · exact a
        · exact hm q (by omega) hqc
theorem a_srt.right {c : Nat → Nat} {m : q_MM} {w K t : Nat} {s : Nat → Nat} {x : Int32} (h : a_srt m w (c 2) K s) (hc : c 2 ≤ 24) (h1 : ∀ u, u < t → u < K → (m 5042 (s u)).toInt ≤ x.toInt) (h2 : ∀ u, t ≤ u → u < K → x.toInt < (m 5042 (s u)).toInt) : a_right c m (nI w) x (-1) = if t < K then nI (s t) else -1 := by
  obtain ⟨g1, g2, g3, g4⟩ := h
  unfold a_right
  rcases a_rt_spec (W := a_W m) (X := m 5042) (w := nI w) (x := x) (aside := -1) (N := c 2) (by omega) with ⟨e, hn⟩ | ⟨p, hp, e, hcand, hm⟩
  · rw [e, if_neg]
    intro ht
    have := g2 t ht
    exact hn (s t) this.1 ⟨nI_neg1 (by omega), this.2, i_lt.mpr (h2 t (Nat.le_refl t) ht)⟩
  · obtain ⟨u, hu, e2⟩ := g3 p hp hcand.2.1
    have hx := i_lt.mp hcand.2.2
    have htu : t ≤ u := by
      rcases Nat.lt_or_ge u t with a | a
      · have := h1 u a hu
        rw [e2] at this
        omega
      · exact a
    have := g2 t (by omega)
    have h5 := hm (s t) this.1 ⟨nI_neg1 (by omega), this.2, i_lt.mpr (h2 t (Nat.le_refl t) (by omega))⟩
    rw [e, if_pos (by omega)]
    rcases Nat.lt_or_ge t u with a | a
    · have := g4 t u a hu
      rw [e2] at this
      omega
    · have : t = u := by omega
      rw [this, e2]
theorem a_H.fr {c : Nat → Nat} {m M M' : q_MM} {a b : Nat} (h : a_H c m M a b) (h1 : M' a = M a) (h2 : M' b = M b) : a_H c m M' a b := by
  unfold a_H at *
  rw [h1, h2]
  exact h
theorem s_on_loop {c : Nat → Nat} {m M0 : q_MM} {w K : Nat} {s : Nat → Nat} (hH : a_H c m M0 61 63) (hs : a_srt m w (c 2) K s) (hc : c 2 ≤ 24) (hw : w < 100) (h0 : ∀ u, u < K → 0 ≤ (m 5042 (s u)).toInt) : ∀ (d t nf : Nat) (M : q_MM), t + d = K → d < nf → (∀ o, o ≠ 6 → o ≠ 56 → M o = M0 o) → (∀ k, k ≠ 1 → M 6 k = M0 6 k) → M 6 1 = nI t → (∀ u, u < t → M 56 u = nI (s u)) → ∃ M', b_X11_on_39 c nf (nI w) (if t < K then nI (s t) else -1) (nI t) M = some (nI K, M') ∧ (∀ o, o ≠ 6 → o ≠ 56 → M' o = M0 o) ∧ (∀ k, k ≠ 1 → M' 6 k = M0 6 k) ∧ M' 6 1 = nI K ∧ (∀ u, u < K → M' 56 u = nI (s u))
  | d, t, 0, _, _, h, _, _, _, _ => absurd h (Nat.not_lt_zero _)
  | 0, t, nf + 1, M, ht, _, hfr, hfr6, hcnt, hr => by
    have : t = K := by omega
    subst this
    refine ⟨M, ?_, hfr, hfr6, hcnt, hr⟩
    rw [b_X11_on_39, if_neg (show ¬ t < t by omega)]
    unfold b_X11_on_91
    rw [hcnt]
    split <;> simp
  | d + 1, t, nf + 1, M, ht, hf, hfr, hfr6, hcnt, hr => by
    have hK := hs.1
    have hst := hs.2.1 t (by omega)
    have a1 : ∀ o, o ≠ 6 → o ≠ 56 → q_u2 (q_u2 M 56 t (nI (s t))) 6 1 (nI (t + 1)) o = M0 o := by
      intro o h1 h2
      funext k
      rw [q_u2_ne (fun z => h1 z.1), q_u2_ne (fun z => h2 z.1), hfr o h1 h2]
    have a2 : a_H c m (q_u2 (q_u2 M 56 t (nI (s t))) 6 1 (nI (t + 1))) 61 63 := hH.fr (a1 61 (by decide) (by decide)) (a1 63 (by decide) (by decide))
    have a3 : q_u2 (q_u2 M 56 t (nI (s t))) 6 1 (nI (t + 1)) 63 (s t) = m 5042 (s t) := by
      rw [a1 63 (by decide) (by decide)]
      exact (hH.1 (s t) hst.1).2
    have a4 := hs.right (t := t + 1) (x := m 5042 (s t)) hc (fun u h1 h2 => by
      by_cases e : u = t
      · rw [e]
        omega
      · have := hs.2.2.2 u t (by omega) (by omega)
        omega) (fun u h1 h2 => hs.2.2.2 t u (by omega) h2)
    rw [b_X11_on_39, if_neg (show ¬ (24 : Int32) ≤ nI t from nI_ge (a := t) (b := 24) (by omega) (by decide)), if_pos (show t < K by omega), if_neg (show ¬ nI (s t) = -1 from nI_neg1 (by omega)), s_add (r := 56) (N := 32) (by decide) hcnt (by omega), Option.bind_some, s_leftSide (a := 61) (b := 63) (by decide) (by omega), Option.bind_some, a3, s_rightOf (a := 61) (b := 63) (by decide) a2 hc hw, Option.bind_some, a4, nI_1]
    refine s_on_loop hH hs hc hw h0 d (t + 1) nf _ (by omega) (by omega) a1 (fun k hk => ?_) q_u2_eq (fun u hu => ?_)
    · rw [q_u2_ne (by omega), q_u2_ne (by omega)]
      exact hfr6 k hk
    · rw [q_u2_ne (by omega)]
      by_cases e : u = t
      · rw [e, q_u2_eq]
      · rw [q_u2_ne (by omega)]
        exact hr u (by omega)
theorem pub_on {c n : Nat → Nat} {m M : q_MM} (h : a_X c n m M) (a1 : Int32) : a_T c (f_X11_on c M a1) (f_X12_on m a1) := by
  unfold f_X11_on f_X12_on
  simp only [w_let]
  replace h := h.t0
  generalize q_u2 m 5001 0 0 = m at h ⊢
  have hC := h.C
  have hC1 := hC.2.1
  have hC2 := hC.2.2.1
  have hfu := q_fu_le
  by_cases z1 : a_lt a1 (c 1)
  · obtain ⟨w, hw, rfl⟩ := z1
    have h8 : a_B8 c n m M := h 8
    rw [s_wallAt1 h hw, h.isWall1 hw, Option.bind_some, Option.bind_some, if_neg (by omega), if_neg (show ¬ (1 : Int32) = 0 by decide), s_clear (r := 56) (N := 32) (by decide), Option.bind_some]
    obtain ⟨m', K, s, r1, r2, r3, r4, r5⟩ := s_entersWall (c := c) (m := q_u2 m 5001 1 0) (w := w) (b := 0) ((q_u2_ne (by omega)).trans h.Y.N) hC2 (by omega) (by omega) (fun p q h1 h2 h3 h4 h5 h6 => by
      rw [q_u2_ne (by omega)] at h4 h5 h6 ⊢
      rw [q_u2_ne (by omega)] at h6 ⊢
      exact h8.2.2.2.2 p q h1 h2 h3 h4 h5 h6) q_u2_eq
    rw [r5, Option.bind_some, r2, Nat.zero_add]
    have r3' : a_srt m w (c 2) K s := by
      have e1 : a_W (q_u2 m 5001 1 0) = a_W m := by
        funext p
        unfold a_W
        rw [q_u2_ne (by omega), q_u2_ne (by omega)]
      have e2 : q_u2 m 5001 1 0 5042 = m 5042 := funext fun p => q_u2_ne (by omega)
      unfold a_srt at *
      rw [e1, e2] at r3
      exact r3
    have hK := r3'.1
    have h0 : ∀ u, u < K → 0 ≤ (m 5042 (s u)).toInt := fun u hu => by
      have g := r3'.2.1 u hu
      have g2 := (a_W_w (show w < 100 by omega)).mp g.2
      exact ((h8.2.1 (s u) g.1).2.2.2.2.1 g2.1).2.1
    have hH : a_H c m (q_u2 M 6 1 0) 61 63 := h.H.fr (funext fun k => q_u2_ne (by omega)) (funext fun k => q_u2_ne (by omega))
    have e3 := r3'.right (t := 0) (x := -1) hC2 (fun u hu => absurd hu (Nat.not_lt_zero _)) (fun u _ hu => by
      have := h0 u hu
      rw [show (-1 : Int32).toInt = -1 from rfl]
      omega)
    obtain ⟨M', t1, t2, t3, t4, t5⟩ := s_on_loop hH r3' hC2 (show w < 100 by omega) h0 K 0 q_fu (q_u2 M 6 1 0) (by omega) (by omega) (fun _ _ _ => rfl) (fun _ _ => rfl) q_u2_eq (fun u hu => absurd hu (Nat.not_lt_zero _))
    rw [s_rightOf (a := 61) (b := 63) (by decide) hH hC2 (by omega), Option.bind_some, e3]
    refine ⟨nI K, n, M', m', t1, rfl, ?_⟩
    refine h.wr [12] (fun o k => ?_) (fun o k => ?_) (a_one ?_)
    · by_cases e6 : o = 6
      · subst e6
        exact Or.inl (List.mem_singleton.mpr rfl)
      · by_cases e56 : o = 56
        · subst e56
          exact Or.inl (List.mem_singleton.mpr rfl)
        · rw [t2 o e6 e56, q_u2_ne (by omega)]
          exact Or.inr (Or.inr rfl)
    · by_cases e : o = 5012
      · subst e
        exact Or.inl (List.mem_singleton.mpr rfl)
      · by_cases e2 : o = 5001 ∧ k = 1
        · obtain ⟨rfl, rfl⟩ := e2
          exact Or.inl (List.mem_singleton.mpr rfl)
        · rw [r1.1 o k e e2, q_u2_ne e2]
          exact Or.inr (Or.inr rfl)
    · refine ⟨K, by omega, t4, by rw [r2, Nat.zero_add], fun i hi => ⟨?_, trivial⟩⟩
      have := r4 i hi
      rw [Nat.zero_add] at this
      rw [t5 i hi, this]
  · exact a_T.no h (-1) (by simp [s_wallAt0 h z1]) (by simp [h.isWall0 z1])
