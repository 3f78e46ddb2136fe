/-! breaks: where pictures are met, in the model; the call -/
def a_Kn (m : q_MM) (K p : Nat) : Int := (a_Kx m K p).toInt
theorem a_Kn_ge {c n : Nat → Nat} {m M : q_MM} (h : a_X c n m M) {K : Nat} (hK : a_rt9 m K) {p : Nat} (hp : p < c 2) : -1 ≤ a_Kn m K p := by
  unfold a_Kn
  rcases a_Kx_cases h hK hp with ⟨e, -⟩ | ⟨w, j, x, -, -, -, -, -, -, -, e⟩
  · rw [e]; decide
  · rw [e]; omega
theorem a_Kn_wall {c n : Nat → Nat} {m M : q_MM} (h : a_X c n m M) {K : Nat} (hK : a_rt9 m K) {p w r : Nat} (hp : p < c 2) (hw : w < c 1) (hr : r < K) : (m 5020 w = m 5073 r → a_W m p = nI w → a_Kn m K p = ((r * 16 + w) * 4096 : Nat) + (m 5042 p).toInt ∧ 0 ≤ (m 5042 p).toInt ∧ (m 5042 p).toInt ≤ 3000) ∧ ((((r * 16 + w) * 4096 : Nat) : Int) ≤ a_Kn m K p → a_Kn m K p < ((r * 16 + w) * 4096 : Nat) + 4096 → a_W m p = nI w ∧ m 5020 w = m 5073 r) := by
  have hC1 := h.C.2.1
  unfold a_Kn
  rcases a_Kx_cases h hK hp with ⟨e, hn⟩ | ⟨w', j, x, hw', hj, hx, e1, e2, e3, -, e⟩
  · rw [e, show (-1 : Int32).toInt = -1 from rfl]
    refine ⟨fun q1 q2 => absurd ⟨q2, q1⟩ (hn w r hw hr), fun q1 _ => ?_⟩
    omega
  · rw [e]
    refine ⟨fun q1 q2 => ?_, fun q1 q2 => ?_⟩
    · have ew : w' = w := nI_inj (by omega) (by omega) (e1.symm.trans q2)
      subst ew
      have er : j = r := hK.2 j r hj hr (e2.symm.trans q1)
      subst er
      rw [e3, nI_toInt (by omega)]
      omega
    · have ej : j = r ∧ w' = w := by omega
      obtain ⟨rfl, rfl⟩ := ej
      exact ⟨e1, e2⟩
theorem a_Kn_none {c n : Nat → Nat} {m M : q_MM} (h : a_X c n m M) {K : Nat} (hK : a_rt9 m K) {p r : Nat} (hp : p < c 2) : ¬ (((((r * 16 + c 1) * 4096 : Nat) : Int) ≤ a_Kn m K p) ∧ a_Kn m K p < (((r + 1) * 16 * 4096 : Nat) : Int)) := by
  have hC1 := h.C.2.1
  unfold a_Kn
  rcases a_Kx_cases h hK hp with ⟨e, hn⟩ | ⟨w', j, x, hw', hj, hx, -, -, -, -, e⟩
  · rw [e, show (-1 : Int32).toInt = -1 from rfl]
    omega
  · rw [e]
    omega
theorem a_Kn_top {c n : Nat → Nat} {m M : q_MM} (h : a_X c n m M) {K : Nat} (hK : a_rt9 m K) {p : Nat} (hp : p < c 2) : a_Kn m K p < ((K * 16 * 4096 : Nat) : Int) ∨ K = 0 := by
  have hC1 := h.C.2.1
  unfold a_Kn
  rcases a_Kx_cases h hK hp with ⟨e, hn⟩ | ⟨w', j, x, hw', hj, hx, -, -, -, -, e⟩
  · rw [e, show (-1 : Int32).toInt = -1 from rfl]
    omega
  · rw [e]
    omega
/-- the pictures met so far, in order -/
def a_mr (c : Nat → Nat) (m0 : q_MM) (K : Nat) (Th : Int) (b : Nat) (s : Nat → Nat) : Prop := (∀ k, k < b → s k < c 2) ∧ (∀ k l, k < l → l < b → a_Kn m0 K (s k) < a_Kn m0 K (s l)) ∧ (∀ p, p < c 2 → ((0 ≤ a_Kn m0 K p ∧ a_Kn m0 K p < Th) ↔ ∃ k, k < b ∧ s k = p))
theorem a_mr.inj {c : Nat → Nat} {m0 : q_MM} {K : Nat} {Th : Int} {b : Nat} {s : Nat → Nat} (h : a_mr c m0 K Th b s) {k l : Nat} (hk : k < b) (hl : l < b) (e : s k = s l) : k = l := by
  rcases Nat.lt_trichotomy k l with q | q | q
  · have := h.2.1 k l q hl
    rw [e] at this
    omega
  · exact q
  · have := h.2.1 l k q hk
    rw [e] at this
    omega
theorem a_mr.le {c : Nat → Nat} {m0 : q_MM} {K : Nat} {Th : Int} {b : Nat} {s : Nat → Nat} (h : a_mr c m0 K Th b s) : b ≤ c 2 := a_pig (c 2) b s h.1 (fun i j hi hj e => h.inj hi hj e)
theorem a_mr.to {c : Nat → Nat} {m0 : q_MM} {K : Nat} {Th Th' : Int} {b : Nat} {s : Nat → Nat} (h : a_mr c m0 K Th b s) (le : Th ≤ Th') (no : ∀ p, p < c 2 → ¬ (Th ≤ a_Kn m0 K p ∧ a_Kn m0 K p < Th')) : a_mr c m0 K Th' b s := by
  refine ⟨h.1, h.2.1, fun p hp => ?_⟩
  rw [← h.2.2 p hp]
  have := no p hp
  omega
theorem a_mr.wall {c : Nat → Nat} {m0 : q_MM} {K w K' : Nat} {Th : Int} {b : Nat} {s s' : Nat → Nat} (h : a_mr c m0 K Th b s) (h0 : 0 ≤ Th) (hs : a_srt m0 w (c 2) K' s') (hk : ∀ p, p < c 2 → a_W m0 p = nI w → a_Kn m0 K p = Th + (m0 5042 p).toInt ∧ 0 ≤ (m0 5042 p).toInt ∧ (m0 5042 p).toInt ≤ 3000) (hb : ∀ p, p < c 2 → Th ≤ a_Kn m0 K p → a_Kn m0 K p < Th + 4096 → a_W m0 p = nI w) : a_mr c m0 K (Th + 4096) (b + K') (fun k => if k < b then s k else s' (k - b)) := by
  obtain ⟨s1, s2, s3, s4⟩ := hs
  refine ⟨fun k hkb => ?_, fun k l hkl hl => ?_, fun p hp => ?_⟩
  · dsimp only
    split
    · rename_i q
      exact h.1 k q
    · exact (s2 (k - b) (by omega)).1
  · dsimp only
    by_cases q1 : l < b
    · rw [if_pos (show k < b by omega), if_pos q1]
      exact h.2.1 k l hkl q1
    · rw [if_neg q1]
      have gl := s2 (l - b) (by omega)
      have kl := hk _ gl.1 gl.2
      by_cases q2 : k < b
      · rw [if_pos q2]
        have := ((h.2.2 (s k) (h.1 k q2)).mpr ⟨k, q2, rfl⟩).2
        omega
      · rw [if_neg q2]
        have gk := s2 (k - b) (by omega)
        have kk := hk _ gk.1 gk.2
        have := s4 (k - b) (l - b) (by omega) (by omega)
        omega
  · constructor
    · intro q
      by_cases l : a_Kn m0 K p < Th
      · obtain ⟨k, k1, k2⟩ := (h.2.2 p hp).mp ⟨q.1, l⟩
        exact ⟨k, by omega, by dsimp only; rw [if_pos k1]; exact k2⟩
      · obtain ⟨t, t1, t2⟩ := s3 p hp (hb p hp (by omega) q.2)
        exact ⟨b + t, by omega, by dsimp only; rw [if_neg (by omega), Nat.add_sub_cancel_left]; exact t2⟩
    · rintro ⟨k, k1, k2⟩
      dsimp only at k2
      by_cases q : k < b
      · rw [if_pos q] at k2
        have := (h.2.2 p hp).mpr ⟨k, q, k2⟩
        omega
      · rw [if_neg q] at k2
        have gk := s2 (k - b) (by omega)
        rw [k2] at gk
        have := hk p hp gk.2
        omega
def a_Thr (r w : Nat) : Int := (((r * 16 + w) * 4096 : Nat) : Int)
theorem s_mwall_loop {c n : Nat → Nat} {m0 M0 : q_MM} (h : a_X c n m0 M0) {K r : Nat} (hK : a_rt9 m0 K) (hr : r < K) {x1 x2 x3 : Int32} {k19 : Int32 → Int32 → Int32 → Int32 → q_MM → Option (Int32 × q_MM)} : ∀ (d w nf b : Nat) (s : Nat → Nat) (m : q_MM), w + d = c 1 → d < nf → a_fr12 0 m0 m → m 5001 1 = nI b → (∀ k, k < b → m 5012 k = nI (s k)) → a_mr c m0 K (a_Thr r w) b s → ∃ m' b' s', b_X12_breaks_31 k19 nf x1 x2 x3 (nI r) (nI w) m = k19 x1 x2 x3 (nI (r + 1)) m' ∧ a_fr12 0 m0 m' ∧ m' 5001 1 = nI b' ∧ (∀ k, k < b' → m' 5012 k = nI (s' k)) ∧ a_mr c m0 K (a_Thr (r + 1) 0) b' s' := by
  intro d
  induction d with
  | zero =>
    intro w nf b s m hi hf0 hm hb hs hmr
    obtain ⟨nf, rfl⟩ : ∃ q, nf = q + 1 := ⟨nf - 1, by omega⟩
    have hC1 := h.C.2.1
    have : w = c 1 := by omega
    subst this
    refine ⟨m, b, s, ?_, hm, hb, hs, hmr.to (by unfold a_Thr; omega) (fun p hp q => a_Kn_none h hK (r := r) hp ⟨q.1, by have := q.2; unfold a_Thr at this; omega⟩)⟩
    rw [b_X12_breaks_31, hm.1 5001 9 (by omega) (by omega), (h 5).2.1, if_pos (nI_le (by omega) (by omega)), nI_1]
  | succ d ih =>
    intro w nf b s m hi hf0 hm hb hs hmr
    obtain ⟨nf, rfl⟩ : ∃ q, nf = q + 1 := ⟨nf - 1, by omega⟩
    have hC1 := h.C.2.1
    have hC2 := h.C.2.2.1
    have hK1 := hK.1
    have hw : w < c 1 := by omega
    have hbl := hmr.le
    have e20 : m 5020 w = m0 5020 w := hm.1 5020 w (by omega) (by omega)
    have e73 : m 5073 r = m0 5073 r := hm.1 5073 r (by omega) (by omega)
    rw [b_X12_breaks_31, hm.1 5001 9 (by omega) (by omega), (h 5).2.1, if_neg (nI_ge (by omega) (by omega)), w_ld (by omega) (by decide), w_ld (by omega) (by decide), e20, e73]
    unfold b_X12_breaks_63
    rw [nI_1]
    by_cases z : m0 5020 w = m0 5073 r
    · have ha : a_ap c m := fun p q hp hq hpq a1 a2 a3 => by
        rw [hm.1 5040 p (by omega) (by omega)] at a1
        rw [hm.1 5040 q (by omega) (by omega)] at a2
        rw [hm.1 5041 p (by omega) (by omega), hm.1 5041 q (by omega) (by omega)] at a3
        rw [hm.1 5042 p (by omega) (by omega), hm.1 5042 q (by omega) (by omega)]
        exact (h 8 : a_B8 c n m0 M0).2.2.2.2 p q hp hq hpq a1 a2 a3
      obtain ⟨m1, K', s', g1, g2, g3, g4, g5⟩ := s_entersWall (c := c) (m := m) (w := w) (b := b) (by rw [hm.1 5001 18 (by omega) (by omega)]; exact h.Y.N) hC2 (by omega) (by omega) ha hb
      have g3' : a_srt m0 w (c 2) K' s' := by
        unfold a_srt at *
        rw [hm.W, hm.X] at g3
        exact g3
      rw [if_pos z, g5, Option.bind_some]
      have hm1 : a_fr12 0 m0 m1 := ⟨fun o k a b => (g1.1 o k a b).trans (hm.1 o k a b), fun t ht => absurd ht (Nat.not_lt_zero _)⟩
      refine ih (w + 1) nf (b + K') (fun k => if k < b then s k else s' (k - b)) m1 (by omega) (by omega) hm1 g2 (fun k hk => ?_) ?_
      · by_cases q : k < b
        · rw [if_pos q, g1.2 k q, hs k q]
        · rw [if_neg q]
          have := g4 (k - b) (by omega)
          rwa [show b + (k - b) = k by omega] at this
      · have := hmr.wall (by unfold a_Thr; omega) g3' (fun p hp hW => (a_Kn_wall h hK hp hw hr).1 z hW) (fun p hp q1 q2 => ((a_Kn_wall h hK hp hw hr).2 q1 q2).1)
        rwa [show a_Thr r (w + 1) = a_Thr r w + 4096 by unfold a_Thr; omega]
    · rw [if_neg z]
      refine ih (w + 1) nf b s m (by omega) (by omega) hm hb hs (hmr.to (by unfold a_Thr; omega) (fun p hp q => z ((a_Kn_wall h hK hp hw hr).2 q.1 (by have := q.2; unfold a_Thr at this; omega)).2))
theorem s_mroute_loop {c n : Nat → Nat} {m0 M0 : q_MM} (h : a_X c n m0 M0) {K : Nat} (hK : a_rt9 m0 K) (h62 : m0 5001 62 = nI K) {x1 x2 x3 : Int32} : ∀ (d r nf b : Nat) (s : Nat → Nat) (m : q_MM), r + d = K → d < nf → a_fr12 0 m0 m → m 5001 1 = nI b → (∀ k, k < b → m 5012 k = nI (s k)) → a_mr c m0 K (a_Thr r 0) b s → ∃ m' b' s', b_X12_breaks_19 nf x1 x2 x3 (nI r) m = b_X12_breaks_78 q_fu x1 x2 x3 0 m' ∧ a_fr12 0 m0 m' ∧ m' 5001 1 = nI b' ∧ (∀ k, k < b' → m' 5012 k = nI (s' k)) ∧ a_mr c m0 K (a_Thr K 0) b' s' := by
  intro d
  induction d with
  | zero =>
    intro r nf b s m hi hf0 hm hb hs hmr
    obtain ⟨nf, rfl⟩ : ∃ q, nf = q + 1 := ⟨nf - 1, by omega⟩
    have hK1 := hK.1
    have : r = K := by omega
    subst this
    refine ⟨m, b, s, ?_, hm, hb, hs, hmr⟩
    rw [b_X12_breaks_19, hm.1 5001 62 (by omega) (by omega), h62, if_pos (nI_le (by omega) (by omega))]
  | succ d ih =>
    intro r nf b s m hi hf0 hm hb hs hmr
    obtain ⟨nf, rfl⟩ : ∃ q, nf = q + 1 := ⟨nf - 1, by omega⟩
    have hfu := q_fu_le
    have hC1 := h.C.2.1
    have hK1 := hK.1
    obtain ⟨m1, b1, s1, g1, g2, g3, g4, g5⟩ := s_mwall_loop (x1 := x1) (x2 := x2) (x3 := x3) (k19 := b_X12_breaks_19 nf) h hK (show r < K by omega) (c 1) 0 q_fu b s m (by omega) (by omega) hm hb hs hmr
    rw [b_X12_breaks_19, hm.1 5001 62 (by omega) (by omega), h62, if_neg (nI_ge (by omega) (by omega)), show (0 : Int32) = nI 0 from rfl, g1]
    exact ih (r + 1) nf b1 s1 m1 (by omega) (by omega) g2 g3 g4 g5
/-- at which place a picture is met -/
def a_ix (s : Nat → Nat) (p : Nat) : Nat → Int32
  | 0 => -1
  | k + 1 => if s k = p then nI k else a_ix s p k
theorem a_ix_spec {s : Nat → Nat} {p : Nat} : ∀ b, (a_ix s p b = -1 ∧ ∀ k, k < b → s k ≠ p) ∨ ∃ k, k < b ∧ s k = p ∧ a_ix s p b = nI k
  | 0 => Or.inl ⟨rfl, fun k hk => absurd hk (Nat.not_lt_zero _)⟩
  | b + 1 => by
    show ((if s b = p then nI b else a_ix s p b) = -1 ∧ _) ∨ ∃ k, k < b + 1 ∧ s k = p ∧ (if s b = p then nI b else a_ix s p b) = nI k
    by_cases z : s b = p
    · exact Or.inr ⟨b, by omega, z, if_pos z⟩
    · rw [if_neg z]
      rcases a_ix_spec (s := s) (p := p) b with ⟨e, h⟩ | ⟨k, k1, k2, k3⟩
      · refine Or.inl ⟨e, fun k hk => ?_⟩
        by_cases q : k = b
        · rw [q]; exact z
        · exact h k (by omega)
      · exact Or.inr ⟨k, by omega, k2, k3⟩
theorem s_find2_loop {mA : q_MM} {b t p : Nat} {s : Nat → Nat} {x1 x2 x3 : Int32} {k78 : Int32 → Int32 → Int32 → Int32 → q_MM → Option (Int32 × q_MM)} (hb : mA 5001 1 = nI b) (hb2 : b ≤ 24) (hs : ∀ k, k < b → mA 5012 k = nI (s k) ∧ s k < 24) (ht : t < 12) (ep : mA 5071 t = nI p) (hp : p < 24) : ∀ (d k nf : Nat) (m : q_MM), k + d = b → d < nf → (∀ o j, ¬ (o = 5074 ∧ j = t) → m o j = mA o j) → m 5074 t = a_ix s p k → ∃ m', b_X12_breaks_98 k78 nf x1 x2 x3 (nI t) (nI k) m = k78 x1 (x2 + (if a_ix s p b < 0 then 0 else 1)) x3 (nI (t + 1)) m' ∧ (∀ o j, ¬ (o = 5074 ∧ j = t) → m' o j = mA o j) ∧ m' 5074 t = a_ix s p b
  | d, k, 0, _, _, h, _, _ => absurd h (Nat.not_lt_zero _)
  | 0, k, nf + 1, m, hi, _, hm, hv => by
    have : k = b := by omega
    subst this
    refine ⟨m, ?_, hm, hv⟩
    rw [b_X12_breaks_98, hm 5001 1 (by omega), hb, if_pos (nI_le (by omega) (by omega)), w_ld (by omega) (by decide), hv]
    unfold b_X12_breaks_165
    by_cases z : a_ix s p k < 0
    · rw [if_pos z, if_pos z, s_truth0, Option.bind_some, w_let, nI_1]
    · rw [if_neg z, if_neg z, s_truth1, Option.bind_some, w_let, nI_1]
  | d + 1, k, nf + 1, m, hi, hf, hm, hv => by
    obtain ⟨g1, g2⟩ := hs k (by omega)
    rw [b_X12_breaks_98, hm 5001 1 (by omega), hb, if_neg (nI_ge (by omega) (by omega)), w_ld (by omega) (by decide), w_ld (by omega) (by decide), hm 5012 k (by omega), hm 5071 t (by omega), g1, ep]
    unfold b_X12_breaks_142
    rw [w_ck (show qTM 5074 = 1 from rfl), show qLM 5074 = 12 from rfl]
    have fr : ∀ v : Int32, ∀ o j, ¬ (o = 5074 ∧ j = t) → q_u2 m 5074 t v o j = mA o j := fun v o j ho => by rw [q_u2_ne ho, hm o j ho]
    by_cases z : s k = p
    · rw [if_pos (by rw [z]), w_as (by omega) (by decide), nI_1]
      exact s_find2_loop hb hb2 hs ht ep hp d (k + 1) nf _ (by omega) (by omega) (fr _) (by
        rw [q_u2_eq]
        exact (if_pos z).symm)
    · rw [if_neg (fun q => z (nI_inj (by omega) (by omega) q)), w_ld (by omega) (by decide), w_as (by omega) (by decide), nI_1]
      exact s_find2_loop hb hb2 hs ht ep hp d (k + 1) nf _ (by omega) (by omega) (fr _) (by
        rw [q_u2_eq, hv]
        exact (if_neg z).symm)
theorem s_metM_loop {c : Nat → Nat} {m0 mA : q_MM} {K N b : Nat} {s : Nat → Nat} {x1 x3 : Int32} (hC2 : c 2 ≤ 24) (hN : N ≤ 12) (h60 : mA 5001 60 = nI N) (hb : mA 5001 1 = nI b) (hs : ∀ k, k < b → mA 5012 k = nI (s k)) (hmr : ∃ Th, a_mr c m0 K Th b s) (hall : ∀ p, p < c 2 → (a_Kx m0 K p ≠ -1 ↔ ∃ k, k < b ∧ s k = p)) (h71 : ∀ t, t < N → mA 5071 t = nI (a_tp m0 t) ∧ a_tp m0 t < c 2) : ∀ (d t nf : Nat) (m : q_MM), t + d = N → d < nf → (∀ o, o ≠ 5074 → m o = mA o) → (∀ u, u < t → m 5074 u = a_ix s (a_tp m0 u) b) → ∃ m', b_X12_breaks_78 nf x1 (nI (fb_ct (fun u => a_At m0 K u != -1) t)) x3 (nI t) m = b_X12_breaks_179 q_fu x1 (nI (fb_ct (fun u => a_At m0 K u != -1) N)) x3 0 m' ∧ (∀ o, o ≠ 5074 → m' o = mA o) ∧ ∀ u, u < N → m' 5074 u = a_ix s (a_tp m0 u) b
  | d, t, 0, _, _, h, _, _ => absurd h (Nat.not_lt_zero _)
  | 0, t, nf + 1, m, hi, _, hm, hl => by
    have : t = N := by omega
    subst this
    exact ⟨m, by rw [b_X12_breaks_78, hm 5001 (by decide), h60, if_pos (nI_le (by omega) (by omega))], hm, hl⟩
  | d + 1, t, nf + 1, m, hi, hf, hm, hl => by
    have hfu := q_fu_le
    obtain ⟨Th, hmr'⟩ := id hmr
    have hbl := hmr'.le
    obtain ⟨g1, g2⟩ := h71 t (by omega)
    obtain ⟨m1, e1, e2, e3⟩ := s_find2_loop (mA := q_u2 m 5074 t (-1)) (b := b) (t := t) (p := a_tp m0 t) (s := s) (x1 := x1) (x2 := nI (fb_ct (fun u => a_At m0 K u != -1) t)) (x3 := x3) (k78 := b_X12_breaks_78 nf) (by rw [q_u2_ne (by omega), hm 5001 (by decide)]; exact hb) (by omega) (fun k hk => ⟨by rw [q_u2_ne (by omega), hm 5012 (by decide)]; exact hs k hk, by have := hmr'.1 k hk; omega⟩) (by omega) (by rw [q_u2_ne (by omega), hm 5071 (by decide)]; exact g1) (by omega) b 0 q_fu (q_u2 m 5074 t (-1)) (by omega) (by omega) (fun _ _ _ => rfl) q_u2_eq
    rw [b_X12_breaks_78, hm 5001 (by decide), h60, if_neg (nI_ge (by omega) (by omega)), w_as (by omega) (by decide), show (0 : Int32) = nI 0 from rfl, e1]
    have ec : nI (fb_ct (fun u => a_At m0 K u != -1) t) + (if a_ix s (a_tp m0 t) b < 0 then 0 else 1) = nI (fb_ct (fun u => a_At m0 K u != -1) (t + 1)) := by
      rw [fb_ct_succ]
      rcases a_ix_spec (s := s) (p := a_tp m0 t) b with ⟨e, q⟩ | ⟨k, k1, k2, k3⟩
      · have : a_Kx m0 K (a_tp m0 t) = -1 := Classical.byContradiction fun z => by
          obtain ⟨k, k1, k2⟩ := (hall _ g2).mp z
          exact q k k1 k2
        rw [e, if_pos (by decide), show (a_At m0 K t != -1) = false from by unfold a_At; rw [this]; rfl, if_neg (by decide), show (0 : Int32) = nI 0 from rfl, nI_add]
      · have : a_Kx m0 K (a_tp m0 t) ≠ -1 := (hall _ g2).mpr ⟨k, k1, k2⟩
        rw [k3, if_neg (nI_pos (by omega)), show (a_At m0 K t != -1) = true from by unfold a_At; exact bne_iff_ne.mpr this, if_pos rfl, nI_1]
    rw [show nI 0 = (0 : Int32) from rfl, ec]
    refine s_metM_loop hC2 hN h60 hb hs hmr hall h71 d (t + 1) nf m1 (by omega) (by omega) (fun o ho => ?_) (fun u hu => ?_)
    · funext j
      rw [e2 o j (fun q => ho q.1), q_u2_ne (fun q => ho q.1), hm o ho]
    · by_cases q : u = t
      · rw [q]; exact e3
      · rw [e2 5074 u (by omega), q_u2_ne (by omega)]
        exact hl u (by omega)
/-- what is told -/
theorem s_tell2_loop {c : Nat → Nat} {m0 M0 : q_MM} {N L B : Nat} {C : Nat → Nat} {x1 x2 : Int32} (hN : N ≤ 12) (hL : L ≤ 12) (e8 : M0 8 1 = nI N) (e58 : ∀ t, t < N → M0 58 t = m0 5071 t) (h60 : m0 5001 60 = nI N) (hC : ∀ t, t < N → M0 11 t = nI (C t) ∧ C t ≤ 12) (hB : ∀ t, t < N → B.testBit t = a_tk (fun u => (M0 10 u).toInt) C L t) (hLd : ∀ i, i ≤ N → (a_gr (fun u => (M0 10 u).toInt) C L i).1 ≤ L) : ∀ (d i nf nf' e : Nat) (x3 : Int32) (m M : q_MM), i + d = N → d < nf → d < nf' → (∀ o j, o ≠ 56 → ¬ (o = 6 ∧ j = 1) → M o j = M0 o j) → a_fr12 0 m0 m → x3.toInt = (a_gr (fun u => (M0 10 u).toInt) C L i).2 → e ≤ i → M 6 1 = nI e → m 5001 1 = nI e → (∀ j, j < e → M 56 j = m 5012 j) → ∃ m' M' e', e' ≤ 12 ∧ b_X11_tellChain_14 c nf (nI (a_gr (fun u => (M0 10 u).toInt) C L i).1) x3 (nI i) M = some M' ∧ b_X12_breaks_336 nf' x1 x2 (nI B) (nI i) m = some (x2 - x1, m') ∧ (∀ o j, o ≠ 56 → ¬ (o = 6 ∧ j = 1) → M' o j = M0 o j) ∧ a_fr12 0 m0 m' ∧ M' 6 1 = nI e' ∧ m' 5001 1 = nI e' ∧ ∀ j, j < e' → M' 56 j = m' 5012 j
  | d, i, 0, _, _, _, _, _, _, h, _, _, _, _, _, _, _, _ => absurd h (Nat.not_lt_zero _)
  | d, i, _ + 1, 0, _, _, _, _, _, _, h, _, _, _, _, _, _, _ => absurd h (Nat.not_lt_zero _)
  | 0, i, nf + 1, nf' + 1, e, x3, m, M, hi, _, _, hM, hm, hx, he, e1, e2, e3 => by
    have : i = N := by omega
    subst this
    refine ⟨m, M, e, by omega, ?_, ?_, hM, hm, e1, e2, e3⟩
    · rw [b_X11_tellChain_14, hM 8 1 (by decide) (by omega), e8, if_pos (nI_le (by omega) (by omega))]
    · rw [b_X12_breaks_336, hm.1 5001 60 (by omega) (by omega), h60, if_pos (nI_le (by omega) (by omega))]
  | d + 1, i, nf + 1, nf' + 1, e, x3, m, M, hi, hf, hf', hM, hm, hx, he, e1, e2, e3 => by
    have ld := hLd i (by omega)
    have q8 : M 8 1 = nI N := by rw [hM 8 1 (by decide) (by omega)]; exact e8
    have q11 : M 11 i = nI (C i) := by rw [hM 11 i (by decide) (by omega)]; exact (hC i (by omega)).1
    have c12 := (hC i (by omega)).2
    have q10 : M 10 i = M0 10 i := hM 10 i (by decide) (by omega)
    have nb : bt (nI B) i = B.testBit i := b_nI (by omega)
    rw [b_X11_tellChain_14, q8, if_neg (nI_ge (by omega) (by omega)), b_X12_breaks_336, hm.1 5001 60 (by omega) (by omega), h60, if_neg (nI_ge (by omega) (by omega))]
    unfold b_X11_tellChain_79 b_X12_breaks_366
    rw [nI_1]
    by_cases z : a_tk (fun u => (M0 10 u).toInt) C L i = true
    · have zc := a_tk_t.mp z
      have es : a_gr (fun u => (M0 10 u).toInt) C L (i + 1) = ((a_gr (fun u => (M0 10 u).toInt) C L i).1 - 1, (M0 10 i).toInt) := by rw [a_gr_s, if_pos zc]
      have zb : B.testBit i = true := by rw [hB i (by omega)]; exact z
      obtain ⟨l, el⟩ : ∃ l, (a_gr (fun u => (M0 10 u).toInt) C L i).1 = l + 1 := ⟨(a_gr (fun u => (M0 10 u).toInt) C L i).1 - 1, by have := zc.1; omega⟩
      have zl : ¬ M0 10 i ≤ x3 := fun q => by
        rw [i_le, hx] at q
        have := zc.2.2
        omega
      rw [if_neg (nI_nle zc.1 (by omega)), w_ld (by omega) (by decide), q11, if_pos (by rw [zc.2.1]), w_ld (by omega) (by decide), q10, if_neg zl, s_get1 (r := 58) (N := 12) (k := N) (by decide) q8 (by omega) (by omega), Option.bind_some, s_add (r := 56) (N := 32) (k := e) (by decide) e1 (by omega), Option.bind_some, w_ld (by omega) (by decide), q_u2_ne (by omega), q_u2_ne (by omega), q10, hM 58 i (by decide) (by omega), e58 i (by omega), el, pk_m1]
      rw [if_pos ((b_sh1' _ (by omega)).mpr (nb.trans zb)), w_ld (by omega) (by decide), hm.1 5071 i (by omega) (by omega)]
      unfold f_X12_enters
      rw [e2, w_as (by omega) (by decide), w_let, Option.bind_some, q_u2_ne (by omega), e2, nI_1]
      have g := s_tell2_loop (c := c) (x1 := x1) (x2 := x2) hN hL e8 e58 h60 hC hB hLd d (i + 1) nf nf' (e + 1) (M0 10 i) (q_u2 (q_u2 m 5012 e (m0 5071 i)) 5001 1 (nI (e + 1))) (q_u2 (q_u2 M 56 e (m0 5071 i)) 6 1 (nI (e + 1))) (by omega) (by omega) (by omega) (fun o j h1 h2 => by
        rw [q_u2_ne h2, q_u2_ne (fun q => h1 q.1)]
        exact hM o j h1 h2) ((hm.u2 (Nat.zero_le e)).cnt) (by rw [es]) (by omega) q_u2_eq q_u2_eq (fun j hj => by
        rw [q_u2_ne (by omega), q_u2_ne (M := q_u2 m 5012 e (m0 5071 i)) (by omega)]
        by_cases q : j = e
        · subst q
          rw [q_u2_eq, q_u2_eq]
        · rw [q_u2_ne (by omega), q_u2_ne (by omega)]
          exact e3 j (by omega))
      rw [es, el] at g
      exact g
    · have zb : B.testBit i = false := by rw [hB i (by omega)]; simpa using z
      have zc := fun q => z (a_tk_t.mpr q)
      have es : a_gr (fun u => (M0 10 u).toInt) C L (i + 1) = a_gr (fun u => (M0 10 u).toInt) C L i := by rw [a_gr_s, if_neg zc]
      rw [if_neg (show ¬ ((nI B >>> (nI i &&& 31)) &&& 1) = 1 from fun q => by rw [(b_sh1' _ (by omega)).mp q] at nb; rw [zb] at nb; cases nb)]
      have g := s_tell2_loop (c := c) (x1 := x1) (x2 := x2) hN hL e8 e58 h60 hC hB hLd d (i + 1) nf nf' e x3 m M (by omega) (by omega) (by omega) hM hm (by rw [es]; exact hx) (by omega) e1 e2 e3
      rw [es] at g
      by_cases z1 : 0 < (a_gr (fun u => (M0 10 u).toInt) C L i).1
      · rw [if_neg (nI_nle z1 (by omega)), w_ld (by omega) (by decide), q11]
        by_cases z2 : C i = (a_gr (fun u => (M0 10 u).toInt) C L i).1
        · rw [if_pos (by rw [z2]), w_ld (by omega) (by decide), q10, if_pos (by
            rw [i_le, hx]
            have : ¬ (a_gr (fun u => (M0 10 u).toInt) C L i).2 < (M0 10 i).toInt := fun q => zc ⟨z1, z2, q⟩
            omega)]
          exact g
        · rw [if_neg (fun q => z2 (nI_inj (by omega) (by omega) q))]
          exact g
      · rw [if_pos (by rw [show (a_gr (fun u => (M0 10 u).toInt) C L i).1 = 0 by omega]; decide)]
        exact g
theorem a_gr_le {A : Nat → Int} {C : Nat → Nat} {L : Nat} : ∀ i, (a_gr A C L i).1 ≤ L
  | 0 => Nat.le_refl L
  | i + 1 => by
    have := a_gr_le (A := A) (C := C) (L := L) i
    rw [a_gr_s]
    split
    · dsimp only
      omega
    · exact this
theorem pub_breaks {c n : Nat → Nat} {m M : q_MM} (h : a_X c n m M) : a_T c (f_X11_breaks c M) (f_X12_breaks m) := by
  unfold f_X11_breaks f_X12_breaks
  simp only [w_let]
  replace h := h.t0
  generalize q_u2 m 5001 0 0 = m at h ⊢
  have hfu := q_fu_le
  have hC := h.C
  have hC1 := hC.2.1
  have hC2 := hC.2.2.1
  obtain ⟨⟨N, hN, e8, h60, e58⟩, -⟩ := id (h 14 : a_B14 c n m M)
  obtain ⟨⟨K, hK10, e9, h62, e59⟩, hd⟩ := id (h 15 : a_B15 c n m M)
  rw [h62, nI_clamp (by omega)] at hd
  have hK : a_rt9 m K := ⟨hK10, hd⟩
  have tp : ∀ t, t < N → m 5071 t = nI (a_tp m t) ∧ a_tp m t < c 2 := fun t ht => (e58 t ht).2.cl (by omega)
  -- the class
  obtain ⟨M1, x1, x2, x3⟩ := s_met_loop h hK10 e9 (fun j hj => (e59 j hj).1) hN e8 (fun t ht => ⟨(e58 t ht).1.trans (tp t ht).1, (tp t ht).2⟩) N 0 q_fu M (by omega) (by omega) (fun _ _ => rfl) (fun u hu => absurd hu (Nat.not_lt_zero _))
  obtain ⟨M2, C, L, y1, y2, y3, y4⟩ := s_chain_loop (c := c) (M0 := M1) (met := nI (fb_ct (fun u => a_At m K u != -1) N)) hN (by rw [x2 8 (by decide)]; exact e8) N q_fu 0 (fun _ => 0) M1 (Nat.le_refl N) (by omega) (fun _ _ => rfl) (fun t h1 h2 => by omega) ⟨fun t h1 h2 => by omega, by omega, Or.inl rfl⟩
  have hA : ∀ t, t < N → M1 10 t = a_At m K t := x3
  have hch : a_ch N (fun u => (M1 10 u).toInt) C L := by
    refine ⟨fun t ht => ?_, fun t ht => (y4.1 t (Nat.zero_le t) ht).2.1, fun t ht => (y4.1 t (Nat.zero_le t) ht).2.2.1, fun t ht => (y4.1 t (Nat.zero_le t) ht).2.2.2, ?_⟩
    · dsimp only
      rw [hA t ht]
      exact a_Kn_ge h hK (tp t ht).2
    · rcases y4.2.2 with e | ⟨t, -, t2, t3⟩
      · exact Or.inl e
      · exact Or.inr ⟨t, t2, t3⟩
  have hL12 : L ≤ 12 := by have := y4.2.1; omega
  -- the model
  obtain ⟨mb, hmb⟩ : ∃ mb, mb = q_u2 m 5001 1 0 := ⟨_, rfl⟩
  have fb : a_fr12 0 m mb := by rw [hmb]; exact a_fr12.rf.cnt
  obtain ⟨m1, b, s, u1, u2, u3, u4, u5⟩ := s_mroute_loop (x1 := 0) (x2 := 0) (x3 := 0) h hK h62 K 0 q_fu 0 (fun _ => 0) mb (by omega) (by omega) fb (by rw [hmb, q_u2_eq]; rfl) (fun k hk => absurd hk (Nat.not_lt_zero _)) ⟨fun k hk => absurd hk (Nat.not_lt_zero _), fun k l _ hl => absurd hl (Nat.not_lt_zero _), fun p hp => ⟨fun q => by have := q.2; unfold a_Thr at this; omega, fun ⟨k, hk, _⟩ => absurd hk (Nat.not_lt_zero _)⟩⟩
  have hbl := u5.le
  have hall : ∀ p, p < c 2 → (a_Kx m K p ≠ -1 ↔ ∃ k, k < b ∧ s k = p) := fun p hp => by
    rw [← u5.2.2 p hp]
    have g1 := a_Kn_ge h hK hp
    constructor
    · intro q
      have : a_Kn m K p ≠ -1 := fun q2 => q (i_eq.mpr (q2.trans (show (-1 : Int) = (-1 : Int32).toInt from rfl)))
      refine ⟨by omega, ?_⟩
      rcases a_Kn_top h hK hp with q3 | q3
      · unfold a_Thr; omega
      · rcases a_Kx_cases h hK hp with ⟨e, -⟩ | ⟨w, j, x, -, hj, -⟩
        · exact absurd e q
        · omega
    · intro q e
      unfold a_Kn at q
      rw [e, show (-1 : Int32).toInt = -1 from rfl] at q
      omega
  obtain ⟨m2, v1, v2, v3⟩ := s_metM_loop (c := c) (m0 := m) (mA := m1) (K := K) (N := N) (b := b) (s := s) (x1 := 0) (x3 := 0) hC2 hN (by rw [u2.1 5001 60 (by omega) (by omega)]; exact h60) u3 u4 ⟨_, u5⟩ hall (fun t ht => by rw [u2.1 5071 t (by omega) (by omega)]; exact tp t ht) N 0 q_fu m1 (by omega) (by omega) (fun _ _ => rfl) (fun u hu => absurd hu (Nat.not_lt_zero _))
  have hio : a_io N (fun u => (M1 10 u).toInt) (m2 5074) := by
    have idx : ∀ t, t < N → (a_At m K t = -1 ∧ m2 5074 t = -1) ∨ ∃ k, k < b ∧ s k = a_tp m t ∧ m2 5074 t = nI k ∧ a_At m K t ≠ -1 := fun t ht => by
      rw [v3 t ht]
      rcases a_ix_spec (s := s) (p := a_tp m t) b with ⟨e, q⟩ | ⟨k, k1, k2, k3⟩
      · refine Or.inl ⟨Classical.byContradiction fun z => ?_, e⟩
        obtain ⟨k, k1, k2⟩ := (hall _ (tp t ht).2).mp z
        exact q k k1 k2
      · exact Or.inr ⟨k, k1, k2, k3, (hall _ (tp t ht).2).mpr ⟨k, k1, k2⟩⟩
    have gA : ∀ t, t < N → (M1 10 t).toInt = a_Kn m K (a_tp m t) := fun t ht => by rw [hA t ht]; rfl
    have n1 : (-1 : Int32).toInt = -1 := rfl
    have ne : ∀ t, t < N → a_At m K t ≠ -1 → a_Kn m K (a_tp m t) ≠ -1 := fun t ht q q2 => q (i_eq.mpr (q2.trans n1.symm))
    refine ⟨fun t ht => ?_, fun t u ht hu => ?_⟩
    · have g1 := a_Kn_ge h hK (tp t ht).2
      dsimp only
      rw [gA t ht]
      rcases idx t ht with ⟨e1, e2⟩ | ⟨k, k1, k2, k3, k4⟩
      · have : a_Kn m K (a_tp m t) = -1 := by unfold a_Kn; unfold a_At at e1; rw [e1]; rfl
        rw [e2, n1]
        exact ⟨g1, Int.le_refl _, fun _ => rfl, fun _ => this⟩
      · have := ne t ht k4
        rw [k3, nI_toInt (by omega)]
        exact ⟨g1, by omega, fun q => absurd q this, fun q => by omega⟩
    · dsimp only
      rw [gA t ht, gA u hu]
      have g1 := a_Kn_ge h hK (tp t ht).2
      have g2 := a_Kn_ge h hK (tp u hu).2
      rcases idx t ht with ⟨e1, e2⟩ | ⟨k, k1, k2, k3, k4⟩
      · have t1 : a_Kn m K (a_tp m t) = -1 := by unfold a_Kn; unfold a_At at e1; rw [e1]; rfl
        rcases idx u hu with ⟨f1, f2⟩ | ⟨l, l1, l2, l3, l4⟩
        · have t2 : a_Kn m K (a_tp m u) = -1 := by unfold a_Kn; unfold a_At at f1; rw [f1]; rfl
          rw [e2, f2, t1, t2, n1]
        · have := ne u hu l4
          rw [e2, l3, nI_toInt (by omega), n1, t1]
          exact ⟨fun _ => by omega, fun _ => by omega⟩
      · have := ne t ht k4
        rcases idx u hu with ⟨f1, f2⟩ | ⟨l, l1, l2, l3, l4⟩
        · have t2 : a_Kn m K (a_tp m u) = -1 := by unfold a_Kn; unfold a_At at f1; rw [f1]; rfl
          rw [f2, k3, nI_toInt (by omega), n1, t2]
          exact ⟨fun q => by omega, fun q => by omega⟩
        · rw [k3, l3, nI_toInt (by omega), nI_toInt (by omega), ← k2, ← l2]
          constructor
          · intro q
            rcases Nat.lt_trichotomy k l with z | z | z
            · omega
            · rw [z] at q
              omega
            · have := u5.2.1 l k z k1
              omega
          · intro q
            exact u5.2.1 k l (by omega) l1
  have b0 : a_nB 0 N = 0 := fb_ct_zero.mpr (fun k _ => Nat.zero_testBit k)
  obtain ⟨B, w1, w2⟩ := s_sets_loop (m := m2) (N := N) (A := fun u => (M1 10 u).toInt) (x2 := nI (fb_ct (fun u => a_At m K u != -1) N)) (by rw [v2 5001 (by decide), u2.1 5001 60 (by omega) (by omega)]; exact h60) hN hio (2 ^ N) 0 q_fu 0 (by omega) (by have p : 2 ^ N ≤ 2 ^ 12 := Nat.pow_le_pow_right (by decide) hN; omega) ⟨Nat.two_pow_pos N, fun t _ hz => (by rw [Nat.zero_testBit] at hz; cases hz), fun S hS => absurd hS (Nat.not_lt_zero _)⟩
  rw [b0] at w2
  have best := a_gS_best hch w1.1 w1.2.1 w1.2.2
  have eL : a_nB B N = L := best.1
  -- what is told
  obtain ⟨m3, M3, e', l0, l1, l2, l3, l4, l5, l6, l7⟩ := s_tell2_loop (c := c) (m0 := q_u2 m2 5001 1 0) (M0 := q_u2 M2 6 1 0) (N := N) (L := L) (B := B) (C := C) (x1 := nI L) (x2 := nI (fb_ct (fun u => a_At m K u != -1) N)) hN hL12 (by rw [q_u2_ne (by omega), y2 8 (by decide), x2 8 (by decide)]; exact e8) (fun t ht => by rw [q_u2_ne (by omega), q_u2_ne (by omega), y2 58 (by decide), x2 58 (by decide), v2 5071 (by decide), u2.1 5071 t (by omega) (by omega)]; exact (e58 t ht).1) (by rw [q_u2_ne (by omega), v2 5001 (by decide), u2.1 5001 60 (by omega) (by omega)]; exact h60) (fun t ht => ⟨by rw [q_u2_ne (by omega)]; exact y3 t ht, by have := (y4.1 t (Nat.zero_le t) ht).1; omega⟩) (fun t ht => by
    rw [best.2 t ht, show q_u2 M2 6 1 0 10 = M1 10 from by funext j; rw [q_u2_ne (by omega), y2 10 (by decide)]]) (fun i _ => a_gr_le i) N 0 q_fu q_fu 0 (-1) (q_u2 m2 5001 1 0) (q_u2 M2 6 1 0) (by omega) (by omega) (by omega) (fun _ _ _ _ => rfl) a_fr12.rf rfl (by omega) q_u2_eq q_u2_eq (fun j hj => absurd hj (Nat.not_lt_zero _))
  have z0 : nI 0 = (0 : Int32) := rfl
  have z1 : nI (fb_ct (fun u => a_At m K u != -1) 0) = (0 : Int32) := rfl
  rw [z1, z0] at x1
  rw [z0] at y1 u1 l1 l2
  rw [z1, z0] at v1
  rw [z0, eL] at w2
  rw [x1, y1]
  unfold f_X11_tellChain
  rw [s_clear (r := 56) (N := 32) (by decide), Option.bind_some, show nI L = nI (a_gr (fun u => (q_u2 M2 6 1 0 10 u).toInt) C L 0).1 from rfl, l1, Option.bind_some, ← hmb, u1, v1, w2, l2]
  refine ⟨_, n, M3, m3, rfl, rfl, h.wr [12] (fun o j => ?_) (fun o j => ?_) (a_one ⟨e', by omega, l5, l6, fun j hj => ⟨l7 j hj, trivial⟩⟩)⟩
  · by_cases q1 : o = 10 ∨ o = 11
    · rcases q1 with rfl | rfl <;> exact Or.inr (Or.inl rfl)
    · by_cases q2 : o = 56
      · subst q2
        exact Or.inl (List.mem_singleton.mpr rfl)
      · by_cases q3 : o = 6 ∧ j = 1
        · obtain ⟨rfl, rfl⟩ := q3
          exact Or.inl (List.mem_singleton.mpr rfl)
        · refine Or.inr (Or.inr ?_)
          rw [l3 o j q2 q3, q_u2_ne q3, y2 o (by omega), x2 o (by omega)]
  · by_cases q1 : o = 5074
    · subst q1
      exact Or.inr (Or.inl rfl)
    · by_cases q2 : o = 5012
      · subst q2
        exact Or.inl (List.mem_singleton.mpr rfl)
      · by_cases q3 : o = 5001 ∧ j = 1
        · obtain ⟨rfl, rfl⟩ := q3
          exact Or.inl (List.mem_singleton.mpr rfl)
        · refine Or.inr (Or.inr ?_)
          rw [l4.1 o j q2 q3, q_u2_ne q3, v2 o q1, u2.1 o j q2 q3]
