/-! how far: the programs -/
theorem a_rds_le {P : Nat → Prop} {A B f : Nat → Nat} {K x : Nat} : ∀ r, a_rds P A B K f r x ≤ f x
  | 0 => Nat.le_refl _
  | r + 1 => by
    have := a_rd_le (P := P) (A := A) (B := B) (f := a_rds P A B K f r) (x := x) 0 K
    rw [Nat.zero_add] at this
    exact Nat.le_trans this (a_rds_le r)
theorem a_f0_le {g x : Nat} : a_f0 g x ≤ 99 := by
  unfold a_f0
  split <;> omega
theorem a_cell {M : q_MM} {o L : Nat} {f : Nat → Nat} (h : ∀ x, x < L → M o x = nI (f x)) (hf : ∀ x, f x ≤ 99) {u v : Nat} (hu : u < L) (hv : v < L) : ∀ x, x < L → q_u2 M o u (if M o v + 1 < M o u then M o v + 1 else M o u) o x = nI (a_rx1 f u v x) := by
  intro x hx
  have h1 := hf u
  have h2 := hf v
  rw [h u hu, h v hv, nI_1]
  unfold a_rx1
  by_cases z : x = u
  · subst z
    rw [q_u2_eq, if_pos rfl]
    by_cases z2 : f v + 1 < f x
    · rw [if_pos (nI_lt z2 (by omega)), if_pos z2]
    · rw [if_neg (show ¬ nI (f v + 1) < nI (f x) from fun q => by rw [i_lt, nI_toInt (by omega), nI_toInt (by omega)] at q; omega), if_neg z2]
  · rw [q_u2_ne (by omega), if_neg z, h x hx]
theorem a_rx1_le2 {f : Nat → Nat} {u v : Nat} (hf : ∀ x, f x ≤ 99) : ∀ x, a_rx1 f u v x ≤ 99 := fun x => Nat.le_trans a_rx1_le (hf x)
/-- what measure reads of the class -/
def a_Ms (c : Nat → Nat) (M : q_MM) (N : Nat) (A B : Nat → Nat) : Prop := a_C c ∧ M 13 2 = nI (c 0) ∧ M 2 10 = nI N ∧ N ≤ 10 ∧ ∀ i, i < c 0 → M (1000 + i) 0 = nI (A i) ∧ M (1000 + i) 1 = nI (B i) ∧ A i < N ∧ B i < N
theorem a_Ms.C {c : Nat → Nat} {M : q_MM} {N : Nat} {A B : Nat → Nat} (h : a_Ms c M N A B) : a_C c := h.1
theorem a_Ms.D {c : Nat → Nat} {M : q_MM} {N : Nat} {A B : Nat → Nat} (h : a_Ms c M N A B) : M 13 2 = nI (c 0) := h.2.1
theorem a_Ms.R {c : Nat → Nat} {M : q_MM} {N : Nat} {A B : Nat → Nat} (h : a_Ms c M N A B) : M 2 10 = nI N := h.2.2.1
theorem a_Ms.N10 {c : Nat → Nat} {M : q_MM} {N : Nat} {A B : Nat → Nat} (h : a_Ms c M N A B) : N ≤ 10 := h.2.2.2.1
theorem a_Ms.AB {c : Nat → Nat} {M : q_MM} {N : Nat} {A B : Nat → Nat} (h : a_Ms c M N A B) : ∀ i, i < c 0 → M (1000 + i) 0 = nI (A i) ∧ M (1000 + i) 1 = nI (B i) ∧ A i < N ∧ B i < N := h.2.2.2.2
theorem a_Ms.fr {c : Nat → Nat} {M M' : q_MM} {N x1 : Nat} {A B : Nat → Nat} (h : a_Ms c M N A B) (hx : x1 = 18 ∨ x1 = 19) (hf : ∀ o, o ≠ x1 → M' o = M o) : a_Ms c M' N A B := by
  have hC := h.C.1
  refine ⟨h.C, ?_, ?_, h.N10, fun i hi => ?_⟩
  · rw [hf 13 (by omega)]
    exact h.D
  · rw [hf 2 (by omega)]
    exact h.R
  · rw [hf (1000 + i) (by omega)]
    exact h.AB i hi
theorem s_ms_in {c : Nat → Nat} {M0 : q_MM} {N x1 : Nat} {A B : Nat → Nat} {P : Nat → Prop} {x3 : Nat} {x4 x5 : Int32} {k35 : Nat → Nat → Int32 → Int32 → q_MM → Option (q_MM)} (hx : x1 = 18 ∨ x1 = 19) (h0 : a_Ms c M0 N A B) (hP : ∀ M', (∀ o, o ≠ x1 → M' o = M0 o) → ∀ i, i < c 0 → f_X2_goesThrough c M' x3 (nI i) x4 = some (a_if (P i) 1 0)) {f : Nat → Nat} (hf : ∀ x, f x ≤ 99) : ∀ (d i nf : Nat) (M : q_MM), i + d = c 0 → d < nf → (∀ o, o ≠ x1 → M o = M0 o) → (∀ x, x < 10 → M x1 x = nI (a_rd P A B f i x)) → ∃ M', b_X2_measure_47 c k35 nf x1 x3 x4 x5 (nI i) M = k35 x1 x3 x4 (x5 + 1) M' ∧ (∀ o, o ≠ x1 → M' o = M0 o) ∧ ∀ x, x < 10 → M' x1 x = nI (a_rd P A B f (c 0) x)
  | d, i, 0, _, _, h, _, _ => absurd h (Nat.not_lt_zero _)
  | 0, i, nf + 1, M, hi, _, hfr, hc => by
    have hC := h0.C.1
    have : i = c 0 := by omega
    subst this
    exact ⟨M, by rw [b_X2_measure_47, s_size rfl, (h0.fr hx hfr).D, Option.bind_some, if_pos (nI_le (by omega) (by omega))], hfr, hc⟩
  | d + 1, i, nf + 1, M, hi, hf2, hfr, hc => by
    have hC := h0.C.1
    have h := h0.fr hx hfr
    have hic : i < c 0 := by omega
    obtain ⟨a1, a2, a3, a4⟩ := h.AB i hic
    have hN := h.N10
    have hT : qTX c x1 = 1 ∧ qLX c x1 = 10 := by rcases hx with rfl | rfl <;> exact ⟨rfl, rfl⟩
    have hfi : ∀ x, a_rd P A B f i x ≤ 99 := fun x => by
      have := a_rd_le (P := P) (A := A) (B := B) (f := f) (x := x) 0 i
      rw [Nat.zero_add] at this
      exact Nat.le_trans this (hf x)
    rw [b_X2_measure_47, s_size rfl, h.D, Option.bind_some, if_neg (nI_ge (by omega) (by omega)), hP M hfr i hic, Option.bind_some]
    unfold b_X2_measure_137
    rw [nI_1]
    by_cases z : P i
    · have c1 := a_cell hc hfi (u := A i) (v := B i) (by omega) (by omega)
      have c2 := a_cell c1 (a_rx1_le2 hfi) (u := B i) (v := A i) (by omega) (by omega)
      have n0 : ¬ 1000 + i = x1 := by omega
      rw [a_ifp z, if_neg (by decide), s_getL (j := 0) (b := 1000) (by decide) hic (by omega) h.D, Option.bind_some, w_ck (t_door h0.C hic), w_ck hT.1, hT.2, a1, a2, w_ld (by omega) (by decide), w_ld (by omega) (by decide), w_as (by omega) (by decide), q_u2_ne (M := M) (by omega), q_u2_ne (M := M) (by omega), a1, a2, w_ld (by omega) (by decide), w_ld (by omega) (by decide), w_as (by omega) (by decide)]
      refine s_ms_in hx h0 hP hf d (i + 1) nf _ (by omega) (by omega) (fun o ho => ?_) (fun x hx => ?_)
      · funext k
        rw [q_u2_ne (fun z => ho z.1), q_u2_ne (fun z => ho z.1), hfr o ho]
      · rw [a_rd_s, a_ifp z]
        exact c2 x hx
    · rw [a_ifn z, if_pos rfl]
      refine s_ms_in hx h0 hP hf d (i + 1) nf M (by omega) (by omega) hfr (fun x hx => ?_)
      rw [a_rd_s, a_ifn z]
      exact hc x hx
theorem s_ms_out {c : Nat → Nat} {M0 : q_MM} {N x1 g : Nat} {A B : Nat → Nat} {P : Nat → Prop} {x3 : Nat} {x4 : Int32} (hx : x1 = 18 ∨ x1 = 19) (h0 : a_Ms c M0 N A B) (hP : ∀ M', (∀ o, o ≠ x1 → M' o = M0 o) → ∀ i, i < c 0 → f_X2_goesThrough c M' x3 (nI i) x4 = some (a_if (P i) 1 0)) : ∀ (d r nf : Nat) (M : q_MM), (r + d = N - 1) → d < nf → (∀ o, o ≠ x1 → M o = M0 o) → (∀ x, x < 10 → M x1 x = nI (a_rds P A B (c 0) (a_f0 g) r x)) → ∃ M', b_X2_measure_35 c nf x1 x3 x4 (nI (r + 1)) M = some M' ∧ (∀ o, o ≠ x1 → M' o = M0 o) ∧ ∀ x, x < 10 → M' x1 x = nI (a_rds P A B (c 0) (a_f0 g) (N - 1) x)
  | d, r, 0, _, _, h, _, _ => absurd h (Nat.not_lt_zero _)
  | 0, r, nf + 1, M, hi, _, hfr, hc => by
    have : r = N - 1 := by omega
    subst this
    have hN := h0.N10
    exact ⟨M, by rw [b_X2_measure_35, (h0.fr hx hfr).R, if_pos (nI_le (by omega) (by omega))], hfr, hc⟩
  | d + 1, r, nf + 1, M, hi, hf, hfr, hc => by
    have hN := h0.N10
    have hC := h0.C.1
    have hfu := q_fu_le
    obtain ⟨M', e1, e2, e3⟩ := s_ms_in (x5 := nI (r + 1)) (k35 := b_X2_measure_35 c nf) hx h0 hP (f := a_rds P A B (c 0) (a_f0 g) r) (fun x => Nat.le_trans (a_rds_le r) a_f0_le) (c 0) 0 q_fu M (by omega) (by omega) hfr hc
    rw [b_X2_measure_35, (h0.fr hx hfr).R, if_neg (nI_ge (by omega) (by omega)), show (0 : Int32) = nI 0 from rfl, e1, nI_1]
    exact s_ms_out hx h0 hP d (r + 1) nf M' (by omega) (by omega) e2 e3
theorem s_measure {c : Nat → Nat} {M0 : q_MM} {N x1 g : Nat} {A B : Nat → Nat} {P : Nat → Prop} {x3 : Nat} {x4 : Int32} (hx : x1 = 18 ∨ x1 = 19) (hg : g < 10) (h0 : a_Ms c M0 N A B) (hP : ∀ M', (∀ o, o ≠ x1 → M' o = M0 o) → ∀ i, i < c 0 → f_X2_goesThrough c M' x3 (nI i) x4 = some (a_if (P i) 1 0)) : ∃ M', f_X2_measure c M0 x1 (nI g) x3 x4 = some M' ∧ (∀ o, o ≠ x1 → M' o = M0 o) ∧ ∀ x, x < 10 → M' x1 x = nI (a_rds P A B (c 0) (a_f0 g) (N - 1) x) := by
  have hfu := q_fu_le
  have hN := h0.N10
  have hT : qTX c x1 = 1 ∧ qLX c x1 = 10 := by rcases hx with rfl | rfl <;> exact ⟨rfl, rfl⟩
  have init : ∀ (d i nf : Nat) (M : q_MM), i + d = 10 → d < nf → (∀ o, o ≠ x1 → M o = M0 o) → (∀ x, x < i → M x1 x = nI (a_f0 g x)) → ∃ M', b_X2_measure_3 c nf x1 (nI g) x3 x4 (nI i) M = b_X2_measure_35 c q_fu x1 x3 x4 1 M' ∧ (∀ o, o ≠ x1 → M' o = M0 o) ∧ ∀ x, x < 10 → M' x1 x = nI (a_f0 g x) := by
    intro d
    induction d with
    | zero =>
      intro i nf M hi hf hfr hc
      obtain ⟨nf, rfl⟩ : ∃ k, nf = k + 1 := ⟨nf - 1, by omega⟩
      have : i = 10 := by omega
      subst this
      exact ⟨M, by rw [b_X2_measure_3, w_ck hT.1, hT.2, if_pos (by decide)], hfr, hc⟩
    | succ d ih =>
      intro i nf M hi hf hfr hc
      obtain ⟨nf, rfl⟩ : ∃ k, nf = k + 1 := ⟨nf - 1, by omega⟩
      have step : ∀ v, v = nI (a_f0 g i) → ∃ M', b_X2_measure_25 c (b_X2_measure_3 c nf) x1 (nI g) x3 x4 (nI i) v (nI i) x1 M = b_X2_measure_35 c q_fu x1 x3 x4 1 M' ∧ (∀ o, o ≠ x1 → M' o = M0 o) ∧ ∀ x, x < 10 → M' x1 x = nI (a_f0 g x) := by
        intro v hv
        unfold b_X2_measure_25
        rw [w_ck hT.1, hT.2, w_as (by omega) (by decide), nI_1]
        refine ih (i + 1) nf _ (by omega) (by omega) (fun o ho => ?_) (fun x hx => ?_)
        · funext k
          rw [q_u2_ne (fun z => ho z.1), hfr o ho]
        · by_cases e : x = i
          · subst e
            rw [q_u2_eq, hv]
          · rw [q_u2_ne (by omega)]
            exact hc x (by omega)
      rw [b_X2_measure_3, w_ck hT.1, hT.2, if_neg (show ¬ Int32.ofNat 10 ≤ nI i from nI_ge (a := i) (b := 10) (by omega) (by decide))]
      by_cases z : i = g
      · subst z
        rw [if_pos rfl]
        exact step 0 (by unfold a_f0; rw [if_pos rfl]; rfl)
      · rw [if_neg (fun q => z (nI_inj (by omega) (by omega) q))]
        exact step 99 (by unfold a_f0; rw [if_neg z]; rfl)
  obtain ⟨M1, e1, e2, e3⟩ := init 10 0 q_fu M0 (by omega) (by omega) (fun _ _ => rfl) (fun x hx => absurd hx (Nat.not_lt_zero _))
  obtain ⟨M2, t1, t2, t3⟩ := s_ms_out (g := g) hx h0 hP (N - 1) 0 q_fu M1 (by omega) (by omega) e2 e3
  refine ⟨M2, ?_, t2, t3⟩
  unfold f_X2_measure
  rw [show (0 : Int32) = nI 0 from rfl, e1]
  exact t1
theorem a_X.AB {c n : Nat → Nat} {m M : q_MM} (h : a_X c n m M) {i : Nat} (hi : i < c 0) : m 5015 i = nI (a_A m i) ∧ m 5016 i = nI (a_Bd m i) ∧ a_A m i < n 0 ∧ a_Bd m i < n 0 := by
  have h0 : n 0 ≤ 10 := (h 0).1
  obtain ⟨-, -, -, -, ⟨a, ha, e1⟩, ⟨b, hb, e2⟩, -⟩ := (h 2 : a_B2 c n m M).2.2.2.1 i hi
  unfold a_A a_Bd
  rw [e1, e2, nI_clamp (by omega), nI_clamp (by omega)]
  exact ⟨rfl, rfl, ha, hb⟩
theorem a_X.Ms {c n : Nat → Nat} {m M : q_MM} (h : a_X c n m M) : a_Ms c M (n 0) (a_A m) (a_Bd m) := by
  refine ⟨h.C, (h 2).2.2.1, (h 0).2.2, (h 0).1, fun i hi => ?_⟩
  have g := (h 2 : a_B2 c n m M).2.2.2.1 i hi
  have g2 := h.AB hi
  exact ⟨g.1.trans g2.1, g.2.1.trans g2.2.1, g2.2.2⟩
/-- the model's rooms and doors -/
def a_Dr (c n : Nat → Nat) (m : q_MM) : Prop := n 0 ≤ 10 ∧ m 5001 3 = nI (n 0) ∧ c 0 ≤ 20 ∧ m 5001 4 = nI (c 0) ∧ ∀ i, i < c 0 → m 5015 i = nI (a_A m i) ∧ m 5016 i = nI (a_Bd m i) ∧ a_A m i < n 0 ∧ a_Bd m i < n 0
theorem a_X.Dr {c n : Nat → Nat} {m M : q_MM} (h : a_X c n m M) : a_Dr c n m := ⟨(h 0).1, (h 0).2.1, h.C.1, (h 2).2.1, fun i hi => h.AB hi⟩
theorem a_Dr.fr {c n : Nat → Nat} {m m' : q_MM} (h : a_Dr c n m) (h1 : m' 5015 = m 5015) (h2 : m' 5016 = m 5016) (h3 : m' 5001 3 = m 5001 3) (h4 : m' 5001 4 = m 5001 4) : a_Dr c n m' := by
  unfold a_Dr a_A a_Bd at *
  rw [h1, h2, h3, h4]
  exact h
/-- the model's way from the entry -/
theorem s_dt_in {c n : Nat → Nat} {m0 : q_MM} (h0 : a_Dr c n m0) {x1 x2 : Int32} {k34 : Int32 → Int32 → q_MM → Option (Int32 × q_MM)} {f : Nat → Nat} (hf : ∀ x, f x ≤ 99) : ∀ (d i nf : Nat) (m : q_MM), i + d = c 0 → d < nf → (∀ o, o ≠ 5057 → m o = m0 o) → (∀ x, x < n 0 → m 5057 x = nI (a_rd (fun _ => True) (a_A m0) (a_Bd m0) f i x)) → ∃ m', b_X12_doorsTo_44 k34 nf x1 x2 (nI i) m = k34 x1 (x2 + 1) m' ∧ (∀ o, o ≠ 5057 → m' o = m0 o) ∧ ∀ x, x < n 0 → m' 5057 x = nI (a_rd (fun _ => True) (a_A m0) (a_Bd m0) f (c 0) x)
  | d, i, 0, _, _, h, _, _ => absurd h (Nat.not_lt_zero _)
  | 0, i, nf + 1, m, hi, _, hfr, hc => by
    have hC := h0.2.2.1
    have : i = c 0 := by omega
    subst this
    exact ⟨m, by rw [b_X12_doorsTo_44, hfr 5001 (by decide), h0.2.2.2.1, if_pos (nI_le (by omega) (by omega))], hfr, hc⟩
  | d + 1, i, nf + 1, m, hi, hf2, hfr, hc => by
    have hC := h0.2.2.1
    have hN : n 0 ≤ 10 := h0.1
    obtain ⟨a1, a2, a3, a4⟩ := h0.2.2.2.2 i (by omega)
    have hfi : ∀ x, a_rd (fun _ => True) (a_A m0) (a_Bd m0) f i x ≤ 99 := fun x => by
      have := a_rd_le (P := fun _ => True) (A := a_A m0) (B := a_Bd m0) (f := f) (x := x) 0 i
      rw [Nat.zero_add] at this
      exact Nat.le_trans this (hf x)
    have c1 := a_cell hc hfi (u := a_A m0 i) (v := a_Bd m0 i) a3 a4
    have c2 := a_cell c1 (a_rx1_le2 hfi) (u := a_Bd m0 i) (v := a_A m0 i) a4 a3
    have b1 : m 5015 = m0 5015 := hfr _ (by decide)
    have b2 : m 5016 = m0 5016 := hfr _ (by decide)
    rw [b_X12_doorsTo_44, hfr 5001 (by decide), h0.2.2.2.1, if_neg (nI_ge (by omega) (by omega)), w_ld (by omega) (by decide), w_ld (by omega) (by decide), b1, a1, w_ld (by omega) (by decide), w_ld (by omega) (by decide), b2, a2, w_ld (by omega) (by decide), w_as (by omega) (by decide), w_ld (by omega) (by decide), w_ld (by omega) (by decide), q_u2_ne (M := m) (by omega), b2, a2, w_ld (by omega) (by decide), w_ld (by omega) (by decide), q_u2_ne (M := m) (by omega), b1, a1, w_ld (by omega) (by decide), w_as (by omega) (by decide), nI_1]
    refine s_dt_in h0 hf d (i + 1) nf _ (by omega) (by omega) (fun o ho => ?_) (fun x hx => ?_)
    · funext k
      rw [q_u2_ne (fun z => ho z.1), q_u2_ne (fun z => ho z.1), hfr o ho]
    · rw [a_rd_s, a_ifp trivial]
      exact c2 x hx
theorem s_doorsTo {c n : Nat → Nat} {m0 : q_MM} (h0 : a_Dr c n m0) {r : Nat} (hr : r < n 0) : ∃ m' k, f_X12_doorsTo m0 (nI r) = some (nI k, m') ∧ (∀ o, o ≠ 5057 → m' o = m0 o) ∧ a_dst (fun _ => True) (a_A m0) (a_Bd m0) (c 0) 0 r k := by
  have hfu := q_fu_le
  have hC := h0.2.2.1
  have hN : n 0 ≤ 10 := h0.1
  have init : ∀ (d i nf : Nat) (m : q_MM), i + d = n 0 → d < nf → (∀ o, o ≠ 5057 → m o = m0 o) → (∀ x, x < i → m 5057 x = nI (a_f0 0 x)) → ∃ m', b_X12_doorsTo_2 nf (nI r) (nI i) m = b_X12_doorsTo_34 q_fu (nI r) 0 m' ∧ (∀ o, o ≠ 5057 → m' o = m0 o) ∧ ∀ x, x < n 0 → m' 5057 x = nI (a_f0 0 x) := by
    intro d
    induction d with
    | zero =>
      intro i nf m hi hf hfr hc
      obtain ⟨nf, rfl⟩ : ∃ k, nf = k + 1 := ⟨nf - 1, by omega⟩
      have : i = n 0 := by omega
      subst this
      exact ⟨m, by rw [b_X12_doorsTo_2, hfr 5001 (by decide), h0.2.1, if_pos (nI_le (by omega) (by omega))], hfr, hc⟩
    | succ d ih =>
      intro i nf m hi hf hfr hc
      obtain ⟨nf, rfl⟩ : ∃ k, nf = k + 1 := ⟨nf - 1, by omega⟩
      have step : ∀ v, v = nI (a_f0 0 i) → ∃ m', b_X12_doorsTo_25 (b_X12_doorsTo_2 nf) (nI r) (nI i) v (nI i) 5057 m = b_X12_doorsTo_34 q_fu (nI r) 0 m' ∧ (∀ o, o ≠ 5057 → m' o = m0 o) ∧ ∀ x, x < n 0 → m' 5057 x = nI (a_f0 0 x) := by
        intro v hv
        unfold b_X12_doorsTo_25
        rw [w_ck (show qTM 5057 = 1 from rfl), show qLM 5057 = 10 from rfl, w_as (by omega) (by decide), nI_1]
        refine ih (i + 1) nf _ (by omega) (by omega) (fun o ho => ?_) (fun x hx => ?_)
        · funext k
          rw [q_u2_ne (fun z => ho z.1), hfr o ho]
        · by_cases e : x = i
          · subst e
            rw [q_u2_eq, hv]
          · rw [q_u2_ne (by omega)]
            exact hc x (by omega)
      rw [b_X12_doorsTo_2, hfr 5001 (by decide), h0.2.1, if_neg (nI_ge (by omega) (by omega))]
      by_cases z : i = 0
      · subst z
        rw [if_pos (show nI 0 = 0 from rfl)]
        exact step 0 rfl
      · rw [if_neg (show ¬ nI i = 0 from fun q => z (nI_inj (by omega) (by omega) (show nI i = nI 0 from q)))]
        exact step 99 (by unfold a_f0; rw [if_neg z]; rfl)
  have rounds : ∀ (d i nf : Nat) (m : q_MM), i + d = n 0 → d < nf → (∀ o, o ≠ 5057 → m o = m0 o) → (∀ x, x < n 0 → m 5057 x = nI (a_rds (fun _ => True) (a_A m0) (a_Bd m0) (c 0) (a_f0 0) i x)) → ∃ m', b_X12_doorsTo_34 nf (nI r) (nI i) m = some (nI (a_rds (fun _ => True) (a_A m0) (a_Bd m0) (c 0) (a_f0 0) (n 0) r), m') ∧ ∀ o, o ≠ 5057 → m' o = m0 o := by
    intro d
    induction d with
    | zero =>
      intro i nf m hi hf hfr hc
      obtain ⟨nf, rfl⟩ : ∃ k, nf = k + 1 := ⟨nf - 1, by omega⟩
      have : i = n 0 := by omega
      subst this
      have hle : a_rds (fun _ => True) (a_A m0) (a_Bd m0) (c 0) (a_f0 0) (n 0) r ≤ 99 := Nat.le_trans (a_rds_le _) a_f0_le
      refine ⟨m, ?_, hfr⟩
      rw [b_X12_doorsTo_34, hfr 5001 (by decide), h0.2.1, if_pos (nI_le (by omega) (by omega)), w_ld (by omega) (by decide), hc r hr]
      by_cases z : a_rds (fun _ => True) (a_A m0) (a_Bd m0) (c 0) (a_f0 0) (n 0) r < 99
      · rw [if_pos (show _ < (99 : Int32) from nI_lt (b := 99) z (by decide))]
      · rw [show a_rds (fun _ => True) (a_A m0) (a_Bd m0) (c 0) (a_f0 0) (n 0) r = 99 by omega]
        rfl
    | succ d ih =>
      intro i nf m hi hf hfr hc
      obtain ⟨nf, rfl⟩ : ∃ k, nf = k + 1 := ⟨nf - 1, by omega⟩
      obtain ⟨m1, e1, e2, e3⟩ := s_dt_in h0 (x1 := nI r) (x2 := nI i) (k34 := b_X12_doorsTo_34 nf) (f := a_rds (fun _ => True) (a_A m0) (a_Bd m0) (c 0) (a_f0 0) i) (fun x => Nat.le_trans (a_rds_le i) a_f0_le) (c 0) 0 q_fu m (by omega) (by omega) hfr hc
      rw [b_X12_doorsTo_34, hfr 5001 (by decide), h0.2.1, if_neg (nI_ge (by omega) (by omega)), show (0 : Int32) = nI 0 from rfl, e1, nI_1]
      exact ih (i + 1) nf m1 (by omega) (by omega) e2 e3
  obtain ⟨m1, e1, e2, e3⟩ := init (n 0) 0 q_fu m0 (by omega) (by omega) (fun _ _ => rfl) (fun x hx => absurd hx (Nat.not_lt_zero _))
  obtain ⟨m2, t1, t2⟩ := rounds (n 0) 0 q_fu m1 (by omega) (by omega) e2 e3
  refine ⟨m2, _, ?_, t2, a_rds_dst (N := n 0) (r := n 0) (fun i hi => (h0.2.2.2.2 i hi).2.2) (by omega) (by omega) (by omega) hr⟩
  unfold f_X12_doorsTo
  rw [show (0 : Int32) = nI 0 from rfl, e1]
  exact t1
theorem s_goes0 {c : Nat → Nat} {M : q_MM} (hC : a_C c) (hD : M 13 2 = nI (c 0)) {x4 : Int32} {i : Nat} (hi : i < c 0) : f_X2_goesThrough c M 0 (nI i) x4 = some (a_if True 1 0) := by
  have := hC.1
  unfold f_X2_goesThrough b_X2_goesThrough_55
  rw [s_getL (j := 0) (b := 1000) (by decide) hi (by omega) hD, Option.bind_some, w_ck (t_door hC hi), if_pos rfl, w_bl1, a_ifp trivial]
def a_nr (n : Nat → Nat) : Nat → Nat := fun j => if j = 0 then n 0 + 1 else n j
theorem pub_room {c n : Nat → Nat} {m M : q_MM} (h : a_X c n m M) : a_T c (f_X11_room c M) (f_X12_room m) := by
  unfold f_X11_room f_X12_room
  simp only [w_let]
  replace h := h.t0
  generalize q_u2 m 5001 0 0 = m at h ⊢
  have hN : n 0 ≤ 10 := (h 0).1
  rw [(h 0).2.1, (h 0).2.2]
  by_cases z : n 0 < 10
  · rw [if_pos (show nI (n 0) < 10 from nI_lt (b := 10) z (by decide)), if_neg (show ¬ nI (n 0) = 10 from fun q => by have := nI_inj (by omega) (by decide) (show nI (n 0) = nI 10 from q); omega), nI_1]
    have h0 := h.Ms
    have hM1 : a_Ms c (q_u2 M 2 10 (nI (n 0 + 1))) (n 0 + 1) (a_A m) (a_Bd m) := by
      refine ⟨h0.C, ?_, q_u2_eq, by omega, fun i hi => ?_⟩
      · rw [q_u2_ne (by omega)]
        exact h0.D
      · rw [q_u2_ne (by omega), q_u2_ne (by omega)]
        have := h0.AB i hi
        exact ⟨this.1, this.2.1, by omega, by omega⟩
    obtain ⟨M', e1, e2, e3⟩ := s_measure (x1 := 18) (g := 0) (P := fun _ => True) (x3 := 0) (x4 := -1) (Or.inl rfl) (by decide) hM1 (fun M' hf i hi => s_goes0 h.C (by rw [hf 13 (by decide)]; exact hM1.D) hi)
    rw [show (0 : Int32) = nI 0 from rfl, e1, Option.bind_some, e2 2 (by decide), q_u2_eq, q_u2_eq]
    refine ⟨_, a_nr n, M', _, rfl, rfl, ?_⟩
    have nx : ∀ o k, o ≠ 18 → ¬ (o = 2 ∧ k = 10) → M' o k = M o k := fun o k h1 h2 => by rw [e2 o h1, q_u2_ne h2]
    intro j
    by_cases j0 : j = 0
    · subst j0
      exact ⟨by show n 0 + 1 ≤ 10; omega, q_u2_eq, by rw [e2 2 (by decide), q_u2_eq]; rfl⟩
    have cg : a_only ownS j m (q_u2 m 5001 3 (nI (n 0 + 1))) := fun o k ho => by
      rw [q_u2_ne]
      rintro ⟨rfl, rfl⟩
      exact j0 ho.symm
    by_cases j2 : j = 2
    · subst j2
      have h2 : a_B2 c n m M := h 2
      have f1 : a_A (q_u2 m 5001 3 (nI (n 0 + 1))) = a_A m := by
        funext i
        unfold a_A
        rw [q_u2_ne (by omega)]
      have f2 : a_Bd (q_u2 m 5001 3 (nI (n 0 + 1))) = a_Bd m := by
        funext i
        unfold a_Bd
        rw [q_u2_ne (by omega)]
      refine ⟨h2.1, by rw [q_u2_ne (by omega)]; exact h2.2.1, by rw [nx 13 2 (by decide) (by omega)]; exact h2.2.2.1, fun d hd => ?_, fun r hr => ?_⟩
      · have g := h2.2.2.2.1 d hd
        have hd2 := h2.1
        rw [nx _ _ (by omega) (by omega), nx _ _ (by omega) (by omega), nx _ _ (by omega) (by omega), nx _ _ (by omega) (by omega), q_u2_ne (by omega), q_u2_ne (by omega), q_u2_ne (by omega), q_u2_ne (by omega)]
        obtain ⟨g1, g2, g3, g4, ⟨a, ha, g5⟩, ⟨b, hb, g6⟩, g7⟩ := g
        exact ⟨g1, g2, g3, g4, ⟨a, by show a < n 0 + 1; omega, g5⟩, ⟨b, by show b < n 0 + 1; omega, g6⟩, g7⟩
      · have hr : r < n 0 + 1 := hr
        rw [f1, f2]
        exact ⟨_, e3 r (by omega), a_rds_dst (N := n 0 + 1) (fun i hi => (hM1.AB i hi).2.2) (by omega) (by omega) (by omega) hr⟩
    have cm : a_only ownM j M M' := fun o k ho => by
      refine nx o k (fun z => ?_) (fun z => ?_)
      · subst z
        exact j2 ho.symm
      · obtain ⟨rfl, rfl⟩ := z
        exact j0 ho.symm
    have hj := a_cong j cm cg (h j)
    match j, j0, j2, hj with
    | 0, q, _, _ => exact absurd rfl q
    | 1, _, _, hj => exact hj
    | 2, _, q, _ => exact absurd rfl q
    | 3, _, _, hj => exact hj
    | 4, _, _, hj => exact hj
    | 5, _, _, hj =>
      obtain ⟨g1, g2, g3, g4, g5⟩ := hj
      refine ⟨g1, g2, g3, fun w hw => ⟨(g4 w hw).1, ?_, (g4 w hw).2.2⟩, g5⟩
      obtain ⟨a, ha, e⟩ := (g4 w hw).2.1
      exact ⟨a, by show a < n 0 + 1; omega, e⟩
    | 6, _, _, hj => exact hj
    | 7, _, _, hj => exact hj
    | 8, _, _, hj =>
      obtain ⟨g1, g2, g3, g4, g5⟩ := hj
      exact ⟨g1, g2, g3, fun p hp q1 q2 => g4 p hp q1 ((show a_nr n (100 + p) = n (100 + p) from if_neg (by omega)).symm.trans q2), g5⟩
    | 9, _, _, hj =>
      obtain ⟨g1, g2, g3, g4⟩ := hj
      exact ⟨g1, g2, g3, fun p hp q1 => (g4 p hp q1).elim (fun q => Or.inl ((show a_nr n (100 + p) = n (100 + p) from if_neg (by omega)).trans q)) Or.inr⟩
    | 10, _, _, hj => exact hj
    | 11, _, _, hj => exact hj
    | 12, _, _, hj => exact hj
    | 13, _, _, hj => exact hj
    | 14, _, _, hj => exact hj
    | 15, _, _, hj =>
      obtain ⟨⟨k, g1, g2, g3, g4⟩, g5⟩ := hj
      refine ⟨⟨k, g1, g2, g3, fun i hi => ⟨(g4 i hi).1, ?_⟩⟩, g5⟩
      obtain ⟨a, ha, e⟩ := (g4 i hi).2
      exact ⟨a, by show a < n 0 + 1; omega, e⟩
    | 16, _, _, hj => exact hj
    | 17, _, _, hj => exact hj
    | 18, _, _, hj => exact hj
    | k + 19, _, _, _ => exact trivial
  · have : n 0 = 10 := by omega
    rw [this, if_neg (by decide), if_pos (show nI 10 = 10 from rfl)]
    exact a_T.no h (-1) rfl rfl
