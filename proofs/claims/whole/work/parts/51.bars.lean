/-! bars: ways of a picture -/
theorem a_bl_trans {P : Nat → Prop} {A B : Nat → Nat} {K g y k : Nat} (h : a_bl P A B K g k y) : ∀ {l x : Nat}, a_bl P A B K y l x → a_bl P A B K g (k + l) x
  | 0, x, q => by
    have q : x = y := q
    subst q
    exact h
  | l + 1, x, q => by
    rcases q with q | ⟨i, hi, hp, q⟩
    · exact Or.inl (a_bl_trans h q)
    · exact Or.inr ⟨i, hi, hp, q.elim (fun a => Or.inl ⟨a.1, a_bl_trans h a.2⟩) (fun a => Or.inr ⟨a.1, a_bl_trans h a.2⟩)⟩
theorem a_bl_sym {P : Nat → Prop} {A B : Nat → Nat} {K g : Nat} : ∀ {k x : Nat}, a_bl P A B K g k x → a_bl P A B K x k g
  | 0, x, q => by
    have q : x = g := q
    exact q.symm
  | k + 1, x, q => by
    rcases q with q | ⟨i, hi, hp, q⟩
    · exact Or.inl (a_bl_sym q)
    · have one : ∀ y, ((A i = x ∧ B i = y) ∨ (B i = x ∧ A i = y)) → a_bl P A B K x 1 y := by
        intro y hy
        refine Or.inr ⟨i, hi, hp, ?_⟩
        rcases hy with ⟨e1, e2⟩ | ⟨e1, e2⟩
        · exact Or.inr ⟨e2, e1⟩
        · exact Or.inl ⟨e2, e1⟩
      rw [Nat.add_comm]
      rcases q with ⟨e1, e2⟩ | ⟨e1, e2⟩
      · exact a_bl_trans (one _ (Or.inl ⟨e1, rfl⟩)) (a_bl_sym e2)
      · exact a_bl_trans (one _ (Or.inr ⟨e1, rfl⟩)) (a_bl_sym e2)
theorem a_dst_sym {P : Nat → Prop} {A B : Nat → Nat} {K g x k : Nat} (h : a_dst P A B K g x k) : a_dst P A B K x g k := by
  rcases h with ⟨h1, h2, h3⟩ | ⟨h1, h2⟩
  · exact Or.inl ⟨h1, a_bl_sym h2, fun j hj q => h3 j hj (a_bl_sym q)⟩
  · exact Or.inr ⟨h1, fun j q => h2 j (a_bl_sym q)⟩
def a_ps (m : q_MM) (p i : Nat) : Prop := (¬ m 5017 i < m 5029 p ∧ ¬ m 5018 i < m 5030 p) ∨ (¬ m 5018 i < m 5029 p ∧ ¬ m 5017 i < m 5030 p)
def a_en (m : q_MM) (p : Nat) (x3 : Int32) (i : Nat) : Prop := m 5075 (a_A m i) ≠ 1 ∧ m 5075 (a_Bd m i) ≠ 1 ∧ (nI i = x3 ∨ a_ps m p i)
theorem s_passes {m : q_MM} {p i : Nat} (hp : p < 24) (hi : i < 20) : f_X12_passes m (nI p) (nI i) = some (a_if (a_ps m p i) 1 0) := by
  unfold f_X12_passes b_X12_passes_34 b_X12_passes_35 b_X12_passes_70 a_ps
  simp only [w_ld hp (show 24 ≤ 100000 by decide), w_ld hi (show 20 ≤ 100000 by decide), w_bl0, w_bl1]
  by_cases z1 : m 5017 i < m 5029 p
  · rw [if_pos z1, if_pos trivial]
    by_cases z2 : m 5018 i < m 5029 p
    · rw [if_pos z2, a_ifn (by rintro (q | q); exact q.1 z1; exact q.1 z2)]
    · rw [if_neg z2]
      by_cases z3 : m 5017 i < m 5030 p
      · rw [if_pos z3, a_ifn (by rintro (q | q); exact q.1 z1; exact q.2 z3)]
      · rw [if_neg z3, a_ifp (Or.inr ⟨z2, z3⟩)]
  · rw [if_neg z1]
    by_cases z4 : m 5018 i < m 5030 p
    · rw [if_pos z4, if_pos trivial]
      by_cases z2 : m 5018 i < m 5029 p
      · rw [if_pos z2, a_ifn (by rintro (q | q); exact q.2 z4; exact q.1 z2)]
      · rw [if_neg z2]
        by_cases z3 : m 5017 i < m 5030 p
        · rw [if_pos z3, a_ifn (by rintro (q | q); exact q.2 z4; exact q.2 z3)]
        · rw [if_neg z3, a_ifp (Or.inr ⟨z2, z3⟩)]
    · rw [if_neg z4, if_neg (by decide), a_ifp (Or.inl ⟨z1, z4⟩)]
theorem s_lets {c n : Nat → Nat} {m M : q_MM} (h : a_X c n m M) {p i : Nat} (hp : p < c 2) (hi : i < c 0) : f_X0_lets c M (1000 + i) (1300 + p) = some (a_if (a_ps m p i) 1 0) := by
  have g := ((h 7 : a_B7 c n m M).2.2.2.1 p hp).1
  have g2 := (h 2 : a_B2 c n m M).2.2.2.1 i hi
  unfold f_X0_lets b_X0_lets_22 b_X0_lets_44 a_ps
  simp only [w_ck (t_pic h.C hp), w_ck (t_door h.C hi), w_bl0, w_bl1, g.2.1, g.2.2.1, g2.2.2.1, g2.2.2.2.1]
  by_cases z1 : m 5017 i < m 5029 p
  · rw [if_pos z1]
    by_cases z2 : m 5018 i < m 5029 p
    · rw [if_pos z2, a_ifn (by rintro (q | q); exact q.1 z1; exact q.1 z2)]
    · rw [if_neg z2]
      by_cases z3 : m 5017 i < m 5030 p
      · rw [if_pos z3, a_ifn (by rintro (q | q); exact q.1 z1; exact q.2 z3)]
      · rw [if_neg z3, a_ifp (Or.inr ⟨z2, z3⟩)]
  · rw [if_neg z1]
    by_cases z4 : m 5018 i < m 5030 p
    · rw [if_neg (by rw [i_le]; rw [i_lt] at z4; omega)]
      by_cases z2 : m 5018 i < m 5029 p
      · rw [if_pos z2, a_ifn (by rintro (q | q); exact q.2 z4; exact q.1 z2)]
      · rw [if_neg z2]
        by_cases z3 : m 5017 i < m 5030 p
        · rw [if_pos z3, a_ifn (by rintro (q | q); exact q.2 z4; exact q.2 z3)]
        · rw [if_neg z3, a_ifp (Or.inr ⟨z2, z3⟩)]
    · rw [if_pos (by rw [i_le]; rw [i_lt] at z4; omega), a_ifp (Or.inl ⟨z1, z4⟩)]
theorem s_goes {c n : Nat → Nat} {m M : q_MM} (h : a_X c n m M) {p i : Nat} (hp : p < c 2) (hi : i < c 0) (x4 : Int32) : f_X2_goesThrough c M (1300 + p) (nI i) x4 = some (a_if (a_en m p x4 i) 1 0) := by
  have hC := h.C
  have hN : n 0 ≤ 10 := (h 0).1
  have hAB := h.AB hi
  have g2 := (h 2 : a_B2 c n m M).2.2.2.1 i hi
  have s1 := s_isShut h (show a_A m i < 10 by omega)
  have s2 := s_isShut h (show a_Bd m i < 10 by omega)
  unfold f_X2_goesThrough b_X2_goesThrough_55 a_en
  rw [s_getD h hi, Option.bind_some, w_ck (t_door hC hi), if_neg (by omega), g2.1, g2.2.1, hAB.1, hAB.2.1, s1, s2, s_lets h hp hi, Option.bind_some, Option.bind_some, Option.bind_some]
  simp only [w_bl0, w_bl1]
  by_cases z1 : m 5075 (a_A m i) = 1
  · rw [if_pos z1, if_neg (by decide), a_ifn (fun q => q.1 z1)]
  · rw [if_neg z1, if_pos rfl]
    by_cases z2 : m 5075 (a_Bd m i) = 1
    · rw [if_pos z2, if_neg (by decide), a_ifn (fun q => q.2.1 z2)]
    · rw [if_neg z2, if_pos rfl]
      by_cases z3 : nI i = x4
      · rw [if_pos z3, a_ifp ⟨z1, z2, Or.inl z3⟩]
      · rw [if_neg z3]
        by_cases z4 : a_ps m p i
        · rw [a_ifp z4, if_neg (by decide), a_ifp ⟨z1, z2, Or.inr z4⟩]
        · rw [a_ifn z4, if_pos rfl, a_ifn (fun q => q.2.2.elim z3 z4)]
theorem a_X.row19 {c n : Nat → Nat} {m M M' : q_MM} (h : a_X c n m M) (hf : ∀ o, o ≠ 19 → M' o = M o) : a_X c n m M' := h.scr (fun o k => by
  by_cases e : o = 19
  · subst e
    exact Or.inr (Or.inl rfl)
  · rw [hf o e]
    exact Or.inr (Or.inr rfl))
/-- the class' way between two rooms -/
theorem s_between {c n : Nat → Nat} {m M : q_MM} (h : a_X c n m M) {p a b : Nat} (hp : p < c 2) (ha : a < n 0) (hb : b < n 0) (x4 : Int32) : ∃ M' k, f_X2_doorsBetween c M (1300 + p) (nI a) (nI b) x4 = some (nI k, M') ∧ (∀ o, o ≠ 19 → M' o = M o) ∧ k ≤ 99 ∧ ((m 5075 a = 1 ∨ m 5075 b = 1) → k = 99) ∧ ((m 5075 a ≠ 1 ∧ m 5075 b ≠ 1) → a_dst (a_en m p x4) (a_A m) (a_Bd m) (c 0) b a k ∧ ∀ x, x < n 0 → ∃ l, M' 19 x = nI l ∧ a_dst (a_en m p x4) (a_A m) (a_Bd m) (c 0) b x l) := by
  have hN : n 0 ≤ 10 := (h 0).1
  unfold f_X2_doorsBetween
  rw [s_hasRoom1 h ha, Option.bind_some, if_neg (by decide), s_isShut h (by omega), s_isShut h (show b < 10 by omega), Option.bind_some, Option.bind_some]
  by_cases z1 : m 5075 a = 1
  · rw [if_pos z1, if_neg (by decide)]
    exact ⟨M, 99, rfl, fun _ _ => rfl, by omega, fun _ => rfl, fun q => absurd z1 q.1⟩
  · rw [if_neg z1, if_pos rfl]
    by_cases z2 : m 5075 b = 1
    · rw [if_pos z2, if_neg (by decide)]
      exact ⟨M, 99, rfl, fun _ _ => rfl, by omega, fun _ => rfl, fun q => absurd z2 q.2⟩
    · rw [if_neg z2, if_pos rfl]
      obtain ⟨M', e1, e2, e3⟩ := s_measure (x1 := 19) (g := b) (P := a_en m p x4) (x3 := 1300 + p) (x4 := x4) (Or.inr rfl) (by omega) h.Ms (fun M' hf i hi => s_goes (h.row19 hf) hp hi x4)
      have hd : ∀ x, x < n 0 → a_dst (a_en m p x4) (a_A m) (a_Bd m) (c 0) b x (a_rds (a_en m p x4) (a_A m) (a_Bd m) (c 0) (a_f0 b) (n 0 - 1) x) := fun x hx => a_rds_dst (N := n 0) (fun i hi => (h.AB hi).2.2) hb (by omega) (by omega) hx
      rw [e1, Option.bind_some, w_ld (by omega) (by decide), e3 a (by omega)]
      exact ⟨M', _, rfl, e2, a_dst_le (hd a ha), fun q => absurd q (fun q => q.elim z1 z2), fun _ => ⟨hd a ha, fun x hx => ⟨_, e3 x (by omega), hd x hx⟩⟩⟩
theorem s_sp_in {c n : Nat → Nat} {m0 M0 : q_MM} (h0 : a_X c n m0 M0) {p : Nat} (hp : p < c 2) {x3 x4 : Int32} {k50 : Int32 → Int32 → Int32 → q_MM → Option (q_MM)} {f : Nat → Nat} (hf : ∀ x, f x ≤ 99) : ∀ (d i nf : Nat) (m : q_MM), i + d = c 0 → d < nf → (∀ o, o ≠ 5057 → m o = m0 o) → (∀ x, x < n 0 → m 5057 x = nI (a_rd (a_en m0 p x3) (a_A m0) (a_Bd m0) f i x)) → ∃ m', b_X12_spreads_62 k50 nf (nI p) x3 x4 (nI i) m = k50 (nI p) x3 (x4 + 1) m' ∧ (∀ o, o ≠ 5057 → m' o = m0 o) ∧ ∀ x, x < n 0 → m' 5057 x = nI (a_rd (a_en m0 p x3) (a_A m0) (a_Bd m0) f (c 0) x)
  | d, i, 0, _, _, h, _, _ => absurd h (Nat.not_lt_zero _)
  | 0, i, nf + 1, m, hi, _, hfr, hc => by
    have hC := h0.C.1
    have : i = c 0 := by omega
    subst this
    exact ⟨m, by rw [b_X12_spreads_62, hfr 5001 (by decide), (h0 2).2.1, if_pos (nI_le (by omega) (by omega))], hfr, hc⟩
  | d + 1, i, nf + 1, m, hi, hf2, hfr, hc => by
    have hC := h0.C.1
    have hC2 := h0.C.2.2.1
    have hN : n 0 ≤ 10 := (h0 0).1
    obtain ⟨a1, a2, a3, a4⟩ := h0.AB (show i < c 0 by omega)
    have hfi : ∀ x, a_rd (a_en m0 p x3) (a_A m0) (a_Bd m0) f i x ≤ 99 := fun x => by
      have := a_rd_le (P := a_en m0 p x3) (A := a_A m0) (B := a_Bd m0) (f := f) (x := x) 0 i
      rw [Nat.zero_add] at this
      exact Nat.le_trans this (hf x)
    have c1 := a_cell hc hfi (u := a_A m0 i) (v := a_Bd m0 i) a3 a4
    have c2 := a_cell c1 (a_rx1_le2 hfi) (u := a_Bd m0 i) (v := a_A m0 i) a4 a3
    have b1 : m 5015 = m0 5015 := hfr _ (by decide)
    have b2 : m 5016 = m0 5016 := hfr _ (by decide)
    have b3 : m 5075 = m0 5075 := hfr _ (by decide)
    have hps : a_ps m p i = a_ps m0 p i := by
      unfold a_ps
      rw [hfr 5017 (by decide), hfr 5018 (by decide), hfr 5029 (by decide), hfr 5030 (by decide)]
    have sA := (h0 4 : a_B4 c n m0 M0) (a_A m0 i) (by omega)
    have sB := (h0 4 : a_B4 c n m0 M0) (a_Bd m0 i) (by omega)
    have skip : ¬ a_en m0 p x3 i → ∃ m', b_X12_spreads_62 k50 nf (nI p) x3 x4 (nI (i + 1)) m = k50 (nI p) x3 (x4 + 1) m' ∧ (∀ o, o ≠ 5057 → m' o = m0 o) ∧ ∀ x, x < n 0 → m' 5057 x = nI (a_rd (a_en m0 p x3) (a_A m0) (a_Bd m0) f (c 0) x) := by
      intro z
      refine s_sp_in h0 hp hf d (i + 1) nf m (by omega) (by omega) hfr (fun x hx => ?_)
      rw [a_rd_s, a_ifn z]
      exact hc x hx
    have go : (nI i = x3 ∨ a_ps m0 p i) → ∃ m', b_X12_spreads_105 (b_X12_spreads_62 k50 nf) (nI p) x3 x4 (nI i) (nI (a_A m0 i)) (nI (a_Bd m0 i)) m = k50 (nI p) x3 (x4 + 1) m' ∧ (∀ o, o ≠ 5057 → m' o = m0 o) ∧ ∀ x, x < n 0 → m' 5057 x = nI (a_rd (a_en m0 p x3) (a_A m0) (a_Bd m0) f (c 0) x) := by
      intro z
      unfold b_X12_spreads_105 b_X12_spreads_177
      rw [w_ld (by omega) (by decide), b3, nI_1]
      by_cases z1 : m0 5075 (a_A m0 i) = 0
      · rw [if_pos z1, w_ld (by omega) (by decide), b3]
        by_cases z2 : m0 5075 (a_Bd m0 i) = 0
        · have en : a_en m0 p x3 i := ⟨by rw [z1]; decide, by rw [z2]; decide, z⟩
          rw [if_pos z2, w_ld (by omega) (by decide), w_ld (by omega) (by decide), w_as (by omega) (by decide), w_ld (by omega) (by decide), w_ld (by omega) (by decide), w_as (by omega) (by decide)]
          refine s_sp_in h0 hp hf d (i + 1) nf _ (by omega) (by omega) (fun o ho => ?_) (fun x hx => ?_)
          · funext k
            rw [q_u2_ne (fun z => ho z.1), q_u2_ne (fun z => ho z.1), hfr o ho]
          · rw [a_rd_s, a_ifp en]
            exact c2 x hx
        · rw [if_neg z2]
          exact skip (fun q => q.2.1 (sB.1.resolve_left z2))
      · rw [if_neg z1]
        exact skip (fun q => q.1 (sA.1.resolve_left z1))
    rw [b_X12_spreads_62, hfr 5001 (by decide), (h0 2).2.1, if_neg (nI_ge (by omega) (by omega)), w_ld (by omega) (by decide), w_ld (by omega) (by decide), b1, a1, b2, a2, s_passes (by omega) (by omega), Option.bind_some, hps]
    by_cases z : a_ps m0 p i
    · rw [a_ifp z, if_neg (by decide)]
      exact go (Or.inr z)
    · rw [a_ifn z, if_pos rfl]
      by_cases z2 : nI i = x3
      · rw [if_pos z2]
        exact go (Or.inl z2)
      · rw [if_neg z2]
        unfold b_X12_spreads_177
        rw [nI_1]
        exact skip (fun q => q.2.2.elim z2 z)
/-- the model's way: from a room, if it is not shut -/
theorem s_spreads {c n : Nat → Nat} {m0 M0 : q_MM} (h0 : a_X c n m0 M0) {p g : Nat} (hp : p < c 2) (hg : g < n 0) (x3 : Int32) : ∃ m', f_X12_spreads m0 (nI p) (nI g) x3 = some m' ∧ (∀ o, o ≠ 5057 → m' o = m0 o) ∧ (m0 5075 g = 1 → ∀ x, x < n 0 → m' 5057 x = 99) ∧ (m0 5075 g ≠ 1 → ∀ x, x < n 0 → ∃ l, m' 5057 x = nI l ∧ a_dst (a_en m0 p x3) (a_A m0) (a_Bd m0) (c 0) g x l) := by
  have hfu := q_fu_le
  have hC := h0.C.1
  have hN : n 0 ≤ 10 := (h0 0).1
  have sg := (h0 4 : a_B4 c n m0 M0) g (by omega)
  obtain ⟨f, hf⟩ : ∃ f : Nat → Nat, f = if m0 5075 g = 1 then fun _ => 99 else a_f0 g := ⟨_, rfl⟩
  have hf99 : ∀ x, f x ≤ 99 := fun x => by
    rw [hf]
    split
    · exact Nat.le_refl 99
    · exact a_f0_le
  have init : ∀ (d i nf : Nat) (m : q_MM), i + d = n 0 → d < nf → (∀ o, o ≠ 5057 → m o = m0 o) → (∀ x, x < i → m 5057 x = nI (f x)) → ∃ m', b_X12_spreads_3 nf (nI p) (nI g) x3 (nI i) m = b_X12_spreads_50 q_fu (nI p) x3 0 m' ∧ (∀ o, o ≠ 5057 → m' o = m0 o) ∧ ∀ x, x < n 0 → m' 5057 x = nI (f x) := by
    intro d
    induction d with
    | zero =>
      intro i nf m hi hf hfr hc
      obtain ⟨nf, rfl⟩ : ∃ k, nf = k + 1 := ⟨nf - 1, by omega⟩
      have : i = n 0 := by omega
      subst this
      exact ⟨m, by rw [b_X12_spreads_3, hfr 5001 (by decide), (h0 0).2.1, if_pos (nI_le (by omega) (by omega))], hfr, hc⟩
    | succ d ih =>
      intro i nf m hi hfl hfr hc
      obtain ⟨nf, rfl⟩ : ∃ k, nf = k + 1 := ⟨nf - 1, by omega⟩
      have step : ∀ v, v = nI (f i) → ∃ m', b_X12_spreads_40 (b_X12_spreads_3 nf) (nI p) (nI g) x3 (nI i) v (nI i) 5057 m = b_X12_spreads_50 q_fu (nI p) x3 0 m' ∧ (∀ o, o ≠ 5057 → m' o = m0 o) ∧ ∀ x, x < n 0 → m' 5057 x = nI (f x) := by
        intro v hv
        unfold b_X12_spreads_40
        rw [w_ck (show qTM 5057 = 1 from rfl), show qLM 5057 = 10 from rfl, w_as (by omega) (by decide), nI_1]
        refine ih (i + 1) nf _ (by omega) (by omega) (fun o ho => ?_) (fun x hx => ?_)
        · funext k
          rw [q_u2_ne (fun z => ho z.1), hfr o ho]
        · by_cases e : x = i
          · subst e
            rw [q_u2_eq, hv]
          · rw [q_u2_ne (by omega)]
            exact hc x (by omega)
      rw [b_X12_spreads_3, hfr 5001 (by decide), (h0 0).2.1, if_neg (nI_ge (by omega) (by omega))]
      unfold b_X12_spreads_38
      by_cases z : i = g
      · subst z
        rw [if_pos rfl, w_ld (by omega) (by decide), hfr 5075 (by decide)]
        rcases sg.1 with e | e
        · rw [e, if_pos rfl]
          exact step 0 (by rw [hf, if_neg (by rw [e]; decide)]; unfold a_f0; rw [if_pos rfl]; rfl)
        · rw [e, if_neg (by decide)]
          exact step 99 (by rw [hf, if_pos e]; rfl)
      · rw [if_neg (fun q => z (nI_inj (by omega) (by omega) q))]
        refine step 99 ?_
        rw [hf]
        split
        · rfl
        · unfold a_f0
          rw [if_neg z]
          rfl
  have rounds : ∀ (d i nf : Nat) (m : q_MM), i + d = n 0 → d < nf → (∀ o, o ≠ 5057 → m o = m0 o) → (∀ x, x < n 0 → m 5057 x = nI (a_rds (a_en m0 p x3) (a_A m0) (a_Bd m0) (c 0) f i x)) → ∃ m', b_X12_spreads_50 nf (nI p) x3 (nI i) m = some m' ∧ (∀ o, o ≠ 5057 → m' o = m0 o) ∧ ∀ x, x < n 0 → m' 5057 x = nI (a_rds (a_en m0 p x3) (a_A m0) (a_Bd m0) (c 0) f (n 0) x) := by
    intro d
    induction d with
    | zero =>
      intro i nf m hi hf hfr hc
      obtain ⟨nf, rfl⟩ : ∃ k, nf = k + 1 := ⟨nf - 1, by omega⟩
      have : i = n 0 := by omega
      subst this
      exact ⟨m, by rw [b_X12_spreads_50, hfr 5001 (by decide), (h0 0).2.1, if_pos (nI_le (by omega) (by omega))], hfr, hc⟩
    | succ d ih =>
      intro i nf m hi hfl hfr hc
      obtain ⟨nf, rfl⟩ : ∃ k, nf = k + 1 := ⟨nf - 1, by omega⟩
      obtain ⟨m1, e1, e2, e3⟩ := s_sp_in h0 hp (x3 := x3) (x4 := nI i) (k50 := b_X12_spreads_50 nf) (f := a_rds (a_en m0 p x3) (a_A m0) (a_Bd m0) (c 0) f i) (fun x => Nat.le_trans (a_rds_le i) (hf99 x)) (c 0) 0 q_fu m (by omega) (by omega) hfr hc
      rw [b_X12_spreads_50, hfr 5001 (by decide), (h0 0).2.1, if_neg (nI_ge (by omega) (by omega)), show (0 : Int32) = nI 0 from rfl, e1, nI_1]
      exact ih (i + 1) nf m1 (by omega) (by omega) e2 e3
  obtain ⟨m1, e1, e2, e3⟩ := init (n 0) 0 q_fu m0 (by omega) (by omega) (fun _ _ => rfl) (fun x hx => absurd hx (Nat.not_lt_zero _))
  obtain ⟨m2, t1, t2, t3⟩ := rounds (n 0) 0 q_fu m1 (by omega) (by omega) e2 e3
  refine ⟨m2, ?_, t2, fun z x hx => ?_, fun z x hx => ⟨_, t3 x hx, ?_⟩⟩
  · unfold f_X12_spreads
    rw [show (0 : Int32) = nI 0 from rfl, e1]
    exact t1
  · rw [t3 x hx]
    have h99 : ∀ r x, a_rds (a_en m0 p x3) (a_A m0) (a_Bd m0) (c 0) f r x = 99 := by
      have one : ∀ g : Nat → Nat, (∀ x, g x = 99) → ∀ i x, a_rd (a_en m0 p x3) (a_A m0) (a_Bd m0) g i x = 99 := by
        intro g hg i
        induction i with
        | zero => exact hg
        | succ i ih =>
          intro x
          rw [a_rd_s]
          by_cases q : a_en m0 p x3 i
          · rw [a_ifp q]
            unfold a_rx a_rx1
            simp [ih]
          · rw [a_ifn q]
            exact ih x
      intro r
      induction r with
      | zero =>
        intro x
        rw [show a_rds (a_en m0 p x3) (a_A m0) (a_Bd m0) (c 0) f 0 = f from rfl, hf, if_pos z]
      | succ r ih => exact one _ ih (c 0)
    rw [h99]
    rfl
  · rw [hf, if_neg z]
    exact a_rds_dst (N := n 0) (r := n 0) (fun i hi => (h0.AB hi).2.2) hg (by omega) (by omega) hx
theorem a_X.row57 {c n : Nat → Nat} {m m' M : q_MM} (h : a_X c n m M) (hf : ∀ o, o ≠ 5057 → m' o = m o) : a_X c n m' M := h.ag (fun o k h1 _ _ => by
  by_cases e : o = 5057
  · subst e
    exact absurd rfl h1
  · rw [hf o e])
theorem a_shutd {P : Nat → Prop} {A B : Nat → Nat} {K g b : Nat} {sh : Nat → Prop} (hP : ∀ i, i < K → P i → ¬ sh (A i) ∧ ¬ sh (B i)) (hb : sh b) (hgb : g ≠ b) : ∀ j, ¬ a_bl P A B K g j b
  | 0, q => hgb q.symm
  | j + 1, q => by
    rcases q with q | ⟨i, hi, hp, q⟩
    · exact a_shutd hP hb hgb j q
    · rcases q with ⟨e, -⟩ | ⟨e, -⟩
      · exact (hP i hi hp).1 (e ▸ hb)
      · exact (hP i hi hp).2 (e ▸ hb)
/-- class and model have the same number of doors between two rooms -/
theorem s_two {c n : Nat → Nat} {m M : q_MM} (h : a_X c n m M) {p a b : Nat} (hp : p < c 2) (ha : a < n 0) (hb : b < n 0) (x : Int32) : ∃ m' M' k, f_X2_doorsBetween c M (1300 + p) (nI a) (nI b) x = some (nI k, M') ∧ f_X12_spreads m (nI p) (nI a) x = some m' ∧ m' 5057 b = nI k ∧ k ≤ 99 ∧ a_X c n m' M' ∧ (∀ o, o ≠ 5057 → m' o = m o) ∧ (∀ o, o ≠ 19 → M' o = M o) := by
  obtain ⟨M', k, e1, e2, e3, e4, e5⟩ := s_between h hp ha hb x
  obtain ⟨m', t1, t2, t3, t4⟩ := s_spreads h hp ha x
  refine ⟨m', M', k, e1, t1, ?_, e3, (h.row19 e2).row57 t2, t2, e2⟩
  by_cases z1 : m 5075 a = 1
  · rw [t3 z1 b hb, e4 (Or.inl z1)]
    rfl
  · obtain ⟨l, l1, l2⟩ := t4 z1 b hb
    by_cases z2 : m 5075 b = 1
    · rw [l1, e4 (Or.inr z2)]
      have : a ≠ b := fun q => z1 (q ▸ z2)
      have no := a_shutd (P := a_en m p x) (A := a_A m) (B := a_Bd m) (K := c 0) (sh := fun r => m 5075 r = 1) (fun i _ hp => ⟨hp.1, hp.2.1⟩) z2 this
      rcases l2 with ⟨-, q, -⟩ | ⟨q, -⟩
      · exact absurd q (no l)
      · rw [q]
    · rw [l1, a_dst_one (a_dst_sym l2) (e5 ⟨z1, z2⟩).1]
theorem s_bars_loop {c n : Nat → Nat} {p a b : Nat} (hp : p < c 2) (ha : a < n 0) (hb : b < n 0) : ∀ (d i nf nf' : Nat) (m M : q_MM), i + d = c 0 → d < nf → d < nf' → a_X c n m M → a_T c (b_X11_bars_62 c nf (nI a) (nI b) (1300 + p) (nI i) M) (b_X12_bars_55 nf' (nI p) (nI a) (nI b) (nI i) m)
  | d, i, 0, _, _, _, _, h, _, _ => absurd h (Nat.not_lt_zero _)
  | d, i, _ + 1, 0, _, _, _, _, h, _ => absurd h (Nat.not_lt_zero _)
  | 0, i, nf + 1, nf' + 1, m, M, hi, _, _, h => by
    have hC := h.C.1
    have : i = c 0 := by omega
    subst this
    rw [b_X11_bars_62, b_X12_bars_55, s_size rfl, (h 2).2.2.1, Option.bind_some, (h 2).2.1, if_pos (nI_le (by omega) (by omega)), if_pos (nI_le (by omega) (by omega))]
    exact a_T.no h (-1) rfl rfl
  | d + 1, i, nf + 1, nf' + 1, m, M, hi, hf, hf', h => by
    have hC := h.C.1
    have hN : n 0 ≤ 10 := (h 0).1
    obtain ⟨m', M', k, e1, e2, e3, e4, e5, -, -⟩ := s_two h hp ha hb (nI i)
    rw [b_X11_bars_62, b_X12_bars_55, s_size rfl, (h 2).2.2.1, Option.bind_some, (h 2).2.1, if_neg (nI_ge (by omega) (by omega)), if_neg (nI_ge (by omega) (by omega)), e1, e2, Option.bind_some, Option.bind_some, w_ld (by omega) (by decide), e3, nI_1]
    by_cases z : k = 99
    · subst z
      rw [if_pos (show nI 99 = 99 from rfl), if_pos (show (99 : Int32) ≤ nI 99 by decide)]
      exact s_bars_loop hp ha hb d (i + 1) nf nf' m' M' (by omega) (by omega) (by omega) e5
    · rw [if_neg (show ¬ nI k = 99 from fun q => z (nI_inj (by omega) (by decide) (show nI k = nI 99 from q))), if_neg (show ¬ (99 : Int32) ≤ nI k from nI_ge (a := k) (b := 99) (by omega) (by decide))]
      exact a_T.no e5 _ rfl rfl
theorem pub_bars {c n : Nat → Nat} {m M : q_MM} (h : a_X c n m M) (a1 a2 a3 : Int32) : a_T c (f_X11_bars c M a1 a2 a3) (f_X12_bars m a1 a2 a3) := by
  unfold f_X11_bars f_X12_bars
  simp only [w_let]
  replace h := h.t0
  generalize q_u2 m 5001 0 0 = m at h ⊢
  have hfu := q_fu_le
  have hC := h.C.1
  have hN : n 0 ≤ 10 := (h 0).1
  by_cases z1 : a_lt a1 (c 2)
  · obtain ⟨p, hp, rfl⟩ := z1
    rw [s_picAt1 h hp, h.isPicture1 hp, Option.bind_some, Option.bind_some, if_neg (by omega), if_neg (show ¬ (1 : Int32) = 0 by decide)]
    by_cases z2 : a_lt a2 (n 0)
    · obtain ⟨a, ha, rfl⟩ := z2
      rw [s_hasRoom1 h ha, h.isRoom1 ha, Option.bind_some, Option.bind_some, if_neg (show ¬ (1 : Int32) = 0 by decide), if_neg (show ¬ (1 : Int32) = 0 by decide)]
      by_cases z3 : a_lt a3 (n 0)
      · obtain ⟨b, hb, rfl⟩ := z3
        obtain ⟨m', M', k, e1, e2, e3, e4, e5, -, -⟩ := s_two h hp ha hb (-1)
        rw [s_hasRoom1 h hb, h.isRoom1 hb, Option.bind_some, Option.bind_some, if_neg (show ¬ (1 : Int32) = 0 by decide), if_neg (show ¬ (1 : Int32) = 0 by decide), e1, e2, Option.bind_some, Option.bind_some, w_ld (by omega) (by decide), e3]
        by_cases z : k = 99
        · subst z
          rw [if_pos (show nI 99 = 99 from rfl), if_pos (show (99 : Int32) ≤ nI 99 by decide)]
          exact s_bars_loop hp ha hb (c 0) 0 q_fu q_fu m' M' (by omega) (by omega) (by omega) e5
        · rw [if_neg (show ¬ nI k = 99 from fun q => z (nI_inj (by omega) (by decide) (show nI k = nI 99 from q))), if_neg (show ¬ (99 : Int32) ≤ nI k from nI_ge (a := k) (b := 99) (by omega) (by decide))]
          exact a_T.no e5 (-2) rfl rfl
      · rw [s_hasRoom0 h z3, h.isRoom0 z3, Option.bind_some, Option.bind_some, if_pos rfl, if_pos rfl]
        exact a_T.no h (-1) rfl rfl
    · rw [s_hasRoom0 h z2, h.isRoom0 z2, Option.bind_some, Option.bind_some, if_pos rfl, if_pos rfl]
      exact a_T.no h (-1) rfl rfl
  · rw [s_picAt0 h z1, h.isPicture0 z1, Option.bind_some, Option.bind_some, if_pos rfl, if_pos rfl]
    exact a_T.no h (-1) rfl rfl
