/-! places: the least x that fits is 0 or just behind a picture -/
theorem a_w40 {c : Nat → Nat} {m : q_MM} {p w : Nat} {x : Int32} : a_w4 c m p w x = 0 ↔ (0 ≤ x.toInt ∧ x.toInt + (m 5029 p).toInt ≤ (m 5021 w).toInt) ∧ a_hi m p w ∧ ¬ a_bd m p (nI w) x (c 2) ∧ m 5031 p + a_ws (m 5031) m (nI w) (nI p) (c 2) ≤ m 5023 w := by
  unfold a_w4
  by_cases z1 : x.toInt < 0 ∨ (m 5021 w).toInt < x.toInt + (m 5029 p).toInt
  · rw [a_ifp z1]
    exact ⟨fun q => absurd q (by decide), fun q => by have := q.1; omega⟩
  · rw [a_ifn z1]
    by_cases z2 : a_hi m p w
    · rw [a_ifn (fun q => q z2)]
      by_cases z3 : a_bd m p (nI w) x (c 2)
      · rw [a_ifp z3]
        exact ⟨fun q => absurd q (by decide), fun q => absurd z3 q.2.2.1⟩
      · rw [a_ifn z3]
        by_cases z4 : m 5031 p + a_ws (m 5031) m (nI w) (nI p) (c 2) ≤ m 5023 w
        · rw [if_pos z4]
          exact ⟨fun _ => ⟨by omega, z2, z3, z4⟩, fun _ => rfl⟩
        · rw [if_neg z4]
          exact ⟨fun q => absurd q (by decide), fun q => absurd q.2.2.2 z4⟩
    · rw [a_ifp z2]
      exact ⟨fun q => absurd q (by decide), fun q => absurd q.2.1 z2⟩
theorem a_lf_x {W X : Nat → Int32} {w x x' aside : Int32} : ∀ {N : Nat}, (∀ i, i < N → nI i ≠ aside → W i = w → (X i ≤ x ↔ X i ≤ x')) → a_lf W X w x aside N = a_lf W X w x' aside N
  | 0, _ => rfl
  | i + 1, h => by
    rw [a_lf_s, a_lf_s, a_lf_x (x' := x') (N := i) (fun j hj => h j (by omega))]
    by_cases z : nI i ≠ aside ∧ W i = w
    · have e := propext (h i (by omega) z.1 z.2)
      simp only [e]
    · rw [if_neg (fun q => z ⟨q.1, q.2.1⟩), if_neg (fun q => z ⟨q.1, q.2.1⟩)]
theorem a_rt_x {W X : Nat → Int32} {w x x' aside : Int32} : ∀ {N : Nat}, (∀ i, i < N → nI i ≠ aside → W i = w → (x < X i ↔ x' < X i)) → a_rt W X w x aside N = a_rt W X w x' aside N
  | 0, _ => rfl
  | i + 1, h => by
    rw [a_rt_s, a_rt_s, a_rt_x (x' := x') (N := i) (fun j hj => h j (by omega))]
    by_cases z : nI i ≠ aside ∧ W i = w
    · have e := propext (h i (by omega) z.1 z.2)
      simp only [e]
    · rw [if_neg (fun q => z ⟨q.1, q.2.1⟩), if_neg (fun q => z ⟨q.1, q.2.1⟩)]
/-- what a place answers, however the scratch cells stand -/
theorem s_unfitR {c n : Nat → Nat} {m0 M0 : q_MM} (h : a_X c n m0 M0) {p w : Nat} (hp : p < c 2) (hw : w < c 1) : ∃ R : Int32 → Int32, ∀ m M, a_sx M0 M → a_sm m0 m → ∀ x, ∃ m' M', f_X9_unfit c M 21 (1300 + p) (1100 + w) x = some (R x, M') ∧ f_X12_wrong m (nI p) (nI w) x 6 = some (R x, m') ∧ (R x = 0 → a_w4 c m0 p w x = 0) ∧ a_sx M M' ∧ a_sm m m' := by
  refine ⟨fun x => Classical.choose (s_unfit h a_t8.rf (o := 21) (a := 61) (b := 63) (by decide) h.H h.V hp hw x), fun m M hM hm x => ?_⟩
  obtain ⟨mA, MA, b1, b2, b3, -, -⟩ := Classical.choose_spec (s_unfit h a_t8.rf (o := 21) (a := 61) (b := 63) (by decide) h.H h.V hp hw x)
  have h1 : a_X c n m M0 := h.sx (fun _ _ _ _ => rfl) hm
  have h2 : a_X c n m M := h.sx hM hm
  obtain ⟨r1, m1, M1, c1, c2, -, -, -⟩ := s_unfit h1 a_t8.rf (o := 21) (a := 61) (b := 63) (by decide) h1.H h1.V hp hw x
  obtain ⟨r2, m2, M2, d1, d2, -, d4, d5⟩ := s_unfit h2 a_t8.rf (o := 21) (a := 61) (b := 63) (by decide) h2.H h2.V hp hw x
  have e1 := congrArg Prod.fst (Option.some.inj (c1.symm.trans b1))
  dsimp only at e1
  have e2 : r2 = r1 := congrArg Prod.fst (Option.some.inj (d2.symm.trans c2))
  rw [e2, e1] at d1 d2
  exact ⟨m2, M2, d1, d2, b3, d4, d5⟩
theorem s_wrong_same {c n : Nat → Nat} {m M : q_MM} (h : a_X c n m M) {p w : Nat} (hp : p < c 2) (hw : w < c 1) {x x' : Int32} (h1 : a_w4 c m p w x = 0) (h2 : a_w4 c m p w x' = 0) (hl : a_left c m (nI w) x (nI p) = a_left c m (nI w) x' (nI p)) (hr : a_right c m (nI w) x (nI p) = a_right c m (nI w) x' (nI p)) : f_X12_wrong m (nI p) (nI w) x 6 = f_X12_wrong m (nI p) (nI w) x' 6 := by
  have hfu := q_fu_le
  have hC := h.C
  have hC1 := hC.2.1
  have hC2 := hC.2.2.1
  have hb : f_X12_barring m (nI p) (nI w) x = f_X12_barring m (nI p) (nI w) x' := by
    unfold f_X12_barring
    rw [s_besideL (c := c) h.Y.N hC2 (by omega), s_besideL (c := c) h.Y.N hC2 (by omega), s_besideR (c := c) h.Y.N hC2 (by omega), s_besideR (c := c) h.Y.N hC2 (by omega), hl, hr]
  rw [s_wrong (c := c) h.Y.N hC2 (by omega) (by omega), s_wrong (c := c) h.Y.N hC2 (by omega) (by omega), if_pos h1, if_pos h2, show (0 : Int32) = nI 0 from rfl, s_foesM_loop h.Y h.V hp hw x (c 2) 0 q_fu (by omega) (by omega) (fun j hj => absurd hj (Nat.not_lt_zero _)), s_foesM_loop h.Y h.V hp hw x' (c 2) 0 q_fu (by omega) (by omega) (fun j hj => absurd hj (Nat.not_lt_zero _))]
  unfold b_X12_wrong_131
  rw [hb]
/-- the places worth a look -/
def a_pX (m : q_MM) (i : Nat) : Nat := (m 5042 i + m 5029 i + m 5027 1).toNatClampNeg
def a_pC (m : q_MM) (p w N v : Nat) : Prop := v = 0 ∨ ∃ i, i < N ∧ i ≠ p ∧ a_W m i = nI w ∧ v = a_pX m i
theorem a_pX_eq {c n : Nat → Nat} {m M : q_MM} (h : a_X c n m M) {i w : Nat} (hi : i < c 2) (hw : w < 100) (hW : a_W m i = nI w) : m 5042 i + m 5029 i + m 5027 1 = nI (a_pX m i) ∧ (m 5042 i).toInt + (m 5029 i).toInt + (m 5027 1).toInt = a_pX m i ∧ a_pX m i ≤ 4000 ∧ 0 ≤ (m 5042 i).toInt ∧ 10 ≤ (m 5029 i).toInt := by
  have g8 := ((h 8 : a_B8 c n m M).2.1 i hi).2.2.2.2.1 ((a_W_w hw).mp hW).1
  have g7 := ((h 7 : a_B7 c n m M).2.2.2.1 i hi).2.1
  have g6 := (h 6 : a_B6 c n m M).2.2.1
  have g1 := g8.2
  unfold a_rg at *
  have e1 : (m 5042 i + m 5029 i).toInt = (m 5042 i).toInt + (m 5029 i).toInt := fb_addI (by omega) (by omega)
  have e2 : (m 5042 i + m 5029 i + m 5027 1).toInt = (m 5042 i).toInt + (m 5029 i).toInt + (m 5027 1).toInt := by rw [fb_addI (by omega) (by omega), e1]
  obtain ⟨k, hk, ek⟩ := nI_of (x := m 5042 i + m 5029 i + m 5027 1) (by rw [i_lt, e2, show (0 : Int32).toInt = 0 from rfl]; omega)
  have e3 : a_pX m i = k := by unfold a_pX; rw [ek, nI_clamp hk]
  have e4 := congrArg Int32.toInt ek
  rw [e2, nI_toInt hk] at e4
  rw [e3]
  exact ⟨ek, by omega, by omega, by omega, by omega⟩
theorem s_placeC {c n : Nat → Nat} {m M : q_MM} (h : a_X c n m M) {p w : Nat} (hp : p < c 2) (hw : w < c 1) {R : Int32 → Int32} (hR : ∀ x, ∃ m', f_X12_wrong m (nI p) (nI w) x 6 = some (R x, m') ∧ (R x = 0 → a_w4 c m p w x = 0)) {v : Nat} (hv : v < 100000) (hz : R (nI v) = 0) (hmin : ∀ u, u < v → R (nI u) ≠ 0) : a_pC m p w (c 2) v := by
  have hC := h.C
  have hC1 := hC.2.1
  have hC2 := hC.2.2.1
  cases v with
  | zero => exact Or.inl rfl
  | succ v =>
    apply Classical.byContradiction
    intro hn
    have n1 : ∀ i, i < c 2 → i ≠ p → a_W m i = nI w → v + 1 ≠ a_pX m i := fun i a b d e => hn (Or.inr ⟨i, a, b, d, e⟩)
    obtain ⟨m1, b1, b2⟩ := hR (nI (v + 1))
    obtain ⟨⟨w1, w2⟩, w3, w4, w5⟩ := a_w40.mp (b2 hz)
    have t1 : (nI (v + 1)).toInt = v + 1 := by rw [nI_toInt (by omega)]; omega
    have t0 : (nI v).toInt = v := nI_toInt (by omega)
    rw [t1] at w1 w2
    -- where the others hang
    have far : ∀ i, i < c 2 → i ≠ p → a_W m i = nI w → (m 5042 i).toInt + (m 5029 i).toInt + (m 5027 1).toInt ≤ v ∨ (v : Int) + 1 + (m 5029 p).toInt + (m 5027 1).toInt ≤ (m 5042 i).toInt := fun i a b d => by
      have g := a_pX_eq h a (show w < 100 by omega) d
      have nb : ¬ a_bad m p (nI w) (nI (v + 1)) i := fun q => w4 ⟨i, a, q⟩
      have cl : a_cl m p i (nI (v + 1)) := Classical.byContradiction fun q => nb ⟨b, d, q⟩
      unfold a_cl at cl
      rw [t1] at cl
      have := n1 i a b d
      omega
    have z4 : a_w4 c m p w (nI v) = 0 := by
      refine a_w40.mpr ⟨by rw [t0]; omega, w3, ?_, w5⟩
      rintro ⟨i, a, b, d, e⟩
      apply e
      unfold a_cl
      rw [t0]
      have := far i a b d
      omega
    have g6 := (h 6 : a_B6 c n m M).2.2.1
    have g7 := ((h 7 : a_B7 c n m M).2.2.2.1 p hp).2.1.1
    unfold a_rg at g6 g7
    have sep : ∀ i, i < c 2 → nI i ≠ nI p → a_W m i = nI w → (m 5042 i).toInt ≠ v + 1 := fun i a b d => by
      have g := a_pX_eq h a (show w < 100 by omega) d
      have := far i a (fun q => b (by rw [q])) d
      omega
    have hl : a_left c m (nI w) (nI (v + 1)) (nI p) = a_left c m (nI w) (nI v) (nI p) := a_lf_x (fun i a b d => by
      rw [i_le, i_le, t1, t0]
      have := sep i a b d
      omega)
    have hr : a_right c m (nI w) (nI (v + 1)) (nI p) = a_right c m (nI w) (nI v) (nI p) := a_rt_x (fun i a b d => by
      rw [i_lt, i_lt, t1, t0]
      have := sep i a b d
      omega)
    have same := s_wrong_same h hp hw (b2 hz) z4 hl hr
    obtain ⟨m2, c1, -⟩ := hR (nI v)
    rw [b1, c1] at same
    have := congrArg Prod.fst (Option.some.inj same)
    exact hmin v (Nat.lt_succ_self v) (this.symm.trans hz)
/-- the least so far -/
def a_pm (m : q_MM) (p w N : Nat) (R : Int32 → Int32) (l : Int32) : Prop := (l = -1 ∧ ∀ v, a_pC m p w N v → R (nI v) ≠ 0) ∨ ∃ v, l = nI v ∧ v ≤ 4000 ∧ a_pC m p w N v ∧ R (nI v) = 0 ∧ ∀ u, a_pC m p w N u → R (nI u) = 0 → v ≤ u
theorem s_leastPlace_loop {c n : Nat → Nat} {m M0 : q_MM} (h : a_X c n m M0) {p w : Nat} (hp : p < c 2) (hw : w < c 1) {R : Int32 → Int32} (hR : ∀ M, a_sx M0 M → ∀ x, ∃ M', f_X9_unfit c M 21 (1300 + p) (1100 + w) x = some (R x, M') ∧ a_sx M M') : ∀ (d i nf : Nat) (l : Int32) (M : q_MM), i + d = c 2 → d < nf → a_sx M0 M → a_pm m p w i R l → ∃ l' M', b_X11_leastPlace_29 c nf (1300 + p) (1100 + w) l (nI i) M = some (l', M') ∧ a_sx M0 M' ∧ a_pm m p w (c 2) R l'
  | d, i, 0, _, _, _, h, _, _ => absurd h (Nat.not_lt_zero _)
  | 0, i, nf + 1, l, M, hi, _, hM, hl => by
    have hC2 := h.C.2.2.1
    have : i = c 2 := by omega
    subst this
    have hN : M 15 2 = nI (c 2) := by rw [hM 15 (by decide) (by decide) (by decide)]; exact h.K.2.2
    refine ⟨l, M, ?_, hM, hl⟩
    rw [b_X11_leastPlace_29, s_size rfl, hN, Option.bind_some, if_pos (nI_le (by omega) (by omega))]
    rfl
  | d + 1, i, nf + 1, l, M, hi, hf, hM, hl => by
    have hC := h.C
    have hC1 := hC.2.1
    have hC2 := hC.2.2.1
    have hi2 : i < c 2 := by omega
    have trans : ∀ {M1 M2 : q_MM}, a_sx M0 M1 → a_sx M1 M2 → a_sx M0 M2 := fun a b o o1 o2 o3 => (b o o1 o2 o3).trans (a o o1 o2 o3)
    have hX : a_X c n m M := h.sx hM (fun _ _ _ _ _ _ => rfl)
    have hN : M 15 2 = nI (c 2) := hX.K.2.2
    have eP : M (1300 + p) 0 = nI p := ((hX 7 : a_B7 c n m M).2.2.2.1 p hp).1.1
    have eW : M (1100 + w) 0 = nI w := ((hX 5 : a_B5 c n m M).2.2.2.1 w hw).1.1
    have e1 : M (1300 + i) 1 = m 5029 i := ((hX 7 : a_B7 c n m M).2.2.2.1 i hi2).1.2.1
    have e16 : M 16 1 = m 5027 1 := (hX 6 : a_B6 c n m M).1 1 (by decide)
    have hH := hX.H.1 i hi2
    rw [b_X11_leastPlace_29, s_size rfl, hN, Option.bind_some, if_neg (nI_ge (by omega) (by omega))]
    unfold b_X11_leastPlace_163 b_X11_leastPlace_157
    by_cases z0 : l = 0
    · rw [if_pos z0]
      refine ⟨l, M, rfl, hM, ?_⟩
      rcases hl with ⟨e, -⟩ | ⟨v, e, -, e2, e3, -⟩
      · rw [z0] at e
        exact absurd e (by decide)
      · have : v = 0 := by
          rw [z0] at e
          rcases e2 with q | ⟨i', -, -, -, q⟩
          · exact q
          · rcases Nat.lt_or_ge v (2 ^ 31) with q2 | q2
            · exact (nI_inj (i := 0) (j := v) (by decide) q2 e).symm
            · have : a_pX m i' < 2 ^ 31 := by
                unfold a_pX
                exact Int32.toNatClampNeg_lt _
              omega
        subst this
        exact Or.inr ⟨0, e, by omega, Or.inl rfl, e3, fun u _ _ => Nat.zero_le u⟩
    · rw [if_neg z0, w_ck (t_pic hC hp), eP]
      have skip : ¬ (i ≠ p ∧ a_W m i = nI w) → ∃ l' M', b_X11_leastPlace_29 c nf (1300 + p) (1100 + w) l (nI i + 1) M = some (l', M') ∧ a_sx M0 M' ∧ a_pm m p w (c 2) R l' := fun q => by
        rw [nI_1]
        have hc : ∀ v, a_pC m p w (i + 1) v ↔ a_pC m p w i v := fun v => by
          constructor
          · rintro (e | ⟨j, hj, h1, h2, h3⟩)
            · exact Or.inl e
            · by_cases e : j = i
              · subst e
                exact absurd ⟨h1, h2⟩ q
              · exact Or.inr ⟨j, by omega, h1, h2, h3⟩
          · rintro (e | ⟨j, hj, h1⟩)
            · exact Or.inl e
            · exact Or.inr ⟨j, by omega, h1⟩
        refine s_leastPlace_loop h hp hw hR d (i + 1) nf l M (by omega) (by omega) hM ?_
        rcases hl with ⟨e, g⟩ | ⟨v, e, g0, g1, g2, g3⟩
        · exact Or.inl ⟨e, fun v hv => g v ((hc v).mp hv)⟩
        · exact Or.inr ⟨v, e, g0, (hc v).mpr g1, g2, fun u hu => g3 u ((hc u).mp hu)⟩
      by_cases z1 : i = p
      · rw [if_pos (by rw [z1])]
        exact skip (fun q => q.1 z1)
      · rw [if_neg (fun q => z1 (nI_inj (by omega) (by omega) q)), s_wallUnder (a := 61) (b := 63) (by decide) (by omega), Option.bind_some, w_ck (t_wall hC hw), eW, hH.1]
        by_cases z2 : a_W m i = nI w
        · have g := a_pX_eq h hi2 (show w < 100 by omega) z2
          rw [if_pos z2, s_leftSide (a := 61) (b := 63) (by decide) (by omega), Option.bind_some, s_getP hX hi2, Option.bind_some, w_ck (t_pic hC hi2), w_ld1, w_let, hH.2, e1, e16, g.1]
          have hc : ∀ v, a_pC m p w (i + 1) v ↔ a_pC m p w i v ∨ v = a_pX m i := fun v => by
            constructor
            · rintro (e | ⟨j, hj, h1, h2, h3⟩)
              · exact Or.inl (Or.inl e)
              · by_cases e : j = i
                · subst e
                  exact Or.inr h3
                · exact Or.inl (Or.inr ⟨j, by omega, h1, h2, h3⟩)
            · rintro ((e | ⟨j, hj, h1⟩) | e)
              · exact Or.inl e
              · exact Or.inr ⟨j, by omega, h1⟩
              · exact Or.inr ⟨i, by omega, z1, z2, e⟩
          have look : (l = -1 ∨ ∃ v, l = nI v ∧ v ≤ 4000 ∧ a_pX m i < v) → ∃ l' M', b_X11_leastPlace_133 c (b_X11_leastPlace_29 c nf) (1300 + p) (1100 + w) l (nI i) (nI (a_pX m i)) M = some (l', M') ∧ a_sx M0 M' ∧ a_pm m p w (c 2) R l' := fun hlt => by
            obtain ⟨M1, u1, u2⟩ := hR M hM (nI (a_pX m i))
            unfold b_X11_leastPlace_133 b_X11_leastPlace_157
            rw [u1, Option.bind_some, nI_1]
            dsimp only
            by_cases z3 : R (nI (a_pX m i)) = 0
            · rw [if_pos z3]
              refine s_leastPlace_loop h hp hw hR d (i + 1) nf _ M1 (by omega) (by omega) (trans hM u2) (Or.inr ⟨a_pX m i, rfl, g.2.2.1, (hc _).mpr (Or.inr rfl), z3, fun u hu hz => ?_⟩)
              rcases (hc u).mp hu with q | q
              · rcases hl with ⟨e, k⟩ | ⟨v, e, g0, g1, g2, g3⟩
                · exact absurd hz (k u q)
                · have := g3 u q hz
                  rcases hlt with q2 | ⟨v', q2, q5, q3⟩
                  · rw [q2] at e
                    exact absurd e.symm (nI_neg1 (by omega))
                  · have := nI_inj (by omega) (by omega) (e.symm.trans q2)
                    omega
              · omega
            · rw [if_neg z3]
              refine s_leastPlace_loop h hp hw hR d (i + 1) nf _ M1 (by omega) (by omega) (trans hM u2) ?_
              rcases hl with ⟨e, k⟩ | ⟨v, e, g0, g1, g2, g3⟩
              · refine Or.inl ⟨e, fun v hv => ?_⟩
                rcases (hc v).mp hv with q | q
                · exact k v q
                · rw [q]; exact z3
              · refine Or.inr ⟨v, e, g0, (hc v).mpr (Or.inl g1), g2, fun u hu hz => ?_⟩
                rcases (hc u).mp hu with q | q
                · exact g3 u q hz
                · rw [q] at hz
                  exact absurd hz z3
          rcases id hl with ⟨e, k⟩ | ⟨v, e, g0, g1, g2, g3⟩
          · rw [if_pos e]
            exact look (Or.inl e)
          · rw [if_neg (by rw [e]; exact nI_neg1 (by omega))]
            by_cases z3 : v ≤ a_pX m i
            · rw [if_pos (by rw [e]; exact nI_le z3 (by omega)), nI_1]
              refine s_leastPlace_loop h hp hw hR d (i + 1) nf l M (by omega) (by omega) hM (Or.inr ⟨v, e, g0, (hc v).mpr (Or.inl g1), g2, fun u hu hz => ?_⟩)
              rcases (hc u).mp hu with q | q
              · exact g3 u q hz
              · omega
            · rw [if_neg (by rw [e]; exact nI_ge (by omega) (by omega))]
              exact look (Or.inr ⟨v, e, g0, by omega⟩)
        · rw [if_neg z2]
          exact skip (fun q => z2 q.2)
theorem s_leastPlace {c n : Nat → Nat} {m M0 : q_MM} (h : a_X c n m M0) {p w : Nat} (hp : p < c 2) (hw : w < c 1) {R : Int32 → Int32} (hR : ∀ M, a_sx M0 M → ∀ x, ∃ M', f_X9_unfit c M 21 (1300 + p) (1100 + w) x = some (R x, M') ∧ a_sx M M') : ∃ l' M', f_X11_leastPlace c M0 (1300 + p) (1100 + w) = some (l', M') ∧ a_sx M0 M' ∧ a_pm m p w (c 2) R l' := by
  have hfu := q_fu_le
  have hC2 := h.C.2.2.1
  obtain ⟨M1, u1, u2⟩ := hR M0 (fun _ _ _ _ => rfl) 0
  unfold f_X11_leastPlace b_X11_leastPlace_25
  rw [u1, Option.bind_some]
  dsimp only
  have c0 : ∀ v, a_pC m p w 0 v ↔ v = 0 := fun v => by
    constructor
    · rintro (e | ⟨j, hj, -⟩)
      · exact e
      · omega
    · exact Or.inl
  by_cases z : R 0 = 0
  · rw [if_pos z]
    exact s_leastPlace_loop h hp hw hR (c 2) 0 q_fu 0 M1 (by omega) (by omega) u2 (Or.inr ⟨0, rfl, by omega, Or.inl rfl, z, fun u _ _ => Nat.zero_le u⟩)
  · rw [if_neg z]
    exact s_leastPlace_loop h hp hw hR (c 2) 0 q_fu (-1) M1 (by omega) (by omega) u2 (Or.inl ⟨rfl, fun v hv => by rw [(c0 v).mp hv]; exact z⟩)
/-- the model's search -/
theorem s_search {m0 : q_MM} {p w L : Nat} {R : Int32 → Int32} {k22 : Int32 → Int32 → q_MM → Option (Int32 × q_MM)} (hw : w < 16) (hL : m0 5021 w = nI L) (hL2 : L ≤ 3000) (hR : ∀ m, a_sm m0 m → ∀ x, ∃ m', f_X12_wrong m (nI p) (nI w) x 6 = some (R x, m') ∧ a_sm m m') : ∀ (d x nf : Nat) (m : q_MM), x + d = L + 1 → d < nf → a_sm m0 m → (∀ v, v < x → R (nI v) ≠ 0) → ∃ m', a_sm m0 m' ∧ (((∀ v, v ≤ L → R (nI v) ≠ 0) ∧ b_X12_places_32 k22 nf (nI p) (nI w) (nI x) m = k22 (nI p) (nI (w + 1)) m') ∨ ∃ v, v ≤ L ∧ R (nI v) = 0 ∧ (∀ u, u < v → R (nI u) ≠ 0) ∧ b_X12_places_32 k22 nf (nI p) (nI w) (nI x) m = (f_X12_enters m' (nI w)).bind fun r3 => (f_X12_enters r3 (nI v)).bind fun r4 => k22 (nI p) (nI (w + 1)) r4)
  | d, x, 0, _, _, h, _, _ => absurd h (Nat.not_lt_zero _)
  | 0, x, nf + 1, m, hi, _, hm, hlow => by
    have e5 : m 5021 w = nI L := (hm 5021 w (by decide) (by decide) (by decide) (by omega)).trans hL
    refine ⟨m, hm, Or.inl ⟨fun v hv => hlow v (by omega), ?_⟩⟩
    rw [b_X12_places_32, w_ld hw (by decide), e5, if_pos (nI_lt (by omega) (by omega))]
    unfold b_X12_places_60 b_X12_places_80
    rw [w_ld hw (by decide), e5, if_pos (nI_lt (by omega) (by omega)), nI_1]
  | d + 1, x, nf + 1, m, hi, hf, hm, hlow => by
    have e5 : m 5021 w = nI L := (hm 5021 w (by decide) (by decide) (by decide) (by omega)).trans hL
    obtain ⟨m1, u1, u2⟩ := hR m hm (nI x)
    have hm1 : a_sm m0 m1 := fun o k a b d e => (u2 o k a b d e).trans (hm o k a b d e)
    have e51 : m1 5021 w = nI L := (hm1 5021 w (by decide) (by decide) (by decide) (by omega)).trans hL
    rw [b_X12_places_32, w_ld hw (by decide), e5, if_neg (nI_nlt (by omega) (by omega)), u1, Option.bind_some]
    dsimp only
    by_cases z : R (nI x) = 0
    · rw [if_pos z]
      refine ⟨m1, hm1, Or.inr ⟨x, by omega, z, hlow, ?_⟩⟩
      unfold b_X12_places_60 b_X12_places_80
      rw [w_ld hw (by decide), e51, if_neg (nI_nlt (by omega) (by omega)), nI_1]
    · rw [if_neg z, nI_1]
      exact s_search hw hL hL2 hR d (x + 1) nf m1 (by omega) (by omega) hm1 (fun v hv => by
        by_cases e : v = x
        · rw [e]; exact z
        · exact hlow v (by omega))
theorem a_X.row12 {c n : Nat → Nat} {m M : q_MM} (h : a_X c n m M) {e : Nat} (he : M 6 1 = nI e) (he2 : e < 32) (v : Int32) : a_X c n (q_u2 (q_u2 m 5012 e v) 5001 1 (nI (e + 1))) (q_u2 (q_u2 M 56 e v) 6 1 (nI (e + 1))) ∧ m 5001 1 = nI e := by
  have h12 : a_B12 c n m M := h 12
  have em : m 5001 1 = nI e := by
    obtain ⟨k, k1, k2, k3, -⟩ := h12
    have : k = e := nI_inj (by omega) (by omega) (k2.symm.trans he)
    rw [k3, this]
  refine ⟨h.wr [12] (a_wM.s1 (a_wM.s1 a_wM.rf rfl) rfl) (a_wS.s1 (a_wS.s1 a_wS.rf rfl) rfl) (a_one ?_), em⟩
  exact a_row.push (M := M) (m := m) (o := 6) (r := 56) (o2 := 5001) (k2 := 1) (r2 := 5012) h12 he he2 (by decide) (by decide) (by decide) trivial
theorem s_places_loop {c n : Nat → Nat} {p : Nat} (hp : p < c 2) : ∀ (d i nf nf' e : Nat) (m M : q_MM), i + d = c 1 → d < nf → d < nf' → a_X c n m M → M 6 1 = nI e → e ≤ 2 * i → ∃ m' M' r, b_X11_places_24 c nf (1300 + p) (nI i) M = some (r, M') ∧ b_X12_places_22 nf' (nI p) (nI i) m = some (r, m') ∧ a_X c n m' M'
  | d, i, 0, _, _, _, _, _, h, _, _, _, _ => absurd h (Nat.not_lt_zero _)
  | d, i, _ + 1, 0, _, _, _, _, _, h, _, _, _ => absurd h (Nat.not_lt_zero _)
  | 0, i, nf + 1, nf' + 1, e, m, M, hi, _, _, h, he, he2 => by
    have hC1 := h.C.2.1
    have : i = c 1 := by omega
    subst this
    have em : m 5001 1 = nI e := by
      obtain ⟨k, k1, k2, k3, -⟩ := (h 12 : a_B12 c n m M)
      have : k = e := nI_inj (by omega) (by omega) (k2.symm.trans he)
      rw [k3, this]
    refine ⟨m, M, nI e / 2, ?_, ?_, h⟩
    · rw [b_X11_places_24, s_size rfl, h.K.2.1, Option.bind_some, if_pos (nI_le (by omega) (by omega)), if_neg (show ¬ (2 : Int32) = 0 by decide), he]
    · rw [b_X12_places_22, (h 5).2.1, if_pos (nI_le (by omega) (by omega)), if_neg (show ¬ (2 : Int32) = 0 by decide), em]
  | d + 1, i, nf + 1, nf' + 1, e, m, M, hi, hf, hf', h, he, he2 => by
    have hfu := q_fu_le
    have hC := h.C
    have hC1 := hC.2.1
    have hic : i < c 1 := by omega
    obtain ⟨R, hR⟩ := s_unfitR h hp hic
    have rfX : a_sx M M := fun _ _ _ _ => rfl
    have rfM : a_sm m m := fun _ _ _ _ _ _ => rfl
    obtain ⟨l, M1, x1, x2, x3⟩ := s_leastPlace h hp hic (R := R) (fun M' hM' x => by
      obtain ⟨a, b, g1, -, -, g4, -⟩ := hR m M' hM' rfM x
      exact ⟨b, g1, g4⟩)
    obtain ⟨⟨L, hL, eL⟩, -⟩ : a_lt (m 5021 i) 3001 ∧ True := ⟨(a_lt_i (by decide)).mpr (by have := ((h 5 : a_B5 c n m M).2.2.2.1 i hic).2.2.1; unfold a_rg at this; omega), trivial⟩
    obtain ⟨m1, y1, y2⟩ := s_search (p := p) (w := i) (L := L) (R := R) (k22 := b_X12_places_22 nf') (show i < 16 by omega) eL (by omega) (fun m' hm' x => by
      obtain ⟨a, b, -, g2, -, -, g5⟩ := hR m' M rfX hm' x
      exact ⟨a, g2, g5⟩) (L + 1) 0 q_fu m (by omega) (by omega) rfM (fun v hv => absurd hv (Nat.not_lt_zero _))
    have hmin : ∀ v, v ≤ L → R (nI v) = 0 → (∀ u, u < v → R (nI u) ≠ 0) → a_pC m p i (c 2) v := fun v hv hz hl => s_placeC h hp hic (R := R) (fun x => by
      obtain ⟨a, b, -, g2, g3, -, -⟩ := hR m M rfX rfM x
      exact ⟨a, g2, g3⟩) (by omega) hz hl
    have inL : ∀ v, v < 100000 → R (nI v) = 0 → v ≤ L := fun v hv hz => by
      obtain ⟨a, b, -, -, g3, -, -⟩ := hR m M rfX rfM (nI v)
      have g := (a_w40.mp (g3 hz)).1
      have p7 := ((h 7 : a_B7 c n m M).2.2.2.1 p hp).2.1.1
      unfold a_rg at p7
      rw [nI_toInt (by omega), eL, nI_toInt (by omega)] at g
      omega
    have hX1 : a_X c n m1 M1 := h.sx x2 y1
    have he1 : M1 6 1 = nI e := by rw [x2 6 (by decide) (by decide) (by decide)]; exact he
    rw [b_X11_places_24, s_size rfl, h.K.2.1, Option.bind_some, if_neg (nI_ge (by omega) (by omega)), s_getW h hic, Option.bind_some, w_ck (t_wall hC hic), x1, Option.bind_some, w_let]
    rw [b_X12_places_22, (h 5).2.1, if_neg (nI_ge (by omega) (by omega))]
    unfold b_X11_places_82
    dsimp only
    rw [nI_1]
    rcases y2 with ⟨no, y2⟩ | ⟨v, hv, hz, hl, y2⟩
    · have el : l = -1 := by
        rcases x3 with ⟨q, -⟩ | ⟨v, q, q0, q1, q2, -⟩
        · exact q
        · exact absurd q2 (no v (inL v (by omega) q2))
      rw [if_pos el, show (0 : Int32) = nI 0 from rfl, y2]
      exact s_places_loop hp d (i + 1) nf nf' e m1 M1 (by omega) (by omega) (by omega) hX1 he1 (by omega)
    · have hc := hmin v hv hz hl
      have el : l = nI v := by
        rcases x3 with ⟨-, q⟩ | ⟨u, q, q0, q1, q2, q3⟩
        · exact absurd hz (q v hc)
        · have g1 := q3 v hc hz
          have g2 : ¬ u < v := fun g => hl u g q2
          rw [q, show u = v by omega]
      have hX2 := hX1.row12 he1 (by omega) (nI i)
      have hX3 := hX2.1.row12 (e := e + 1) q_u2_eq (by omega) (nI v)
      rw [if_neg (by rw [el]; exact nI_neg1 (by omega)), el, s_add (r := 56) (N := 32) (k := e) (by decide) he1 (by omega), Option.bind_some, s_add (r := 56) (N := 32) (k := e + 1) (by decide) q_u2_eq (by omega), Option.bind_some, show (0 : Int32) = nI 0 from rfl, y2]
      unfold f_X12_enters
      simp only [w_let]
      rw [hX2.2, w_as (by omega) (by decide), Option.bind_some, q_u2_ne (by omega), hX2.2, nI_1, q_u2_eq, w_as (by omega) (by decide), Option.bind_some, q_u2_ne (M := q_u2 (q_u2 m1 5012 e (nI i)) 5001 1 (nI (e + 1))) (by omega), q_u2_eq, nI_1]
      exact s_places_loop hp d (i + 1) nf nf' (e + 2) _ _ (by omega) (by omega) (by omega) hX3.1 q_u2_eq (by omega)
theorem pub_places {c n : Nat → Nat} {m M : q_MM} (h : a_X c n m M) (a1 : Int32) : a_T c (f_X11_places c M a1) (f_X12_places m a1) := by
  unfold f_X11_places f_X12_places
  simp only [w_let]
  replace h := h.t0
  generalize q_u2 m 5001 0 0 = m at h ⊢
  have hfu := q_fu_le
  have hC1 := h.C.2.1
  by_cases z1 : a_here c m a1
  · obtain ⟨p, hp, rfl, hs⟩ := z1
    have h0 : a_X c n (q_u2 m 5001 1 0) (q_u2 M 6 1 0) := h.wr [12] (a_wM.s1 a_wM.rf rfl) (a_wS.s1 a_wS.rf rfl) (a_one ⟨0, by decide, q_u2_eq, q_u2_eq, fun i hi => absurd hi (Nat.not_lt_zero _)⟩)
    obtain ⟨m', M', r, g1, g2, g3⟩ := s_places_loop hp (c 1) 0 q_fu q_fu 0 _ _ (by omega) (by omega) (by omega) h0 q_u2_eq (by omega)
    rw [s_present1 h hp hs, h.isHere1 hp hs, Option.bind_some, Option.bind_some, if_neg (by omega), if_neg (show ¬ (1 : Int32) = 0 by decide), s_clear (r := 56) (N := 32) (by decide), Option.bind_some]
    exact ⟨r, n, M', m', g1, g2, g3⟩
  · rw [s_present0 h z1, h.isHere0 z1, Option.bind_some, Option.bind_some, if_pos rfl, if_pos rfl]
    exact a_T.no h (-1) rfl rfl
