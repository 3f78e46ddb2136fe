/-! what stands in the way, with foes and terms -/
noncomputable def a_LT (c : Nat → Nat) (m : q_MM) (p w : Nat) (l r k : Int32) (j : Nat) : Int32 := if j = 0 then m 5020 w else if j = 1 then nI w else if j = 2 then a_pk m w 24 else if j = 3 then a_ds m w 24 else if j = 4 then a_nb l + a_nb r else if j = 5 then a_sf m p l + a_sf m p r else if j = 6 then a_fe m p l r else if j = 7 then a_ot m p (m 5020 w) (c 2) else if j = 8 then m 5038 p - m 5043 p else if j = 9 then m 5001 35 else if j = 10 then m 5033 p else k
theorem a_Y.fr29 {c n : Nat → Nat} {m M M' : q_MM} (y : a_Y c n m M) (hf : ∀ o, o ≠ 29 → M' o = M o) : a_Y c n m M' := by
  refine ⟨fun i hi => a_cong i (fun o k ho => ?_) (fun _ _ _ => rfl) (y.1 i hi), y.C, ?_, ?_⟩
  · by_cases e : o = 29
    · subst e
      have ho : (19 : Nat) = i := ho
      omega
    · rw [hf o e]
  · rw [hf 14 (by decide)]
    exact y.2.2.1
  · rw [hf 15 (by decide)]
    exact y.2.2.2
theorem a_left_rg {c : Nat → Nat} {m : q_MM} {w x aside : Int32} : a_ltm (a_left c m w x aside) (c 2) := a_lf_rg _
theorem a_right_rg {c : Nat → Nat} {m : q_MM} {w x aside : Int32} : a_ltm (a_right c m w x aside) (c 2) := a_rt_rg _
theorem s_nbr {c : Nat → Nat} {M : q_MM} (hK : a_K c M) {l : Int32} (hl : a_ltm l (c 2)) : ∃ x, f_X2_pictureAt c M l = some x ∧ a_nbr c l x := by
  have hC := hK.1.2.2.1
  rcases hl with rfl | ⟨a, ha, rfl⟩
  · exact ⟨0, s_picAtK0 hK (a_ltm1 (by omega)), Or.inl ⟨rfl, rfl⟩⟩
  · exact ⟨1300 + a, s_picAtK1 hK ha, Or.inr ⟨a, ha, rfl, rfl⟩⟩
theorem s_letX {c n : Nat → Nat} {m M : q_MM} (y : a_Y c n m M) {o a b : Nat} (ho : (o, a, b) ∈ [(21, 61, 63), (22, 62, 64)]) (hH : a_H c m M a b) (hV : a_V c m) {p w : Nat} (hp : p < c 2) (hw : w < c 1) (h9 : M (1300 + p) 13 = m 5043 p) (h1 : M 2 12 = m 5001 35) (hr : n 0 ≤ 10) (x : Int32) : ∃ M', f_X9_readLetters c M o (1300 + p) (1100 + w) x = some M' ∧ (∀ o', o' ≠ 29 → M' o' = M o') ∧ ∀ j, j < 12 → M' 29 j = a_LT c m p w (a_left c m (nI w) x (nI p)) (a_right c m (nI w) x (nI p)) (M 18 (m 5020 w).toNatClampNeg) j := by
  have hC := y.C
  have hC1 := hC.2.1
  have hC2 := hC.2.2.1
  have h5 : a_B5 c n m M := y.1 5 (by decide)
  have h7 : a_B7 c n m M := y.1 7 (by decide)
  have w5 := h5.2.2.2.1 w hw
  have p7 := h7.2.2.2.1 p hp
  obtain ⟨rm, hrm, erm⟩ := w5.2.1
  obtain ⟨x5, e5, n5⟩ := s_nbr y.2 (a_left_rg (c := c) (m := m) (w := nI w) (x := x) (aside := nI p))
  obtain ⟨x6, e6, n6⟩ := s_nbr y.2 (a_right_rg (c := c) (m := m) (w := nI w) (x := x) (aside := nI p))
  have hab : a ≠ 29 ∧ b ≠ 29 ∧ qTX c o = 11 := by
    simp only [List.mem_cons, List.not_mem_nil, or_false, Prod.mk.injEq] at ho
    rcases ho with ⟨rfl, rfl, rfl⟩ | ⟨rfl, rfl, rfl⟩ <;> exact ⟨by decide, by decide, rfl⟩
  have fr : ∀ (M1 : q_MM) (j : Nat) (v : Int32), (∀ o', o' ≠ 29 → M1 o' = M o') → ∀ o', o' ≠ 29 → q_u2 M1 29 j v o' = M o' := fun M1 j v h o' ho' => by
    funext k
    rw [q_u2_ne (fun z => ho' z.1), h o' ho']
  have f0 := fr M 0 (m 5020 w) (fun _ _ => rfl)
  have f1 := fr _ 1 (nI w) f0
  have f2 := fr _ 2 (a_pk m w 24) f1
  have f3 := fr _ 3 (a_ds m w 24) f2
  have f4 := fr _ 4 (a_nb (a_left c m (nI w) x (nI p)) + a_nb (a_right c m (nI w) x (nI p))) f3
  have f5 := fr _ 5 (a_sf m p (a_left c m (nI w) x (nI p)) + a_sf m p (a_right c m (nI w) x (nI p))) f4
  have f6 := fr _ 6 (a_fe m p (a_left c m (nI w) x (nI p)) (a_right c m (nI w) x (nI p))) f5
  have f7 := fr _ 7 (a_ot m p (m 5020 w) (c 2)) f6
  have f8 := fr _ 8 (m 5038 p - m 5043 p) f7
  have f9 := fr _ 9 (m 5001 35) f8
  have f10 := fr _ 10 (m 5033 p) f9
  have f11 := fr _ 11 (M 18 rm) f10
  have y1 := y.fr29 f1
  have y2 := y.fr29 f2
  have y6 := y.fr29 f6
  have hH6 : a_H c m _ a b := hH.fr (f6 a hab.1) (f6 b hab.2.1)
  refine ⟨_, ?_, f11, fun j hj => ?_⟩
  · have ew0 : M (1100 + w) 0 = nI w := w5.1.1
    have ew1 : M (1100 + w) 1 = m 5020 w := w5.1.2.1
    have ep0 : M (1300 + p) 0 = nI p := p7.1.1
    have g1 : q_u2 M 29 0 (m 5020 w) (1100 + w) 0 = nI w := by rw [f0 _ (by omega)]; exact ew0
    unfold f_X9_readLetters
    rw [w_ck (t_pic hC hp), w_ck (t_wall hC hw), w_ck hab.2.2, ep0, ew0, ew1, s_leftOf ho hH hC2 (by omega), Option.bind_some, e5, Option.bind_some, s_rightOf ho hH hC2 (by omega), Option.bind_some, e6, Option.bind_some, show (0 : Int32) = nI 0 from rfl, w_as (by decide) (by decide), g1, show (1 : Int32) = nI 1 from rfl, w_as (by decide) (by decide), s_peak y1 hw, Option.bind_some, show (2 : Int32) = nI 2 from rfl, w_as (by decide) (by decide), s_daylight y2 hw, Option.bind_some, show (3 : Int32) = nI 3 from rfl, w_as (by decide) (by decide)]
    have hM : ∀ i, i < c 2 → q_u2 (q_u2 (q_u2 (q_u2 M 29 0 (m 5020 w)) 29 1 (nI w)) 29 2 (a_pk m w 24)) 29 3 (a_ds m w 24) (1300 + i) 0 = nI i ∧ q_u2 (q_u2 (q_u2 (q_u2 M 29 0 (m 5020 w)) 29 1 (nI w)) 29 2 (a_pk m w 24)) 29 3 (a_ds m w 24) (1300 + i) 4 = m 5032 i ∧ q_u2 (q_u2 (q_u2 (q_u2 M 29 0 (m 5020 w)) 29 1 (nI w)) 29 2 (a_pk m w 24)) 29 3 (a_ds m w 24) (1300 + i) 8 = m 5036 i := fun i hi => by
      rw [f3 _ (by omega)]
      have g := (h7.2.2.2.1 i hi).1
      exact ⟨g.1, g.2.2.2.2.1, g.2.2.2.2.2.2.2.2.1⟩
    have es : (if x5 = 0 then b_X9_readLetters_109 c o (1300 + p) (1100 + w) x5 x6 (nI 0) 4 29 (q_u2 (q_u2 (q_u2 (q_u2 M 29 0 (m 5020 w)) 29 1 (nI w)) 29 2 (a_pk m w 24)) 29 3 (a_ds m w 24)) else b_X9_readLetters_109 c o (1300 + p) (1100 + w) x5 x6 (nI 1) 4 29 (q_u2 (q_u2 (q_u2 (q_u2 M 29 0 (m 5020 w)) 29 1 (nI w)) 29 2 (a_pk m w 24)) 29 3 (a_ds m w 24))) = b_X9_readLetters_109 c o (1300 + p) (1100 + w) x5 x6 (a_nb (a_left c m (nI w) x (nI p))) 4 29 (q_u2 (q_u2 (q_u2 (q_u2 M 29 0 (m 5020 w)) 29 1 (nI w)) 29 2 (a_pk m w 24)) 29 3 (a_ds m w 24)) := by
      rcases n5 with ⟨q1, q2⟩ | ⟨i, hi, q1, q2⟩
      · rw [if_pos q2, q1]
        rfl
      · rw [if_neg (by omega), q1]
        unfold a_nb
        rw [if_neg (nI_neg1 (by omega))]
        rfl
    rw [es, s_E hC hp hM n5 n6]
    unfold b_X9_readLetters_217
    have gw : q_u2 (q_u2 (q_u2 (q_u2 (q_u2 (q_u2 (q_u2 M 29 0 (m 5020 w)) 29 1 (nI w)) 29 2 (a_pk m w 24)) 29 3 (a_ds m w 24)) 29 4 (a_nb (a_left c m (nI w) x (nI p)) + a_nb (a_right c m (nI w) x (nI p)))) 29 5 (a_sf m p (a_left c m (nI w) x (nI p)) + a_sf m p (a_right c m (nI w) x (nI p)))) 29 6 (a_fe m p (a_left c m (nI w) x (nI p)) (a_right c m (nI w) x (nI p))) (1100 + w) 1 = m 5020 w := by rw [f6 _ (by omega)]; exact ew1
    have wl : ∀ (M' : q_MM) (k : Int32 → Option q_MM), q_ld M' 18 10 (m 5020 w) k = k (M' 18 rm) := fun M' k => by
      rw [erm]
      exact w_ld (by omega) (by decide)
    rw [w_ck (show qTX c 29 = 1 from rfl), show qLX c 29 = 12 from rfl, show (6 : Int32) = nI 6 from rfl, w_as (by decide) (by decide), w_ck (t_wall hC hw), gw, s_othersX y6 ho hH6 hV hp, Option.bind_some, show (7 : Int32) = nI 7 from rfl, w_as (by decide) (by decide), w_ck (t_pic hC hp), f7 (1300 + p) (by omega), p7.1.2.2.2.2.2.2.2.2.2.2.1, h9, show (8 : Int32) = nI 8 from rfl, w_as (by decide) (by decide), f8 2 (by decide), h1, show (9 : Int32) = nI 9 from rfl, w_as (by decide) (by decide), f9 (1300 + p) (by omega), p7.1.2.2.2.2.2.1, show (10 : Int32) = nI 10 from rfl, w_as (by decide) (by decide), f10 (1100 + w) (by omega), ew1, wl, f10 18 (by decide), show (11 : Int32) = nI 11 from rfl, w_as (by decide) (by decide)]
  · rw [erm, nI_clamp (by omega)]
    rcases (show j = 0 ∨ j = 1 ∨ j = 2 ∨ j = 3 ∨ j = 4 ∨ j = 5 ∨ j = 6 ∨ j = 7 ∨ j = 8 ∨ j = 9 ∨ j = 10 ∨ j = 11 by omega) with rfl | rfl | rfl | rfl | rfl | rfl | rfl | rfl | rfl | rfl | rfl | rfl <;> simp [q_u2_at, a_LT, erm]
