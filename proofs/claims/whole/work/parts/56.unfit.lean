/-! what stands in the way, with foes and terms -/
noncomputable def a_LT (c : Nat → Nat) (m : q_MM) (p w : Nat) (l r k : Int32) (j : Nat) : Int32 := if j = 0 then m 5020 w else if j = 1 then nI w else if j = 2 then a_pk m w 24 else if j = 3 then a_ds m w 24 else if j = 4 then a_nb l + a_nb r else if j = 5 then a_sf m p l + a_sf m p r else if j = 6 then a_fe m p l r else if j = 7 then a_ot m p (m 5020 w) (c 2) else if j = 8 then m 5038 p - m 5043 p else if j = 9 then m 5001 35 else if j = 10 then m 5033 p else k
theorem a_Y.fr29 {c n : Nat → Nat} {m M M' : q_MM} (y : a_Y c n m M) (hf : ∀ o, o ≠ 29 → M' o = M o) : a_Y c n m M' := by
  refine ⟨fun i hi => a_cong i (fun o k ho => ?_) (fun _ _ _ => rfl) (y.1 i hi), y.C, ?_, ?_⟩
  · by_cases e : o = 29
    · subst e
      have ho : (19 : Nat) = i := ho
      omega
    · rw [hf o e]
  · rw [hf 14 (by decide)]
    exact y.2.2.1
  · rw [hf 15 (by decide)]
    exact y.2.2.2
theorem a_left_rg {c : Nat → Nat} {m : q_MM} {w x aside : Int32} : a_ltm (a_left c m w x aside) (c 2) := a_lf_rg _
theorem a_right_rg {c : Nat → Nat} {m : q_MM} {w x aside : Int32} : a_ltm (a_right c m w x aside) (c 2) := a_rt_rg _
theorem s_nbr {c : Nat → Nat} {M : q_MM} (hK : a_K c M) {l : Int32} (hl : a_ltm l (c 2)) : ∃ x, f_X2_pictureAt c M l = some x ∧ a_nbr c l x := by
  have hC := hK.1.2.2.1
  rcases hl with rfl | ⟨a, ha, rfl⟩
  · exact ⟨0, s_picAtK0 hK (a_ltm1 (by omega)), Or.inl ⟨rfl, rfl⟩⟩
  · exact ⟨1300 + a, s_picAtK1 hK ha, Or.inr ⟨a, ha, rfl, rfl⟩⟩
theorem s_letX {c n : Nat → Nat} {m M : q_MM} (y : a_Y c n m M) {o a b : Nat} (ho : (o, a, b) ∈ [(21, 61, 63), (22, 62, 64)]) (hH : a_H c m M a b) (hV : a_V c m) {p w : Nat} (hp : p < c 2) (hw : w < c 1) (h9 : M (1300 + p) 13 = m 5043 p) (h1 : M 2 12 = m 5001 35) (hr : n 0 ≤ 10) (x : Int32) : ∃ M', f_X9_readLetters c M o (1300 + p) (1100 + w) x = some M' ∧ (∀ o', o' ≠ 29 → M' o' = M o') ∧ ∀ j, j < 12 → M' 29 j = a_LT c m p w (a_left c m (nI w) x (nI p)) (a_right c m (nI w) x (nI p)) (M 18 (m 5020 w).toNatClampNeg) j := by
  have hC := y.C
  have hC1 := hC.2.1
  have hC2 := hC.2.2.1
  have h5 : a_B5 c n m M := y.1 5 (by decide)
  have h7 : a_B7 c n m M := y.1 7 (by decide)
  have w5 := h5.2.2.2.1 w hw
  have p7 := h7.2.2.2.1 p hp
  obtain ⟨rm, hrm, erm⟩ := w5.2.1
  obtain ⟨x5, e5, n5⟩ := s_nbr y.2 (a_left_rg (c := c) (m := m) (w := nI w) (x := x) (aside := nI p))
  obtain ⟨x6, e6, n6⟩ := s_nbr y.2 (a_right_rg (c := c) (m := m) (w := nI w) (x := x) (aside := nI p))
  have hab : a ≠ 29 ∧ b ≠ 29 ∧ qTX c o = 11 := by
    simp only [List.mem_cons, List.not_mem_nil, or_false, Prod.mk.injEq] at ho
    rcases ho with ⟨rfl, rfl, rfl⟩ | ⟨rfl, rfl, rfl⟩ <;> exact ⟨by decide, by decide, rfl⟩
  have fr : ∀ (M1 : q_MM) (j : Nat) (v : Int32), (∀ o', o' ≠ 29 → M1 o' = M o') → ∀ o', o' ≠ 29 → q_u2 M1 29 j v o' = M o' := fun M1 j v h o' ho' => by
    funext k
    rw [q_u2_ne (fun z => ho' z.1), h o' ho']
  have f0 := fr M 0 (m 5020 w) (fun _ _ => rfl)
  have f1 := fr _ 1 (nI w) f0
  have f2 := fr _ 2 (a_pk m w 24) f1
  have f3 := fr _ 3 (a_ds m w 24) f2
  have f4 := fr _ 4 (a_nb (a_left c m (nI w) x (nI p)) + a_nb (a_right c m (nI w) x (nI p))) f3
  have f5 := fr _ 5 (a_sf m p (a_left c m (nI w) x (nI p)) + a_sf m p (a_right c m (nI w) x (nI p))) f4
  have f6 := fr _ 6 (a_fe m p (a_left c m (nI w) x (nI p)) (a_right c m (nI w) x (nI p))) f5
  have f7 := fr _ 7 (a_ot m p (m 5020 w) (c 2)) f6
  have f8 := fr _ 8 (m 5038 p - m 5043 p) f7
  have f9 := fr _ 9 (m 5001 35) f8
  have f10 := fr _ 10 (m 5033 p) f9
  have f11 := fr _ 11 (M 18 rm) f10
  have y1 := y.fr29 f1
  have y2 := y.fr29 f2
  have y6 := y.fr29 f6
  have hH6 : a_H c m _ a b := hH.fr (f6 a hab.1) (f6 b hab.2.1)
  refine ⟨_, ?_, f11, fun j hj => ?_⟩
  · have ew0 : M (1100 + w) 0 = nI w := w5.1.1
    have ew1 : M (1100 + w) 1 = m 5020 w := w5.1.2.1
    have ep0 : M (1300 + p) 0 = nI p := p7.1.1
    have g1 : q_u2 M 29 0 (m 5020 w) (1100 + w) 0 = nI w := by rw [f0 _ (by omega)]; exact ew0
    unfold f_X9_readLetters
    rw [w_ck (t_pic hC hp), w_ck (t_wall hC hw), w_ck hab.2.2, ep0, ew0, ew1, s_leftOf ho hH hC2 (by omega), Option.bind_some, e5, Option.bind_some, s_rightOf ho hH hC2 (by omega), Option.bind_some, e6, Option.bind_some, show (0 : Int32) = nI 0 from rfl, w_as (by decide) (by decide), g1, show (1 : Int32) = nI 1 from rfl, w_as (by decide) (by decide), s_peak y1 hw, Option.bind_some, show (2 : Int32) = nI 2 from rfl, w_as (by decide) (by decide), s_daylight y2 hw, Option.bind_some, show (3 : Int32) = nI 3 from rfl, w_as (by decide) (by decide)]
    have hM : ∀ i, i < c 2 → q_u2 (q_u2 (q_u2 (q_u2 M 29 0 (m 5020 w)) 29 1 (nI w)) 29 2 (a_pk m w 24)) 29 3 (a_ds m w 24) (1300 + i) 0 = nI i ∧ q_u2 (q_u2 (q_u2 (q_u2 M 29 0 (m 5020 w)) 29 1 (nI w)) 29 2 (a_pk m w 24)) 29 3 (a_ds m w 24) (1300 + i) 4 = m 5032 i ∧ q_u2 (q_u2 (q_u2 (q_u2 M 29 0 (m 5020 w)) 29 1 (nI w)) 29 2 (a_pk m w 24)) 29 3 (a_ds m w 24) (1300 + i) 8 = m 5036 i := fun i hi => by
      rw [f3 _ (by omega)]
      have g := (h7.2.2.2.1 i hi).1
      exact ⟨g.1, g.2.2.2.2.1, g.2.2.2.2.2.2.2.2.1⟩
    have es : (if x5 = 0 then b_X9_readLetters_109 c o (1300 + p) (1100 + w) x5 x6 (nI 0) 4 29 (q_u2 (q_u2 (q_u2 (q_u2 M 29 0 (m 5020 w)) 29 1 (nI w)) 29 2 (a_pk m w 24)) 29 3 (a_ds m w 24)) else b_X9_readLetters_109 c o (1300 + p) (1100 + w) x5 x6 (nI 1) 4 29 (q_u2 (q_u2 (q_u2 (q_u2 M 29 0 (m 5020 w)) 29 1 (nI w)) 29 2 (a_pk m w 24)) 29 3 (a_ds m w 24))) = b_X9_readLetters_109 c o (1300 + p) (1100 + w) x5 x6 (a_nb (a_left c m (nI w) x (nI p))) 4 29 (q_u2 (q_u2 (q_u2 (q_u2 M 29 0 (m 5020 w)) 29 1 (nI w)) 29 2 (a_pk m w 24)) 29 3 (a_ds m w 24)) := by
      rcases n5 with ⟨q1, q2⟩ | ⟨i, hi, q1, q2⟩
      · rw [if_pos q2, q1]
        rfl
      · rw [if_neg (by omega), q1]
        unfold a_nb
        rw [if_neg (nI_neg1 (by omega))]
        rfl
    rw [es, s_E hC hp hM n5 n6]
    unfold b_X9_readLetters_217
    have gw : q_u2 (q_u2 (q_u2 (q_u2 (q_u2 (q_u2 (q_u2 M 29 0 (m 5020 w)) 29 1 (nI w)) 29 2 (a_pk m w 24)) 29 3 (a_ds m w 24)) 29 4 (a_nb (a_left c m (nI w) x (nI p)) + a_nb (a_right c m (nI w) x (nI p)))) 29 5 (a_sf m p (a_left c m (nI w) x (nI p)) + a_sf m p (a_right c m (nI w) x (nI p)))) 29 6 (a_fe m p (a_left c m (nI w) x (nI p)) (a_right c m (nI w) x (nI p))) (1100 + w) 1 = m 5020 w := by rw [f6 _ (by omega)]; exact ew1
    have wl : ∀ (M' : q_MM) (k : Int32 → Option q_MM), q_ld M' 18 10 (m 5020 w) k = k (M' 18 rm) := fun M' k => by
      rw [erm]
      exact w_ld (by omega) (by decide)
    rw [w_ck (show qTX c 29 = 1 from rfl), show qLX c 29 = 12 from rfl, show (6 : Int32) = nI 6 from rfl, w_as (by decide) (by decide), w_ck (t_wall hC hw), gw, s_othersX y6 ho hH6 hV hp, Option.bind_some, show (7 : Int32) = nI 7 from rfl, w_as (by decide) (by decide), w_ck (t_pic hC hp), f7 (1300 + p) (by omega), p7.1.2.2.2.2.2.2.2.2.2.2.1, h9, show (8 : Int32) = nI 8 from rfl, w_as (by decide) (by decide), f8 2 (by decide), h1, show (9 : Int32) = nI 9 from rfl, w_as (by decide) (by decide), f9 (1300 + p) (by omega), p7.1.2.2.2.2.2.1, show (10 : Int32) = nI 10 from rfl, w_as (by decide) (by decide), f10 (1100 + w) (by omega), ew1, wl, f10 18 (by decide), show (11 : Int32) = nI 11 from rfl, w_as (by decide) (by decide)]
  · rw [erm, nI_clamp (by omega)]
    rcases (show j = 0 ∨ j = 1 ∨ j = 2 ∨ j = 3 ∨ j = 4 ∨ j = 5 ∨ j = 6 ∨ j = 7 ∨ j = 8 ∨ j = 9 ∨ j = 10 ∨ j = 11 by omega) with rfl | rfl | rfl | rfl | rfl | rfl | rfl | rfl | rfl | rfl | rfl | rfl <;> simp [q_u2_at, a_LT, erm]
/-- a trial: the model's memory as it was, but where pictures hang -/
def a_t8 (σ m : q_MM) : Prop := ∀ o k, ownS o k ≠ 8 → ownS o k ≠ 19 → m o k = σ o k
theorem a_t8.rf {m : q_MM} : a_t8 m m := fun _ _ _ _ => rfl
theorem a_t8.row {σ m : q_MM} (h : a_t8 σ m) (o i : Nat) (ho : ∀ k, ownS o k = i) (h8 : i ≠ 8) (h9 : i ≠ 19) : m o = σ o := funext fun k => h o k (by rw [ho]; exact h8) (by rw [ho]; exact h9)
theorem a_X.tY {c n : Nat → Nat} {σ m M : q_MM} (hX : a_X c n σ M) (ht : a_t8 σ m) : a_Y c n m M := ⟨fun i hi => a_cong i (fun _ _ _ => rfl) (fun o k ho => ht o k (by omega) (by omega)) (hX i), hX.K⟩
theorem a_lit_fr {m m' : q_MM} {w h : Nat} (e4 : m' 5024 = m 5024) (e5 : m' 5025 = m 5025) (e6 : m' 5026 = m 5026) (e7 : m' 5027 = m 5027) : a_lit m' w h = a_lit m w h := by
  unfold a_lit
  rw [e4, e5, e6, e7]
theorem a_pkds_fr {m m' : q_MM} (hf : ∀ o, o ≠ 5056 → m' o = m o) (w : Nat) : ∀ h, a_pk m' w h = a_pk m w h ∧ a_ds m' w h = a_ds m w h
  | 0 => ⟨rfl, rfl⟩
  | h + 1 => by
    have ih := a_pkds_fr hf w h
    rw [a_pk_s, a_pk_s, a_ds_s, a_ds_s, ih.1, ih.2, a_lit_fr (m := m) (m' := m') (hf _ (by decide)) (hf _ (by decide)) (hf _ (by decide)) (hf _ (by decide))]
    exact ⟨rfl, rfl⟩
theorem a_ot_fr {m m' : q_MM} (hf : ∀ o, o ≠ 5056 → m' o = m o) (p : Nat) (r : Int32) : ∀ i, a_ot m' p r i = a_ot m p r i
  | 0 => rfl
  | i + 1 => by
    have : a_in m' i r = a_in m i r := by
      unfold a_in
      rw [hf 5040 (by decide), hf 5020 (by decide), hf 5041 (by decide)]
    rw [a_ot_s, a_ot_s, a_ot_fr hf p r i, this]
theorem s_letM {c n : Nat → Nat} {σ m M : q_MM} (hX : a_X c n σ M) (ht : a_t8 σ m) (hV : a_V c m) {p w t : Nat} (hp : p < c 2) (hw : w < c 1) (htc : t < c 3) (hfo : a_frc σ (nI p) (c 3) = nI t) {K : Nat} (hK : σ 5050 t = nI K) (x : Int32) : ∃ m', f_X12_barring m (nI p) (nI w) x = b_X12_barring_320 q_fu (nI (64 * t)) (nI (64 * t + K)) 0 m' ∧ (∀ o, o ≠ 5056 → o ≠ 5057 → m' o = m o) ∧ ∀ j, j < 12 → m' 5056 j = a_LT c m p w (a_left c m (nI w) x (nI p)) (a_right c m (nI w) x (nI p)) (M 18 (m 5020 w).toNatClampNeg) j := by
  have hC := hX.C
  have hC1 := hC.2.1
  have hC2 := hC.2.2.1
  have hC3 := hC.2.2.2
  have hr0 : n 0 ≤ 10 := (hX 0).1
  have y := hX.tY ht
  have h5 : a_B5 c n m M := y.1 5 (by decide)
  have h7 : a_B7 c n m M := y.1 7 (by decide)
  obtain ⟨rm, hrm, erm⟩ := (h5.2.2.2.1 w hw).2.1
  have hfel : a_ltm (m 5036 p) (c 2) := (h7.2.2.2.1 p hp).2.2.2.2.2.2.2.2.1
  obtain ⟨x5, -, n5⟩ := s_nbr y.2 (a_left_rg (c := c) (m := m) (w := nI w) (x := x) (aside := nI p))
  obtain ⟨x6, -, n6⟩ := s_nbr y.2 (a_right_rg (c := c) (m := m) (w := nI w) (x := x) (aside := nI p))
  have fr : ∀ (M1 : q_MM) (j : Nat) (v : Int32), (∀ o', o' ≠ 5056 → M1 o' = m o') → ∀ o', o' ≠ 5056 → q_u2 M1 5056 j v o' = m o' := fun M1 j v h o' ho' => by
    funext k
    rw [q_u2_ne (fun z => ho' z.1), h o' ho']
  have f0 := fr m 0 (m 5020 w) (fun _ _ => rfl)
  have f1 := fr _ 1 (nI w) f0
  have f2 := fr _ 2 (a_pk m w 24) f1
  have f3 := fr _ 3 (a_ds m w 24) f2
  have f4 := fr _ 4 (a_nb (a_left c m (nI w) x (nI p)) + a_nb (a_right c m (nI w) x (nI p))) f3
  have f5 := fr _ 5 (a_sf m p (a_left c m (nI w) x (nI p)) + a_sf m p (a_right c m (nI w) x (nI p))) f4
  have f6 := fr _ 6 (a_fe m p (a_left c m (nI w) x (nI p)) (a_right c m (nI w) x (nI p))) f5
  have f7 := fr _ 7 (a_ot m p (m 5020 w) (c 2)) f6
  have f8 := fr _ 8 (m 5038 p - m 5043 p) f7
  have f9 := fr _ 9 (m 5001 35) f8
  have f10 := fr _ 10 (m 5033 p) f9
  have dr : a_Dr c n (q_u2 (q_u2 (q_u2 (q_u2 (q_u2 (q_u2 (q_u2 (q_u2 (q_u2 (q_u2 (q_u2 m 5056 0 (m 5020 w)) 5056 1 (nI w)) 5056 2 (a_pk m w 24)) 5056 3 (a_ds m w 24)) 5056 4 (a_nb (a_left c m (nI w) x (nI p)) + a_nb (a_right c m (nI w) x (nI p)))) 5056 5 (a_sf m p (a_left c m (nI w) x (nI p)) + a_sf m p (a_right c m (nI w) x (nI p)))) 5056 6 (a_fe m p (a_left c m (nI w) x (nI p)) (a_right c m (nI w) x (nI p)))) 5056 7 (a_ot m p (m 5020 w) (c 2))) 5056 8 (m 5038 p - m 5043 p)) 5056 9 (m 5001 35)) 5056 10 (m 5033 p)) := by
    refine hX.Dr.fr ?_ ?_ ?_ ?_
    · rw [f10 5015 (by decide)]
      exact ht.row 5015 2 (fun _ => rfl) (by decide) (by decide)
    · rw [f10 5016 (by decide)]
      exact ht.row 5016 2 (fun _ => rfl) (by decide) (by decide)
    · rw [f10 5001 (by decide)]
      exact ht 5001 3 (by decide) (by decide)
    · rw [f10 5001 (by decide)]
      exact ht 5001 4 (by decide) (by decide)
  obtain ⟨md, kd, d1, d2, d3⟩ := s_doorsTo dr hrm
  obtain ⟨k', k1, k2⟩ := (hX 2 : a_B2 c n σ M).2.2.2.2 rm hrm
  have ekd : nI kd = M 18 rm := by
    have e1 : a_A (q_u2 (q_u2 (q_u2 (q_u2 (q_u2 (q_u2 (q_u2 (q_u2 (q_u2 (q_u2 (q_u2 m 5056 0 (m 5020 w)) 5056 1 (nI w)) 5056 2 (a_pk m w 24)) 5056 3 (a_ds m w 24)) 5056 4 (a_nb (a_left c m (nI w) x (nI p)) + a_nb (a_right c m (nI w) x (nI p)))) 5056 5 (a_sf m p (a_left c m (nI w) x (nI p)) + a_sf m p (a_right c m (nI w) x (nI p)))) 5056 6 (a_fe m p (a_left c m (nI w) x (nI p)) (a_right c m (nI w) x (nI p)))) 5056 7 (a_ot m p (m 5020 w) (c 2))) 5056 8 (m 5038 p - m 5043 p)) 5056 9 (m 5001 35)) 5056 10 (m 5033 p)) = a_A σ := by
      unfold a_A
      rw [f10 5015 (by decide), ht.row 5015 2 (fun _ => rfl) (by decide) (by decide)]
    have e2 : a_Bd (q_u2 (q_u2 (q_u2 (q_u2 (q_u2 (q_u2 (q_u2 (q_u2 (q_u2 (q_u2 (q_u2 m 5056 0 (m 5020 w)) 5056 1 (nI w)) 5056 2 (a_pk m w 24)) 5056 3 (a_ds m w 24)) 5056 4 (a_nb (a_left c m (nI w) x (nI p)) + a_nb (a_right c m (nI w) x (nI p)))) 5056 5 (a_sf m p (a_left c m (nI w) x (nI p)) + a_sf m p (a_right c m (nI w) x (nI p)))) 5056 6 (a_fe m p (a_left c m (nI w) x (nI p)) (a_right c m (nI w) x (nI p)))) 5056 7 (a_ot m p (m 5020 w) (c 2))) 5056 8 (m 5038 p - m 5043 p)) 5056 9 (m 5001 35)) 5056 10 (m 5033 p)) = a_Bd σ := by
      unfold a_Bd
      rw [f10 5016 (by decide), ht.row 5016 2 (fun _ => rfl) (by decide) (by decide)]
    rw [e1, e2] at d3
    rw [k1, a_dst_one d3 k2]
  have eT : m 5001 36 = nI (c 3) := (ht 5001 36 (by decide) (by decide)).trans (hX 18).2.1
  have efo : a_frc m (nI p) (c 3) = nI t := by
    have : ∀ i, a_frc m (nI p) i = a_frc σ (nI p) i := fun i => by
      induction i with
      | zero => rfl
      | succ i ih => rw [a_frc_s, a_frc_s, ih, ht.row 5047 18 (fun _ => rfl) (by decide) (by decide), ht.row 5048 18 (fun _ => rfl) (by decide) (by decide), ht 5001 35 (by decide) (by decide)]
    rw [this, hfo]
  refine ⟨q_u2 md 5056 11 (nI kd), ?_, fun o h1 h2 => ?_, fun j hj => ?_⟩
  · unfold f_X12_barring
    have hN := y.N
    have pk1 := (a_pkds_fr f1 w 24).1
    have ds2 := (a_pkds_fr f2 w 24).2
    have fe3 : a_fe (q_u2 (q_u2 (q_u2 (q_u2 m 5056 0 (m 5020 w)) 5056 1 (nI w)) 5056 2 (a_pk m w 24)) 5056 3 (a_ds m w 24)) p (a_left c m (nI w) x (nI p)) (a_right c m (nI w) x (nI p)) = a_fe m p (a_left c m (nI w) x (nI p)) (a_right c m (nI w) x (nI p)) := by
      unfold a_fe
      rw [f3 5036 (by decide)]
    have sf3 : ∀ l, a_sf (q_u2 (q_u2 (q_u2 (q_u2 m 5056 0 (m 5020 w)) 5056 1 (nI w)) 5056 2 (a_pk m w 24)) 5056 3 (a_ds m w 24)) p l = a_sf m p l := fun l => by
      unfold a_sf
      rw [f3 5032 (by decide)]
    rw [s_inForceM (c := c) eT hC3, efo, Option.bind_some, if_pos (show (0 : Int32) ≤ nI t from nI_le (a := 0) (by omega) (by omega)), s_besideL (c := c) hN hC2 (by omega), Option.bind_some, s_besideR (c := c) hN hC2 (by omega), Option.bind_some, w_ld (by omega) (by decide), show (0 : Int32) = nI 0 from rfl, w_as (by decide) (by decide), show (1 : Int32) = nI 1 from rfl, w_as (by decide) (by decide), s_peakM (by omega), pk1, Option.bind_some, show (2 : Int32) = nI 2 from rfl, w_as (by decide) (by decide), s_daylightM (by omega), ds2, Option.bind_some, show (3 : Int32) = nI 3 from rfl, w_as (by decide) (by decide)]
    have es : (if a_left c m (nI w) x (nI p) < nI 0 then b_X12_barring_90 (nI p) (nI w) (nI t) (a_left c m (nI w) x (nI p)) (a_right c m (nI w) x (nI p)) (nI 0) 4 5056 (q_u2 (q_u2 (q_u2 (q_u2 m 5056 0 (m 5020 w)) 5056 1 (nI w)) 5056 2 (a_pk m w 24)) 5056 3 (a_ds m w 24)) else b_X12_barring_90 (nI p) (nI w) (nI t) (a_left c m (nI w) x (nI p)) (a_right c m (nI w) x (nI p)) (nI 1) 4 5056 (q_u2 (q_u2 (q_u2 (q_u2 m 5056 0 (m 5020 w)) 5056 1 (nI w)) 5056 2 (a_pk m w 24)) 5056 3 (a_ds m w 24))) = b_X12_barring_90 (nI p) (nI w) (nI t) (a_left c m (nI w) x (nI p)) (a_right c m (nI w) x (nI p)) (a_nb (a_left c m (nI w) x (nI p))) 4 5056 (q_u2 (q_u2 (q_u2 (q_u2 m 5056 0 (m 5020 w)) 5056 1 (nI w)) 5056 2 (a_pk m w 24)) 5056 3 (a_ds m w 24)) := by
      rcases n5 with ⟨q1, q2⟩ | ⟨i, hi, q1, q2⟩
      · rw [q1, if_pos (by decide)]
        rfl
      · rw [q1, if_neg (show ¬ nI i < nI 0 from nI_pos (by omega))]
        unfold a_nb
        rw [if_neg (nI_neg1 (by omega))]
        rfl
    have nb01 : a_nb (a_left c m (nI w) x (nI p)) = 0 ∨ a_nb (a_left c m (nI w) x (nI p)) = 1 := by
      unfold a_nb
      split
      · exact Or.inl rfl
      · exact Or.inr rfl
    have fe01 : a_fe m p (a_left c m (nI w) x (nI p)) (a_right c m (nI w) x (nI p)) = 0 ∨ a_fe m p (a_left c m (nI w) x (nI p)) (a_right c m (nI w) x (nI p)) = 1 := by
      unfold a_fe
      split
      · exact Or.inr rfl
      · split
        · exact Or.inr rfl
        · exact Or.inl rfl
    have tf : ∀ M', f_X12_truth M' (a_fe m p (a_left c m (nI w) x (nI p)) (a_right c m (nI w) x (nI p))) = some (a_fe m p (a_left c m (nI w) x (nI p)) (a_right c m (nI w) x (nI p))) := fun M' => by
      rcases fe01 with e | e
      · rw [e]; exact s_truth0
      · rw [e]; exact s_truth1
    have hV6 : ∀ m6 : q_MM, (∀ o, o ≠ 5056 → m6 o = m o) → a_V c m6 := fun m6 hf i hi hs => by
      rw [hf 5040 (by decide)] at hs
      rw [hf 5041 (by decide), hf 5042 (by decide)]
      exact hV i hi hs
    rw [es, s_Em hC hp (by rw [f3 5036 (by decide)]; exact hfel) nb01 n5 n6, fe3, sf3, sf3]
    unfold b_X12_barring_215
    have wl : ∀ (M' : q_MM) (k : Int32 → Option (Int32 × q_MM)), M' 5020 = m 5020 → q_ld M' 5020 16 (nI w) k = k (m 5020 w) := fun M' k e => by
      rw [w_ld (by omega) (by decide), e]
    have ot6 := a_ot_fr f6 p (m 5020 w) (c 2)
    rw [tf, Option.bind_some, w_ck (show qTM 5056 = 1 from rfl), show qLM 5056 = 12 from rfl, show (6 : Int32) = nI 6 from rfl, w_as (by decide) (by decide), wl _ _ (f6 5020 (by decide)), s_othersM hC (by rw [f6 5001 (by decide)]; exact hN) (hV6 _ f6) hp, ot6, Option.bind_some, show (7 : Int32) = nI 7 from rfl, w_as (by decide) (by decide), w_ld (show p < 24 by omega) (by decide), f7 5038 (by decide), w_ld (show p < 24 by omega) (by decide), f7 5043 (by decide), show (8 : Int32) = nI 8 from rfl, w_as (by decide) (by decide), f8 5001 (by decide), show (9 : Int32) = nI 9 from rfl, w_as (by decide) (by decide), w_ld (show p < 24 by omega) (by decide), f9 5033 (by decide), show (10 : Int32) = nI 10 from rfl, w_as (by decide) (by decide), wl _ _ (f10 5020 (by decide))]
    rw [show f_X12_doorsTo _ (m 5020 w) = some (nI kd, md) from by rw [← d1, erm], Option.bind_some]
    have e50 : q_u2 md 5056 11 (nI kd) 5050 t = nI K := by
      rw [q_u2_ne (by omega), d2 5050 (by decide), f10 5050 (by decide), ht.row 5050 18 (fun _ => rfl) (by decide) (by decide), hK]
    rw [show (11 : Int32) = nI 11 from rfl, w_as (by decide) (by decide), w_let, w_ld (by omega) (by decide), e50, w_let, show (64 : Int32) = nI 64 from rfl, pk_mul, nI_add]
    rfl
  · funext k
    rw [q_u2_ne (fun z => h1 z.1), d2 o h2, f10 o h1]
  · have md56 := d2 5056 (by decide)
    rcases (show j = 0 ∨ j = 1 ∨ j = 2 ∨ j = 3 ∨ j = 4 ∨ j = 5 ∨ j = 6 ∨ j = 7 ∨ j = 8 ∨ j = 9 ∨ j = 10 ∨ j = 11 by omega) with rfl | rfl | rfl | rfl | rfl | rfl | rfl | rfl | rfl | rfl | rfl | rfl
    all_goals first | (rw [q_u2_ne (by omega), md56]; simp [q_u2_at, a_LT]; done) | (rw [q_u2_eq, ekd, erm, nI_clamp (by omega)]; simp [a_LT])
/-- what a look at terms may change -/
def a_sx (M M' : q_MM) : Prop := ∀ o, o ≠ 29 → o ≠ 30 → o ≠ 80 → M' o = M o
def a_sm (m m' : q_MM) : Prop := ∀ o k, o ≠ 5055 → o ≠ 5056 → o ≠ 5057 → ¬ (o = 5001 ∧ k = 48) → m' o k = m o k
theorem s_terms {c n : Nat → Nat} {σ m M : q_MM} (hX : a_X c n σ M) (ht : a_t8 σ m) {o a b : Nat} (ho : (o, a, b) ∈ [(21, 61, 63), (22, 62, 64)]) (hH : a_H c m M a b) (hV : a_V c m) {p w : Nat} (hp : p < c 2) (hw : w < c 1) (x : Int32) : ∃ r r' m' M', f_X9_firstBroken c M o (1300 + p) (1100 + w) x = some (r, M') ∧ f_X12_barring m (nI p) (nI w) x = some (r', m') ∧ ((r = -2 ∧ r' = -1) ∨ ∃ f, f ≤ 60 ∧ r = nI f ∧ r' = nI f) ∧ a_sx M M' ∧ a_sm m m' := by
  have hC := hX.C
  have hC2 := hC.2.2.1
  have hC3 := hC.2.2.2
  have hfu := q_fu_le
  have y := hX.tY ht
  have h7 : a_B7 c n m M := y.1 7 (by decide)
  have ep0 : M (1300 + p) 0 = nI p := (h7.2.2.2.1 p hp).1.1
  have eT : m 5001 36 = nI (c 3) := (ht 5001 36 (by decide) (by decide)).trans (hX 18).2.1
  have efm : a_frc m (nI p) (c 3) = a_frc σ (nI p) (c 3) := by
    have : ∀ i, a_frc m (nI p) i = a_frc σ (nI p) i := fun i => by
      induction i with
      | zero => rfl
      | succ i ih => rw [a_frc_s, a_frc_s, ih, ht.row 5047 18 (fun _ => rfl) (by decide) (by decide), ht.row 5048 18 (fun _ => rfl) (by decide) (by decide), ht 5001 35 (by decide) (by decide)]
    exact this _
  rcases a_frc_rg (m := σ) (x := nI p) (c 3) with e | ⟨t, htc, e⟩
  · refine ⟨-2, -1, m, M, ?_, ?_, Or.inl ⟨rfl, rfl⟩, fun _ _ _ _ => rfl, fun _ _ _ _ _ _ => rfl⟩
    · unfold f_X9_firstBroken
      rw [w_ck (t_pic hC hp), ep0, s_inForceX hX, e, Option.bind_some, if_pos (by decide)]
    · unfold f_X12_barring
      rw [s_inForceM (c := c) eT hC3, efm, e, Option.bind_some, if_neg (by decide)]
  · obtain ⟨-, -, -, -, K, hK, eK, eL, eE, eF, δ, hδ0, hδK, hδ⟩ := (hX 18 : a_B18 c n σ M).2.2.2 t htc
    have h9 : M (1300 + p) 13 = m 5043 p := ((hX 9 : a_B9 c n σ M).2.1 p hp).1.trans (ht 5043 p (show (9 : Nat) ≠ 8 by decide) (show (9 : Nat) ≠ 19 by decide)).symm
    have h1 : M 2 12 = m 5001 35 := by
      rw [(hX 1).2.2, ht 5001 35 (by decide) (by decide)]
      exact (hX 1).2.1.symm
    obtain ⟨M1, x1, x2, x3⟩ := s_letX y ho hH hV hp hw h9 h1 (hX 0).1 x
    obtain ⟨m1, y1, y2, y3⟩ := s_letM hX ht hV hp hw htc e eK x
    have hpz : a_hp (δ 0) m1 (q_u2 M1 30 1 0) := by
      rw [hδ0]
      refine ⟨q_u2_eq, by omega, fun j hj => absurd hj (Nat.not_lt_zero _), fun j hj => ?_⟩
      rw [q_u2_ne (by omega), x3 j hj, y3 j hj]
    have hM : q_u2 M1 30 1 0 (1500 + t) = M (1500 + t) := by
      funext k
      rw [q_u2_ne (by omega), x2 _ (by omega)]
    have hm : m1 5049 = σ 5049 := by
      rw [y2 5049 (by decide) (by decide)]
      exact ht.row 5049 18 (fun _ => rfl) (by decide) (by decide)
    have hKp : 0 < K := by
      rcases Nat.eq_zero_or_pos K with z | z
      · subst z
        omega
      · exact z
    have d60 := a_wf_60 hδ0 hδ
    obtain ⟨f, hf2⟩ : ∃ f, q_fu = f + 1 := ⟨q_fu - 1, by omega⟩
    obtain ⟨r, r', m2, M2, t1, t2, t3, t4, t5⟩ := s_eval hC htc hK eL (F := M (1500 + t)) (G := σ 5049) (δ := δ) (fun i hi => by have := d60 i hi; omega) hδK hδ eF eE K 0 q_fu q_fu f 0 m1 (q_u2 M1 30 1 0) (by omega) (by omega) (by omega) (by omega) (by omega) hpz hM hm
    refine ⟨r, r', m2, M2, ?_, ?_, t3, fun o' a1 a2 a3 => ?_, fun o' k a1 a2 a3 a4 => ?_⟩
    · have s27 : M 27 2 = nI (c 3) := (hX 18).2.2.1
      have s27' : M1 27 2 = nI (c 3) := by rw [x2 27 (by decide)]; exact s27
      unfold f_X9_firstBroken
      rw [w_ck (t_pic hC hp), ep0, s_inForceX hX, e, Option.bind_some, if_neg (nI_pos (by omega)), s_size rfl, s27, Option.bind_some, if_pos (nI_lt htc (by omega)), x1, Option.bind_some, s_getL (j := 3) (b := 1400) (by decide) htc hC3 s27', Option.bind_some, w_ck (t_term hC htc), s_clear (r := 80) (N := 60) (by decide), Option.bind_some, p_code (by omega)]
      exact t1
    · rw [y1]
      conv => lhs; rw [hf2]
      rw [b_X12_barring_320, if_neg (nI_ge (by omega) (by omega))]
      unfold f_X12_worked
      rw [hδ0] at t2
      exact t2
    · rw [t4 o' a2 a3, ← x2 o' a1]
      funext k
      exact q_u2_ne (by omega)
    · rw [t5 o' k a1 a4, y2 o' a2 a3]
theorem s_unfit {c n : Nat → Nat} {σ m M : q_MM} (hX : a_X c n σ M) (ht : a_t8 σ m) {o a b : Nat} (ho : (o, a, b) ∈ [(21, 61, 63), (22, 62, 64)]) (hH : a_H c m M a b) (hV : a_V c m) {p w : Nat} (hp : p < c 2) (hw : w < c 1) (x : Int32) : ∃ r m' M', f_X9_unfit c M o (1300 + p) (1100 + w) x = some (r, M') ∧ f_X12_wrong m (nI p) (nI w) x 6 = some (r, m') ∧ (r = 0 → a_w4 c m p w x = 0) ∧ a_sx M M' ∧ a_sm m m' := by
  have hC := hX.C
  have hC1 := hC.2.1
  have hC2 := hC.2.2.1
  have hfu := q_fu_le
  have y := hX.tY ht
  have h5 : a_B5 c n m M := y.1 5 (by decide)
  unfold f_X9_unfit
  rw [s_hindrance y ho hH hV hp hw, s_wrong (c := c) y.N hC2 (by omega) (by omega), Option.bind_some]
  by_cases z : a_w4 c m p w x = 0
  · rw [if_pos z, if_pos z, w_ck (t_wall hC hw), (h5.2.2.2.1 w hw).1.2.1, s_meetsFoe y ho hH hV hp, Option.bind_some, show (0 : Int32) = nI 0 from rfl, s_foesM_loop y hV hp hw x (c 2) 0 q_fu (by omega) (by omega) (fun j hj => absurd hj (Nat.not_lt_zero _))]
    by_cases z2 : ∃ j, j < c 2 ∧ a_fo m p (m 5020 w) j
    · rw [a_ifp z2, a_ifp z2, if_neg (by decide)]
      exact ⟨5, m, M, rfl, rfl, fun q => absurd q (by decide), fun _ _ _ _ => rfl, fun _ _ _ _ _ _ => rfl⟩
    · obtain ⟨r, r', m', M', t1, t2, t3, t4, t5⟩ := s_terms hX ht ho hH hV hp hw x
      rw [a_ifn z2, a_ifn z2, if_pos (show nI 0 = nI 0 from rfl), t1, Option.bind_some]
      unfold b_X12_wrong_131
      rw [if_neg (show ¬ (6 : Int32) ≤ 5 by decide), t2, Option.bind_some]
      rcases t3 with ⟨e1, e2⟩ | ⟨f, hf, e1, e2⟩
      · dsimp only
        rw [e1, e2, if_pos rfl, if_pos (by decide)]
        exact ⟨_, m', M', rfl, rfl, fun _ => z, t4, t5⟩
      · dsimp only
        rw [e1, e2, if_neg (fun q => by have := congrArg Int32.toInt q; rw [nI_toInt (by omega)] at this; have e : (-2 : Int32).toInt = -2 := rfl; omega), if_neg (nI_pos (by omega))]
        exact ⟨6, m', M', rfl, rfl, fun q => absurd q (by decide), t4, t5⟩
  · rw [if_neg z, if_neg z]
    exact ⟨_, m, M, rfl, rfl, fun q => q, fun _ _ _ _ => rfl, fun _ _ _ _ _ _ => rfl⟩
theorem a_X.sx {c n : Nat → Nat} {m m' M M' : q_MM} (h : a_X c n m M) (h1 : a_sx M M') (h2 : a_sm m m') : a_X c n m' M' := by
  refine (h.scr (M' := M') (fun o k => ?_)).ag (fun o k a1 _ _ => ?_)
  · by_cases e : o = 29 ∨ o = 30 ∨ o = 80
    · rcases e with rfl | rfl | rfl <;> exact Or.inr (Or.inl rfl)
    · rw [h1 o (by omega) (by omega) (by omega)]
      exact Or.inr (Or.inr rfl)
  · by_cases e : o = 5055 ∨ o = 5056 ∨ o = 5057
    · rcases e with rfl | rfl | rfl <;> exact absurd rfl a1
    · by_cases e2 : o = 5001 ∧ k = 48
      · obtain ⟨rfl, rfl⟩ := e2
        exact absurd rfl a1
      · exact h2 o k (by omega) (by omega) (by omega) e2
theorem pub_fits {c n : Nat → Nat} {m M : q_MM} (h : a_X c n m M) (a1 a2 a3 : Int32) : a_T c (f_X11_fits c M a1 a2 a3) (f_X12_fits m a1 a2 a3) := by
  unfold f_X11_fits f_X12_fits b_X11_fits_30
  simp only [w_let]
  replace h := h.t0
  generalize q_u2 m 5001 0 0 = m at h ⊢
  by_cases z1 : a_here c m a1
  · obtain ⟨p, hp, rfl, hs⟩ := z1
    rw [s_present1 h hp hs, h.isHere1 hp hs, Option.bind_some, Option.bind_some, if_neg (show ¬ (1 : Int32) = 0 by decide)]
    by_cases z2 : a_lt a2 (c 1)
    · obtain ⟨w, hw, rfl⟩ := z2
      obtain ⟨r, m', M', t1, t2, -, t4, t5⟩ := s_unfit h a_t8.rf (o := 21) (a := 61) (b := 63) (by decide) h.H h.V hp hw a3
      rw [s_wallAt1 h hw, h.isWall1 hw, Option.bind_some, Option.bind_some, if_neg (by omega), if_neg (by omega), if_neg (show ¬ (1 : Int32) = 0 by decide), t1, t2, Option.bind_some, Option.bind_some]
      exact ⟨r, n, M', m', rfl, rfl, h.sx t4 t5⟩
    · rw [s_wallAt0 h z2, h.isWall0 z2, Option.bind_some, Option.bind_some, if_neg (by omega), if_pos rfl, if_pos rfl]
      exact a_T.no h (-1) rfl rfl
  · rw [s_present0 h z1, h.isHere0 z1, Option.bind_some, Option.bind_some, if_pos rfl]
    rcases Classical.em (a_lt a2 (c 1)) with ⟨w, hw, rfl⟩ | z2
    · rw [s_wallAt1 h hw, Option.bind_some, if_pos rfl]
      exact a_T.no h (-1) rfl rfl
    · rw [s_wallAt0 h z2, Option.bind_some, if_pos rfl]
      exact a_T.no h (-1) rfl rfl
