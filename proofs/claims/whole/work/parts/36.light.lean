/-! light; weights; what stands in the way. a_Y: class and model hold the same walls, numbers, pictures; where pictures hang is left open (a trial) -/
/-- the tables of the class -/
def a_K (c : Nat → Nat) (M : q_MM) : Prop := a_C c ∧ M 14 2 = nI (c 1) ∧ M 15 2 = nI (c 2)
theorem a_X.K {c n : Nat → Nat} {m M : q_MM} (h : a_X c n m M) : a_K c M := ⟨h.C, (h 5).2.2.1, (h 7).2.2.1⟩
theorem s_getPK {c : Nat → Nat} {M : q_MM} (h : a_K c M) {i : Nat} (hi : i < c 2) : f_Jx4a65c_get_915e3 (qTX c) (qLX c) (qPX c) M 15 (nI i) = some (1300 + i) := s_getL (by decide) hi (by have := h.1.2.2.1; omega) h.2.2
theorem s_wallAtK1 {c : Nat → Nat} {M : q_MM} (h : a_K c M) {j : Nat} (hj : j < c 1) : f_X2_wallAt c M (nI j) = some (1100 + j) := by
  have h1 := h.1.2.1
  unfold f_X2_wallAt
  rw [s_size rfl, h.2.1, if_neg (nI_pos (by omega)), Option.bind_some, if_neg (nI_ge hj (by omega)), s_getL (j := 1) (b := 1100) (by decide) hj (by omega) h.2.1, Option.bind_some, w_ck (t_wall h.1 hj)]
theorem s_wallAtK0 {c : Nat → Nat} {M : q_MM} (h : a_K c M) {x : Int32} (z : ¬ a_lt x (c 1)) : f_X2_wallAt c M x = some 0 := by
  have h1 := h.1.2.1
  unfold f_X2_wallAt
  rw [s_size rfl, h.2.1]
  rcases a_nlt z (by omega) with q | q
  · rw [if_pos q]
  · by_cases q2 : x < 0
    · rw [if_pos q2]
    · rw [if_neg q2, Option.bind_some, if_pos q]
theorem s_picAtK1 {c : Nat → Nat} {M : q_MM} (h : a_K c M) {j : Nat} (hj : j < c 2) : f_X2_pictureAt c M (nI j) = some (1300 + j) := by
  have h1 := h.1.2.2.1
  unfold f_X2_pictureAt
  rw [s_size rfl, h.2.2, if_neg (nI_pos (by omega)), Option.bind_some, if_neg (nI_ge hj (by omega)), s_getPK h hj, Option.bind_some, w_ck (t_pic h.1 hj)]
theorem s_picAtK0 {c : Nat → Nat} {M : q_MM} (h : a_K c M) {x : Int32} (z : ¬ a_lt x (c 2)) : f_X2_pictureAt c M x = some 0 := by
  have h1 := h.1.2.2.1
  unfold f_X2_pictureAt
  rw [s_size rfl, h.2.2]
  rcases a_nlt z (by omega) with q | q
  · rw [if_pos q]
  · by_cases q2 : x < 0
    · rw [if_pos q2]
    · rw [if_neg q2, Option.bind_some, if_pos q]
def a_Y (c n : Nat → Nat) (m M : q_MM) : Prop := (∀ i, 5 ≤ i ∧ i ≤ 7 → a_R i c n m M) ∧ a_K c M
theorem a_X.Y {c n : Nat → Nat} {m M : q_MM} (h : a_X c n m M) : a_Y c n m M := ⟨fun i _ => h i, h.K⟩
theorem a_Y.C {c n : Nat → Nat} {m M : q_MM} (h : a_Y c n m M) : a_C c := h.2.1
def a_V (c : Nat → Nat) (m : q_MM) : Prop := ∀ p, p < c 2 → m 5040 p = 1 → a_lt (m 5041 p) (c 1) ∧ a_rg (m 5042 p) (-1000) 4000
theorem a_X.V {c n : Nat → Nat} {m M : q_MM} (h : a_X c n m M) : a_V c m := fun p hp hs => by
  have h8 : a_B8 c n m M := h 8
  obtain ⟨-, -, -, -, g5, -⟩ := h8.2.1 p hp
  have := g5 hs
  refine ⟨this.1, ?_⟩
  have h2 := this.2
  unfold a_rg at *
  omega
theorem a_Y.N {c n : Nat → Nat} {m M : q_MM} (h : a_Y c n m M) : m 5001 18 = nI (c 2) := (h.1 7 (by decide)).2.1
/-- LIGHT of a wall in an hour that is open -/
def a_lit (m : q_MM) (w h : Nat) : Int32 := if (m 5027 2).toInt ≤ h ∧ (h : Int) ≤ (m 5027 3).toInt ∧ ¬ ((m 5025 w).toInt ≤ h ∧ (h : Int) ≤ (m 5026 w).toInt) then m 5024 (24 * w + h) else 0
def a_ds (m : q_MM) (w : Nat) : Nat → Int32
  | 0 => 0
  | h + 1 => a_ds m w h + a_lit m w h
def a_pk (m : q_MM) (w : Nat) : Nat → Int32
  | 0 => 0
  | h + 1 => if a_pk m w h < a_lit m w h then a_lit m w h else a_pk m w h
theorem a_ds_s {m : q_MM} {w h : Nat} : a_ds m w (h + 1) = a_ds m w h + a_lit m w h := rfl
theorem a_pk_s {m : q_MM} {w h : Nat} : a_pk m w (h + 1) = if a_pk m w h < a_lit m w h then a_lit m w h else a_pk m w h := rfl
theorem nI_rg {h : Nat} (hh : h < 2 ^ 31) {lo hi : Int32} : a_rg (nI h) lo.toInt hi.toInt ↔ lo.toInt ≤ h ∧ (h : Int) ≤ hi.toInt := by
  unfold a_rg
  rw [nI_toInt hh]
theorem s_lit {m : q_MM} {w h : Nat} (hw : w < 16) (hh : h < 24) : f_X12_lit m (nI w) (nI h) = some (a_lit m w h) := by
  have e9 : (24 : Int32) * nI w + nI h = nI (24 * w + h) := by rw [show (24 : Int32) = nI 24 from rfl, pk_mul, nI_add]
  unfold f_X12_lit a_lit
  rw [w_ld2, w_ld3, s_inc, Int32.toInt_toInt64, Int32.toInt_toInt64, Option.bind_some]
  by_cases z1 : (m 5027 2).toInt ≤ h ∧ (h : Int) ≤ (m 5027 3).toInt
  · rw [a_ifp ((nI_rg (by omega)).mpr z1), if_neg (by decide), w_ld hw (by decide), w_ld hw (by decide), s_inc, Int32.toInt_toInt64, Int32.toInt_toInt64, Option.bind_some]
    by_cases z2 : (m 5025 w).toInt ≤ h ∧ (h : Int) ≤ (m 5026 w).toInt
    · rw [a_ifp ((nI_rg (by omega)).mpr z2), if_neg (by decide), if_neg (fun z => z.2.2 z2)]
    · rw [a_ifn (fun z => z2 ((nI_rg (by omega)).mp z)), if_pos rfl, e9, w_ld (by omega) (by decide), if_pos ⟨z1.1, z1.2, z2⟩]
  · rw [a_ifn (fun z => z1 ((nI_rg (by omega)).mp z)), if_pos rfl, if_neg (fun z => z1 ⟨z.1, z.2.1⟩)]
theorem s_daylightM_loop {m : q_MM} {w : Nat} (hw : w < 16) : ∀ (d h nf : Nat), h + d = 24 → d < nf → b_X12_daylight_4 m nf (nI w) (a_ds m w h) (nI h) = some (a_ds m w 24)
  | d, h, 0, _, z => absurd z (Nat.not_lt_zero _)
  | 0, h, nf + 1, hi, _ => by
    have : h = 24 := by omega
    subst this
    rw [b_X12_daylight_4, if_pos (by decide)]
  | d + 1, h, nf + 1, hi, hf => by
    rw [b_X12_daylight_4, if_neg (show ¬ (24 : Int32) ≤ nI h from nI_ge (a := h) (b := 24) (by omega) (by decide)), s_lit hw (by omega), Option.bind_some, w_let, nI_1, ← a_ds_s]
    exact s_daylightM_loop hw d (h + 1) nf (by omega) (by omega)
theorem s_peakM_loop {m : q_MM} {w : Nat} (hw : w < 16) : ∀ (d h nf : Nat), h + d = 24 → d < nf → b_X12_peak_4 m nf (nI w) (a_pk m w h) (nI h) = some (a_pk m w 24)
  | d, h, 0, _, z => absurd z (Nat.not_lt_zero _)
  | 0, h, nf + 1, hi, _ => by
    have : h = 24 := by omega
    subst this
    rw [b_X12_peak_4, if_pos (by decide)]
  | d + 1, h, nf + 1, hi, hf => by
    rw [b_X12_peak_4, if_neg (show ¬ (24 : Int32) ≤ nI h from nI_ge (a := h) (b := 24) (by omega) (by decide)), s_lit hw (by omega), Option.bind_some, w_let, nI_1, ← a_pk_s]
    exact s_peakM_loop hw d (h + 1) nf (by omega) (by omega)
theorem s_daylightM {m : q_MM} {w : Nat} (hw : w < 16) : f_X12_daylight m (nI w) = some (a_ds m w 24) := by
  have := q_fu_le
  exact s_daylightM_loop hw 24 0 q_fu (by omega) (by omega)
theorem s_peakM {m : q_MM} {w : Nat} (hw : w < 16) : f_X12_peak m (nI w) = some (a_pk m w 24) := by
  have := q_fu_le
  exact s_peakM_loop hw 24 0 q_fu (by omega) (by omega)
theorem a_ds_0 {m : q_MM} {w : Nat} : ∀ h : Nat, (h : Int) ≤ (m 5027 2).toInt → a_ds m w h = 0
  | 0, _ => rfl
  | h + 1, z => by
    rw [a_ds_s, a_ds_0 h (by omega)]
    unfold a_lit
    rw [if_neg (by omega)]
    rfl
theorem a_pk_0 {m : q_MM} {w : Nat} : ∀ h : Nat, (h : Int) ≤ (m 5027 2).toInt → a_pk m w h = 0
  | 0, _ => rfl
  | h + 1, z => by
    have e : a_lit m w h = 0 := by unfold a_lit; rw [if_neg (by omega)]
    rw [a_pk_s, a_pk_0 h (by omega), e]
    rfl
theorem a_ds_1 {m : q_MM} {w h : Nat} (z : (m 5027 3).toInt < h) : ∀ d : Nat, a_ds m w (h + d) = a_ds m w h
  | 0 => rfl
  | d + 1 => by
    rw [← Nat.add_assoc, a_ds_s, a_ds_1 z d]
    unfold a_lit
    rw [if_neg (by omega)]
    exact Int32.add_zero _
theorem a_lit_0 {m M : q_MM} {c n : Nat → Nat} (hX : a_B5 c n m M) {w h : Nat} (hw : w < c 1) (hh : h < 24) : 0 ≤ (a_lit m w h).toInt ∧ (a_lit m w h).toInt ≤ 9999 := by
  unfold a_lit
  split
  · exact (hX.2.2.2.2.1 w hw h hh).2
  · exact ⟨by decide, by decide⟩
theorem a_pk_1 {m M : q_MM} {c n : Nat → Nat} (hX : a_B5 c n m M) {w : Nat} (hw : w < c 1) : ∀ h : Nat, h ≤ 24 → 0 ≤ (a_pk m w h).toInt
  | 0, _ => by show (0 : Int) ≤ (0 : Int32).toInt; decide
  | h + 1, z => by
    rw [a_pk_s]
    split
    · exact (a_lit_0 hX hw (by omega)).1
    · exact a_pk_1 hX hw h (by omega)
theorem a_pk_2 {m M : q_MM} {c n : Nat → Nat} (hX : a_B5 c n m M) {w h : Nat} (hw : w < c 1) (z : (m 5027 3).toInt < h) : ∀ d : Nat, h + d ≤ 24 → a_pk m w (h + d) = a_pk m w h
  | 0, _ => rfl
  | d + 1, hd => by
    have := a_pk_1 hX hw (h + d) (by omega)
    rw [← Nat.add_assoc, a_pk_s]
    have e : a_lit m w (h + d) = 0 := by unfold a_lit; rw [if_neg (by omega)]
    rw [e, if_neg (by rw [i_lt]; show ¬ (a_pk m w (h + d)).toInt < 0; omega)]
    exact a_pk_2 hX hw z d (by omega)
theorem s_lightIn {c n : Nat → Nat} {m M : q_MM} (y : a_Y c n m M) {w h : Nat} (hw : w < c 1) (hh : h < 24) (z1 : (m 5027 2).toInt ≤ h) (z2 : (h : Int) ≤ (m 5027 3).toInt) : f_X10_lightIn c M (1100 + w) (nI h) = some (a_lit m w h) := by
  have hC := y.C
  have hC1 := hC.2.1
  have h5 : a_B5 c n m M := y.1 5 (by decide)
  obtain ⟨⟨-, -, -, -, -, f6, f7⟩, -⟩ := h5.2.2.2.1 w hw
  have fl := (h5.2.2.2.2.1 w hw h hh).1
  unfold f_X10_lightIn a_lit
  simp only [b_X10_lightIn_26, b_X10_lightIn_30, b_X10_lightIn_31, w_ck (t_wall hC hw), p_light (c := c) (show w < 100 by omega), w_ck (t_light hC hw), l_light (c := c) (show w < 300 by omega), w_ld hh (show 24 ≤ 100000 by decide), f6, f7, fl]
  rw [if_neg (nI_pos (by omega)), if_neg (show ¬ (24 : Int32) ≤ nI h from nI_ge (a := h) (b := 24) hh (by decide))]
  simp only [i_lt, nI_toInt (show h < 2 ^ 31 by omega)]
  by_cases q1 : (h : Int) < (m 5025 w).toInt
  · rw [if_pos q1, if_pos trivial, if_pos ⟨z1, z2, by omega⟩]
  · rw [if_neg q1]
    by_cases q2 : (m 5026 w).toInt < h
    · rw [if_pos q2, if_pos trivial, if_pos ⟨z1, z2, by omega⟩]
    · rw [if_neg q2, if_neg (show ¬ (1 : Int32) = 0 by decide), if_neg (by omega)]
theorem s_daylightX_loop {c n : Nat → Nat} {m M : q_MM} (y : a_Y c n m M) {w : Nat} (hw : w < c 1) : ∀ (d h nf : Nat), (h : Int) + d = (m 5027 3).toInt + 1 → d < nf → (m 5027 2).toInt ≤ h → b_X2_daylight_9 c M nf (1100 + w) (a_ds m w h) (nI h) = some (a_ds m w 24)
  | d, h, 0, _, z, _ => absurd z (Nat.not_lt_zero _)
  | 0, h, nf + 1, hi, _, hz => by
    have h6 : a_B6 c n m M := y.1 6 (by decide)
    have e3 := h6.1 3 (by decide)
    have r3 := h6.2.2.2.2.1
    unfold a_rg at r3
    rw [b_X2_daylight_9, w_ld3, e3, if_pos (by rw [i_lt, nI_toInt (by omega)]; omega)]
    have := a_ds_1 (m := m) (w := w) (h := h) (by omega) (24 - h)
    rw [show h + (24 - h) = 24 by omega] at this
    rw [this]
  | d + 1, h, nf + 1, hi, hf, hz => by
    have h6 : a_B6 c n m M := y.1 6 (by decide)
    have e3 := h6.1 3 (by decide)
    have r3 := h6.2.2.2.2.1
    unfold a_rg at r3
    rw [b_X2_daylight_9, w_ld3, e3, if_neg (by rw [i_lt, nI_toInt (by omega)]; omega), w_ck (t_wall y.C hw), s_lightIn y hw (by omega) hz (by omega), Option.bind_some, w_let, nI_1, ← a_ds_s]
    exact s_daylightX_loop y hw d (h + 1) nf (by omega) (by omega) (by omega)
theorem s_peakX_loop {c n : Nat → Nat} {m M : q_MM} (y : a_Y c n m M) {w : Nat} (hw : w < c 1) : ∀ (d h nf : Nat), (h : Int) + d = (m 5027 3).toInt + 1 → d < nf → (m 5027 2).toInt ≤ h → b_X2_peak_9 c M nf (1100 + w) (a_pk m w h) (nI h) = some (a_pk m w 24)
  | d, h, 0, _, z, _ => absurd z (Nat.not_lt_zero _)
  | 0, h, nf + 1, hi, _, hz => by
    have h6 : a_B6 c n m M := y.1 6 (by decide)
    have e3 := h6.1 3 (by decide)
    have r3 := h6.2.2.2.2.1
    unfold a_rg at r3
    rw [b_X2_peak_9, w_ld3, e3, if_pos (by rw [i_lt, nI_toInt (by omega)]; omega)]
    have := a_pk_2 (y.1 5 (by decide)) hw (h := h) (by omega) (24 - h) (by omega)
    rw [show h + (24 - h) = 24 by omega] at this
    rw [this]
  | d + 1, h, nf + 1, hi, hf, hz => by
    have h6 : a_B6 c n m M := y.1 6 (by decide)
    have e3 := h6.1 3 (by decide)
    have r3 := h6.2.2.2.2.1
    unfold a_rg at r3
    rw [b_X2_peak_9, w_ld3, e3, if_neg (by rw [i_lt, nI_toInt (by omega)]; omega), w_ck (t_wall y.C hw), s_lightIn y hw (by omega) hz (by omega), Option.bind_some, w_let, nI_1, ← a_pk_s]
    exact s_peakX_loop y hw d (h + 1) nf (by omega) (by omega) (by omega)
theorem s_daylight {c n : Nat → Nat} {m M : q_MM} (y : a_Y c n m M) {w : Nat} (hw : w < c 1) : f_X2_daylight c M (1100 + w) = some (a_ds m w 24) := by
  have := q_fu_le
  have h6 : a_B6 c n m M := y.1 6 (by decide)
  obtain ⟨e, -, -, r2, r3, r4⟩ := h6
  unfold a_rg at r2 r3
  obtain ⟨j, hj, ej⟩ := (a_lt_i (x := m 5027 2) (N := 24) (by decide)).mpr (by omega)
  have ej2 : (m 5027 2).toInt = j := by rw [ej, nI_toInt (by omega)]
  unfold f_X2_daylight
  rw [w_ld2, e 2 (by decide), ej, ← a_ds_0 (m := m) (w := w) j (by omega)]
  exact s_daylightX_loop y hw ((m 5027 3).toInt + 1 - j).toNat j q_fu (by omega) (by omega) (by omega)
theorem s_peak {c n : Nat → Nat} {m M : q_MM} (y : a_Y c n m M) {w : Nat} (hw : w < c 1) : f_X2_peak c M (1100 + w) = some (a_pk m w 24) := by
  have := q_fu_le
  have h6 : a_B6 c n m M := y.1 6 (by decide)
  obtain ⟨e, -, -, r2, r3, r4⟩ := h6
  unfold a_rg at r2 r3
  obtain ⟨j, hj, ej⟩ := (a_lt_i (x := m 5027 2) (N := 24) (by decide)).mpr (by omega)
  have ej2 : (m 5027 2).toInt = j := by rw [ej, nI_toInt (by omega)]
  unfold f_X2_peak
  rw [w_ld2, e 2 (by decide), ej, ← a_pk_0 (m := m) (w := w) j (by omega)]
  exact s_peakX_loop y hw ((m 5027 3).toInt + 1 - j).toNat j q_fu (by omega) (by omega) (by omega)
/-! weights and widths on a wall -/
def a_ws (f : Nat → Int32) (m : q_MM) (w aside : Int32) : Nat → Int32
  | 0 => 0
  | i + 1 => a_ws f m w aside i + (if nI i ≠ aside ∧ a_W m i = w then f i else 0)
theorem a_ws_s {f : Nat → Int32} {m : q_MM} {w aside : Int32} {i : Nat} : a_ws f m w aside (i + 1) = a_ws f m w aside i + (if nI i ≠ aside ∧ a_W m i = w then f i else 0) := rfl
theorem s_weightM_loop {m : q_MM} {N w : Nat} (hN : m 5001 18 = nI N) (hN2 : N ≤ 24) (hw : w < 100) (aside : Int32) : ∀ (d i nf : Nat), i + d = N → d < nf → b_X12_weightOn_5 m nf (nI w) aside (a_ws (m 5031) m (nI w) aside i) (nI i) = some (a_ws (m 5031) m (nI w) aside N)
  | d, i, 0, _, h => absurd h (Nat.not_lt_zero _)
  | 0, i, nf + 1, hi, _ => by
    have : i = N := by omega
    subst this
    rw [b_X12_weightOn_5, hN, if_pos (nI_le (Nat.le_refl i) (by omega))]
  | d + 1, i, nf + 1, hi, hf => by
    have IH := s_weightM_loop hN hN2 hw aside d (i + 1) nf (by omega) (by omega)
    rw [a_ws_s] at IH
    rw [b_X12_weightOn_5, hN, if_neg (nI_ge (by omega) (by omega))]
    simp only [b_X12_weightOn_41, b_X12_weightOn_42, s_isOn (show i < 24 by omega) hw, Option.bind_some, w_ld (show i < 24 by omega) (show 24 ≤ 100000 by decide), nI_1, w_let]
    by_cases e1 : nI i = aside
    · rw [if_neg (fun z => z.1 e1)] at IH
      rw [if_pos e1]
      exact IH
    · rw [if_neg e1]
      by_cases e2 : a_W m i = nI w
      · rw [if_pos ⟨e1, e2⟩] at IH
        rw [if_pos e2, if_neg (by decide)]
        exact IH
      · rw [if_neg (fun z => e2 z.2)] at IH
        rw [if_neg e2, if_pos rfl]
        exact IH
theorem s_weightM {c : Nat → Nat} {m : q_MM} {w : Nat} (hN : m 5001 18 = nI (c 2)) (hN2 : c 2 ≤ 24) (hw : w < 100) (aside : Int32) : f_X12_weightOn m (nI w) aside = some (a_ws (m 5031) m (nI w) aside (c 2)) := by
  have := q_fu_le
  exact s_weightM_loop hN hN2 hw aside (c 2) 0 q_fu (by omega) (by omega)
theorem s_weightX_loop {c n : Nat → Nat} {m M : q_MM} (y : a_Y c n m M) (hH : a_H c m M 61 63) {w : Nat} (hw : w < c 1) : ∀ (d i nf : Nat), i + d = c 2 → d < nf → b_X2_weightOn_4 c M nf (1100 + w) (a_ws (m 5031) m (nI w) (-1) i) (nI i) = some (a_ws (m 5031) m (nI w) (-1) (c 2))
  | d, i, 0, _, h => absurd h (Nat.not_lt_zero _)
  | 0, i, nf + 1, hi, _ => by
    have hC := y.C.2.2.1
    have e : i = c 2 := by omega
    have h7 : M 15 2 = nI (c 2) := (y.1 7 (by decide)).2.2.1
    rw [b_X2_weightOn_4, s_size rfl, h7, Option.bind_some, if_pos (nI_le (by omega) (by omega)), e]
  | d + 1, i, nf + 1, hi, hf => by
    have hC := y.C.2.2.1
    have h7 : a_B7 c n m M := y.1 7 (by decide)
    have h5 : a_B5 c n m M := y.1 5 (by decide)
    have hσ := y.2
    have IH := s_weightX_loop y hH hw d (i + 1) nf (by omega) (by omega)
    rw [a_ws_s] at IH
    rw [b_X2_weightOn_4, s_size rfl, h7.2.2.1, Option.bind_some, if_neg (nI_ge (by omega) (by omega)), s_wallUnder (a := 61) (b := 63) (by decide) (by omega), Option.bind_some, w_ck (t_wall y.C hw), (h5.2.2.2.1 w hw).1.1, (hH.1 i (by omega)).1]
    simp only [b_X2_weightOn_49, w_let, nI_1]
    by_cases e2 : a_W m i = nI w
    · rw [if_pos ⟨nI_neg1 (by omega), e2⟩] at IH
      rw [if_pos e2, s_getPK hσ (by omega), Option.bind_some, w_ck (t_pic y.C (by omega)), (h7.2.2.2.1 i (by omega)).1.2.2.2.1]
      exact IH
    · rw [if_neg (fun z => e2 z.2)] at IH
      rw [if_neg e2]
      exact IH
theorem s_weightX {c n : Nat → Nat} {m M : q_MM} (y : a_Y c n m M) (hH : a_H c m M 61 63) {w : Nat} (hw : w < c 1) : f_X2_weightOn c M (1100 + w) = some (a_ws (m 5031) m (nI w) (-1) (c 2)) := by
  have := q_fu_le
  have := y.C.2.2.1
  exact s_weightX_loop y hH hw (c 2) 0 q_fu (by omega) (by omega)
theorem s_widthX_loop {c n : Nat → Nat} {m M : q_MM} (y : a_Y c n m M) (hH : a_H c m M 61 63) {w : Nat} (hw : w < c 1) : ∀ (d i nf : Nat), i + d = c 2 → d < nf → b_X2_widthOn_4 c M nf (1100 + w) (a_ws (m 5029) m (nI w) (-1) i) (nI i) = some (a_ws (m 5029) m (nI w) (-1) (c 2))
  | d, i, 0, _, h => absurd h (Nat.not_lt_zero _)
  | 0, i, nf + 1, hi, _ => by
    have hC := y.C.2.2.1
    have e : i = c 2 := by omega
    have h7 : M 15 2 = nI (c 2) := (y.1 7 (by decide)).2.2.1
    rw [b_X2_widthOn_4, s_size rfl, h7, Option.bind_some, if_pos (nI_le (by omega) (by omega)), e]
  | d + 1, i, nf + 1, hi, hf => by
    have hC := y.C.2.2.1
    have h7 : a_B7 c n m M := y.1 7 (by decide)
    have h5 : a_B5 c n m M := y.1 5 (by decide)
    have hσ := y.2
    have IH := s_widthX_loop y hH hw d (i + 1) nf (by omega) (by omega)
    rw [a_ws_s] at IH
    rw [b_X2_widthOn_4, s_size rfl, h7.2.2.1, Option.bind_some, if_neg (nI_ge (by omega) (by omega)), s_wallUnder (a := 61) (b := 63) (by decide) (by omega), Option.bind_some, w_ck (t_wall y.C hw), (h5.2.2.2.1 w hw).1.1, (hH.1 i (by omega)).1]
    simp only [b_X2_widthOn_49, w_let, nI_1]
    by_cases e2 : a_W m i = nI w
    · rw [if_pos ⟨nI_neg1 (by omega), e2⟩] at IH
      rw [if_pos e2, s_getPK hσ (by omega), Option.bind_some, w_ck (t_pic y.C (by omega)), (h7.2.2.2.1 i (by omega)).1.2.1]
      exact IH
    · rw [if_neg (fun z => e2 z.2)] at IH
      rw [if_neg e2]
      exact IH
theorem s_widthX {c n : Nat → Nat} {m M : q_MM} (y : a_Y c n m M) (hH : a_H c m M 61 63) {w : Nat} (hw : w < c 1) : f_X2_widthOn c M (1100 + w) = some (a_ws (m 5029) m (nI w) (-1) (c 2)) := by
  have := q_fu_le
  have := y.C.2.2.1
  exact s_widthX_loop y hH hw (c 2) 0 q_fu (by omega) (by omega)
theorem s_of_loop {m : q_MM} {N w : Nat} (hN : m 5001 18 = nI N) (hN2 : N ≤ 24) (hw : w < 16) (what : Int32) (L : Int32) : ∀ (d i nf : Nat), i + d = N → d < nf → b_X12_of_25 nf (nI w) what (L - a_ws (m 5029) m (nI w) (-1) i) (nI i) m = (if what = 0 then some (a_ds m w 24, m) else if what = 1 then some (a_pk m w 24, m) else if what = 2 then some (a_ws (m 5031) m (nI w) (-1) N, m) else if what = 3 then some (L - a_ws (m 5029) m (nI w) (-1) N, m) else some (-1, m))
  | d, i, 0, _, h => absurd h (Nat.not_lt_zero _)
  | 0, i, nf + 1, hi, _ => by
    have : i = N := by omega
    subst this
    rw [b_X12_of_25, hN, if_pos (nI_le (Nat.le_refl i) (by omega)), s_daylightM hw, s_peakM hw, s_weightM (c := fun _ => i) hN hN2 (by omega)]
    rfl
  | d + 1, i, nf + 1, hi, hf => by
    have IH := s_of_loop hN hN2 hw what L d (i + 1) nf (by omega) (by omega)
    rw [a_ws_s] at IH
    rw [b_X12_of_25, hN, if_neg (nI_ge (by omega) (by omega))]
    simp only [b_X12_of_56, s_isOn (show i < 24 by omega) (show w < 100 by omega), Option.bind_some, w_ld (show i < 24 by omega) (show 24 ≤ 100000 by decide), nI_1, w_let]
    by_cases e2 : a_W m i = nI w
    · rw [if_pos ⟨nI_neg1 (by omega), e2⟩] at IH
      rw [if_pos e2, if_neg (by decide), ← IH]
      congr 1
      rw [i_eq]
      simp only [Int32.toInt_sub, Int32.toInt_add]
      simp [Int.bmod_def]
      omega
    · rw [if_neg (fun z => e2 z.2), Int32.add_zero] at IH
      rw [if_neg e2, if_pos rfl, Int32.sub_zero]
      exact IH
theorem pub_of {c n : Nat → Nat} {m M : q_MM} (h : a_X c n m M) (a1 a2 : Int32) : a_Tr c M (f_X11_of c M a1 a2) (f_X12_of m a1 a2) := by
  unfold f_X11_of f_X12_of
  simp only [w_let]
  replace h := h.t0
  generalize q_u2 m 5001 0 0 = m at h ⊢
  have hC := h.C
  have hC1 := hC.2.1
  have hC2 := hC.2.2.1
  have := q_fu_le
  by_cases z1 : a_lt a1 (c 1)
  · obtain ⟨w, hw, rfl⟩ := z1
    have h5 : a_B5 c n m M := h 5
    have e2 := (h5.2.2.2.1 w hw).1.2.2.1
    have hl := s_of_loop (m := m) h.Y.N hC2 (show w < 16 by omega) a2 (m 5021 w) (c 2) 0 q_fu (by omega) (by omega)
    have ez : m 5021 w - a_ws (m 5029) m (nI w) (-1) 0 = m 5021 w := Int32.sub_zero _
    rw [ez] at hl
    replace hl : b_X12_of_25 q_fu (nI w) a2 (m 5021 w) 0 m = _ := hl
    simp only [s_wallAt1 h hw, h.isWall1 hw, Option.bind_some, show ¬ 1100 + w = 0 by omega, if_false, show ¬ (1 : Int32) = 0 by decide, w_ld (show w < 16 by omega) (show 16 ≤ 100000 by decide), s_daylight h.Y hw, s_peak h.Y hw, s_weightX h.Y h.H hw, s_widthX h.Y h.H hw, w_ck (t_wall hC hw), e2, hl]
    by_cases q0 : a2 = 0
    · exact ⟨a_ds m w 24, n, m, by simp [q0], by simp [q0], h⟩
    · by_cases q1 : a2 = 1
      · exact ⟨a_pk m w 24, n, m, by simp [q0, q1], by simp [q0, q1], h⟩
      · by_cases q2 : a2 = 2
        · exact ⟨a_ws (m 5031) m (nI w) (-1) (c 2), n, m, by simp [q0, q1, q2], by simp [q0, q1, q2], h⟩
        · by_cases q3 : a2 = 3
          · exact ⟨m 5021 w - a_ws (m 5029) m (nI w) (-1) (c 2), n, m, by simp [q0, q1, q2, q3], by simp [q0, q1, q2, q3], h⟩
          · exact ⟨-1, n, m, by simp [q0, q1, q2, q3], by simp [q0, q1, q2, q3], h⟩
  · exact ⟨-1, n, m, by simp [s_wallAt0 h z1], by simp [h.isWall0 z1], h⟩
