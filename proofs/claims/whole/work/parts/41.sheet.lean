/-! light -/
def a_x5 (x d : Int32) : Nat → Int32
  | 0 => x
  | h + 1 => a_x5 x d h + d
theorem a_x5_s {x d : Int32} {h : Nat} : a_x5 x d (h + 1) = a_x5 x d h + d := rfl
def a_cv (kind x : Int32) : Int32 := if kind = 0 then (Int32.toInt8 x).toInt32 else if kind = 1 then (Int32.toInt16 x).toInt32 else x
def a_cp (s0 : Int32) : Int32 := if 0 < (if s0 < 9999 then s0 else 9999) then (if s0 < 9999 then s0 else 9999) else 0
def a_shv (kind n x d : Int32) (h : Nat) : Int32 := if kind = 3 then 0 else if nI h < n then a_cp (a_cv kind (a_x5 x d h)) else 0
theorem a_cp_rg (x : Int32) : a_rg (a_cp x) 0 9999 := by
  unfold a_cp a_rg
  simp only [i_lt]
  have e1 : (9999 : Int32).toInt = 9999 := rfl
  have e2 : (0 : Int32).toInt = 0 := rfl
  by_cases z : x.toInt < (9999 : Int32).toInt
  · simp only [if_pos z]
    split <;> omega
  · simp only [if_neg z]
    split <;> omega
theorem a_shv_rg (kind n x d : Int32) (h : Nat) : a_rg (a_shv kind n x d h) 0 9999 := by
  unfold a_shv
  have : a_rg 0 0 9999 := ⟨by decide, by decide⟩
  split
  · exact this
  · split
    · exact a_cp_rg _
    · exact this
/-- a row written from i on -/
def a_wr (M : q_MM) (o b : Nat) (f : Nat → Int32) (i : Nat) : q_MM := fun o' k => if o' = o ∧ b + i ≤ k ∧ k < b + 24 then f (k - b) else M o' k
theorem a_wr_24 {M : q_MM} {o b : Nat} {f : Nat → Int32} : a_wr M o b f 24 = M := by
  funext o' k
  unfold a_wr
  rw [if_neg (by omega)]
theorem a_wr_s {M : q_MM} {o b : Nat} {f : Nat → Int32} {i : Nat} (hi : i < 24) : a_wr (q_u2 M o (b + i) (f i)) o b f (i + 1) = a_wr M o b f i := by
  funext o' k
  unfold a_wr
  by_cases z : o' = o ∧ b + i ≤ k ∧ k < b + 24
  · rw [if_pos z]
    by_cases e : k = b + i
    · subst e
      rw [if_neg (by omega), z.1, q_u2_eq, Nat.add_sub_cancel_left]
    · rw [if_pos (by omega)]
  · rw [if_neg z, if_neg (by omega), q_u2_ne (by omega)]
theorem a_wr_out {M : q_MM} {o b : Nat} {f : Nat → Int32} {i o' k : Nat} (h : ¬ (o' = o ∧ b + i ≤ k ∧ k < b + 24)) : a_wr M o b f i o' k = M o' k := if_neg h
theorem a_wr_in {M : q_MM} {o b : Nat} {f : Nat → Int32} {h : Nat} (hh : h < 24) : a_wr M o b f 0 o (b + h) = f h := by
  unfold a_wr
  rw [if_pos ⟨rfl, by omega, by omega⟩, Nat.add_sub_cancel_left]
theorem s_lightM_loop {w : Nat} (hw : w < 16) (kind n x d : Int32) : ∀ (e i nf : Nat) (M : q_MM), i + e = 24 → e < nf → b_X12_light_52 nf (nI w) kind n d (a_x5 x d i) (nI i) M = (if kind = 3 then some (-3, a_wr M 5024 (24 * w) (a_shv kind n x d) i) else (f_X12_daylight (a_wr M 5024 (24 * w) (a_shv kind n x d) i) (nI w)).bind fun r => some (r, a_wr M 5024 (24 * w) (a_shv kind n x d) i))
  | e, i, 0, M, _, h => absurd h (Nat.not_lt_zero _)
  | 0, i, nf + 1, M, hi, _ => by
    have : i = 24 := by omega
    subst this
    rw [b_X12_light_52, if_pos (by decide), a_wr_24]
  | e + 1, i, nf + 1, M, hi, hf => by
    have ih := s_lightM_loop hw kind n x d e (i + 1) nf (q_u2 M 5024 (24 * w + i) (a_shv kind n x d i)) (by omega) (by omega)
    rw [a_wr_s (by omega)] at ih
    have ei : (24 : Int32) * nI w + nI i = nI (24 * w + i) := by rw [show (24 : Int32) = nI 24 from rfl, pk_mul, nI_add]
    have e122 : ∀ v, v = a_shv kind n x d i → b_X12_light_122 (b_X12_light_52 nf) (nI w) kind n d (a_x5 x d i) (nI i) v (nI (24 * w + i)) 5024 M = b_X12_light_52 nf (nI w) kind n d (a_x5 x d (i + 1)) (nI (i + 1)) (q_u2 M 5024 (24 * w + i) (a_shv kind n x d i)) := by
      intro v hv
      unfold b_X12_light_122
      rw [w_ck (show qTM 5024 = 1 from rfl), show qLM 5024 = 384 from rfl, w_as (by omega) (by decide), w_let, nI_1, hv, a_x5_s]
    have e82 : b_X12_light_82 (b_X12_light_52 nf) (nI w) kind n d (a_x5 x d i) (nI i) (a_cv kind (a_x5 x d i)) M = b_X12_light_52 nf (nI w) kind n d (a_x5 x d (i + 1)) (nI (i + 1)) (q_u2 M 5024 (24 * w + i) (a_shv kind n x d i)) := by
      unfold b_X12_light_82 b_X12_light_106
      rw [ei]
      by_cases z1 : kind = 3
      · rw [if_pos z1, e122 _ (by unfold a_shv; rw [if_pos z1])]
      · rw [if_neg z1]
        by_cases z2 : nI i < n
        · rw [if_pos z2, e122 _ (by unfold a_shv a_cp; rw [if_neg z1, if_pos z2])]
        · rw [if_neg z2, e122 _ (by unfold a_shv; rw [if_neg z1, if_neg z2])]
    rw [← ih, b_X12_light_52, if_neg (show ¬ (24 : Int32) ≤ nI i from nI_ge (a := i) (b := 24) (by omega) (by decide)), ← e82]
    unfold a_cv
    by_cases z0 : kind = 0
    · rw [if_pos z0, if_pos z0]
    · rw [if_neg z0, if_neg z0]
      by_cases z1 : kind = 1
      · rw [if_pos z1, if_pos z1]
      · rw [if_neg z1, if_neg z1]
theorem s_bright {c : Nat → Nat} {M : q_MM} {kind x : Int32} : f_X10_brightness c M kind x = some (a_cp (a_cv kind x)) := by
  unfold f_X10_brightness b_X10_brightness_20 a_cv a_cp
  split
  · rfl
  · split <;> rfl
theorem s_sheet_loop {c : Nat → Nat} (hC : a_C c) {w : Nat} (hw : w < c 1) {kind : Int32} (hk : kind ≠ 3) (n x d : Int32) : ∀ (e i nf : Nat) (M : q_MM), i + e = 24 → e < nf → b_X10_readSheet_6 c nf (1100 + w) kind n d (a_x5 x d i) (nI i) M = some (a_wr M (1200 + w) 0 (a_shv kind n x d) i)
  | e, i, 0, M, _, h => absurd h (Nat.not_lt_zero _)
  | 0, i, nf + 1, M, hi, _ => by
    have : i = 24 := by omega
    subst this
    rw [b_X10_readSheet_6, if_pos (by decide), a_wr_24]
  | e + 1, i, nf + 1, M, hi, hf => by
    have h1 := hC.2.1
    have ih := s_sheet_loop hC hw hk n x d e (i + 1) nf (q_u2 M (1200 + w) (0 + i) (a_shv kind n x d i)) (by omega) (by omega)
    rw [a_wr_s (by omega)] at ih
    have e35 : ∀ v, v = a_shv kind n x d i → b_X10_readSheet_35 c (b_X10_readSheet_6 c nf) (1100 + w) kind n d (a_x5 x d i) (nI i) v (nI i) (1200 + w) M = some (a_wr M (1200 + w) 0 (a_shv kind n x d) i) := by
      intro v hv
      unfold b_X10_readSheet_35
      rw [w_ck (t_light hC hw), l_light (by omega), w_as (by omega) (by decide), w_let, nI_1, hv, ← ih, a_x5_s, Nat.zero_add]
    rw [b_X10_readSheet_6, if_neg (show ¬ (24 : Int32) ≤ nI i from nI_ge (a := i) (b := 24) (by omega) (by decide)), w_ck (t_wall hC hw), p_light (by omega), s_bright, Option.bind_some]
    by_cases z : nI i < n
    · rw [if_neg (fun q => by rw [i_le] at q; rw [i_lt] at z; omega), e35 _ (by unfold a_shv; rw [if_neg hk, if_pos z])]
    · rw [if_pos (by rw [i_le]; rw [i_lt] at z; omega), e35 _ (by unfold a_shv; rw [if_neg hk, if_neg z])]
theorem a_X.sheet {c n : Nat → Nat} {m M : q_MM} (h : a_X c n m M) {w : Nat} (hw : w < c 1) {f : Nat → Int32} (hf : ∀ i, a_rg (f i) 0 9999) : a_X c n (a_wr m 5024 (24 * w) f 0) (a_wr M (1200 + w) 0 f 0) := by
  have hC := h.C.2.1
  have h5 : a_B5 c n m M := h 5
  have n1 : ∀ o k, o ≠ 5024 → a_wr m 5024 (24 * w) f 0 o k = m o k := fun o k ho => a_wr_out (fun z => ho z.1)
  have n2 : ∀ o k, o ≠ 1200 + w → a_wr M (1200 + w) 0 f 0 o k = M o k := fun o k ho => a_wr_out (fun z => ho z.1)
  refine h.wr [5] (fun o k => ?_) (fun o k => ?_) (a_one ?_)
  · by_cases e : o = 1200 + w
    · subst e
      exact Or.inl (List.mem_singleton.mpr (oM_light (by omega)))
    · exact Or.inr (Or.inr (n2 o k e))
  · by_cases e : o = 5024
    · subst e
      exact Or.inl (List.mem_singleton.mpr rfl)
    · exact Or.inr (Or.inr (n1 o k e))
  · have f0 : a_wr m 5024 (24 * w) f 0 5020 = m 5020 := funext fun k => n1 _ k (by decide)
    have f1 : a_wr m 5024 (24 * w) f 0 5021 = m 5021 := funext fun k => n1 _ k (by decide)
    have f2 : a_wr m 5024 (24 * w) f 0 5022 = m 5022 := funext fun k => n1 _ k (by decide)
    have f3 : a_wr m 5024 (24 * w) f 0 5023 = m 5023 := funext fun k => n1 _ k (by decide)
    have f5 : a_wr m 5024 (24 * w) f 0 5025 = m 5025 := funext fun k => n1 _ k (by decide)
    have f6 : a_wr m 5024 (24 * w) f 0 5026 = m 5026 := funext fun k => n1 _ k (by decide)
    have f7 : a_wr m 5024 (24 * w) f 0 5086 = m 5086 := funext fun k => n1 _ k (by decide)
    refine ⟨hC, (n1 _ _ (by decide)).trans h5.2.1, (n2 _ _ (by omega)).trans h5.2.2.1, fun v hv => ?_, fun v hv i hi => ?_, fun v hv r hr => ?_, fun v hv hv2 => ?_⟩
    · rw [f0, f1, f2, f3, f5, f6, n2 _ _ (by omega), n2 _ _ (by omega), n2 _ _ (by omega), n2 _ _ (by omega), n2 _ _ (by omega), n2 _ _ (by omega), n2 _ _ (by omega)]
      exact h5.2.2.2.1 v hv
    · by_cases e : v = w
      · subst e
        have := a_wr_in (M := M) (o := 1200 + v) (b := 0) (f := f) hi
        rw [Nat.zero_add] at this
        rw [this, a_wr_in hi]
        exact ⟨rfl, hf i⟩
      · rw [n2 _ _ (by omega), a_wr_out (by omega)]
        exact h5.2.2.2.2.1 v hv i hi
    · rw [f0, f7, n2 _ _ (by omega)]
      exact h5.2.2.2.2.2.1 v hv r hr
    · have := h5.2.2.2.2.2.2 v hv hv2
      refine ⟨fun i hi => ?_, fun r hr => ?_⟩
      · rw [a_wr_out (by omega)]
        exact this.1 i hi
      · rw [f7]
        exact this.2 r hr
theorem pub_light {c n : Nat → Nat} {m M : q_MM} (h : a_X c n m M) (a1 a2 a3 a4 a5 : Int32) : a_T c (f_X11_light c M a1 a2 a3 a4 a5) (f_X12_light m a1 a2 a3 a4 a5) := by
  unfold f_X11_light f_X12_light
  simp only [w_let]
  replace h := h.t0
  generalize q_u2 m 5001 0 0 = m at h ⊢
  have hC := h.C
  have hC1 := hC.2.1
  have hfu := q_fu_le
  by_cases z1 : a_lt a1 (c 1)
  · obtain ⟨w, hw, rfl⟩ := z1
    rw [s_wallAt1 h hw, h.isWall1 hw, Option.bind_some, Option.bind_some, if_neg (by omega), if_neg (show ¬ (1 : Int32) = 0 by decide)]
    by_cases z2 : a_rg a2 0 3
    · have e3 : f_X11_within c M a2 0 3 = some 1 := s_within1 z2 rfl rfl
      have e4 : f_X12_in m (Int32.toInt64 a2) 0 3 = some 1 := s_in1 z2 rfl rfl
      rw [e3, e4, Option.bind_some, Option.bind_some, if_neg (show ¬ (1 : Int32) = 0 by decide), if_neg (show ¬ (1 : Int32) = 0 by decide)]
      have hX := h.sheet hw (f := a_shv a2 a3 a4 a5) (a_shv_rg a2 a3 a4 a5)
      by_cases z3 : a3 ≤ (24 : Int32)
      · rw [if_pos z3, if_pos z3]
        have e45 := s_lightM_loop (show w < 16 by omega) a2 a3 a4 a5 24 0 q_fu m (by omega) (by omega)
        rw [show a_x5 a4 a5 0 = a4 from rfl, show nI 0 = 0 from rfl] at e45
        unfold b_X12_light_45
        by_cases z4 : a2 = 3
        · rw [if_pos z4, if_pos z4, e45, if_pos z4, w_ck (t_wall hC hw), p_light (by omega), s_fill (t_light hC hw) (l_light (by omega)) (by decide), Option.bind_some]
          refine ⟨-3, n, _, _, rfl, rfl, ?_⟩
          have : q_fill M (1200 + w) 0 24 0 = a_wr M (1200 + w) 0 (a_shv a2 a3 a4 a5) 0 := by
            funext o k
            unfold q_fill a_wr a_shv
            rw [if_pos z4]
          rw [this]
          exact hX
        · rw [if_neg z4, if_neg z4]
          by_cases z5 : 0 ≤ a3
          · rw [if_pos z5, if_pos z5, e45, if_neg z4, w_ck (t_wall hC hw)]
            unfold f_X10_readSheet
            have e6 := s_sheet_loop hC hw z4 a3 a4 a5 24 0 q_fu M (by omega) (by omega)
            rw [show a_x5 a4 a5 0 = a4 from rfl, show nI 0 = 0 from rfl] at e6
            rw [e6, Option.bind_some, s_daylight hX.Y hw, s_daylightM (by omega)]
            exact ⟨_, n, _, _, rfl, rfl, hX⟩
          · rw [if_neg z5, if_neg z5]
            exact a_T.no h (-2) rfl rfl
      · rw [if_neg z3, if_neg z3]
        exact a_T.no h (-1) rfl rfl
    · have e3 : f_X11_within c M a2 0 3 = some 0 := s_within0 z2 rfl rfl
      have e4 : f_X12_in m (Int32.toInt64 a2) 0 3 = some 0 := s_inn z2 rfl rfl
      exact a_T.no h (-1) (by simp [e3]) (by simp [e4])
  · exact a_T.no h (-1) (by simp [s_wallAt0 h z1]) (by simp [h.isWall0 z1])
