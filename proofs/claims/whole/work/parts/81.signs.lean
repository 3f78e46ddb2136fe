/-! term: signs -/
def a_lv (s : Nat) : Nat := if s = 33 then 6 else if s = 37 then 5 else if s = 38 then 2 else if s = 42 then 5 else if s = 43 then 4 else if s = 45 then 4 else if s = 47 then 5 else if s = 60 then 3 else if s = 61 then 3 else if s = 62 then 3 else if s = 124 then 1 else if s = 126 then 6 else 0
theorem a_lvt : ∀ s, s < 256 → f_X8_levelOf (fun _ => 0) (fun _ _ => 0) (nI s) = some (nI (a_lv s)) := by decide +kernel
theorem s_levelOf {c : Nat → Nat} {M : q_MM} {s : Nat} (hs : s < 256) : f_X8_levelOf c M (nI s) = some (nI (a_lv s)) := a_lvt s hs
def a_dg (s : Nat) : Prop := 48 ≤ s ∧ s ≤ 57
theorem s_isDigit {c : Nat → Nat} {M : q_MM} {s : Nat} (hs : s < 256) : f_X8_isDigit c M (nI s) = some (a_if (a_dg s) 1 0) := by
  unfold f_X8_isDigit a_dg
  by_cases z1 : s < 48
  · rw [if_pos (show nI s < (48 : Int32) from nI_lt (b := 48) z1 (by decide)), w_bl0, a_ifn (by omega)]
  · rw [if_neg (show ¬ nI s < (48 : Int32) from nI_nlt (b := 48) (by omega) (by omega))]
    by_cases z2 : 57 < s
    · rw [if_pos (show (57 : Int32) < nI s from nI_lt (a := 57) z2 (by omega)), w_bl0, a_ifn (by omega)]
    · rw [if_neg (show ¬ (57 : Int32) < nI s from nI_nlt (a := 57) (by omega) (by decide)), w_bl1, a_ifp (by omega)]
/-- the place of a sign in one of the six constants -/
def a_by (i j : Nat) : Int32 := (q_byt.getD i []).getD j 0
theorem s_ixloop {T L : Nat → Nat} {P : Nat → Nat → Nat} {M : q_MM} {i N : Nat} {x : Int32} (hi : i < 6) (hN : q_len.getD i 0 = N) (hN2 : N ≤ 20) : ∀ (d j nf : Nat), j + d = N → d < nf → b_J1_indexOfChar_4cfef_7 T L P M nf (920 + i) (nI N) x (nI j) = some (a_fnd (a_by i) x d j)
  | d, j, 0, _, h => absurd h (Nat.not_lt_zero _)
  | 0, j, nf + 1, hj, _ => by
    rw [b_J1_indexOfChar_4cfef_7, if_pos (nI_le (by omega) (by omega))]
    rfl
  | d + 1, j, nf + 1, hj, hf => by
    rw [b_J1_indexOfChar_4cfef_7, if_neg (nI_ge (by omega) (by omega)), a_fnd_succ]
    unfold q_bck q_sb
    rw [if_pos (by omega), show 920 + i - 920 = i by omega, hN, if_neg (nI_in (by omega) (by omega)), nI_clamp (by omega), nI_1]
    unfold a_by
    dsimp only
    by_cases z : (q_byt.getD i []).getD j 0 = x
    · rw [if_pos z, if_pos z]
    · rw [if_neg z, if_neg z]
      exact s_ixloop hi hN hN2 d (j + 1) nf (by omega) (by omega)
theorem a_lens : ∀ i, i < 6 → 1 ≤ q_len.getD i 0 ∧ q_len.getD i 0 ≤ 20 := by decide
theorem s_index {T L : Nat → Nat} {P : Nat → Nat → Nat} {M : q_MM} {i s : Nat} (hi : i < 6) (hs : s < 256) : f_J0_indexOf_0f7a4 T L P M (900 + i) (nI s) = some (a_fnd (a_by i) (Int32.toInt8 (nI s)).toInt32 (q_len.getD i 0) 0) := by
  have hfu := q_fu_le
  obtain ⟨l1, l2⟩ := a_lens i hi
  obtain ⟨N, hN⟩ : ∃ N, q_len.getD i 0 = N := ⟨_, rfl⟩
  have sck : ∀ {ρ : Type} {F : Option ρ}, q_sck (900 + i) F = F := if_pos (by omega)
  have bck : ∀ {ρ : Type} {F : Option ρ}, q_bck (900 + i + 20) F = F := if_pos (by omega)
  have elen : f_J0_length_8abf5 T L P M (900 + i) = some (nI N) := by
    unfold f_J0_length_8abf5 f_J0_coder_7d493
    rw [sck, bck, show 900 + i + 20 - 920 = i by omega, hN, if_neg (show ¬ (1 : Int32) = 0 by decide), sck, w_bl0, Option.bind_some]
    congr 1
    rw [show Int32.ofNat N = nI N from rfl, pk_shrN (n := N) (by omega) (0 &&& 31) 0 (by decide), Nat.pow_zero, Nat.div_one]
  unfold f_J0_indexOf_0f7a4 f_J0_indexOf_7cf53 f_J0_isLatin1_aae02
  rw [sck, sck, if_neg (show ¬ (1 : Int32) = 0 by decide), sck, if_pos rfl, w_bl1, Option.bind_some, if_neg (show ¬ (1 : Int32) = 0 by decide), elen, Option.bind_some]
  unfold f_J1_indexOf_4cfef f_J1_canEncode_9a6ad
  rw [if_neg (nI_pos (by omega)), if_neg (show ¬ (255 : Int32) < nI s from nI_nlt (a := 255) (by omega) (by decide)), w_bl1, Option.bind_some, if_neg (show ¬ (1 : Int32) = 0 by decide), w_let, if_neg (show ¬ (0 : Int32) < 0 by decide), bck, w_let, show 900 + i + 20 - 920 = i by omega, hN, show Int32.ofNat N = nI N from rfl, if_neg (nI_nlt (Nat.le_refl N) (by omega)), if_pos (show (0 : Int32) < nI N from nI_lt (a := 0) (by omega) (by omega))]
  unfold f_J1_indexOfChar_4cfef
  rw [w_let, show 900 + i + 20 = 920 + i by omega, show (0 : Int32) = nI 0 from rfl, s_ixloop hi hN (by omega) N 0 q_fu (by omega) (by omega)]
  rfl
def a_set (i : Nat) : List Nat := [[114, 119, 112, 108, 110, 115, 98, 107, 102, 116, 121, 97], [33, 45], [48, 49, 50, 51, 52, 53, 54, 55, 56, 57], [42, 47, 37], [43, 45], [60, 62, 61]].getD i []
theorem a_sett : ∀ s, s < 256 → ∀ i, i < 6 → (a_fnd (a_by i) (Int32.toInt8 (nI s)).toInt32 (q_len.getD i 0) 0 < 0 ↔ s ∉ a_set i) := by decide +kernel
/-- which letter (12: none) -/
def a_li (s : Nat) : Nat := (a_set 0).findIdx (fun x => x == s)
theorem a_lit2 : ∀ s, s < 256 → (a_li s < 12 ↔ s ∈ a_set 0) ∧ (a_li s < 12 → a_fnd (a_by 0) (Int32.toInt8 (nI s)).toInt32 12 0 = nI (a_li s)) := by decide +kernel
theorem a_0set : ∀ i, i < 6 → 0 ∉ a_set i := by decide
/-- the tape, as the reader of the model sees it -/
def a_tp2 (m : q_MM) (t : Nat → Nat) (n : Nat) : Prop := n ≤ 60 ∧ ∀ j, j < n → m 5051 j = nI (t j) ∧ t j < 256
theorem s_isOf {m : q_MM} {t : Nat → Nat} {n p i : Nat} (ht : a_tp2 m t n) (hp : m 5001 43 = nI p) (hpn : p ≤ n) (hi : i < 6) : f_X12_isOf m (nI n) (900 + i) = some (a_if (p < n ∧ t p ∈ a_set i) 1 0) := by
  have hn := ht.1
  unfold f_X12_isOf
  rw [hp]
  by_cases z : p < n
  · obtain ⟨e, ts⟩ := ht.2 p z
    rw [if_neg (nI_ge z (by omega)), w_ld (by omega) (by decide), e]
    by_cases z0 : t p = 0
    · rw [z0, if_pos (by decide), w_bl0, a_ifn (fun q => a_0set i hi q.2)]
    · rw [if_neg (nI_nle (by omega) (by omega)), w_ld (by omega) (by decide), e]
      unfold q_sck
      rw [if_pos (by omega), s_index hi ts, Option.bind_some]
      have tt := a_sett (t p) ts i hi
      by_cases z2 : t p ∈ a_set i
      · rw [if_neg (fun q => tt.mp q z2), w_bl1, a_ifp ⟨z, z2⟩]
      · rw [if_pos (tt.mpr z2), w_bl0, a_ifn (fun q => z2 q.2)]
  · rw [if_pos (nI_le (by omega) (by omega)), w_bl0, a_ifn (fun q => z q.1)]
theorem s_isSign {m : q_MM} {t : Nat → Nat} {n p s : Nat} (ht : a_tp2 m t n) (hp : m 5001 43 = nI p) (hpn : p ≤ n) (hs : s < 256) : f_X12_isSign m (nI n) (nI s) = some (a_if (p < n ∧ t p = s) 1 0) := by
  have hn := ht.1
  unfold f_X12_isSign
  rw [hp]
  by_cases z : p < n
  · obtain ⟨e, ts⟩ := ht.2 p z
    rw [if_neg (nI_ge z (by omega)), w_ld (by omega) (by decide), e]
    by_cases z2 : t p = s
    · rw [if_pos (by rw [z2]), w_bl1, a_ifp ⟨z, z2⟩]
    · rw [if_neg (fun q => z2 (nI_inj (by omega) (by omega) q)), w_bl0, a_ifn (fun q => z2 q.2)]
  · rw [if_pos (nI_le (by omega) (by omega)), w_bl0, a_ifn (fun q => z q.1)]
/-- the model's code so far: the marks K of term number u; where it reads -/
def a_mk (m : q_MM) (u : Nat) (K : List Int32) (p : Nat) : Prop := u < 30 ∧ m 5001 44 = nI u ∧ m 5050 u = nI K.length ∧ (∀ j, j < K.length → m 5049 (64 * u + j) = K.getD j 0) ∧ m 5001 43 = nI p
/-- what the reader of the model writes -/
def a_fm (u : Nat) (m m' : q_MM) : Prop := ∀ o j, ¬ (o = 5001 ∧ j = 43) → ¬ (o = 5050 ∧ j = u) → ¬ (o = 5049 ∧ 64 * u ≤ j) → m' o j = m o j
theorem a_fm.rf {u : Nat} {m : q_MM} : a_fm u m m := fun _ _ _ _ _ => rfl
theorem a_fm.trans {u : Nat} {m m' m'' : q_MM} (h : a_fm u m m') (h' : a_fm u m' m'') : a_fm u m m'' := fun o j a b d => (h' o j a b d).trans (h o j a b d)
theorem a_tp2.fm {m m' : q_MM} {t : Nat → Nat} {n u : Nat} (h : a_tp2 m t n) (hm : a_fm u m m') : a_tp2 m' t n := ⟨h.1, fun j hj => by rw [hm 5051 j (by omega) (by omega) (by omega)]; exact h.2 j hj⟩
theorem a_mk.at {m : q_MM} {u : Nat} {K : List Int32} {p p' : Nat} (h : a_mk m u K p) : a_mk (q_u2 m 5001 43 (nI p')) u K p' ∧ a_fm u m (q_u2 m 5001 43 (nI p')) := by
  obtain ⟨h1, h2, h3, h4, h5⟩ := h
  exact ⟨⟨h1, by rw [q_u2_ne (by omega)]; exact h2, by rw [q_u2_ne (by omega)]; exact h3, fun j hj => by rw [q_u2_ne (by omega)]; exact h4 j hj, q_u2_eq⟩, fun o j a _ _ => q_u2_ne a⟩
theorem s_marks {m : q_MM} {u p : Nat} {K : List Int32} {v : Int32} (h : a_mk m u K p) (hK : K.length < 64) : ∃ m', f_X12_marks m v = some m' ∧ a_mk m' u (K ++ [v]) p ∧ a_fm u m m' := by
  obtain ⟨h1, h2, h3, h4, h5⟩ := h
  refine ⟨q_u2 (q_u2 m 5049 (64 * u + K.length) v) 5050 u (nI (K.length + 1)), ?_, ⟨h1, ?_, ?_, fun j hj => ?_, ?_⟩, fun o j a b d => ?_⟩
  · unfold f_X12_marks
    rw [h2, w_ld (by omega) (by decide), h3, show (64 : Int32) * nI u + nI K.length = nI (64 * u + K.length) from by rw [show (64 : Int32) = nI 64 from rfl, pk_mul, nI_add], w_as (by omega) (by decide), q_u2_ne (M := m) (by omega), h2, w_ld (by omega) (by decide), q_u2_ne (M := m) (by omega), h3, w_as (by omega) (by decide), nI_1]
  · rw [q_u2_ne (by omega), q_u2_ne (by omega)]; exact h2
  · rw [q_u2_eq, List.length_append]; rfl
  · rw [List.length_append] at hj
    have hj : j < K.length + 1 := hj
    rw [q_u2_ne (by omega)]
    by_cases e : j = K.length
    · subst e
      rw [q_u2_eq]
      simp [List.getD]
    · rw [q_u2_ne (by omega), h4 j (by omega)]
      simp [List.getD, List.getElem?_append_left (show j < K.length by omega)]
  · rw [q_u2_ne (by omega), q_u2_ne (by omega)]; exact h5
  · rw [q_u2_ne b, q_u2_ne (fun q => d ⟨q.1, by omega⟩)]
