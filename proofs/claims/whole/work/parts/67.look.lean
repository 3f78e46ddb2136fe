/-! nights: what each set of moves allows and touches -/
def a_rm (σ : q_MM) (i : Nat) : Int32 := (if σ 5040 (σ 5077 i).toNatClampNeg = 1 then (1 : Int32) <<< (σ 5020 (σ 5041 (σ 5077 i).toNatClampNeg).toNatClampNeg &&& 31) else 0) ||| ((1 : Int32) <<< (σ 5020 (σ 5078 i).toNatClampNeg &&& 31))
def a_tc (σ : q_MM) (S : Nat) : Nat → Int32
  | 0 => 0
  | i + 1 => if S.testBit i = true then a_tc σ S i ||| a_rm σ i else a_tc σ S i
theorem a_tc_s {σ : q_MM} {S i : Nat} : a_tc σ S (i + 1) = if S.testBit i = true then a_tc σ S i ||| a_rm σ i else a_tc σ S i := rfl
theorem a_tc_cong {σ σ' : q_MM} {S : Nat} (h : ∀ o, o ≠ 5083 → σ' o = σ o) : ∀ i, a_tc σ' S i = a_tc σ S i
  | 0 => rfl
  | i + 1 => by
    rw [a_tc_s, a_tc_s, a_tc_cong h i]
    unfold a_rm
    rw [h 5040 (by decide), h 5041 (by decide), h 5077 (by decide), h 5078 (by decide), h 5020 (by decide)]
theorem a_mv {c n : Nat → Nat} {σ M : q_MM} (h : a_X c n σ M) {k : Nat} (hk : σ 5001 66 = nI k) (hk8 : k ≤ 8) : M 39 1 = nI k ∧ M 40 1 = nI k ∧ M 41 1 = nI k ∧ ∀ i, i < k → ∃ p w, p < c 2 ∧ w < c 1 ∧ σ 5077 i = nI p ∧ M 89 i = nI p ∧ σ 5078 i = nI w ∧ M 90 i = nI w ∧ M 91 i = σ 5079 i := by
  obtain ⟨⟨k1, q1, q2, q3, q4⟩, ⟨k2, s1, s2, s3, s4⟩, ⟨k3, t1, t2, t3, t4⟩, hd⟩ := (h 16 : a_B16 c n σ M)
  have : k1 = k := nI_inj (by omega) (by omega) (q3.symm.trans hk)
  subst this
  have : k2 = k1 := nI_inj (by omega) (by omega) (s3.symm.trans hk)
  subst this
  have : k3 = k2 := nI_inj (by omega) (by omega) (t3.symm.trans hk)
  subst this
  refine ⟨q2, s2, t2, fun i hi => ?_⟩
  obtain ⟨e1, ⟨p, hp, ep⟩⟩ := q4 i hi
  obtain ⟨e2, ⟨w, hw, ew⟩⟩ := s4 i hi
  exact ⟨p, w, hp, hw, ep, e1.trans ep, ew, e2.trans ew, (t4 i hi).1⟩
theorem s_rooms_loop {c : Nat → Nat} {σ m : q_MM} {k S : Nat} (hc : a_C c) (hk8 : k ≤ 8) (hm66 : m 5001 66 = nI k) (r77 : ∀ j, m 5077 j = σ 5077 j) (r78 : ∀ j, m 5078 j = σ 5078 j) (r20 : ∀ j, m 5020 j = σ 5020 j) (h80 : ∀ p, p < c 2 → m 5080 p = σ 5040 p ∧ m 5081 p = σ 5041 p) (hV : ∀ p, p < c 2 → σ 5040 p = 1 → a_lt (σ 5041 p) (c 1)) (hmv : ∀ i, i < k → ∃ p w, p < c 2 ∧ w < c 1 ∧ σ 5077 i = nI p ∧ σ 5078 i = nI w) : ∀ (d i nf : Nat), i + d = k → d < nf → b_X12_roomsTouched_4 m nf (nI S) (a_tc σ S i) (nI i) = some (nI (fb_ct (bt (a_tc σ S k)) 32))
  | d, i, 0, _, h => absurd h (Nat.not_lt_zero _)
  | 0, i, nf + 1, hi, _ => by
    have : i = k := by omega
    subst this
    rw [b_X12_roomsTouched_4, hm66, if_pos (nI_le (by omega) (by omega)), s_bits, Option.bind_some]
  | d + 1, i, nf + 1, hi, hf => by
    have hC1 := hc.2.1
    have hC2 := hc.2.2.1
    have nx := s_rooms_loop (S := S) hc hk8 hm66 r77 r78 r20 h80 hV hmv d (i + 1) nf (by omega) (by omega)
    have nb : bt (nI S) i = S.testBit i := b_nI (by omega)
    rw [b_X12_roomsTouched_4, hm66, if_neg (nI_ge (by omega) (by omega))]
    unfold b_X12_roomsTouched_77 b_X12_roomsTouched_79
    rw [nI_1]
    cases z : S.testBit i
    · rw [if_pos ((b_sh1 _ (by omega)).mpr (nb.trans z))]
      rw [a_tc_s, z, if_neg (by decide)] at nx
      exact nx
    · obtain ⟨p, w, hp, hw, ep, ew⟩ := hmv i (by omega)
      rw [a_tc_s, z, if_pos rfl] at nx
      rw [if_neg (fun q => by rw [(b_sh1 _ (by omega)).mp q, z] at nb; cases nb), w_ld (by omega) (by decide), r78, ew, w_ld (by omega) (by decide), r20, w_let, w_ld (by omega) (by decide), r77, ep, w_ld (by omega) (by decide), (h80 p hp).1]
      unfold a_rm at nx
      rw [ep, ew, nI_clamp (by omega), nI_clamp (by omega)] at nx
      by_cases z2 : σ 5040 p = 1
      · obtain ⟨w2, hw2, ew2⟩ := hV p hp z2
        rw [if_pos z2, ew2, nI_clamp (by omega)] at nx
        rw [if_pos z2, w_ld (by omega) (by decide), r77, ep, w_ld (by omega) (by decide), (h80 p hp).2, ew2, w_ld (by omega) (by decide), r20, w_let, Int32.or_assoc, Int32.or_comm ((1 : Int32) <<< (σ 5020 w &&& 31))]
        exact nx
      · rw [if_neg z2] at nx
        rw [if_neg z2, w_let, Int32.or_assoc, Int32.or_comm ((1 : Int32) <<< (σ 5020 w &&& 31))]
        exact nx
/-- a trial that stands: what is asked of it -/
def a_tf (c n : Nat → Nat) (σ m M : q_MM) : Prop := a_X c n σ M ∧ a_t8 σ m ∧ a_H c m M 62 64 ∧ a_V c m ∧ ∀ p, p < c 2 → m 5080 p = σ 5040 p ∧ m 5081 p = σ 5041 p
theorem a_tf.fr {c n : Nat → Nat} {σ m M m' M' : q_MM} (h : a_tf c n σ m M) (hM : ∀ o, o ≠ 42 → o ≠ 43 → M' o = M o) (hm : ∀ o, o ≠ 5083 → m' o = m o) : a_tf c n σ m' M' := by
  obtain ⟨h1, h2, h3, h4, h5⟩ := h
  refine ⟨h1.scr (fun o k => ?_), fun o k a1 a2 => ?_, ?_, fun p hp hs => ?_, fun p hp => ?_⟩
  · by_cases e : o = 42 ∨ o = 43
    · rcases e with rfl | rfl <;> exact Or.inr (Or.inl rfl)
    · rw [hM o (by omega) (by omega)]
      exact Or.inr (Or.inr rfl)
  · rw [hm o (by rintro rfl; exact a2 rfl)]
    exact h2 o k a1 a2
  · have g : a_H c m M' 62 64 := h3.fr (hM 62 (by decide) (by decide)) (hM 64 (by decide) (by decide))
    have eW : a_W m' = a_W m := by
      funext q
      unfold a_W
      rw [hm 5040 (by decide), hm 5041 (by decide)]
    unfold a_H at *
    rw [eW, hm 5042 (by decide)]
    exact g
  · rw [hm 5040 (by decide)] at hs
    rw [hm 5041 (by decide), hm 5042 (by decide)]
    exact h4 p hp hs
  · rw [hm 5080 (by decide), hm 5081 (by decide)]
    exact h5 p hp
def a_cs (c : Nat → Nat) (σ m : q_MM) (p w i : Nat) : Prop := (σ 5040 p = 0 ∨ σ 5040 p = 1) ∧ a_w4 c m p w (σ 5079 i) = 0
theorem s_canStand {c n : Nat → Nat} {σ m M : q_MM} (h : a_tf c n σ m M) {k i p w : Nat} (hk8 : k ≤ 8) (hi : i < k) (q39 : M 39 1 = nI k) (q40 : M 40 1 = nI k) (q41 : M 41 1 = nI k) (hp : p < c 2) (hw : w < c 1) (e89 : M 89 i = nI p) (e90 : M 90 i = nI w) (e91 : M 91 i = σ 5079 i) : f_X3_canStand c M (nI i) = some (a_if (a_cs c σ m p w i) 1 0) := by
  obtain ⟨hX, ht, hH, hV, h80⟩ := h
  have hC := hX.C
  have hC1 := hC.2.1
  have hC2 := hC.2.2.1
  have y := hX.tY ht
  have g1 := s_get1 (c := c) (M := M) (o := 39) (r := 89) (N := 8) (k := k) (i := i) (by decide) q39 (by omega) (by omega)
  have g2 := s_get1 (c := c) (M := M) (o := 40) (r := 90) (N := 8) (k := k) (i := i) (by decide) q40 (by omega) (by omega)
  have g3 := s_get1 (c := c) (M := M) (o := 41) (r := 91) (N := 8) (k := k) (i := i) (by decide) q41 (by omega) (by omega)
  rw [e89] at g1
  rw [e90] at g2
  rw [e91] at g3
  unfold f_X3_canStand
  rw [g1, Option.bind_some]
  by_cases z : σ 5040 p = 0 ∨ σ 5040 p = 1
  · rw [s_present1 hX hp z, Option.bind_some, g2, Option.bind_some, s_wallAt1 hX hw, Option.bind_some, if_neg (by omega), if_neg (by omega), g3, Option.bind_some, s_hindrance y (o := 22) (a := 62) (b := 64) (by decide) hH hV hp hw, Option.bind_some]
    by_cases z2 : a_w4 c m p w (σ 5079 i) = 0
    · rw [if_pos z2, w_bl1, a_ifp ⟨z, z2⟩]
    · rw [if_neg z2, w_bl0, a_ifn (fun q => z2 q.2)]
  · have nh : ¬ a_here c σ (nI p) := by
      rintro ⟨p', hp', e, hz⟩
      have : p' = p := nI_inj (by omega) (by omega) e.symm
      subst this
      exact z hz
    rw [s_present0 hX nh, Option.bind_some, g2, Option.bind_some, s_wallAt1 hX hw, Option.bind_some, if_pos rfl, w_bl0, a_ifn (fun q => z q.1)]
theorem s_roomsOf {c n : Nat → Nat} {σ M : q_MM} (hX : a_X c n σ M) {k i p w : Nat} (hk8 : k ≤ 8) (hi : i < k) (q39 : M 39 1 = nI k) (q40 : M 40 1 = nI k) (hp : p < c 2) (hw : w < c 1) (e77 : σ 5077 i = nI p) (e78 : σ 5078 i = nI w) (e89 : M 89 i = nI p) (e90 : M 90 i = nI w) : f_X3_roomsOf c M (nI i) = some (a_rm σ i) := by
  have hC := hX.C
  have hC1 := hC.2.1
  have hC2 := hC.2.2.1
  have h8 : a_B8 c n σ M := hX 8
  have h5 : a_B5 c n σ M := hX 5
  have g1 := s_get1 (c := c) (M := M) (o := 39) (r := 89) (N := 8) (k := k) (i := i) (by decide) q39 (by omega) (by omega)
  have g2 := s_get1 (c := c) (M := M) (o := 40) (r := 90) (N := 8) (k := k) (i := i) (by decide) q40 (by omega) (by omega)
  rw [e89] at g1
  rw [e90] at g2
  unfold f_X3_roomsOf a_rm
  rw [g1, Option.bind_some, s_wallUnder (a := 61) (b := 63) (by decide) (by omega), Option.bind_some, e77, e78, nI_clamp (by omega), nI_clamp (by omega)]
  have g8 := h8.2.1 p hp
  have rw5 := (h5.2.2.2.1 w hw).1.2.1
  by_cases z : σ 5040 p = 1
  · obtain ⟨⟨w2, hw2, ew2⟩, -⟩ := g8.2.2.2.2.1 z
    have rw6 := (h5.2.2.2.1 w2 hw2).1.2.1
    rw [g8.1, ew2, s_wallAt1 hX hw2, Option.bind_some, g2, Option.bind_some, s_wallAt1 hX hw, Option.bind_some, if_neg (by omega), w_ck (t_wall hC hw2)]
    unfold b_X3_roomsOf_56 b_X3_roomsOf_70
    rw [if_neg (by omega), w_ck (t_wall hC hw), rw5, rw6, if_pos z, nI_clamp (by omega)]
  · have g9 := (g8.2.2.2.2.2 z).1
    rw [g8.1, g9, s_wallAt0 hX (a_ltm1 (by omega)), Option.bind_some, g2, Option.bind_some, s_wallAt1 hX hw, Option.bind_some, if_pos rfl]
    unfold b_X3_roomsOf_56 b_X3_roomsOf_70
    rw [if_neg (by omega), w_ck (t_wall hC hw), rw5, if_neg z]
theorem s_150 {k70 : Int32 → Int32 → Int32 → Int32 → Int32 → q_MM → Option (Int32 × q_MM)} {x1 x2 x3 x4 x5 s0 s1 : Int32} {t : Nat} (ht : t < 256) {M : q_MM} : b_X12_nights_150 k70 x1 x2 x3 x4 x5 s0 s1 (nI t) 5083 M = k70 x1 x2 x3 x4 (x5 + 1) (q_u2 M 5083 t (s1 ||| s0)) := by
  unfold b_X12_nights_150
  rw [w_ck (show qTM 5083 = 1 from rfl), show qLM 5083 = 256 from rfl, w_as ht (by decide)]
theorem s_look_in {c n : Nat → Nat} {σ : q_MM} {k t : Nat} {k7 : Int32 → Int32 → q_MM → Option q_MM} {k47 : Int32 → Int32 → Int32 → Int32 → q_MM → Option (Int32 × q_MM)} {x1 a1 a2 x3 : Int32} (hk : σ 5001 66 = nI k) (hk8 : k ≤ 8) (ht : t < 2 ^ k) : ∀ (d i nf nf' : Nat) (m M : q_MM), i + d = k → d < nf → d < nf' → a_tf c n σ m M → M 42 t = m 5083 t → M 43 t = a_tc σ t i → (∀ j, bt (M 42 t) j = true → j < i ∧ t.testBit j = false) → ∃ m' M', b_X3_lookAtSets_33 c k7 nf x1 (nI t) (nI i) M = k7 x1 (nI (t + 1)) M' ∧ b_X12_nights_70 k47 nf' a1 a2 x3 (nI t) (nI i) m = k47 a1 a2 x3 (nI (t + 1)) m' ∧ (∀ o j, ¬ ((o = 42 ∨ o = 43) ∧ j = t) → M' o j = M o j) ∧ (∀ o j, ¬ (o = 5083 ∧ j = t) → m' o j = m o j) ∧ M' 42 t = m' 5083 t ∧ M' 43 t = a_tc σ t k ∧ ∀ j, bt (M' 42 t) j = true → j < k ∧ t.testBit j = false
  | d, i, 0, _, _, _, _, h, _, _, _, _, _ => absurd h (Nat.not_lt_zero _)
  | d, i, _ + 1, 0, _, _, _, _, h, _, _, _, _ => absurd h (Nat.not_lt_zero _)
  | 0, i, nf + 1, nf' + 1, m, M, hi, _, _, h, e1, e2, e3 => by
    have : i = k := by omega
    subst this
    obtain ⟨q39, q40, q41, hmv⟩ := a_mv h.1 hk hk8
    have f66 : m 5001 66 = σ 5001 66 := h.2.1 5001 66 (by decide) (by decide)
    refine ⟨m, M, ?_, ?_, fun _ _ _ => rfl, fun _ _ _ => rfl, e1, e2, e3⟩
    · rw [b_X3_lookAtSets_33, q39, if_pos (nI_le (by omega) (by omega)), nI_1]
    · rw [b_X12_nights_70, f66, hk, if_pos (nI_le (by omega) (by omega)), nI_1]
  | d + 1, i, nf + 1, nf' + 1, m, M, hi, hf, hf', h, e1, e2, e3 => by
    have p2 := a_p8 hk8
    obtain ⟨q39, q40, q41, hmv⟩ := a_mv h.1 hk hk8
    obtain ⟨p, w, hp, hw, e77, e89, e78, e90, e91⟩ := hmv i (by omega)
    have hX := h.1
    have hC := hX.C
    have hC1 := hC.2.1
    have hC2 := hC.2.2.1
    have f66 : m 5001 66 = σ 5001 66 := h.2.1 5001 66 (by decide) (by decide)
    have r77 : m 5077 = σ 5077 := h.2.1.row 5077 16 (fun _ => rfl) (by decide) (by decide)
    have r78 : m 5078 = σ 5078 := h.2.1.row 5078 16 (fun _ => rfl) (by decide) (by decide)
    have r79 : m 5079 = σ 5079 := h.2.1.row 5079 16 (fun _ => rfl) (by decide) (by decide)
    have nb : bt (nI t) i = t.testBit i := b_nI (by omega)
    rw [b_X3_lookAtSets_33, q39, if_neg (nI_ge (by omega) (by omega)), b_X12_nights_70, f66, hk, if_neg (nI_ge (by omega) (by omega)), w_ld (M := m) (o := 5083) (by omega) (by decide)]
    unfold b_X3_lookAtSets_89 b_X12_nights_149
    cases z : t.testBit i
    · -- not in the set
      have z' : ((nI t >>> (nI i &&& 31)) &&& 1) = 0 := (b_sh1 _ (by omega)).mpr (nb.trans z)
      rw [if_pos z', if_pos z', s_canStand h hk8 (show i < k by omega) q39 q40 q41 hp hw e89 e90 e91, Option.bind_some, w_ld (M := m) (o := 5077) (by omega) (by decide), r77, e77, w_ld (M := m) (o := 5080) (by omega) (by decide), (h.2.2.2.2 p hp).1]
      have no : ∀ z2 : ¬ a_cs c σ m p w i, ∃ m' M', b_X3_lookAtSets_33 c k7 nf x1 (nI t) (nI (i + 1)) M = k7 x1 (nI (t + 1)) M' ∧ b_X12_nights_70 k47 nf' a1 a2 x3 (nI t) (nI (i + 1)) (q_u2 m 5083 t (m 5083 t ||| 0)) = k47 a1 a2 x3 (nI (t + 1)) m' ∧ (∀ o j, ¬ ((o = 42 ∨ o = 43) ∧ j = t) → M' o j = M o j) ∧ (∀ o j, ¬ (o = 5083 ∧ j = t) → m' o j = m o j) ∧ M' 42 t = m' 5083 t ∧ M' 43 t = a_tc σ t k ∧ ∀ j, bt (M' 42 t) j = true → j < k ∧ t.testBit j = false := by
        intro z2
        obtain ⟨m', M', g1, g2, g3, g4, g5⟩ := s_look_in (k7 := k7) (k47 := k47) (x1 := x1) (a1 := a1) (a2 := a2) (x3 := x3) hk hk8 ht d (i + 1) nf nf' (q_u2 m 5083 t (m 5083 t ||| 0)) M (by omega) (by omega) (by omega) (h.fr (fun _ _ _ => rfl) (fun o ho => funext fun j => q_u2_ne (fun q => ho q.1))) (by rw [q_u2_eq, Int32.or_zero]; exact e1) (by rw [a_tc_s, z, if_neg (by decide)]; exact e2) (fun j hj => ⟨by have := (e3 j hj).1; omega, (e3 j hj).2⟩)
        exact ⟨m', M', g1, g2, g3, fun o j ho => (g4 o j ho).trans (q_u2_ne ho), g5⟩
      by_cases z2 : a_cs c σ m p w i
      · have n2 : ¬ (2 : Int32) ≤ σ 5040 p := by rcases z2.1 with q | q <;> rw [q] <;> decide
        rw [a_ifp z2, if_neg (show ¬ (1 : Int32) = 0 by decide), w_ld (by omega) (by decide), w_as (by omega) (by decide), if_neg n2, w_ld (by omega) (by decide), w_ld (by omega) (by decide), w_ld (by omega) (by decide), r77, r78, r79, e77, e78, s_wrong4 (c := c) (hX.tY h.2.1).N hC2 (by omega) (by omega), Option.bind_some]
        dsimp only
        rw [if_pos z2.2, s_150 (by omega), nI_1, ← e1]
        obtain ⟨m', M', g1, g2, g3, g4, g5⟩ := s_look_in (k7 := k7) (k47 := k47) (x1 := x1) (a1 := a1) (a2 := a2) (x3 := x3) hk hk8 ht d (i + 1) nf nf' (q_u2 m 5083 t (M 42 t ||| (1 : Int32) <<< (nI i &&& 31))) (q_u2 M 42 t (M 42 t ||| (1 : Int32) <<< (nI i &&& 31))) (by omega) (by omega) (by omega) (h.fr (fun o ho _ => funext fun j => q_u2_ne (fun q => ho q.1)) (fun o ho => funext fun j => q_u2_ne (fun q => ho q.1))) (by rw [q_u2_eq, q_u2_eq]) (by rw [q_u2_ne (by omega), a_tc_s, z, if_neg (by decide)]; exact e2) (fun j hj => by
          rw [q_u2_eq, b_or] at hj
          by_cases j32 : j < 32
          · rw [b_one i (by omega) j j32] at hj
            by_cases q : j = i
            · subst q
              exact ⟨by omega, z⟩
            · have : bt (M 42 t) j = true := by simpa [q] using hj
              exact ⟨by have := (e3 j this).1; omega, (e3 j this).2⟩
          · rw [b_big (by omega), b_big (by omega)] at hj
            cases hj)
        exact ⟨m', M', g1, g2, fun o j ho => (g3 o j ho).trans (q_u2_ne (fun q => ho ⟨Or.inl q.1, q.2⟩)), fun o j ho => (g4 o j ho).trans (q_u2_ne ho), g5⟩
      · rw [a_ifn z2, if_pos rfl, nI_1]
        by_cases n2 : (2 : Int32) ≤ σ 5040 p
        · rw [if_pos n2, s_150 (by omega), nI_1]
          exact no z2
        · have z1 : σ 5040 p = 0 ∨ σ 5040 p = 1 := by
            obtain ⟨s, hs, es⟩ := ((hX 8 : a_B8 c n σ M).2.1 p hp).2.2.2.1
            rcases (show s = 0 ∨ s = 1 ∨ s = 2 ∨ s = 3 by omega) with rfl | rfl | rfl | rfl
            · exact Or.inl es
            · exact Or.inr es
            · exact absurd (show (2 : Int32) ≤ σ 5040 p by rw [es]; decide) n2
            · exact absurd (show (2 : Int32) ≤ σ 5040 p by rw [es]; decide) n2
          rw [if_neg n2, w_ld (by omega) (by decide), w_ld (by omega) (by decide), w_ld (by omega) (by decide), r77, r78, r79, e77, e78, s_wrong4 (c := c) (hX.tY h.2.1).N hC2 (by omega) (by omega), Option.bind_some]
          dsimp only
          rw [if_neg (fun q => z2 ⟨z1, q⟩), s_150 (by omega), nI_1]
          exact no z2
    · have z' : ¬ ((nI t >>> (nI i &&& 31)) &&& 1) = 0 := fun q => by
        rw [(b_sh1 _ (by omega)).mp q, z] at nb
        cases nb
      rw [if_neg z', if_neg z', w_ld (by omega) (by decide), s_roomsOf hX hk8 (show i < k by omega) q39 q40 hp hw e77 e78 e89 e90, Option.bind_some, w_as (by omega) (by decide), s_150 (by omega), nI_1]
      obtain ⟨m', M', g1, g2, g3, g4, g5⟩ := s_look_in (k7 := k7) (k47 := k47) (x1 := x1) (a1 := a1) (a2 := a2) (x3 := x3) hk hk8 ht d (i + 1) nf nf' (q_u2 m 5083 t (m 5083 t ||| 0)) (q_u2 M 43 t (M 43 t ||| a_rm σ i)) (by omega) (by omega) (by omega) (h.fr (fun o _ ho => funext fun j => q_u2_ne (fun q => ho q.1)) (fun o ho => funext fun j => q_u2_ne (fun q => ho q.1))) (by rw [q_u2_eq, Int32.or_zero, q_u2_ne (by omega)]; exact e1) (by rw [q_u2_eq, a_tc_s, z, if_pos rfl, e2]) (fun j hj => by
        rw [q_u2_ne (by omega)] at hj
        exact ⟨by have := (e3 j hj).1; omega, (e3 j hj).2⟩)
      exact ⟨m', M', g1, g2, fun o j ho => (g3 o j ho).trans (q_u2_ne (fun q => ho ⟨Or.inr q.1, q.2⟩)), fun o j ho => (g4 o j ho).trans (q_u2_ne ho), g5⟩
