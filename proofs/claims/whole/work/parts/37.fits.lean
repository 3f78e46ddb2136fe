/-! 1 to 5 of FITS -/
theorem a_l2 (x y : Int32) : (x.toInt64 + y.toInt64).toInt = x.toInt + y.toInt := by
  have hx := fb_rng x
  have hy := fb_rng y
  rw [fb_addL, Int32.toInt_toInt64, Int32.toInt_toInt64] <;> rw [Int32.toInt_toInt64, Int32.toInt_toInt64] <;> omega
theorem a_l3 (x y z : Int32) : (x.toInt64 + y.toInt64 + z.toInt64).toInt = x.toInt + y.toInt + z.toInt := by
  have hx := fb_rng x
  have hy := fb_rng y
  have hz := fb_rng z
  rw [fb_addL, a_l2, Int32.toInt_toInt64] <;> rw [a_l2, Int32.toInt_toInt64] <;> omega
def a_cl (m : q_MM) (p i : Nat) (x : Int32) : Prop := (m 5042 i).toInt + (m 5029 i).toInt + (m 5027 1).toInt ≤ x.toInt ∨ x.toInt + (m 5029 p).toInt + (m 5027 1).toInt ≤ (m 5042 i).toInt
def a_bad (m : q_MM) (p : Nat) (w x : Int32) (i : Nat) : Prop := i ≠ p ∧ a_W m i = w ∧ ¬ a_cl m p i x
def a_bd (m : q_MM) (p : Nat) (w x : Int32) (N : Nat) : Prop := ∃ j, j < N ∧ a_bad m p w x j
def a_hi (m : q_MM) (p w : Nat) : Prop := ¬ ((2 : Int32) * m 5027 0 < m 5030 p) ∧ ¬ ((2 : Int32) * (m 5022 w - m 5027 0) < m 5030 p)
noncomputable def a_w4 (c : Nat → Nat) (m : q_MM) (p w : Nat) (x : Int32) : Int32 := a_if (x.toInt < 0 ∨ (m 5021 w).toInt < x.toInt + (m 5029 p).toInt) 1 (a_if (¬ a_hi m p w) 2 (a_if (a_bd m p (nI w) x (c 2)) 3 (if m 5031 p + a_ws (m 5031) m (nI w) (nI p) (c 2) ≤ m 5023 w then 0 else 4)))
noncomputable def a_fr (m : q_MM) (p w N : Nat) (x acc : Int32) (i : Nat) : Int32 := a_if (acc = 1 ∧ ∀ j, i ≤ j → j < N → ¬ a_bad m p (nI w) x j) 1 0
theorem a_fr0 {m : q_MM} {p w N : Nat} {x : Int32} {i : Nat} : a_fr m p w N x 0 i = 0 := a_ifn (fun z => absurd z.1 (by decide))
theorem a_fr_ok {m : q_MM} {p w N : Nat} {x : Int32} {i : Nat} (z : ¬ a_bad m p (nI w) x i) : a_fr m p w N x 1 (i + 1) = a_fr m p w N x 1 i := by
  unfold a_fr
  congr 1
  apply propext
  constructor
  · rintro ⟨-, z2⟩
    refine ⟨rfl, fun j h1 h2 => ?_⟩
    by_cases e : j = i
    · exact e ▸ z
    · exact z2 j (by omega) h2
  · exact fun q => ⟨rfl, fun j h1 h2 => q.2 j (by omega) h2⟩
theorem a_fr_bad {m : q_MM} {p w N : Nat} {x : Int32} {i : Nat} (hi : i < N) (z : a_bad m p (nI w) x i) : a_fr m p w N x 1 i = 0 := a_ifn (fun q => q.2 i (Nat.le_refl i) hi z)
theorem s_isFree_loop {m : q_MM} {N p w : Nat} {x : Int32} (hN : m 5001 18 = nI N) (hN2 : N ≤ 24) (hw : w < 100) (hp : p < 24) : ∀ (d i nf : Nat) (acc : Int32), i + d = N → d < nf → (acc = 0 ∨ acc = 1) → b_X12_isFree_6 m nf (nI p) (nI w) x acc (nI i) = some (a_fr m p w N x acc i)
  | d, i, 0, _, _, h, _ => absurd h (Nat.not_lt_zero _)
  | 0, i, nf + 1, acc, hi, _, ha => by
    have : i = N := by omega
    subst this
    rw [b_X12_isFree_6, hN, if_pos (nI_le (Nat.le_refl i) (by omega))]
    rcases ha with rfl | rfl
    · rw [w_bl0, a_fr0]
    · unfold a_fr
      rw [w_bl1, a_ifp ⟨rfl, fun j h1 h2 => by omega⟩]
  | d + 1, i, nf + 1, acc, hi, hf, ha => by
    have IH1 := s_isFree_loop (x := x) hN hN2 hw hp d (i + 1) nf 1 (by omega) (by omega) (Or.inr rfl)
    have IH0 := s_isFree_loop (x := x) hN hN2 hw hp d (i + 1) nf 0 (by omega) (by omega) (Or.inl rfl)
    rw [a_fr0] at IH0
    rw [b_X12_isFree_6, hN, if_neg (nI_ge (by omega) (by omega))]
    simp only [b_X12_isFree_76, b_X12_isFree_81, b_X12_isFree_109, b_X12_isFree_113, b_X12_isFree_114, w_ld (show i < 24 by omega) (show 24 ≤ 100000 by decide), w_ld hp (show 24 ≤ 100000 by decide), w_ld1, s_isOn (show i < 24 by omega) hw, Option.bind_some, nI_1, lg_cmp_le, lg_cmp_gt, Int64.le_iff_toInt_le, Int64.lt_iff_toInt_lt, a_l3, Int32.toInt_toInt64, IH1, IH0]
    rcases ha with rfl | rfl
    · rw [a_fr0]
      simp
    · by_cases e1 : i = p
      · rw [← a_fr_ok (i := i) (fun z => z.1 e1)]
        subst e1
        simp
      · have e1' : ¬ nI i = nI p := fun z => e1 (nI_inj (by omega) (by omega) z)
        by_cases e2 : a_W m i = nI w
        · by_cases q1 : (m 5042 i).toInt + (m 5029 i).toInt + (m 5027 1).toInt ≤ x.toInt
          · rw [← a_fr_ok (i := i) (fun z => z.2.2 (Or.inl q1))]
            simp [e1', e2, q1]
          · by_cases q2 : (m 5042 i).toInt < x.toInt + (m 5029 p).toInt + (m 5027 1).toInt
            · rw [a_fr_bad (by omega) ⟨e1, e2, fun z => by rcases z with z | z <;> omega⟩]
              simp [e1', e2, q1, q2]
            · rw [← a_fr_ok (i := i) (fun z => z.2.2 (Or.inr (by omega)))]
              simp [e1', e2, q1, q2]
        · rw [← a_fr_ok (i := i) (fun z => e2 z.2.1)]
          simp [e1', e2]
theorem s_isFree {c : Nat → Nat} {m : q_MM} {p w : Nat} {x : Int32} (hN : m 5001 18 = nI (c 2)) (hN2 : c 2 ≤ 24) (hw : w < 100) (hp : p < 24) : f_X12_isFree m (nI p) (nI w) x = some (a_if (a_bd m p (nI w) x (c 2)) 0 1) := by
  have := q_fu_le
  refine (s_isFree_loop hN hN2 hw hp (c 2) 0 q_fu 1 (by omega) (by omega) (Or.inr rfl)).trans ?_
  unfold a_fr
  by_cases z : a_bd m p (nI w) x (c 2)
  · rw [a_ifp z, a_ifn]
    obtain ⟨j, hj, hb⟩ := z
    exact fun q => q.2 j (Nat.zero_le j) hj hb
  · rw [a_ifn z, a_ifp ⟨rfl, fun j _ hj hb => z ⟨j, hj, hb⟩⟩]
theorem s_isHigh {m : q_MM} {p w : Nat} (hp : p < 24) (hw : w < 16) : f_X12_isHigh m (nI p) (nI w) = some (a_if (a_hi m p w) 1 0) := by
  unfold f_X12_isHigh
  rw [w_ld hp (by decide), w_ld0, w_ld hp (by decide), w_ld hw (by decide), w_ld0]
  by_cases z1 : (2 : Int32) * m 5027 0 < m 5030 p
  · rw [if_pos z1, w_bl0, a_ifn (fun z => z.1 z1)]
  · rw [if_neg z1]
    by_cases z2 : (2 : Int32) * (m 5022 w - m 5027 0) < m 5030 p
    · rw [if_pos z2, w_bl0, a_ifn (fun z => z.2 z2)]
    · rw [if_neg z2, w_bl1, a_ifp ⟨z1, z2⟩]
theorem s_tooHigh {c n : Nat → Nat} {m M : q_MM} (y : a_Y c n m M) {p w : Nat} (hp : p < c 2) (hw : w < c 1) : f_X2_tooHigh c M (1300 + p) (1100 + w) = some (a_if (a_hi m p w) 0 1) := by
  have h7 : a_B7 c n m M := y.1 7 (by decide)
  have h5 : a_B5 c n m M := y.1 5 (by decide)
  have h6 : a_B6 c n m M := y.1 6 (by decide)
  unfold f_X2_tooHigh b_X2_tooHigh_32
  rw [w_ld0, w_ck (t_pic y.C hp), (h7.2.2.2.1 p hp).1.2.2.1, h6.1 0 (by decide), w_ck (t_wall y.C hw), (h5.2.2.2.1 w hw).1.2.2.2.1]
  by_cases z1 : (2 : Int32) * m 5027 0 < m 5030 p
  · rw [if_pos z1, w_bl1, a_ifn (fun z => z.1 z1)]
  · rw [if_neg z1]
    by_cases z2 : (2 : Int32) * (m 5022 w - m 5027 0) < m 5030 p
    · rw [if_neg (by rw [Int32.not_le]; exact z2), w_bl1, a_ifn (fun z => z.2 z2)]
    · rw [if_pos (by rw [← Int32.not_lt]; exact z2), w_bl0, a_ifp ⟨z1, z2⟩]
theorem s_hind_loop {c n : Nat → Nat} {m M : q_MM} (y : a_Y c n m M) {o a b : Nat} (ho : (o, a, b) ∈ [(21, 61, 63), (22, 62, 64)]) (hH : a_H c m M a b) (hV : a_V c m) {p w : Nat} (hp : p < c 2) (hw : w < c 1) {x : Int32} (hx : 0 ≤ x.toInt ∧ x.toInt ≤ 3000) : ∀ (d i nf : Nat), i + d = c 2 → d < nf → (∀ j, j < i → ¬ a_bad m p (nI w) x j) → b_X2_hindrance_49 c M nf o (1300 + p) (1100 + w) x (m 5027 1) (m 5031 p + a_ws (m 5031) m (nI w) (nI p) i) (nI i) = some (a_if (a_bd m p (nI w) x (c 2)) 3 (if m 5031 p + a_ws (m 5031) m (nI w) (nI p) (c 2) ≤ m 5023 w then 0 else 4))
  | d, i, 0, _, h, _ => absurd h (Nat.not_lt_zero _)
  | 0, i, nf + 1, hi, _, hb => by
    have hC := y.C.2.2.1
    have h7 : a_B7 c n m M := y.1 7 (by decide)
    have h5 : a_B5 c n m M := y.1 5 (by decide)
    have e : i = c 2 := by omega
    rw [b_X2_hindrance_49, s_size rfl, h7.2.2.1, Option.bind_some, if_pos (nI_le (by omega) (by omega)), w_ck (t_wall y.C hw), (h5.2.2.2.1 w hw).1.2.2.2.2.1, e, a_ifn (fun ⟨j, hj, hbj⟩ => hb j (by omega) hbj)]
    split <;> rfl
  | d + 1, i, nf + 1, hi, hf, hb => by
    have hC := y.C.2.2.1
    have hC1 := y.C.2.1
    have h7 : a_B7 c n m M := y.1 7 (by decide)
    have h5 : a_B5 c n m M := y.1 5 (by decide)
    have h6 : a_B6 c n m M := y.1 6 (by decide)
    have hσ := y.2
    have IH := s_hind_loop y ho hH hV hp hw hx d (i + 1) nf (by omega) (by omega)
    rw [a_ws_s] at IH
    have hh : qTX c o = 11 := by
      simp only [List.mem_cons, List.not_mem_nil, or_false, Prod.mk.injEq] at ho
      rcases ho with ⟨rfl, rfl, rfl⟩ | ⟨rfl, rfl, rfl⟩ <;> rfl
    obtain ⟨⟨f0, f1, f2, f3, -⟩, r1, -⟩ := h7.2.2.2.1 i (by omega)
    obtain ⟨⟨p0, p1, p2, p3, -⟩, q1, -⟩ := h7.2.2.2.1 p hp
    rw [b_X2_hindrance_49, s_size rfl, h7.2.2.1, Option.bind_some, if_neg (nI_ge (by omega) (by omega))]
    simp only [b_X2_hindrance_151, b_X2_hindrance_141, w_ck (t_pic y.C hp), p0, p1, w_ck hh, s_wallUnder (c := c) (M := M) ho (show i < 24 by omega), s_leftSide (c := c) (M := M) ho (show i < 24 by omega), Option.bind_some, w_ck (t_wall y.C hw), (h5.2.2.2.1 w hw).1.1, (hH.1 i (by omega)).1, (hH.1 i (by omega)).2, s_getPK hσ (show i < c 2 by omega), w_ck (t_pic y.C (show i < c 2 by omega)), f1, f3, w_let, nI_1]
    by_cases e1 : i = p
    · have hnb : ¬ a_bad m p (nI w) x i := fun z => z.1 e1
      rw [if_neg (fun z => z.1 (by rw [e1])), Int32.add_zero] at IH
      rw [if_pos (by rw [e1])]
      refine IH (fun j hj => ?_)
      by_cases e : j = i
      · exact e ▸ hnb
      · exact hb j (by omega)
    · have e1' : ¬ nI i = nI p := fun z => e1 (nI_inj (by omega) (by omega) z)
      rw [if_neg e1']
      by_cases e2 : a_W m i = nI w
      · rw [if_pos ⟨e1', e2⟩, ← Int32.add_assoc] at IH
        rw [if_pos e2]
        have hs : m 5040 i = 1 := by
          unfold a_W at e2
          split at e2
          · assumption
          · exact absurd e2.symm (nI_neg1 (by omega))
        have rV := (hV i (by omega) hs).2
        have g1 := h6.2.2.1
        unfold a_rg at rV g1 r1 q1
        have s1 : (m 5042 i + m 5029 i + m 5027 1).toInt = (m 5042 i).toInt + (m 5029 i).toInt + (m 5027 1).toInt := by
          rw [fb_addI, fb_addI] <;> first | rfl | omega | (rw [fb_addI] <;> omega)
        have s2 : (x + m 5029 p + m 5027 1).toInt = x.toInt + (m 5029 p).toInt + (m 5027 1).toInt := by
          rw [fb_addI, fb_addI] <;> first | rfl | omega | (rw [fb_addI] <;> omega)
        simp only [i_le, s1, s2]
        by_cases c1 : (m 5042 i).toInt + (m 5029 i).toInt + (m 5027 1).toInt ≤ x.toInt
        · rw [if_pos c1]
          simp only [i_le] at IH
          refine IH (fun j hj => ?_)
          by_cases e : j = i
          · exact e ▸ fun z => z.2.2 (Or.inl c1)
          · exact hb j (by omega)
        · rw [if_neg c1]
          by_cases c2 : x.toInt + (m 5029 p).toInt + (m 5027 1).toInt ≤ (m 5042 i).toInt
          · rw [if_pos c2]
            simp only [i_le] at IH
            refine IH (fun j hj => ?_)
            by_cases e : j = i
            · exact e ▸ fun z => z.2.2 (Or.inr c2)
            · exact hb j (by omega)
          · rw [if_neg c2, a_ifp ⟨i, by omega, e1, e2, fun z => z.elim c1 c2⟩]
      · rw [if_neg (fun z => e2 z.2), Int32.add_zero] at IH
        rw [if_neg e2]
        refine IH (fun j hj => ?_)
        by_cases e : j = i
        · exact e ▸ fun z => e2 z.2.1
        · exact hb j (by omega)
theorem s_hindrance {c n : Nat → Nat} {m M : q_MM} (y : a_Y c n m M) {o a b : Nat} (ho : (o, a, b) ∈ [(21, 61, 63), (22, 62, 64)]) (hH : a_H c m M a b) (hV : a_V c m) {p w : Nat} (hp : p < c 2) (hw : w < c 1) (x : Int32) : f_X2_hindrance c M o (1300 + p) (1100 + w) x = some (a_w4 c m p w x) := by
  have hC := y.C.2.2.1
  have := q_fu_le
  have h7 : a_B7 c n m M := y.1 7 (by decide)
  have h5 : a_B5 c n m M := y.1 5 (by decide)
  have h6 : a_B6 c n m M := y.1 6 (by decide)
  obtain ⟨⟨p0, p1, p2, p3, -⟩, q1, -⟩ := h7.2.2.2.1 p hp
  obtain ⟨⟨w0, w1, w2, -⟩, -, u1, -⟩ := h5.2.2.2.1 w hw
  unfold a_rg at q1 u1
  have s1 : (m 5021 w - m 5029 p).toInt = (m 5021 w).toInt - (m 5029 p).toInt := fb_subI (by omega) (by omega)
  unfold f_X2_hindrance a_w4
  rw [w_ck (t_wall y.C hw), w_ck (t_pic y.C hp), w2, p1, p3, s_tooHigh y hp hw, Option.bind_some, w_ld1, h6.1 1 (by decide), w_let]
  by_cases z0 : x < 0
  · rw [if_pos z0, a_ifp (Or.inl (by rw [i_lt] at z0; exact z0))]
  · have z0' : 0 ≤ x.toInt := by rw [i_lt] at z0; have e0 : (0 : Int32).toInt = 0 := rfl; omega
    rw [if_neg z0]
    by_cases z1 : x ≤ m 5021 w - m 5029 p
    · have z1' := z1
      rw [i_le, s1] at z1'
      rw [if_pos z1, a_ifn (show ¬ (x.toInt < 0 ∨ (m 5021 w).toInt < x.toInt + (m 5029 p).toInt) by omega)]
      by_cases z2 : a_hi m p w
      · rw [a_ifp z2, if_pos rfl, a_ifn (fun z => z z2)]
        have := s_hind_loop y ho hH hV hp hw (x := x) ⟨z0', by omega⟩ (c 2) 0 q_fu (by omega) (by omega) (fun j hj => absurd hj (Nat.not_lt_zero j))
        rw [show a_ws (m 5031) m (nI w) (nI p) 0 = 0 from rfl, Int32.add_zero] at this
        exact this
      · rw [a_ifn z2, if_neg (by decide), a_ifp z2]
    · have z1' := z1
      rw [i_le, s1] at z1'
      rw [if_neg z1, a_ifp (Or.inr (by omega))]
/-- the model's checks 1 to 4 -/
theorem s_wrong {c : Nat → Nat} {m : q_MM} {p w : Nat} (hN : m 5001 18 = nI (c 2)) (hN2 : c 2 ≤ 24) (hp : p < 24) (hw : w < 16) (x most : Int32) : f_X12_wrong m (nI p) (nI w) x most = if a_w4 c m p w x = 0 then b_X12_wrong_77 q_fu (nI p) (nI w) x most 0 m else some (a_w4 c m p w x, m) := by
  unfold f_X12_wrong
  simp only [s_isHigh hp hw, s_isFree hN hN2 (show w < 100 by omega) hp, s_weightM hN hN2 (show w < 100 by omega), w_ld hp (show 24 ≤ 100000 by decide), w_ld hw (show 16 ≤ 100000 by decide), Option.bind_some, lg_cmp_le, Int64.le_iff_toInt_le, a_l2, Int32.toInt_toInt64]
  unfold a_w4
  by_cases z0 : x < 0
  · have z0' : x.toInt < 0 := by rw [i_lt] at z0; exact z0
    rw [if_pos z0, a_ifp (Or.inl z0'), if_neg (by decide)]
  · have z0' : ¬ x.toInt < 0 := by rw [i_lt] at z0; exact z0
    rw [if_neg z0]
    by_cases z1 : x.toInt + (m 5029 p).toInt ≤ (m 5021 w).toInt
    · rw [if_pos z1, a_ifn (show ¬ (x.toInt < 0 ∨ (m 5021 w).toInt < x.toInt + (m 5029 p).toInt) by omega)]
      by_cases z2 : a_hi m p w
      · rw [a_ifp z2, a_ifn (show ¬ ¬ a_hi m p w from fun z => z z2), if_neg (show ¬ (1 : Int32) = 0 by decide)]
        by_cases z3 : a_bd m p (nI w) x (c 2)
        · rw [a_ifp z3, a_ifp z3, if_pos rfl, if_neg (by decide)]
        · rw [a_ifn z3, a_ifn z3, if_neg (show ¬ (1 : Int32) = 0 by decide), Int32.add_comm]
          by_cases z4 : m 5031 p + a_ws (m 5031) m (nI w) (nI p) (c 2) ≤ m 5023 w
          · rw [if_pos z4, if_pos z4, if_pos rfl]
          · rw [if_neg z4, if_neg z4, if_neg (by decide)]
      · rw [a_ifn z2, if_pos rfl, a_ifp z2, if_neg (by decide)]
    · rw [if_neg z1, a_ifp (Or.inr (by omega)), if_neg (by decide)]
theorem s_wrong4 {c : Nat → Nat} {m : q_MM} {p w : Nat} (hN : m 5001 18 = nI (c 2)) (hN2 : c 2 ≤ 24) (hp : p < 24) (hw : w < 16) (x : Int32) : f_X12_wrong m (nI p) (nI w) x 4 = some (a_w4 c m p w x, m) := by
  rw [s_wrong hN hN2 hp hw]
  by_cases z : a_w4 c m p w x = 0
  · obtain ⟨nf, e⟩ : ∃ nf, q_fu = nf + 1 := ⟨q_fu - 1, by have := q_fu_le; omega⟩
    rw [if_pos z, z, e, b_X12_wrong_77]
    simp [b_X12_wrong_131]
  · rw [if_neg z]
