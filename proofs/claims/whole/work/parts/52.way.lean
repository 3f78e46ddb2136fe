/-! way -/
def a_cd (c : Nat → Nat) (m : q_MM) (p x k : Nat) (D : Nat → Nat) (j y : Nat) : Prop := j < c 0 ∧ a_en m p (-1) j ∧ ((a_A m j = x ∧ y = a_Bd m j) ∨ (a_A m j ≠ x ∧ a_Bd m j = x ∧ y = a_A m j)) ∧ D y = k
def a_lst (Q : Nat → Nat → Prop) (r : Int32) (i : Nat) : Prop := (r = -1 ∧ ∀ j y, j < i → ¬ Q j y) ∨ ∃ y, y < 100 ∧ r = nI y ∧ (∃ j, j < i ∧ Q j y) ∧ ∀ j y', j < i → Q j y' → y ≤ y'
theorem s_next_loop {c n : Nat → Nat} {m M : q_MM} (h : a_X c n m M) {p x k : Nat} (hp : p < c 2) (hx : x < n 0) {D : Nat → Nat} (hD : ∀ y, y < n 0 → M 19 y = nI (D y) ∧ D y ≤ 99) (hk : k ≤ 99) : ∀ (d i nf : Nat) (r : Int32), i + d = c 0 → d < nf → a_lst (a_cd c m p x k D) r i → ∃ r', b_X2_nextRoom_6 c M nf (1300 + p) (nI x) (nI k) r (nI i) = some r' ∧ a_lst (a_cd c m p x k D) r' (c 0)
  | d, i, 0, _, _, h, _ => absurd h (Nat.not_lt_zero _)
  | 0, i, nf + 1, r, hi, _, hr => by
    have hC := h.C.1
    have : i = c 0 := by omega
    subst this
    exact ⟨r, by rw [b_X2_nextRoom_6, s_size rfl, (h 2).2.2.1, Option.bind_some, if_pos (nI_le (by omega) (by omega))], hr⟩
  | d + 1, i, nf + 1, r, hi, hf, hr => by
    have hC := h.C
    have hC0 := hC.1
    have hN : n 0 ≤ 10 := (h 0).1
    have hic : i < c 0 := by omega
    obtain ⟨a1, a2, a3, a4⟩ := h.AB hic
    have g2 := (h 2 : a_B2 c n m M).2.2.2.1 i hic
    have e0 : M (1000 + i) 0 = nI (a_A m i) := g2.1.trans a1
    have e1 : M (1000 + i) 1 = nI (a_Bd m i) := g2.2.1.trans a2
    rw [b_X2_nextRoom_6, s_size rfl, (h 2).2.2.1, Option.bind_some, if_neg (nI_ge (by omega) (by omega)), s_getD h hic, Option.bind_some, w_ck (t_door hC hic), e0, e1]
    unfold b_X2_nextRoom_67 b_X2_nextRoom_101 b_X2_nextRoom_102 b_X2_nextRoom_122 b_X2_nextRoom_126
    rw [nI_1]
    have skip : (∀ y, ¬ a_cd c m p x k D i y) → ∃ r', b_X2_nextRoom_6 c M nf (1300 + p) (nI x) (nI k) r (nI (i + 1)) = some r' ∧ a_lst (a_cd c m p x k D) r' (c 0) := by
      intro z
      refine s_next_loop h hp hx hD hk d (i + 1) nf r (by omega) (by omega) ?_
      rcases hr with ⟨q1, q2⟩ | ⟨y, hy, q1, ⟨j, q2, q3⟩, q4⟩
      · refine Or.inl ⟨q1, fun j y hj => ?_⟩
        by_cases e : j = i
        · exact e ▸ z y
        · exact q2 j y (by omega)
      · refine Or.inr ⟨y, hy, q1, ⟨j, by omega, q3⟩, fun j y' hj hc => ?_⟩
        by_cases e : j = i
        · exact absurd (e ▸ hc) (z y')
        · exact q4 j y' (by omega) hc
    have other : ∀ y, y < n 0 → (∀ y', ((a_A m i = x ∧ y' = a_Bd m i) ∨ (a_A m i ≠ x ∧ a_Bd m i = x ∧ y' = a_A m i)) ↔ y' = y) → ∃ r', (if nI y = -1 then (if (0 : Int32) = 0 then b_X2_nextRoom_6 c M nf (1300 + p) (nI x) (nI k) r (nI (i + 1)) else if r = -1 then b_X2_nextRoom_6 c M nf (1300 + p) (nI x) (nI k) (nI y) (nI (i + 1)) else if r ≤ nI y then b_X2_nextRoom_6 c M nf (1300 + p) (nI x) (nI k) r (nI (i + 1)) else b_X2_nextRoom_6 c M nf (1300 + p) (nI x) (nI k) (nI y) (nI (i + 1))) else q_ld M 19 10 (nI y) fun v5 => if v5 = nI k then (f_X2_goesThrough c M (1300 + p) (nI i) (-1)).bind fun r7 => if r7 = 0 then (if (0 : Int32) = 0 then b_X2_nextRoom_6 c M nf (1300 + p) (nI x) (nI k) r (nI (i + 1)) else if r = -1 then b_X2_nextRoom_6 c M nf (1300 + p) (nI x) (nI k) (nI y) (nI (i + 1)) else if r ≤ nI y then b_X2_nextRoom_6 c M nf (1300 + p) (nI x) (nI k) r (nI (i + 1)) else b_X2_nextRoom_6 c M nf (1300 + p) (nI x) (nI k) (nI y) (nI (i + 1))) else (if (1 : Int32) = 0 then b_X2_nextRoom_6 c M nf (1300 + p) (nI x) (nI k) r (nI (i + 1)) else if r = -1 then b_X2_nextRoom_6 c M nf (1300 + p) (nI x) (nI k) (nI y) (nI (i + 1)) else if r ≤ nI y then b_X2_nextRoom_6 c M nf (1300 + p) (nI x) (nI k) r (nI (i + 1)) else b_X2_nextRoom_6 c M nf (1300 + p) (nI x) (nI k) (nI y) (nI (i + 1))) else (if (0 : Int32) = 0 then b_X2_nextRoom_6 c M nf (1300 + p) (nI x) (nI k) r (nI (i + 1)) else if r = -1 then b_X2_nextRoom_6 c M nf (1300 + p) (nI x) (nI k) (nI y) (nI (i + 1)) else if r ≤ nI y then b_X2_nextRoom_6 c M nf (1300 + p) (nI x) (nI k) r (nI (i + 1)) else b_X2_nextRoom_6 c M nf (1300 + p) (nI x) (nI k) (nI y) (nI (i + 1)))) = some r' ∧ a_lst (a_cd c m p x k D) r' (c 0) := by
      intro y hy hside
      have hDy := hD y hy
      rw [if_neg (nI_neg1 (by omega)), w_ld (by omega) (by decide), hDy.1]
      by_cases z1 : D y = k
      · rw [if_pos (by rw [z1]), s_goes h hp hic, Option.bind_some]
        by_cases z2 : a_en m p (-1) i
        · rw [a_ifp z2, if_neg (show ¬ (1 : Int32) = 0 by decide), if_neg (show ¬ (1 : Int32) = 0 by decide)]
          have cd : a_cd c m p x k D i y := ⟨hic, z2, (hside y).mpr rfl, z1⟩
          have only : ∀ y', a_cd c m p x k D i y' → y' = y := fun y' q => (hside y').mp q.2.2.1
          rcases hr with ⟨q1, q2⟩ | ⟨w, hw, q1, ⟨j, q2, q3⟩, q4⟩
          · rw [if_pos q1]
            refine s_next_loop h hp hx hD hk d (i + 1) nf (nI y) (by omega) (by omega) (Or.inr ⟨y, by omega, rfl, ⟨i, by omega, cd⟩, fun j y' hj hc => ?_⟩)
            by_cases e : j = i
            · subst e
              have := only y' hc
              omega
            · exact absurd hc (q2 j y' (by omega))
          · rw [if_neg (by rw [q1]; exact nI_neg1 (by omega))]
            by_cases z3 : r ≤ nI y
            · rw [if_pos z3]
              refine s_next_loop h hp hx hD hk d (i + 1) nf r (by omega) (by omega) (Or.inr ⟨w, hw, q1, ⟨j, by omega, q3⟩, fun j y' hj hc => ?_⟩)
              by_cases e : j = i
              · subst e
                have := only y' hc
                rw [q1, i_le, nI_toInt (by omega), nI_toInt (by omega)] at z3
                omega
              · exact q4 j y' (by omega) hc
            · rw [if_neg z3]
              rw [q1, i_le, nI_toInt (by omega), nI_toInt (by omega)] at z3
              refine s_next_loop h hp hx hD hk d (i + 1) nf (nI y) (by omega) (by omega) (Or.inr ⟨y, by omega, rfl, ⟨i, by omega, cd⟩, fun j y' hj hc => ?_⟩)
              by_cases e : j = i
              · subst e
                have := only y' hc
                omega
              · have := q4 j y' (by omega) hc
                omega
        · rw [a_ifn z2, if_pos rfl, if_pos rfl]
          exact skip (fun y' q => z2 q.2.1)
      · rw [if_neg (fun q => z1 (nI_inj (by omega) (by omega) q)), if_pos rfl]
        exact skip (fun y' q => z1 (by have := (hside y').mp q.2.2.1; rw [← this]; exact q.2.2.2))
    by_cases z1 : a_A m i = x
    · rw [if_pos (by rw [z1])]
      refine other (a_Bd m i) a4 (fun y' => ⟨fun q => ?_, fun q => Or.inl ⟨z1, q⟩⟩)
      exact q.elim (fun a => a.2) (fun a => absurd z1 a.1)
    · rw [if_neg (fun q => z1 (nI_inj (by omega) (by omega) q))]
      by_cases z2 : a_Bd m i = x
      · rw [if_pos (by rw [z2])]
        refine other (a_A m i) a3 (fun y' => ⟨fun q => ?_, fun q => Or.inr ⟨z1, z2, q⟩⟩)
        exact q.elim (fun a => absurd a.1 z1) (fun a => a.2.2)
      · rw [if_neg (fun q => z2 (nI_inj (by omega) (by omega) q)), if_pos rfl, if_pos rfl]
        exact skip (fun y q => q.2.2.1.elim (fun a => z1 a.1) (fun a => z2 a.2.1))
def a_jn (c : Nat → Nat) (m : q_MM) (p x y i : Nat) : Prop := ∃ j, i ≤ j ∧ j < c 0 ∧ a_ps m p j ∧ ((a_A m j = x ∧ a_Bd m j = y) ∨ (a_A m j = y ∧ a_Bd m j = x))
theorem s_joined_loop {c n : Nat → Nat} {m M : q_MM} (h : a_X c n m M) {p x y : Nat} (hp : p < c 2) (hx : x < n 0) (hy : y < n 0) : ∀ (d i nf : Nat) (acc : Int32), i + d = c 0 → d < nf → (acc = 0 ∨ acc = 1) → b_X12_isJoined_6 m nf (nI p) (nI x) (nI y) acc (nI i) = some (a_if (acc = 1 ∨ a_jn c m p x y i) 1 0)
  | d, i, 0, _, _, h, _ => absurd h (Nat.not_lt_zero _)
  | 0, i, nf + 1, acc, hi, _, ha => by
    have hC := h.C.1
    rw [b_X12_isJoined_6, (h 2).2.1, if_pos (nI_le (by omega) (by omega))]
    rcases ha with rfl | rfl
    · rw [w_bl0, a_ifn]
      rintro (q | ⟨j, h1, h2, -⟩)
      · exact absurd q (by decide)
      · omega
    · rw [w_bl1, a_ifp (Or.inl rfl)]
  | d + 1, i, nf + 1, acc, hi, hf, ha => by
    have hC0 := h.C.1
    have hC2 := h.C.2.2.1
    have hN : n 0 ≤ 10 := (h 0).1
    obtain ⟨a1, a2, a3, a4⟩ := h.AB (show i < c 0 by omega)
    rw [b_X12_isJoined_6, (h 2).2.1, if_neg (nI_ge (by omega) (by omega)), w_ld (by omega) (by decide), a1]
    unfold b_X12_isJoined_37 b_X12_isJoined_59 b_X12_isJoined_63 b_X12_isJoined_64 b_X12_isJoined_86 b_X12_isJoined_90 b_X12_isJoined_91
    rw [w_ld (by omega) (by decide), w_ld (by omega) (by decide), w_ld (by omega) (by decide), a1, a2, nI_1]
    have eA : ∀ w, w < n 0 → (nI (a_A m i) = nI w ↔ a_A m i = w) := fun w hw => ⟨fun q => nI_inj (by omega) (by omega) q, fun q => by rw [q]⟩
    have eB : ∀ w, w < n 0 → (nI (a_Bd m i) = nI w ↔ a_Bd m i = w) := fun w hw => ⟨fun q => nI_inj (by omega) (by omega) q, fun q => by rw [q]⟩
    simp only [eA x hx, eA y hy, eB x hx, eB y hy, s_passes (show p < 24 by omega) (show i < 20 by omega), Option.bind_some]
    have no : ¬ (a_ps m p i ∧ ((a_A m i = x ∧ a_Bd m i = y) ∨ (a_A m i = y ∧ a_Bd m i = x))) → b_X12_isJoined_6 m nf (nI p) (nI x) (nI y) 0 (nI (i + 1)) = some (a_if ((0 : Int32) = 1 ∨ a_jn c m p x y i) 1 0) := by
      intro z
      rw [s_joined_loop h hp hx hy d (i + 1) nf 0 (by omega) (by omega) (Or.inl rfl)]
      congr 2
      apply propext
      constructor
      · rintro (q | ⟨j, h1, h2, h3⟩)
        · exact absurd q (by decide)
        · exact Or.inr ⟨j, by omega, h2, h3⟩
      · rintro (q | ⟨j, h1, h2, h3⟩)
        · exact absurd q (by decide)
        · refine Or.inr ⟨j, ?_, h2, h3⟩
          by_cases e : j = i
          · exact absurd (e ▸ h3) z
          · omega
    have yes : b_X12_isJoined_6 m nf (nI p) (nI x) (nI y) 1 (nI (i + 1)) = some 1 := by
      rw [s_joined_loop h hp hx hy d (i + 1) nf 1 (by omega) (by omega) (Or.inr rfl), a_ifp (Or.inl rfl)]
    rcases ha with rfl | rfl
    · have side1 : ((a_A m i = x ∧ a_Bd m i = y) ∨ (a_A m i = y ∧ a_Bd m i = x)) → (if (0 : Int32) = 0 then if (1 : Int32) = 0 then b_X12_isJoined_6 m nf (nI p) (nI x) (nI y) 0 (nI (i + 1)) else if a_if (a_ps m p i) (1 : Int32) 0 = 0 then b_X12_isJoined_6 m nf (nI p) (nI x) (nI y) 0 (nI (i + 1)) else b_X12_isJoined_6 m nf (nI p) (nI x) (nI y) 1 (nI (i + 1)) else b_X12_isJoined_6 m nf (nI p) (nI x) (nI y) 1 (nI (i + 1))) = some (a_if ((0 : Int32) = 1 ∨ a_jn c m p x y i) 1 0) := by
        intro z
        rw [if_pos rfl, if_neg (by decide)]
        by_cases z2 : a_ps m p i
        · rw [a_ifp z2, if_neg (by decide), yes, a_ifp (Or.inr ⟨i, Nat.le_refl i, by omega, z2, z⟩)]
        · rw [a_ifn z2, if_pos rfl, no (fun q => z2 q.1)]
      have side0 : ¬ ((a_A m i = x ∧ a_Bd m i = y) ∨ (a_A m i = y ∧ a_Bd m i = x)) → (if (0 : Int32) = 0 then if (0 : Int32) = 0 then b_X12_isJoined_6 m nf (nI p) (nI x) (nI y) 0 (nI (i + 1)) else if a_if (a_ps m p i) (1 : Int32) 0 = 0 then b_X12_isJoined_6 m nf (nI p) (nI x) (nI y) 0 (nI (i + 1)) else b_X12_isJoined_6 m nf (nI p) (nI x) (nI y) 1 (nI (i + 1)) else b_X12_isJoined_6 m nf (nI p) (nI x) (nI y) 1 (nI (i + 1))) = some (a_if ((0 : Int32) = 1 ∨ a_jn c m p x y i) 1 0) := by
        intro z
        rw [if_pos rfl, if_pos rfl, no (fun q => z q.2)]
      by_cases z1 : a_A m i = x
      · rw [if_pos z1]
        by_cases z2 : a_Bd m i = y
        · rw [if_pos z2]
          exact side1 (Or.inl ⟨z1, z2⟩)
        · rw [if_neg z2]
          by_cases z3 : a_A m i = y
          · rw [if_pos z3]
            by_cases z4 : a_Bd m i = x
            · rw [if_pos z4]
              exact side1 (Or.inr ⟨z3, z4⟩)
            · rw [if_neg z4]
              exact side0 (by rintro (q | q); exact z2 q.2; exact z4 q.2)
          · rw [if_neg z3]
            exact side0 (by rintro (q | q); exact z2 q.2; exact z3 q.1)
      · rw [if_neg z1]
        by_cases z3 : a_A m i = y
        · rw [if_pos z3]
          by_cases z4 : a_Bd m i = x
          · rw [if_pos z4]
            exact side1 (Or.inr ⟨z3, z4⟩)
          · rw [if_neg z4]
            exact side0 (by rintro (q | q); exact z1 q.1; exact z4 q.2)
        · rw [if_neg z3]
          exact side0 (by rintro (q | q); exact z1 q.1; exact z3 q.1)
    · rw [a_ifp (show (1 : Int32) = 1 ∨ a_jn c m p x y i from Or.inl rfl)]
      simp only [show ¬ (1 : Int32) = 0 by decide, if_false, yes, ite_self]
theorem s_joined {c n : Nat → Nat} {m M : q_MM} (h : a_X c n m M) {p x y : Nat} (hp : p < c 2) (hx : x < n 0) (hy : y < n 0) : f_X12_isJoined m (nI p) (nI x) (nI y) = some (a_if (a_jn c m p x y 0) 1 0) := by
  have hfu := q_fu_le
  have hC := h.C.1
  unfold f_X12_isJoined
  refine (s_joined_loop h hp hx hy (c 0) 0 q_fu 0 (by omega) (by omega) (Or.inl rfl)).trans ?_
  congr 2
  apply propext
  exact ⟨fun q => q.resolve_left (by decide), Or.inr⟩
theorem s_room_loop {c n : Nat → Nat} {m M : q_MM} (h : a_X c n m M) {p x y k : Nat} (hp : p < c 2) (hx : x < n 0) (hy : y < n 0) {D : Nat → Nat} (hD : ∀ z, z < n 0 → m 5057 z = nI (D z) ∧ D z ≤ 99) (hk : D x = k + 1) (no : ∀ z, z < y → ¬ (m 5075 z ≠ 1 ∧ D z = k ∧ a_jn c m p x z 0)) (ok : m 5075 y ≠ 1 ∧ D y = k ∧ a_jn c m p x y 0) {x3 x4 : Int32} {k87 : Int32 → Int32 → Int32 → Int32 → q_MM → Option (Int32 × q_MM)} : ∀ (d t nf : Nat), t + d = y → d < nf → b_X12_way_96 k87 nf (nI p) x3 x4 (nI x) (nI t) m = (f_X12_enters m (nI y)).bind fun r8 => k87 (nI p) x3 x4 (nI y) r8
  | d, t, 0, _, h => absurd h (Nat.not_lt_zero _)
  | 0, t, nf + 1, hi, _ => by
    have hN : n 0 ≤ 10 := (h 0).1
    have : t = y := by omega
    subst this
    have s0 := ((h 4 : a_B4 c n m M) t (by omega)).1.resolve_right ok.1
    rw [b_X12_way_96, w_ld (by omega) (by decide), s0, if_pos rfl, w_ld (by omega) (by decide), w_ld (by omega) (by decide), (hD t hy).1, (hD x hx).1, hk, ok.2.1, show (1 : Int32) = nI 1 from rfl, pk_sub (by omega), Nat.add_sub_cancel, if_pos rfl, s_joined h hp hx hy, Option.bind_some, a_ifp ok.2.2, if_neg (by decide)]
  | d + 1, t, nf + 1, hi, hf => by
    have hN : n 0 ≤ 10 := (h 0).1
    have hDx := (hD x hx).2
    have ht := hD t (by omega)
    have ih := s_room_loop h hp hx hy hD hk no ok (x3 := x3) (x4 := x4) (k87 := k87) d (t + 1) nf (by omega) (by omega)
    rw [b_X12_way_96, w_ld (by omega) (by decide)]
    unfold b_X12_way_137
    rw [nI_1]
    rcases ((h 4 : a_B4 c n m M) t (by omega)).1 with s0 | s0
    · rw [s0, if_pos rfl, w_ld (by omega) (by decide), w_ld (by omega) (by decide), ht.1, (hD x hx).1, hk, show (1 : Int32) = nI 1 from rfl, pk_sub (by omega), Nat.add_sub_cancel]
      by_cases z : D t = k
      · rw [if_pos (by rw [z]), s_joined h hp hx (by omega), Option.bind_some, a_ifn (fun q => no t (by omega) ⟨by rw [s0]; decide, z, q⟩), if_pos rfl]
        exact ih
      · rw [if_neg (fun q => z (nI_inj (by omega) (by omega) q))]
        exact ih
    · rw [s0, if_neg (by decide)]
      exact ih
theorem a_en_fr {m m' : q_MM} {p : Nat} {x : Int32} (hf : ∀ o, o ≠ 5012 → o ≠ 5001 → o ≠ 5057 → m' o = m o) : a_en m' p x = a_en m p x ∧ a_A m' = a_A m ∧ a_Bd m' = a_Bd m := by
  have e1 : a_A m' = a_A m := by unfold a_A; rw [hf 5015 (by decide) (by decide) (by decide)]
  have e2 : a_Bd m' = a_Bd m := by unfold a_Bd; rw [hf 5016 (by decide) (by decide) (by decide)]
  refine ⟨?_, e1, e2⟩
  unfold a_en a_ps
  rw [e1, e2, hf 5075 (by decide) (by decide) (by decide), hf 5017 (by decide) (by decide) (by decide), hf 5018 (by decide) (by decide) (by decide), hf 5029 (by decide) (by decide) (by decide), hf 5030 (by decide) (by decide) (by decide)]
theorem a_step {P : Nat → Prop} {A B D : Nat → Nat} {K b N k x : Nat} (hA : ∀ i, i < K → A i < N ∧ B i < N) (hD : ∀ y, y < N → a_dst P A B K b y (D y)) (hx : x < N) (hk : D x = k + 1) (hk2 : k < 98) : ∃ i y, i < K ∧ P i ∧ y < N ∧ D y = k ∧ ((A i = x ∧ y = B i) ∨ (B i = x ∧ y = A i)) := by
  have hd := hD x hx
  rw [hk] at hd
  rcases hd with ⟨-, h1, h2⟩ | ⟨h1, -⟩
  · have near : ∀ i y, i < K → P i → y < N → a_bl P A B K b k y → ((A i = x ∧ y = B i) ∨ (B i = x ∧ y = A i)) → D y = k := by
      intro i y hi hp hy hb hs
      rcases hD y hy with ⟨-, g1, g2⟩ | ⟨-, g2⟩
      · rcases Nat.lt_trichotomy (D y) k with e | e | e
        · refine absurd ?_ (h2 (D y + 1) (by omega))
          refine Or.inr ⟨i, hi, hp, ?_⟩
          rcases hs with ⟨e1, e2⟩ | ⟨e1, e2⟩
          · exact Or.inl ⟨e1, e2 ▸ g1⟩
          · exact Or.inr ⟨e1, e2 ▸ g1⟩
        · exact e
        · exact absurd hb (g2 k e)
      · exact absurd hb (g2 k)
    rcases h1 with h1 | ⟨i, hi, hp, h1⟩
    · exact absurd h1 (h2 k (by omega))
    · rcases h1 with ⟨e, hb⟩ | ⟨e, hb⟩
      · exact ⟨i, B i, hi, hp, (hA i hi).2, near i _ hi hp (hA i hi).2 hb (Or.inl ⟨e, rfl⟩), Or.inl ⟨e, rfl⟩⟩
      · exact ⟨i, A i, hi, hp, (hA i hi).1, near i _ hi hp (hA i hi).1 hb (Or.inr ⟨e, rfl⟩), Or.inr ⟨e, rfl⟩⟩
  · omega
theorem s_way_loop {c n : Nat → Nat} {P : Nat → Prop} {A B D : Nat → Nat} {p b : Nat} {v : Int32} (hp : p < c 2) (hb : b < n 0) (hD : ∀ y, y < n 0 → a_dst P A B (c 0) b y (D y)) : ∀ (k x e nf nf' : Nat) (m M : q_MM), k < nf → k < nf' → k < 90 → a_X c n m M → a_en m p (-1) = P → a_A m = A → a_Bd m = B → x < n 0 → D x = k → m 5075 x ≠ 1 → (∀ y, y < n 0 → M 19 y = nI (D y) ∧ m 5057 y = nI (D y)) → M 6 1 = nI e → e + k ≤ 30 → ∃ m' M', b_X11_way_87 c nf (1300 + p) v (nI x) (nI k - 1) M = some (v, M') ∧ b_X12_way_87 nf' (nI p) (nI b) v (nI x) m = some (v, m') ∧ a_X c n m' M'
  | k, x, e, 0, _, _, _, h, _, _, _, _, _, _, _, _, _, _, _, _ => absurd h (Nat.not_lt_zero _)
  | k, x, e, _ + 1, 0, _, _, _, h, _, _, _, _, _, _, _, _, _, _, _ => absurd h (Nat.not_lt_zero _)
  | 0, x, e, nf + 1, nf' + 1, m, M, _, _, _, h, hP, hA, hB, hx, hk, hs, hc, he, hek => by
    have hxb : x = b := by
      have := hD x hx
      rw [hk] at this
      rcases this with ⟨-, q, -⟩ | ⟨q, -⟩
      · exact q
      · omega
    refine ⟨m, M, ?_, ?_, h⟩
    · rw [b_X11_way_87, if_pos (by decide)]
    · rw [b_X12_way_87, if_pos (by rw [hxb])]
  | k + 1, x, e, nf + 1, nf' + 1, m, M, hf, hf', hk90, h, hP, hA, hB, hx, hk, hs, hc, he, hek => by
    have hfu := q_fu_le
    have hN : n 0 ≤ 10 := (h 0).1
    have hC2 := h.C.2.2.1
    have hle : ∀ y, y < n 0 → D y ≤ 99 := fun y hy => a_dst_le (hD y hy)
    have hxb : x ≠ b := by
      intro q
      have := hD x hx
      rw [hk] at this
      rcases this with ⟨-, -, q2⟩ | ⟨q2, -⟩
      · exact q2 0 (by omega) q
      · omega
    have cdj : ∀ z, z < n 0 → ((∃ j, j < c 0 ∧ a_cd c m p x k D j z) ↔ (m 5075 z ≠ 1 ∧ D z = k ∧ a_jn c m p x z 0)) := by
      intro z hz
      constructor
      · rintro ⟨j, hj, q1, q2, q3, q4⟩
        have hps : a_ps m p j := q2.2.2.resolve_left (fun q => nI_neg1 (by have := h.C.1; omega) q)
        rcases q3 with ⟨e1, e2⟩ | ⟨e0, e1, e2⟩
        · exact ⟨by rw [e2]; exact q2.2.1, q4, j, Nat.zero_le _, hj, hps, Or.inl ⟨e1, e2.symm⟩⟩
        · exact ⟨by rw [e2]; exact q2.1, q4, j, Nat.zero_le _, hj, hps, Or.inr ⟨e2.symm, e1⟩⟩
      · rintro ⟨q1, q2, j, -, hj, hps, q3⟩
        have hne : a_A m j ≠ a_Bd m j := by
          have g := ((h 2 : a_B2 c n m M).2.2.2.1 j hj).2.2.2.2.2.2
          have g2 := h.AB hj
          intro q
          rw [g2.1, g2.2.1, q] at g
          exact g rfl
        rcases q3 with ⟨e1, e2⟩ | ⟨e1, e2⟩
        · exact ⟨j, hj, hj, ⟨by rw [e1]; exact hs, by rw [e2]; exact q1, Or.inr hps⟩, Or.inl ⟨e1, e2.symm⟩, q2⟩
        · exact ⟨j, hj, hj, ⟨by rw [e1]; exact q1, by rw [e2]; exact hs, Or.inr hps⟩, Or.inr ⟨fun q => hne (q.trans e2.symm), e2, e1.symm⟩, q2⟩
    obtain ⟨r, hr1, hr2⟩ := s_next_loop h hp hx (fun y hy => ⟨(hc y hy).1, hle y hy⟩) (show k ≤ 99 by omega) (c 0) 0 q_fu (-1) (by omega) (by have := h.C.1; omega) (Or.inl ⟨rfl, fun j y hj => absurd hj (Nat.not_lt_zero _)⟩)
    obtain ⟨i, y0, hi, hpi, hy0, hDy0, hside⟩ := a_step (fun i hi => by have := h.AB hi; rw [hA, hB] at this; exact this.2.2) hD hx hk (by omega)
    have cand0 : ∃ j, j < c 0 ∧ a_cd c m p x k D j y0 := by
      have hne : a_A m i ≠ a_Bd m i := by
        have g := ((h 2 : a_B2 c n m M).2.2.2.1 i hi).2.2.2.2.2.2
        have g2 := h.AB hi
        intro q
        rw [g2.1, g2.2.1, q] at g
        exact g rfl
      refine ⟨i, hi, hi, by rw [hP]; exact hpi, ?_, hDy0⟩
      rw [hA, hB] at hne
      rw [hA, hB]
      rcases hside with ⟨e1, e2⟩ | ⟨e1, e2⟩
      · exact Or.inl ⟨e1, e2⟩
      · exact Or.inr ⟨fun q => hne (q.trans e1.symm), e1, e2⟩
    rcases hr2 with ⟨-, q⟩ | ⟨y, hy, q1, ⟨j, hj, hcj⟩, q2⟩
    · obtain ⟨j, hj, hcj⟩ := cand0
      exact absurd hcj (q j y0 hj)
    have hyn : y < n 0 := by
      have := h.AB hj
      rcases hcj.2.2.1 with ⟨-, e⟩ | ⟨-, -, e⟩ <;> omega
    have oky := (cdj y hyn).mp ⟨j, hj, hcj⟩
    have noy : ∀ z, z < y → ¬ (m 5075 z ≠ 1 ∧ D z = k ∧ a_jn c m p x z 0) := by
      intro z hz q
      obtain ⟨j', hj', hcj'⟩ := (cdj z (by omega)).mpr q
      have := q2 j' z hj' hcj'
      omega
    have hB12 : a_B12 c n m M := h 12
    obtain ⟨e', b1, b2, b3, b4⟩ := id hB12
    have : e' = e := nI_inj (by omega) (by omega) (b2.symm.trans he)
    subst this
    have en : f_X12_enters m (nI y) = some (q_u2 (q_u2 m 5012 e' (nI y)) 5001 1 (nI (e' + 1))) := by
      unfold f_X12_enters
      rw [b3, w_as (by omega) (by decide), w_let, q_u2_ne (M := m) (by omega), b3, nI_1]
    have hX : a_X c n (q_u2 (q_u2 m 5012 e' (nI y)) 5001 1 (nI (e' + 1))) (q_u2 (q_u2 M 56 e' (nI y)) 6 1 (nI (e' + 1))) :=
      h.wr [12] (a_wM.s1 (a_wM.s1 a_wM.rf rfl) rfl) (a_wS.s1 (a_wS.s1 a_wS.rf rfl) rfl) (a_one (hB12.push b2 (by omega) (by decide) (by decide) (by decide) trivial))
    obtain ⟨f1, f2, f3⟩ := a_en_fr (m := m) (m' := q_u2 (q_u2 m 5012 e' (nI y)) 5001 1 (nI (e' + 1))) (p := p) (x := -1) (fun o h1 h2 _ => by
      funext z
      rw [q_u2_ne (fun q => h2 q.1), q_u2_ne (fun q => h1 q.1)])
    obtain ⟨m', M', t1, t2, t3⟩ := s_way_loop (v := v) hp hb hD k y (e' + 1) nf nf' _ _ (by omega) (by omega) (by omega) hX (f1.trans hP) (f2.trans hA) (f3.trans hB) hyn oky.2.1 (by rw [q_u2_ne (by omega), q_u2_ne (by omega)]; exact oky.1) (fun z hz => by
      rw [q_u2_ne (by omega), q_u2_ne (by omega), q_u2_ne (by omega), q_u2_ne (by omega)]
      exact hc z hz) q_u2_eq (by omega)
    refine ⟨m', M', ?_, ?_, t3⟩
    · rw [b_X11_way_87, show (1 : Int32) = nI 1 from rfl, pk_sub (by omega), Nat.add_sub_cancel, if_neg (nI_pos (by omega))]
      unfold f_X2_nextRoom
      rw [show (0 : Int32) = nI 0 from rfl, hr1, Option.bind_some, q1, s_add (r := 56) (N := 32) (by decide) b2 (by omega), Option.bind_some, show nI k + -nI 1 = nI k - 1 by rw [Int32.sub_eq_add_neg]; rfl]
      exact t1
    · rw [b_X12_way_87, if_neg (fun q => hxb (nI_inj (by omega) (by omega) q)), show (0 : Int32) = nI 0 from rfl, s_room_loop h hp hx hyn (fun z hz => ⟨(hc z hz).2, hle z hz⟩) hk noy oky y 0 q_fu (by omega) (by omega), en, Option.bind_some]
      exact t2
theorem pub_way {c n : Nat → Nat} {m M : q_MM} (h : a_X c n m M) (a1 a2 a3 : Int32) : a_T c (f_X11_way c M a1 a2 a3) (f_X12_way m a1 a2 a3) := by
  unfold f_X11_way f_X12_way
  simp only [w_let]
  replace h := h.t0
  generalize q_u2 m 5001 0 0 = m at h ⊢
  have hfu := q_fu_le
  have hC := h.C.1
  have hN : n 0 ≤ 10 := (h 0).1
  by_cases z1 : a_lt a1 (c 2)
  · obtain ⟨p, hp, rfl⟩ := z1
    rw [s_picAt1 h hp, h.isPicture1 hp, Option.bind_some, Option.bind_some, if_neg (by omega), if_neg (show ¬ (1 : Int32) = 0 by decide)]
    by_cases z2 : a_lt a2 (n 0)
    · obtain ⟨a, ha, rfl⟩ := z2
      rw [s_hasRoom1 h ha, h.isRoom1 ha, Option.bind_some, Option.bind_some, if_neg (show ¬ (1 : Int32) = 0 by decide), if_neg (show ¬ (1 : Int32) = 0 by decide)]
      by_cases z3 : a_lt a3 (n 0)
      · obtain ⟨b, hb, rfl⟩ := z3
        obtain ⟨M1, k, e1, e2, e3, e4, e5⟩ := s_between h hp ha hb (-1)
        obtain ⟨m1, t1, t2, t3, t4⟩ := s_spreads h hp hb (-1)
        have hX : a_X c n m1 M1 := (h.row19 e2).row57 t2
        rw [s_hasRoom1 h hb, h.isRoom1 hb, Option.bind_some, Option.bind_some, if_neg (show ¬ (1 : Int32) = 0 by decide), if_neg (show ¬ (1 : Int32) = 0 by decide), e1, t1, Option.bind_some, Option.bind_some, w_ld (by omega) (by decide)]
        have same : m1 5057 a = nI k := by
          by_cases zb : m 5075 b = 1
          · rw [t3 zb a ha, e4 (Or.inr zb)]
            rfl
          · obtain ⟨l, l1, l2⟩ := t4 zb a ha
            by_cases za : m 5075 a = 1
            · rw [l1, e4 (Or.inl za)]
              have : b ≠ a := fun q => zb (q ▸ za)
              have no := a_shutd (P := a_en m p (-1)) (A := a_A m) (B := a_Bd m) (K := c 0) (sh := fun r => m 5075 r = 1) (fun i _ hp => ⟨hp.1, hp.2.1⟩) za this
              rcases l2 with ⟨-, q, -⟩ | ⟨q, -⟩
              · exact absurd q (no l)
              · rw [q]
            · rw [l1, a_dst_one l2 (e5 ⟨za, zb⟩).1]
        rw [same]
        by_cases z : k = 99
        · subst z
          rw [if_pos (show nI 99 = 99 from rfl), if_pos (show (99 : Int32) ≤ nI 99 by decide)]
          exact a_T.no hX (-2) rfl rfl
        · rw [if_neg (show ¬ nI k = 99 from fun q => z (nI_inj (by omega) (by decide) (show nI k = nI 99 from q))), if_neg (show ¬ (99 : Int32) ≤ nI k from nI_ge (a := k) (b := 99) (by omega) (by decide))]
          have za : m 5075 a ≠ 1 := fun q => z (e4 (Or.inl q))
          have zb : m 5075 b ≠ 1 := fun q => z (e4 (Or.inr q))
          have f5 : m1 5075 = m 5075 := t2 5075 (by decide)
          have s0 := ((h 4 : a_B4 c n m M) a (by omega)).1.resolve_right za
          have s1 := ((h 4 : a_B4 c n m M) b (by omega)).1.resolve_right zb
          obtain ⟨d1, d2⟩ := e5 ⟨za, zb⟩
          have hDD : ∀ x, x < n 0 → M1 19 x = nI (M1 19 x).toNatClampNeg ∧ a_dst (a_en m p (-1)) (a_A m) (a_Bd m) (c 0) b x (M1 19 x).toNatClampNeg := fun x hx => by
            obtain ⟨l, l1, l2⟩ := d2 x hx
            have := a_dst_le l2
            rw [l1, nI_clamp (by omega)]
            exact ⟨rfl, l2⟩
          have hkD : (M1 19 a).toNatClampNeg = k := a_dst_one (hDD a ha).2 d1
          have hk10 : k < 12 := by
            rcases d1 with ⟨-, q1, q2⟩ | ⟨q, -⟩
            · obtain ⟨k', w1, w2, w3⟩ := a_bl_few (fun i hi => (h.AB hi).2.2) hb ha q1
              rcases Nat.lt_or_ge k' k with w4 | w4
              · exact absurd w3 (q2 k' w4)
              · omega
            · exact absurd q z
          have en : f_X12_enters (q_u2 m1 5001 1 0) (nI a) = some (q_u2 (q_u2 (q_u2 m1 5001 1 0) 5012 0 (nI a)) 5001 1 (nI 1)) := by
            unfold f_X12_enters
            rw [q_u2_eq, show (0 : Int32) = nI 0 from rfl, w_as (by decide) (by decide), w_let, q_u2_ne (M := q_u2 m1 5001 1 (nI 0)) (by omega), q_u2_eq]
            rfl
          rw [w_ld (by omega) (by decide), f5, s0, if_pos rfl, w_ld (by omega) (by decide), f5, s1, if_pos rfl, en, Option.bind_some, s_clear (r := 56) (N := 32) (by decide), Option.bind_some, s_add (r := 56) (N := 32) (k := 0) (by decide) (show q_u2 M1 6 1 0 6 1 = nI 0 from q_u2_eq) (by decide), Option.bind_some]
          have hX2 : a_X c n (q_u2 (q_u2 (q_u2 m1 5001 1 0) 5012 0 (nI a)) 5001 1 (nI 1)) (q_u2 (q_u2 (q_u2 M1 6 1 0) 56 0 (nI a)) 6 1 (nI (0 + 1))) := by
            refine hX.wr [12] (a_wM.s1 (a_wM.s1 (a_wM.s1 a_wM.rf rfl) rfl) rfl) (a_wS.s1 (a_wS.s1 (a_wS.s1 a_wS.rf rfl) rfl) rfl) (a_one ⟨1, by decide, q_u2_eq, q_u2_eq, fun i hi => ⟨?_, trivial⟩⟩)
            have : i = 0 := by omega
            subst this
            rw [q_u2_ne (by omega), q_u2_eq, q_u2_ne (by omega), q_u2_eq]
          obtain ⟨f1, f2, f3⟩ := a_en_fr (m := m) (m' := q_u2 (q_u2 (q_u2 m1 5001 1 0) 5012 0 (nI a)) 5001 1 (nI 1)) (p := p) (x := -1) (fun o h1 h2 h3 => by
            funext y
            rw [q_u2_ne (fun q => h2 q.1), q_u2_ne (fun q => h1 q.1), q_u2_ne (fun q => h2 q.1), t2 o h3])
          obtain ⟨m', M', w1, w2, w3⟩ := s_way_loop (v := nI k) hp hb (fun y hy => (hDD y hy).2) k a 1 q_fu q_fu _ _ (by omega) (by omega) (by omega) hX2 f1 f2 f3 ha hkD (by rw [q_u2_ne (by omega), q_u2_ne (by omega), q_u2_ne (by omega), f5]; exact za) (fun y hy => by
            rw [q_u2_ne (by omega), q_u2_ne (by omega), q_u2_ne (by omega), q_u2_ne (by omega), q_u2_ne (by omega), q_u2_ne (by omega)]
            refine ⟨(hDD y hy).1, ?_⟩
            obtain ⟨l, l1, l2⟩ := t4 zb y hy
            rw [l1, a_dst_one l2 (hDD y hy).2]) q_u2_eq (by omega)
          exact ⟨_, n, M', m', w1, w2, w3⟩
      · rw [s_hasRoom0 h z3, h.isRoom0 z3, Option.bind_some, Option.bind_some, if_pos rfl, if_pos rfl]
        exact a_T.no h (-1) rfl rfl
    · rw [s_hasRoom0 h z2, h.isRoom0 z2, Option.bind_some, Option.bind_some, if_pos rfl, if_pos rfl]
      exact a_T.no h (-1) rfl rfl
  · rw [s_picAt0 h z1, h.isPicture0 z1, Option.bind_some, Option.bind_some, if_pos rfl, if_pos rfl]
    exact a_T.no h (-1) rfl rfl
