/-! best: the class compares and weighs -/
def a_lI (l : Nat) : Int32 := if l = 100 then -1 else nI l
def a_FE (m : q_MM) (k : Nat) (ch : Nat → Nat) (i : Nat) : Nat := if a_fnd (fun j => nI (ch j)) (m 5036 (ch i)) k 0 = -1 then 100 else (a_fnd (fun j => nI (ch j)) (m 5036 (ch i)) k 0).toNatClampNeg
theorem a_FE_spec {m : q_MM} {k i : Nat} {ch : Nat → Nat} (hk : k ≤ 7) (h24 : ∀ j, j < k → ch j < 24) (hmono : ∀ j l, j < l → l < k → ch j < ch l) : a_fnd (fun j => nI (ch j)) (m 5036 (ch i)) k 0 = a_lI (a_FE m k ch i) ∧ (a_FE m k ch i = 100 ∨ a_FE m k ch i < k) ∧ ∀ j, j < k → (m 5036 (ch i) = nI (ch j) ↔ a_FE m k ch i = j) := by
  have inj : ∀ a b, a < k → b < k → ch a = ch b → a = b := fun a b ha hb e => by
    rcases Nat.lt_trichotomy a b with q | q | q
    · have := hmono a b q hb; omega
    · exact q
    · have := hmono b a q ha; omega
  unfold a_FE a_lI
  rcases a_fnd_le (f := fun j => nI (ch j)) (v := m 5036 (ch i)) (d := k) (i := 0) with e | ⟨j, -, hj, e, ej⟩
  · rw [e, if_pos rfl, if_pos rfl]
    refine ⟨rfl, Or.inl rfl, fun j hj => ⟨fun q => ?_, fun q => by omega⟩⟩
    exact absurd q.symm ((a_fnd_no (by omega)).mp e j (Nat.zero_le j) (by omega))
  · have hj' : j < k := by omega
    rw [e, if_neg (nI_neg1 (by omega)), nI_clamp (by omega), if_neg (by omega)]
    refine ⟨rfl, Or.inr hj', fun l hl => ⟨fun q => ?_, fun q => ?_⟩⟩
    · have c1 := h24 j hj'
      have c2 := h24 l hl
      exact inj j l hj' hl (nI_inj (by omega) (by omega) (ej.trans q))
    · rw [← q]; exact ej.symm
/-- what comparing and weighing writes -/
def a_wB (M M' : q_MM) : Prop := ∀ o, o ≠ 34 → o ≠ 35 → o ≠ 36 → M' o = M o
theorem a_wB.rf {M : q_MM} : a_wB M M := fun _ _ _ _ => rfl
theorem a_wB.trans {M M' M'' : q_MM} (h : a_wB M M') (h' : a_wB M' M'') : a_wB M M'' := fun o a b d => (h' o a b d).trans (h o a b d)
theorem a_wB.u2 {M M' : q_MM} {o k : Nat} {v : Int32} (h : a_wB M M') (ho : o = 34 ∨ o = 35 ∨ o = 36) : a_wB M (q_u2 M' o k v) := fun o' a b d => by
  funext j
  rw [q_u2_ne (by omega), h o' a b d]
theorem a_X.wB {c n : Nat → Nat} {m M M' : q_MM} (h : a_X c n m M) (hM : a_wB M M') : a_X c n m M' := h.scr (fun o j => by
  by_cases e : o = 34 ∨ o = 35 ∨ o = 36
  · rcases e with rfl | rfl | rfl <;> exact Or.inr (Or.inl rfl)
  · rw [hM o (by omega) (by omega) (by omega)]
    exact Or.inr (Or.inr rfl))
theorem a_cr.wB {c : Nat → Nat} {M M' : q_MM} {k : Nat} {ch : Nat → Nat} (h : a_cr c M k ch) (hM : a_wB M M') : a_cr c M' k ch := by
  unfold a_cr at *
  rw [hM 33 (by decide) (by decide) (by decide), hM 83 (by decide) (by decide) (by decide)]
  exact h
theorem s_cmp_in {c n : Nat → Nat} {m M0 : q_MM} (h : a_X c n m M0) {k i : Nat} {ch : Nat → Nat} (hr : a_cr c M0 k ch) (hi : i < k) {k2 : Int32 → q_MM → Option q_MM} : ∀ (d j nf : Nat) (M : q_MM), j + d = k → d < nf → a_wB M0 M → (∀ l, l < j → M 35 (i * 7 + l) = a_lk m (ch i) (ch l)) → ∃ M', b_X6_compare_46 c k2 nf (nI i) (1300 + ch i) (nI j) M = k2 (nI (i + 1)) M' ∧ a_wB M0 M' ∧ (∀ l, l < k → M' 35 (i * 7 + l) = a_lk m (ch i) (ch l)) ∧ (∀ o x, ¬ (o = 35 ∧ i * 7 ≤ x) → M' o x = M o x)
  | d, j, 0, _, _, h, _, _ => absurd h (Nat.not_lt_zero _)
  | 0, j, nf + 1, M, hj, _, hM, hl => by
    have hk7 := hr.2.1
    have : j = k := by omega
    subst this
    exact ⟨M, by rw [b_X6_compare_46, (hr.wB hM).2.2.1, if_pos (nI_le (by omega) (by omega)), nI_1], hM, hl, fun _ _ _ => rfl⟩
  | d + 1, j, nf + 1, M, hj, hf, hM, hl => by
    have hk7 := hr.2.1
    have hX := h.wB hM
    have hrM := hr.wB hM
    have hpi := (hr.2.2.2.1 i hi).2
    have hpj := (hr.2.2.2.1 j (by omega)).2
    rw [b_X6_compare_46, hrM.2.2.1, if_neg (nI_ge (by omega) (by omega)), s_chosenAt hX hrM (by omega), Option.bind_some, if_neg (by omega), if_neg (by omega), s_likingOf hX.Y (hX 11) hpi hpj, Option.bind_some]
    unfold b_X6_compare_97
    rw [w_ck (show qTX c 35 = 1 from rfl), show qLX c 35 = 49 from rfl, show nI i * (7 : Int32) + nI j = nI (i * 7 + j) from by rw [show (7 : Int32) = nI 7 from rfl, pk_mul, nI_add], w_as (by omega) (by decide), nI_1]
    obtain ⟨M', g1, g2, g3, g4⟩ := s_cmp_in (k2 := k2) h hr hi d (j + 1) nf (q_u2 M 35 (i * 7 + j) (a_lk m (ch i) (ch j))) (by omega) (by omega) (hM.u2 (Or.inr (Or.inl rfl))) (fun l hl2 => by
      by_cases e : l = j
      · rw [e, q_u2_eq]
      · rw [q_u2_ne (by omega)]
        exact hl l (by omega))
    exact ⟨M', g1, g2, g3, fun o x ho => (g4 o x ho).trans (q_u2_ne (by omega))⟩
def a_cmq (m : q_MM) (k i : Nat) (ch : Nat → Nat) (M : q_MM) : Prop := ∀ l, l < i → M 34 l = a_lI (a_FE m k ch l) ∧ ∀ j, j < k → M 35 (l * 7 + j) = a_lk m (ch l) (ch j)
theorem s_cmp_loop {c n : Nat → Nat} {m M0 : q_MM} (h : a_X c n m M0) {k : Nat} {ch : Nat → Nat} (hr : a_cr c M0 k ch) : ∀ (d i nf : Nat) (M : q_MM), i + d = k → d < nf → a_wB M0 M → a_cmq m k i ch M → ∃ M', b_X6_compare_2 c nf (nI i) M = some M' ∧ a_wB M0 M' ∧ a_cmq m k k ch M'
  | d, i, 0, _, _, h, _, _ => absurd h (Nat.not_lt_zero _)
  | 0, i, nf + 1, M, hi, _, hM, hc => by
    have hk7 := hr.2.1
    have : i = k := by omega
    subst this
    exact ⟨M, by rw [b_X6_compare_2, (hr.wB hM).2.2.1, if_pos (nI_le (by omega) (by omega))], hM, hc⟩
  | d + 1, i, nf + 1, M, hi, hf, hM, hc => by
    have hfu := q_fu_le
    have hk7 := hr.2.1
    have hC2 := h.C.2.2.1
    have hX := h.wB hM
    have hrM := hr.wB hM
    have hpi := (hr.2.2.2.1 i (by omega)).2
    have e8 : M (1300 + ch i) 8 = m 5036 (ch i) := ((hX 7 : a_B7 c n m M).2.2.2.1 _ hpi).1.2.2.2.2.2.2.2.2.1
    have ef : a_fnd (M 83) (m 5036 (ch i)) k 0 = a_lI (a_FE m k ch i) := by
      rw [← (a_FE_spec (m := m) (i := i) hk7 (fun j hj => by have := (hr.2.2.2.1 j hj).2; omega) hr.2.2.2.2).1]
      exact a_fnd_cong (fun j _ hj => (hrM.2.2.2.1 j (by omega)).1)
    rw [b_X6_compare_2, hrM.2.2.1, if_neg (nI_ge (by omega) (by omega)), s_chosenAt hX hrM (by omega), Option.bind_some, if_neg (by omega), w_ck (t_pic h.C hpi), e8, s_find (r := 83) (N := 7) (by decide) hrM.2.2.1 (by omega), Option.bind_some, ef]
    unfold b_X6_compare_43
    rw [w_ck (show qTX c 34 = 1 from rfl), show qLX c 34 = 7 from rfl, w_as (by omega) (by decide), show (0 : Int32) = nI 0 from rfl]
    obtain ⟨M1, g1, g2, g3, g4⟩ := s_cmp_in (k2 := b_X6_compare_2 c nf) h hr (show i < k by omega) k 0 q_fu (q_u2 M 34 i (a_lI (a_FE m k ch i))) (by omega) (by omega) (hM.u2 (Or.inl rfl)) (fun l hl => absurd hl (Nat.not_lt_zero _))
    rw [g1]
    refine s_cmp_loop h hr d (i + 1) nf M1 (by omega) (by omega) g2 (fun l hl => ?_)
    by_cases e : l = i
    · subst e
      exact ⟨by rw [g4 34 l (by omega), q_u2_eq], g3⟩
    · have := hc l (by omega)
      refine ⟨by rw [g4 34 l (by omega), q_u2_ne (by omega)]; exact this.1, fun j hj => ?_⟩
      rw [g4 35 (l * 7 + j) (by omega), q_u2_ne (by omega)]
      exact this.2 j hj
/-! the next one -/
theorem s_mayFollow {c : Nat → Nat} {M : q_MM} {m : q_MM} {k u l i : Nat} {ch : Nat → Nat} (hk : k ≤ 7) (hFE : ∀ l, l < k → a_FE m k ch l = 100 ∨ a_FE m k ch l < k) (hc : a_cmq m k k ch M) (hu : u < 2 ^ 32) (hl : l < k ∨ l = 100) (hi : i < k) : f_X6_mayFollow c M (nI u) (a_lI l) (nI i) = some (a_if (a_al k (a_FE m k ch) u l i) 1 0) := by
  have nbi : bt (nI u) i = u.testBit i := b_nI (by omega)
  have free : (∀ (_ : l < k) (_ : a_FE m k ch l < k), u.testBit (a_FE m k ch l) = true) → ∀ s : Int32, b_X6_mayFollow_32 c M (nI u) (nI i) s = some (a_if (a_al k (a_FE m k ch) u l i) 1 0) := fun q s => by
    unfold b_X6_mayFollow_32 b_X6_mayFollow_37 b_X6_mayFollow_58
    cases z : u.testBit i
    · rw [if_pos ((b_sh1 _ (by omega)).mpr (nbi.trans z)), if_neg (show ¬ (1 : Int32) = 0 by decide), w_bl1, a_ifp ⟨z, fun a b => Or.inl (q a b)⟩]
    · rw [if_neg (fun q2 => by rw [(b_sh1 _ (by omega)).mp q2, z] at nbi; cases nbi), w_bl0, a_ifn (fun q2 => by have := q2.1; rw [z] at this; cases this)]
  unfold f_X6_mayFollow
  rcases hl with hl | rfl
  · have e1 : a_lI l = nI l := if_neg (by omega)
    rw [e1, if_neg (nI_neg1 (by omega)), w_ld (by omega) (by decide), (hc l hl).1]
    unfold b_X6_mayFollow_15
    rcases hFE l hl with e | e
    · rw [e, show a_lI 100 = -1 from if_pos rfl, if_pos rfl]
      exact free (fun _ b => by omega) _
    · rw [show a_lI (a_FE m k ch l) = nI (a_FE m k ch l) from if_neg (by omega), if_neg (nI_neg1 (by omega))]
      have nbf : bt (nI u) (a_FE m k ch l) = u.testBit (a_FE m k ch l) := b_nI (by omega)
      cases z : u.testBit (a_FE m k ch l)
      · rw [if_pos ((b_sh1 _ (by omega)).mpr (nbf.trans z))]
        unfold b_X6_mayFollow_37 b_X6_mayFollow_58
        rw [if_pos rfl]
        cases z2 : u.testBit i
        · rw [if_pos ((b_sh1 _ (by omega)).mpr (nbi.trans z2))]
          by_cases z3 : a_FE m k ch l = i
          · rw [if_pos (by rw [z3]), w_bl1, a_ifp ⟨z2, fun _ _ => Or.inr z3⟩]
          · rw [if_neg (fun q => z3 (nI_inj (by omega) (by omega) q)), w_bl0, a_ifn (fun q => by
              rcases q.2 hl e with q | q
              · rw [z] at q; cases q
              · exact z3 q)]
        · rw [if_neg (fun q2 => by rw [(b_sh1 _ (by omega)).mp q2, z2] at nbi; cases nbi), w_bl0, a_ifn (fun q2 => by have := q2.1; rw [z2] at this; cases this)]
      · rw [if_neg (fun q2 => by rw [(b_sh1 _ (by omega)).mp q2, z] at nbf; cases nbf)]
        exact free (fun _ _ => z) _
  · rw [show a_lI 100 = -1 from if_pos rfl, if_pos rfl]
    unfold b_X6_mayFollow_15
    rw [if_pos rfl]
    exact free (fun a _ => by omega) _
theorem s_behind {c : Nat → Nat} {M : q_MM} {m : q_MM} {k l i : Nat} {ch : Nat → Nat} (hk : k ≤ 7) (hc : a_cmq m k k ch M) (hl : l < k ∨ l = 100) (hi : i < k) : ∃ v, f_X6_likingBehind c M (a_lI l) (nI i) = some v ∧ v.toInt = a_LL (a_LK m ch) l i := by
  unfold f_X6_likingBehind b_X6_likingBehind_10 a_LL
  rcases hl with hl | rfl
  · have e1 : a_lI l = nI l := if_neg (by omega)
    rw [e1, if_neg (nI_neg1 (by omega)), if_neg (nI_neg1 (by omega)), show nI l * (7 : Int32) + nI i = nI (l * 7 + i) from by rw [show (7 : Int32) = nI 7 from rfl, pk_mul, nI_add], w_ld (by omega) (by decide), (hc l hl).2 i hi, if_neg (by omega)]
    exact ⟨_, rfl, rfl⟩
  · rw [show a_lI 100 = -1 from if_pos rfl, if_pos rfl, if_pos rfl]
    exact ⟨0, rfl, rfl⟩
/-- worths that stand -/
def a_wo (m : q_MM) (k : Nat) (ch : Nat → Nat) (M : q_MM) (u l : Nat) : Prop := (M 36 (u * 7 + l)).toInt = a_bW k (a_LK m ch) (a_FE m k ch) u l
theorem s_worth {c : Nat → Nat} {M : q_MM} {m : q_MM} {k u l i : Nat} {ch : Nat → Nat} (hk : k ≤ 7) (hL : ∀ i j, i < k → j < k → -99 ≤ a_LK m ch i j ∧ a_LK m ch i j ≤ 99) (hc : a_cmq m k k ch M) (hu : u < 2 ^ k) (hl : l < k ∨ l = 100) (hi : i < k) (hw : a_wo m k ch M (u ||| 2 ^ i) i) : ∃ v, f_X6_worthWith c M (nI u) (a_lI l) (nI i) = some v ∧ v.toInt = a_bF k (a_LK m ch) (a_FE m k ch) u l i := by
  have p7 : 2 ^ k ≤ 2 ^ 7 := Nat.pow_le_pow_right (by decide) hk
  have hor : u ||| 2 ^ i < 2 ^ k := Nat.or_lt_two_pow hu (Nat.pow_lt_pow_right (by decide) hi)
  obtain ⟨v, v1, v2⟩ := s_behind (c := c) hk hc hl hi
  unfold f_X6_worthWith
  rw [v1, Option.bind_some, a_pow i (by omega), nI_or, show nI (u ||| 2 ^ i) * (7 : Int32) + nI i = nI ((u ||| 2 ^ i) * 7 + i) from by rw [show (7 : Int32) = nI 7 from rfl, pk_mul, nI_add], w_ld (by omega) (by decide)]
  refine ⟨_, rfl, ?_⟩
  have r1 := a_bW_rg (FE := a_FE m k ch) (show k < 100 by omega) hL (a_cu k (u ||| 2 ^ i)) (u ||| 2 ^ i) i rfl (Or.inl hi)
  have r2 := a_cu_le (k := k) (u := u ||| 2 ^ i)
  have r3 : -99 ≤ a_LL (a_LK m ch) l i ∧ a_LL (a_LK m ch) l i ≤ 99 := by
    unfold a_LL
    rcases hl with hl | rfl
    · rw [if_neg (by omega)]
      exact hL l i hl hi
    · rw [if_pos rfl]
      omega
  unfold a_wo at hw
  unfold a_bF
  rw [fb_addI (by omega) (by omega), v2, hw]
theorem s_bestNext_loop {c : Nat → Nat} {M : q_MM} {m : q_MM} {k u l : Nat} {ch : Nat → Nat} (hk : k ≤ 7) (hFE : ∀ l, l < k → a_FE m k ch l = 100 ∨ a_FE m k ch l < k) (hL : ∀ i j, i < k → j < k → -99 ≤ a_LK m ch i j ∧ a_LK m ch i j ≤ 99) (h33 : M 33 1 = nI k) (hc : a_cmq m k k ch M) (hu : u < 2 ^ k) (hl : l < k ∨ l = 100) (hw : ∀ i, i < k → u.testBit i = false → a_wo m k ch M (u ||| 2 ^ i) i) : ∀ (d i nf : Nat) (x4 : Int32), i + d = k → d < nf → x4.toInt = (a_bx (a_al k (a_FE m k ch) u l) (a_bF k (a_LK m ch) (a_FE m k ch) u l) i).2 → b_X6_bestNext_8 c M nf (nI u) (a_lI l) (a_lI (a_bx (a_al k (a_FE m k ch) u l) (a_bF k (a_LK m ch) (a_FE m k ch) u l) i).1) x4 (nI i) = some (a_lI (a_nq k (a_LK m ch) (a_FE m k ch) u l))
  | d, i, 0, _, _, h, _ => absurd h (Nat.not_lt_zero _)
  | 0, i, nf + 1, x4, hi, _, _ => by
    have : i = k := by omega
    subst this
    rw [b_X6_bestNext_8, h33, if_pos (nI_le (by omega) (by omega))]
    rfl
  | d + 1, i, nf + 1, x4, hi, hf, hx => by
    have p7 : 2 ^ k ≤ 2 ^ 7 := Nat.pow_le_pow_right (by decide) hk
    have ik : i < k := by omega
    have ih := fun y hy => s_bestNext_loop (c := c) hk hFE hL h33 hc hu hl hw d (i + 1) nf y (by omega) (by omega) hy
    rw [a_bx_s] at ih
    rw [b_X6_bestNext_8, h33, if_neg (nI_ge (by omega) (by omega)), s_mayFollow hk hFE hc (by omega) hl ik, Option.bind_some]
    unfold b_X6_bestNext_60 b_X6_bestNext_53 b_X6_bestNext_60
    rw [nI_1]
    by_cases z : a_al k (a_FE m k ch) u l i
    · obtain ⟨v, v1, v2⟩ := s_worth (c := c) hk hL hc hu hl ik (hw i ik z.1)
      rw [a_ifp z, if_neg (show ¬ (1 : Int32) = 0 by decide), v1, Option.bind_some]
      have take : (a_bx (a_al k (a_FE m k ch) u l) (a_bF k (a_LK m ch) (a_FE m k ch) u l) i).1 = 100 ∨ (a_bx (a_al k (a_FE m k ch) u l) (a_bF k (a_LK m ch) (a_FE m k ch) u l) i).2 < a_bF k (a_LK m ch) (a_FE m k ch) u l i → b_X6_bestNext_8 c M nf (nI u) (a_lI l) (nI i) v (nI (i + 1)) = some (a_lI (a_nq k (a_LK m ch) (a_FE m k ch) u l)) := fun q => by
        rw [a_ifp ⟨z, q⟩] at ih
        have := ih v v2
        rwa [show a_lI i = nI i from if_neg (by omega)] at this
      rcases a_bx_spec (al := a_al k (a_FE m k ch) u l) (F := a_bF k (a_LK m ch) (a_FE m k ch) u l) (i := i) (by omega) with ⟨e, -⟩ | ⟨e1, -⟩
      · rw [if_pos (by rw [e]; rfl)]
        exact take (Or.inl e)
      · rw [if_neg (by rw [show a_lI (a_bx (a_al k (a_FE m k ch) u l) (a_bF k (a_LK m ch) (a_FE m k ch) u l) i).1 = nI _ from if_neg (by omega)]; exact nI_neg1 (by omega))]
        by_cases lt : (a_bx (a_al k (a_FE m k ch) u l) (a_bF k (a_LK m ch) (a_FE m k ch) u l) i).2 < a_bF k (a_LK m ch) (a_FE m k ch) u l i
        · rw [if_neg (by rw [i_le, hx, v2]; omega)]
          exact take (Or.inr lt)
        · rw [if_pos (by rw [i_le, hx, v2]; omega)]
          rw [a_ifn (fun q => q.2.elim (fun q => by omega) lt)] at ih
          exact ih x4 hx
    · rw [a_ifn z, if_pos rfl]
      rw [a_ifn (fun q => z q.1)] at ih
      exact ih x4 hx
theorem s_bestNext {c : Nat → Nat} {M : q_MM} {m : q_MM} {k u l : Nat} {ch : Nat → Nat} (hk : k ≤ 7) (hFE : ∀ l, l < k → a_FE m k ch l = 100 ∨ a_FE m k ch l < k) (hL : ∀ i j, i < k → j < k → -99 ≤ a_LK m ch i j ∧ a_LK m ch i j ≤ 99) (h33 : M 33 1 = nI k) (hc : a_cmq m k k ch M) (hu : u < 2 ^ k) (hl : l < k ∨ l = 100) (hw : ∀ i, i < k → u.testBit i = false → a_wo m k ch M (u ||| 2 ^ i) i) : f_X6_bestNext c M (nI u) (a_lI l) = some (a_lI (a_nq k (a_LK m ch) (a_FE m k ch) u l)) := by
  have hfu := q_fu_le
  unfold f_X6_bestNext
  exact s_bestNext_loop (c := c) hk hFE hL h33 hc hu hl hw k 0 q_fu 0 (by omega) (by omega) rfl
theorem s_weigh_in {c : Nat → Nat} {M0 : q_MM} {m : q_MM} {k u : Nat} {ch : Nat → Nat} {k14 : Int32 → q_MM → Option q_MM} (hk : k ≤ 7) (hFE : ∀ l, l < k → a_FE m k ch l = 100 ∨ a_FE m k ch l < k) (hL : ∀ i j, i < k → j < k → -99 ≤ a_LK m ch i j ∧ a_LK m ch i j ≤ 99) (h33 : M0 33 1 = nI k) (hc : a_cmq m k k ch M0) (hu : u < 2 ^ k) : ∀ (d l nf : Nat) (M : q_MM), l + d = k → d < nf → (∀ o, o ≠ 36 → M o = M0 o) → (∀ u', u < u' → u' < 2 ^ k → ∀ l, l < k → u'.testBit l = true → a_wo m k ch M u' l) → (∀ l', l' < l → u.testBit l' = true → a_wo m k ch M u l') → ∃ M', b_X6_weigh_20 c k14 nf (nI u) (nI l) M = k14 (nI u + (-1)) M' ∧ (∀ o, o ≠ 36 → M' o = M0 o) ∧ (∀ u', u ≤ u' → u' < 2 ^ k → ∀ l, l < k → u'.testBit l = true → a_wo m k ch M' u' l)
  | d, l, 0, _, _, h, _, _, _ => absurd h (Nat.not_lt_zero _)
  | 0, l, nf + 1, M, hi, _, hM, h1, h2 => by
    have : l = k := by omega
    subst this
    refine ⟨M, by rw [b_X6_weigh_20, hM 33 (by decide), h33, if_pos (nI_le (by omega) (by omega))], hM, fun u' q1 q2 => ?_⟩
    by_cases e : u' = u
    · rw [e]; exact h2
    · exact h1 u' (by omega) q2
  | d + 1, l, nf + 1, M, hi, hf, hM, h1, h2 => by
    have p7 : 2 ^ k ≤ 2 ^ 7 := Nat.pow_le_pow_right (by decide) hk
    have lk : l < k := by omega
    have nbl : bt (nI u) l = u.testBit l := b_nI (by omega)
    have hcM : a_cmq m k k ch M := fun l hl => by
      rw [hM 34 (by decide), hM 35 (by decide)]
      exact hc l hl
    have h33M : M 33 1 = nI k := by rw [hM 33 (by decide)]; exact h33
    have go : ∀ v : Int32, (u.testBit l = true → v.toInt = a_bW k (a_LK m ch) (a_FE m k ch) u l) → ∃ M', b_X6_weigh_79 c (b_X6_weigh_20 c k14 nf) (nI u) (nI l) v (nI u * 7 + nI l) 36 M = k14 (nI u + (-1)) M' ∧ (∀ o, o ≠ 36 → M' o = M0 o) ∧ (∀ u', u ≤ u' → u' < 2 ^ k → ∀ l, l < k → u'.testBit l = true → a_wo m k ch M' u' l) := fun v hv => by
      unfold b_X6_weigh_79
      rw [w_ck (show qTX c 36 = 1 from rfl), show qLX c 36 = 896 from rfl, show nI u * (7 : Int32) + nI l = nI (u * 7 + l) from by rw [show (7 : Int32) = nI 7 from rfl, pk_mul, nI_add], w_as (by omega) (by decide), nI_1]
      refine s_weigh_in hk hFE hL h33 hc hu d (l + 1) nf _ (by omega) (by omega) (fun o ho => ?_) (fun u' q1 q2 l' hl' hb => ?_) (fun l' hl' hb => ?_)
      · funext j
        rw [q_u2_ne (fun q => ho q.1), hM o ho]
      · unfold a_wo
        rw [q_u2_ne (by omega)]
        exact h1 u' q1 q2 l' hl' hb
      · by_cases e : l' = l
        · subst e
          unfold a_wo
          rw [q_u2_eq]
          exact hv hb
        · unfold a_wo
          rw [q_u2_ne (by omega)]
          exact h2 l' (by omega) hb
    rw [b_X6_weigh_20, h33M, if_neg (nI_ge (by omega) (by omega))]
    unfold b_X6_weigh_49
    cases z : u.testBit l
    · rw [if_pos ((b_sh1 _ (by omega)).mpr (nbl.trans z)), if_pos rfl]
      exact go 0 (fun q => by rw [z] at q; cases q)
    · have hw : ∀ i, i < k → u.testBit i = false → a_wo m k ch M (u ||| 2 ^ i) i := fun i hik hb => by
        have g := a_t1 u (by omega) i (by omega) hb
        have p := Nat.two_pow_pos i
        exact h1 (u ||| 2 ^ i) (by rw [g.2.1]; omega) (Nat.or_lt_two_pow hu (Nat.pow_lt_pow_right (by decide) hik)) i hik (by rw [g.2.1]; exact g.2.2)
      have bn := s_bestNext (c := c) hk hFE hL h33M hcM hu (Or.inl lk : l < k ∨ l = 100) hw
      rw [show a_lI l = nI l from if_neg (by omega)] at bn
      rw [if_neg (fun q2 => by rw [(b_sh1 _ (by omega)).mp q2, z] at nbl; cases nbl), bn, Option.bind_some]
      rcases a_bW_nq (LK := a_LK m ch) (FE := a_FE m k ch) (show k < 100 by omega) u l with ⟨e1, e2, -⟩ | ⟨e1, e2, e3⟩
      · rw [e1, show a_lI 100 = -1 from if_pos rfl, if_pos rfl]
        exact go 0 (fun _ => by rw [e2]; rfl)
      · obtain ⟨v, v1, v2⟩ := s_worth (c := c) hk hL hcM hu (Or.inl lk : l < k ∨ l = 100) e1 (hw _ e1 e2.1)
        rw [show a_lI l = nI l from if_neg (by omega)] at v1
        rw [show a_lI (a_nq k (a_LK m ch) (a_FE m k ch) u l) = nI (a_nq k (a_LK m ch) (a_FE m k ch) u l) from if_neg (by omega), if_neg (nI_neg1 (by omega)), v1, Option.bind_some]
        exact go v (fun _ => by rw [v2, e3])
theorem s_weigh_loop {c : Nat → Nat} {M0 : q_MM} {m : q_MM} {k : Nat} {ch : Nat → Nat} (hk : k ≤ 7) (hFE : ∀ l, l < k → a_FE m k ch l = 100 ∨ a_FE m k ch l < k) (hL : ∀ i j, i < k → j < k → -99 ≤ a_LK m ch i j ∧ a_LK m ch i j ≤ 99) (h33 : M0 33 1 = nI k) (hc : a_cmq m k k ch M0) : ∀ (u nf : Nat) (M : q_MM), u < 2 ^ k → u < nf → (∀ o, o ≠ 36 → M o = M0 o) → (∀ u', u < u' → u' < 2 ^ k → ∀ l, l < k → u'.testBit l = true → a_wo m k ch M u' l) → ∃ M', b_X6_weigh_14 c nf (nI u) M = some M' ∧ (∀ o, o ≠ 36 → M' o = M0 o) ∧ (∀ u', 0 < u' → u' < 2 ^ k → ∀ l, l < k → u'.testBit l = true → a_wo m k ch M' u' l)
  | u, 0, _, _, h, _, _ => absurd h (Nat.not_lt_zero _)
  | 0, nf + 1, M, _, _, hM, h1 => ⟨M, by rw [b_X6_weigh_14, if_pos (by decide)], hM, h1⟩
  | u + 1, nf + 1, M, hu, hf, hM, h1 => by
    have hfu := q_fu_le
    have p7 : 2 ^ k ≤ 2 ^ 7 := Nat.pow_le_pow_right (by decide) hk
    obtain ⟨M1, g1, g2, g3⟩ := s_weigh_in (c := c) (k14 := b_X6_weigh_14 c nf) hk hFE hL h33 hc hu k 0 q_fu M (by omega) (by omega) hM h1 (fun l' hl' => absurd hl' (Nat.not_lt_zero _))
    rw [b_X6_weigh_14, if_neg (nI_nle (by omega) (by omega)), show (0 : Int32) = nI 0 from rfl, g1, pk_m1]
    exact s_weigh_loop hk hFE hL h33 hc u nf M1 (by omega) (by omega) g2 (fun u' q1 q2 => g3 u' (by omega) q2)
