/-! nights: all sets, and what is told -/
/-- what the plan says of the sets from b on -/
def a_pl (k : Nat) (can tch : Nat → Int32) (g r : Int32) (b : Nat) (m M : q_MM) : Prop := ∀ S, b ≤ S → S < 2 ^ k → m 5084 S = M 44 S ∧ (S = 2 ^ k - 1 → M 44 S = 0) ∧ (S ≠ 2 ^ k - 1 → M 44 S = a_nd 99 (a_nt can tch g r S) (M 44) (2 ^ k) ∧ ∃ u : Nat, 1 ≤ u ∧ u ≤ 99 ∧ M 44 S = nI u)
def a_g44 (M M' : q_MM) : Prop := ∀ o, o ≠ 44 → o ≠ 45 → M' o = M o
def a_g84 (m m' : q_MM) : Prop := ∀ o, o ≠ 5084 → o ≠ 5085 → m' o = m o
theorem a_g44.f {M M' : q_MM} (h : a_g44 M M') : a_f44 M M' := fun o j a b _ _ => by rw [h o a b]
theorem a_g84.f {m m' : q_MM} (h : a_g84 m m') : a_f84 m m' := fun o j a b _ _ => by rw [h o a b]
theorem a_g44.trans {M M' M'' : q_MM} (h : a_g44 M M') (h' : a_g44 M' M'') : a_g44 M M'' := fun o a b => (h' o a b).trans (h o a b)
theorem a_g84.trans {m m' m'' : q_MM} (h : a_g84 m m') (h' : a_g84 m' m'') : a_g84 m m'' := fun o a b => (h' o a b).trans (h o a b)
theorem a_pl.rg {k b : Nat} {can tch : Nat → Int32} {g r : Int32} {m M : q_MM} (h : a_pl k can tch g r b m M) {S : Nat} (hb : b ≤ S) (hS : S < 2 ^ k) : ∃ u : Nat, u ≤ 99 ∧ M 44 S = nI u := by
  obtain ⟨-, h1, h2⟩ := h S hb hS
  by_cases z : S = 2 ^ k - 1
  · exact ⟨0, by decide, h1 z⟩
  · obtain ⟨-, u, -, q1, q2⟩ := h2 z
    exact ⟨u, q1, q2⟩
theorem s_pl_out {c : Nat → Nat} {k : Nat} {can tch : Nat → Int32} {m0 M0 : q_MM} {g r : Int32} (hw : a_nw k can tch m0 M0) : ∀ (b nf nf' : Nat) (m M : q_MM), b ≤ 2 ^ k - 1 → b < nf → b < nf' → a_g84 m0 m → a_g44 M0 M → a_pl k can tch g r b m M → ∃ m' M', b_X3_plan_21 c nf g r (nI (2 ^ k - 1)) (nI b + (-1)) M = some (M' 44 0, M') ∧ b_X12_nights_171 nf' g r (nI (2 ^ k - 1)) (nI b + (-1)) m = (if m' 5084 0 < 99 then b_X12_nights_286 q_fu g r (nI (2 ^ k - 1)) 0 (q_u2 m' 5001 1 0) else some (-2, m')) ∧ a_g84 m0 m' ∧ a_g44 M0 M' ∧ a_pl k can tch g r 0 m' M'
  | b, 0, _, _, _, _, h, _, _, _, _ => absurd h (Nat.not_lt_zero _)
  | b, _ + 1, 0, _, _, _, _, h, _, _, _ => absurd h (Nat.not_lt_zero _)
  | 0, nf + 1, nf' + 1, m, M, _, _, _, h1, h2, h3 => by
    refine ⟨m, M, ?_, ?_, h1, h2, h3⟩
    · rw [b_X3_plan_21, if_pos (show nI 0 + (-1) < 0 by decide), show (0 : Int32) = nI 0 from rfl, w_ld (by decide) (by decide)]
    · rw [b_X12_nights_171, if_pos (show nI 0 + (-1) < 0 by decide)]
      rw [show q_ld m 5084 256 (0 : Int32) = q_ld m 5084 256 (nI 0) from rfl, w_ld (by decide) (by decide)]
      rfl
  | f + 1, nf + 1, nf' + 1, m, M, hb, hnf, hnf', h1, h2, h3 => by
    have hfu := q_fu_le
    have hk := hw.1
    have hc := hw.2.1
    have p2 := a_p8 hk
    have hp : 0 < 2 ^ k := Nat.two_pow_pos k
    have hf : f < 2 ^ k := by omega
    have hw1 : a_nw k can tch m M := hw.fr h1.f h2.f
    have hrg := fun S (q1 : f < S) (q2 : S < 2 ^ k) => h3.rg (show f + 1 ≤ S by omega) q2
    -- the class
    obtain ⟨M1, x1, x2, x3⟩ := s_reX (c := c) (M0 := q_u2 M 44 f 99) hk hc hf (by rw [q_u2_ne (by omega)]; exact hw1.2.2.1) (fun S hS => by rw [q_u2_ne (by omega)]; exact hw1.2.2.2.1 S hS)
    have gX : a_g44 M M1 := fun o a b => by
      rw [x2 o b]
      funext j
      exact q_u2_ne (fun q => a q.1)
    have n45 : ∀ s, s < f + 1 → ¬ a_nt can tch g r f s := fun s hs q => by
      have := (q.up hc hk hf).1
      omega
    obtain ⟨M2, x4, x5, x6⟩ := s_plX_in (c := c) (k21 := b_X3_plan_21 c nf) (h := M 44) (g := g) (r := r) (hw1.fr a_f84.rf gX.f) hf x3 (fun S q1 q2 => by rw [x2 44 (by decide), q_u2_ne (by omega)]) (2 ^ k) f q_fu M1 (by omega) (by omega) (by omega) (Nat.and_self f) (fun _ _ _ => rfl) (by
      rw [x2 44 (by decide), q_u2_eq, a_nd_to (t := 0) (Nat.zero_le f) (fun s _ hs => n45 s (by omega))]
      rfl)
    -- the model
    obtain ⟨m1, y1, y2, y3⟩ := s_reM (m0 := q_u2 m 5084 f 99) hk hc hf (by rw [q_u2_ne (by omega)]; exact hw1.2.2.2.2.2.1) (fun S hS => by rw [q_u2_ne (by omega)]; exact hw1.2.2.2.2.2.2.1 S hS)
    have gM : a_g84 m m1 := fun o a b => by
      rw [y2 o b]
      funext j
      exact q_u2_ne (fun q => a q.1)
    obtain ⟨m2, y4, y5, y6⟩ := s_plM_in (k171 := b_X12_nights_171 nf') (h := M 44) (v0 := 99) (g := g) (r := r) (hw1.fr gM.f a_f44.rf) hf y3 (fun S q1 q2 => by
      rw [y2 5084 (by decide), q_u2_ne (by omega)]
      exact (h3 S (by omega) q2).1) (2 ^ k - 1) 1 q_fu m1 (by omega) (by omega) (fun _ _ _ => rfl) (by
      rw [y2 5084 (by decide), q_u2_eq, a_nd_to (t := 0) (Nat.zero_le (f + 1)) (fun s _ hs => n45 s hs)]
      rfl)
    rw [b_X3_plan_21, pk_m1, if_neg (nI_pos (by omega)), w_as (by omega) (by decide), x1, Option.bind_some, x4]
    rw [b_X12_nights_171, if_neg (nI_pos (by omega)), if_neg (fun q => by have := nI_inj (by omega) (by omega) q; omega)]
    unfold b_X12_nights_194
    rw [w_ck (show qTM 5084 = 1 from rfl), show qLM 5084 = 256 from rfl, w_as (by omega) (by decide), y1, Option.bind_some, show (1 : Int32) = nI 1 from rfl, y4]
    have f44 : ∀ S, S ≠ f → M2 44 S = M 44 S := fun S hS => by rw [x5 44 S (by omega), x2 44 (by decide), q_u2_ne (by omega)]
    have f84 : ∀ S, S ≠ f → m2 5084 S = m 5084 S := fun S hS => by rw [y5 5084 S (by omega), y2 5084 (by decide), q_u2_ne (by omega)]
    have cong : ∀ S, f ≤ S → S < 2 ^ k → a_nd 99 (a_nt can tch g r S) (M2 44) (2 ^ k) = a_nd 99 (a_nt can tch g r S) (M 44) (2 ^ k) := fun S q1 q2 => a_nd_cong (fun s hs hN => f44 s (by have := (hN.up hc hk q2).1; omega))
    refine s_pl_out hw f nf nf' m2 M2 (by omega) (by omega) (by omega) ?_ ?_ ?_
    · refine h1.trans (gM.trans fun o a b => ?_)
      funext j
      exact y5 o j (fun q => a q.1)
    · refine h2.trans (gX.trans fun o a b => ?_)
      funext j
      exact x5 o j (fun q => a q.1)
    · intro S q1 q2
      by_cases e : S = f
      · subst e
        refine ⟨by rw [x6, y6], fun q => absurd q (by omega), fun _ => ⟨by rw [cong S (Nat.le_refl S) q2, x6], ?_⟩⟩
        obtain ⟨u, u1, u2, u3⟩ := a_nd_rg (N := a_nt can tch g r S) (h := M 44) (t := 2 ^ k) (fun s hs hN => hrg s (hN.up hc hk q2).1 hs)
        exact ⟨u, u1, u2, by rw [x6, u3]⟩
      · rw [f84 S e, f44 S e, cong S q1 q2]
        exact h3 S (by omega) q2
/-- the least night: the class -/
theorem s_leastX {c : Nat → Nat} {k f T : Nat} {can tch : Nat → Int32} {m M : q_MM} {g r : Int32} {left : Int32} (hw : a_nw k can tch m M) (hf : f < 2 ^ k) (h45 : ∀ S, S < 2 ^ k → f &&& S = f → M 45 S = a_if (a_re can f S) 1 0) (hT : a_nt can tch g r f T ∧ M 44 T = left) (hmin : ∀ S, S < T → ¬ (a_nt can tch g r f S ∧ M 44 S = left)) : ∀ (d t nf : Nat), 2 ^ k ≤ t + d → d < nf → t ≤ T → f &&& t = f → b_X3_leastNight_9 c M nf (nI f) left g r (nI (2 ^ k - 1)) (nI t) = some (nI T)
  | d, t, 0, _, h, _, _ => absurd h (Nat.not_lt_zero _)
  | d, t, nf + 1, hd, hnf, ht, hft => by
    have hk := hw.1
    have hc := hw.2.1
    have p2 := a_p8 hk
    have hp : 0 < 2 ^ k := Nat.two_pow_pos k
    have hT2 := (hT.1.up hc hk hf)
    by_cases z : t = 2 ^ k - 1
    · rw [b_X3_leastNight_9, if_pos (nI_le (by omega) (by omega)), show T = 2 ^ k - 1 by omega]
    · obtain ⟨d, rfl⟩ : ∃ e, d = e + 1 := ⟨d - 1, by omega⟩
      have t2 := a_t2 f (by omega) t (by omega) hft
      rw [b_X3_leastNight_9, if_neg (nI_ge (by omega) (by omega)), s_ntX hw hf h45 (by omega) hft, Option.bind_some]
      unfold b_X3_leastNight_43
      rw [w_let, nI_1, nI_or]
      have next : t ≠ T → b_X3_leastNight_9 c M nf (nI f) left g r (nI (2 ^ k - 1)) (nI ((t + 1) ||| f)) = some (nI T) := fun e => by
        have le : (t + 1) ||| f ≤ T := by
          apply Classical.byContradiction
          intro q
          exact t2.2.2.2 (T - (t + 1)) (by omega) (by rw [show t + 1 + (T - (t + 1)) = T by omega]; exact hT2.2.2)
        exact s_leastX hw hf h45 hT hmin d ((t + 1) ||| f) nf (by omega) (by omega) le t2.2.2.1
      by_cases e : t = T
      · subst e
        rw [a_ifp hT.1, if_neg (show ¬ (1 : Int32) = 0 by decide), w_ld (by omega) (by decide), if_pos hT.2]
      · by_cases zN : a_nt can tch g r f t
        · rw [a_ifp zN, if_neg (show ¬ (1 : Int32) = 0 by decide), w_ld (by omega) (by decide), if_neg (fun q => hmin t (by omega) ⟨zN, q⟩)]
          exact next e
        · rw [a_ifn zN, if_pos rfl]
          exact next e
/-- the least night: the model -/
theorem s_leastM {k f T : Nat} {can tch : Nat → Int32} {m M : q_MM} {g r left : Int32} {k286 : Int32 → Int32 → Int32 → Int32 → q_MM → Option (Int32 × q_MM)} (hw : a_nw k can tch m M) (hf : f < 2 ^ k) (h85 : ∀ S, S < 2 ^ k → m 5085 S = a_if (a_re can f S) 1 0) (hl : m 5084 f - 1 = left) (hT : a_nt can tch g r f T ∧ m 5084 T = left) (hmin : ∀ S, S < T → ¬ (a_nt can tch g r f S ∧ m 5084 S = left)) : ∀ (d e nf : Nat), f + e + d = T → d < nf → b_X12_nights_301 k286 nf g r (nI (2 ^ k - 1)) (nI f) (nI e) m = (f_X12_enters m (nI (T - f))).bind fun r15 => k286 g r (nI (2 ^ k - 1)) (nI T) r15
  | d, e, 0, _, h => absurd h (Nat.not_lt_zero _)
  | d, e, nf + 1, hd, hnf => by
    have hk := hw.1
    have hc := hw.2.1
    have p2 := a_p8 hk
    have hT2 := (hT.1.up hc hk hf)
    have t4 := a_t4 f (by omega) e (by omega)
    rw [b_X12_nights_301, s_ntM hw hf h85 (by omega), Option.bind_some]
    unfold b_X12_nights_336
    rw [nI_1]
    cases d with
    | zero =>
      have : f + e = T := by omega
      subst this
      have z0 : f &&& e = 0 := t4.2 hT2.2.2
      have es := t4.1 z0
      rw [a_ifp ⟨z0, by rw [es]; exact hT.1⟩, if_neg (show ¬ (1 : Int32) = 0 by decide), nI_or, es, w_ld (by omega) (by decide), w_ld (by omega) (by decide), if_pos (hT.2.trans hl.symm), Nat.add_sub_cancel_left]
      simp only [w_let]
    | succ d =>
      have next := s_leastM (k286 := k286) hw hf h85 hl hT hmin d (e + 1) nf (by omega) (by omega)
      by_cases zN : f &&& e = 0 ∧ a_nt can tch g r f (f ||| e)
      · have hlt := zN.2.up hc hk hf
        have es := t4.1 zN.1
        rw [a_ifp zN, if_neg (show ¬ (1 : Int32) = 0 by decide), nI_or, w_ld (by omega) (by decide), w_ld (by omega) (by decide), if_neg (fun q => hmin (f ||| e) (by omega) ⟨zN.2, q.trans hl⟩)]
        exact next
      · rw [a_ifn zN, if_pos rfl]
        exact next
theorem a_ctT {f T : Nat} (hT : T < 256) (h : f &&& T = f) (hne : f ≠ T) : fb_ct (fun j => f.testBit j) 8 < fb_ct (fun j => T.testBit j) 8 := by
  refine a_ct_lt (fun j _ hj => a_tb.mp h j hj) ?_
  apply Classical.byContradiction
  intro q
  apply hne
  apply Nat.eq_of_testBit_eq
  intro j
  by_cases hj : j < 8
  · cases z : T.testBit j
    · cases z2 : f.testBit j
      · rfl
      · rw [a_tb.mp h j z2] at z
        cases z
    · cases z2 : f.testBit j
      · exact absurd ⟨j, hj, z, z2⟩ q
      · rfl
  · have le : f ≤ T := by
      have : f &&& T ≤ T := Nat.and_le_right
      omega
    have p : 2 ^ 8 ≤ 2 ^ j := Nat.pow_le_pow_right (by decide) (by omega)
    rw [Nat.testBit_lt_two_pow (show f < 2 ^ j by omega), Nat.testBit_lt_two_pow (show T < 2 ^ j by omega)]
theorem s_tell_loop {c : Nat → Nat} {k : Nat} {can tch : Nat → Int32} {m0 M0 : q_MM} {g r : Int32} (hw : a_nw k can tch m0 M0) : ∀ (d f e v nf nf' : Nat) (m M : q_MM), 2 ^ k - 1 - f ≤ d → d < nf → d < nf' → f < 2 ^ k → a_f84 m0 m → a_f44 M0 M → a_pl k can tch g r 0 m M → v ≤ 98 → M 44 f = nI v → e ≤ fb_ct (fun j => f.testBit j) 8 → M 6 1 = nI e → m 5001 1 = nI e → (∀ j, j < e → M 56 j = m 5012 j) → ∃ m' M' e', e' ≤ 8 ∧ b_X3_tellPlan_13 c nf g r 6 (nI f) (nI v + (-1)) M = some M' ∧ b_X12_nights_286 nf' g r (nI (2 ^ k - 1)) (nI f) m = some (m 5084 0, m') ∧ a_f84 m0 m' ∧ a_f44 M0 M' ∧ M' 6 1 = nI e' ∧ m' 5001 1 = nI e' ∧ ∀ j, j < e' → M' 56 j = m' 5012 j
  | d, f, e, v, 0, _, _, _, _, h, _, _, _, _, _, _, _, _, _, _, _ => absurd h (Nat.not_lt_zero _)
  | d, f, e, v, _ + 1, 0, _, _, _, _, h, _, _, _, _, _, _, _, _, _, _ => absurd h (Nat.not_lt_zero _)
  | d, f, e, v, nf + 1, nf' + 1, m, M, hd, hnf, hnf', hf, hm, hM, hpl, hv, hvf, he, e1, e2, e3 => by
    have hfu := q_fu_le
    have hk := hw.1
    have hc := hw.2.1
    have p2 := a_p8 hk
    have hp : 0 < 2 ^ k := Nat.two_pow_pos k
    have he8 : fb_ct (fun j => f.testBit j) 8 ≤ 8 := fb_ct_le _ 8
    have hw1 : a_nw k can tch m M := hw.fr hm hM
    by_cases z : f = 2 ^ k - 1
    · have hv0 : v = 0 := nI_inj (by omega) (by decide) (hvf.symm.trans ((hpl f (Nat.zero_le f) hf).2.1 z))
      subst hv0
      refine ⟨m, M, e, by omega, ?_, ?_, hm, hM, e1, e2, e3⟩
      · rw [b_X3_tellPlan_13, if_pos (show nI 0 + (-1) < 0 by decide)]
      · rw [b_X12_nights_286, if_pos (by rw [z]), show (0 : Int32) = nI 0 from rfl, w_ld (by decide) (by decide)]
    · obtain ⟨d, rfl⟩ : ∃ q, d = q + 1 := ⟨d - 1, by omega⟩
      obtain ⟨hq, u, u1, u2, u3⟩ := (hpl f (Nat.zero_le f) hf).2.2 z
      have : u = v := nI_inj (by omega) (by omega) (u3.symm.trans hvf)
      subst this
      obtain ⟨v, rfl⟩ : ∃ q, u = q + 1 := ⟨u - 1, by omega⟩
      have hex : ∃ T, a_nt can tch g r f T ∧ M 44 T = nI v := by
        rcases a_nd_ex (v0 := 99) (N := a_nt can tch g r f) (h := M 44) (t := 2 ^ k) with q | ⟨s, s1, s2, s3⟩
        · rw [← hq, hvf] at q
          have := nI_inj (i := v + 1) (j := 99) (by omega) (by decide) q
          omega
        · obtain ⟨x, x1, x2⟩ := hpl.rg (Nat.zero_le s) s1
          rw [← hq, hvf, x2, nI_1] at s3
          have := nI_inj (by omega) (by omega) s3
          exact ⟨s, s2, by rw [x2, show x = v by omega]⟩
      obtain ⟨T, hT, hmin⟩ := pk_least _ hex
      have hT2 := hT.1.up hc hk hf
      obtain ⟨M1, x1, x2, x3⟩ := s_reX (c := c) (M0 := M) hk hc hf hw1.2.2.1 hw1.2.2.2.1
      obtain ⟨m1, y1, y2, y3⟩ := s_reM (m0 := m) hk hc hf hw1.2.2.2.2.2.1 hw1.2.2.2.2.2.2.1
      have hw2 : a_nw k can tch m1 M1 := hw1.fr (fun o j a b _ _ => by rw [y2 o b]) (fun o j a b _ _ => by rw [x2 o b])
      have r44 := x2 44 (by decide)
      have r84 := y2 5084 (by decide)
      have same : ∀ S, S < 2 ^ k → m 5084 S = M 44 S := fun S hS => (hpl S (Nat.zero_le S) hS).1
      have lx := s_leastX (c := c) (T := T) (left := nI v) (g := g) (r := r) hw2 hf x3 (by rw [r44]; exact hT) (fun S hS q => hmin S hS (by rw [r44] at q; exact q)) (2 ^ k) f q_fu (by omega) (by omega) (by omega) (Nat.and_self f)
      have ly := s_leastM (T := T) (left := nI v) (g := g) (r := r) (k286 := b_X12_nights_286 nf') hw2 hf y3 (by rw [r84, same f hf, hvf]; exact nI_pred v) (by rw [r84, same T hT2.2.1]; exact hT) (fun S hS q => hmin S hS (by rw [r84, same S (by omega)] at q; exact q)) (T - f - 1) 1 q_fu (by omega) (by omega)
      have t5 := a_t5 f (by omega) T (by omega) hT2.2.2
      have ct := a_ctT (show T < 256 by omega) hT2.2.2 (by omega)
      have ctT : fb_ct (fun j => T.testBit j) 8 ≤ 8 := fb_ct_le _ 8
      have d1 : M1 6 1 = nI e := by rw [x2 6 (by decide)]; exact e1
      have d2 : m1 5001 1 = nI e := by rw [y2 5001 (by decide)]; exact e2
      rw [b_X3_tellPlan_13, pk_m1, if_neg (nI_pos (by omega)), x1, Option.bind_some]
      unfold f_X3_leastNight
      rw [s_all hk hw2.2.2.1, Option.bind_some, lx, Option.bind_some, w_ck (show qTX c 6 = 14 from rfl), nI_xor, t5.1, s_add (r := 56) (N := 32) (k := e) (by decide) d1 (by omega), Option.bind_some]
      rw [b_X12_nights_286, if_neg (fun q => z (nI_inj (by omega) (by omega) q)), y1, Option.bind_some, show (1 : Int32) = nI 1 from rfl, ly]
      unfold f_X12_enters
      rw [d2, w_as (by omega) (by decide), w_let, Option.bind_some, q_u2_ne (by omega), d2, nI_1]
      have fm : a_f84 m (q_u2 (q_u2 m1 5012 e (nI (T - f))) 5001 1 (nI (e + 1))) := fun o j a b c' d' => by
        rw [q_u2_ne d', q_u2_ne (fun q => c' q.1), y2 o b]
      have fM : a_f44 M (q_u2 (q_u2 M1 56 e (nI (T - f))) 6 1 (nI (e + 1))) := fun o j a b c' d' => by
        rw [q_u2_ne d', q_u2_ne (fun q => c' q.1), x2 o b]
      have k44 : q_u2 (q_u2 M1 56 e (nI (T - f))) 6 1 (nI (e + 1)) 44 = M 44 := by
        funext j
        rw [q_u2_ne (by omega), q_u2_ne (by omega), r44]
      have k84 : q_u2 (q_u2 m1 5012 e (nI (T - f))) 5001 1 (nI (e + 1)) 5084 = m 5084 := by
        funext j
        rw [q_u2_ne (by omega), q_u2_ne (by omega), r84]
      obtain ⟨m', M', e', g1, g2, g3, g4, g5, g6, g7, g8⟩ := s_tell_loop (c := c) hw d T (e + 1) v nf nf' _ _ (by omega) (by omega) (by omega) hT2.2.1 (hm.trans fm) (hM.trans fM) (by
        intro S q1 q2
        rw [k44, k84]
        exact hpl S q1 q2) (by omega) (by rw [k44]; exact hT.2) (by omega) q_u2_eq q_u2_eq (fun j hj => by
        rw [q_u2_ne (by omega), q_u2_ne (M := q_u2 m1 5012 e (nI (T - f))) (by omega)]
        by_cases q : j = e
        · subst q
          rw [q_u2_eq, q_u2_eq]
        · rw [q_u2_ne (by omega), q_u2_ne (by omega), x2 56 (by decide), y2 5012 (by decide)]
          exact e3 j (by omega))
      rw [k84] at g3
      exact ⟨m', M', e', g1, g2, g3, g4, g5, g6, g7, g8⟩
