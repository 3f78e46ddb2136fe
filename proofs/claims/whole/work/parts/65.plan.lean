/-! nights: the plan -/
theorem a_sub1 (x : Int32) : x - 1 = x + (-1) := by rw [Int32.sub_eq_add_neg]
def a_q4 (f e : Nat) : Bool := (!(Nat.beq (f &&& e) 0) || Nat.beq (f ||| e) (f + e)) && (!(Nat.beq (f &&& (f + e)) f) || Nat.beq (f &&& e) 0)
theorem a_q4a : (List.range 256).all (fun f => (List.range 256).all (a_q4 f)) = true := by decide +kernel
theorem a_t4 : ∀ f, f < 256 → ∀ e, e < 256 → (f &&& e = 0 → f ||| e = f + e) ∧ (f &&& (f + e) = f → f &&& e = 0) := by
  intro f hf e he
  have g := a_tall a_q4a hf he
  unfold a_q4 at g
  rw [Bool.and_eq_true, Bool.or_eq_true, Bool.or_eq_true, a_nbq, a_nbq, Nat.beq_eq, Nat.beq_eq] at g
  exact ⟨fun h => g.1.resolve_left (fun q => q h), fun h => g.2.resolve_left (fun q => q h)⟩
def a_q5 (f T : Nat) : Bool := !(Nat.beq (f &&& T) f) || (Nat.beq (T ^^^ f) (T - f) && Nat.beq (f ||| (T - f)) T)
theorem a_q5a : (List.range 256).all (fun f => (List.range 256).all (a_q5 f)) = true := by decide +kernel
theorem a_t5 : ∀ f, f < 256 → ∀ T, T < 256 → f &&& T = f → T ^^^ f = T - f ∧ f ||| (T - f) = T := by
  intro f hf T hT h
  have g := a_tall a_q5a hf hT
  unfold a_q5 at g
  rw [Bool.or_eq_true, a_nbq] at g
  have g := g.resolve_left (fun q => q h)
  rwa [Bool.and_eq_true, Nat.beq_eq, Nat.beq_eq] at g
theorem a_x0 {f T : Nat} : T ^^^ f = 0 ↔ T = f := by
  constructor
  · intro h
    apply Nat.eq_of_testBit_eq
    intro j
    have := congrArg (fun x => x.testBit j) h
    simp only [Nat.testBit_xor, Nat.zero_testBit] at this
    revert this
    cases T.testBit j <;> cases f.testBit j <;> simp
  · rintro rfl
    exact Nat.xor_self T
theorem a_xd {f e : Nat} (h : f &&& e = 0) : (f ||| e) ^^^ f = e := by
  apply Nat.eq_of_testBit_eq
  intro j
  have := congrArg (fun x => x.testBit j) h
  simp only [Nat.testBit_and, Nat.zero_testBit] at this
  rw [Nat.testBit_xor, Nat.testBit_or]
  revert this
  cases e.testBit j <;> cases f.testBit j <;> simp
def a_mn (u v : Int32) : Int32 := if u < v then u else v
noncomputable def a_nd (v0 : Int32) (N : Nat → Prop) (h : Nat → Int32) : Nat → Int32
  | 0 => v0
  | t + 1 => a_if (N t) (a_mn (h t + 1) (a_nd v0 N h t)) (a_nd v0 N h t)
theorem a_nd_s {v0 : Int32} {N : Nat → Prop} {h : Nat → Int32} {t : Nat} : a_nd v0 N h (t + 1) = a_if (N t) (a_mn (h t + 1) (a_nd v0 N h t)) (a_nd v0 N h t) := rfl
theorem a_nd_skip {v0 : Int32} {N : Nat → Prop} {h : Nat → Int32} {t : Nat} : ∀ d, (∀ s, t ≤ s → s < t + d → ¬ N s) → a_nd v0 N h (t + d) = a_nd v0 N h t
  | 0, _ => rfl
  | d + 1, hs => by
    rw [← Nat.add_assoc, a_nd_s, a_ifn (hs (t + d) (by omega) (by omega))]
    exact a_nd_skip d (fun s h1 h2 => hs s h1 (by omega))
theorem a_nd_to {v0 : Int32} {N : Nat → Prop} {h : Nat → Int32} {t u : Nat} (htu : t ≤ u) (hs : ∀ s, t ≤ s → s < u → ¬ N s) : a_nd v0 N h u = a_nd v0 N h t := by
  obtain ⟨d, rfl⟩ : ∃ d, u = t + d := ⟨u - t, by omega⟩
  exact a_nd_skip d hs
theorem a_nd_cong {v0 : Int32} {N : Nat → Prop} {h h' : Nat → Int32} : ∀ {t : Nat}, (∀ s, s < t → N s → h s = h' s) → a_nd v0 N h t = a_nd v0 N h' t
  | 0, _ => rfl
  | t + 1, hs => by
    rw [a_nd_s, a_nd_s, a_nd_cong (h' := h') (fun s h1 => hs s (by omega))]
    by_cases z : N t
    · rw [hs t (by omega) z]
    · rw [a_ifn z, a_ifn z]
theorem a_nd_ex {v0 : Int32} {N : Nat → Prop} {h : Nat → Int32} : ∀ {t : Nat}, a_nd v0 N h t = v0 ∨ ∃ s, s < t ∧ N s ∧ a_nd v0 N h t = h s + 1
  | 0 => Or.inl rfl
  | t + 1 => by
    have ih : a_nd v0 N h t = v0 ∨ ∃ s, s < t ∧ N s ∧ a_nd v0 N h t = h s + 1 := a_nd_ex
    have ih' : a_nd v0 N h t = v0 ∨ ∃ s, s < t + 1 ∧ N s ∧ a_nd v0 N h t = h s + 1 := by
      rcases ih with e | ⟨s, h1, h2, h3⟩
      · exact Or.inl e
      · exact Or.inr ⟨s, by omega, h2, h3⟩
    rw [a_nd_s]
    by_cases z : N t
    · rw [a_ifp z]
      unfold a_mn
      split
      · exact Or.inr ⟨t, by omega, z, rfl⟩
      · exact ih'
    · rw [a_ifn z]
      exact ih'
theorem a_nd_rg {N : Nat → Prop} {h : Nat → Int32} : ∀ {t : Nat}, (∀ s, s < t → N s → ∃ u : Nat, u ≤ 99 ∧ h s = nI u) → ∃ u : Nat, 1 ≤ u ∧ u ≤ 99 ∧ a_nd 99 N h t = nI u
  | 0, _ => ⟨99, by decide, by decide, rfl⟩
  | t + 1, hs => by
    obtain ⟨u, h1, h2, h3⟩ := a_nd_rg (N := N) (h := h) (t := t) (fun s q => hs s (by omega))
    rw [a_nd_s]
    by_cases z : N t
    · obtain ⟨u', h4, h5⟩ := hs t (by omega) z
      rw [a_ifp z, h3, h5, nI_1]
      unfold a_mn
      split
      · rename_i q
        rw [nI_ltI (by omega) (by omega)] at q
        exact ⟨u' + 1, by omega, by omega, rfl⟩
      · exact ⟨u, h1, h2, rfl⟩
    · rw [a_ifn z]
      exact ⟨u, h1, h2, h3⟩
/-- one night -/
def a_nt (can tch : Nat → Int32) (g r : Int32) (f T : Nat) : Prop := T ≠ f ∧ a_re can f T ∧ ¬ g < nI (fb_ct (bt (nI (T ^^^ f))) 32) ∧ ¬ r < nI (fb_ct (bt (tch (T ^^^ f))) 32)
def a_f84 (m m' : q_MM) : Prop := ∀ o j, o ≠ 5084 → o ≠ 5085 → o ≠ 5012 → ¬ (o = 5001 ∧ j = 1) → m' o j = m o j
def a_f44 (M M' : q_MM) : Prop := ∀ o j, o ≠ 44 → o ≠ 45 → o ≠ 56 → ¬ (o = 6 ∧ j = 1) → M' o j = M o j
theorem a_f84.rf {m : q_MM} : a_f84 m m := fun _ _ _ _ _ _ => rfl
theorem a_f44.rf {m : q_MM} : a_f44 m m := fun _ _ _ _ _ _ => rfl
theorem a_f84.trans {m m' m'' : q_MM} (h : a_f84 m m') (h' : a_f84 m' m'') : a_f84 m m'' := fun o j a b c d => (h' o j a b c d).trans (h o j a b c d)
theorem a_f44.trans {m m' m'' : q_MM} (h : a_f44 m m') (h' : a_f44 m' m'') : a_f44 m m'' := fun o j a b c d => (h' o j a b c d).trans (h o j a b c d)
def a_nw (k : Nat) (can tch : Nat → Int32) (m M : q_MM) : Prop := k ≤ 8 ∧ a_cn can k ∧ M 39 1 = nI k ∧ (∀ S, S < 2 ^ k → M 42 S = can S) ∧ (∀ S, S < 2 ^ k → M 43 S = tch S) ∧ m 5001 66 = nI k ∧ (∀ S, S < 2 ^ k → m 5083 S = can S) ∧ ∀ m', a_f84 m m' → ∀ S, S < 2 ^ k → f_X12_roomsTouched m' (nI S) = some (nI (fb_ct (bt (tch S)) 32))
theorem a_nw.fr {k : Nat} {can tch : Nat → Int32} {m M m' M' : q_MM} (h : a_nw k can tch m M) (h1 : a_f84 m m') (h2 : a_f44 M M') : a_nw k can tch m' M' := by
  obtain ⟨a1, a2, a3, a4, a5, a6, a7, a8⟩ := h
  exact ⟨a1, a2, (h2 39 1 (by decide) (by decide) (by decide) (by omega)).trans a3, fun S hS => (h2 42 S (by decide) (by decide) (by decide) (by omega)).trans (a4 S hS), fun S hS => (h2 43 S (by decide) (by decide) (by decide) (by omega)).trans (a5 S hS), (h1 5001 66 (by decide) (by decide) (by decide) (by omega)).trans a6, fun S hS => (h1 5083 S (by decide) (by decide) (by decide) (by omega)).trans (a7 S hS), fun m'' q => a8 m'' (h1.trans q)⟩
theorem s_ntX {c : Nat → Nat} {k f T : Nat} {can tch : Nat → Int32} {m M : q_MM} {g r : Int32} (hw : a_nw k can tch m M) (hf : f < 2 ^ k) (h45 : ∀ S, S < 2 ^ k → f &&& S = f → M 45 S = a_if (a_re can f S) 1 0) (hT : T < 2 ^ k) (hfT : f &&& T = f) : f_X3_isNight c M (nI f) (nI T) g r = some (a_if (a_nt can tch g r f T) 1 0) := by
  obtain ⟨hk, hc, -, -, h43, -, -, -⟩ := hw
  have p2 := a_p8 hk
  have hx : T ^^^ f < 2 ^ k := Nat.xor_lt_two_pow hT hf
  unfold f_X3_isNight
  rw [w_let, nI_xor]
  by_cases z : T = f
  · rw [a_x0.mpr z, if_pos (show nI 0 = 0 from rfl), w_bl0, a_ifn (fun q => q.1 z)]
  · have z' : T ^^^ f ≠ 0 := fun q => z (a_x0.mp q)
    rw [if_neg (nI_ne0 (by omega) (by omega)), w_ld (by omega) (by decide), h45 T hT hfT]
    by_cases z2 : a_re can f T
    · rw [a_ifp z2, if_neg (show ¬ (1 : Int32) = 0 by decide), s_bits, Option.bind_some]
      by_cases z3 : g < nI (fb_ct (bt (nI (T ^^^ f))) 32)
      · rw [if_pos z3, w_bl0, a_ifn (fun q => q.2.2.1 z3)]
      · rw [if_neg z3, w_ld (by omega) (by decide), h43 _ hx, s_bits, Option.bind_some]
        by_cases z4 : r < nI (fb_ct (bt (tch (T ^^^ f))) 32)
        · rw [if_pos z4, w_bl0, a_ifn (fun q => q.2.2.2 z4)]
        · rw [if_neg z4, w_bl1, a_ifp ⟨z, z2, z3, z4⟩]
    · rw [a_ifn z2, if_pos rfl, w_bl0, a_ifn (fun q => z2 q.2.1)]
theorem s_ntM {k f e : Nat} {can tch : Nat → Int32} {m M : q_MM} {g r : Int32} (hw : a_nw k can tch m M) (hf : f < 2 ^ k) (h85 : ∀ S, S < 2 ^ k → m 5085 S = a_if (a_re can f S) 1 0) (he : e < 2 ^ k) : f_X12_isNight m (nI f) (nI e) g r = some (a_if (f &&& e = 0 ∧ a_nt can tch g r f (f ||| e)) 1 0) := by
  obtain ⟨hk, hc, -, -, -, -, -, hr⟩ := hw
  have p2 := a_p8 hk
  have hx : f ||| e < 2 ^ k := Nat.or_lt_two_pow hf he
  unfold f_X12_isNight
  rw [nI_and]
  by_cases z : e = 0
  · subst z
    rw [if_pos (show nI 0 = 0 from rfl), w_bl0, a_ifn (fun q => q.2.1 (Nat.or_zero f))]
  · rw [if_neg (nI_ne0 (by omega) (by omega))]
    have ha : f &&& e < 2 ^ k := Nat.and_lt_two_pow f he
    by_cases z0 : f &&& e = 0
    · rw [z0, if_pos (show nI 0 = 0 from rfl), nI_or, w_ld (by omega) (by decide), h85 _ hx]
      have hne : f ||| e ≠ f := by
        have := (a_t4 f (by omega) e (by omega)).1 z0
        omega
      by_cases z2 : a_re can f (f ||| e)
      · rw [a_ifp z2, if_neg (show ¬ (1 : Int32) = 0 by decide), s_bits, Option.bind_some]
        unfold a_nt
        rw [a_xd z0]
        by_cases z3 : g < nI (fb_ct (bt (nI e)) 32)
        · rw [if_pos z3, w_bl0, a_ifn (fun q => q.2.2.2.1 z3)]
        · rw [if_neg z3, hr m a_f84.rf e he, Option.bind_some]
          by_cases z4 : r < nI (fb_ct (bt (tch e)) 32)
          · rw [if_pos z4, w_bl0, a_ifn (fun q => q.2.2.2.2 z4)]
          · rw [if_neg z4, w_bl1, a_ifp ⟨rfl, hne, z2, z3, z4⟩]
      · rw [a_ifn z2, if_pos rfl, w_bl0, a_ifn (fun q => z2 q.2.2.1)]
    · rw [if_neg (nI_ne0 (by omega) (by omega)), w_bl0, a_ifn (fun q => z0 q.1)]
theorem a_nt.up {can tch : Nat → Int32} {g r : Int32} {f T k : Nat} (hc : a_cn can k) (hk : k ≤ 8) (hf : f < 2 ^ k) (h : a_nt can tch g r f T) : f < T ∧ T < 2 ^ k ∧ f &&& T = f := by
  have h1 := h.2.1.sup hc hk hf
  have h2 := h.2.1.ge hc hk hf
  have h3 := h.1
  exact ⟨by omega, h1⟩
theorem s_plX_in {c : Nat → Nat} {k f : Nat} {can tch h : Nat → Int32} {m0 M0 : q_MM} {g r : Int32} {k21 : Int32 → Int32 → Int32 → Int32 → q_MM → Option (Int32 × q_MM)} (hw : a_nw k can tch m0 M0) (hf : f < 2 ^ k) (h45 : ∀ S, S < 2 ^ k → f &&& S = f → M0 45 S = a_if (a_re can f S) 1 0) (h44 : ∀ S, f < S → S < 2 ^ k → M0 44 S = h S) : ∀ (d T nf : Nat) (M : q_MM), 2 ^ k ≤ T + d → T < 512 → d < nf → f &&& T = f → (∀ o j, ¬ (o = 44 ∧ j = f) → M o j = M0 o j) → M 44 f = a_nd 99 (a_nt can tch g r f) h T → ∃ M', b_X3_plan_45 c k21 nf g r (nI (2 ^ k - 1)) (nI f) (nI T) M = k21 g r (nI (2 ^ k - 1)) (nI f + (-1)) M' ∧ (∀ o j, ¬ (o = 44 ∧ j = f) → M' o j = M0 o j) ∧ M' 44 f = a_nd 99 (a_nt can tch g r f) h (2 ^ k)
  | d, T, 0, _, _, _, h, _, _, _ => absurd h (Nat.not_lt_zero _)
  | d, T, nf + 1, M, hd, hT5, hnf, hfT, hfr, hv => by
    have hk := hw.1
    have hc := hw.2.1
    have p2 := a_p8 hk
    have hp : 0 < 2 ^ k := Nat.two_pow_pos k
    by_cases z : 2 ^ k ≤ T
    · refine ⟨M, ?_, hfr, ?_⟩
      · rw [b_X3_plan_45, if_pos (nI_lt (by omega) (by omega))]
      · rw [hv]
        exact a_nd_to z (fun s h1 h2 q => by have := (q.up hc hk hf).2.1; omega)
    · obtain ⟨d, rfl⟩ : ∃ e, d = e + 1 := ⟨d - 1, by omega⟩
      have t2 := a_t2 f (by omega) T (by omega) hfT
      have hle : f ≤ T := by
        have : f &&& T ≤ T := Nat.and_le_right
        omega
      have hw' : a_nw k can tch m0 M := hw.fr a_f84.rf (fun o j h1 h2 h3 h4 => hfr o j (by omega))
      rw [b_X3_plan_45, if_neg (nI_nlt (by omega) (by omega)), s_ntX hw' hf (fun S hS hfS => by rw [hfr 45 S (by omega)]; exact h45 S hS hfS) (by omega) hfT, Option.bind_some]
      unfold b_X3_plan_90
      rw [w_let, nI_1, nI_or]
      have hnx : a_nd 99 (a_nt can tch g r f) h ((T + 1) ||| f) = a_nd 99 (a_nt can tch g r f) h (T + 1) := a_nd_to (by omega) (fun s h1 h2 q => by
        have g3 := (q.up hc hk hf).2.2
        exact t2.2.2.2 (s - (T + 1)) (by omega) (by rw [show T + 1 + (s - (T + 1)) = s by omega]; exact g3))
      by_cases zN : a_nt can tch g r f T
      · have hlt := (zN.up hc hk hf).1
        rw [a_ifp zN, if_neg (show ¬ (1 : Int32) = 0 by decide), w_ld (by omega) (by decide), w_ld (by omega) (by decide), w_as (by omega) (by decide)]
        refine s_plX_in hw hf h45 h44 d ((T + 1) ||| f) nf _ (by omega) t2.2.1 (by omega) t2.2.2.1 (fun o j hoj => ?_) ?_
        · rw [q_u2_ne hoj, hfr o j hoj]
        · rw [q_u2_eq, hnx, a_nd_s, a_ifp zN, hv, hfr 44 T (by omega), h44 T hlt (by omega)]
          rfl
      · rw [a_ifn zN, if_pos rfl]
        refine s_plX_in hw hf h45 h44 d ((T + 1) ||| f) nf _ (by omega) t2.2.1 (by omega) t2.2.2.1 hfr ?_
        rw [hnx, a_nd_s, a_ifn zN, hv]
theorem s_plM_in {k f : Nat} {can tch h : Nat → Int32} {m0 M0 : q_MM} {g r v0 : Int32} {k171 : Int32 → Int32 → Int32 → Int32 → q_MM → Option (Int32 × q_MM)} (hw : a_nw k can tch m0 M0) (hf : f < 2 ^ k) (h85 : ∀ S, S < 2 ^ k → m0 5085 S = a_if (a_re can f S) 1 0) (h84 : ∀ S, f < S → S < 2 ^ k → m0 5084 S = h S) : ∀ (d e nf : Nat) (m : q_MM), e + d = 2 ^ k → d < nf → (∀ o j, ¬ (o = 5084 ∧ j = f) → m o j = m0 o j) → m 5084 f = a_nd v0 (a_nt can tch g r f) h (f + e) → ∃ m', b_X12_nights_204 k171 nf g r (nI (2 ^ k - 1)) (nI f) (nI e) m = k171 g r (nI (2 ^ k - 1)) (nI f + (-1)) m' ∧ (∀ o j, ¬ (o = 5084 ∧ j = f) → m' o j = m0 o j) ∧ m' 5084 f = a_nd v0 (a_nt can tch g r f) h (2 ^ k)
  | d, e, 0, _, _, h, _, _ => absurd h (Nat.not_lt_zero _)
  | 0, e, nf + 1, m, hi, _, hfr, hv => by
    have hk := hw.1
    have hc := hw.2.1
    have p2 := a_p8 hk
    have hp : 0 < 2 ^ k := Nat.two_pow_pos k
    have : e = 2 ^ k := by omega
    subst this
    refine ⟨m, ?_, hfr, ?_⟩
    · rw [b_X12_nights_204, if_pos (nI_lt (by omega) (by omega))]
    · rw [hv]
      exact a_nd_to (by omega) (fun s h1 h2 q => by have := (q.up hc hk hf).2.1; omega)
  | d + 1, e, nf + 1, m, hi, hnf, hfr, hv => by
    have hk := hw.1
    have hc := hw.2.1
    have p2 := a_p8 hk
    have hp : 0 < 2 ^ k := Nat.two_pow_pos k
    have t4 := a_t4 f (by omega) e (by omega)
    have hw' : a_nw k can tch m M0 := hw.fr (fun o j h1 h2 h3 h4 => hfr o j (by omega)) a_f44.rf
    rw [b_X12_nights_204, if_neg (nI_nlt (by omega) (by omega)), s_ntM hw' hf (fun S hS => by rw [hfr 5085 S (by omega)]; exact h85 S hS) (by omega), Option.bind_some]
    unfold b_X12_nights_252
    rw [nI_1]
    by_cases zN : f &&& e = 0 ∧ a_nt can tch g r f (f ||| e)
    · have hlt := zN.2.up hc hk hf
      have es := t4.1 zN.1
      rw [a_ifp zN, if_neg (show ¬ (1 : Int32) = 0 by decide), w_ld (by omega) (by decide), nI_or, w_ld (by omega) (by decide), w_as (by omega) (by decide)]
      refine s_plM_in hw hf h85 h84 d (e + 1) nf _ (by omega) (by omega) (fun o j hoj => ?_) ?_
      · rw [q_u2_ne hoj, hfr o j hoj]
      · rw [q_u2_eq, ← Nat.add_assoc, a_nd_s, ← es, a_ifp zN.2, es, ← hv, ← es, hfr 5084 (f ||| e) (by omega), h84 _ hlt.1 hlt.2.1]
        rfl
    · have nN : ¬ a_nt can tch g r f (f + e) := fun q => by
        have q3 := (q.up hc hk hf).2.2
        have q4 := t4.2 q3
        exact zN ⟨q4, by rw [t4.1 q4]; exact q⟩
      rw [a_ifn zN, if_pos rfl]
      refine s_plM_in hw hf h85 h84 d (e + 1) nf _ (by omega) (by omega) hfr ?_
      rw [← Nat.add_assoc, a_nd_s, a_ifn nN, hv]
