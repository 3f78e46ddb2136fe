/-! sets as bits; which sets are come to -/
theorem nI_or (a b : Nat) : nI a ||| nI b = nI (a ||| b) := b_ext fun i hi => by rw [b_or, b_nI hi, b_nI hi, b_nI hi, Nat.testBit_or]
theorem nI_and (a b : Nat) : nI a &&& nI b = nI (a &&& b) := b_ext fun i hi => by rw [b_and, b_nI hi, b_nI hi, b_nI hi, Nat.testBit_and]
theorem nI_xor (a b : Nat) : nI a ^^^ nI b = nI (a ^^^ b) := b_ext fun i hi => by rw [b_xor, b_nI hi, b_nI hi, b_nI hi, Nat.testBit_xor]
theorem a_tall {P : Nat → Nat → Bool} {N K : Nat} (h : (List.range N).all (fun f => (List.range K).all (P f)) = true) {f e : Nat} (hf : f < N) (he : e < K) : P f e = true := List.all_eq_true.mp (List.all_eq_true.mp h f (List.mem_range.mpr hf)) e (List.mem_range.mpr he)
def a_q1 (S i : Nat) : Bool := S.testBit i || (Nat.blt (S + 2 ^ i) 256 && Nat.beq (S ||| 2 ^ i) (S + 2 ^ i) && (S + 2 ^ i).testBit i)
theorem a_q1a : (List.range 256).all (fun f => (List.range 8).all (a_q1 f)) = true := by decide +kernel
theorem a_t1 : ∀ S, S < 256 → ∀ i, i < 8 → S.testBit i = false → (S + 2 ^ i < 256 ∧ S ||| 2 ^ i = S + 2 ^ i ∧ (S + 2 ^ i).testBit i = true) := by
  intro S hS i hi h
  have g := a_tall a_q1a hS hi
  unfold a_q1 at g
  rw [h, Bool.false_or, Bool.and_eq_true, Bool.and_eq_true, Nat.blt_eq, Nat.beq_eq] at g
  exact ⟨g.1.1, g.1.2, g.2⟩
def a_q2 (f T : Nat) : Bool := !(Nat.beq (f &&& T) f) || (Nat.blt T ((T + 1) ||| f) && Nat.blt ((T + 1) ||| f) 512 && Nat.beq (f &&& ((T + 1) ||| f)) f && (List.range (((T + 1) ||| f) - (T + 1))).all fun U => !(Nat.beq (f &&& (T + 1 + U)) f))
theorem a_q2a : (List.range 256).all (fun f => (List.range 256).all (a_q2 f)) = true := by decide +kernel
theorem a_nbq {x y : Nat} : (!(Nat.beq x y)) = true ↔ x ≠ y := by
  rw [Bool.not_eq_true', ← Bool.not_eq_true, Nat.beq_eq]
theorem a_t2 : ∀ f, f < 256 → ∀ T, T < 256 → f &&& T = f → (T < (T + 1) ||| f ∧ (T + 1) ||| f < 512 ∧ f &&& ((T + 1) ||| f) = f ∧ ∀ U, U < ((T + 1) ||| f) - (T + 1) → ¬ f &&& (T + 1 + U) = f) := by
  intro f hf T hT h
  have g := a_tall a_q2a hf hT
  unfold a_q2 at g
  rw [Bool.or_eq_true, a_nbq] at g
  have g := g.resolve_left (fun q => q h)
  rw [Bool.and_eq_true, Bool.and_eq_true, Bool.and_eq_true, Nat.blt_eq, Nat.blt_eq, Nat.beq_eq] at g
  exact ⟨g.1.1.1, g.1.1.2, g.1.2, fun U hU => a_nbq.mp (List.all_eq_true.mp g.2 U (List.mem_range.mpr hU))⟩
def a_q3 (T i : Nat) : Bool := !(T.testBit i) || (Nat.ble (2 ^ i) T && (List.range 8).all fun j => (T - 2 ^ i).testBit j == (T.testBit j && !(Nat.beq j i)))
theorem a_q3a : (List.range 256).all (fun f => (List.range 8).all (a_q3 f)) = true := by decide +kernel
theorem a_t3 : ∀ T, T < 256 → ∀ i, i < 8 → T.testBit i = true → (2 ^ i ≤ T ∧ ∀ j, j < 32 → (T - 2 ^ i).testBit j = (T.testBit j && !decide (j = i))) := by
  intro T hT i hi h
  have g := a_tall a_q3a hT hi
  unfold a_q3 at g
  rw [h, Bool.not_true, Bool.false_or, Bool.and_eq_true, Nat.ble_eq] at g
  refine ⟨g.1, fun j _ => ?_⟩
  by_cases j8 : j < 8
  · have e := List.all_eq_true.mp g.2 j (List.mem_range.mpr j8)
    rw [beq_iff_eq] at e
    rw [e]
    congr 2
    rw [Bool.eq_iff_iff, Nat.beq_eq, decide_eq_true_eq]
  · have p : 2 ^ 8 ≤ 2 ^ j := Nat.pow_le_pow_right (by decide) (by omega)
    rw [Nat.testBit_lt_two_pow (Nat.lt_of_le_of_lt (Nat.sub_le T (2 ^ i)) (show T < 2 ^ j by omega)), Nat.testBit_lt_two_pow (show T < 2 ^ j by omega)]
    rfl
theorem a_if_iff {α : Type} {P Q : Prop} {x y : α} (h : P ↔ Q) : a_if P x y = a_if Q x y := by rw [propext h]
theorem a_tb {f T : Nat} : f &&& T = f ↔ ∀ j, f.testBit j = true → T.testBit j = true := by
  constructor
  · intro h j hj
    have := congrArg (fun x => x.testBit j) h
    simp only [Nat.testBit_and, hj, Bool.true_and] at this
    exact this
  · intro h
    apply Nat.eq_of_testBit_eq
    intro j
    rw [Nat.testBit_and]
    cases hj : f.testBit j
    · rfl
    · rw [h j hj]; rfl
def a_re (can : Nat → Int32) (f T : Nat) : Prop := ∀ P : Nat → Prop, P f → (∀ S i, P S → bt (can S) i = true → P (S + 2 ^ i)) → P T
theorem a_re.rf {can : Nat → Int32} {f : Nat} : a_re can f f := fun P h _ => h
theorem a_re.st {can : Nat → Int32} {f S i : Nat} (h : a_re can f S) (hi : bt (can S) i = true) : a_re can f (S + 2 ^ i) := fun P h0 h1 => h1 S i (h P h0 h1) hi
theorem a_re.inv {can : Nat → Int32} {f T : Nat} (h : a_re can f T) : T = f ∨ ∃ S i, a_re can f S ∧ bt (can S) i = true ∧ T = S + 2 ^ i :=
  (h (fun T => a_re can f T ∧ (T = f ∨ ∃ S i, a_re can f S ∧ bt (can S) i = true ∧ T = S + 2 ^ i)) ⟨a_re.rf, Or.inl rfl⟩ (fun S i hS hi => ⟨hS.1.st hi, Or.inr ⟨S, i, hS.1, hi, rfl⟩⟩)).2
def a_cn (can : Nat → Int32) (k : Nat) : Prop := ∀ S, S < 2 ^ k → ∀ i, bt (can S) i = true → i < k ∧ S.testBit i = false
theorem a_p8 {k : Nat} (hk : k ≤ 8) : 2 ^ k ≤ 256 := Nat.pow_le_pow_right (n := 2) (by decide) hk
theorem a_re.sup {can : Nat → Int32} {f T k : Nat} (hc : a_cn can k) (hk : k ≤ 8) (hf : f < 2 ^ k) (h : a_re can f T) : T < 2 ^ k ∧ f &&& T = f := by
  refine h (fun T => T < 2 ^ k ∧ f &&& T = f) ⟨hf, Nat.and_self f⟩ (fun S i hS hi => ?_)
  obtain ⟨h1, h2⟩ := hc S hS.1 i hi
  have p2 := a_p8 hk
  have g := a_t1 S (by omega) i (by omega) h2
  rw [← g.2.1]
  refine ⟨Nat.or_lt_two_pow hS.1 (Nat.pow_lt_pow_right (by decide) h1), a_tb.mpr fun j hj => ?_⟩
  rw [Nat.testBit_or, a_tb.mp hS.2 j hj, Bool.true_or]
theorem a_re.ge {can : Nat → Int32} {f T k : Nat} (hc : a_cn can k) (hk : k ≤ 8) (hf : f < 2 ^ k) (h : a_re can f T) : f ≤ T := by
  have g := (h.sup hc hk hf).2
  have : f &&& T ≤ T := Nat.and_le_right
  omega
/-- how a set is come to -/
def a_wk (can : Nat → Int32) (f T j : Nat) : Prop := T.testBit j = true ∧ f.testBit j = false ∧ a_re can f (T - 2 ^ j) ∧ bt (can (T - 2 ^ j)) j = true
theorem a_re.wk {can : Nat → Int32} {f T k : Nat} (hc : a_cn can k) (hk : k ≤ 8) (hf : f < 2 ^ k) (hT : T < 2 ^ k) : a_re can f T ↔ T = f ∨ ∃ j, j < k ∧ a_wk can f T j := by
  have p2 := a_p8 hk
  constructor
  · intro h
    rcases h.inv with e | ⟨S, i, h1, h2, rfl⟩
    · exact Or.inl e
    · obtain ⟨g1, g2⟩ := h1.sup hc hk hf
      obtain ⟨g3, g4⟩ := hc S g1 i h2
      have g := a_t1 S (by omega) i (by omega) g4
      refine Or.inr ⟨i, g3, g.2.2, ?_, ?_, ?_⟩
      · cases z : f.testBit i
        · rfl
        · rw [a_tb.mp g2 i z] at g4
          cases g4
      · rw [Nat.add_sub_cancel]; exact h1
      · rw [Nat.add_sub_cancel]; exact h2
  · rintro (rfl | ⟨j, hj, h1, h2, h3, h4⟩)
    · exact a_re.rf
    · have g := (a_t3 T (by omega) j (by omega) h1).1
      have := h3.st h4
      rwa [Nat.sub_add_cancel g] at this
theorem b_and1 {x : Int32} {i : Nat} (hi : i < 32) : x &&& ((1 : Int32) <<< (nI i &&& 31)) = 0 ↔ bt x i = false := by
  constructor
  · intro h
    have := congrArg (fun x => bt x i) h
    simp only [b_and, b_one i hi i hi, b_0, decide_true, Bool.and_true] at this
    exact this
  · intro h
    apply b_ext
    intro j hj
    rw [b_and, b_one i hi j hj, b_0]
    by_cases e : j = i
    · subst e
      rw [h]; rfl
    · simp [e]
theorem s_re122 {c : Nat → Nat} {M : q_MM} {T : Nat} (hT : T < 256) {k31 : Int32 → Int32 → Int32 → Int32 → q_MM → Option q_MM} {x1 x2 x3 x4 s0 : Int32} (hs : s0 = 0 ∨ s0 = 1) : b_X3_reachFrom_122 c k31 x1 x2 x3 x4 s0 (nI T) 45 M = k31 x1 x2 x3 (x4 + 1) (q_u2 M 45 T s0) := by
  unfold b_X3_reachFrom_122
  have e : vp_nar .boolean s0 = s0 := by rcases hs with rfl | rfl <;> rfl
  rw [w_ck (show qTX c 45 = 2 from rfl), show qLX c 45 = 256 from rfl, w_as hT (by decide), e]
theorem s_reX_in {c : Nat → Nat} {M0 : q_MM} {can : Nat → Int32} {k f T : Nat} {k7 : Int32 → Int32 → Int32 → q_MM → Option q_MM} (hk : k ≤ 8) (hc : a_cn can k) (hf : f < 2 ^ k) (hT : T < 2 ^ k) (hfT : f &&& T = f) (hM : M0 39 1 = nI k) (h42 : ∀ S, S < 2 ^ k → M0 42 S = can S) (x2 : Int32) : ∀ (d i nf : Nat) (M : q_MM), i + d = k → d < nf → (∀ o, o ≠ 45 → M o = M0 o) → (∀ S, S < T → f &&& S = f → M 45 S = a_if (a_re can f S) 1 0) → ((M 45 T = 0 ∧ T ≠ f ∧ ∀ j, j < i → ¬ a_wk can f T j) ∨ (M 45 T = 1 ∧ a_re can f T)) → ∃ M', b_X3_reachFrom_31 c k7 nf (nI f) x2 (nI T) (nI i) M = k7 (nI f) x2 (nI ((T + 1) ||| f)) M' ∧ (∀ o, o ≠ 45 → M' o = M0 o) ∧ (∀ S, S ≠ T → M' 45 S = M 45 S) ∧ M' 45 T = a_if (a_re can f T) 1 0
  | d, i, 0, _, _, h, _, _, _ => absurd h (Nat.not_lt_zero _)
  | 0, i, nf + 1, M, hi, _, hfr, hlow, hcur => by
    have : i = k := by omega
    subst this
    refine ⟨M, ?_, hfr, fun _ _ => rfl, ?_⟩
    · rw [b_X3_reachFrom_31, hfr 39 (by decide), hM, if_pos (nI_le (by omega) (by omega))]
      unfold b_X3_reachFrom_129
      rw [w_let, nI_1, nI_or]
    · rcases hcur with ⟨h1, h2, h3⟩ | ⟨h1, h2⟩
      · rw [h1, a_ifn]
        intro z
        rcases (a_re.wk hc hk hf hT).mp z with e | ⟨j, hj, e⟩
        · exact h2 e
        · exact h3 j hj e
      · rw [h1, a_ifp h2]
  | d + 1, i, nf + 1, M, hi, hf', hfr, hlow, hcur => by
    have p2 := a_p8 hk
    rw [b_X3_reachFrom_31, hfr 39 (by decide), hM, if_neg (nI_ge (by omega) (by omega)), w_ld (by omega) (by decide)]
    rcases hcur with ⟨h1, h2, h3⟩ | ⟨h1, h2⟩
    · rw [if_pos h1, w_let]
      have no : ∀ z : ¬ a_wk can f T i, ∃ M', b_X3_reachFrom_31 c k7 nf (nI f) x2 (nI T) (nI i + 1) (q_u2 M 45 T 0) = k7 (nI f) x2 (nI ((T + 1) ||| f)) M' ∧ (∀ o, o ≠ 45 → M' o = M0 o) ∧ (∀ S, S ≠ T → M' 45 S = M 45 S) ∧ M' 45 T = a_if (a_re can f T) 1 0 := by
        intro z
        rw [nI_1]
        obtain ⟨M', g1, g2, g3, g4⟩ := s_reX_in (k7 := k7) hk hc hf hT hfT hM h42 x2 d (i + 1) nf (q_u2 M 45 T 0) (by omega) (by omega) (fun o ho => by
          funext j
          rw [q_u2_ne (fun q => ho q.1), hfr o ho]) (fun S hS hfS => by
          rw [q_u2_ne (by omega)]
          exact hlow S hS hfS) (Or.inl ⟨q_u2_eq, h2, fun j hj => by
            by_cases e : j = i
            · exact e ▸ z
            · exact h3 j (by omega)⟩)
        exact ⟨M', g1, g2, fun S hS => (g3 S hS).trans (q_u2_ne (by omega)), g4⟩
      have hb : bt ((nI T &&& (nI f ^^^ (-1)))) i = (T.testBit i && !f.testBit i) := by
        rw [b_and, b_xor, b_nI (by omega), b_nI (by omega), b_m1 i (by omega), Bool.xor_true]
      by_cases z : T.testBit i = true ∧ f.testBit i = false
      · have g := a_t3 T (by omega) i (by omega) z.1
        have ebef : nI T &&& (((1 : Int32) <<< (nI i &&& 31)) ^^^ (-1)) = nI (T - 2 ^ i) := b_ext fun j hj => by
          rw [b_and, b_xor, b_one i (by omega) j hj, b_m1 j hj, b_nI hj, b_nI hj, g.2 j hj, Bool.xor_true]
        have hp : 0 < 2 ^ i := Nat.two_pow_pos i
        have hsub : f &&& (T - 2 ^ i) = f := a_tb.mpr fun j hj => by
          by_cases e32 : j < 32
          · rw [g.2 j e32, a_tb.mp hfT j hj]
            have : j ≠ i := by
              rintro rfl
              rw [z.2] at hj
              cases hj
            simp [this]
          · have := Nat.ge_two_pow_of_testBit hj
            have : 2 ^ 32 ≤ 2 ^ j := Nat.pow_le_pow_right (by decide) (by omega)
            omega
        rw [if_neg (fun q => by
          rw [(b_and1 (by omega)).mp q, z.1, z.2] at hb
          cases hb), ebef]
        unfold b_X3_reachFrom_80 b_X3_reachFrom_121
        rw [if_neg (show ¬ (1 : Int32) = 0 by decide), w_ld (by omega) (by decide), hlow (T - 2 ^ i) (by omega) hsub]
        by_cases z2 : a_re can f (T - 2 ^ i)
        · rw [a_ifp z2, if_neg (show ¬ (1 : Int32) = 0 by decide), w_ld (by omega) (by decide), hfr 42 (by decide), h42 _ (by omega)]
          by_cases z3 : bt (can (T - 2 ^ i)) i = true
          · have hw : a_re can f T := (a_re.wk hc hk hf hT).mpr (Or.inr ⟨i, by omega, z.1, z.2, z2, z3⟩)
            rw [if_neg (fun q => by
              rw [(b_sh1 _ (by omega)).mp q] at z3
              cases z3), s_re122 (by omega) (Or.inr rfl), nI_1]
            obtain ⟨M', g1, g2, g3, g4⟩ := s_reX_in (k7 := k7) hk hc hf hT hfT hM h42 x2 d (i + 1) nf (q_u2 M 45 T 1) (by omega) (by omega) (fun o ho => by
              funext j
              rw [q_u2_ne (fun q => ho q.1), hfr o ho]) (fun S hS hfS => by
              rw [q_u2_ne (by omega)]
              exact hlow S hS hfS) (Or.inr ⟨q_u2_eq, hw⟩)
            exact ⟨M', g1, g2, fun S hS => (g3 S hS).trans (q_u2_ne (by omega)), g4⟩
          · rw [if_pos ((b_sh1 _ (by omega)).mpr (by simpa using z3)), s_re122 (by omega) (Or.inl rfl)]
            exact no (fun q => z3 q.2.2.2)
        · rw [a_ifn z2, if_pos rfl, s_re122 (by omega) (Or.inl rfl)]
          exact no (fun q => z2 q.2.2.1)
      · rw [if_pos ((b_and1 (by omega)).mpr (by
          rw [hb]
          cases z1 : T.testBit i
          · rfl
          · cases z2 : f.testBit i
            · exact absurd ⟨z1, z2⟩ z
            · rfl))]
        unfold b_X3_reachFrom_80 b_X3_reachFrom_121
        rw [if_pos rfl, s_re122 (by omega) (Or.inl rfl)]
        exact no (fun q => z ⟨q.1, q.2.1⟩)
    · rw [if_neg (by rw [h1]; decide)]
      unfold b_X3_reachFrom_129
      rw [w_let, nI_1, nI_or]
      exact ⟨M, rfl, hfr, fun _ _ => rfl, by rw [h1, a_ifp h2]⟩
theorem s_reX_out {c : Nat → Nat} {M0 : q_MM} {can : Nat → Int32} {k f : Nat} (hk : k ≤ 8) (hc : a_cn can k) (hf : f < 2 ^ k) (hM : M0 39 1 = nI k) (h42 : ∀ S, S < 2 ^ k → M0 42 S = can S) : ∀ (d T nf : Nat) (M : q_MM), 2 ^ k ≤ T + d → T < 512 → d < nf → f &&& T = f → (∀ o, o ≠ 45 → M o = M0 o) → (∀ S, S < T → S < 2 ^ k → f &&& S = f → M 45 S = a_if (a_re can f S) 1 0) → ∃ M', b_X3_reachFrom_7 c nf (nI f) (nI (2 ^ k - 1)) (nI T) M = some M' ∧ (∀ o, o ≠ 45 → M' o = M0 o) ∧ ∀ S, S < 2 ^ k → f &&& S = f → M' 45 S = a_if (a_re can f S) 1 0
  | d, T, 0, _, _, _, h, _, _, _ => absurd h (Nat.not_lt_zero _)
  | d, T, nf + 1, M, hd, hT5, hnf, hfT, hfr, hlow => by
    have hfu := q_fu_le
    have p2 := a_p8 hk
    have hp : 0 < 2 ^ k := Nat.two_pow_pos k
    by_cases z : 2 ^ k ≤ T
    · refine ⟨M, ?_, hfr, fun S hS hfS => hlow S (by omega) hS hfS⟩
      rw [b_X3_reachFrom_7, if_pos (nI_lt (by omega) (by omega))]
    · obtain ⟨d, rfl⟩ : ∃ e, d = e + 1 := ⟨d - 1, by omega⟩
      have t2 := a_t2 f (by omega) T (by omega) hfT
      rw [b_X3_reachFrom_7, if_neg (nI_nlt (by omega) (by omega))]
      unfold b_X3_reachFrom_27
      simp only [w_ck (show qTX c 45 = 2 from rfl), show qLX c 45 = 256 from rfl, w_as (show T < 256 by omega) (show 256 ≤ 100000 by decide), show vp_nar .boolean 1 = 1 from rfl, show vp_nar .boolean 0 = 0 from rfl]
      have go : ∀ v : Int32, ((v = 0 ∧ T ≠ f) ∨ (v = 1 ∧ T = f)) → ∃ M', b_X3_reachFrom_31 c (b_X3_reachFrom_7 c nf) q_fu (nI f) (nI (2 ^ k - 1)) (nI T) 0 (q_u2 M 45 T v) = some M' ∧ (∀ o, o ≠ 45 → M' o = M0 o) ∧ ∀ S, S < 2 ^ k → f &&& S = f → M' 45 S = a_if (a_re can f S) 1 0 := by
        intro v hv
        obtain ⟨M1, g1, g2, g3, g4⟩ := s_reX_in (c := c) (k7 := b_X3_reachFrom_7 c nf) hk hc hf (by omega) hfT hM h42 (nI (2 ^ k - 1)) k 0 q_fu (q_u2 M 45 T v) (by omega) (by omega) (fun o ho => by
          funext j
          rw [q_u2_ne (fun q => ho q.1), hfr o ho]) (fun S hS hfS => by
          rw [q_u2_ne (by omega)]
          exact hlow S hS (by omega) hfS) (by
          rcases hv with ⟨rfl, h⟩ | ⟨rfl, h⟩
          · exact Or.inl ⟨q_u2_eq, h, fun j hj => absurd hj (Nat.not_lt_zero _)⟩
          · exact Or.inr ⟨q_u2_eq, h ▸ a_re.rf⟩)
        rw [show (0 : Int32) = nI 0 from rfl, g1]
        refine s_reX_out hk hc hf hM h42 d ((T + 1) ||| f) nf M1 (by omega) t2.2.1 (by omega) t2.2.2.1 g2 (fun S hS hSk hfS => ?_)
        by_cases e : S = T
        · subst e
          exact g4
        · by_cases l : S < T
          · rw [g3 S e, q_u2_ne (by omega)]
            exact hlow S l hSk hfS
          · exact absurd (by rw [show T + 1 + (S - (T + 1)) = S by omega]; exact hfS) (t2.2.2.2 (S - (T + 1)) (by omega))
      by_cases e : T = f
      · rw [if_pos (by rw [e])]
        exact go 1 (Or.inr ⟨rfl, e⟩)
      · rw [if_neg (fun q => e (nI_inj (by omega) (by omega) q))]
        exact go 0 (Or.inl ⟨rfl, e⟩)
theorem s_all {c : Nat → Nat} {M : q_MM} {k : Nat} (hk : k ≤ 8) (hM : M 39 1 = nI k) : f_X3_allMoves c M = some (nI (2 ^ k - 1)) := by
  unfold f_X3_allMoves
  rw [hM, a_pow _ (by omega), show (1 : Int32) = nI 1 from rfl, pk_sub (Nat.two_pow_pos k)]
theorem s_reX {c : Nat → Nat} {M0 : q_MM} {can : Nat → Int32} {k f : Nat} (hk : k ≤ 8) (hc : a_cn can k) (hf : f < 2 ^ k) (hM : M0 39 1 = nI k) (h42 : ∀ S, S < 2 ^ k → M0 42 S = can S) : ∃ M', f_X3_reachFrom c M0 (nI f) = some M' ∧ (∀ o, o ≠ 45 → M' o = M0 o) ∧ ∀ S, S < 2 ^ k → f &&& S = f → M' 45 S = a_if (a_re can f S) 1 0 := by
  have hfu := q_fu_le
  have p2 := a_p8 hk
  unfold f_X3_reachFrom
  rw [s_all hk hM, Option.bind_some]
  refine s_reX_out hk hc hf hM h42 (2 ^ k) f q_fu M0 (by omega) (by omega) (by omega) (Nat.and_self f) (fun _ _ => rfl) (fun S hS _ hfS => ?_)
  have : f &&& S ≤ S := Nat.and_le_right
  omega
/-- the model's way: forward -/
def a_rf (can : Nat → Int32) (f b T : Nat) : Prop := T = f ∨ ∃ S i, S < b ∧ a_re can f S ∧ bt (can S) i = true ∧ T = S + 2 ^ i
theorem a_rf.all {can : Nat → Int32} {f k T : Nat} (hc : a_cn can k) (hk : k ≤ 8) (hf : f < 2 ^ k) : a_rf can f (2 ^ k) T ↔ a_re can f T := by
  constructor
  · rintro (rfl | ⟨S, i, -, h1, h2, rfl⟩)
    · exact a_re.rf
    · exact h1.st h2
  · intro h
    rcases h.inv with e | ⟨S, i, h1, h2, e⟩
    · exact Or.inl e
    · exact Or.inr ⟨S, i, (h1.sup hc hk hf).1, h1, h2, e⟩
theorem a_rf.self {can : Nat → Int32} {f b : Nat} : a_rf can f b b ↔ a_re can f b := by
  constructor
  · rintro (rfl | ⟨S, i, -, h1, h2, e⟩)
    · exact a_re.rf
    · rw [e]; exact h1.st h2
  · intro h
    rcases h.inv with e | ⟨S, i, h1, h2, e⟩
    · exact Or.inl e
    · have := Nat.two_pow_pos i
      exact Or.inr ⟨S, i, by omega, h1, h2, e⟩
theorem a_rf.succ {can : Nat → Int32} {f b T : Nat} : a_rf can f (b + 1) T ↔ a_rf can f b T ∨ ∃ i, a_re can f b ∧ bt (can b) i = true ∧ T = b + 2 ^ i := by
  constructor
  · rintro (e | ⟨S, i, h0, h1, h2, e⟩)
    · exact Or.inl (Or.inl e)
    · by_cases z : S = b
      · subst z
        exact Or.inr ⟨i, h1, h2, e⟩
      · exact Or.inl (Or.inr ⟨S, i, by omega, h1, h2, e⟩)
  · rintro ((e | ⟨S, i, h0, h1, h2, e⟩) | ⟨i, h1, h2, e⟩)
    · exact Or.inl e
    · exact Or.inr ⟨S, i, by omega, h1, h2, e⟩
    · exact Or.inr ⟨b, i, by omega, h1, h2, e⟩
theorem s_reM_in {m0 : q_MM} {can : Nat → Int32} {k f b : Nat} {k38 : Int32 → Int32 → q_MM → Option q_MM} (hk : k ≤ 8) (hc : a_cn can k) (hb : b < 2 ^ k) (hM : m0 5001 66 = nI k) (h83 : ∀ S, S < 2 ^ k → m0 5083 S = can S) (x2 : Int32) : ∀ (d i nf : Nat) (m : q_MM), i + d = k → d < nf → (∀ o, o ≠ 5085 → m o = m0 o) → (∀ T, T < 2 ^ k → m 5085 T = a_if (a_rf can f b T ∨ ∃ j, j < i ∧ a_re can f b ∧ bt (can b) j = true ∧ T = b + 2 ^ j) 1 0) → ∃ m', b_X12_reaches_46 k38 nf x2 (nI b) (nI i) m = k38 x2 (nI (b + 1)) m' ∧ (∀ o, o ≠ 5085 → m' o = m0 o) ∧ ∀ T, T < 2 ^ k → m' 5085 T = a_if (a_rf can f (b + 1) T) 1 0
  | d, i, 0, _, _, h, _, _ => absurd h (Nat.not_lt_zero _)
  | 0, i, nf + 1, m, hi, _, hfr, hcur => by
    have : i = k := by omega
    subst this
    refine ⟨m, ?_, hfr, fun T hT => ?_⟩
    · rw [b_X12_reaches_46, hfr 5001 (by decide), hM, if_pos (nI_le (by omega) (by omega))]
      unfold b_X12_reaches_106
      rw [nI_1]
    · rw [hcur T hT]
      apply a_if_iff
      rw [a_rf.succ]
      constructor
      · rintro (e | ⟨j, hj, e⟩)
        · exact Or.inl e
        · exact Or.inr ⟨j, e⟩
      · rintro (e | ⟨j, e1, e2, e3⟩)
        · exact Or.inl e
        · exact Or.inr ⟨j, (hc b hb j e2).1, e1, e2, e3⟩
  | d + 1, i, nf + 1, m, hi, hf', hfr, hcur => by
    have p2 := a_p8 hk
    rw [b_X12_reaches_46, hfr 5001 (by decide), hM, if_neg (nI_ge (by omega) (by omega)), w_ld (by omega) (by decide), hcur b hb]
    have hself : (a_rf can f b b ∨ ∃ j, j < i ∧ a_re can f b ∧ bt (can b) j = true ∧ b = b + 2 ^ j) ↔ a_re can f b := by
      rw [a_rf.self]
      constructor
      · rintro (e | ⟨j, -, e, -⟩) <;> exact e
      · exact Or.inl
    rw [a_if_iff hself]
    by_cases z : a_re can f b
    · have next : ∀ m1 : q_MM, (∀ o, o ≠ 5085 → m1 o = m0 o) → (∀ T, T < 2 ^ k → m1 5085 T = a_if (a_rf can f b T ∨ ∃ j, j < i + 1 ∧ a_re can f b ∧ bt (can b) j = true ∧ T = b + 2 ^ j) 1 0) → ∃ m', b_X12_reaches_46 k38 nf x2 (nI b) (nI i + 1) m1 = k38 x2 (nI (b + 1)) m' ∧ (∀ o, o ≠ 5085 → m' o = m0 o) ∧ ∀ T, T < 2 ^ k → m' 5085 T = a_if (a_rf can f (b + 1) T) 1 0 := by
        intro m1 g1 g2
        rw [nI_1]
        exact s_reM_in hk hc hb hM h83 x2 d (i + 1) nf m1 (by omega) (by omega) g1 g2
      have same : ∀ z2 : ¬ bt (can b) i = true, ∀ T, T < 2 ^ k → m 5085 T = a_if (a_rf can f b T ∨ ∃ j, j < i + 1 ∧ a_re can f b ∧ bt (can b) j = true ∧ T = b + 2 ^ j) 1 0 := by
        intro z2 T hT
        rw [hcur T hT]
        apply a_if_iff
        constructor
        · rintro (e | ⟨j, hj, e⟩)
          · exact Or.inl e
          · exact Or.inr ⟨j, by omega, e⟩
        · rintro (e | ⟨j, hj, e1, e2, e3⟩)
          · exact Or.inl e
          · by_cases q : j = i
            · exact absurd (q ▸ e2) z2
            · exact Or.inr ⟨j, by omega, e1, e2, e3⟩
      rw [a_ifp z, if_neg (show ¬ (1 : Int32) = 0 by decide)]
      unfold b_X12_reaches_100
      have nb : bt (nI b) i = b.testBit i := b_nI (by omega)
      by_cases z1 : bt (nI b) i = true
      · rw [if_neg (fun q => by
          rw [(b_sh1 _ (by omega)).mp q] at z1
          cases z1)]
        refine next m hfr (same fun q => ?_)
        have := (hc b hb i q).2
        rw [← nb, z1] at this
        cases this
      · have z1' : b.testBit i = false := by rw [← nb]; simpa using z1
        have g := a_t1 b (by omega) i (by omega) z1'
        rw [if_pos ((b_sh1 _ (by omega)).mpr (by simpa using z1)), w_ld (by omega) (by decide), hfr 5083 (by decide), h83 b hb]
        by_cases z2 : bt (can b) i = true
        · rw [if_pos ((b_sh1' _ (by omega)).mpr z2), a_pow i (by omega), nI_or, g.2.1, w_as (by omega) (by decide), show vp_nar .boolean 1 = 1 from rfl]
          refine next _ (fun o ho => ?_) (fun T hT => ?_)
          · funext j
            rw [q_u2_ne (fun q => ho q.1), hfr o ho]
          · by_cases e : T = b + 2 ^ i
            · subst e
              rw [q_u2_eq, a_ifp (Or.inr ⟨i, by omega, z, z2, rfl⟩)]
            · rw [q_u2_ne (fun q => e q.2), hcur T hT]
              apply a_if_iff
              constructor
              · rintro (e | ⟨j, hj, e⟩)
                · exact Or.inl e
                · exact Or.inr ⟨j, by omega, e⟩
              · rintro (e | ⟨j, hj, e1, e2, e3⟩)
                · exact Or.inl e
                · by_cases q : j = i
                  · subst q
                    exact absurd e3 e
                  · exact Or.inr ⟨j, by omega, e1, e2, e3⟩
        · rw [if_neg (fun q => z2 ((b_sh1' _ (by omega)).mp q))]
          exact next m hfr (same z2)
    · rw [a_ifn z, if_pos rfl]
      unfold b_X12_reaches_106
      rw [nI_1]
      refine ⟨m, rfl, hfr, fun T hT => ?_⟩
      rw [hcur T hT]
      apply a_if_iff
      rw [a_rf.succ]
      constructor
      · rintro (e | ⟨j, hj, e, -⟩)
        · exact Or.inl e
        · exact absurd e z
      · rintro (e | ⟨j, e, -⟩)
        · exact Or.inl e
        · exact absurd e z
theorem s_reM_out {m0 : q_MM} {can : Nat → Int32} {k f : Nat} (hk : k ≤ 8) (hc : a_cn can k) (hf : f < 2 ^ k) (hM : m0 5001 66 = nI k) (h83 : ∀ S, S < 2 ^ k → m0 5083 S = can S) : ∀ (d b nf : Nat) (m : q_MM), b + d = 2 ^ k → d < nf → (∀ o, o ≠ 5085 → m o = m0 o) → (∀ T, T < 2 ^ k → m 5085 T = a_if (a_rf can f b T) 1 0) → ∃ m', b_X12_reaches_38 nf (nI (2 ^ k)) (nI b) m = some m' ∧ (∀ o, o ≠ 5085 → m' o = m0 o) ∧ ∀ T, T < 2 ^ k → m' 5085 T = a_if (a_re can f T) 1 0
  | d, b, 0, _, _, h, _, _ => absurd h (Nat.not_lt_zero _)
  | 0, b, nf + 1, m, hi, _, hfr, hcur => by
    have p2 := a_p8 hk
    have : b = 2 ^ k := by omega
    subst this
    refine ⟨m, ?_, hfr, fun T hT => ?_⟩
    · rw [b_X12_reaches_38, if_pos (nI_le (by omega) (by omega))]
    · rw [hcur T hT, a_if_iff (a_rf.all hc hk hf)]
  | d + 1, b, nf + 1, m, hi, hf', hfr, hcur => by
    have hfu := q_fu_le
    have p2 := a_p8 hk
    rw [b_X12_reaches_38, if_neg (nI_ge (by omega) (by omega)), show (0 : Int32) = nI 0 from rfl]
    obtain ⟨m1, g1, g2, g3⟩ := s_reM_in (f := f) (k38 := b_X12_reaches_38 nf) hk hc (show b < 2 ^ k by omega) hM h83 (nI (2 ^ k)) k 0 q_fu m (by omega) (by omega) hfr (fun T hT => by
      rw [hcur T hT]
      apply a_if_iff
      constructor
      · exact Or.inl
      · rintro (e | ⟨j, hj, -⟩)
        · exact e
        · omega)
    rw [g1]
    exact s_reM_out hk hc hf hM h83 d (b + 1) nf m1 (by omega) (by omega) g2 g3
theorem s_reM_first {m0 : q_MM} {k f : Nat} (hk : k ≤ 8) (hf : f < 2 ^ k) : ∀ (d b nf : Nat) (m : q_MM), b + d = 2 ^ k → d < nf → (∀ o, o ≠ 5085 → m o = m0 o) → (∀ T, T < b → m 5085 T = a_if (T = f) 1 0) → ∃ m', b_X12_reaches_9 nf (nI f) (nI (2 ^ k)) (nI b) m = b_X12_reaches_38 q_fu (nI (2 ^ k)) (nI f) m' ∧ (∀ o, o ≠ 5085 → m' o = m0 o) ∧ ∀ T, T < 2 ^ k → m' 5085 T = a_if (T = f) 1 0
  | d, b, 0, _, _, h, _, _ => absurd h (Nat.not_lt_zero _)
  | 0, b, nf + 1, m, hi, _, hfr, hcur => by
    have p2 := a_p8 hk
    have : b = 2 ^ k := by omega
    subst this
    exact ⟨m, by rw [b_X12_reaches_9, if_pos (nI_le (by omega) (by omega))], hfr, hcur⟩
  | d + 1, b, nf + 1, m, hi, hf', hfr, hcur => by
    have p2 := a_p8 hk
    rw [b_X12_reaches_9, if_neg (nI_ge (by omega) (by omega))]
    unfold b_X12_reaches_29
    simp only [w_ck (show qTM 5085 = 2 from rfl), show qLM 5085 = 256 from rfl, w_as (show b < 256 by omega) (show 256 ≤ 100000 by decide), show vp_nar .boolean 1 = 1 from rfl, show vp_nar .boolean 0 = 0 from rfl, nI_1]
    have go : ∀ v : Int32, v = a_if (b = f) 1 0 → ∃ m', b_X12_reaches_9 nf (nI f) (nI (2 ^ k)) (nI (b + 1)) (q_u2 m 5085 b v) = b_X12_reaches_38 q_fu (nI (2 ^ k)) (nI f) m' ∧ (∀ o, o ≠ 5085 → m' o = m0 o) ∧ ∀ T, T < 2 ^ k → m' 5085 T = a_if (T = f) 1 0 := by
      intro v hv
      refine s_reM_first hk hf d (b + 1) nf _ (by omega) (by omega) (fun o ho => ?_) (fun T hT => ?_)
      · funext j
        rw [q_u2_ne (fun q => ho q.1), hfr o ho]
      · by_cases e : T = b
        · subst e
          rw [q_u2_eq, hv]
        · rw [q_u2_ne (fun q => e q.2)]
          exact hcur T (by omega)
    by_cases e : b = f
    · rw [if_pos (by rw [e])]
      exact go 1 (a_ifp e).symm
    · rw [if_neg (fun q => e (nI_inj (by omega) (by omega) q))]
      exact go 0 (a_ifn e).symm
theorem s_reM {m0 : q_MM} {can : Nat → Int32} {k f : Nat} (hk : k ≤ 8) (hc : a_cn can k) (hf : f < 2 ^ k) (hM : m0 5001 66 = nI k) (h83 : ∀ S, S < 2 ^ k → m0 5083 S = can S) : ∃ m', f_X12_reaches m0 (nI f) = some m' ∧ (∀ o, o ≠ 5085 → m' o = m0 o) ∧ ∀ T, T < 2 ^ k → m' 5085 T = a_if (a_re can f T) 1 0 := by
  have hfu := q_fu_le
  have p2 := a_p8 hk
  unfold f_X12_reaches
  rw [w_let, hM, a_pow k (by omega)]
  obtain ⟨m1, g1, g2, g3⟩ := s_reM_first hk hf (2 ^ k) 0 q_fu m0 (by omega) (by omega) (fun _ _ => rfl) (fun T hT => absurd hT (Nat.not_lt_zero _))
  rw [show nI 0 = 0 from rfl] at g1
  rw [g1]
  refine s_reM_out hk hc hf hM h83 (2 ^ k - f) f q_fu m1 (by omega) (by omega) g2 (fun T hT => ?_)
  rw [g3 T hT]
  apply a_if_iff
  constructor
  · exact Or.inl
  · rintro (e | ⟨S, i, h0, h1, -, -⟩)
    · exact e
    · have := h1.ge hc hk hf
      omega
