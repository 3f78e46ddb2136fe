/-! breaks: the model tries all sets -/
/-- the places of THE TALE in either way of counting agree in order -/
def a_io (N : Nat) (A : Nat → Int) (I : Nat → Int32) : Prop := (∀ t, t < N → -1 ≤ A t ∧ -1 ≤ (I t).toInt ∧ (A t = -1 ↔ (I t).toInt = -1)) ∧ ∀ t u, t < N → u < N → (A t < A u ↔ (I t).toInt < (I u).toInt)
def a_vi (A : Nat → Int) (S i : Nat) : Prop := ∀ t, t < i → S.testBit t = true → 0 ≤ A t ∧ ∀ u, u < t → S.testBit u = true → A u < A t
def a_ls (I : Nat → Int32) (S i : Nat) (x : Int32) : Prop := (x = -1 ∧ ∀ u, u < i → S.testBit u = false) ∨ ∃ g, g < i ∧ S.testBit g = true ∧ x = I g ∧ ∀ u, u < i → S.testBit u = true → (I u).toInt ≤ (I g).toInt
theorem a_vi.s {A : Nat → Int} {S i : Nat} (h : a_vi A S (i + 1)) : a_vi A S i := fun t ht hz => h t (by omega) hz
theorem s_set_loop {m : q_MM} {N S : Nat} {A : Nat → Int} {x1 x2 x3 : Int32} {k179 : Int32 → Int32 → Int32 → Int32 → q_MM → Option (Int32 × q_MM)} (hN : m 5001 60 = nI N) (hN2 : N ≤ 12) (hio : a_io N A (m 5074)) : ∀ (d i nf : Nat) (x5 x6 : Int32), i + d = N → d < nf → ((x6 = 1 ∧ a_vi A S i ∧ a_ls (m 5074) S i x5) ∨ (x6 = 0 ∧ ¬ a_vi A S N)) → b_X12_breaks_199 k179 nf x1 x2 x3 (nI S) x5 x6 (nI i) m = (f_J6_bitCount_0f7a4 qTM qLM qPM m (nI S)).bind fun r22 => q_let (nI S ^^^ x3) fun v23 => if v23 = 0 then b_X12_breaks_291 k179 x1 x2 x3 (nI S) (a_if (a_vi A S N) 1 0) r22 m else (f_J6_lowestOneBit_0f7a4 qTM qLM qPM m v23).bind fun r25 => if (nI S &&& r25) = 0 then b_X12_breaks_291 k179 x1 x2 x3 (nI S) (a_if (a_vi A S N) 1 0) r22 m else b_X12_breaks_292 k179 x1 x2 x3 (nI S) (a_if (a_vi A S N) 1 0) r22 1 m
  | d, i, 0, _, _, _, h, _ => absurd h (Nat.not_lt_zero _)
  | 0, i, nf + 1, x5, x6, hi, _, hx => by
    have : i = N := by omega
    subst this
    have e : x6 = a_if (a_vi A S i) 1 0 := by
      rcases hx with ⟨e, h, -⟩ | ⟨e, h⟩
      · rw [a_ifp h, e]
      · rw [a_ifn h, e]
    rw [b_X12_breaks_199, hN, if_pos (nI_le (by omega) (by omega)), e]
  | d + 1, i, nf + 1, x5, x6, hi, hf, hx => by
    have nb : bt (nI S) i = S.testBit i := b_nI (by omega)
    rw [b_X12_breaks_199, hN, if_neg (nI_ge (by omega) (by omega))]
    unfold b_X12_breaks_252 b_X12_breaks_240 b_X12_breaks_241 b_X12_breaks_252
    simp only [nI_1, w_ld (M := m) (o := 5074) (show i < 12 by omega) (show 12 ≤ 100000 by decide)]
    cases z : S.testBit i
    · rw [if_neg (fun q => by rw [(b_sh1' _ (by omega)).mp q] at nb; rw [z] at nb; cases nb)]
      refine s_set_loop hN hN2 hio d (i + 1) nf x5 x6 (by omega) (by omega) ?_
      rcases hx with ⟨e, h, hl⟩ | ⟨e, h⟩
      · refine Or.inl ⟨e, fun t ht hz => ?_, ?_⟩
        · by_cases q : t = i
          · subst q
            rw [z] at hz
            cases hz
          · exact h t (by omega) hz
        · rcases hl with ⟨l1, l2⟩ | ⟨g, g1, g2, g3, g4⟩
          · refine Or.inl ⟨l1, fun u hu => ?_⟩
            by_cases q : u = i
            · rw [q]; exact z
            · exact l2 u (by omega)
          · refine Or.inr ⟨g, by omega, g2, g3, fun u hu hz => ?_⟩
            by_cases q : u = i
            · rw [q, z] at hz
              cases hz
            · exact g4 u (by omega) hz
      · exact Or.inr ⟨e, h⟩
    · rw [if_pos ((b_sh1' _ (by omega)).mpr (nb.trans z))]
      rcases hx with ⟨e, h, hl⟩ | ⟨e, h⟩
      · rw [if_neg (by rw [e]; decide)]
        obtain ⟨o1, o2, o3⟩ := hio.1 i (by omega)
        by_cases z2 : m 5074 i ≤ x5
        · rw [if_pos z2]
          refine s_set_loop hN hN2 hio d (i + 1) nf _ 0 (by omega) (by omega) (Or.inr ⟨rfl, fun q => ?_⟩)
          obtain ⟨v1, v2⟩ := q i (by omega) z
          rw [i_le] at z2
          rcases hl with ⟨l1, l2⟩ | ⟨g, g1, g2, g3, g4⟩
          · rw [l1, show (-1 : Int32).toInt = -1 from rfl] at z2
            have := o3.mpr (by omega)
            omega
          · have := (hio.2 g i (by omega) (by omega)).mp (v2 g g1 g2)
            rw [g3] at z2
            omega
        · rw [if_neg z2]
          rw [i_le] at z2
          have lt : ∀ u, u < i → S.testBit u = true → (m 5074 u).toInt < (m 5074 i).toInt := fun u hu hz => by
            rcases hl with ⟨l1, l2⟩ | ⟨g, g1, g2, g3, g4⟩
            · rw [l2 u hu] at hz
              cases hz
            · have := g4 u hu hz
              rw [g3] at z2
              omega
          have gt : -1 < (m 5074 i).toInt := by
            rcases hl with ⟨l1, l2⟩ | ⟨g, g1, g2, g3, g4⟩
            · rw [l1, show (-1 : Int32).toInt = -1 from rfl] at z2
              omega
            · have := (hio.1 g (by omega)).2.1
              rw [g3] at z2
              omega
          refine s_set_loop hN hN2 hio d (i + 1) nf _ 1 (by omega) (by omega) (Or.inl ⟨rfl, fun t ht hz => ?_, Or.inr ⟨i, by omega, z, rfl, fun u hu hz => ?_⟩⟩)
          · by_cases q : t = i
            · subst q
              have : A t ≠ -1 := fun q => by have := o3.mp q; omega
              exact ⟨by omega, fun u hu hz2 => (hio.2 u t (by omega) (by omega)).mpr (lt u hu hz2)⟩
            · exact h t (by omega) hz
          · by_cases q : u = i
            · rw [q]; exact Int.le_refl _
            · have := lt u (by omega) hz
              omega
      · rw [if_pos e]
        exact s_set_loop hN hN2 hio d (i + 1) nf _ 0 (by omega) (by omega) (Or.inr ⟨rfl, h⟩)
theorem a_ct32 {S N : Nat} (hS : S < 2 ^ N) (hN : N ≤ 32) : fb_ct (bt (nI S)) 32 = fb_ct (fun j => S.testBit j) N := by
  have e1 : fb_ct (bt (nI S)) 32 = fb_ct (fun j => S.testBit j) 32 := fb_ct_cong (fun k hk => b_nI hk)
  rw [e1, show 32 = N + (32 - N) by omega, fb_ct_split]
  have : fb_ct (fun k => S.testBit (N + k)) (32 - N) = 0 := fb_ct_zero.mpr (fun k _ => by
    have p : 2 ^ N ≤ 2 ^ (N + k) := Nat.pow_le_pow_right (by decide) (by omega)
    exact Nat.testBit_lt_two_pow (show S < 2 ^ (N + k) by omega))
  omega
def a_nB (S N : Nat) : Nat := fb_ct (fun j => S.testBit j) N
def a_bB (A : Nat → Int) (N T B : Nat) : Prop := B < 2 ^ N ∧ a_vi A B N ∧ ∀ S, S < T → a_vi A S N → a_nB S N < a_nB B N ∨ (a_nB S N = a_nB B N ∧ (S = B ∨ a_fst B S))
theorem s_sets_loop {m : q_MM} {N : Nat} {A : Nat → Int} {x2 : Int32} (hN : m 5001 60 = nI N) (hN2 : N ≤ 12) (hio : a_io N A (m 5074)) : ∀ (d S nf B : Nat), S + d = 2 ^ N → d < nf → a_bB A N S B → ∃ B', a_bB A N (2 ^ N) B' ∧ b_X12_breaks_179 nf (nI (a_nB B N)) x2 (nI B) (nI S) m = b_X12_breaks_336 q_fu (nI (a_nB B' N)) x2 (nI B') 0 (q_u2 m 5001 1 0)
  | d, S, 0, _, _, h, _ => absurd h (Nat.not_lt_zero _)
  | 0, S, nf + 1, B, hi, _, hB => by
    have p : 2 ^ N ≤ 2 ^ 12 := Nat.pow_le_pow_right (by decide) hN2
    have : S = 2 ^ N := by omega
    subst this
    exact ⟨B, hB, by rw [b_X12_breaks_179, hN, a_pow' N hN2, if_pos (nI_le (by omega) (by omega)), w_let]⟩
  | d + 1, S, nf + 1, B, hi, hf, hB => by
    have hfu := q_fu_le
    have p : 2 ^ N ≤ 2 ^ 12 := Nat.pow_le_pow_right (by decide) hN2
    have hS : S < 2 ^ N := by omega
    obtain ⟨b1, b2, b3⟩ := id hB
    have x4096 : S ^^^ B < 2 ^ N := Nat.xor_lt_two_pow hS b1
    have cS : a_nB S N ≤ N := fb_ct_le _ N
    have cB : a_nB B N ≤ N := fb_ct_le _ N
    rw [b_X12_breaks_179, hN, a_pow' N hN2, if_neg (nI_ge (by omega) (by omega)), show (0 : Int32) = nI 0 from rfl, s_set_loop hN hN2 hio N 0 q_fu (-1) 1 (by omega) (by omega) (Or.inl ⟨rfl, fun t ht => absurd ht (Nat.not_lt_zero _), Or.inl ⟨rfl, fun u hu => absurd hu (Nat.not_lt_zero _)⟩⟩), s_bits, Option.bind_some, w_let, nI_xor, a_ct32 hS (by omega), show nI 0 = 0 from rfl]
    unfold b_X12_breaks_291 b_X12_breaks_292 b_X12_breaks_316 b_X12_breaks_322
    rw [nI_1]
    have keep : (a_vi A S N → a_nB S N < a_nB B N ∨ (a_nB S N = a_nB B N ∧ (S = B ∨ a_fst B S))) → a_bB A N (S + 1) B := fun q => ⟨b1, b2, fun S' hS' hv => by
      by_cases e : S' = S
      · subst e
        exact q hv
      · exact b3 S' (by omega) hv⟩
    have keepGo := fun q => s_sets_loop (x2 := x2) hN hN2 hio d (S + 1) nf B (by omega) (by omega) (keep q)
    have newGo : a_vi A S N → (a_nB B N < a_nB S N ∨ (a_nB S N = a_nB B N ∧ a_fst S B)) → ∃ B', a_bB A N (2 ^ N) B' ∧ b_X12_breaks_179 nf (nI (a_nB S N)) x2 (nI S) (nI (S + 1)) m = b_X12_breaks_336 q_fu (nI (a_nB B' N)) x2 (nI B') 0 (q_u2 m 5001 1 0) := fun hv hq => s_sets_loop hN hN2 hio d (S + 1) nf S (by omega) (by omega) ⟨hS, hv, fun S' hS' hv' => by
      by_cases e : S' = S
      · exact Or.inr ⟨by rw [e], Or.inl e⟩
      · have g := b3 S' (by omega) hv'
        rcases hq with q | ⟨q, qf⟩
        · exact Or.inl (by omega)
        · rcases g with g | ⟨g, g2⟩
          · exact Or.inl (by omega)
          · refine Or.inr ⟨by omega, Or.inr ?_⟩
            rcases g2 with e2 | e2
            · rw [e2]; exact qf
            · exact qf.trans e2⟩
    rw [show fb_ct (fun j => S.testBit j) N = a_nB S N from rfl]
    -- the choice, with the first flag
    have choice : ∀ (fl : Prop) (_ : fl ↔ a_fst S B) (X Y : Option (Int32 × q_MM)), (fl → X = b_X12_breaks_179 nf (nI (a_nB S N)) x2 (nI S) (nI (S + 1)) m) → (¬ fl → X = b_X12_breaks_179 nf (nI (a_nB B N)) x2 (nI B) (nI (S + 1)) m) → ∃ B', a_bB A N (2 ^ N) B' ∧ (if a_if (a_vi A S N) (1 : Int32) 0 = 0 then b_X12_breaks_179 nf (nI (a_nB B N)) x2 (nI B) (nI (S + 1)) m else if nI (a_nB B N) < nI (a_nB S N) then b_X12_breaks_179 nf (nI (a_nB S N)) x2 (nI S) (nI (S + 1)) m else if nI (a_nB S N) = nI (a_nB B N) then X else b_X12_breaks_179 nf (nI (a_nB B N)) x2 (nI B) (nI (S + 1)) m) = b_X12_breaks_336 q_fu (nI (a_nB B' N)) x2 (nI B') 0 (q_u2 m 5001 1 0) := by
      intro fl hfl X _ hX1 hX2
      by_cases hv : a_vi A S N
      · rw [a_ifp hv, if_neg (show ¬ (1 : Int32) = 0 by decide)]
        by_cases l : a_nB B N < a_nB S N
        · rw [if_pos (nI_lt l (by omega))]
          exact newGo hv (Or.inl l)
        · rw [if_neg (nI_nlt (by omega) (by omega))]
          by_cases e : a_nB S N = a_nB B N
          · rw [if_pos (by rw [e])]
            by_cases hq : fl
            · rw [hX1 hq]
              exact newGo hv (Or.inr ⟨e, hfl.mp hq⟩)
            · rw [hX2 hq]
              refine keepGo (fun _ => Or.inr ⟨e, ?_⟩)
              by_cases e2 : S = B
              · exact Or.inl e2
              · exact Or.inr ((a_fst.tot e2).resolve_left (fun q => hq (hfl.mpr q)))
          · rw [if_neg (fun q => e (nI_inj (by omega) (by omega) q))]
            exact keepGo (fun _ => Or.inl (by omega))
      · rw [a_ifn hv, if_pos rfl]
        exact keepGo (fun q => absurd q hv)
    by_cases z : S ^^^ B = 0
    · rw [if_pos (by rw [z]; rfl)]
      have e : S = B := a_x0.mp z
      refine choice False ⟨fun q => q.elim, fun q => ?_⟩ _ none (fun q => q.elim) (fun _ => by rw [if_pos rfl])
      rw [e] at q
      exact q.irr q
    · rw [if_neg (nI_ne0 (by omega) (by omega))]
      unfold f_J6_lowestOneBit_0f7a4
      rw [Option.bind_some]
      have fl := a_fst_low (x := S) (y := B) (by omega) z
      by_cases q : (nI S &&& (nI (S ^^^ B) &&& -(nI (S ^^^ B)))) = 0
      · rw [if_pos q]
        exact choice False ⟨fun q => q.elim, fun q2 => (fl.mpr q2) q⟩ _ none (fun q => q.elim) (fun _ => by rw [if_pos rfl])
      · rw [if_neg q]
        exact choice True ⟨fun _ => fl.mp q, fun _ => trivial⟩ _ none (fun _ => by rw [if_neg (show ¬ (1 : Int32) = 0 by decide)]) (fun q2 => absurd trivial q2)
