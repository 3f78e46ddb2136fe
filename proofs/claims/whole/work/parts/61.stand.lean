/-! stand: a number put in its place, on both sides at once -/
theorem s_ins2 {c : Nat → Nat} {m0 M0 : q_MM} {v e : Nat} {S L R x1 x2 x3 : Int32} {A : Nat → Int32} {s : Nat → Nat} {k73 : Int32 → Int32 → Int32 → Int32 → Int32 → Int32 → q_MM → Option (Int32 × q_MM)} (he : e < 24) (hv : v < c 2) (hc : c 2 ≤ 24) (hs : ∀ j, j < e → s j < c 2) (hS : S = A v) (hsum : ∀ m, (∀ o, o ≠ 5012 → m o = m0 o) → ∀ q, q < c 2 → f_X12_sumOf m (nI q) L R = some (A q)) (hcnt : m0 5001 1 = nI e) : ∀ (pos nf nf' : Nat) (m M : q_MM), pos ≤ e → pos < nf → pos < nf' → (∀ o, o ≠ 5012 → m o = m0 o) → (∀ o, o ≠ 56 → o ≠ 12 → M o = M0 o) → (∀ j, j < pos → m 5012 j = nI (s j) ∧ M 56 j = nI (s j) ∧ M 12 j = A (s j)) → (∀ j, pos ≤ j → j < e → m 5012 (j + 1) = nI (s j) ∧ M 56 (j + 1) = nI (s j) ∧ M 12 (j + 1) = A (s j)) → ∃ (m' M' : q_MM) (s' : Nat → Nat), b_X11_insert_27 c nf (nI v) S (nI pos) (nI pos) M = some M' ∧ b_X12_stand_132 k73 nf' x1 x2 x3 L R (nI v) S (nI pos) m = k73 x1 x2 x3 L R (nI (v + 1)) m' ∧ (∀ o k, o ≠ 5012 → ¬ (o = 5001 ∧ k = 1) → m' o k = m0 o k) ∧ (∀ o, o ≠ 56 → o ≠ 12 → M' o = M0 o) ∧ m' 5001 1 = nI (e + 1) ∧ ∀ j, j < e + 1 → s' j < c 2 ∧ m' 5012 j = nI (s' j) ∧ M' 56 j = nI (s' j) ∧ M' 12 j = A (s' j)
  | pos, 0, _, _, _, _, h, _, _, _, _, _ => absurd h (Nat.not_lt_zero _)
  | pos, _ + 1, 0, _, _, _, _, h, _, _, _, _ => absurd h (Nat.not_lt_zero _)
  | pos, nf + 1, nf' + 1, m, M, hp, hf, hf', hm, hM, hlo, hhi => by
    have stop : ∃ (m' M' : q_MM) (s' : Nat → Nat), b_X11_insert_94 c (nI v) S (nI pos) M = some M' ∧ b_X12_stand_181 k73 x1 x2 x3 L R (nI v) (nI pos) m = k73 x1 x2 x3 L R (nI (v + 1)) m' ∧ (∀ o k, o ≠ 5012 → ¬ (o = 5001 ∧ k = 1) → m' o k = m0 o k) ∧ (∀ o, o ≠ 56 → o ≠ 12 → M' o = M0 o) ∧ m' 5001 1 = nI (e + 1) ∧ ∀ j, j < e + 1 → s' j < c 2 ∧ m' 5012 j = nI (s' j) ∧ M' 56 j = nI (s' j) ∧ M' 12 j = A (s' j) := by
      refine ⟨q_u2 (q_u2 m 5012 pos (nI v)) 5001 1 (nI (e + 1)), q_u2 (q_u2 M 56 pos (nI v)) 12 pos S, a_ins s pos v, ?_, ?_, fun o k h1 h2 => ?_, fun o h1 h2 => ?_, q_u2_eq, fun j hj => ?_⟩
      · unfold b_X11_insert_94
        rw [w_as (by omega) (by decide), w_as (by omega) (by decide)]
      · unfold b_X12_stand_181 b_X12_stand_200
        rw [w_as (by omega) (by decide), q_u2_ne (M := m) (by omega), hm 5001 (by decide), hcnt, w_let, nI_1, nI_1]
      · rw [q_u2_ne h2, q_u2_ne (fun z => h1 z.1), hm o h1]
      · funext k
        rw [q_u2_ne (fun z => h2 z.1), q_u2_ne (fun z => h1 z.1), hM o h1 h2]
      · unfold a_ins
        by_cases z1 : j < pos
        · rw [if_pos z1, q_u2_ne (by omega), q_u2_ne (by omega), q_u2_ne (by omega), q_u2_ne (by omega), q_u2_ne (by omega), q_u2_ne (by omega)]
          exact ⟨hs j (by omega), hlo j z1⟩
        · rw [if_neg z1]
          by_cases z2 : j = pos
          · subst z2
            rw [if_pos rfl, q_u2_ne (by omega), q_u2_eq, q_u2_ne (by omega), q_u2_eq, q_u2_eq, hS]
            exact ⟨hv, rfl, rfl, rfl⟩
          · have g := hhi (j - 1) (by omega) (by omega)
            rw [show j - 1 + 1 = j by omega] at g
            rw [if_neg z2, q_u2_ne (by omega), q_u2_ne (by omega), q_u2_ne (by omega), q_u2_ne (by omega), q_u2_ne (by omega), q_u2_ne (by omega)]
            exact ⟨hs (j - 1) (by omega), g⟩
    rw [b_X11_insert_27, b_X12_stand_132]
    by_cases z : pos = 0
    · subst z
      rw [if_pos (by decide), if_pos (by decide)]
      exact stop
    · have e1 : nI pos - 1 = nI (pos - 1) := by rw [show (1 : Int32) = nI 1 from rfl, pk_sub (by omega)]
      have g := hlo (pos - 1) (by omega)
      have n0 : ¬ nI pos ≤ 0 := nI_nl2 pos 0 (by omega) (by omega) (by omega)
      rw [if_neg n0, if_neg n0, e1, w_ld (by omega) (by decide), g.2.2, w_ld (by omega) (by decide), w_ld (by omega) (by decide), g.1, hsum m hm _ (hs (pos - 1) (by omega)), Option.bind_some]
      by_cases z2 : S ≤ A (s (pos - 1))
      · rw [if_pos z2, if_pos z2]
        exact stop
      · have e2 : nI pos + (-1) = nI (pos - 1) := by
          rw [show pos = pos - 1 + 1 by omega, pk_m1, Nat.add_sub_cancel]
        rw [if_neg z2, if_neg z2, g.2.1, w_as (by omega) (by decide), w_ld (by omega) (by decide), q_u2_ne (M := M) (by omega), g.2.2, w_as (by omega) (by decide), w_let, w_ld (by omega) (by decide), g.1, w_as (by omega) (by decide), e2]
        refine s_ins2 he hv hc hs hS hsum hcnt (pos - 1) nf nf' _ _ (by omega) (by omega) (by omega) (fun o h1 => ?_) (fun o h1 h2 => ?_) (fun j hj => ?_) (fun j h1 h2 => ?_)
        · funext k
          rw [q_u2_ne (fun z => h1 z.1), hm o h1]
        · funext k
          rw [q_u2_ne (fun z => h2 z.1), q_u2_ne (fun z => h1 z.1), hM o h1 h2]
        · rw [q_u2_ne (by omega), q_u2_ne (by omega), q_u2_ne (by omega), q_u2_ne (by omega), q_u2_ne (by omega)]
          exact hlo j (by omega)
        · by_cases e3 : j = pos - 1
          · subst e3
            rw [show pos - 1 + 1 = pos by omega, q_u2_eq, q_u2_ne (by omega), q_u2_eq, q_u2_eq]
            exact ⟨rfl, rfl, rfl⟩
          · rw [q_u2_ne (by omega), q_u2_ne (by omega), q_u2_ne (by omega), q_u2_ne (by omega), q_u2_ne (by omega)]
            exact hhi j (by omega) h2
