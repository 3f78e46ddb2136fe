/-! best: the row is found -/
theorem a_sq.stp {k n u i : Nat} {sq : Nat → Nat} (h : a_sq k n u sq) (hi : i < k) (hu : u.testBit i = false) (hs : sq n = i) : a_sq k (n + 1) (u ||| 2 ^ i) sq := by
  have e : a_xq n i sq = sq := funext fun j => by
    by_cases z : j = n
    · rw [z, a_xqn, hs]
    · rw [a_xqo z]
  have := h.step hi hu
  rwa [e] at this
theorem a_sq.left {k n u : Nat} {sq : Nat → Nat} (hs : a_sq k n u sq) (hn : n < k) : ∃ j, j < k ∧ u.testBit j = false := by
  apply Classical.byContradiction
  intro z
  have us : ∀ i, i < k → ∃ b, b < n ∧ sq b = i := fun i hi => (hs.2.2 i hi).mp (by
    cases e : u.testBit i
    · exact absurd ⟨i, hi, e⟩ z
    · rfl)
  have hex : ∀ i, ∃ b, i < k → b < n ∧ sq b = i := fun i => by
    by_cases hi : i < k
    · obtain ⟨b, b1⟩ := us i hi
      exact ⟨b, fun _ => b1⟩
    · exact ⟨0, fun q => absurd q hi⟩
  have spec := fun i => Classical.choose_spec (hex i)
  have := a_pig n k (fun i => Classical.choose (hex i)) (fun i hi => (spec i hi).1) (fun i j hi hj e => by
    rw [← (spec i hi).2, ← (spec j hj).2]
    exact congrArg sq e)
  omega
/-- the greedy's way: what is used, and the last one -/
noncomputable def a_gU (k : Nat) (LK : Nat → Nat → Int) (FE : Nat → Nat) : Nat → Nat → Nat → Nat × Nat
  | u, l, 0 => (u, l)
  | u, l, j + 1 => a_gU k LK FE (u ||| 2 ^ (a_nq k LK FE u l)) (a_nq k LK FE u l) j
theorem a_gU_s {k : Nat} {LK : Nat → Nat → Int} {FE : Nat → Nat} : ∀ (j u l : Nat), a_gU k LK FE u l (j + 1) = ((a_gU k LK FE u l j).1 ||| 2 ^ (a_bG k LK FE u l j), a_bG k LK FE u l j)
  | 0, _, _ => rfl
  | j + 1, u, l => by
    show a_gU k LK FE (u ||| 2 ^ (a_nq k LK FE u l)) (a_nq k LK FE u l) (j + 1) = _
    rw [a_gU_s j]
    rfl
theorem a_bG_nq {k : Nat} {LK : Nat → Nat → Int} {FE : Nat → Nat} : ∀ (j u l : Nat), a_bG k LK FE u l j = a_nq k LK FE (a_gU k LK FE u l j).1 (a_gU k LK FE u l j).2
  | 0, _, _ => rfl
  | j + 1, u, l => a_bG_nq j _ _
noncomputable def a_rG (k : Nat) (LK : Nat → Nat → Int) (FE : Nat → Nat) : Nat → Nat := a_bG k LK FE 0 100
noncomputable def a_rU (k : Nat) (LK : Nat → Nat → Int) (FE : Nat → Nat) (j : Nat) : Nat := (a_gU k LK FE 0 100 j).1
noncomputable def a_rL (k : Nat) (LK : Nat → Nat → Int) (FE : Nat → Nat) (j : Nat) : Nat := (a_gU k LK FE 0 100 j).2
theorem a_rU_s {k : Nat} {LK : Nat → Nat → Int} {FE : Nat → Nat} (j : Nat) : a_rU k LK FE (j + 1) = a_rU k LK FE j ||| 2 ^ (a_rG k LK FE j) := by
  unfold a_rU a_rG
  rw [a_gU_s]
theorem a_rL_s {k : Nat} {LK : Nat → Nat → Int} {FE : Nat → Nat} (j : Nat) : a_rL k LK FE (j + 1) = a_rG k LK FE j := by
  unfold a_rL a_rG
  rw [a_gU_s]
theorem a_rG_nq {k : Nat} {LK : Nat → Nat → Int} {FE : Nat → Nat} (j : Nat) : a_rG k LK FE j = a_nq k LK FE (a_rU k LK FE j) (a_rL k LK FE j) := a_bG_nq j 0 100
theorem a_rsq {k : Nat} {LK : Nat → Nat → Int} {FE : Nat → Nat} (hk : k < 100) (f : Nat → Nat) : ∀ n, n ≤ k → a_sq k n (a_rU k LK FE n) (a_rG k LK FE) ∧ a_rU k LK FE n < 2 ^ k ∧ (a_rL k LK FE n < k ∨ a_rL k LK FE n = 100) ∧ fb_sm (fun j => f (a_rG k LK FE j)) n = fb_sm (fun i => if (a_rU k LK FE n).testBit i = true then f i else 0) k
  | 0, _ => by
    refine ⟨⟨fun b hb => absurd hb (Nat.not_lt_zero _), fun a b ha => absurd ha (Nat.not_lt_zero _), fun i hi => ⟨fun q => ?_, fun ⟨b, hb, _⟩ => absurd hb (Nat.not_lt_zero _)⟩⟩, Nat.two_pow_pos k, Or.inr rfl, ?_⟩
    · have : Nat.testBit 0 i = true := q
      rw [Nat.zero_testBit] at this
      cases this
    · have : fb_sm (fun i => if (a_rU k LK FE 0).testBit i = true then f i else 0) k = fb_sm (fun _ => 0) k := fb_sm_cong (fun i _ => by
        show (if Nat.testBit 0 i = true then f i else 0) = 0
        rw [Nat.zero_testBit, if_neg (by decide)])
      rw [this, fb_sm_const]
      exact (Nat.mul_zero k).symm
  | n + 1, hn => by
    obtain ⟨h1, h2, h3, h4⟩ := a_rsq (LK := LK) (FE := FE) hk f n (by omega)
    have go := a_nq_go (LK := LK) (FE := FE) (l := a_rL k LK FE n) hk (h1.left (by omega))
    rw [← a_rG_nq] at go
    rw [a_rU_s, a_rL_s]
    refine ⟨h1.stp go.1 go.2.1 rfl, Nat.or_lt_two_pow h2 (Nat.pow_lt_pow_right (by decide) go.1), Or.inl go.1, ?_⟩
    rw [fb_sm_succ, h4]
    have up := fb_sm_upd (fun i => if (a_rU k LK FE n).testBit i = true then f i else 0) (f (a_rG k LK FE n)) go.1
    rw [go.2.1, if_neg (by decide), Nat.add_zero] at up
    rw [← up]
    refine fb_sm_cong (fun i _ => ?_)
    rw [a_or2]
    by_cases e : i = a_rG k LK FE n
    · rw [if_pos e, ← e, decide_eq_true rfl, Bool.or_true, if_pos rfl]
    · rw [if_neg e, decide_eq_false (fun q => e q.symm), Bool.or_false]
theorem a_rsum {k : Nat} {LK : Nat → Nat → Int} {FE : Nat → Nat} (hk : k < 100) (f : Nat → Nat) : fb_sm (fun j => f (a_rG k LK FE j)) k = fb_sm f k := by
  obtain ⟨h1, -, -, h4⟩ := a_rsq (LK := LK) (FE := FE) hk f k (Nat.le_refl k)
  rw [h4]
  refine fb_sm_cong (fun i hi => ?_)
  rw [(h1.2.2 i hi).mpr (a_full_sq h1 hi), if_pos rfl]
theorem a_K.pic {c : Nat → Nat} {M : q_MM} (hK : a_K c M) {p : Nat} (hp : p < c 2) : f_X2_pictureAt c M (nI p) = some (1300 + p) := by
  have hC2 := hK.1.2.2.1
  obtain ⟨x, x1, x2⟩ := s_nbr hK (l := nI p) (Or.inr ⟨p, hp, rfl⟩)
  rcases x2 with ⟨e, -⟩ | ⟨a, ha, e, ex⟩
  · exact absurd e (nI_neg1 (by omega))
  · rw [x1, ex, nI_inj (by omega) (by omega) e]
theorem s_find_row {c : Nat → Nat} {m M0 : q_MM} {k v g : Nat} {ch wd : Nat → Nat} (hK : a_K c M0) (hr : a_cr c M0 k ch) (hFE : ∀ l, l < k → a_FE m k ch l = 100 ∨ a_FE m k ch l < k) (hL : ∀ i j, i < k → j < k → -99 ≤ a_LK m ch i j ∧ a_LK m ch i j ≤ 99) (hc : a_cmq m k k ch M0) (hw : ∀ u', 0 < u' → u' < 2 ^ k → ∀ l, l < k → u'.testBit l = true → a_wo m k ch M0 u' l) (hwd : ∀ p, p < c 2 → M0 (1300 + p) 1 = nI (wd p)) (hg : M0 16 1 = nI g) : ∀ (d n nf : Nat) (x5 : Int32) (M : q_MM), n + d = k → d < nf → (∀ o, o ≠ 37 → o ≠ 87 → o ≠ 38 → o ≠ 88 → M o = M0 o) → M 37 1 = nI n → M 38 1 = nI n → (∀ j, j < n → M 87 j = nI (ch (a_rG k (a_LK m ch) (a_FE m k ch) j)) ∧ M 88 j = nI (v + fb_sm (fun t => wd (ch (a_rG k (a_LK m ch) (a_FE m k ch) t)) + g) j)) → x5.toInt + a_bW k (a_LK m ch) (a_FE m k ch) (a_rU k (a_LK m ch) (a_FE m k ch) n) (a_rL k (a_LK m ch) (a_FE m k ch) n) = a_bW k (a_LK m ch) (a_FE m k ch) 0 100 → (-(99 * (n : Int)) ≤ x5.toInt ∧ x5.toInt ≤ 99 * n) → ∃ r M', b_X6_find_53 c nf (nI (v + fb_sm (fun t => wd (ch (a_rG k (a_LK m ch) (a_FE m k ch) t)) + g) n)) (nI (a_rU k (a_LK m ch) (a_FE m k ch) n)) (a_lI (a_rL k (a_LK m ch) (a_FE m k ch) n)) x5 (nI n) M = some (r, M') ∧ r.toInt = a_bW k (a_LK m ch) (a_FE m k ch) 0 100 ∧ (∀ o, o ≠ 37 → o ≠ 87 → o ≠ 38 → o ≠ 88 → M' o = M0 o) ∧ (∀ o x, (o = 37 ∨ o = 38) → x ≠ 1 → M' o x = M o x) ∧ M' 37 1 = nI k ∧ M' 38 1 = nI k ∧ ∀ j, j < k → M' 87 j = nI (ch (a_rG k (a_LK m ch) (a_FE m k ch) j)) ∧ M' 88 j = nI (v + fb_sm (fun t => wd (ch (a_rG k (a_LK m ch) (a_FE m k ch) t)) + g) j)
  | d, n, 0, _, _, _, h, _, _, _, _, _, _ => absurd h (Nat.not_lt_zero _)
  | 0, n, nf + 1, x5, M, hi, _, hM, h37, h38, hrow, hx, hb => by
    have hk7 := hr.2.1
    have : n = k := by omega
    subst this
    have full := a_rsq (LK := a_LK m ch) (FE := a_FE m n ch) (show n < 100 by omega) (fun _ => 0) n (Nat.le_refl n)
    have e0 : a_bW n (a_LK m ch) (a_FE m n ch) (a_rU n (a_LK m ch) (a_FE m n ch) n) (a_rL n (a_LK m ch) (a_FE m n ch) n) = 0 := by
      rcases a_bW_nq (LK := a_LK m ch) (FE := a_FE m n ch) (show n < 100 by omega) (a_rU n (a_LK m ch) (a_FE m n ch) n) (a_rL n (a_LK m ch) (a_FE m n ch) n) with ⟨-, e, -⟩ | ⟨z1, z2, -⟩
      · exact e
      · have z3 := z2.1
        rw [(full.1.2.2 _ z1).mpr (a_full_sq full.1 z1)] at z3
        cases z3
    refine ⟨x5, M, ?_, by omega, hM, fun _ _ _ _ => rfl, h37, h38, hrow⟩
    rw [b_X6_find_53, hM 33 (by decide) (by decide) (by decide) (by decide), hr.2.2.1, if_pos (nI_le (by omega) (by omega))]
  | d + 1, n, nf + 1, x5, M, hi, hf, hM, h37, h38, hrow, hx, hb => by
    have hk7 := hr.2.1
    have hC2 := hK.1.2.2.1
    have p7 : 2 ^ k ≤ 2 ^ 7 := Nat.pow_le_pow_right (by decide) hk7
    obtain ⟨q1, q2, q3, -⟩ := a_rsq (LK := a_LK m ch) (FE := a_FE m k ch) (show k < 100 by omega) (fun _ => 0) n (by omega)
    have go := a_nq_go (LK := a_LK m ch) (FE := a_FE m k ch) (l := a_rL k (a_LK m ch) (a_FE m k ch) n) (show k < 100 by omega) (q1.left (by omega))
    have e33 : M 33 = M0 33 := hM 33 (by decide) (by decide) (by decide) (by decide)
    have e83 : M 83 = M0 83 := hM 83 (by decide) (by decide) (by decide) (by decide)
    have hcM : a_cmq m k k ch M := fun l hl => by
      rw [hM 34 (by decide) (by decide) (by decide) (by decide), hM 35 (by decide) (by decide) (by decide) (by decide)]
      exact hc l hl
    have hwM : ∀ i, i < k → (a_rU k (a_LK m ch) (a_FE m k ch) n).testBit i = false → a_wo m k ch M (a_rU k (a_LK m ch) (a_FE m k ch) n ||| 2 ^ i) i := fun i hik hbi => by
      have g1 := a_t1 (a_rU k (a_LK m ch) (a_FE m k ch) n) (by omega) i (by omega) hbi
      have p := Nat.two_pow_pos i
      unfold a_wo
      rw [hM 36 (by decide) (by decide) (by decide) (by decide)]
      exact hw _ (by rw [g1.2.1]; omega) (Nat.or_lt_two_pow q2 (Nat.pow_lt_pow_right (by decide) hik)) i hik (by rw [g1.2.1]; exact g1.2.2)
    have bn := s_bestNext (c := c) hk7 hFE hL (by rw [e33]; exact hr.2.2.1) hcM q2 q3 hwM
    rw [← a_rG_nq] at bn go
    have gk := go.1
    have hp := (hr.2.2.2.1 _ gk).2
    have ebn : a_lI (a_rG k (a_LK m ch) (a_FE m k ch) n) = nI (a_rG k (a_LK m ch) (a_FE m k ch) n) := if_neg (by omega)
    obtain ⟨lv, l1, l2⟩ := s_behind (c := c) hk7 hcM q3 gk
    have recW : a_bW k (a_LK m ch) (a_FE m k ch) (a_rU k (a_LK m ch) (a_FE m k ch) n) (a_rL k (a_LK m ch) (a_FE m k ch) n) = a_LL (a_LK m ch) (a_rL k (a_LK m ch) (a_FE m k ch) n) (a_rG k (a_LK m ch) (a_FE m k ch) n) + a_bW k (a_LK m ch) (a_FE m k ch) (a_rU k (a_LK m ch) (a_FE m k ch) (n + 1)) (a_rL k (a_LK m ch) (a_FE m k ch) (n + 1)) := by
      rcases a_bW_nq (LK := a_LK m ch) (FE := a_FE m k ch) (show k < 100 by omega) (a_rU k (a_LK m ch) (a_FE m k ch) n) (a_rL k (a_LK m ch) (a_FE m k ch) n) with ⟨e, -⟩ | ⟨-, -, e⟩
      · rw [← a_rG_nq] at e
        omega
      · rw [e, ← a_rG_nq, a_rU_s, a_rL_s]
        rfl
    have lr : -99 ≤ a_LL (a_LK m ch) (a_rL k (a_LK m ch) (a_FE m k ch) n) (a_rG k (a_LK m ch) (a_FE m k ch) n) ∧ a_LL (a_LK m ch) (a_rL k (a_LK m ch) (a_FE m k ch) n) (a_rG k (a_LK m ch) (a_FE m k ch) n) ≤ 99 := by
      unfold a_LL
      rcases q3 with q3 | q3
      · rw [if_neg (by omega)]
        exact hL _ _ q3 gk
      · rw [if_pos q3]
        omega
    have ex5 : (x5 + lv).toInt = x5.toInt + a_LL (a_LK m ch) (a_rL k (a_LK m ch) (a_FE m k ch) n) (a_rG k (a_LK m ch) (a_FE m k ch) n) := by
      rw [fb_addI (by omega) (by omega), l2]
    have hKM : a_K c M := ⟨hK.1, by rw [hM 14 (by decide) (by decide) (by decide) (by decide)]; exact hK.2.1, by rw [hM 15 (by decide) (by decide) (by decide) (by decide)]; exact hK.2.2⟩
    have eg : f_X4_get c M 33 (nI (a_rG k (a_LK m ch) (a_FE m k ch) n)) = some (nI (ch (a_rG k (a_LK m ch) (a_FE m k ch) n))) := by
      rw [s_get1 (r := 83) (N := 7) (k := k) (by decide) (by rw [e33]; exact hr.2.2.1) hk7 gk, e83, (hr.2.2.2.1 _ gk).1]
    rw [b_X6_find_53, e33, hr.2.2.1, if_neg (nI_ge (by omega) (by omega)), bn, ebn, Option.bind_some, l1, Option.bind_some, w_let]
    unfold f_X6_chosenAt
    rw [eg, Option.bind_some, hKM.pic hp, Option.bind_some, Option.bind_some, Option.bind_some, s_add (r := 87) (N := 7) (k := n) (by decide) h37 (by omega), Option.bind_some, s_add (r := 88) (N := 7) (k := n) (by decide) (by rw [q_u2_ne (by omega), q_u2_ne (by omega)]; exact h38) (by omega), Option.bind_some, if_neg (by omega), w_ck (t_pic hK.1 hp)]
    unfold b_X6_find_134
    have fr2 : ∀ o, o ≠ 37 → o ≠ 87 → o ≠ 38 → o ≠ 88 → q_u2 (q_u2 (q_u2 (q_u2 M 87 n (nI (ch (a_rG k (a_LK m ch) (a_FE m k ch) n)))) 37 1 (nI (n + 1))) 88 n (nI (v + fb_sm (fun t => wd (ch (a_rG k (a_LK m ch) (a_FE m k ch) t)) + g) n))) 38 1 (nI (n + 1)) o = M0 o := fun o b1 b2 b3 b4 => by
      funext j
      rw [q_u2_ne (fun q => b3 q.1), q_u2_ne (fun q => b4 q.1), q_u2_ne (fun q => b1 q.1), q_u2_ne (fun q => b2 q.1), hM o b1 b2 b3 b4]
    rw [fr2 (1300 + _) (by omega) (by omega) (by omega) (by omega), hwd _ hp, w_ld1, fr2 16 (by decide) (by decide) (by decide) (by decide), hg]
    simp only [w_let]
    rw [nI_add, nI_add, nI_1, a_pow _ (by omega), nI_or]
    have ih := s_find_row (m := m) (v := v) hK hr hFE hL hc hw hwd hg d (n + 1) nf (x5 + lv) _ (by omega) (by omega) fr2 (by rw [q_u2_ne (by omega), q_u2_ne (by omega), q_u2_eq]) q_u2_eq (fun j hj => by
      rw [q_u2_ne (by omega), q_u2_ne (by omega), q_u2_ne (by omega), q_u2_ne (M := q_u2 (q_u2 (q_u2 M 87 n (nI (ch (a_rG k (a_LK m ch) (a_FE m k ch) n)))) 37 1 (nI (n + 1))) 88 n (nI (v + fb_sm (fun t => wd (ch (a_rG k (a_LK m ch) (a_FE m k ch) t)) + g) n))) (by omega)]
      by_cases e : j = n
      · rw [e, q_u2_eq, q_u2_eq]
        exact ⟨rfl, rfl⟩
      · rw [q_u2_ne (by omega), q_u2_ne (by omega), q_u2_ne (by omega), q_u2_ne (by omega)]
        exact hrow j (by omega)) (by rw [ex5]; omega) (by rw [ex5]; omega)
    rw [a_rU_s, a_rL_s, fb_sm_succ, ebn, ← Nat.add_assoc] at ih
    obtain ⟨r, M', i1, i2, i3, i4, i5⟩ := ih
    exact ⟨r, M', i1, i2, i3, fun o x ho hx1 => (i4 o x ho hx1).trans (by rw [q_u2_ne (by omega), q_u2_ne (by omega), q_u2_ne (by omega), q_u2_ne (by omega)]), i5⟩
theorem a_ac_n {b : Nat} {f : Nat → Int32} {wd : Nat → Nat} : ∀ {k : Nat}, (∀ i, i < k → f i = nI (wd i)) → a_ac (nI b) f k = nI (b + fb_sm wd k)
  | 0, _ => rfl
  | k + 1, h => by
    rw [a_ac_s, a_ac_n (fun i hi => h i (by omega)), h k (by omega), nI_add, fb_sm_succ, Nat.add_assoc]
theorem s_becomeL {c : Nat → Nat} {M0 : q_MM} {k : Nat} (hk : k ≤ 7) (h37 : M0 37 1 = nI k) : ∀ (d i nf : Nat) (M : q_MM), i + d = k → d < nf → (∀ o x, o ≠ 56 → ¬ (o = 6 ∧ x = 1) → M o x = M0 o x) → M 6 1 = nI i → (∀ j, j < i → M 56 j = M0 87 j) → ∃ M', b_X4_become_6 c nf 6 37 (nI i) M = some M' ∧ (∀ o x, o ≠ 56 → ¬ (o = 6 ∧ x = 1) → M' o x = M0 o x) ∧ M' 6 1 = nI k ∧ ∀ j, j < k → M' 56 j = M0 87 j
  | d, i, 0, _, _, h, _, _, _ => absurd h (Nat.not_lt_zero _)
  | 0, i, nf + 1, M, hi, _, hM, h6, hl => by
    have : i = k := by omega
    subst this
    exact ⟨M, by rw [b_X4_become_6, w_ck (show qTX c 37 = 14 from rfl), hM 37 1 (by decide) (by omega), h37, if_pos (nI_le (by omega) (by omega))], hM, h6, hl⟩
  | d + 1, i, nf + 1, M, hi, hf, hM, h6, hl => by
    rw [b_X4_become_6, w_ck (show qTX c 37 = 14 from rfl), hM 37 1 (by decide) (by omega), h37, if_neg (nI_ge (by omega) (by omega)), show qPX c 37 0 = 87 from rfl, w_ck (show qTX c 87 = 1 from rfl), show qLX c 87 = 7 from rfl, w_ld (by omega) (by decide), w_ck (show qTX c 6 = 14 from rfl), s_add (r := 56) (N := 32) (k := i) (by decide) h6 (by omega), Option.bind_some, nI_1]
    exact s_becomeL hk h37 d (i + 1) nf _ (by omega) (by omega) (fun o x h1 h2 => by
      rw [q_u2_ne h2, q_u2_ne (fun q => h1 q.1)]
      exact hM o x h1 h2) q_u2_eq (fun j hj => by
      rw [q_u2_ne (by omega)]
      by_cases e : j = i
      · rw [e, q_u2_eq, hM 87 i (by decide) (by omega)]
      · rw [q_u2_ne (by omega)]
        exact hl j (by omega))
