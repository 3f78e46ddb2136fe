/-! breaks: the longest chains, greedily, are the first of the greatest sets -/
theorem a_pig : ∀ (n b : Nat) (s : Nat → Nat), (∀ i, i < b → s i < n) → (∀ i j, i < b → j < b → s i = s j → i = j) → b ≤ n
  | 0, b, s, h, _ => by
    apply Classical.byContradiction
    intro q
    exact absurd (h 0 (by omega)) (Nat.not_lt_zero _)
  | n + 1, b, s, h, hi => by
    by_cases z : ∃ i, i < b ∧ s i = n
    · obtain ⟨i, hib, e⟩ := z
      have := a_pig n (b - 1) (fun j => if j < i then s j else s (j + 1)) (fun j hj => by
        split
        · rename_i q
          have := h j (by omega)
          have : s j ≠ n := fun q2 => by have := hi j i (by omega) hib (q2.trans e.symm); omega
          omega
        · rename_i q
          have := h (j + 1) (by omega)
          have : s (j + 1) ≠ n := fun q2 => by have := hi (j + 1) i (by omega) hib (q2.trans e.symm); omega
          omega) (fun j l hj hl q => by
        split at q <;> split at q
        · exact hi j l (by omega) (by omega) q
        · have := hi j (l + 1) (by omega) (by omega) q
          omega
        · have := hi (j + 1) l (by omega) (by omega) q
          omega
        · have := hi (j + 1) (l + 1) (by omega) (by omega) q
          omega)
      omega
    · have := a_pig n b s (fun j hj => by
        have := h j hj
        have : s j ≠ n := fun q => z ⟨j, hj, q⟩
        omega) hi
      omega
/-- x has the first bit that differs -/
def a_fst (x y : Nat) : Prop := ∃ i, x.testBit i = true ∧ y.testBit i = false ∧ ∀ j, j < i → x.testBit j = y.testBit j
theorem a_fst.trans {x y z : Nat} (h : a_fst x y) (h' : a_fst y z) : a_fst x z := by
  obtain ⟨i, i1, i2, i3⟩ := h
  obtain ⟨j, j1, j2, j3⟩ := h'
  by_cases q : i < j
  · exact ⟨i, i1, (j3 i q).symm.trans i2, fun k hk => (i3 k hk).trans (j3 k (by omega))⟩
  · by_cases q2 : i = j
    · subst q2
      rw [i2] at j1
      cases j1
    · exact ⟨j, (i3 j (by omega)).trans j1, j2, fun k hk => (i3 k (by omega)).trans (j3 k hk)⟩
theorem a_fst.irr {x y : Nat} (h : a_fst x y) (h' : a_fst y x) : False := by
  obtain ⟨i, i1, i2, i3⟩ := h.trans h'
  rw [i1] at i2
  cases i2
theorem a_fst.tot {x y : Nat} (h : x ≠ y) : a_fst x y ∨ a_fst y x := by
  have hex : ∃ i, x.testBit i ≠ y.testBit i := by
    apply Classical.byContradiction
    intro q
    apply h
    apply Nat.eq_of_testBit_eq
    intro i
    apply Classical.byContradiction
    exact fun q2 => q ⟨i, q2⟩
  obtain ⟨i, hi, hl⟩ := pk_least _ hex
  have hl' : ∀ j, j < i → x.testBit j = y.testBit j := fun j hj => Classical.byContradiction (hl j hj)
  cases z : x.testBit i
  · cases z2 : y.testBit i
    · rw [z, z2] at hi
      exact absurd rfl hi
    · exact Or.inr ⟨i, z2, z, fun j hj => (hl' j hj).symm⟩
  · cases z2 : y.testBit i
    · exact Or.inl ⟨i, z, z2, hl'⟩
    · rw [z, z2] at hi
      exact absurd rfl hi
/-- chains: C says how long the longest from each place on is -/
def a_ch (N : Nat) (A : Nat → Int) (C : Nat → Nat) (L : Nat) : Prop := (∀ t, t < N → -1 ≤ A t) ∧ (∀ t, t < N → A t = -1 → C t = 0) ∧ (∀ t, t < N → A t ≠ -1 → 1 ≤ C t ∧ (∀ u, t < u → u < N → A t < A u → C u + 1 ≤ C t) ∧ (C t = 1 ∨ ∃ u, t < u ∧ u < N ∧ A t < A u ∧ C t = C u + 1)) ∧ (∀ t, t < N → C t ≤ L) ∧ (L = 0 ∨ ∃ t, t < N ∧ C t = L)
def a_vl (N : Nat) (A : Nat → Int) (s : Nat → Bool) : Prop := ∀ t, t < N → s t = true → 0 ≤ A t ∧ ∀ u, u < t → s u = true → A u < A t
noncomputable def a_gr (A : Nat → Int) (C : Nat → Nat) (L : Nat) : Nat → Nat × Int
  | 0 => (L, -1)
  | i + 1 => if 0 < (a_gr A C L i).1 ∧ C i = (a_gr A C L i).1 ∧ (a_gr A C L i).2 < A i then ((a_gr A C L i).1 - 1, A i) else a_gr A C L i
theorem a_gr_s {A : Nat → Int} {C : Nat → Nat} {L i : Nat} : a_gr A C L (i + 1) = if 0 < (a_gr A C L i).1 ∧ C i = (a_gr A C L i).1 ∧ (a_gr A C L i).2 < A i then ((a_gr A C L i).1 - 1, A i) else a_gr A C L i := rfl
noncomputable def a_tk (A : Nat → Int) (C : Nat → Nat) (L i : Nat) : Bool := decide (0 < (a_gr A C L i).1 ∧ C i = (a_gr A C L i).1 ∧ (a_gr A C L i).2 < A i)
theorem a_tk_t {A : Nat → Int} {C : Nat → Nat} {L i : Nat} : a_tk A C L i = true ↔ 0 < (a_gr A C L i).1 ∧ C i = (a_gr A C L i).1 ∧ (a_gr A C L i).2 < A i := decide_eq_true_iff
theorem a_gr_inv {N : Nat} {A : Nat → Int} {C : Nat → Nat} {L : Nat} (h : a_ch N A C L) : ∀ i, i ≤ N → fb_ct (a_tk A C L) i + (a_gr A C L i).1 = L ∧ (((a_gr A C L i).2 = -1 ∧ (a_gr A C L i).1 = L ∧ ∀ u, u < i → a_tk A C L u = false) ∨ ∃ g, g < i ∧ a_tk A C L g = true ∧ (a_gr A C L i).2 = A g ∧ C g = (a_gr A C L i).1 + 1 ∧ 0 ≤ A g) ∧ (∀ u, u < i → a_tk A C L u = true → A u ≤ (a_gr A C L i).2) ∧ (0 < (a_gr A C L i).1 → ∃ u, i ≤ u ∧ u < N ∧ C u = (a_gr A C L i).1 ∧ (a_gr A C L i).2 < A u)
  | 0, _ => by
    obtain ⟨h1, h2, h3, h4, h5⟩ := h
    refine ⟨Nat.zero_add L, Or.inl ⟨rfl, rfl, fun u hu => absurd hu (Nat.not_lt_zero _)⟩, fun u hu => absurd hu (Nat.not_lt_zero _), fun hl => ?_⟩
    have hl : 0 < L := hl
    rcases h5 with e | ⟨t, ht, e⟩
    · omega
    · refine ⟨t, Nat.zero_le t, ht, e, ?_⟩
      show -1 < A t
      have := h1 t ht
      have : A t ≠ -1 := fun q => by have := h2 t ht q; omega
      omega
  | i + 1, hi => by
    obtain ⟨a, b, cc, d⟩ := a_gr_inv h i (by omega)
    obtain ⟨h1, h2, h3, h4, h5⟩ := id h
    have hb : -1 ≤ (a_gr A C L i).2 := by
      rcases b with ⟨e, -⟩ | ⟨g, -, -, e, -, e2⟩ <;> omega
    by_cases z : a_tk A C L i = true
    · have z' := a_tk_t.mp z
      have es : a_gr A C L (i + 1) = ((a_gr A C L i).1 - 1, A i) := by rw [a_gr_s, if_pos z']
      rw [es, fb_ct_succ, z, if_pos rfl]
      dsimp only
      have hA : A i ≠ -1 := by omega
      refine ⟨by omega, Or.inr ⟨i, by omega, z, rfl, by omega, by omega⟩, fun u hu hz => ?_, fun hl => ?_⟩
      · by_cases e : u = i
        · rw [e]; exact Int.le_refl _
        · have := cc u (by omega) hz
          omega
      · obtain ⟨g1, g2, g3⟩ := h3 i (by omega) hA
        rcases g3 with e | ⟨u, u1, u2, u3, u4⟩
        · omega
        · exact ⟨u, by omega, u2, by omega, u3⟩
    · have z' := fun q => z (a_tk_t.mpr q)
      have es : a_gr A C L (i + 1) = a_gr A C L i := by rw [a_gr_s, if_neg z']
      have zf : a_tk A C L i = false := by simpa using z
      rw [es, fb_ct_succ, zf, if_neg (by decide)]
      refine ⟨a, ?_, fun u hu hz => ?_, fun hl => ?_⟩
      · rcases b with ⟨e1, e2, e3⟩ | ⟨g, g1, g2⟩
        · refine Or.inl ⟨e1, e2, fun u hu => ?_⟩
          by_cases e : u = i
          · rw [e]; exact zf
          · exact e3 u (by omega)
        · exact Or.inr ⟨g, by omega, g2⟩
      · by_cases e : u = i
        · rw [e, zf] at hz
          cases hz
        · exact cc u (by omega) hz
      · obtain ⟨u, u1, u2, u3, u4⟩ := d hl
        by_cases e : u = i
        · subst e
          exact absurd ⟨hl, u3, u4⟩ z'
        · exact ⟨u, by omega, u2, u3, u4⟩
theorem a_tk_vl {N : Nat} {A : Nat → Int} {C : Nat → Nat} {L : Nat} (h : a_ch N A C L) : a_vl N A (a_tk A C L) := fun t ht hz => by
  obtain ⟨a, b, cc, d⟩ := a_gr_inv h t (by omega)
  have z := (a_tk_t.mp hz).2.2
  have hb : -1 ≤ (a_gr A C L t).2 := by
    rcases b with ⟨e, -⟩ | ⟨g, -, -, e, -, e2⟩ <;> omega
  exact ⟨by omega, fun u hu hz2 => by have := cc u hu hz2; omega⟩
theorem a_tk_ct {N : Nat} {A : Nat → Int} {C : Nat → Nat} {L : Nat} (h : a_ch N A C L) : fb_ct (a_tk A C L) N = L := by
  obtain ⟨a, b, cc, d⟩ := a_gr_inv h N (Nat.le_refl N)
  by_cases z : 0 < (a_gr A C L N).1
  · obtain ⟨u, u1, u2, -⟩ := d z
    omega
  · omega
theorem a_vl_up {N : Nat} {A : Nat → Int} {C : Nat → Nat} {L : Nat} (h : a_ch N A C L) {s : Nat → Bool} (hs : a_vl N A s) : ∀ (d t g : Nat), t + d = N → g < t → s g = true → fb_ct s N + 1 ≤ fb_ct s t + C g
  | 0, t, g, ht, hg, hsg => by
    have : t = N := by omega
    subst this
    have g0 := (hs g hg hsg).1
    have := (h.2.2.1 g hg (by omega)).1
    omega
  | d + 1, t, g, ht, hg, hsg => by
    have g0 := (hs g (by omega) hsg).1
    cases z : s t
    · have := a_vl_up h hs d (t + 1) g (by omega) (by omega) hsg
      rw [fb_ct_succ, z, if_neg (by decide)] at this
      exact this
    · have := a_vl_up h hs d (t + 1) t (by omega) (by omega) z
      rw [fb_ct_succ, z, if_pos rfl] at this
      have lt := (hs t (by omega) z).2 g hg hsg
      have := (h.2.2.1 g (by omega) (by omega)).2.1 t hg (by omega) lt
      omega
theorem a_vl_up2 {N : Nat} {A : Nat → Int} {C : Nat → Nat} {L : Nat} (h : a_ch N A C L) {s : Nat → Bool} (hs : a_vl N A s) {g : Nat} (hg : g < N) (hsg : s g = true) : fb_ct s N ≤ fb_ct s g + C g := by
  have := a_vl_up h hs (N - (g + 1)) (g + 1) g (by omega) (by omega) hsg
  rw [fb_ct_succ, hsg, if_pos rfl] at this
  omega
theorem a_vl_le {N : Nat} {A : Nat → Int} {C : Nat → Nat} {L : Nat} (h : a_ch N A C L) {s : Nat → Bool} (hs : a_vl N A s) : fb_ct s N ≤ L := by
  by_cases z : ∃ g, g < N ∧ s g = true
  · obtain ⟨g, g1, g2, g3⟩ := fb_first (p := fun g => s g = true) z
    have := a_vl_up2 h hs g1 g2
    have e : fb_ct s g = 0 := fb_ct_zero.mpr (fun k hk => by simpa using g3 k hk)
    have := h.2.2.2.1 g g1
    omega
  · have e : fb_ct s N = 0 := fb_ct_zero.mpr (fun k hk => by
      cases q : s k
      · rfl
      · exact absurd ⟨k, hk, q⟩ z)
    omega
theorem a_tk_best {N : Nat} {A : Nat → Int} {C : Nat → Nat} {L : Nat} (h : a_ch N A C L) {s : Nat → Bool} (hs : a_vl N A s) (hL : fb_ct s N = L) : (∀ t, t < N → s t = a_tk A C L t) ∨ ∃ i, i < N ∧ a_tk A C L i = true ∧ s i = false ∧ ∀ j, j < i → a_tk A C L j = s j := by
  by_cases z : ∃ i, i < N ∧ s i ≠ a_tk A C L i
  · obtain ⟨i, hi, hne, hl⟩ := fb_first (p := fun i => s i ≠ a_tk A C L i) z
    have hl' : ∀ j, j < i → s j = a_tk A C L j := fun j hj => Classical.byContradiction (hl j hj)
    refine Or.inr ⟨i, hi, ?_⟩
    cases z1 : a_tk A C L i
    · exfalso
      have zs : s i = true := by
        cases q : s i
        · rw [q, z1] at hne
          exact absurd rfl hne
        · rfl
      obtain ⟨a, b, cc, d⟩ := a_gr_inv h i (by omega)
      have ep : fb_ct s i = fb_ct (a_tk A C L) i := fb_ct_cong (fun k hk => hl' k hk)
      have up := a_vl_up2 h hs hi zs
      have st : fb_ct s (i + 1) ≤ fb_ct s N := fb_ct_mono s (by omega)
      rw [fb_ct_succ, zs, if_pos rfl] at st
      have vi := hs i hi zs
      have le : C i ≤ (a_gr A C L i).1 ∧ (a_gr A C L i).2 < A i := by
        rcases b with ⟨e1, e2, -⟩ | ⟨g, g1, g2, g3, g4, g5⟩
        · have := h.2.2.2.1 i hi
          have := vi.1
          exact ⟨by omega, by omega⟩
        · have lt := vi.2 g g1 (by rw [hl' g g1]; exact g2)
          have := (h.2.2.1 g (by omega) (by omega)).2.1 i g1 hi lt
          exact ⟨by omega, by omega⟩
      have : a_tk A C L i = true := a_tk_t.mpr ⟨by omega, by omega, le.2⟩
      rw [z1] at this
      cases this
    · refine ⟨rfl, ?_, fun j hj => (hl' j hj).symm⟩
      cases q : s i
      · rfl
      · rw [q, z1] at hne
        exact absurd rfl hne
  · exact Or.inl (fun t ht => Classical.byContradiction (fun q => z ⟨t, ht, q⟩))
/-- the set that the greedy takes, as bits -/
noncomputable def a_gS (A : Nat → Int) (C : Nat → Nat) (L N : Nat) : Nat := a_D 1 (fun j => (a_tk A C L j).toNat) N
theorem a_gS_bit {A : Nat → Int} {C : Nat → Nat} {L N j : Nat} : (a_gS A C L N).testBit j = (decide (j < N) && a_tk A C L j) := by
  have := a_D_bit (s := 1) (f := fun j => (a_tk A C L j).toNat) (fun j => by cases a_tk A C L j <;> decide) (i := 0) (by decide) N j
  rw [Nat.one_mul, Nat.add_zero] at this
  unfold a_gS
  rw [this]
  congr 1
  cases a_tk A C L j <;> rfl
theorem a_gS_lt {A : Nat → Int} {C : Nat → Nat} {L N : Nat} : a_gS A C L N < 2 ^ N := by
  have := a_D_lt (s := 1) (f := fun j => (a_tk A C L j).toNat) (fun j => by cases a_tk A C L j <;> decide) N
  rwa [Nat.one_mul] at this
/-- the best of all sets is what the greedy takes -/
theorem a_gS_best {N : Nat} {A : Nat → Int} {C : Nat → Nat} {L B : Nat} (h : a_ch N A C L) (hB : B < 2 ^ N) (hv : a_vl N A (fun j => B.testBit j)) (hall : ∀ S, S < 2 ^ N → a_vl N A (fun j => S.testBit j) → fb_ct (fun j => S.testBit j) N < fb_ct (fun j => B.testBit j) N ∨ (fb_ct (fun j => S.testBit j) N = fb_ct (fun j => B.testBit j) N ∧ (S = B ∨ a_fst B S))) : fb_ct (fun j => B.testBit j) N = L ∧ ∀ t, t < N → B.testBit t = a_tk A C L t := by
  have hbit : ∀ j, j < N → (a_gS A C L N).testBit j = a_tk A C L j := fun j hj => by rw [a_gS_bit, decide_eq_true hj, Bool.true_and]
  have hG : a_vl N A (fun j => (a_gS A C L N).testBit j) := fun t ht hz => by
    have hz : (a_gS A C L N).testBit t = true := hz
    rw [hbit t ht] at hz
    have := a_tk_vl h t ht hz
    exact ⟨this.1, fun u hu hz2 => this.2 u hu (by rw [← hbit u (by omega)]; exact hz2)⟩
  have cG : fb_ct (fun j => (a_gS A C L N).testBit j) N = L := by
    rw [fb_ct_cong (q := a_tk A C L) (fun k hk => hbit k hk)]
    exact a_tk_ct h
  have le := a_vl_le h hv
  have g := hall _ a_gS_lt hG
  rw [cG] at g
  have cB : fb_ct (fun j => B.testBit j) N = L := by omega
  refine ⟨cB, fun t ht => ?_⟩
  rcases g with g | ⟨-, g⟩
  · omega
  · rcases g with e | e
    · rw [← e]
      exact hbit t ht
    · exfalso
      rcases a_tk_best h hv cB with q | ⟨i, i1, i2, i3, i4⟩
      · obtain ⟨i, j1, j2, j3⟩ := e
        by_cases hi : i < N
        · rw [hbit i hi, ← q i hi] at j2
          rw [j1] at j2
          cases j2
        · have p : 2 ^ N ≤ 2 ^ i := Nat.pow_le_pow_right (by decide) (by omega)
          rw [Nat.testBit_lt_two_pow (show B < 2 ^ i by omega)] at j1
          cases j1
      · exact e.irr ⟨i, by rw [hbit i i1]; exact i2, i3, fun j hj => by rw [hbit j (by omega)]; exact i4 j hj⟩
/-- the lowest bit -/
def a_q6 (V : Nat) : Bool := Nat.beq V 0 || (List.range 12).any fun i => Nat.beq (nI V &&& -(nI V)).toBitVec.toNat (2 ^ i) && V.testBit i && (List.range i).all fun j => !(V.testBit j)
theorem a_q6a : (List.range 4096).all a_q6 = true := by decide +kernel
theorem a_low {V : Nat} (h : V < 4096) (h0 : V ≠ 0) : ∃ i, i < 12 ∧ nI V &&& -(nI V) = nI (2 ^ i) ∧ V.testBit i = true ∧ ∀ j, j < i → V.testBit j = false := by
  have g := List.all_eq_true.mp a_q6a V (List.mem_range.mpr h)
  unfold a_q6 at g
  rw [Bool.or_eq_true, Nat.beq_eq, List.any_eq_true] at g
  rcases g with e | ⟨i, hi, g⟩
  · exact absurd e h0
  · have hi := List.mem_range.mp hi
    rw [Bool.and_eq_true, Bool.and_eq_true, Nat.beq_eq] at g
    have p : 2 ^ i ≤ 2 ^ 12 := Nat.pow_le_pow_right (by decide) (by omega)
    refine ⟨i, hi, Int32.toBitVec_inj.mp (BitVec.eq_of_toNat_eq (g.1.1.trans (pk_tn (by omega)).symm)), g.1.2, fun j hj => ?_⟩
    have := List.all_eq_true.mp g.2 j (List.mem_range.mpr hj)
    simpa using this
theorem a_pow' : ∀ k, k ≤ 12 → (1 : Int32) <<< (nI k &&& 31) = nI (2 ^ k) := by decide +kernel
theorem a_fst_low {x y : Nat} (h : x ^^^ y < 4096) (h0 : x ^^^ y ≠ 0) : ¬ (nI x &&& (nI (x ^^^ y) &&& -(nI (x ^^^ y))) = 0) ↔ a_fst x y := by
  obtain ⟨i, hi, e1, e2, e3⟩ := a_low h h0
  rw [e1, ← a_pow' i (by omega), b_and1 (by omega), b_nI (by omega)]
  rw [Nat.testBit_xor] at e2
  have e3' : ∀ j, j < i → x.testBit j = y.testBit j := fun j hj => by
    have := e3 j hj
    rw [Nat.testBit_xor] at this
    revert this
    cases x.testBit j <;> cases y.testBit j <;> simp
  constructor
  · intro q
    have q' : x.testBit i = true := by simpa using q
    rw [q'] at e2
    exact ⟨i, q', by revert e2; cases y.testBit i <;> simp, e3'⟩
  · rintro ⟨j, j1, j2, j3⟩ q
    rw [q] at e2
    have y1 : y.testBit i = true := by simpa using e2
    by_cases l : i < j
    · have := j3 i l
      rw [q, y1] at this
      cases this
    · by_cases l2 : i = j
      · subst l2
        rw [q] at j1
        cases j1
      · have := e3' j (by omega)
        rw [j1, j2] at this
        cases this
