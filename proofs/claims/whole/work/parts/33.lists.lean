/-! Numbers, and calls that add to them -/
def a_nums : List (Nat × Nat × Nat) := [(6, 56, 32), (7, 57, 100), (8, 58, 12), (9, 59, 10), (30, 80, 60), (31, 81, 61), (32, 82, 60), (33, 83, 7), (37, 87, 7), (38, 88, 7), (39, 89, 8), (40, 90, 8), (41, 91, 8)]
theorem a_numf (c : Nat → Nat) : ∀ t ∈ a_nums, qTX c t.1 = 14 ∧ qPX c t.1 0 = t.2.1 ∧ qTX c t.2.1 = 1 ∧ qLX c t.2.1 = t.2.2 ∧ t.2.2 ≤ 100 ∧ t.1 ≠ t.2.1 ∧ 0 < t.2.2 := by
  intro t ht
  simp only [a_nums, List.mem_cons, List.not_mem_nil, or_false] at ht
  rcases ht with rfl | rfl | rfl | rfl | rfl | rfl | rfl | rfl | rfl | rfl | rfl | rfl | rfl <;> exact ⟨rfl, rfl, rfl, rfl, by decide, by decide, by decide⟩
theorem s_add {c : Nat → Nat} {M : q_MM} {o r N k : Nat} {v : Int32} (ht : (o, r, N) ∈ a_nums) (hk : M o 1 = nI k) (hk2 : k < N) : f_X4_add c M o v = some (q_u2 (q_u2 M r k v) o 1 (nI (k + 1))) := by
  obtain ⟨h1, h2, h3, h4, h5, h6, -⟩ := a_numf c _ ht
  dsimp only at h1 h2 h3 h4 h5 h6
  unfold f_X4_add
  rw [w_ck h1, h2, w_ck h3, h4, hk, show Int32.ofNat N = nI N from rfl, if_neg (nI_ge hk2 (by omega)), w_as hk2 (by omega), w_let, q_u2_ne (fun z => h6 z.1), hk, nI_1]
theorem s_addN {c : Nat → Nat} {M : q_MM} {o r N : Nat} {v : Int32} (ht : (o, r, N) ∈ a_nums) (hk : M o 1 = nI N) : f_X4_add c M o v = some M := by
  obtain ⟨h1, h2, h3, h4, h5, h6, -⟩ := a_numf c _ ht
  dsimp only at h1 h2 h3 h4 h5 h6
  unfold f_X4_add
  rw [w_ck h1, h2, w_ck h3, h4, hk, show Int32.ofNat N = nI N from rfl, if_pos (nI_le (Nat.le_refl N) (by omega))]
theorem s_clear {c : Nat → Nat} {M : q_MM} {o r N : Nat} (ht : (o, r, N) ∈ a_nums) : f_X4_clear c M o = some (q_u2 M o 1 0) := by
  obtain ⟨h1, -⟩ := a_numf c _ ht
  dsimp only at h1
  unfold f_X4_clear
  rw [w_ck h1, w_let]
theorem s_get1 {c : Nat → Nat} {M : q_MM} {o r N k i : Nat} (ht : (o, r, N) ∈ a_nums) (hk : M o 1 = nI k) (hk2 : k ≤ N) (hi : i < k) : f_X4_get c M o (nI i) = some (M r i) := by
  obtain ⟨h1, h2, h3, h4, h5, h6, -⟩ := a_numf c _ ht
  dsimp only at h1 h2 h3 h4 h5 h6
  unfold f_X4_get
  rw [if_neg (nI_pos (by omega)), w_ck h1, hk, if_neg (nI_ge hi (by omega)), h2, w_ck h3, h4, w_ld (by omega) (by omega)]
theorem s_get0 {c : Nat → Nat} {M : q_MM} {o r N k : Nat} {x : Int32} (ht : (o, r, N) ∈ a_nums) (hk : M o 1 = nI k) (hk2 : k ≤ N) (hx : ¬ a_lt x k) : f_X4_get c M o x = some (-1) := by
  obtain ⟨h1, h2, h3, h4, h5, h6, -⟩ := a_numf c _ ht
  dsimp only at h1 h2 h3 h4 h5 h6
  unfold f_X4_get
  rw [w_ck h1, hk]
  rcases a_nlt hx (by omega) with q | q
  · rw [if_pos q]
  · by_cases q2 : x < 0
    · rw [if_pos q2]
    · rw [if_neg q2, if_pos q]
/-- the first place of a number, from i on among d -/
def a_fnd (f : Nat → Int32) (v : Int32) : Nat → Nat → Int32
  | 0, _ => -1
  | d + 1, i => if f i = v then nI i else a_fnd f v d (i + 1)
theorem a_fnd_succ {f : Nat → Int32} {v : Int32} {d i : Nat} : a_fnd f v (d + 1) i = if f i = v then nI i else a_fnd f v d (i + 1) := rfl
theorem a_fnd_no {f : Nat → Int32} {v : Int32} : ∀ {d i : Nat}, i + d < 2 ^ 31 → (a_fnd f v d i = -1 ↔ ∀ j, i ≤ j → j < i + d → f j ≠ v)
  | 0, i, _ => by
    unfold a_fnd
    exact ⟨fun _ j h1 h2 => absurd h2 (by omega), fun _ => rfl⟩
  | d + 1, i, hd => by
    rw [a_fnd_succ]
    split
    · rename_i h
      exact ⟨fun z => absurd z (nI_neg1 (by omega)), fun z => absurd h (z i (Nat.le_refl i) (by omega))⟩
    · rename_i h
      rw [a_fnd_no (by omega)]
      constructor
      · intro z j h1 h2
        by_cases e : j = i
        · exact e ▸ h
        · exact z j (by omega) (by omega)
      · exact fun z j h1 h2 => z j (by omega) (by omega)
theorem a_fnd_le {f : Nat → Int32} {v : Int32} : ∀ {d i : Nat}, a_fnd f v d i = -1 ∨ ∃ j, i ≤ j ∧ j < i + d ∧ a_fnd f v d i = nI j ∧ f j = v
  | 0, i => Or.inl rfl
  | d + 1, i => by
    rw [a_fnd_succ]
    split
    · rename_i h
      exact Or.inr ⟨i, Nat.le_refl i, by omega, rfl, h⟩
    · rcases a_fnd_le (f := f) (v := v) (d := d) (i := i + 1) with h | ⟨j, h1, h2, h3, h4⟩
      · exact Or.inl h
      · exact Or.inr ⟨j, by omega, by omega, h3, h4⟩
theorem s_find_loop {c : Nat → Nat} {M : q_MM} {o r N k : Nat} {v : Int32} (ht : (o, r, N) ∈ a_nums) (hk : M o 1 = nI k) (hk2 : k ≤ N) : ∀ (d i nf : Nat), i + d = k → d < nf → b_X4_find_2 c M nf o v (nI i) = some (a_fnd (M r) v d i)
  | d, i, 0, _, h => absurd h (Nat.not_lt_zero _)
  | 0, i, nf + 1, hi, _ => by
    obtain ⟨h1, h2, h3, h4, h5, h6, -⟩ := a_numf c _ ht
    dsimp only at h1 h2 h3 h4 h5 h6
    rw [b_X4_find_2, w_ck h1, hk, if_pos (nI_le (by omega) (by omega))]
    rfl
  | d + 1, i, nf + 1, hi, hf => by
    obtain ⟨h1, h2, h3, h4, h5, h6, -⟩ := a_numf c _ ht
    dsimp only at h1 h2 h3 h4 h5 h6
    rw [b_X4_find_2, w_ck h1, hk, if_neg (nI_ge (by omega) (by omega)), h2, w_ck h3, h4, w_ld (by omega) (by omega), nI_1, s_find_loop ht hk hk2 d (i + 1) nf (by omega) (by omega), a_fnd_succ]
    split <;> rfl
theorem s_find {c : Nat → Nat} {M : q_MM} {o r N k : Nat} {v : Int32} (ht : (o, r, N) ∈ a_nums) (hk : M o 1 = nI k) (hk2 : k ≤ N) : f_X4_find c M o v = some (a_fnd (M r) v k 0) := by
  have h5 := (a_numf c _ ht).2.2.2.2.1
  dsimp only at h5
  have := q_fu_le
  exact s_find_loop ht hk hk2 k 0 q_fu (by omega) (by omega)
theorem s_isThere_loop {M : q_MM} {o k N : Nat} {v : Int32} (hT : qTM o = 1) (hL : qLM o = N) (hN : N ≤ 100) (hk : k ≤ N) : ∀ (d i nf : Nat) (acc : Int32), i + d = k → d < nf → (acc = 0 ∨ acc = 1) → b_X12_isThere_5 M nf o (nI k) v acc (nI i) = some (a_if (acc = 1 ∨ ∃ j, i ≤ j ∧ j < k ∧ M o j = v) 1 0)
  | d, i, 0, _, _, h, _ => absurd h (Nat.not_lt_zero _)
  | 0, i, nf + 1, acc, hi, _, ha => by
    rw [b_X12_isThere_5, if_pos (nI_le (by omega) (by omega))]
    rcases ha with rfl | rfl
    · rw [w_bl0, a_ifn]
      rintro (z | ⟨j, h1, h2, -⟩)
      · exact absurd z (by decide)
      · omega
    · rw [w_bl1, a_ifp (Or.inl rfl)]
  | d + 1, i, nf + 1, acc, hi, hf, ha => by
    rw [b_X12_isThere_5, if_neg (nI_ge (by omega) (by omega))]
    rcases ha with rfl | rfl
    · rw [if_pos rfl, w_ck hT, hL, w_ld (by omega) (by omega)]
      unfold b_X12_isThere_23 b_X12_isThere_28
      rw [nI_1]
      by_cases e : M o i = v
      · rw [if_pos e, s_isThere_loop hT hL hN hk d (i + 1) nf 1 (by omega) (by omega) (Or.inr rfl), a_ifp (Or.inl rfl), a_ifp (Or.inr ⟨i, Nat.le_refl i, by omega, e⟩)]
      · rw [if_neg e, s_isThere_loop hT hL hN hk d (i + 1) nf 0 (by omega) (by omega) (Or.inl rfl)]
        congr 2
        apply propext
        constructor
        · rintro (z | ⟨j, h1, h2, h3⟩)
          · exact absurd z (by decide)
          · exact Or.inr ⟨j, by omega, h2, h3⟩
        · rintro (z | ⟨j, h1, h2, h3⟩)
          · exact absurd z (by decide)
          · refine Or.inr ⟨j, ?_, h2, h3⟩
            by_cases e2 : j = i
            · exact absurd (e2 ▸ h3) e
            · omega
    · rw [if_neg (by decide)]
      unfold b_X12_isThere_23 b_X12_isThere_28
      rw [nI_1, s_isThere_loop hT hL hN hk d (i + 1) nf 1 (by omega) (by omega) (Or.inr rfl), a_ifp (Or.inl rfl), a_ifp (Or.inl rfl)]
theorem s_isThere {M : q_MM} {o k N : Nat} {v : Int32} (hT : qTM o = 1) (hL : qLM o = N) (hN : N ≤ 100) (hk : k ≤ N) : f_X12_isThere M o (nI k) v = some (a_if (∃ j, j < k ∧ M o j = v) 1 0) := by
  have := q_fu_le
  unfold f_X12_isThere
  refine (s_isThere_loop hT hL hN hk k 0 q_fu 0 (by omega) (by omega) (Or.inl rfl)).trans ?_
  congr 2
  apply propext
  constructor
  · rintro (z | ⟨j, -, h2, h3⟩)
    · exact absurd z (by decide)
    · exact ⟨j, h2, h3⟩
  · exact fun ⟨j, h2, h3⟩ => Or.inr ⟨j, Nat.zero_le _, h2, h3⟩
/-- a row with one more -/
theorem a_row.push {N : Nat} {M m : q_MM} {o r o2 k2 r2 k : Nat} {P : Int32 → Prop} {v : Int32} (h : a_row N (M o 1) (m o2 k2) (M r) (m r2) P) (hk : M o 1 = nI k) (hN : k < N) (hN2 : N ≤ 1000) (h1 : o ≠ r) (h2 : o2 ≠ r2) (hv : P v) : a_row N (q_u2 (q_u2 M r k v) o 1 (nI (k + 1)) o 1) (q_u2 (q_u2 m r2 k v) o2 k2 (nI (k + 1)) o2 k2) (q_u2 (q_u2 M r k v) o 1 (nI (k + 1)) r) (q_u2 (q_u2 m r2 k v) o2 k2 (nI (k + 1)) r2) P := by
  obtain ⟨k', e1, e2, e3, e4⟩ := h
  have : k' = k := nI_inj (by omega) (by omega) (e2.symm.trans hk)
  subst this
  refine ⟨k' + 1, by omega, q_u2_eq, q_u2_eq, fun i hi => ?_⟩
  rw [q_u2_ne (fun z => h1 z.1.symm), q_u2_ne (fun z => h2 z.1.symm)]
  by_cases e : i = k'
  · subst e
    rw [q_u2_eq, q_u2_eq]
    exact ⟨rfl, hv⟩
  · rw [q_u2_ne (fun z => e z.2), q_u2_ne (fun z => e z.2)]
    exact e4 i (by omega)
theorem a_dis_push {k : Nat} {f g : Nat → Int32} (h : a_dis k f) (hg : ∀ i, i < k → g i = f i) (hn : ∀ i, i < k → f i ≠ g k) : a_dis (k + 1) g := by
  intro i j hi hj e
  by_cases e1 : i = k
  · by_cases e2 : j = k
    · omega
    · subst e1
      exact absurd ((hg j (by omega)).symm.trans e.symm) (hn j (by omega))
  · by_cases e2 : j = k
    · subst e2
      exact absurd ((hg i (by omega)).symm.trans e) (hn i (by omega))
    · exact h i j (by omega) (by omega) (by rw [← hg i (by omega), ← hg j (by omega)]; exact e)
theorem pub_tale {c n : Nat → Nat} {m M : q_MM} (h : a_X c n m M) (a1 : Int32) : a_T c (f_X11_tale c M a1) (f_X12_tale m a1) := by
  unfold f_X11_tale f_X12_tale
  simp only [w_let]
  replace h := h.t0
  generalize q_u2 m 5001 0 0 = m at h ⊢
  by_cases z1 : a_lt a1 (c 2)
  · obtain ⟨p, hp, rfl⟩ := z1
    have h14 : a_B14 c n m M := h 14
    obtain ⟨⟨k, k1, k2, k3, k4⟩, hd⟩ := id h14
    have e3 := s_find (c := c) (v := nI p) (o := 8) (r := 58) (N := 12) (by decide) k2 k1
    have e4 := s_isThere (M := m) (o := 5071) (k := k) (v := nI p) (N := 12) rfl rfl (by decide) k1
    simp only [s_picAt1 h hp, h.isPicture1 hp, show ¬ 1300 + p = 0 by omega, k3, e3, e4, Option.bind_some, if_false, show ¬ (1 : Int32) = 0 by decide]
    by_cases z2 : ∃ j, j < k ∧ m 5071 j = nI p
    · simp only [a_ifp z2, if_false, show ¬ (1 : Int32) = 0 by decide]
      obtain ⟨j, hj, hje⟩ := z2
      rw [if_neg (fun z => (a_fnd_no (by omega)).mp z j (Nat.zero_le _) (by omega) ((k4 j hj).1.trans hje))]
      exact a_T.no h (-1) rfl rfl
    · rw [a_ifn z2, if_pos (rfl : (0 : Int32) = 0), if_pos ((a_fnd_no (by omega)).mpr (fun j _ hj e => z2 ⟨j, by omega, (k4 j (by omega)).1.symm.trans e⟩)), k2]
      by_cases z3 : k < 12
      · rw [if_pos (show nI k < 12 from nI_lt z3 (by decide)), if_neg (show ¬ nI k = 12 from fun z => by have := nI_inj (by omega) (by decide) (show nI k = nI 12 from z); omega), s_add (r := 58) (N := 12) (by decide) k2 z3, w_as z3 (by decide)]
        have e9 : q_u2 m 5071 k (nI p) 5001 60 = nI k := (q_u2_ne (by omega)).trans k3
        refine ⟨nI (k + 1), n, q_u2 (q_u2 M 58 k (nI p)) 8 1 (nI (k + 1)), q_u2 (q_u2 m 5071 k (nI p)) 5001 60 (nI (k + 1)), ?_, ?_, ?_⟩
        · simp only [Option.bind_some, q_u2_eq]
        · simp only [e9, nI_1, q_u2_eq]
        · refine h.wr [14] (a_wM.s1 (a_wM.s1 a_wM.rf rfl) rfl) (a_wS.s1 (a_wS.s1 a_wS.rf rfl) rfl) (a_one ?_)
          refine ⟨h14.1.push k2 z3 (by decide) (by decide) (by decide) ⟨p, hp, rfl⟩, ?_⟩
          rw [q_u2_eq, nI_clamp (by omega)]
          rw [k3, nI_clamp (by omega)] at hd
          refine a_dis_push hd (fun i hi => ?_) (fun i hi => ?_)
          · rw [q_u2_ne (by omega), q_u2_ne (by omega)]
          · rw [q_u2_ne (by omega), q_u2_eq]
            exact fun e => z2 ⟨i, hi, e⟩
      · have : k = 12 := by omega
        subst this
        rw [if_neg (by decide), if_pos (show nI 12 = 12 from rfl)]
        exact a_T.no h (-1) rfl rfl
  · exact a_T.no h (-1) (by simp [s_picAt0 h z1]) (by simp [h.isPicture0 z1])
theorem pub_route {c n : Nat → Nat} {m M : q_MM} (h : a_X c n m M) (a1 : Int32) : a_T c (f_X11_route c M a1) (f_X12_route m a1) := by
  unfold f_X11_route f_X12_route
  simp only [w_let]
  replace h := h.t0
  generalize q_u2 m 5001 0 0 = m at h ⊢
  by_cases z1 : a_lt a1 (n 0)
  · obtain ⟨p, hp, rfl⟩ := z1
    have h14 : a_B15 c n m M := h 15
    obtain ⟨⟨k, k1, k2, k3, k4⟩, hd⟩ := id h14
    have hn : n 0 ≤ 10 := (h 0).1
    have e3 := s_find (c := c) (v := nI p) (o := 9) (r := 59) (N := 10) (by decide) k2 k1
    have e4 := s_isThere (M := m) (o := 5073) (k := k) (v := nI p) (N := 10) rfl rfl (by decide) k1
    simp only [s_hasRoom1 h hp, h.isRoom1 hp, show ¬ (1 : Int32) = 0 by decide, k3, e3, e4, Option.bind_some, if_false, show ¬ (1 : Int32) = 0 by decide]
    by_cases z2 : ∃ j, j < k ∧ m 5073 j = nI p
    · simp only [a_ifp z2, if_false, show ¬ (1 : Int32) = 0 by decide]
      obtain ⟨j, hj, hje⟩ := z2
      rw [if_neg (fun z => (a_fnd_no (by omega)).mp z j (Nat.zero_le _) (by omega) ((k4 j hj).1.trans hje))]
      exact a_T.no h (-1) rfl rfl
    · rw [a_ifn z2, if_pos (rfl : (0 : Int32) = 0), if_pos ((a_fnd_no (by omega)).mpr (fun j _ hj e => z2 ⟨j, by omega, (k4 j (by omega)).1.symm.trans e⟩)), k2]
      by_cases z3 : k < 10
      · rw [if_pos (show nI k < 10 from nI_lt z3 (by decide)), if_neg (show ¬ nI k = 10 from fun z => by have := nI_inj (by omega) (by decide) (show nI k = nI 10 from z); omega), s_add (r := 59) (N := 10) (by decide) k2 z3, w_as z3 (by decide)]
        have e9 : q_u2 m 5073 k (nI p) 5001 62 = nI k := (q_u2_ne (by omega)).trans k3
        refine ⟨nI (k + 1), n, q_u2 (q_u2 M 59 k (nI p)) 9 1 (nI (k + 1)), q_u2 (q_u2 m 5073 k (nI p)) 5001 62 (nI (k + 1)), ?_, ?_, ?_⟩
        · simp only [Option.bind_some, q_u2_eq]
        · simp only [e9, nI_1, q_u2_eq]
        · refine h.wr [15] (a_wM.s1 (a_wM.s1 a_wM.rf rfl) rfl) (a_wS.s1 (a_wS.s1 a_wS.rf rfl) rfl) (a_one ?_)
          refine ⟨h14.1.push k2 z3 (by decide) (by decide) (by decide) ⟨p, hp, rfl⟩, ?_⟩
          rw [q_u2_eq, nI_clamp (by omega)]
          rw [k3, nI_clamp (by omega)] at hd
          refine a_dis_push hd (fun i hi => ?_) (fun i hi => ?_)
          · rw [q_u2_ne (by omega), q_u2_ne (by omega)]
          · rw [q_u2_ne (by omega), q_u2_eq]
            exact fun e => z2 ⟨i, hi, e⟩
      · have : k = 10 := by omega
        subst this
        rw [if_neg (by decide), if_pos (show nI 10 = 10 from rfl)]
        exact a_T.no h (-1) rfl rfl
  · exact a_T.no h (-1) (by simp [s_hasRoom0 h z1]) (by simp [h.isRoom0 z1])
theorem pub_end {c n : Nat → Nat} {m M : q_MM} (h : a_X c n m M) (a1 : Int32) : a_T c (f_X11_end c M a1) (f_X12_end m a1) := by
  unfold f_X11_end f_X12_end
  simp only [w_let]
  replace h := h.t0
  generalize q_u2 m 5001 0 0 = m at h ⊢
  obtain ⟨k, k1, k2, k3, k4⟩ := show a_B13 c n m M from h 13
  rw [k2, k3]
  by_cases z1 : a_rg a1 0 k
  · have e1 : f_X11_within c M a1 0 (nI k) = some 1 := s_within1 z1 rfl (nI_toInt (by omega))
    have e2 : f_X12_in m (Int32.toInt64 a1) 0 (Int32.toInt64 (nI k)) = some 1 := s_in1 z1 rfl ((Int32.toInt_toInt64 _).trans (nI_toInt (by omega)))
    obtain ⟨j, hj, rfl⟩ := (a_lt_i (x := a1) (N := k + 1) (by omega)).mpr (by unfold a_rg at z1; omega)
    refine ⟨1, n, q_u2 M 7 1 (nI j), q_u2 m 5001 42 (nI j), by simp [e1, w_let, w_bl1], by simp [e2, w_let, w_bl1], ?_⟩
    refine h.wr [13] (a_wM.s1 a_wM.rf rfl) (a_wS.s1 a_wS.rf rfl) (a_one ?_)
    refine ⟨j, by omega, q_u2_eq, q_u2_eq, fun i hi => ?_⟩
    rw [q_u2_ne (by omega), q_u2_ne (by omega)]
    exact k4 i (by omega)
  · have e1 : f_X11_within c M a1 0 (nI k) = some 0 := s_within0 z1 rfl (nI_toInt (by omega))
    have e2 : f_X12_in m (Int32.toInt64 a1) 0 (Int32.toInt64 (nI k)) = some 0 := s_inn z1 rfl ((Int32.toInt_toInt64 _).trans (nI_toInt (by omega)))
    exact a_T.no h 0 (by simp [e1, w_bl0]) (by simp [e2, w_bl0])
theorem vp_narz (x : Int32) : vp_nar .boolean x = x &&& 1 := rfl
theorem a_bt (x : Int32) (i : Nat) : a_bit x i = bt x i := rfl
theorem b_one : ∀ r, r < 32 → ∀ i, i < 32 → bt ((1 : Int32) <<< (nI r &&& 31)) i = decide (i = r) := by decide +kernel
