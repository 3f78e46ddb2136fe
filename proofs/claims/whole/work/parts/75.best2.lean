/-! best: the model tries all orders -/
def a_pf (m0 m : q_MM) : Prop := ∀ o j, o ≠ 5061 → o ≠ 5062 → ¬ (o = 5001 ∧ (j = 53 ∨ j = 54)) → m o j = m0 o j
theorem a_pf.rf {m : q_MM} : a_pf m m := fun _ _ _ _ _ => rfl
theorem a_pf.trans {m m' m'' : q_MM} (h : a_pf m m') (h' : a_pf m' m'') : a_pf m m'' := fun o j a b d => (h' o j a b d).trans (h o j a b d)
theorem a_pf.u61 {m0 m : q_MM} {j : Nat} {v : Int32} (h : a_pf m0 m) : a_pf m0 (q_u2 m 5061 j v) := fun o j' a b d => by rw [q_u2_ne (fun q => a q.1)]; exact h o j' a b d
theorem a_pf.u62 {m0 m : q_MM} {j : Nat} {v : Int32} (h : a_pf m0 m) : a_pf m0 (q_u2 m 5062 j v) := fun o j' a b d => by rw [q_u2_ne (fun q => b q.1)]; exact h o j' a b d
theorem a_pf.u53 {m0 m : q_MM} {j : Nat} {v : Int32} (h : a_pf m0 m) (hj : j = 53 ∨ j = 54) : a_pf m0 (q_u2 m 5001 j v) := fun o j' a b d => by rw [q_u2_ne (fun q => d ⟨q.1, by rw [q.2]; exact hj⟩)]; exact h o j' a b d
def a_bm (c : Nat → Nat) (m0 : q_MM) (k : Nat) (ch FE : Nat → Nat) : Prop := k ≤ 7 ∧ c 2 ≤ 24 ∧ m0 5001 50 = nI k ∧ m0 5001 18 = nI (c 2) ∧ (∀ i, i < k → ch i < c 2) ∧ (∀ i j, i < j → j < k → ch i < ch j) ∧ (∀ p, p < c 2 → a_lt (m0 5032 p) 8) ∧ (∀ a b, a < 8 → b < 8 → a_rg (m0 5059 (8 * a + b)) (-99) 99) ∧ (∀ i j, i < k → j < k → (m0 5036 (ch i) = nI (ch j) ↔ FE i = j)) ∧ (∀ i j, i < k → j < k → FE i = j → FE j = i) ∧ (∀ i, i < k → FE i ≠ i)
def a_LK (m0 : q_MM) (ch : Nat → Nat) (i j : Nat) : Int := (a_lk m0 (ch i) (ch j)).toInt
theorem a_LK_rg {c : Nat → Nat} {m0 : q_MM} {k : Nat} {ch FE : Nat → Nat} (h : a_bm c m0 k ch FE) {i j : Nat} (hi : i < k) (hj : j < k) : -99 ≤ a_LK m0 ch i j ∧ a_LK m0 ch i j ≤ 99 := by
  obtain ⟨h1, h2, h3, h4, h5, h6, h7, h8, h9⟩ := h
  obtain ⟨s, hs, es⟩ := h7 (ch i) (h5 i hi)
  obtain ⟨t, ht, et⟩ := h7 (ch j) (h5 j hj)
  unfold a_LK a_lk
  rw [es, et, nI_clamp (by omega), nI_clamp (by omega)]
  exact h8 s t hs ht
theorem s_likesB {c : Nat → Nat} {m0 m : q_MM} {k : Nat} {ch FE : Nat → Nat} (h : a_bm c m0 k ch FE) (hm : a_pf m0 m) {i j : Nat} (hi : i < k) (hj : j < k) : f_X12_likes m (nI (ch i)) (nI (ch j)) = some (a_lk m0 (ch i) (ch j)) := by
  obtain ⟨h1, h2, h3, h4, h5, h6, h7, h8, h9⟩ := h
  obtain ⟨s, hs, es⟩ := h7 (ch i) (h5 i hi)
  obtain ⟨t, ht, et⟩ := h7 (ch j) (h5 j hj)
  have c1 := h5 i hi
  have c2' := h5 j hj
  unfold f_X12_likes a_lk
  rw [w_ld (by omega) (by decide), w_ld (by omega) (by decide), hm 5032 _ (by decide) (by decide) (by omega), hm 5032 _ (by decide) (by decide) (by omega), es, et, nI_clamp (by omega), nI_clamp (by omega), show (8 : Int32) = nI 8 from rfl, pk_mul, nI_add, w_ld (by omega) (by decide), hm 5059 _ (by decide) (by decide) (by omega)]
/-- fellows beside each other -/
theorem a_abs1 : ∀ a, a < 7 → ∀ b, b < 7 → ((if 0 ≤ (nI a - nI b) then (nI a - nI b) else 0 - (nI a - nI b)) = (1 : Int32) ↔ (a = b + 1 ∨ b = a + 1)) := by decide +kernel
def a_bes (m0 : q_MM) (ch sq : Nat → Nat) (a b : Nat) : Prop := m0 5036 (ch (sq a)) = nI (ch (sq b)) → (a = b + 1 ∨ b = a + 1)
theorem s_bes_in {c : Nat → Nat} {m0 m : q_MM} {k : Nat} {ch FE sq : Nat → Nat} (h : a_bm c m0 k ch FE) (hm : a_pf m0 m) (hs : ∀ j, j < k → sq j < k ∧ m 5061 j = nI (ch (sq j))) {a : Nat} (ha : a < k) {k4 : Int32 → Int32 → Option Int32} : ∀ (d b nf : Nat) (acc : Int32), b + d = k → d < nf → (acc = 0 ∨ acc = 1) → b_X12_areBeside_14 m k4 nf acc (nI a) (nI b) = k4 (a_if (acc = 1 ∧ ∀ b', b ≤ b' → b' < k → a_bes m0 ch sq a b') 1 0) (nI (a + 1))
  | d, b, 0, _, _, h, _ => absurd h (Nat.not_lt_zero _)
  | 0, b, nf + 1, acc, hi, _, hacc => by
    obtain ⟨h1, h2, h3, h4, h5, -⟩ := h
    rw [b_X12_areBeside_14, hm 5001 50 (by decide) (by decide) (by omega), h3, if_pos (nI_le (by omega) (by omega)), nI_1]
    rcases hacc with rfl | rfl
    · rw [a_ifn (fun q => absurd q.1 (by decide))]
    · rw [a_ifp ⟨rfl, fun b' q1 q2 => by omega⟩]
  | d + 1, b, nf + 1, acc, hi, hf, hacc => by
    obtain ⟨h1, h2, h3, h4, h5, -⟩ := id h
    obtain ⟨s1, s2⟩ := hs a ha
    obtain ⟨t1, t2⟩ := hs b (by omega)
    have c1 := h5 _ s1
    have c2' := h5 _ t1
    rw [b_X12_areBeside_14, hm 5001 50 (by decide) (by decide) (by omega), h3, if_neg (nI_ge (by omega) (by omega))]
    unfold b_X12_areBeside_60 b_X12_areBeside_56 b_X12_areBeside_61
    rw [nI_1]
    have bad : (acc = 1 → ¬ a_bes m0 ch sq a b) → b_X12_areBeside_14 m k4 nf 0 (nI a) (nI (b + 1)) = k4 (a_if (acc = 1 ∧ ∀ b', b ≤ b' → b' < k → a_bes m0 ch sq a b') 1 0) (nI (a + 1)) := fun q => by
      rw [s_bes_in h hm hs ha d (b + 1) nf 0 (by omega) (by omega) (Or.inl rfl), a_ifn (fun q2 => absurd q2.1 (by decide)), a_ifn (fun q2 => q q2.1 (q2.2 b (Nat.le_refl b) (by omega)))]
    have good : acc = 1 → a_bes m0 ch sq a b → b_X12_areBeside_14 m k4 nf 1 (nI a) (nI (b + 1)) = k4 (a_if (acc = 1 ∧ ∀ b', b ≤ b' → b' < k → a_bes m0 ch sq a b') 1 0) (nI (a + 1)) := fun e q => by
      rw [s_bes_in h hm hs ha d (b + 1) nf 1 (by omega) (by omega) (Or.inr rfl)]
      congr 1
      apply a_if_iff
      constructor
      · rintro ⟨-, q2⟩
        refine ⟨e, fun b' b1 b2 => ?_⟩
        by_cases eb : b' = b
        · subst eb
          exact q
        · exact q2 b' (by omega) b2
      · exact fun q2 => ⟨rfl, fun b' b1 b2 => q2.2 b' (by omega) b2⟩
    rcases hacc with rfl | rfl
    · rw [if_pos rfl]
      exact bad (fun q => absurd q (by decide))
    · rw [if_neg (show ¬ (1 : Int32) = 0 by decide), w_ld (by omega) (by decide), s2, w_ld (by omega) (by decide), hm 5036 _ (by decide) (by decide) (by omega), w_ld (by omega) (by decide), t2]
      by_cases z : m0 5036 (ch (sq a)) = nI (ch (sq b))
      · rw [if_pos z]
        by_cases z2 : a = b + 1 ∨ b = a + 1
        · rw [if_pos ((a_abs1 a (by omega) b (by omega)).mpr z2)]
          exact good rfl (fun _ => z2)
        · rw [if_neg (fun q => z2 ((a_abs1 a (by omega) b (by omega)).mp q))]
          exact bad (fun _ q => z2 (q z))
      · rw [if_neg z]
        exact good rfl (fun q => absurd q z)
theorem s_bes {c : Nat → Nat} {m0 m : q_MM} {k : Nat} {ch FE sq : Nat → Nat} (h : a_bm c m0 k ch FE) (hm : a_pf m0 m) (hs : ∀ j, j < k → sq j < k ∧ m 5061 j = nI (ch (sq j))) : ∀ (d a nf : Nat) (acc : Int32), a + d = k → d < nf → (acc = 0 ∨ acc = 1) → b_X12_areBeside_4 m nf acc (nI a) = some (a_if (acc = 1 ∧ ∀ a', a ≤ a' → a' < k → ∀ b, b < k → a_bes m0 ch sq a' b) 1 0)
  | d, a, 0, _, _, h, _ => absurd h (Nat.not_lt_zero _)
  | 0, a, nf + 1, acc, hi, _, hacc => by
    obtain ⟨h1, h2, h3, h4, h5, -⟩ := h
    rw [b_X12_areBeside_4, hm 5001 50 (by decide) (by decide) (by omega), h3, if_pos (nI_le (by omega) (by omega))]
    rcases hacc with rfl | rfl
    · rw [w_bl0, a_ifn (fun q => absurd q.1 (by decide))]
    · rw [w_bl1, a_ifp ⟨rfl, fun b' q1 q2 => by omega⟩]
  | d + 1, a, nf + 1, acc, hi, hf, hacc => by
    have hfu := q_fu_le
    obtain ⟨h1, h2, h3, h4, h5, -⟩ := id h
    rw [b_X12_areBeside_4, hm 5001 50 (by decide) (by decide) (by omega), h3, if_neg (nI_ge (by omega) (by omega)), show b_X12_areBeside_14 m (b_X12_areBeside_4 m nf) q_fu acc (nI a) 0 = b_X12_areBeside_14 m (b_X12_areBeside_4 m nf) q_fu acc (nI a) (nI 0) from rfl, s_bes_in h hm hs (show a < k by omega) k 0 q_fu acc (by omega) (by omega) hacc]
    by_cases z : acc = 1 ∧ ∀ b', 0 ≤ b' → b' < k → a_bes m0 ch sq a b'
    · rw [a_ifp z, s_bes h hm hs d (a + 1) nf 1 (by omega) (by omega) (Or.inr rfl)]
      congr 1
      apply a_if_iff
      constructor
      · rintro ⟨-, q2⟩
        refine ⟨z.1, fun a' b1 b2 b b3 => ?_⟩
        by_cases ea : a' = a
        · subst ea
          exact z.2 b (Nat.zero_le b) b3
        · exact q2 a' (by omega) b2 b b3
      · exact fun q2 => ⟨rfl, fun b' b1 b2 => q2.2 b' (by omega) b2⟩
    · rw [a_ifn z, s_bes h hm hs d (a + 1) nf 0 (by omega) (by omega) (Or.inl rfl), a_ifn (fun q => absurd q.1 (by decide)), a_ifn (fun q => z ⟨q.1, fun b' _ hb' => q.2 a (Nat.le_refl a) (by omega) b' hb'⟩)]
/-- a whole row is in order where its fellows are beside each other -/
theorem a_full_sq {k u : Nat} {sq : Nat → Nat} (hs : a_sq k k u sq) {i : Nat} (hi : i < k) : ∃ b, b < k ∧ sq b = i := by
  apply Classical.byContradiction
  intro q
  have := a_pig k (k + 1) (fun j => if j < k then sq j else i) (fun j hj => by
    split
    · rename_i z
      exact hs.1 j z
    · exact hi) (fun a b ha hb e => by
    by_cases z1 : a < k <;> by_cases z2 : b < k
    · rw [if_pos z1, if_pos z2] at e
      exact hs.2.1 a b z1 z2 e
    · rw [if_pos z1, if_neg z2] at e
      exact absurd ⟨a, z1, e⟩ q
    · rw [if_neg z1, if_pos z2] at e
      exact absurd ⟨b, z2, e.symm⟩ q
    · omega)
  omega
theorem a_ok_bes {c : Nat → Nat} {m0 : q_MM} {k u : Nat} {ch FE sq : Nat → Nat} (h : a_bm c m0 k ch FE) (hs : a_sq k k u sq) : a_ok k k FE sq ↔ ∀ a, a < k → ∀ b, b < k → a_bes m0 ch sq a b := by
  obtain ⟨h1, h2, h3, h4, h5, h6, h7, h8, h9, -⟩ := h
  constructor
  · intro q a ha b hb e
    have ef := (h9 (sq a) (sq b) (hs.1 a ha) (hs.1 b hb)).mp e
    rcases q a ha (by rw [ef]; exact hs.1 b hb) with ⟨b', c1, c2, c3⟩ | ⟨-, c2⟩
    · have : b' = b := hs.2.1 b' b c1 hb (c2.trans ef)
      rw [← this]
      exact c3
    · exact absurd ef.symm (c2 b hb)
  · intro q a ha hf
    obtain ⟨b, b1, b2⟩ := a_full_sq hs hf
    exact Or.inl ⟨b, b1, b2, q a ha b b1 ((h9 (sq a) (sq b) (hs.1 a ha) (hs.1 b b1)).mpr b2.symm)⟩
/-- the worth of a row so far -/
def a_wp (LK : Nat → Nat → Int) (sq : Nat → Nat) : Nat → Int
  | 0 => 0
  | n + 1 => a_wp LK sq n + a_LL LK (a_la n sq) (sq n)
theorem a_wp_cong {LK : Nat → Nat → Int} {sq sq' : Nat → Nat} : ∀ {n : Nat}, (∀ j, j < n → sq j = sq' j) → a_wp LK sq n = a_wp LK sq' n
  | 0, _ => rfl
  | n + 1, h => by
    show a_wp LK sq n + _ = a_wp LK sq' n + _
    rw [a_wp_cong (fun j hj => h j (by omega)), h n (by omega)]
    congr 2
    unfold a_la
    split
    · rfl
    · exact h (n - 1) (by omega)
/-- taken, where it is better -/
def a_btr (m : q_MM) (v : Int) : Prop := m 5001 53 = 0 ∨ (m 5001 54).toInt < v
def a_sam (k : Nat) (m m' : q_MM) : Prop := m' 5001 53 = m 5001 53 ∧ m' 5001 54 = m 5001 54 ∧ ∀ j, j < k → m' 5062 j = m 5062 j
def a_st (ch : Nat → Nat) (k : Nat) (m m' : q_MM) (v : Int) (row : Nat → Nat) : Prop := (a_btr m v ∧ m' 5001 53 = 1 ∧ (m' 5001 54).toInt = v ∧ ∀ j, j < k → m' 5062 j = nI (ch (row j))) ∨ (¬ a_btr m v ∧ a_sam k m m')
theorem a_sam.btr {k : Nat} {m m' : q_MM} (h : a_sam k m m') (v : Int) : a_btr m' v ↔ a_btr m v := by
  unfold a_btr
  rw [h.1, h.2.1]
theorem a_sam.trans {k : Nat} {m m' m'' : q_MM} (h : a_sam k m m') (h' : a_sam k m' m'') : a_sam k m m'' := ⟨h'.1.trans h.1, h'.2.1.trans h.2.1, fun j hj => (h'.2.2 j hj).trans (h.2.2 j hj)⟩
theorem a_st.pre {ch : Nat → Nat} {k : Nat} {m m' m'' : q_MM} {v : Int} {row : Nat → Nat} (h : a_sam k m m') (h' : a_st ch k m' m'' v row) : a_st ch k m m'' v row := by
  rcases h' with ⟨h1, h2⟩ | ⟨h1, h2⟩
  · exact Or.inl ⟨(h.btr v).mp h1, h2⟩
  · exact Or.inr ⟨fun q => h1 ((h.btr v).mpr q), h.trans h2⟩
theorem a_st.cong {ch : Nat → Nat} {k : Nat} {m m' : q_MM} {v v' : Int} {row row' : Nat → Nat} (h : a_st ch k m m' v row) (hv : v = v') (hr : ∀ j, j < k → row j = row' j) : a_st ch k m m' v' row' := by
  subst hv
  rcases h with ⟨h1, h2, h3, h4⟩ | h
  · exact Or.inl ⟨h1, h2, h3, fun j hj => by rw [h4 j hj, hr j hj]⟩
  · exact Or.inr h
/-- first one, then another that is worth more -/
theorem a_st.more {ch : Nat → Nat} {k : Nat} {m m' m'' : q_MM} {v v' : Int} {row row' : Nat → Nat} (h : a_st ch k m m' v row) (h' : a_st ch k m' m'' v' row') (l : v < v') : a_st ch k m m'' v' row' := by
  rcases h with ⟨h1, h2, h3, h4⟩ | ⟨h1, h2⟩
  · rcases h' with ⟨g1, g2⟩ | ⟨g1, g2⟩
    · refine Or.inl ⟨?_, g2⟩
      rcases h1 with q | q
      · exact Or.inl q
      · exact Or.inr (by omega)
    · exact absurd (Or.inr (by rw [h3]; exact l)) g1
  · exact a_st.pre h2 h'
theorem a_st.less {ch : Nat → Nat} {k : Nat} {m m' m'' : q_MM} {v v' : Int} {row row' : Nat → Nat} (h : a_st ch k m m' v row) (h' : a_st ch k m' m'' v' row') (l : ¬ v < v') : a_st ch k m m'' v row := by
  rcases h with ⟨h1, h2, h3, h4⟩ | ⟨h1, h2⟩
  · rcases h' with ⟨g1, -⟩ | ⟨-, g2⟩
    · rcases g1 with q | q
      · rw [h2] at q
        exact absurd q (by decide)
      · rw [h3] at q
        exact absurd q l
    · exact Or.inl ⟨h1, g2.1.trans h2, by rw [g2.2.1]; exact h3, fun j hj => (g2.2.2 j hj).trans (h4 j hj)⟩
  · rcases h' with ⟨g1, -⟩ | ⟨-, g2⟩
    · exfalso
      apply h1
      rcases (h2.btr v').mp g1 with q | q
      · exact Or.inl q
      · exact Or.inr (by omega)
    · exact Or.inr ⟨h1, h2.trans g2⟩
/-- a whole row -/
theorem s_copy_loop {c : Nat → Nat} {m0 : q_MM} {k : Nat} {ch FE sq : Nat → Nat} {pm : q_MM → Int32 → Int32 → Option q_MM} (h : a_bm c m0 k ch FE) : ∀ (d t nf : Nat) (m : q_MM), t + d = k → d < nf → a_pf m0 m → (∀ j, j < k → m 5061 j = nI (ch (sq j))) → (∀ j, j < t → m 5062 j = nI (ch (sq j))) → ∃ m', b_X12_permutes_86 pm nf (nI t) m = some m' ∧ a_pf m0 m' ∧ m' 5001 = m 5001 ∧ (∀ j, m' 5061 j = m 5061 j) ∧ ∀ j, j < k → m' 5062 j = nI (ch (sq j))
  | d, t, 0, _, _, h, _, _, _ => absurd h (Nat.not_lt_zero _)
  | 0, t, nf + 1, m, hi, _, hm, h61, hl => by
    have : t = k := by omega
    subst this
    have h1 := h.1
    exact ⟨m, by rw [b_X12_permutes_86, hm 5001 50 (by decide) (by decide) (by omega), h.2.2.1, if_pos (nI_le (by omega) (by omega))], hm, rfl, fun _ => rfl, hl⟩
  | d + 1, t, nf + 1, m, hi, hf, hm, h61, hl => by
    have h1 := h.1
    obtain ⟨m', g1, g2, g3, g4, g5⟩ := s_copy_loop (sq := sq) (pm := pm) h d (t + 1) nf (q_u2 m 5062 t (nI (ch (sq t)))) (by omega) (by omega) hm.u62 (fun j hj => by rw [q_u2_ne (by omega)]; exact h61 j hj) (fun j hj => by
      by_cases e : j = t
      · subst e
        rw [q_u2_eq]
      · rw [q_u2_ne (by omega)]
        exact hl j (by omega))
    refine ⟨m', ?_, g2, ?_, fun j => by rw [g4 j, q_u2_ne (by omega)], g5⟩
    · rw [b_X12_permutes_86, hm 5001 50 (by decide) (by decide) (by omega), h.2.2.1, if_neg (nI_ge (by omega) (by omega)), w_ld (by omega) (by decide), w_as (by omega) (by decide), h61 t (by omega), nI_1]
      exact g1
    · rw [g3]
      funext j
      rw [q_u2_ne (by omega)]
theorem s_leaf {c : Nat → Nat} {m0 : q_MM} {k u : Nat} {ch FE sq : Nat → Nat} {pm : q_MM → Int32 → Int32 → Option q_MM} (h : a_bm c m0 k ch FE) {m : q_MM} (hm : a_pf m0 m) (hs : a_sq k k u sq) (h61 : ∀ j, j < k → m 5061 j = nI (ch (sq j))) : ∀ (d t nf : Nat) (x3 : Int32), t + d = k → d < nf → 1 ≤ t → x3.toInt = a_wp (a_LK m0 ch) sq t → (-(99 * (t : Int)) ≤ x3.toInt ∧ x3.toInt ≤ 99 * t) → ∃ m', b_X12_permutes_13 pm nf x3 (nI t) m = some m' ∧ a_pf m0 m' ∧ (∀ j, j < k → m' 5061 j = nI (ch (sq j))) ∧ (a_ok k k FE sq → a_st ch k m m' (a_wp (a_LK m0 ch) sq k) sq) ∧ (¬ a_ok k k FE sq → a_sam k m m')
  | d, t, 0, _, _, h, _, _, _ => absurd h (Nat.not_lt_zero _)
  | 0, t, nf + 1, x3, hi, _, ht, hx, hr => by
    have hfu := q_fu_le
    have : t = k := by omega
    subst this
    have h1 := h.1
    have same : a_sam t m m := ⟨rfl, rfl, fun _ _ => rfl⟩
    rw [b_X12_permutes_13, hm 5001 50 (by decide) (by decide) (by omega), h.2.2.1, if_pos (nI_le (by omega) (by omega))]
    unfold f_X12_areBeside
    rw [show (0 : Int32) = nI 0 from rfl, s_bes h hm (fun j hj => ⟨hs.1 j hj, h61 j hj⟩) t 0 q_fu 1 (by omega) (by omega) (Or.inr rfl), Option.bind_some, show nI 0 = (0 : Int32) from rfl]
    by_cases z : a_ok t t FE sq
    · have z' := (a_ok_bes h hs).mp z
      rw [a_ifp ⟨rfl, fun a' _ q b hb => z' a' q b hb⟩, if_neg (show ¬ (1 : Int32) = 0 by decide)]
      unfold b_X12_permutes_73
      simp only [w_bl1, w_let]
      have take : a_btr m (a_wp (a_LK m0 ch) sq t) → ∃ m', b_X12_permutes_86 pm q_fu 0 (q_u2 (q_u2 m 5001 53 1) 5001 54 x3) = some m' ∧ a_pf m0 m' ∧ (∀ j, j < t → m' 5061 j = nI (ch (sq j))) ∧ (a_ok t t FE sq → a_st ch t m m' (a_wp (a_LK m0 ch) sq t) sq) ∧ (¬ a_ok t t FE sq → a_sam t m m') := fun hb => by
        obtain ⟨m', g1, g2, g3, g4, g5⟩ := s_copy_loop (sq := sq) (pm := pm) h t 0 q_fu (q_u2 (q_u2 m 5001 53 1) 5001 54 x3) (by omega) (by omega) ((hm.u53 (Or.inl rfl)).u53 (Or.inr rfl)) (fun j hj => by rw [q_u2_ne (by omega), q_u2_ne (by omega)]; exact h61 j hj) (fun j hj => absurd hj (Nat.not_lt_zero _))
        refine ⟨m', g1, g2, fun j hj => by rw [g4 j, q_u2_ne (by omega), q_u2_ne (by omega)]; exact h61 j hj, fun _ => Or.inl ⟨hb, ?_, ?_, g5⟩, fun q => absurd z q⟩
        · rw [g3, q_u2_ne (by omega), q_u2_eq]
        · rw [g3, q_u2_eq]
          exact hx
      by_cases z1 : m 5001 53 = 0
      · rw [if_pos z1]
        exact take (Or.inl z1)
      · rw [if_neg z1]
        by_cases z2 : x3 ≤ m 5001 54
        · rw [if_pos z2]
          rw [i_le, hx] at z2
          exact ⟨m, rfl, hm, h61, fun _ => Or.inr ⟨fun q => by
            rcases q with q | q
            · exact z1 q
            · omega, same⟩, fun q => absurd z q⟩
        · rw [if_neg z2]
          rw [i_le, hx] at z2
          exact take (Or.inr (by omega))
    · rw [a_ifn (fun q => z ((a_ok_bes h hs).mpr (fun a ha b hb => q.2 a (Nat.zero_le a) ha b hb))), if_pos rfl]
      exact ⟨m, rfl, hm, h61, fun q => absurd q z, fun _ => same⟩
  | d + 1, t, nf + 1, x3, hi, hf, ht, hx, hr => by
    have h1 := h.1
    have s1 := hs.1 (t - 1) (by omega)
    have s2 := hs.1 t (by omega)
    have rg := a_LK_rg h s1 s2
    have ea : (x3 + a_lk m0 (ch (sq (t - 1))) (ch (sq t))).toInt = x3.toInt + a_LK m0 ch (sq (t - 1)) (sq t) := by
      unfold a_LK at *
      exact fb_addI (by omega) (by omega)
    rw [b_X12_permutes_13, hm 5001 50 (by decide) (by decide) (by omega), h.2.2.1, if_neg (nI_ge (by omega) (by omega)), show nI t - 1 = nI (t - 1) from by rw [show (1 : Int32) = nI 1 from rfl, pk_sub ht], w_ld (by omega) (by decide), w_ld (by omega) (by decide), h61 (t - 1) (by omega), h61 t (by omega), s_likesB h hm s1 s2, Option.bind_some, w_let, nI_1]
    refine s_leaf h hm hs h61 d (t + 1) nf _ (by omega) (by omega) (by omega) ?_ (by rw [ea]; omega)
    rw [ea, hx]
    show _ = a_wp (a_LK m0 ch) sq t + a_LL (a_LK m0 ch) (a_la t sq) (sq t)
    unfold a_LL a_la
    rw [if_neg (show ¬ t = 0 by omega), if_neg (by omega)]
