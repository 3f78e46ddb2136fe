/-! best: all orders of what is left -/
def a_xq (n i : Nat) (sq : Nat → Nat) : Nat → Nat := fun j => if j = n then i else sq j
theorem a_xqn {n i : Nat} {sq : Nat → Nat} : a_xq n i sq n = i := if_pos rfl
theorem a_xqo {n i j : Nat} {sq : Nat → Nat} (h : j ≠ n) : a_xq n i sq j = sq j := if_neg h
theorem a_sq.step {k n u i : Nat} {sq : Nat → Nat} (h : a_sq k n u sq) (hi : i < k) (hu : u.testBit i = false) : a_sq k (n + 1) (u ||| 2 ^ i) (a_xq n i sq) := by
  obtain ⟨h1, h2, h3⟩ := h
  have nu : ∀ b, b < n → sq b ≠ i := fun b hb e => by
    rw [(h3 i hi).mpr ⟨b, hb, e⟩] at hu
    cases hu
  refine ⟨fun b hb => ?_, fun a b ha hb e => ?_, fun x hx => ?_⟩
  · by_cases z : b = n
    · rw [z, a_xqn]; exact hi
    · rw [a_xqo z]; exact h1 b (by omega)
  · by_cases z1 : a = n <;> by_cases z2 : b = n
    · omega
    · rw [z1, a_xqn, a_xqo z2] at e
      exact absurd e.symm (nu b (by omega))
    · rw [z2, a_xqn, a_xqo z1] at e
      exact absurd e (nu a (by omega))
    · rw [a_xqo z1, a_xqo z2] at e
      exact h2 a b (by omega) (by omega) e
  · rw [a_or2, Bool.or_eq_true, decide_eq_true_iff]
    constructor
    · rintro (q | q)
      · obtain ⟨b, b1, b2⟩ := (h3 x hx).mp q
        exact ⟨b, by omega, by rw [a_xqo (by omega)]; exact b2⟩
      · exact ⟨n, by omega, by rw [a_xqn]; exact q⟩
    · rintro ⟨b, b1, b2⟩
      by_cases z : b = n
      · rw [z, a_xqn] at b2
        exact Or.inr b2
      · rw [a_xqo z] at b2
        exact Or.inl ((h3 x hx).mpr ⟨b, by omega, b2⟩)
theorem a_ok_cong {k n : Nat} {FE sq sq' : Nat → Nat} (h : ∀ j, j < n → sq j = sq' j) (q : a_ok k n FE sq) : a_ok k n FE sq' := fun a ha hf => by
  rw [← h a ha] at hf ⊢
  rcases q a ha hf with ⟨b, b1, b2, b3⟩ | ⟨e, q2⟩
  · exact Or.inl ⟨b, b1, by rw [← h b b1]; exact b2, b3⟩
  · exact Or.inr ⟨e, fun b hb => by rw [← h b hb]; exact q2 b hb⟩
/-- the state of the search, choices below i looked at -/
noncomputable def a_rw (k : Nat) (LK : Nat → Nat → Int) (FE sq : Nat → Nat) (n u nx : Nat) : Nat → Nat := fun j => if j < n then sq j else if j = n then nx else a_bG k LK FE (u ||| 2 ^ nx) nx (j - (n + 1))
def a_pst (k : Nat) (LK : Nat → Nat → Int) (ch FE sq : Nat → Nat) (n u : Nat) (m0 mi : q_MM) (i : Nat) (m : q_MM) : Prop := a_pf m0 m ∧ (∀ j, j < n → m 5061 j = nI (ch (sq j))) ∧ (a_ok k n FE sq → ((a_bx (a_al k FE u (a_la n sq)) (a_bF k LK FE u (a_la n sq)) i).1 = 100 ∧ a_sam k mi m) ∨ ((a_bx (a_al k FE u (a_la n sq)) (a_bF k LK FE u (a_la n sq)) i).1 ≠ 100 ∧ a_st ch k mi m (a_wp LK sq n + (a_bx (a_al k FE u (a_la n sq)) (a_bF k LK FE u (a_la n sq)) i).2) (a_rw k LK FE sq n u (a_bx (a_al k FE u (a_la n sq)) (a_bF k LK FE u (a_la n sq)) i).1))) ∧ (¬ a_ok k n FE sq → a_sam k mi m)
theorem a_pst.skip {k : Nat} {LK : Nat → Nat → Int} {ch FE sq : Nat → Nat} {n u i : Nat} {m0 mi m : q_MM} (h : a_pst k LK ch FE sq n u m0 mi i m) (hn : ¬ a_al k FE u (a_la n sq) i) : a_pst k LK ch FE sq n u m0 mi (i + 1) m := by
  unfold a_pst at *
  rw [a_bx_s, a_ifn (fun q => hn q.1)]
  exact h
def a_lf2 (k : Nat) (ch : Nat → Nat) (u : Nat) (left : Int32) : Prop := ∀ p, p < 24 → (bt left p = true ↔ ∃ i, i < k ∧ ch i = p ∧ u.testBit i = false)
def a_pq (c : Nat → Nat) (m0 : q_MM) (k : Nat) (ch FE : Nat → Nat) (n u q : Nat) (sq : Nat → Nat) : Prop := ∀ (left : Int32) (m : q_MM), a_pf m0 m → a_sq k n u sq → (∀ j, j < n → m 5061 j = nI (ch (sq j))) → a_lf2 k ch u left → ∃ m', q_perm q m (nI n) left = some m' ∧ a_pf m0 m' ∧ (∀ j, j < n → m' 5061 j = nI (ch (sq j))) ∧ (a_ok k n FE sq → a_st ch k m m' (a_wp (a_LK m0 ch) sq n + a_bW k (a_LK m0 ch) FE u (a_la n sq)) (fun j => if j < n then sq j else a_bG k (a_LK m0 ch) FE u (a_la n sq) (j - n))) ∧ (¬ a_ok k n FE sq → a_sam k m m')
theorem s_perm_loop {c : Nat → Nat} {m0 : q_MM} {k n u q : Nat} {ch FE sq : Nat → Nat} (h : a_bm c m0 k ch FE) (hn : n < k) (hs : a_sq k n u sq) (ih : ∀ i, i < k → u.testBit i = false → a_pq c m0 k ch FE (n + 1) (u ||| 2 ^ i) q (a_xq n i sq)) {left : Int32} (hl : a_lf2 k ch u left) (mi : q_MM) : ∀ (d p i nf : Nat) (m : q_MM), p + d = c 2 → d < nf → (∀ j, j < i → ch j < p) → (∀ j, i ≤ j → j < k → p ≤ ch j) → i ≤ k → a_pst k (a_LK m0 ch) ch FE sq n u m0 mi i m → ∃ m', b_X12_permutes_118 (q_perm q) nf (nI n) left (nI p) m = some m' ∧ a_pst k (a_LK m0 ch) ch FE sq n u m0 mi k m'
  | d, p, i, 0, _, _, h, _, _, _, _ => absurd h (Nat.not_lt_zero _)
  | 0, p, i, nf + 1, m, hi, _, hlo, hhi, hik, hps => by
    have hC2 := h.2.1
    have : i = k := by
      apply Classical.byContradiction
      intro z
      have := hhi i (Nat.le_refl i) (by omega)
      have := h.2.2.2.2.1 i (by omega)
      omega
    subst this
    exact ⟨m, by rw [b_X12_permutes_118, hps.1 5001 18 (by decide) (by decide) (by omega), h.2.2.2.1, if_pos (nI_le (by omega) (by omega))], hps⟩
  | d + 1, p, i, nf + 1, m, hi, hf, hlo, hhi, hik, hps => by
    have hk7 := h.1
    have hC2 := h.2.1
    have hch := h.2.2.2.2.1
    have hmono := h.2.2.2.2.2.1
    rw [b_X12_permutes_118, hps.1 5001 18 (by decide) (by decide) (by omega), h.2.2.2.1, if_neg (nI_ge (by omega) (by omega))]
    unfold b_X12_permutes_156
    rw [nI_1 p]
    by_cases z : i < k ∧ ch i = p
    · -- the i-th chosen one
      obtain ⟨zi, zp⟩ := z
      have nlo : ∀ j, j < i + 1 → ch j < p + 1 := fun j hj => by
        by_cases e : j = i
        · rw [e, zp]; omega
        · have := hlo j (by omega); omega
      have nhi : ∀ j, i + 1 ≤ j → j < k → p + 1 ≤ ch j := fun j h1 h2 => by
        have := hmono i j (by omega) h2
        omega
      have hbit : bt left p = true ↔ u.testBit i = false := by
        rw [hl p (by omega)]
        constructor
        · rintro ⟨j, j1, j2, j3⟩
          have : j = i := by
            rcases Nat.lt_trichotomy j i with q | q | q
            · have := hlo j q; omega
            · exact q
            · have := hmono i j q j1; omega
          rw [← this]; exact j3
        · exact fun q => ⟨i, zi, zp, q⟩
      cases zu : u.testBit i
      · have zb : bt left p = true := hbit.mpr zu
        have hs' := hs.step zi zu
        have h17 : a_pf m0 (q_u2 m 5061 n (nI p)) := hps.1.u61
        obtain ⟨m', g1, g2, g3, g4, g5⟩ := ih i zi zu (left &&& (((1 : Int32) <<< (nI p &&& 31)) ^^^ (-1))) (q_u2 m 5061 n (nI p)) h17 hs' (fun j hj => by
          by_cases e : j = n
          · subst e
            rw [q_u2_eq, a_xqn, zp]
          · rw [q_u2_ne (by omega), a_xqo e]
            exact hps.2.1 j (by omega)) (fun x hx => by
          rw [b_and, b_xor, b_one p (by omega) x (by omega), b_m1 x (by omega), Bool.and_eq_true, Bool.xor_true]
          have := hl x hx
          constructor
          · rintro ⟨q1, q2⟩
            obtain ⟨j, j1, j2, j3⟩ := this.mp q1
            refine ⟨j, j1, j2, ?_⟩
            rw [a_or2, j3, Bool.false_or]
            refine decide_eq_false (fun e => ?_)
            subst e
            rw [← j2, zp] at q2
            simp at q2
          · rintro ⟨j, j1, j2, j3⟩
            rw [a_or2, Bool.or_eq_false_iff] at j3
            refine ⟨this.mpr ⟨j, j1, j2, j3.1⟩, ?_⟩
            have ne : j ≠ i := fun e => by
              have := of_decide_eq_false j3.2
              exact this e.symm
            have : x ≠ p := fun e => by
              rcases Nat.lt_or_gt_of_ne ne with q | q
              · have := hmono j i q zi; omega
              · have := hmono i j q j1; omega
            simp [this])
        have ext : ∀ j, j < n → sq j = a_xq n i sq j := fun j hj => (a_xqo (by omega)).symm
        have la' : a_la (n + 1) (a_xq n i sq) = i := by
          unfold a_la
          rw [if_neg (by omega), Nat.add_sub_cancel, a_xqn]
        have same0 : a_sam k m (q_u2 m 5061 n (nI p)) := ⟨q_u2_ne (by omega), q_u2_ne (by omega), fun j _ => q_u2_ne (by omega)⟩
        have keep61 : ∀ j, j < n → m' 5061 j = nI (ch (sq j)) := fun j hj => by
          have := g3 j (by omega)
          rwa [a_xqo (by omega)] at this
        rw [if_pos ((b_sh1' _ (by omega)).mpr zb), w_as (by omega) (by decide), nI_1 n, g1, Option.bind_some]
        refine s_perm_loop h hn hs ih hl mi d (p + 1) (i + 1) nf m' (by omega) (by omega) nlo nhi (by omega) ⟨g2, keep61, fun hok => ?_, fun hok => ?_⟩
        · -- in order so far
          have hokc : a_ok k n FE (a_xq n i sq) := a_ok_cong ext hok
          have stp : a_ok k (n + 1) FE (a_xq n i sq) ↔ a_al k FE u (a_la n sq) i := by
            have hsq : a_sq k n u (a_xq n i sq) := by
              refine ⟨fun b hb => ?_, fun a b ha hb e => ?_, fun x hx => ?_⟩
              · rw [← ext b hb]; exact hs.1 b hb
              · rw [← ext a ha, ← ext b hb] at e; exact hs.2.1 a b ha hb e
              · rw [hs.2.2 x hx]
                constructor
                · rintro ⟨b, b1, b2⟩
                  exact ⟨b, b1, by rw [← ext b b1]; exact b2⟩
                · rintro ⟨b, b1, b2⟩
                  exact ⟨b, b1, by rw [ext b b1]; exact b2⟩
            have ela : a_la n (a_xq n i sq) = a_la n sq := by
              unfold a_la
              split
              · rfl
              · rw [← ext (n - 1) (by omega)]
            have := a_ok.step hsq hokc (by omega) h.2.2.2.2.2.2.2.2.2.1 h.2.2.2.2.2.2.2.2.2.2 zi zu a_xqn
            rw [ela] at this
            exact this
          by_cases zal : a_al k FE u (a_la n sq) i
          · have g := g4 (stp.mpr zal)
            have ev : a_wp (a_LK m0 ch) (a_xq n i sq) (n + 1) + a_bW k (a_LK m0 ch) FE (u ||| 2 ^ i) (a_la (n + 1) (a_xq n i sq)) = a_wp (a_LK m0 ch) sq n + a_bF k (a_LK m0 ch) FE u (a_la n sq) i := by
              rw [la']
              show a_wp (a_LK m0 ch) (a_xq n i sq) n + a_LL (a_LK m0 ch) (a_la n (a_xq n i sq)) (a_xq n i sq n) + _ = _
              have ela : a_la n (a_xq n i sq) = a_la n sq := by
                unfold a_la
                split
                · rfl
                · rw [← ext (n - 1) (by omega)]
              rw [← a_wp_cong ext, ela, a_xqn]
              unfold a_bF
              omega
            have g' : a_st ch k m m' (a_wp (a_LK m0 ch) sq n + a_bF k (a_LK m0 ch) FE u (a_la n sq) i) (a_rw k (a_LK m0 ch) FE sq n u i) := a_st.cong (a_st.pre same0 g) ev (fun j hj => by
              rw [la']
              unfold a_rw
              by_cases q1 : j < n
              · rw [if_pos (by omega), a_xqo (by omega), if_pos q1]
              · rw [if_neg q1]
                by_cases q2 : j = n
                · rw [if_pos (by omega), q2, a_xqn, if_pos rfl]
                · rw [if_neg (by omega), if_neg q2])
            rw [a_bx_s]
            rcases hps.2.2.1 hok with ⟨e, hsm⟩ | ⟨e, hst⟩
            · rw [a_ifp ⟨zal, Or.inl e⟩]
              exact Or.inr ⟨by dsimp only; omega, a_st.pre hsm g'⟩
            · by_cases lt : (a_bx (a_al k FE u (a_la n sq)) (a_bF k (a_LK m0 ch) FE u (a_la n sq)) i).2 < a_bF k (a_LK m0 ch) FE u (a_la n sq) i
              · rw [a_ifp ⟨zal, Or.inr lt⟩]
                exact Or.inr ⟨by dsimp only; omega, a_st.more hst g' (by omega)⟩
              · rw [a_ifn (fun q => q.2.elim e lt)]
                exact Or.inr ⟨e, a_st.less hst g' (by omega)⟩
          · have g := g5 (fun q => zal (stp.mp q))
            rw [a_bx_s, a_ifn (fun q => zal q.1)]
            rcases hps.2.2.1 hok with ⟨e, hsm⟩ | ⟨e, hst⟩
            · exact Or.inl ⟨e, hsm.trans (same0.trans g)⟩
            · refine Or.inr ⟨e, ?_⟩
              have sm := same0.trans g
              rcases hst with ⟨t1, t2, t3, t4⟩ | ⟨t1, t2⟩
              · exact Or.inl ⟨t1, sm.1.trans t2, by rw [sm.2.1]; exact t3, fun j hj => (sm.2.2 j hj).trans (t4 j hj)⟩
              · exact Or.inr ⟨t1, t2.trans sm⟩
        · have g := g5 (fun q => hok (a_ok_cong (fun j hj => (ext j hj).symm) (a_ok.less hs' q)))
          exact (hps.2.2.2 hok).trans (same0.trans g)
      · have zb : ¬ bt left p = true := fun q => by
          have := hbit.mp q
          rw [zu] at this
          cases this
        rw [if_neg (fun q => zb ((b_sh1' _ (by omega)).mp q))]
        exact s_perm_loop h hn hs ih hl mi d (p + 1) (i + 1) nf m (by omega) (by omega) nlo nhi (by omega) (hps.skip (fun q => by
          have := q.1
          rw [zu] at this
          cases this))
    · have zb : ¬ bt left p = true := fun q => by
        obtain ⟨j, j1, j2, j3⟩ := (hl p (by omega)).mp q
        rcases Nat.lt_trichotomy j i with q | q | q
        · have := hlo j q; omega
        · exact z ⟨by omega, by rw [← q]; exact j2⟩
        · have := hhi i (Nat.le_refl i) (by omega)
          have := hmono i j q j1
          omega
      rw [if_neg (fun q => zb ((b_sh1' _ (by omega)).mp q))]
      exact s_perm_loop h hn hs ih hl mi d (p + 1) i nf m (by omega) (by omega) (fun j hj => by have := hlo j hj; omega) (fun j h1 h2 => by
        have g1 := hhi j h1 h2
        by_cases e : ch j = p
        · exfalso
          by_cases e2 : j = i
          · exact z ⟨by omega, by rw [← e2]; exact e⟩
          · have := hhi i (Nat.le_refl i) (by omega)
            have := hmono i j (by omega) h2
            omega
        · omega) hik hps
theorem s_perm {c : Nat → Nat} {m0 : q_MM} {k : Nat} {ch FE : Nat → Nat} (h : a_bm c m0 k ch FE) (k1 : 1 ≤ k) : ∀ (d n u q : Nat) (sq : Nat → Nat), n + d = k → d < q → a_pq c m0 k ch FE n u q sq
  | d, n, u, 0, _, _, h => absurd h (Nat.not_lt_zero _)
  | 0, n, u, q + 1, sq, hd, _ => by
    intro left m hm hs h61 hl
    have hfu := q_fu_le
    have hk7 := h.1
    have : n = k := by omega
    subst this
    show ∃ m', f_X12_permutes (q_perm q) m (nI n) left = some m' ∧ _
    unfold f_X12_permutes
    rw [hm 5001 50 (by decide) (by decide) (by omega), h.2.2.1, if_pos rfl, show (1 : Int32) = nI 1 from rfl]
    obtain ⟨m', g1, g2, g3, g4, g5⟩ := s_leaf (pm := q_perm q) h hm hs h61 (n - 1) 1 q_fu 0 (by omega) (by omega) (Nat.le_refl 1) (by
      show (0 : Int32).toInt = 0 + a_LL _ (a_la 0 sq) (sq 0)
      rfl) (by show -(99 * (1 : Int)) ≤ 0 ∧ (0 : Int) ≤ 99 * 1; omega)
    refine ⟨m', g1, g2, g3, fun hok => ?_, g5⟩
    have full : ∀ j, j < n → u.testBit j = true := fun j hj => (hs.2.2 j hj).mpr (a_full_sq hs hj)
    have e0 : a_bW n (a_LK m0 ch) FE u (a_la n sq) = 0 := by
      rcases a_bW_nq (LK := a_LK m0 ch) (FE := FE) (show n < 100 by omega) u (a_la n sq) with ⟨-, e, -⟩ | ⟨z1, z2, -⟩
      · exact e
      · have := z2.1
        rw [full _ z1] at this
        cases this
    refine a_st.cong (g4 hok) (by rw [e0]; omega) (fun j hj => ?_)
    rw [if_pos hj]
  | d + 1, n, u, q + 1, sq, hd, hq => by
    intro left m hm hs h61 hl
    have hfu := q_fu_le
    have hk7 := h.1
    have hC2 := h.2.1
    have hn : n < k := by omega
    show ∃ m', f_X12_permutes (q_perm q) m (nI n) left = some m' ∧ _
    unfold f_X12_permutes
    rw [hm 5001 50 (by decide) (by decide) (by omega), h.2.2.1, if_neg (fun e => by have := nI_inj (by omega) (by omega) e; omega), show (0 : Int32) = nI 0 from rfl]
    obtain ⟨m', g1, g2, g3, g4, g5⟩ := s_perm_loop h hn hs (fun i hi hu => s_perm h k1 d (n + 1) (u ||| 2 ^ i) q _ (by omega) (by omega)) hl m (c 2) 0 0 q_fu m (by omega) (by omega) (fun j hj => absurd hj (Nat.not_lt_zero _)) (fun j _ _ => Nat.zero_le _) (Nat.zero_le k) ⟨hm, h61, fun _ => Or.inl ⟨rfl, rfl, rfl, fun _ _ => rfl⟩, fun _ => ⟨rfl, rfl, fun _ _ => rfl⟩⟩
    refine ⟨m', g1, g2, g3, fun hok => ?_, g5⟩
    -- some are left
    have left1 : ∃ j, j < k ∧ u.testBit j = false := by
      apply Classical.byContradiction
      intro z
      have us : ∀ i, i < k → ∃ b, b < n ∧ sq b = i := fun i hi => (hs.2.2 i hi).mp (by
        cases e : u.testBit i
        · exact absurd ⟨i, hi, e⟩ z
        · rfl)
      have hex : ∀ i, ∃ b, i < k → b < n ∧ sq b = i := fun i => by
        by_cases hi : i < k
        · obtain ⟨b, b1⟩ := us i hi
          exact ⟨b, fun _ => b1⟩
        · exact ⟨0, fun q => absurd q hi⟩
      have spec := fun i => Classical.choose_spec (hex i)
      have := a_pig n k (fun i => Classical.choose (hex i)) (fun i hi => (spec i hi).1) (fun i j hi hj e => by
        rw [← (spec i hi).2, ← (spec j hj).2]
        exact congrArg sq e)
      omega
    have go := a_nq_go (LK := a_LK m0 ch) (FE := FE) (l := a_la n sq) (show k < 100 by omega) left1
    have enx : (a_bx (a_al k FE u (a_la n sq)) (a_bF k (a_LK m0 ch) FE u (a_la n sq)) k).1 = a_nq k (a_LK m0 ch) FE u (a_la n sq) := rfl
    rcases g4 hok with ⟨e, -⟩ | ⟨-, g⟩
    · rw [enx] at e
      omega
    · refine a_st.cong g (by rw [a_bW_eq (by omega)]) (fun j hj => ?_)
      rw [enx]
      unfold a_rw
      by_cases q1 : j < n
      · rw [if_pos q1, if_pos q1]
      · rw [if_neg q1, if_neg q1]
        by_cases q2 : j = n
        · rw [if_pos q2, show j - n = 0 by omega]
          rfl
        · rw [if_neg q2, show j - n = (j - (n + 1)) + 1 by omega]
          rfl
