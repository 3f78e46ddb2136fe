/-! best: the call -/
theorem a_pow24 : ∀ k, k ≤ 24 → (1 : Int32) <<< (nI k &&& 31) = nI (2 ^ k) := by decide +kernel
theorem a_gd_iff {c n : Nat → Nat} {m M : q_MM} (h : a_X c n m M) {bits : Int32} : a_gd c m bits ↔ (a_rg bits 1 ((2 ^ c 2 - 1 : Nat) : Int) ∧ fb_ct (bt bits) 32 ≤ 7 ∧ ∀ p, p < c 2 → bt bits p = true → a_here c m (nI p)) := by
  have hC2 := h.C.2.2.1
  have pw : 2 ^ c 2 ≤ 2 ^ 24 := Nat.pow_le_pow_right (by decide) hC2
  have pw0 : 0 < 2 ^ c 2 := Nat.two_pow_pos _
  constructor
  · rintro ⟨h1, h2, h3⟩
    refine ⟨?_, h2, fun p hp hb => h3 p (by omega) hb⟩
    have hB : bits = nI (a_D 1 (fun j => (bt bits j).toNat) (c 2)) := b_ext fun i hi => by
      rw [b_nI hi]
      have := a_D_bit (s := 1) (f := fun j => (bt bits j).toNat) (fun j => by cases bt bits j <;> decide) (i := 0) (by decide) (c 2) i
      rw [Nat.one_mul, Nat.add_zero] at this
      rw [this]
      cases z : bt bits i
      · rw [show (false.toNat).testBit 0 = false from rfl, Bool.and_false]
      · obtain ⟨p, hp, e, -⟩ := h3 i hi z
        have : i = p := nI_inj (by omega) (by omega) e
        rw [decide_eq_true (show i < c 2 by omega)]
        rfl
    have lt := a_D_lt (s := 1) (f := fun j => (bt bits j).toNat) (fun j => by cases bt bits j <;> decide) (c 2)
    rw [Nat.one_mul] at lt
    generalize a_D 1 (fun j => (bt bits j).toNat) (c 2) = B at hB lt
    have B0 : B ≠ 0 := fun e => h1 (by rw [hB, e]; rfl)
    unfold a_rg
    rw [hB, nI_toInt (by omega)]
    omega
  · rintro ⟨h1, h2, h3⟩
    unfold a_rg at h1
    obtain ⟨B, hB, e⟩ := nI_of (x := bits) (by rw [i_lt]; show ¬ bits.toInt < 0; omega)
    subst e
    rw [nI_toInt hB] at h1
    refine ⟨fun e => ?_, h2, fun p hp hb => ?_⟩
    · have := nI_inj (i := B) (j := 0) hB (by decide) e
      omega
    · by_cases z : p < c 2
      · exact h3 p z hb
      · rw [b_nI hp] at hb
        have p2 : 2 ^ c 2 ≤ 2 ^ p := Nat.pow_le_pow_right (by decide) (by omega)
        rw [Nat.testBit_lt_two_pow (show B < 2 ^ p by omega)] at hb
        cases hb
/-- where best throws, in the class -/
def a_bth (c : Nat → Nat) (M : q_MM) (a1 a2 : Int32) (M' : q_MM) : Prop := (f_X2_wallAt c M a1 = some 0 ∧ M' = M) ∨ ∃ w, w ≠ 0 ∧ f_X2_wallAt c M a1 = some w ∧ (f_X6_choose c M a2 = some (0, M') ∨ (f_X6_choose c M a2 = some (1, M') ∧ f_X6_goOn c M' w = some 0))
theorem s_here_loop {c n : Nat → Nat} {m M : q_MM} (h : a_X c n m M) {bits x1 : Int32} : ∀ (d p nf : Nat), p + d = c 2 → d < nf → (∀ q, q < p → bt bits q = true → a_here c m (nI q)) → b_X12_best_47 nf x1 bits (nI p) m = (if a_if (∀ q, q < c 2 → bt bits q = true → a_here c m (nI q)) (1 : Int32) 0 = 0 then some (0, q_u2 m 5001 0 1) else (f_J6_bitCount_0f7a4 qTM qLM qPM m bits).bind fun r27 => q_let (q_u2 m 5001 50 r27) fun M28 => q_bl 0 <| q_let (q_u2 M28 5001 53 0) fun M29 => (f_X12_canBe M29 x1 bits).bind fun r30 => if r30 = 0 then b_X12_best_111 x1 M29 else (q_perm 10 M29 0 bits).bind fun r32 => b_X12_best_111 x1 r32)
  | d, p, 0, _, h, _ => absurd h (Nat.not_lt_zero _)
  | 0, p, nf + 1, hi, _, hl => by
    have hC2 := h.C.2.2.1
    have : p = c 2 := by omega
    subst this
    rw [b_X12_best_47, h.Y.N, if_pos (nI_le (by omega) (by omega)), a_ifp hl, if_neg (show ¬ (1 : Int32) = 0 by decide)]
  | d + 1, p, nf + 1, hi, hf, hl => by
    have hC2 := h.C.2.2.1
    rw [b_X12_best_47, h.Y.N, if_neg (nI_ge (by omega) (by omega))]
    unfold b_X12_best_77
    rw [nI_1]
    cases z : bt bits p
    · rw [if_neg (fun q => by rw [(b_sh1' _ (by omega)).mp q] at z; cases z)]
      exact s_here_loop h d (p + 1) nf (by omega) (by omega) (fun q hq hb => by
        by_cases e : q = p
        · rw [e, z] at hb
          cases hb
        · exact hl q (by omega) hb)
    · rw [if_pos ((b_sh1' _ (by omega)).mpr z)]
      by_cases z2 : a_here c m (nI p)
      · obtain ⟨p', hp', e, hs⟩ := id z2
        have : p' = p := nI_inj (by omega) (by omega) e.symm
        subst this
        rw [h.isHere1 hp' hs, Option.bind_some, if_neg (show ¬ (1 : Int32) = 0 by decide)]
        exact s_here_loop h d (p' + 1) nf (by omega) (by omega) (fun q hq hb => by
          by_cases e : q = p'
          · rw [e]; exact z2
          · exact hl q (by omega) hb)
      · rw [h.isHere0 z2, Option.bind_some, if_pos rfl, s_refuse, Option.bind_some, a_ifn (fun q => z2 (q p (by omega) z)), if_pos rfl]
/-- the model lays the row -/
theorem s_140_loop {m : q_MM} {k w g : Nat} {ch G wd : Nat → Nat} {Lw ln : Nat} (hk : k ≤ 7) (e50 : m 5001 50 = nI k) (h62 : ∀ j, j < k → m 5062 j = nI (ch (G j)) ∧ ch (G j) < 24) (hwd : ∀ j, j < k → m 5029 (ch (G j)) = nI (wd (ch (G j)))) (hw : w < 16) (eL : m 5021 w = nI Lw) (hL : Lw ≤ 3000) (eln : g * (k - 1) + fb_sm (fun j => wd (ch (G j))) k = ln) (hln : ln ≤ Lw) : ∀ (d t nf : Nat), t + d = k → d < nf → b_X12_best_140 nf (nI w) (nI (g * (k - 1) + fb_sm (fun j => wd (ch (G j))) t)) (nI t) m = b_X12_best_208 q_fu (nI ((Lw - ln) / 2)) 0 (q_u2 (q_u2 (q_u2 (q_u2 m 5001 1 0) 5001 55 (nI k)) 5001 56 (nI w)) 5001 57 1)
  | d, t, 0, _, h => absurd h (Nat.not_lt_zero _)
  | 0, t, nf + 1, hi, _ => by
    have : t = k := by omega
    subst this
    rw [b_X12_best_140, e50, if_pos (nI_le (by omega) (by omega)), w_ld hw (by decide), eL, if_neg (show ¬ (2 : Int32) = 0 by decide), eln, pk_sub hln, show (2 : Int32) = nI 2 from rfl, pk_div (by omega) (by decide) (by decide)]
    simp only [w_let, w_bl1]
    rw [q_u2_ne (M := m) (by omega), e50]
  | d + 1, t, nf + 1, hi, hf => by
    obtain ⟨g1, g2⟩ := h62 t (by omega)
    rw [b_X12_best_140, e50, if_neg (nI_ge (by omega) (by omega)), w_ld (by omega) (by decide), g1, w_ld g2 (by decide), hwd t (by omega), w_let, nI_add, nI_1, Nat.add_assoc, ← fb_sm_succ (fun j => wd (ch (G j)))]
    exact s_140_loop hk e50 h62 hwd hw eL hL eln hln d (t + 1) nf (by omega) (by omega)
def a_f208 (m m' : q_MM) : Prop := ∀ o x, o ≠ 5012 → o ≠ 5068 → o ≠ 5069 → ¬ (o = 5001 ∧ x = 1) → m' o x = m o x
theorem s_208_loop {m0 : q_MM} {k v g : Nat} {ch G wd : Nat → Nat} (hk : k ≤ 7) (e50 : m0 5001 50 = nI k) (h62 : ∀ j, j < k → m0 5062 j = nI (ch (G j)) ∧ ch (G j) < 24) (hwd : ∀ j, j < k → m0 5029 (ch (G j)) = nI (wd (ch (G j)))) (eg : m0 5027 1 = nI g) : ∀ (d t nf : Nat) (m : q_MM), t + d = k → d < nf → a_f208 m0 m → m 5001 1 = nI t → (∀ j, j < t → m 5012 j = nI (ch (G j)) ∧ m 5068 j = nI (ch (G j)) ∧ m 5069 j = nI (v + fb_sm (fun t => wd (ch (G t)) + g) j)) → ∃ m', b_X12_best_208 nf (nI (v + fb_sm (fun t => wd (ch (G t)) + g) t)) (nI t) m = some (m' 5001 54, m') ∧ a_f208 m0 m' ∧ m' 5001 1 = nI k ∧ ∀ j, j < k → m' 5012 j = nI (ch (G j)) ∧ m' 5068 j = nI (ch (G j)) ∧ m' 5069 j = nI (v + fb_sm (fun t => wd (ch (G t)) + g) j)
  | d, t, 0, _, _, h, _, _, _ => absurd h (Nat.not_lt_zero _)
  | 0, t, nf + 1, m, hi, _, hm, h1, hr => by
    have : t = k := by omega
    subst this
    exact ⟨m, by rw [b_X12_best_208, hm 5001 50 (by decide) (by decide) (by decide) (by omega), e50, if_pos (nI_le (by omega) (by omega))], hm, h1, hr⟩
  | d + 1, t, nf + 1, m, hi, hf, hm, h1, hr => by
    obtain ⟨g1, g2⟩ := h62 t (by omega)
    have e62 : m 5062 t = nI (ch (G t)) := by rw [hm 5062 t (by decide) (by decide) (by decide) (by omega)]; exact g1
    have e29 : m 5029 (ch (G t)) = nI (wd (ch (G t))) := by rw [hm 5029 _ (by decide) (by decide) (by decide) (by omega)]; exact hwd t (by omega)
    have e27 : m 5027 1 = nI g := by rw [hm 5027 1 (by decide) (by decide) (by decide) (by omega)]; exact eg
    rw [b_X12_best_208, hm 5001 50 (by decide) (by decide) (by decide) (by omega), e50, if_neg (nI_ge (by omega) (by omega)), w_ld (by omega) (by decide), e62]
    unfold f_X12_enters
    rw [h1, w_as (by omega) (by decide), w_let, q_u2_ne (M := m) (by omega), h1, nI_1, Option.bind_some, w_ld (by omega) (by decide), q_u2_ne (by omega), q_u2_ne (by omega), e62, w_as (by omega) (by decide), w_as (by omega) (by decide), w_ld (by omega) (by decide), q_u2_ne (by omega), q_u2_ne (by omega), q_u2_ne (by omega), q_u2_ne (by omega), e62, w_ld g2 (by decide), q_u2_ne (by omega), q_u2_ne (by omega), q_u2_ne (by omega), q_u2_ne (by omega), e29, w_ld1, q_u2_ne (by omega), q_u2_ne (by omega), q_u2_ne (by omega), q_u2_ne (by omega), e27, w_let, nI_add, nI_add, Nat.add_assoc, ← fb_sm_succ (fun t => wd (ch (G t)) + g)]
    refine s_208_loop hk e50 h62 hwd eg d (t + 1) nf _ (by omega) (by omega) (fun o x a b d' e => ?_) ?_ (fun j hj => ?_)
    · rw [q_u2_ne (fun q => d' q.1), q_u2_ne (fun q => b q.1), q_u2_ne e, q_u2_ne (fun q => a q.1)]
      exact hm o x a b d' e
    · rw [q_u2_ne (by omega), q_u2_ne (by omega), q_u2_eq]
    · by_cases e : j = t
      · rw [e, q_u2_ne (by omega), q_u2_ne (by omega), q_u2_ne (by omega), q_u2_eq, q_u2_ne (by omega), q_u2_eq, q_u2_eq]
        exact ⟨rfl, rfl, rfl⟩
      · rw [q_u2_ne (by omega), q_u2_ne (by omega), q_u2_ne (by omega), q_u2_ne (by omega), q_u2_ne (by omega), q_u2_ne (by omega), q_u2_ne (by omega), q_u2_ne (by omega), q_u2_ne (by omega), q_u2_ne (by omega), q_u2_ne (by omega), q_u2_ne (by omega)]
        exact hr j (by omega)
theorem pub_best {c n : Nat → Nat} {m M : q_MM} (h : a_X c n m M) (a1 a2 : Int32) : (∃ r n' M' m', f_X11_best c M a1 a2 = some (r, M') ∧ f_X12_best m a1 a2 = some (r, m') ∧ m' 5001 0 = 0 ∧ a_X c n' m' M') ∨ (∃ r n' M' m', a_bth c M a1 a2 M' ∧ f_X12_best m a1 a2 = some (r, m') ∧ m' 5001 0 = 1 ∧ a_X c n' m' M') := by
  unfold f_X11_best f_X12_best b_X12_best_40
  simp only [w_let]
  have h00 : q_u2 m 5001 0 0 5001 0 = 0 := q_u2_eq
  replace h := h.t0
  generalize q_u2 m 5001 0 0 = m at h h00 ⊢
  have hfu := q_fu_le
  have hC := h.C
  have hC1 := hC.2.1
  have hC2 := hC.2.2.1
  have pw : 2 ^ c 2 ≤ 2 ^ 24 := Nat.pow_le_pow_right (by decide) hC2
  have pw0 : 0 < 2 ^ c 2 := Nat.two_pow_pos _
  simp only [s_refuse, Option.bind_some]
  by_cases z1 : a_lt a1 (c 1)
  · obtain ⟨w, hw, rfl⟩ := z1
    obtain ⟨M1, hM1, hch⟩ := s_choose h a2
    have hX1 := h.w33 hM1
    have eW := s_wallAt1 h hw
    rw [h.isWall1 hw, Option.bind_some, if_neg (show ¬ (1 : Int32) = 0 by decide), eW, Option.bind_some, if_neg (show ¬ 1100 + w = 0 by omega)]
    have emask : (1 : Int32) <<< (m 5001 18 &&& 31) - 1 = nI (2 ^ c 2 - 1) := by rw [h.Y.N, a_pow24 _ hC2, show (1 : Int32) = nI 1 from rfl, pk_sub pw0]
    rw [emask, s_inc, Option.bind_some, show (1 : Int64).toInt = 1 from rfl, Int32.toInt_toInt64, nI_toInt (show 2 ^ c 2 - 1 < 2 ^ 31 by omega)]
    -- the model up to the check
    have mod : (if a_if (a_rg a2 1 ((2 ^ c 2 - 1 : Nat) : Int)) (1 : Int32) 0 = 0 then some (0, q_u2 m 5001 0 1) else (f_J6_bitCount_0f7a4 qTM qLM qPM m a2).bind fun r42 => if r42 ≤ (7 : Int32) then b_X12_best_47 q_fu (nI w) a2 0 m else some (0, q_u2 m 5001 0 1)) = (if a_if (a_gd c m a2) (1 : Int32) 0 = 0 then some (0, q_u2 m 5001 0 1) else (f_X12_canBe (q_u2 (q_u2 m 5001 50 (nI (fb_ct (bt a2) 32))) 5001 53 0) (nI w) a2).bind fun r30 => if r30 = 0 then b_X12_best_111 (nI w) (q_u2 (q_u2 m 5001 50 (nI (fb_ct (bt a2) 32))) 5001 53 0) else (q_perm 10 (q_u2 (q_u2 m 5001 50 (nI (fb_ct (bt a2) 32))) 5001 53 0) 0 a2).bind fun r32 => b_X12_best_111 (nI w) r32) := by
      have gi := a_gd_iff h (bits := a2)
      by_cases y1 : a_rg a2 1 ((2 ^ c 2 - 1 : Nat) : Int)
      · rw [a_ifp y1, if_neg (show ¬ (1 : Int32) = 0 by decide), s_bits, Option.bind_some]
        have le32 : fb_ct (bt a2) 32 ≤ 32 := fb_ct_le _ 32
        by_cases y2 : fb_ct (bt a2) 32 ≤ 7
        · rw [if_pos (show nI _ ≤ (7 : Int32) from nI_le (b := 7) y2 (by decide)), show (0 : Int32) = nI 0 from rfl, s_here_loop h (c 2) 0 q_fu (by omega) (by omega) (fun q hq => absurd hq (Nat.not_lt_zero _)), show nI 0 = (0 : Int32) from rfl, s_bits, Option.bind_some]
          simp only [w_let, w_bl0]
          rw [a_if_iff (show a_gd c m a2 ↔ ∀ q, q < c 2 → bt a2 q = true → a_here c m (nI q) from ⟨fun q => (gi.mp q).2.2, fun q => gi.mpr ⟨y1, y2, q⟩⟩)]
        · rw [if_neg (show ¬ nI _ ≤ (7 : Int32) from nI_ge (a := 7) (by omega) (by omega)), a_ifn (fun q => y2 (gi.mp q).2.1), if_pos rfl]
      · rw [a_ifn y1, if_pos rfl, a_ifn (fun q => y1 (gi.mp q).1), if_pos rfl]
    rw [mod]
    rcases hch with ⟨ng, ech⟩ | ⟨gd, ech, k, ch, hk1, hk7, h33, h83, hco⟩
    · rw [a_ifn ng, if_pos rfl]
      exact Or.inr ⟨0, n, M1, q_u2 m 5001 0 1, Or.inr ⟨1100 + w, by omega, eW, Or.inl ech⟩, rfl, q_u2_eq, hX1.t1⟩
    · rw [a_ifp gd, if_neg (show ¬ (1 : Int32) = 0 by decide), ech, Option.bind_some]
      dsimp only
      rw [if_neg (show ¬ (1 : Int32) = 0 by decide)]
      have hch2 : ∀ j, j < k → ch j < c 2 := fun j hj => by
        obtain ⟨p, hp, e, -⟩ := gd.2.2 _ (hco.2.1 j hj).1 (hco.2.1 j hj).2
        have := hco.2.1 j hj
        rw [nI_inj (by omega) (by omega) e]
        exact hp
      have hr : a_cr c M1 k ch := ⟨hk1, hk7, h33, fun j hj => ⟨h83 j hj, hch2 j hj⟩, hco.2.2.1⟩
      have ek : fb_ct (bt a2) 32 = k := hco.1.symm
      rw [ek]
      obtain ⟨mb, hmb⟩ : ∃ mb, mb = q_u2 (q_u2 m 5001 50 (nI k)) 5001 53 0 := ⟨_, rfl⟩
      rw [← hmb]
      have er : ∀ o, o ≠ 5001 → mb o = m o := fun o ho => by
        rw [hmb]
        funext j
        rw [q_u2_ne (fun q => ho q.1), q_u2_ne (fun q => ho q.1)]
      have e1 : ∀ j, j ≠ 50 → j ≠ 53 → mb 5001 j = m 5001 j := fun j h1 h2 => by rw [hmb, q_u2_ne (by omega), q_u2_ne (by omega)]
      have e50 : mb 5001 50 = nI k := by rw [hmb, q_u2_ne (by omega), q_u2_eq]
      have e53 : mb 5001 53 = 0 := by rw [hmb, q_u2_eq]
      have hag : a_ag c m mb := by
        rw [hmb]
        exact (a_ag.rf.u2 rfl).u2 rfl
      rw [s_goOn hX1 hr hw, Option.bind_some, s_canBe h er (by rw [e1 18 (by decide) (by decide)]; exact h.Y.N) e50 hw hk1 hco hch2, Option.bind_some]
      by_cases zg : a_goes m k w ch
      · rw [a_ifp zg, if_neg (show ¬ (1 : Int32) = 0 by decide), if_neg (show ¬ (1 : Int32) = 0 by decide)]
        left
        -- numbers
        have h7 : a_B7 c n m M := h 7
        have h6 : a_B6 c n m M := h 6
        have wdx : ∀ p, p < c 2 → ∃ x : Nat, 10 ≤ x ∧ x ≤ 800 ∧ m 5029 p = nI x := fun p hp => by
          have g := (h7.2.2.2.1 p hp).2.1
          unfold a_rg at g
          obtain ⟨x, hx, ex⟩ := nI_of (x := m 5029 p) (by rw [i_lt]; show ¬ (m 5029 p).toInt < 0; omega)
          rw [ex, nI_toInt hx] at g
          exact ⟨x, by omega, by omega, ex⟩
        have hwd : ∀ p, p < c 2 → m 5029 p = nI ((m 5029 p).toNatClampNeg) ∧ 10 ≤ (m 5029 p).toNatClampNeg ∧ (m 5029 p).toNatClampNeg ≤ 800 := fun p hp => by
          obtain ⟨x, x1, x2, ex⟩ := wdx p hp
          rw [ex, nI_clamp (by omega)]
          exact ⟨rfl, x1, x2⟩
        obtain ⟨wd, ewd⟩ : ∃ wd : Nat → Nat, wd = fun p => (m 5029 p).toNatClampNeg := ⟨_, rfl⟩
        have hwd' : ∀ p, p < c 2 → m 5029 p = nI (wd p) ∧ 10 ≤ wd p ∧ wd p ≤ 800 := fun p hp => by rw [ewd]; exact hwd p hp
        obtain ⟨g, hg, eg⟩ : ∃ g : Nat, g ≤ 99 ∧ m 5027 1 = nI g := a_rg.nat (N := 99) h6.2.2.1 (by decide)
        have gL := (h.wB (M' := M) a_wB.rf 5 : a_B5 c n m M).2.2.2.1 w hw
        obtain ⟨Lw, hLw, eL⟩ : ∃ L : Nat, L ≤ 3000 ∧ m 5021 w = nI L := by
          have g := gL.2.2.1
          obtain ⟨x, hx, ex⟩ := nI_of (x := m 5021 w) (by unfold a_rg at g; rw [i_lt]; show ¬ (m 5021 w).toInt < 0; omega)
          unfold a_rg at g
          rw [ex, nI_toInt hx] at g
          exact ⟨x, by omega, ex⟩
        obtain ⟨ln, hln0⟩ : ∃ ln, ln = g * (k - 1) + fb_sm (fun i => wd (ch i)) k := ⟨_, rfl⟩
        have elen : a_ac (m 5027 1 * nI (k - 1)) (fun i => m 5029 (ch i)) k = nI ln := by
          rw [eg, pk_mul, a_ac_n (wd := fun i => wd (ch i)) (fun i hi => (hwd' _ (hch2 i hi)).1), hln0]
        have sm800 : fb_sm (fun i => wd (ch i)) k ≤ k * 800 := fb_sm_bound (fun i hi => (hwd' _ (hch2 i hi)).2.2)
        have gk : g * (k - 1) ≤ 99 * 6 := Nat.mul_le_mul hg (by omega)
        have hlnL : ln ≤ Lw := by
          have := zg.2.2
          rw [elen, eL] at this
          apply Classical.byContradiction
          intro q
          exact this (nI_lt (by omega) (by omega))
        -- fellows, likings
        have FEs := fun i => a_FE_spec (m := m) (i := i) hk7 (fun j hj => by have := hch2 j hj; omega) hco.2.2.1
        have hFE : ∀ l, l < k → a_FE m k ch l = 100 ∨ a_FE m k ch l < k := fun l _ => (FEs l).2.1
        have hbm : a_bm c mb k ch (a_FE m k ch) := by
          refine ⟨hk7, hC2, e50, by rw [e1 18 (by decide) (by decide)]; exact h.Y.N, hch2, hco.2.2.1, fun p hp => by rw [er 5032 (by decide)]; exact (h7.2.2.2.1 p hp).2.2.2.2.1, fun a b ha hb => by rw [er 5059 (by decide)]; exact ((h 11 : a_B11 c n m M) a b ha hb).2.1, fun i j hi hj => by rw [er 5036 (by decide)]; exact (FEs i).2.2 j hj, fun i j hi hj e => ?_, fun i hi e => ?_⟩
          · exact ((FEs j).2.2 i hi).mp (h7.2.2.2.2 (ch i) (ch j) (hch2 i hi) (hch2 j hj) (((FEs i).2.2 j hj).mpr e))
          · exact (h7.2.2.2.1 _ (hch2 i hi)).2.2.2.2.2.2.2.2.2.1 (((FEs i).2.2 i hi).mpr e)
        have LKe : a_LK mb ch = a_LK m ch := by
          funext i j
          unfold a_LK a_lk
          rw [er 5059 (by decide), er 5032 (by decide)]
        have hL : ∀ i j, i < k → j < k → -99 ≤ a_LK m ch i j ∧ a_LK m ch i j ≤ 99 := fun i j hi hj => by
          rw [← LKe]
          exact a_LK_rg hbm hi hj
        -- the model's search
        obtain ⟨mp, p1, p2, -, p4, -⟩ := s_perm hbm hk1 k 0 0 10 (fun _ => 0) (by omega) (by omega) a2 mb a_pf.rf ⟨fun b hb => absurd hb (Nat.not_lt_zero _), fun a b ha => absurd ha (Nat.not_lt_zero _), fun i hi => ⟨fun q => (by rw [Nat.zero_testBit] at q; cases q), fun ⟨b, hb, _⟩ => absurd hb (Nat.not_lt_zero _)⟩⟩ (fun j hj => absurd hj (Nat.not_lt_zero _)) (fun p hp => by
          constructor
          · intro q
            obtain ⟨j, j1, j2⟩ := hco.2.2.2 p (by omega) q
            exact ⟨j, j1, j2, Nat.zero_testBit j⟩
          · rintro ⟨j, j1, j2, -⟩
            rw [← j2]
            exact (hco.2.1 j j1).2)
        have pst := p4 (fun a ha => absurd ha (Nat.not_lt_zero _))
        rw [LKe] at pst
        obtain ⟨pf1, pf2, pf3⟩ : mp 5001 53 = 1 ∧ (mp 5001 54).toInt = a_bW k (a_LK m ch) (a_FE m k ch) 0 100 ∧ ∀ j, j < k → mp 5062 j = nI (ch (a_rG k (a_LK m ch) (a_FE m k ch) j)) := by
          rcases pst with ⟨-, q1, q2, q3⟩ | ⟨q, -⟩
          · refine ⟨q1, ?_, fun j hj => ?_⟩
            · rw [q2]
              show 0 + a_bW k (a_LK m ch) (a_FE m k ch) 0 100 = _
              omega
            · rw [q3 j hj]
              dsimp only
              rw [if_neg (Nat.not_lt_zero j)]
              rfl
          · exact absurd (Or.inl e53) q
        rw [show nI 0 = (0 : Int32) from rfl] at p1
        have G24 : ∀ j, j < k → ch (a_rG k (a_LK m ch) (a_FE m k ch) j) < c 2 := fun j hj => by
          have := (a_rsq (LK := a_LK m ch) (FE := a_FE m k ch) (show k < 100 by omega) (fun _ => 0) k (Nat.le_refl k)).1.1 j hj
          exact hch2 _ this
        have q29 : ∀ p, mp 5029 p = m 5029 p := fun p => by rw [p2 5029 p (by decide) (by decide) (by omega), er 5029 (by decide)]
        have sumG : fb_sm (fun j => wd (ch (a_rG k (a_LK m ch) (a_FE m k ch) j))) k = fb_sm (fun i => wd (ch i)) k := a_rsum (by omega) (fun i => wd (ch i))
        have e140 := s_140_loop (m := mp) (k := k) (w := w) (g := g) (ch := ch) (G := a_rG k (a_LK m ch) (a_FE m k ch)) (wd := wd) (Lw := Lw) (ln := ln) hk7 (by rw [p2 5001 50 (by decide) (by decide) (by omega)]; exact e50) (fun j hj => ⟨pf3 j hj, by have := G24 j hj; omega⟩) (fun j hj => by rw [q29]; exact (hwd' _ (G24 j hj)).1) (by omega) (by rw [p2 5021 w (by decide) (by decide) (by omega), er 5021 (by decide)]; exact eL) hLw (by rw [sumG, hln0]) hlnL k 0 q_fu (by omega) (by omega)
        obtain ⟨ms, hms⟩ : ∃ ms, ms = q_u2 (q_u2 (q_u2 (q_u2 mp 5001 1 0) 5001 55 (nI k)) 5001 56 (nI w)) 5001 57 1 := ⟨_, rfl⟩
        rw [← hms] at e140
        have ems : ∀ o x, ¬ (o = 5001 ∧ (x = 1 ∨ x = 55 ∨ x = 56 ∨ x = 57)) → ms o x = mp o x := fun o x ho => by rw [hms, q_u2_ne (by omega), q_u2_ne (by omega), q_u2_ne (by omega), q_u2_ne (by omega)]
        obtain ⟨mf, f1, f2, f3, f4⟩ := s_208_loop (m0 := ms) (k := k) (v := (Lw - ln) / 2) (g := g) (ch := ch) (G := a_rG k (a_LK m ch) (a_FE m k ch)) (wd := wd) hk7 (by rw [ems 5001 50 (by omega), p2 5001 50 (by decide) (by decide) (by omega)]; exact e50) (fun j hj => ⟨by rw [ems 5062 j (by omega)]; exact pf3 j hj, by have := G24 j hj; omega⟩) (fun j hj => by rw [ems 5029 _ (by omega), q29]; exact (hwd' _ (G24 j hj)).1) (by rw [ems 5027 1 (by omega), p2 5027 1 (by decide) (by decide) (by omega), er 5027 (by decide)]; exact eg) k 0 q_fu ms (by omega) (by omega) (fun _ _ _ _ _ _ => rfl) (by rw [hms, q_u2_ne (by omega), q_u2_ne (by omega), q_u2_ne (by omega), q_u2_eq]; rfl) (fun j hj => absurd hj (Nat.not_lt_zero _))
        have eMod : ((q_perm 10 mb 0 a2).bind fun r32 => b_X12_best_111 (nI w) r32) = some (mf 5001 54, mf) := by
          rw [p1, Option.bind_some]
          unfold b_X12_best_111
          rw [pf1, if_neg (show ¬ (1 : Int32) = 0 by decide), w_ld1, p2 5027 1 (by decide) (by decide) (by omega), er 5027 (by decide), eg, w_let, p2 5001 50 (by decide) (by decide) (by omega), e50, show nI k - 1 = nI (k - 1) from by rw [show (1 : Int32) = nI 1 from rfl, pk_sub hk1], pk_mul]
          rw [show fb_sm (fun j => wd (ch (a_rG k (a_LK m ch) (a_FE m k ch) j))) 0 = 0 from rfl, Nat.add_zero] at e140
          rw [show fb_sm (fun t => wd (ch (a_rG k (a_LK m ch) (a_FE m k ch) t)) + g) 0 = 0 from rfl, Nat.add_zero] at f1
          rw [show (0 : Int32) = nI 0 from rfl, e140, show (0 : Int32) = nI 0 from rfl, f1]
        -- the class
        obtain ⟨M2, c1, c2', c3⟩ := s_cmp_loop hX1 hr k 0 q_fu M1 (by omega) (by omega) a_wB.rf (fun l hl => absurd hl (Nat.not_lt_zero _))
        have hr2 := hr.wB c2'
        obtain ⟨M3, d1, d2, d3⟩ := s_weigh_loop (c := c) (M0 := M2) (m := m) hk7 hFE hL hr2.2.2.1 c3 (2 ^ k - 1) q_fu M2 (by have := Nat.two_pow_pos k; omega) (by have p7 : 2 ^ k ≤ 2 ^ 7 := Nat.pow_le_pow_right (by decide) hk7; omega) (fun _ _ => rfl) (fun u' q1 q2 => by omega)
        have w3 : a_wB M1 M3 := fun o b1 b2 b3 => by rw [d2 o b3, c2' o b1 b2 b3]
        have hX3 := hX1.wB w3
        have hr3 := hr.wB w3
        have c33 : a_cmq m k k ch M3 := fun l hl => by
          rw [d2 34 (by decide), d2 35 (by decide)]
          exact c3 l hl
        have g5 := ((hX3 5 : a_B5 c n m M3).2.2.2.1 w hw).1
        obtain ⟨M4, hM4⟩ : ∃ M4, M4 = q_u2 (q_u2 (q_u2 M3 4 7 (nI w)) 37 1 0) 38 1 0 := ⟨_, rfl⟩
        have e4 : ∀ o x, ¬ (o = 4 ∧ x = 7) → ¬ ((o = 37 ∨ o = 38) ∧ x = 1) → M4 o x = M3 o x := fun o x b1 b2 => by rw [hM4, q_u2_ne (by omega), q_u2_ne (by omega), q_u2_ne (by omega)]
        have e4r : ∀ o, o ≠ 4 → o ≠ 37 → o ≠ 38 → M4 o = M3 o := fun o b1 b2 b3 => funext fun x => e4 o x (by omega) (by omega)
        -- with nothing kept all the rest stands
        have hX4 : a_X c n (q_u2 (q_u2 m 5001 57 0) 5001 55 0) M4 := by
          refine hX3.wr [17] (fun o x => ?_) (a_wS.s1 (a_wS.s1 a_wS.rf rfl) rfl) (a_one (Or.inl ⟨by rw [q_u2_ne (by omega), q_u2_eq], ?_, 0, by decide, q_u2_eq, fun i hi => absurd hi (Nat.not_lt_zero _)⟩))
          · by_cases e : o = 4 ∨ o = 37 ∨ o = 38
            · rcases e with rfl | rfl | rfl <;> exact Or.inl (List.mem_singleton.mpr rfl)
            · rw [e4r o (by omega) (by omega) (by omega)]
              exact Or.inr (Or.inr rfl)
          · rw [hM4, q_u2_ne (by omega), q_u2_eq]
        have hr4 : a_cr c M4 k ch := by
          unfold a_cr at *
          rw [e4r 33 (by decide) (by decide) (by decide), e4r 83 (by decide) (by decide) (by decide)]
          exact hr3
        have elen4 : f_X6_lengthOfAll c M4 = some (nI ln) := by
          rw [s_len hX4 hr4, ← elen]
          congr 1
        obtain ⟨r, M5, t1, t2, t3, t4, t5, t6, t7⟩ := s_find_row (c := c) (m := m) (M0 := M4) (k := k) (v := (Lw - ln) / 2) (g := g) (ch := ch) (wd := wd) hX4.K hr4 hFE hL (fun l hl => by rw [e4r 34 (by decide) (by decide) (by decide), e4r 35 (by decide) (by decide) (by decide)]; exact c33 l hl) (fun u' b1 b2 l hl hb => by
          unfold a_wo
          rw [e4r 36 (by decide) (by decide) (by decide)]
          exact d3 u' b1 b2 l hl hb) (fun p hp => by
          rw [e4r (1300 + p) (by omega) (by omega) (by omega), ((hX3 7 : a_B7 c n m M3).2.2.2.1 p hp).1.2.1]
          exact (hwd' p hp).1) (by rw [e4r 16 (by decide) (by decide) (by decide), (hX3 6 : a_B6 c n m M3).1 1 (by decide)]; exact eg) k 0 q_fu 0 M4 (by omega) (by omega) (fun _ _ _ _ _ => rfl) (by rw [hM4, q_u2_ne (by omega), q_u2_eq]; rfl) (by rw [hM4, q_u2_eq]; rfl) (fun j hj => absurd hj (Nat.not_lt_zero _)) (by
          show 0 + a_bW k (a_LK m ch) (a_FE m k ch) 0 100 = _
          omega) (by show -(99 * (0 : Int)) ≤ 0 ∧ (0 : Int) ≤ 99 * 0; omega)
        obtain ⟨M6, s1, s2, s3, s4⟩ := s_becomeL (c := c) (M0 := M5) hk7 t5 k 0 q_fu (q_u2 M5 6 1 0) (by omega) (by omega) (fun o x _ h2 => q_u2_ne h2) q_u2_eq (fun j hj => absurd hj (Nat.not_lt_zero _))
        have eFind : f_X6_find c M1 (1100 + w) = some (r, M5) := by
          unfold f_X6_find f_X6_compare f_X6_weigh
          have c1z : b_X6_compare_2 c q_fu 0 M1 = some M2 := c1
          rw [c1z, Option.bind_some, hr2.2.2.1, a_pow k (by omega), show nI (2 ^ k) - 1 = nI (2 ^ k - 1) from by rw [show (1 : Int32) = nI 1 from rfl, pk_sub (Nat.two_pow_pos k)], w_let, d1, Option.bind_some, w_ck (t_wall hC hw), w_let, g5.1, s_clear (r := 87) (N := 7) (by decide), Option.bind_some, s_clear (r := 88) (N := 7) (by decide), Option.bind_some, ← hM4, elen4, Option.bind_some, if_neg (show ¬ (2 : Int32) = 0 by decide), w_let, e4r (1100 + w) (by omega) (by omega) (by omega), g5.2.2.1, eL, pk_sub hlnL, show (2 : Int32) = nI 2 from rfl, pk_div (by omega) (by decide) (by decide)]
          exact t1
        have eBec : f_X4_become c M5 6 37 = some M6 := by
          unfold f_X4_become
          rw [w_ck (show qTX c 6 = 14 from rfl), s_clear (r := 56) (N := 32) (by decide), Option.bind_some]
          exact s1
        have e54 : mf 5001 54 = mp 5001 54 := by rw [f2 5001 54 (by decide) (by decide) (by decide) (by omega), ems 5001 54 (by omega)]
        have er54 : mf 5001 54 = r := by
          rw [e54]
          exact i_eq.mpr (pf2.trans t2.symm)
        rw [eFind, Option.bind_some, eMod]
        dsimp only
        rw [eBec, Option.bind_some, er54]
        -- what changed
        have nm : ∀ o x, o ≠ 5061 → o ≠ 5062 → o ≠ 5012 → o ≠ 5068 → o ≠ 5069 → ¬ (o = 5001 ∧ (x = 1 ∨ x = 50 ∨ x = 53 ∨ x = 54 ∨ x = 55 ∨ x = 56 ∨ x = 57)) → mf o x = m o x := fun o x b1 b2 b3 b4 b5 b6 => by
          rw [f2 o x b3 b4 b5 (by omega), ems o x (by omega), p2 o x b1 b2 (by omega), hmb, q_u2_ne (by omega), q_u2_ne (by omega)]
        have nX : ∀ o x, o ≠ 33 → o ≠ 83 → o ≠ 34 → o ≠ 35 → o ≠ 36 → o ≠ 87 → o ≠ 88 → o ≠ 56 → ¬ (o = 6 ∧ x = 1) → ¬ (o = 4 ∧ x = 7) → o ≠ 37 → o ≠ 38 → M6 o x = M o x := fun o x b1 b2 b3 b4 b5 b6 b7 b8 b9 b10 b11 b12 => by
          rw [s2 o x b8 b9, t3 o b11 b6 b12 b7, e4 o x b10 (by omega), w3 o b3 b4 b5, hM1 o b1 b2]
        have q57 : mf 5001 57 = 1 := by rw [f2 5001 57 (by decide) (by decide) (by decide) (by omega), hms, q_u2_eq]
        have q56 : mf 5001 56 = nI w := by rw [f2 5001 56 (by decide) (by decide) (by decide) (by omega), hms, q_u2_ne (by omega), q_u2_eq]
        have q55 : mf 5001 55 = nI k := by rw [f2 5001 55 (by decide) (by decide) (by decide) (by omega), hms, q_u2_ne (by omega), q_u2_ne (by omega), q_u2_eq]
        have q00 : mf 5001 0 = 0 := by rw [nm 5001 0 (by decide) (by decide) (by decide) (by decide) (by decide) (by omega)]; exact h00
        have x37 : M6 37 1 = nI k := by rw [s2 37 1 (by decide) (by omega)]; exact t5
        have x38 : M6 38 1 = nI k := by rw [s2 38 1 (by decide) (by omega)]; exact t6
        have x47 : M6 4 7 = nI w := by rw [s2 4 7 (by decide) (by omega), t3 4 (by decide) (by decide) (by decide) (by decide), hM4, q_u2_ne (by omega), q_u2_ne (by omega), q_u2_eq]
        have x87 : ∀ j, j < k → M6 87 j = nI (ch (a_rG k (a_LK m ch) (a_FE m k ch) j)) ∧ M6 88 j = nI ((Lw - ln) / 2 + fb_sm (fun t => wd (ch (a_rG k (a_LK m ch) (a_FE m k ch) t)) + g) j) := fun j hj => by
          rw [s2 87 j (by decide) (by omega), s2 88 j (by decide) (by omega)]
          exact t7 j hj
        have sq := (a_rsq (LK := a_LK m ch) (FE := a_FE m k ch) (show k < 100 by omega) (fun _ => 0) k (Nat.le_refl k)).1
        -- the places grow, and stay within
        have sumg : ∀ j, fb_sm (fun t => wd (ch (a_rG k (a_LK m ch) (a_FE m k ch) t)) + g) j = fb_sm (fun t => wd (ch (a_rG k (a_LK m ch) (a_FE m k ch) t))) j + j * g := fun j => by
          rw [fb_sm_add (fun t => wd (ch (a_rG k (a_LK m ch) (a_FE m k ch) t))) (fun _ => g), fb_sm_const]
        have xr : ∀ j, j < k → (Lw - ln) / 2 + fb_sm (fun t => wd (ch (a_rG k (a_LK m ch) (a_FE m k ch) t)) + g) j ≤ 3000 := fun j hj => by
          rw [sumg]
          have p1 := fb_sm_part (fun t => wd (ch (a_rG k (a_LK m ch) (a_FE m k ch) t))) hj
          rw [sumG] at p1
          have p2 : j * g ≤ g * (k - 1) := by rw [Nat.mul_comm]; exact Nat.mul_le_mul_left g (by omega)
          omega
        have grow : ∀ i j, i < j → j < k → (Lw - ln) / 2 + fb_sm (fun t => wd (ch (a_rG k (a_LK m ch) (a_FE m k ch) t)) + g) i < (Lw - ln) / 2 + fb_sm (fun t => wd (ch (a_rG k (a_LK m ch) (a_FE m k ch) t)) + g) j := fun i j hij hj => by
          have p1 := fb_sm_part (fun t => wd (ch (a_rG k (a_LK m ch) (a_FE m k ch) t)) + g) hij
          have p2 := (hwd' _ (G24 i (by omega))).2.1
          omega
        refine ⟨r, n, M6, mf, rfl, rfl, q00, h.wr [12, 17] (fun o x => ?_) (fun o x => ?_) (a_two ?_ ?_)⟩
        · by_cases y1 : o = 33 ∨ o = 83 ∨ o = 34 ∨ o = 35 ∨ o = 36
          · rcases y1 with rfl | rfl | rfl | rfl | rfl <;> exact Or.inr (Or.inl rfl)
          · by_cases y2 : o = 87 ∨ o = 88 ∨ o = 4 ∨ o = 37 ∨ o = 38
            · rcases y2 with rfl | rfl | rfl | rfl | rfl <;> exact Or.inl (by show (17 : Nat) ∈ _; decide)
            · by_cases y3 : o = 56
              · subst y3
                exact Or.inl (by show (12 : Nat) ∈ _; decide)
              · by_cases y4 : o = 6 ∧ x = 1
                · obtain ⟨rfl, rfl⟩ := y4
                  exact Or.inl (by show (12 : Nat) ∈ _; decide)
                · exact Or.inr (Or.inr (nX o x (by omega) (by omega) (by omega) (by omega) (by omega) (by omega) (by omega) y3 y4 (by omega) (by omega) (by omega)))
        · by_cases y1 : o = 5061 ∨ o = 5062
          · rcases y1 with rfl | rfl <;> exact Or.inr (Or.inl rfl)
          · by_cases y2 : o = 5068 ∨ o = 5069
            · rcases y2 with rfl | rfl <;> exact Or.inl (by show (17 : Nat) ∈ _; decide)
            · by_cases y3 : o = 5012
              · subst y3
                exact Or.inl (by show (12 : Nat) ∈ _; decide)
              · by_cases y4 : o = 5001 ∧ (x = 1 ∨ x = 50 ∨ x = 53 ∨ x = 54 ∨ x = 55 ∨ x = 56 ∨ x = 57)
                · obtain ⟨rfl, y5⟩ := y4
                  rcases y5 with rfl | rfl | rfl | rfl | rfl | rfl | rfl
                  · exact Or.inl (by show (12 : Nat) ∈ _; decide)
                  · exact Or.inr (Or.inl rfl)
                  · exact Or.inr (Or.inl rfl)
                  · exact Or.inr (Or.inl rfl)
                  · exact Or.inl (by show (17 : Nat) ∈ _; decide)
                  · exact Or.inl (by show (17 : Nat) ∈ _; decide)
                  · exact Or.inl (by show (17 : Nat) ∈ _; decide)
                · exact Or.inr (Or.inr (nm o x (by omega) (by omega) y3 (by omega) (by omega) y4))
        · refine ⟨k, by omega, s3, f3, fun j hj => ⟨?_, trivial⟩⟩
          rw [s4 j hj, (t7 j hj).1, (f4 j hj).1]
        · refine Or.inr ⟨q57, by rw [x47, q56], by rw [q56]; exact ⟨w, hw, rfl⟩, ⟨k, hk1, hk7, q55⟩, ⟨k, hk7, x37, q55, fun j hj => ?_⟩, ⟨k, hk7, x38, q55, fun j hj => ?_⟩, ?_, ?_⟩
          · rw [(x87 j hj).1, (f4 j hj).2.1]
            exact ⟨rfl, _, G24 j hj, rfl⟩
          · have := xr j hj
            rw [(x87 j hj).2, (f4 j hj).2.2]
            refine ⟨rfl, ?_⟩
            show a_rg _ 0 3000
            unfold a_rg
            rw [nI_toInt (by omega)]
            omega
          · rw [q55, nI_clamp (by omega)]
            intro i j hi hj e
            rw [(f4 i hi).2.1, (f4 j hj).2.1] at e
            have g1 := G24 i hi
            have g2 := G24 j hj
            exact sq.2.1 i j hi hj (hr.inj (sq.1 i hi) (sq.1 j hj) (nI_inj (by omega) (by omega) e))
          · rw [q55, nI_clamp (by omega)]
            intro i j hi hj e
            rw [(f4 i hi).2.2, (f4 j hj).2.2] at e
            have g1 := xr i hi
            have g2 := xr j hj
            have e' := nI_inj (by omega) (by omega) e
            rcases Nat.lt_trichotomy i j with q | q | q
            · have := grow i j q hj
              omega
            · exact q
            · have := grow j i q hi
              omega
      · rw [a_ifn zg, if_pos rfl, if_pos rfl]
        refine Or.inr ⟨0, n, M1, q_u2 mb 5001 0 1, Or.inr ⟨1100 + w, by omega, eW, Or.inr ⟨ech, by rw [s_goOn hX1 hr hw, a_ifn zg]⟩⟩, ?_, q_u2_eq, (hX1.ag hag).t1⟩
        unfold b_X12_best_111
        rw [e53, if_pos rfl, s_refuse, Option.bind_some]
  · rw [h.isWall0 z1, Option.bind_some, if_pos rfl]
    exact Or.inr ⟨0, n, M, q_u2 m 5001 0 1, Or.inl ⟨s_wallAt0 h z1, rfl⟩, rfl, q_u2_eq, h.t1⟩
