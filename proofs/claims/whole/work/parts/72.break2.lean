/-! breaks: where pictures are met, in the class -/
theorem a_fnd_cong {f g : Nat → Int32} {v : Int32} : ∀ {d i : Nat}, (∀ j, i ≤ j → j < i + d → f j = g j) → a_fnd f v d i = a_fnd g v d i
  | 0, i, _ => rfl
  | d + 1, i, h => by
    rw [a_fnd_succ, a_fnd_succ, h i (Nat.le_refl i) (by omega), a_fnd_cong (g := g) (fun j h1 h2 => h j (by omega) (by omega))]
def a_leg (m : q_MM) (K : Nat) (x : Int32) : Int32 := a_fnd (m 5073) x K 0
def a_Kx (m : q_MM) (K p : Nat) : Int32 := if m 5040 p = 1 then (if a_leg m K (m 5020 (m 5041 p).toNatClampNeg) = -1 then -1 else (a_leg m K (m 5020 (m 5041 p).toNatClampNeg) * 16 + m 5041 p) * 4096 + m 5042 p) else -1
/-- the route's rooms and the tale's pictures -/
def a_rt9 (m : q_MM) (K : Nat) : Prop := K ≤ 10 ∧ a_dis K (m 5073)
theorem a_Kx_cases {c n : Nat → Nat} {m M : q_MM} (h : a_X c n m M) {K : Nat} (hK : a_rt9 m K) {p : Nat} (hp : p < c 2) : (a_Kx m K p = -1 ∧ ∀ w j, w < c 1 → j < K → ¬ (a_W m p = nI w ∧ m 5020 w = m 5073 j)) ∨ ∃ w j x, w < c 1 ∧ j < K ∧ x ≤ 3000 ∧ a_W m p = nI w ∧ m 5020 w = m 5073 j ∧ m 5042 p = nI x ∧ a_Kx m K p = nI ((j * 16 + w) * 4096 + x) ∧ (a_Kx m K p).toInt = ((j * 16 + w) * 4096 + x : Nat) := by
  have hC1 := h.C.2.1
  obtain ⟨hK1, hK2⟩ := hK
  unfold a_Kx a_leg
  by_cases z : m 5040 p = 1
  · obtain ⟨⟨w, hw, ew⟩, hx⟩ := ((h 8 : a_B8 c n m M).2.1 p hp).2.2.2.2.1 z
    obtain ⟨x, hx2, ex⟩ := a_rg.nat (N := 3000) hx (by decide)
    have eW : a_W m p = nI w := (a_W_w (by omega)).mpr ⟨z, ew⟩
    rw [if_pos z, ew, nI_clamp (by omega)]
    rcases a_fnd_le (f := m 5073) (v := m 5020 w) (d := K) (i := 0) with e | ⟨j, -, hj, e, ej⟩
    · rw [if_pos e]
      refine Or.inl ⟨rfl, fun w' j' hw' hj' q => ?_⟩
      have : w' = w := nI_inj (by omega) (by omega) (q.1.symm.trans eW)
      subst this
      exact (a_fnd_no (by omega)).mp e j' (Nat.zero_le _) (by omega) q.2.symm
    · have hj' : j < K := by omega
      have eN : (nI j * 16 + nI w) * 4096 + m 5042 p = nI ((j * 16 + w) * 4096 + x) := by
        rw [ex, show (16 : Int32) = nI 16 from rfl, show (4096 : Int32) = nI 4096 from rfl, pk_mul, nI_add, pk_mul, nI_add]
      rw [e, if_neg (nI_neg1 (by omega)), eN]
      exact Or.inr ⟨w, j, x, hw, hj', hx2, eW, ej.symm, ex, rfl, nI_toInt (show (j * 16 + w) * 4096 + x < 2 ^ 31 by omega)⟩
  · rw [if_neg z]
    refine Or.inl ⟨rfl, fun w' j' hw' hj' q => ?_⟩
    exact z ((a_W_w (by omega)).mp q.1).1
theorem s_meeting {c n : Nat → Nat} {m M : q_MM} (h : a_X c n m M) {K : Nat} (hK : K ≤ 10) (e9 : M 9 1 = nI K) (e59 : ∀ j, j < K → M 59 j = m 5073 j) {p : Nat} (hp : p < c 2) : f_X11_meeting c M (1300 + p) = some (a_Kx m K p) := by
  have hC := h.C
  have hC1 := hC.2.1
  have hC2 := hC.2.2.1
  have e0 : M (1300 + p) 0 = nI p := ((h 7 : a_B7 c n m M).2.2.2.1 p hp).1.1
  have g8 := (h 8 : a_B8 c n m M).2.1 p hp
  unfold f_X11_meeting b_X11_meeting_16 b_X11_meeting_25 b_X11_meeting_40 a_Kx
  rw [if_neg (by omega)]
  by_cases z : m 5040 p = 1
  · obtain ⟨⟨w, hw, ew⟩, -⟩ := g8.2.2.2.2.1 z
    have w0 : M (1100 + w) 0 = nI w := ((h 5 : a_B5 c n m M).2.2.2.1 w hw).1.1
    have w1 : M (1100 + w) 1 = m 5020 w := ((h 5 : a_B5 c n m M).2.2.2.1 w hw).1.2.1
    have el : a_fnd (M 59) (m 5020 w) K 0 = a_leg m K (m 5020 w) := a_fnd_cong (fun j _ hj => e59 j (by omega))
    rw [s_wallOf1 h hp z ew hw, Option.bind_some, if_neg (by omega), if_neg (by omega), w_ck (t_wall hC hw), w1, s_find (r := 59) (N := 10) (by decide) e9 hK, Option.bind_some, el, if_pos z, ew, nI_clamp (by omega)]
    by_cases z2 : a_leg m K (m 5020 w) = -1
    · rw [if_pos z2, if_pos z2]
    · rw [if_neg z2, if_neg z2, w_ck (t_wall hC hw), w_ck (t_pic hC hp), e0, s_leftSide (a := 61) (b := 63) (by decide) (by omega), Option.bind_some, w0, g8.2.1]
  · rw [s_wallOf0 h hp z, Option.bind_some, if_neg (by omega), if_pos rfl, if_pos rfl, if_neg z]
/-- the tale's pictures -/
def a_tp (m : q_MM) (t : Nat) : Nat := (m 5071 t).toNatClampNeg
def a_At (m : q_MM) (K t : Nat) : Int32 := a_Kx m K (a_tp m t)
theorem s_met_loop {c n : Nat → Nat} {m M0 : q_MM} (h : a_X c n m M0) {K N : Nat} (hK : K ≤ 10) (e9 : M0 9 1 = nI K) (e59 : ∀ j, j < K → M0 59 j = m 5073 j) (hN : N ≤ 12) (e8 : M0 8 1 = nI N) (e58 : ∀ t, t < N → M0 58 t = nI (a_tp m t) ∧ a_tp m t < c 2) : ∀ (d t nf : Nat) (M : q_MM), t + d = N → d < nf → (∀ o, o ≠ 10 → M o = M0 o) → (∀ u, u < t → M 10 u = a_At m K u) → ∃ M', b_X11_breaks_4 c nf (nI (fb_ct (fun u => a_At m K u != -1) t)) (nI t) M = b_X11_breaks_76 c q_fu (nI (fb_ct (fun u => a_At m K u != -1) N)) 0 (nI N + (-1)) M' ∧ (∀ o, o ≠ 10 → M' o = M0 o) ∧ ∀ u, u < N → M' 10 u = a_At m K u
  | d, t, 0, _, _, h, _, _ => absurd h (Nat.not_lt_zero _)
  | 0, t, nf + 1, M, hi, _, hfr, hlow => by
    have : t = N := by omega
    subst this
    refine ⟨M, ?_, hfr, hlow⟩
    rw [b_X11_breaks_4, hfr 8 (by decide), e8, if_pos (nI_le (by omega) (by omega)), w_let, a_sub1]
  | d + 1, t, nf + 1, M, hi, hf, hfr, hlow => by
    have hC2 := h.C.2.2.1
    obtain ⟨g1, g2⟩ := e58 t (by omega)
    have hX : a_X c n m M := h.scr (fun o j => by
      by_cases e : o = 10
      · subst e
        exact Or.inr (Or.inl rfl)
      · rw [hfr o e]
        exact Or.inr (Or.inr rfl))
    have q8 : M 8 1 = nI N := by rw [hfr 8 (by decide)]; exact e8
    rw [b_X11_breaks_4, q8, if_neg (nI_ge (by omega) (by omega)), s_get1 (r := 58) (N := 12) (k := N) (by decide) q8 (by omega) (by omega), Option.bind_some, hfr 58 (by decide), g1, s_picAt1 hX g2, Option.bind_some, s_meeting hX hK (by rw [hfr 9 (by decide)]; exact e9) (fun j hj => by rw [hfr 59 (by decide)]; exact e59 j hj) g2, Option.bind_some, w_as (by omega) (by decide), w_ld (by omega) (by decide), q_u2_eq]
    unfold b_X11_breaks_56
    simp only [w_let, nI_1]
    have next : ∀ v : Int32, v = nI (fb_ct (fun u => a_At m K u != -1) (t + 1)) → ∃ M', b_X11_breaks_4 c nf v (nI (t + 1)) (q_u2 M 10 t (a_Kx m K (a_tp m t))) = b_X11_breaks_76 c q_fu (nI (fb_ct (fun u => a_At m K u != -1) N)) 0 (nI N + (-1)) M' ∧ (∀ o, o ≠ 10 → M' o = M0 o) ∧ ∀ u, u < N → M' 10 u = a_At m K u := fun v hv => by
      rw [hv]
      refine s_met_loop h hK e9 e59 hN e8 e58 d (t + 1) nf _ (by omega) (by omega) (fun o ho => ?_) (fun u hu => ?_)
      · funext j
        rw [q_u2_ne (fun q => ho q.1), hfr o ho]
      · by_cases e : u = t
        · subst e
          rw [q_u2_eq]
          rfl
        · rw [q_u2_ne (fun q => e q.2)]
          exact hlow u (by omega)
    by_cases z : a_Kx m K (a_tp m t) = -1
    · rw [if_pos z]
      refine next _ ?_
      rw [fb_ct_succ, show (a_At m K t != -1) = false from by unfold a_At; rw [z]; rfl, if_neg (by decide), show (0 : Int32) = nI 0 from rfl, nI_add]
    · rw [if_neg z]
      refine next _ ?_
      rw [fb_ct_succ, show (a_At m K t != -1) = true from by unfold a_At; exact bne_iff_ne.mpr z, if_pos rfl]
/-- the longest behind a place -/
def a_mx (N : Nat) (A : Nat → Int) (C : Nat → Nat) (t i V : Nat) : Prop := (∀ u, t < u → u < i → A t < A u → C u ≤ V) ∧ (V = 0 ∨ ∃ u, t < u ∧ u < i ∧ A t < A u ∧ C u = V)
theorem s_longest_loop {c : Nat → Nat} {M : q_MM} {N t : Nat} {C : Nat → Nat} (hN : N ≤ 12) (e8 : M 8 1 = nI N) (ht : t < N) (hC : ∀ u, t < u → u < N → M 11 u = nI (C u) ∧ C u ≤ 12) : ∀ (d i nf V : Nat), i + d = N → d < nf → t < i → V ≤ 12 → a_mx N (fun u => (M 10 u).toInt) C t i V → ∃ V', V' ≤ 12 ∧ b_X11_longestAfter_6 c M nf (nI t) (nI V) (nI i) = some (nI V') ∧ a_mx N (fun u => (M 10 u).toInt) C t N V'
  | d, i, 0, _, _, h, _, _, _ => absurd h (Nat.not_lt_zero _)
  | 0, i, nf + 1, V, hi, _, _, hV, hm => by
    have : i = N := by omega
    subst this
    exact ⟨V, hV, by rw [b_X11_longestAfter_6, e8, if_pos (nI_le (by omega) (by omega))], hm⟩
  | d + 1, i, nf + 1, V, hi, hf, hti, hV, hm => by
    obtain ⟨g1, g2⟩ := hC i hti (by omega)
    rw [b_X11_longestAfter_6, e8, if_neg (nI_ge (by omega) (by omega)), w_ld (by omega) (by decide), w_ld (by omega) (by decide)]
    unfold b_X11_longestAfter_43
    rw [nI_1]
    by_cases z : M 10 i ≤ M 10 t
    · rw [if_pos z]
      rw [i_le] at z
      refine s_longest_loop hN e8 ht hC d (i + 1) nf V (by omega) (by omega) (by omega) hV ⟨fun u h1 h2 h3 => ?_, ?_⟩
      · by_cases e : u = i
        · subst e
          dsimp only at h3
          omega
        · exact hm.1 u h1 (by omega) h3
      · rcases hm.2 with e | ⟨u, u1, u2, u3⟩
        · exact Or.inl e
        · exact Or.inr ⟨u, u1, by omega, u3⟩
    · rw [if_neg z, w_ld (by omega) (by decide), w_let, g1]
      rw [i_le] at z
      by_cases l : V < C i
      · rw [if_pos (nI_lt l (by omega))]
        refine s_longest_loop hN e8 ht hC d (i + 1) nf (C i) (by omega) (by omega) (by omega) g2 ⟨fun u h1 h2 h3 => ?_, Or.inr ⟨i, hti, by omega, by dsimp only; omega, rfl⟩⟩
        by_cases e : u = i
        · rw [e]; exact Nat.le_refl _
        · have := hm.1 u h1 (by omega) h3
          omega
      · rw [if_neg (nI_nlt (by omega) (by omega))]
        refine s_longest_loop hN e8 ht hC d (i + 1) nf V (by omega) (by omega) (by omega) hV ⟨fun u h1 h2 h3 => ?_, ?_⟩
        · by_cases e : u = i
          · rw [e]; omega
          · exact hm.1 u h1 (by omega) h3
        · rcases hm.2 with e | ⟨u, u1, u2, u3⟩
          · exact Or.inl e
          · exact Or.inr ⟨u, u1, by omega, u3⟩
/-- chains from b on -/
def a_cb (N : Nat) (A : Nat → Int) (C : Nat → Nat) (L b : Nat) : Prop := (∀ t, b ≤ t → t < N → C t + t ≤ N ∧ (A t = -1 → C t = 0) ∧ (A t ≠ -1 → 1 ≤ C t ∧ (∀ u, t < u → u < N → A t < A u → C u + 1 ≤ C t) ∧ (C t = 1 ∨ ∃ u, t < u ∧ u < N ∧ A t < A u ∧ C t = C u + 1)) ∧ C t ≤ L) ∧ L ≤ N ∧ (L = 0 ∨ ∃ t, b ≤ t ∧ t < N ∧ C t = L)
theorem s_chain_loop {c : Nat → Nat} {M0 : q_MM} {N : Nat} {met : Int32} (hN : N ≤ 12) (e8 : M0 8 1 = nI N) : ∀ (b nf L : Nat) (C : Nat → Nat) (M : q_MM), b ≤ N → b < nf → (∀ o, o ≠ 11 → M o = M0 o) → (∀ t, b ≤ t → t < N → M 11 t = nI (C t)) → a_cb N (fun u => (M0 10 u).toInt) C L b → ∃ M' C' L', b_X11_breaks_76 c nf met (nI L) (nI b + (-1)) M = (f_X11_tellChain c M' (nI L')).bind (fun r7 => some (met - nI L', r7)) ∧ (∀ o, o ≠ 11 → M' o = M0 o) ∧ (∀ t, t < N → M' 11 t = nI (C' t)) ∧ a_cb N (fun u => (M0 10 u).toInt) C' L' 0
  | b, 0, _, _, _, _, h, _, _, _ => absurd h (Nat.not_lt_zero _)
  | 0, nf + 1, L, C, M, _, _, hfr, hC, hcb => by
    refine ⟨M, C, L, ?_, hfr, fun t ht => hC t (Nat.zero_le t) ht, hcb⟩
    rw [b_X11_breaks_76, if_pos (show nI 0 + (-1) < 0 by decide)]
  | t + 1, nf + 1, L, C, M, hb, hnf, hfr, hC, hcb => by
    have hfu := q_fu_le
    have r10 := hfr 10 (by decide)
    have hL := hcb.2.1
    rw [b_X11_breaks_76, pk_m1, if_neg (nI_pos (by omega)), w_ld (by omega) (by decide)]
    unfold b_X11_breaks_106
    simp only [w_ck (show qTX c 11 = 1 from rfl), show qLX c 11 = 12 from rfl]
    -- after the write of v
    have go : ∀ v : Nat, v + t ≤ N → ((M0 10 t).toInt = -1 → v = 0) → ((M0 10 t).toInt ≠ -1 → 1 ≤ v ∧ (∀ u, t < u → u < N → (M0 10 t).toInt < (M0 10 u).toInt → C u + 1 ≤ v) ∧ (v = 1 ∨ ∃ u, t < u ∧ u < N ∧ (M0 10 t).toInt < (M0 10 u).toInt ∧ v = C u + 1)) → ∃ M' C' L', (q_as M 11 12 (nI t) (nI v) fun M3 => q_ld M3 11 12 (nI t) fun v4 => q_let (if nI L < v4 then v4 else nI L) fun v5 => b_X11_breaks_76 c nf met v5 (nI t + (-1)) M3) = (f_X11_tellChain c M' (nI L')).bind (fun r7 => some (met - nI L', r7)) ∧ (∀ o, o ≠ 11 → M' o = M0 o) ∧ (∀ t, t < N → M' 11 t = nI (C' t)) ∧ a_cb N (fun u => (M0 10 u).toInt) C' L' 0 := by
      intro v v1 v2 v3
      rw [w_as (by omega) (by decide), w_ld (by omega) (by decide), q_u2_eq, w_let]
      have em : (if nI L < nI v then nI v else nI L) = nI (if L < v then v else L) := by
        by_cases q : L < v
        · rw [if_pos q, if_pos (nI_lt q (by omega))]
        · rw [if_neg q, if_neg (nI_nlt (by omega) (by omega))]
      rw [em]
      refine s_chain_loop hN e8 t nf (if L < v then v else L) (fun u => if u = t then v else C u) (q_u2 M 11 t (nI v)) (by omega) (by omega) (fun o ho => ?_) (fun u h1 h2 => ?_) ⟨fun u h1 h2 => ?_, ?_, ?_⟩
      · funext j
        rw [q_u2_ne (fun q => ho q.1), hfr o ho]
      · by_cases e : u = t
        · subst e
          rw [q_u2_eq, if_pos rfl]
        · rw [q_u2_ne (fun q => e q.2), if_neg e]
          exact hC u (by omega) h2
      · have later : ∀ x, t < x → (if x = t then v else C x) = C x := fun x hx => if_neg (by omega)
        by_cases e : u = t
        · subst e
          dsimp only
          rw [if_pos rfl]
          refine ⟨v1, v2, fun q => ⟨(v3 q).1, fun x x1 x2 x3 => ?_, ?_⟩, ?_⟩
          · rw [later x x1]
            exact (v3 q).2.1 x x1 x2 x3
          · rcases (v3 q).2.2 with e | ⟨x, x1, x2, x3, x4⟩
            · exact Or.inl e
            · exact Or.inr ⟨x, x1, x2, x3, by rw [later x x1]; exact x4⟩
          · split <;> omega
        · dsimp only
          rw [if_neg e]
          obtain ⟨g1, g2, g3, g4⟩ := hcb.1 u (by omega) h2
          refine ⟨g1, g2, fun q => ⟨(g3 q).1, fun x x1 x2 x3 => ?_, ?_⟩, ?_⟩
          · rw [later x (by omega)]
            exact (g3 q).2.1 x x1 x2 x3
          · rcases (g3 q).2.2 with e | ⟨x, x1, x2, x3, x4⟩
            · exact Or.inl e
            · exact Or.inr ⟨x, x1, x2, x3, by rw [later x (by omega)]; exact x4⟩
          · split <;> omega
      · split <;> omega
      · by_cases q : L < v
        · rw [if_pos q]
          exact Or.inr ⟨t, Nat.le_refl t, by omega, if_pos rfl⟩
        · rw [if_neg q]
          rcases hcb.2.2 with e | ⟨u, u1, u2, u3⟩
          · exact Or.inl e
          · exact Or.inr ⟨u, by omega, u2, by dsimp only; rw [if_neg (by omega)]; exact u3⟩
    rw [r10]
    by_cases z : M0 10 t = -1
    · rw [if_pos z]
      have zi : (M0 10 t).toInt = -1 := by rw [z]; rfl
      exact go 0 (by omega) (fun _ => rfl) (fun q => absurd zi q)
    · rw [if_neg z]
      have zi : (M0 10 t).toInt ≠ -1 := fun q => z (i_eq.mpr (q.trans (show (-1 : Int) = (-1 : Int32).toInt from rfl)))
      have e11 : ∀ u, t < u → u < N → M 11 u = nI (C u) ∧ C u ≤ 12 := fun u h1 h2 => ⟨hC u (by omega) h2, by have := (hcb.1 u (by omega) h2).1; omega⟩
      obtain ⟨V, V1, V2, V3⟩ := s_longest_loop (c := c) (M := M) hN (by rw [hfr 8 (by decide)]; exact e8) (show t < N by omega) e11 (N - (t + 1)) (t + 1) q_fu 0 (by omega) (by omega) (by omega) (by omega) ⟨fun u h1 h2 => by omega, Or.inl rfl⟩
      rw [r10] at V3
      unfold f_X11_longestAfter
      rw [w_let, nI_1, show (0 : Int32) = nI 0 from rfl, V2, Option.bind_some, show (1 : Int32) = nI 1 from rfl, nI_add]
      refine go (1 + V) ?_ (fun q => absurd q zi) (fun _ => ⟨by omega, fun u h1 h2 h3 => ?_, ?_⟩)
      · rcases V3.2 with e | ⟨u, u1, u2, u3, u4⟩
        · omega
        · have := (hcb.1 u (by omega) u2).1
          omega
      · have := V3.1 u h1 h2 h3
        omega
      · rcases V3.2 with e | ⟨u, u1, u2, u3, u4⟩
        · exact Or.inl (by omega)
        · exact Or.inr ⟨u, u1, u2, u3, by omega⟩
