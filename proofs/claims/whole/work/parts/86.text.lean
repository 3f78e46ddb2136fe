/-! term: the whole text -/
def a_pal (t : Nat → Nat) (n : Nat) : Nat → a_RR → a_RR
  | 0, x => x
  | k + 1, x => if x.1 = true ∧ x.2.1 < n ∧ t x.2.1 = 59 then a_pal t n k (((a_pr t n 100).2 (x.2.1 + 1)).1, ((a_pr t n 100).2 (x.2.1 + 1)).2.1, x.2.2 ++ [-300] ++ ((a_pr t n 100).2 (x.2.1 + 1)).2.2) else x
theorem a_pal_s {t : Nat → Nat} {n k : Nat} {x : a_RR} : a_pal t n (k + 1) x = if x.1 = true ∧ x.2.1 < n ∧ t x.2.1 = 59 then a_pal t n k (((a_pr t n 100).2 (x.2.1 + 1)).1, ((a_pr t n 100).2 (x.2.1 + 1)).2.1, x.2.2 ++ [-300] ++ ((a_pr t n 100).2 (x.2.1 + 1)).2.2) else x := rfl
def a_txt (t : Nat → Nat) (n : Nat) : a_RR := a_pal t n 61 ((a_pr t n 100).2 0)
theorem s_pal {t : Nat → Nat} {n u : Nat} {K : List Int32} : ∀ (k nf : Nat) (m : q_MM) (r : Bool) (p : Nat) (D : List Int32), a_mk m u (K ++ D) p → a_tp2 m t n → p ≤ n → n - p < k → n - p < nf → K.length + D.length + (n - p) ≤ 63 → ∃ m', b_X12_all_6 nf (nI n) (a_b r) m = some (a_if ((a_pal t n k (r, p, D)).1 = true ∧ (a_pal t n k (r, p, D)).2.1 = n) 1 0, m') ∧ a_mk m' u (K ++ (a_pal t n k (r, p, D)).2.2) (a_pal t n k (r, p, D)).2.1 ∧ a_fm u m m' ∧ p ≤ (a_pal t n k (r, p, D)).2.1 ∧ (a_pal t n k (r, p, D)).2.1 ≤ n ∧ (a_pal t n k (r, p, D)).2.2.length + p ≤ D.length + (a_pal t n k (r, p, D)).2.1 := by
  intro k
  induction k with
  | zero => intro nf m r p D _ _ _ h; exact absurd h (Nat.not_lt_zero _)
  | succ k ih =>
    intro nf m r p D hm ht hp hk hf hK
    obtain ⟨nf, rfl⟩ : ∃ z, nf = z + 1 := ⟨nf - 1, by omega⟩
    have hn := ht.1
    rw [a_pal_s, b_X12_all_6]
    unfold b_X12_all_46
    dsimp only
    cases r
    · rw [a_b0, if_pos rfl, if_pos rfl, w_bl0, if_neg (fun q => absurd q.1 (by decide))]
      exact ⟨m, by rw [a_ifn (fun q => Bool.false_ne_true q.1)], hm, a_fm.rf, Nat.le_refl _, hp, Nat.le_refl _⟩
    · rw [a_b1, if_neg (show ¬ (1 : Int32) = 0 by decide), show f_X12_isSign m (nI n) (59 : Int32) = _ from s_isSign (s := 59) ht hm.2.2.2.2 hp (by decide), Option.bind_some]
      by_cases z : p < n ∧ t p = 59
      · rw [a_ifp z, if_neg (show ¬ (1 : Int32) = 0 by decide), if_pos ⟨rfl, z⟩, hm.2.2.2.2, nI_1, w_let]
        have hm' := hm.at (p' := p + 1)
        obtain ⟨m1, a1, a2, a3⟩ := s_marks (v := -300) hm'.1 (by rw [List.length_append]; omega)
        obtain ⟨m2, b1, b2, b3, b4, b5, b6⟩ := (s_rec (t := t) (n := n) 100).2 m1 u _ (p + 1) a2 ((ht.fm hm'.2).fm a3) (by omega) (by omega) (by rw [List.length_append, List.length_append]; show _ + _ + 1 + _ ≤ 63; omega)
        rw [a1, Option.bind_some, b1, Option.bind_some]
        dsimp only
        rw [w_let]
        obtain ⟨m3, d1, d2, d3, d4, d5, d6⟩ := ih nf m2 ((a_pr t n 100).2 (p + 1)).1 ((a_pr t n 100).2 (p + 1)).2.1 (D ++ [-300] ++ ((a_pr t n 100).2 (p + 1)).2.2) (by rw [← a_app, ← a_app]; exact b2) (((ht.fm hm'.2).fm a3).fm b3) b5 (by omega) (by omega) (by rw [List.length_append, List.length_append]; show _ + (_ + 1 + _) + _ ≤ 63; omega)
        rw [List.length_append, List.length_append] at d6
        have d6 : _ + _ ≤ D.length + 1 + ((a_pr t n 100).2 (p + 1)).2.2.length + _ := d6
        exact ⟨m3, d1, d2, ((hm'.2.trans a3).trans b3).trans d3, by omega, d5, by omega⟩
      · rw [a_ifn z, if_pos rfl, if_neg (show ¬ (1 : Int32) = 0 by decide), hm.2.2.2.2]
        by_cases zn : p = n
        · rw [if_pos (show nI p = nI n by rw [zn]), w_bl1, if_neg (fun q => z q.2)]
          exact ⟨m, by rw [a_ifp ⟨rfl, zn⟩], hm, a_fm.rf, Nat.le_refl _, hp, Nat.le_refl _⟩
        · rw [if_neg (fun q => zn (nI_inj (by omega) (by omega) q)), w_bl0, if_neg (fun q => z q.2)]
          exact ⟨m, by rw [a_ifn (fun q => zn q.2)], hm, a_fm.rf, Nat.le_refl _, hp, Nat.le_refl _⟩
theorem s_allT {t : Nat → Nat} {n u : Nat} {m : q_MM} (hm : a_mk m u [] 0) (ht : a_tp2 m t n) : ∃ m', f_X12_all m (nI n) = some (a_if ((a_txt t n).1 = true ∧ (a_txt t n).2.1 = n) 1 0, m') ∧ a_mk m' u (a_txt t n).2.2 (a_txt t n).2.1 ∧ a_fm u m m' ∧ (a_txt t n).2.1 ≤ n ∧ (a_txt t n).2.2.length ≤ (a_txt t n).2.1 := by
  have hfu := q_fu_le
  have hn := ht.1
  obtain ⟨m1, a1, a2, a3, a4, a5, a6⟩ := (s_rec (t := t) (n := n) 100).2 m u [] 0 hm ht (Nat.zero_le _) (by omega) (by show 0 + _ ≤ 63; omega)
  obtain ⟨m2, b1, b2, b3, b4, b5, b6⟩ := s_pal (K := []) 61 q_fu m1 ((a_pr t n 100).2 0).1 ((a_pr t n 100).2 0).2.1 ((a_pr t n 100).2 0).2.2 a2 (ht.fm a3) a5 (by omega) (by omega) (by show 0 + _ + _ ≤ 63; omega)
  unfold f_X12_all
  rw [a1, Option.bind_some]
  dsimp only
  rw [w_let]
  refine ⟨m2, b1, b2, a3.trans b3, b5, ?_⟩
  have b6 : (a_txt t n).2.2.length + ((a_pr t n 100).2 0).2.1 ≤ ((a_pr t n 100).2 0).2.2.length + (a_txt t n).2.1 := b6
  omega
/-- how the text ends, for the class -/
def a_S0 : a_S := ([], [], true, 0, 0)
def a_gda (t : Nat → Nat) (n : Nat) (r : Bool) (q : Nat) (D : List Int32) : Prop := (r = true → ∃ C2 P d, a_go t 0 a_S0 q (C2, P, false, d, 0) ∧ C2 ++ P.map a_ng = D.map a_tr ∧ (∀ x ∈ P, 1 ≤ a_lv x) ∧ a_cha D 0 1 ∧ (q < n → a_ex 1 P d (t q))) ∧ (r = false → ∃ S, a_go t 0 a_S0 q S ∧ (q = n → S.2.2.1 = true ∨ 0 < S.2.2.2.2) ∧ (q < n → a_stp S (t q) = none))
theorem a_gdd.top {t : Nat → Nat} {n q p : Nat} {r : Bool} {D E : List Int32} (h : a_gdd t n 1 (D.map a_tr) [] 0 p r q E 1) (hg : a_go t 0 a_S0 p (D.map a_tr, [], true, 0, 0)) (hc : a_cha D 0 0) : a_gda t n r q (D ++ E) := by
  refine ⟨fun hr => ?_, fun hr => ?_⟩
  · obtain ⟨C2, P, d, h1, h2, h3, h4, h5⟩ := h.1 hr
    rw [List.append_nil] at h1
    exact ⟨C2, P, d, hg.tr h1, by rw [h2, List.map_append], h3, a_cha_app hc (h4 0), h5⟩
  · obtain ⟨S, h1, h2⟩ := h.2 hr
    exact ⟨S, hg.tr h1, h2⟩
theorem a_pal_g {t : Nat → Nat} {n : Nat} (ht : ∀ j, j < n → t j < 256) (hn : n ≤ 60) : ∀ (k : Nat) (r : Bool) (p : Nat) (D : List Int32), p ≤ n → n - p < k → a_gda t n r p D → (¬ ((a_pal t n k (r, p, D)).1 = true ∧ (a_pal t n k (r, p, D)).2.1 = n) → ∃ S, a_go t 0 a_S0 (a_pal t n k (r, p, D)).2.1 S ∧ ((a_pal t n k (r, p, D)).2.1 = n → S.2.2.1 = true ∨ 0 < S.2.2.2.2) ∧ ((a_pal t n k (r, p, D)).2.1 < n → a_stp S (t (a_pal t n k (r, p, D)).2.1) = none)) ∧ ((a_pal t n k (r, p, D)).1 = true ∧ (a_pal t n k (r, p, D)).2.1 = n → ∃ C2 P d, a_go t 0 a_S0 n (C2, P, false, d, 0) ∧ C2 ++ P.map a_ng = (a_pal t n k (r, p, D)).2.2.map a_tr ∧ (∀ x ∈ P, 1 ≤ a_lv x) ∧ a_cha (a_pal t n k (r, p, D)).2.2 0 1) := by
  intro k
  induction k with
  | zero => intro r p D _ h; exact absurd h (Nat.not_lt_zero _)
  | succ k ih =>
    intro r p D hp hk hg
    rw [a_pal_s]
    dsimp only
    cases r
    · rw [if_neg (fun q => absurd q.1 (by decide))]
      exact ⟨fun _ => hg.2 rfl, fun q => absurd q.1 (by show ¬ (false = true); decide)⟩
    · obtain ⟨C2, P, d, h1, h2, h3, h4, h5⟩ := hg.1 rfl
      by_cases z : p < n ∧ t p = 59
      · rw [if_pos ⟨rfl, z⟩]
        obtain ⟨b1, b2, b3⟩ := (a_rec_g ht hn 100).2 (p + 1) (by omega) (by omega)
        refine ih _ _ _ b2 (by omega) ?_
        refine (b3 ((D ++ [-300]).map a_tr) [] 0 (fun _ => by show a_lv 40 < 1; decide)).top ?_ (a_cha_app h4 (a_ch1 (Or.inr (Or.inr (Or.inr (Or.inr ⟨rfl, rfl, rfl⟩))))))
        refine h1.st ?_
        have ea := a_ul_all (v := 1) (W := []) (by show a_lv 40 < 1; decide) P C2 h3
        rw [List.append_nil] at ea
        unfold a_stp
        dsimp only
        rw [if_neg (show ¬ (false = true) by decide), if_neg (by omega), if_neg (by omega), if_pos z.2, if_pos rfl, ea, h2, List.map_append]
        rfl
      · rw [if_neg (fun q => z q.2)]
        refine ⟨fun hz => ⟨_, h1, fun q => absurd ⟨rfl, q⟩ hz, fun hq => ?_⟩, fun q => ⟨C2, P, d, by rw [← show p = n from q.2]; exact h1, h2, h3, h4⟩⟩
        have := a_stp_no (C := C2) (W := []) (o := 0) (h5 hq) (fun _ => rfl) (fun q => absurd ⟨hq, q⟩ z)
        rw [List.append_nil] at this
        exact this
theorem a_txt_g {t : Nat → Nat} {n : Nat} (ht : ∀ j, j < n → t j < 256) (hn : n ≤ 60) : (¬ ((a_txt t n).1 = true ∧ (a_txt t n).2.1 = n) → ∃ S, a_go t 0 a_S0 (a_txt t n).2.1 S ∧ ((a_txt t n).2.1 = n → S.2.2.1 = true ∨ 0 < S.2.2.2.2) ∧ ((a_txt t n).2.1 < n → a_stp S (t (a_txt t n).2.1) = none)) ∧ ((a_txt t n).1 = true ∧ (a_txt t n).2.1 = n → ∃ C2 P d, a_go t 0 a_S0 n (C2, P, false, d, 0) ∧ C2 ++ P.map a_ng = (a_txt t n).2.2.map a_tr ∧ (∀ x ∈ P, 1 ≤ a_lv x) ∧ a_cha (a_txt t n).2.2 0 1) := by
  obtain ⟨b1, b2, b3⟩ := (a_rec_g ht hn 100).2 0 (Nat.zero_le _) (by omega)
  exact a_pal_g ht hn 61 _ _ _ b2 (by omega) ((b3 [] [] 0 (fun _ => by show a_lv 40 < 1; decide)).top (D := []) a_go.rf rfl)
/-- a chain of marks is in an order that can be worked -/
theorem a_cha_wf : ∀ (D : List Int32) (d d' : Nat), a_cha D d d' → ∃ δ : Nat → Nat, δ 0 = d ∧ δ D.length = d' ∧ ∀ i, i < D.length → a_wfs (D.getD i 0) (δ i) (δ (i + 1))
  | [], d, d', h => ⟨fun _ => d, rfl, h, fun i hi => absurd hi (Nat.not_lt_zero _)⟩
  | x :: D, d, d', h => by
    obtain ⟨e, h1, h2⟩ := h
    obtain ⟨δ, g1, g2, g3⟩ := a_cha_wf D e d' h2
    refine ⟨fun i => if i = 0 then d else δ (i - 1), rfl, ?_, fun i hi => ?_⟩
    · show δ D.length = d'
      exact g2
    · cases i with
      | zero =>
        show a_wfs x d (δ 0)
        rw [g1]; exact h1
      | succ i =>
        show a_wfs (D.getD i 0) (δ i) (δ (i + 1))
        exact g3 i (Nat.lt_of_succ_lt_succ hi)
theorem a_cha_wf2 {D : List Int32} (h : a_cha D 0 1) : a_wf (fun i => D.getD i 0) D.length := a_cha_wf D 0 1 h
/-! the class -/
theorem s_fw_go {c : Nat → Nat} {t : Nat → Nat} {N nf : Nat} {M : q_MM} {S : a_S} (hN : N ≤ 100) (hT : M 7 1 = nI N) (ht : ∀ j, j < N → M 57 j = nI (t j) ∧ t j < 256) (h : a_rd2 0 M S) : ∀ (k : Nat) (S' : a_S), a_run t k S 0 = some S' → k ≤ 60 → k ≤ N → k < nf → ∃ M', b_X8_firstWrong_31 c nf 7 0 M = b_X8_firstWrong_31 c (nf - k) 7 (nI k) M' ∧ a_rd2 k M' S' ∧ a_w8 M M'
  | 0, S', hr, _, _, _ => by
    have hr : some S = some S' := hr
    cases hr
    exact ⟨M, rfl, h, a_w8.rf⟩
  | k + 1, S', hr, h60, hkN, hf => by
    rw [a_run] at hr
    cases e : a_run t k S 0 with
    | none => rw [e] at hr; cases hr
    | some S1 =>
      rw [e, Option.bind_some, Nat.zero_add] at hr
      obtain ⟨M1, a1, a2, a3⟩ := s_fw_go (c := c) (nf := nf) hN hT ht h k S1 e (by omega) (by omega) (by omega)
      obtain ⟨tk, ts⟩ := ht k (by omega)
      have hT1 : M1 7 1 = nI N := by rw [a3 7 1 (by decide) (by decide) (by decide) (by decide) (by omega)]; exact hT
      have ht1 : M1 57 k = nI (t k) := by rw [a3 57 k (by decide) (by decide) (by decide) (by decide) (by omega)]; exact tk
      obtain ⟨M2, b1, b2, b3⟩ := (s_takesR (c := c) a2 (by omega) ts).1 S' hr
      refine ⟨M2, ?_, b2, a3.trans b3⟩
      rw [a1, show nf - k = (nf - (k + 1)) + 1 by omega, b_X8_firstWrong_31, w_ck (show qTX c 7 = 14 from rfl), hT1, if_neg (nI_ge (by omega) (by omega)), if_neg (show ¬ (60 : Int32) ≤ nI k from nI_ge (b := 60) (by omega) (by decide)), s_get1 (r := 57) (N := 100) (k := N) (by decide) hT1 hN (by omega), Option.bind_some, ht1, b1, Option.bind_some, if_neg (show ¬ (1 : Int32) = 0 by decide), nI_1]
theorem s_fw {c : Nat → Nat} {t : Nat → Nat} {N n : Nat} {M : q_MM} (hN : N ≤ 100) (en : n = (if 60 < N then 60 else N)) (hT : M 7 1 = nI N) (ht : ∀ j, j < N → M 57 j = nI (t j) ∧ t j < 256) : (((a_txt t n).1 = true ∧ (a_txt t n).2.1 = n) ∧ N ≤ 60 → ∃ M', f_X8_firstWrong c M 7 = some (-1, M') ∧ a_w8 M M' ∧ M' 31 1 = nI ((a_txt t n).2.2.length + 1) ∧ (∀ j, j < (a_txt t n).2.2.length + 1 → M' 81 j = ((a_txt t n).2.2.map a_tr ++ [-59]).getD j 0)) ∧ (¬ (((a_txt t n).1 = true ∧ (a_txt t n).2.1 = n) ∧ N ≤ 60) → ∃ M', f_X8_firstWrong c M 7 = some (nI (if (a_txt t n).1 = true ∧ (a_txt t n).2.1 = n then 60 else (a_txt t n).2.1), M') ∧ a_w8 M M') := by
  have hfu := q_fu_le
  have hn : n ≤ 60 := by rw [en]; split <;> omega
  have hnN : n ≤ N := by rw [en]; split <;> omega
  obtain ⟨g1, g2⟩ := a_txt_g (t := t) (n := n) (fun j hj => (ht j (by omega)).2) hn
  obtain ⟨M0, hM0⟩ : ∃ M0, M0 = q_u2 (q_u2 (q_u2 (q_u2 (q_u2 M 31 1 0) 32 1 0) 28 2 1) 28 3 0) 28 4 0 := ⟨_, rfl⟩
  have w0 : a_w8 M M0 := by
    rw [hM0]
    exact ((((a_w8.rf.u2 (by omega)).u2 (by omega)).u2 (by omega)).u2 (by omega)).u2 (by omega)
  have start : f_X8_firstWrong c M 7 = b_X8_firstWrong_31 c q_fu 7 0 M0 := by
    unfold f_X8_firstWrong
    rw [s_clear (o := 31) (r := 81) (N := 61) (by decide), Option.bind_some, s_clear (o := 32) (r := 82) (N := 60) (by decide), Option.bind_some, w_bl1, w_let, w_let, w_let, hM0]
  have r0 : a_rd2 0 M0 a_S0 := by
    rw [hM0]
    refine ⟨?_, fun j hj => absurd hj (Nat.not_lt_zero _), ?_, fun j hj => absurd hj (Nat.not_lt_zero _), fun x hx => (by cases hx), ?_, ?_, q_u2_eq, Nat.le_refl _, Nat.zero_le _, Nat.le_refl _⟩
    · rw [q_u2_ne (by omega), q_u2_ne (by omega), q_u2_ne (by omega), q_u2_ne (by omega), q_u2_eq]; rfl
    · rw [q_u2_ne (by omega), q_u2_ne (by omega), q_u2_ne (by omega), q_u2_eq]; rfl
    · rw [q_u2_ne (by omega), q_u2_ne (by omega), q_u2_eq]; rfl
    · rw [q_u2_ne (by omega), q_u2_eq]; rfl
  have hT0 : M0 7 1 = nI N := by rw [w0 7 1 (by decide) (by decide) (by decide) (by decide) (by omega)]; exact hT
  have ht0 : ∀ j, j < N → M0 57 j = nI (t j) ∧ t j < 256 := fun j hj => ⟨by rw [w0 57 j (by decide) (by decide) (by decide) (by decide) (by omega)]; exact (ht j hj).1, (ht j hj).2⟩
  have along : ∀ (q : Nat) (S : a_S), a_go t 0 a_S0 q S → q ≤ n → ∃ M1, f_X8_firstWrong c M 7 = b_X8_firstWrong_31 c (q_fu - q - 1 + 1) 7 (nI q) M1 ∧ a_rd2 q M1 S ∧ a_w8 M M1 ∧ M1 7 1 = nI N ∧ (∀ j, j < N → M1 57 j = nI (t j) ∧ t j < 256) := fun q S hg hq => by
    obtain ⟨k, e, hr⟩ := hg
    rw [Nat.zero_add] at e
    subst e
    obtain ⟨M1, a1, a2, a3⟩ := s_fw_go (c := c) (nf := q_fu) hN hT0 ht0 r0 q S hr (by omega) (by omega) (by omega)
    refine ⟨M1, by rw [start, a1, show q_fu - q - 1 + 1 = q_fu - q by omega], a2, w0.trans a3, ?_, fun j hj => ⟨?_, (ht j hj).2⟩⟩
    · rw [a3 7 1 (by decide) (by decide) (by decide) (by decide) (by omega)]; exact hT0
    · rw [a3 57 j (by decide) (by decide) (by decide) (by decide) (by omega)]; exact (ht0 j hj).1
  refine ⟨fun hb => ?_, fun hb => ?_⟩
  · have nN : n = N := by rw [en, if_neg (by omega)]
    obtain ⟨C2, P, d, h1, h2, h3, h4⟩ := g2 hb.1
    obtain ⟨M1, a1, a2, a3, a4, a5⟩ := along n _ h1 (Nat.le_refl _)
    obtain ⟨M2, b1, b2, b3, b4⟩ := s_unload (c := c) (v := 1) (by decide) hn a2
    have ea := a_ul_all (v := 1) (W := []) (by show a_lv 40 < 1; decide) P C2 h3
    rw [List.append_nil] at ea
    rw [ea, h2] at b2
    dsimp only at b2
    have sz : ((a_txt t n).2.2.map a_tr).length + 0 ≤ n := b2.2.2.2.2.2.2.2.2.1
    obtain ⟨M3, d1, d2, d3, d4⟩ := s_addC (c := c) (v := -59) b2 (by omega)
    have d2 := d2 (n + 1) (by show _ + 1 + 0 ≤ _; omega) (Nat.zero_le _)
    refine ⟨M3, ?_, (a3.trans b3).trans d3, ?_, fun j hj => ?_⟩
    · rw [a1, b_X8_firstWrong_31, w_ck (show qTX c 7 = 14 from rfl), a4, if_pos (nI_le (by omega) (by omega)), show M1 28 2 = 0 from a2.2.2.2.2.2.1, if_pos rfl, show M1 28 4 = 0 from a2.2.2.2.2.2.2.2.1, if_pos (show (0 : Int32) ≤ 0 by decide)]
      unfold f_X8_endExpression
      rw [show f_X8_unload c M1 (1 : Int32) = some M2 from b1, Option.bind_some, d1, Option.bind_some, Option.bind_some]
    · have := d2.1
      rw [List.length_append, List.length_map] at this
      exact this
    · have := d2.2.1 j (by rw [List.length_append, List.length_map]; exact hj)
      exact this
  · by_cases z : (a_txt t n).1 = true ∧ (a_txt t n).2.1 = n
    · rw [if_pos z]
      have N60 : 60 < N := by
        by_cases q : 60 < N
        · exact q
        · exact absurd ⟨z, by omega⟩ hb
      have nN : n = 60 := by rw [en, if_pos N60]
      obtain ⟨C2, P, d, h1, h2, h3, h4⟩ := g2 z
      obtain ⟨M1, a1, a2, a3, a4, a5⟩ := along n _ h1 (Nat.le_refl _)
      refine ⟨M1, ?_, a3⟩
      rw [a1, b_X8_firstWrong_31, w_ck (show qTX c 7 = 14 from rfl), a4, if_neg (nI_ge (by omega) (by omega)), nN, if_pos (show (60 : Int32) ≤ nI 60 by decide)]
      rfl
    · rw [if_neg z]
      obtain ⟨S, h1, h2, h3⟩ := g1 z
      have ln : (a_txt t n).2.1 ≤ n := by
        obtain ⟨b1, b2, -⟩ := (a_rec_g (t := t) (n := n) (fun j hj => (ht j (by omega)).2) hn 100).2 0 (Nat.zero_le _) (by omega)
        have : ∀ (k : Nat) (r : Bool) (p : Nat) (D : List Int32), p ≤ n → (a_pal t n k (r, p, D)).2.1 ≤ n := by
          intro k
          induction k with
          | zero => intro r p D h; exact h
          | succ k ih =>
            intro r p D h
            rw [a_pal_s]
            dsimp only
            by_cases z : r = true ∧ p < n ∧ t p = 59
            · rw [if_pos z]
              exact ih _ _ _ ((a_rec_g (t := t) (n := n) (fun j hj => (ht j (by omega)).2) hn 100).2 (p + 1) (by omega) (by omega)).2.1
            · rw [if_neg z]
              exact h
        exact this 61 _ _ _ b2
      obtain ⟨q, hq⟩ : ∃ q, (a_txt t n).2.1 = q := ⟨_, rfl⟩
      rw [hq] at h1 h2 h3 ln ⊢
      obtain ⟨M1, a1, a2, a3, a4, a5⟩ := along q S h1 ln
      obtain ⟨C, W, w, d, o⟩ := S
      by_cases zn : q < n
      · obtain ⟨M2, b1, b2⟩ := (s_takesR (c := c) a2 (by omega) (a5 q (by omega)).2).2 (h3 zn)
        refine ⟨M2, ?_, a3.trans b2⟩
        rw [a1, b_X8_firstWrong_31, w_ck (show qTX c 7 = 14 from rfl), a4, if_neg (nI_ge (by omega) (by omega)), if_neg (show ¬ (60 : Int32) ≤ nI q from nI_ge (b := 60) (by omega) (by decide)), s_get1 (r := 57) (N := 100) (k := N) (by decide) a4 hN (by omega), Option.bind_some, (a5 q (by omega)).1, b1, Option.bind_some, if_pos rfl]
        rfl
      · have qn : q = n := by omega
        refine ⟨M1, ?_, a3⟩
        rw [a1, b_X8_firstWrong_31, w_ck (show qTX c 7 = 14 from rfl), a4]
        by_cases z6 : 60 < N
        · have : n = 60 := by rw [en, if_pos z6]
          rw [if_neg (nI_ge (by omega) (by omega)), show q = 60 by omega, if_pos (show (60 : Int32) ≤ nI 60 by decide)]
          rfl
        · have nN : n = N := by rw [en, if_neg z6]
          rw [if_pos (nI_le (by omega) (by omega))]
          have e79 : b_X8_firstWrong_79 c 7 M1 = some (nI q, M1) := by
            unfold b_X8_firstWrong_79
            rw [w_ck (show qTX c 7 = 14 from rfl), a4, show q = N by omega]
          have e2 : M1 28 2 = if w = true then 1 else 0 := a2.2.2.2.2.2.1
          have e4 : M1 28 4 = nI o := a2.2.2.2.2.2.2.2.1
          have oq : o ≤ q := a2.2.2.2.2.2.2.2.2.2.2
          rw [e2, e4, e79]
          rcases h2 qn with y | y
          · have y : w = true := y
            rw [if_pos y, if_neg (show ¬ (1 : Int32) = 0 by decide)]
          · have y : 0 < o := y
            rw [if_neg (show ¬ nI o ≤ (0 : Int32) from nI_nle y (by omega))]
            split <;> rfl
