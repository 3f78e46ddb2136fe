/-! tell -/
theorem a_X.fel {c n : Nat → Nat} {m m' M M' : q_MM} (h : a_X c n m M) (hm : ∀ o k, o ≠ 5036 → m' o k = m o k) (hM : ∀ o k, ¬ ((∃ p, p < c 2 ∧ o = 1300 + p) ∧ k = 8) → M' o k = M o k) (h1 : ∀ q, q < c 2 → M' (1300 + q) 8 = m' 5036 q ∧ a_ltm (m' 5036 q) (c 2) ∧ m' 5036 q ≠ nI q) (h2 : ∀ p q, p < c 2 → q < c 2 → m' 5036 p = nI q → m' 5036 q = nI p) : a_X c n m' M' := by
  have hC := h.C.2.2.1
  have h7 : a_B7 c n m M := h 7
  refine h.wr [7] (fun o k => ?_) (fun o k => ?_) (a_one ?_)
  · by_cases e : (∃ p, p < c 2 ∧ o = 1300 + p) ∧ k = 8
    · obtain ⟨⟨p, hp, rfl⟩, rfl⟩ := e
      exact Or.inl (List.mem_singleton.mpr (oM_pic (by omega) (by omega)))
    · exact Or.inr (Or.inr (hM o k e))
  · by_cases e : o = 5036
    · subst e
      exact Or.inl (List.mem_singleton.mpr rfl)
    · exact Or.inr (Or.inr (hm o k e))
  · have f : ∀ o, o ≠ 5036 → m' o = m o := fun o ho => funext fun k => hm o k ho
    refine ⟨hC, (hm _ _ (by decide)).trans h7.2.1, (hM _ _ (by omega)).trans h7.2.2.1, fun p hp => ?_, h2⟩
    have g := h7.2.2.2.1 p hp
    have g1 := h1 p hp
    rw [hM _ _ (by omega), hM _ _ (by omega), hM _ _ (by omega), hM _ _ (by omega), hM _ _ (by omega), hM _ _ (by omega), hM _ _ (by omega), hM _ _ (by omega), hM (1300 + p) 9 (by omega), hM (1300 + p) 10 (by omega), hM (1300 + p) 11 (by omega), f 5029 (by decide), f 5030 (by decide), f 5031 (by decide), f 5032 (by decide), f 5033 (by decide), f 5034 (by decide), f 5035 (by decide), f 5037 (by decide), f 5038 (by decide), f 5039 (by decide)]
    exact ⟨⟨g.1.1, g.1.2.1, g.1.2.2.1, g.1.2.2.2.1, g.1.2.2.2.2.1, g.1.2.2.2.2.2.1, g.1.2.2.2.2.2.2.1, g.1.2.2.2.2.2.2.2.1, g1.1, g.1.2.2.2.2.2.2.2.2.2.1, g.1.2.2.2.2.2.2.2.2.2.2.1, g.1.2.2.2.2.2.2.2.2.2.2.2⟩, g.2.1, g.2.2.1, g.2.2.2.1, g.2.2.2.2.1, g.2.2.2.2.2.1, g.2.2.2.2.2.2.1, g.2.2.2.2.2.2.2.1, g1.2.1, g1.2.2, g.2.2.2.2.2.2.2.2.2.2.1, g.2.2.2.2.2.2.2.2.2.2.2.1, g.2.2.2.2.2.2.2.2.2.2.2.2.1, g.2.2.2.2.2.2.2.2.2.2.2.2.2⟩
theorem a_X.f8 {c n : Nat → Nat} {m M : q_MM} (h : a_X c n m M) {p : Nat} (hp : p < c 2) : M (1300 + p) 8 = m 5036 p ∧ a_ltm (m 5036 p) (c 2) ∧ m 5036 p ≠ nI p := by
  have g := (h 7 : a_B7 c n m M).2.2.2.1 p hp
  exact ⟨g.1.2.2.2.2.2.2.2.2.1, g.2.2.2.2.2.2.2.2.1, g.2.2.2.2.2.2.2.2.2.1⟩
theorem s_part {c n : Nat → Nat} {m M : q_MM} (h : a_X c n m M) {p : Nat} (hp : p < c 2) : ∃ m' M', f_X2_part c M (1300 + p) = some M' ∧ f_X12_parts m (nI p) = some m' ∧ a_X c n m' M' ∧ m' 5036 p = -1 ∧ (∀ q, m 5036 q = -1 → m' 5036 q = -1) := by
  have hC := h.C
  have hC2 := hC.2.2.1
  have hsym := (h 7 : a_B7 c n m M).2.2.2.2
  obtain ⟨e1, e2, e3⟩ := h.f8 hp
  unfold f_X2_part f_X12_parts b_X2_part_18 b_X12_parts_21
  rw [w_ck (t_pic hC hp), w_ld (by omega) (by decide), e1]
  rcases e2 with e | ⟨q, hq, e⟩
  · rw [e, s_picAt0 h (a_ltm1 (by omega)), Option.bind_some, if_pos rfl, w_ck (t_pic hC hp), w_let, if_pos (by decide), w_as (by omega) (by decide)]
    refine ⟨_, _, rfl, rfl, h.fel (fun o k ho => q_u2_ne (fun z => ho z.1)) (fun o k ho => q_u2_ne (fun z => ho ⟨⟨p, hp, z.1⟩, z.2⟩)) (fun r hr => ?_) (fun r t hr ht => ?_), q_u2_eq, fun r hr => ?_⟩
    · by_cases z : r = p
      · subst z
        rw [q_u2_eq, q_u2_eq]
        exact ⟨rfl, Or.inl rfl, fun q => nI_neg1 (by omega) q.symm⟩
      · rw [q_u2_ne (by omega), q_u2_ne (by omega)]
        exact h.f8 hr
    · by_cases z : r = p
      · subst z
        rw [q_u2_eq]
        exact fun q => absurd q.symm (nI_neg1 (by omega))
      · rw [q_u2_ne (by omega)]
        intro hrt
        have := hsym r t hr ht hrt
        by_cases z2 : t = p
        · subst z2
          rw [e] at this
          exact absurd this.symm (nI_neg1 (by omega))
        · rw [q_u2_ne (by omega)]
          exact this
    · by_cases z : r = p
      · rw [z, q_u2_eq]
      · rw [q_u2_ne (by omega)]
        exact hr
  · have hpq : q ≠ p := fun z => e3 (by rw [e, z])
    have hqp := hsym p q hp hq e
    rw [e, s_picAt1 h hq, Option.bind_some, if_neg (by omega), w_ck (t_pic hC hq), w_let, w_ck (t_pic hC hp), w_let, if_neg (nI_pos (by omega)), w_ld (by omega) (by decide), e, w_as (by omega) (by decide), w_as (by omega) (by decide)]
    refine ⟨_, _, rfl, rfl, h.fel (fun o k ho => (q_u2_ne (fun z => ho z.1)).trans (q_u2_ne (fun z => ho z.1))) (fun o k ho => (q_u2_ne (fun z => ho ⟨⟨p, hp, z.1⟩, z.2⟩)).trans (q_u2_ne (fun z => ho ⟨⟨q, hq, z.1⟩, z.2⟩))) (fun r hr => ?_) (fun r t hr ht => ?_), q_u2_eq, fun r hr => ?_⟩
    · by_cases z : r = p
      · subst z
        rw [q_u2_eq, q_u2_eq]
        exact ⟨rfl, Or.inl rfl, fun q => nI_neg1 (by omega) q.symm⟩
      · rw [q_u2_ne (by omega), q_u2_ne (M := q_u2 m 5036 q (-1)) (by omega)]
        by_cases z2 : r = q
        · subst z2
          rw [q_u2_eq, q_u2_eq]
          exact ⟨rfl, Or.inl rfl, fun q => nI_neg1 (by omega) q.symm⟩
        · rw [q_u2_ne (by omega), q_u2_ne (by omega)]
          exact h.f8 hr
    · by_cases z : r = p
      · subst z
        rw [q_u2_eq]
        exact fun q => absurd q.symm (nI_neg1 (by omega))
      · rw [q_u2_ne (by omega)]
        by_cases z1 : r = q
        · subst z1
          rw [q_u2_eq]
          exact fun q => absurd q.symm (nI_neg1 (by omega))
        · rw [q_u2_ne (by omega)]
          intro hrt
          have := hsym r t hr ht hrt
          by_cases z2 : t = p
          · subst z2
            rw [e] at this
            exact absurd (nI_inj (by omega) (by omega) this).symm z1
          · by_cases z3 : t = q
            · subst z3
              rw [hqp] at this
              exact absurd (nI_inj (by omega) (by omega) this).symm z
            · rw [q_u2_ne (by omega), q_u2_ne (by omega)]
              exact this
    · by_cases z : r = p
      · rw [z, q_u2_eq]
      · rw [q_u2_ne (by omega)]
        by_cases z1 : r = q
        · rw [z1, q_u2_eq]
        · rw [q_u2_ne (by omega)]
          exact hr
def a_fv (c : Nat → Nat) (p : Nat) (x : Int32) : Prop := x = -1 ∨ ∃ q, q < c 2 ∧ q ≠ p ∧ x = nI q
theorem s_tellX {c n : Nat → Nat} {m M : q_MM} (h : a_X c n m M) {p : Nat} (hp : p < c 2) (a2 a3 : Int32) : f_X11_tell c M (nI p) a2 a3 = b_X11_tell_44 c a2 a3 (1300 + p) (a_if (a_fv c p a3) 1 0) M := by
  have hC2 := h.C.2.2.1
  unfold f_X11_tell b_X11_tell_39 b_X11_tell_43
  rw [s_picAt1 h hp, Option.bind_some, if_neg (by omega)]
  by_cases z1 : a3 = -1
  · rw [if_pos z1, a_ifp (show a_fv c p a3 from Or.inl z1)]
  · rw [if_neg z1]
    by_cases z2 : a3 = nI p
    · rw [if_pos z2, a_ifn]
      rintro (z | ⟨q, hq, hqp, e⟩)
      · exact z1 z
      · exact hqp (nI_inj (by omega) (by omega) (e.symm.trans z2))
    · rw [if_neg z2]
      by_cases z3 : a_lt a3 (c 2)
      · obtain ⟨q, hq, rfl⟩ := z3
        rw [s_picAt1 h hq, Option.bind_some, if_neg (by omega), a_ifp (show a_fv c p (nI q) from Or.inr ⟨q, hq, fun z => z2 (by rw [z]), rfl⟩)]
      · rw [s_picAt0 h z3, Option.bind_some, if_pos rfl, a_ifn]
        rintro (z | ⟨q, hq, hqp, e⟩)
        · exact z1 z
        · exact z3 ⟨q, hq, e⟩
theorem s_tellM {c n : Nat → Nat} {m M : q_MM} (h : a_X c n m M) {p : Nat} (hp : p < c 2) {a2 : Int32} (h2 : a2 = 0 ∨ a2 = 1) (a3 : Int32) : b_X12_tell_30 (nI p) a2 a3 1 m = b_X12_tell_91 (nI p) a2 a3 (a_if (a_fv c p a3) 1 0) m := by
  have hC2 := h.C.2.2.1
  unfold b_X12_tell_30 b_X12_tell_86 b_X12_tell_90
  rw [if_neg (by decide), if_neg (by rcases h2 with e | e <;> rw [e] <;> decide)]
  by_cases z1 : a3 = -1
  · rw [if_pos z1, a_ifp (show a_fv c p a3 from Or.inl z1)]
  · rw [if_neg z1]
    by_cases z3 : a_lt a3 (c 2)
    · obtain ⟨q, hq, rfl⟩ := z3
      rw [h.isPicture1 hq, Option.bind_some, if_neg (by decide)]
      by_cases z2 : nI q = nI p
      · rw [if_pos z2, a_ifn]
        rintro (z | ⟨r, hr, hrp, e⟩)
        · exact z1 z
        · exact hrp (nI_inj (by omega) (by omega) (e.symm.trans z2))
      · rw [if_neg z2, a_ifp (show a_fv c p (nI q) from Or.inr ⟨q, hq, fun z => z2 (by rw [z]), rfl⟩)]
    · rw [h.isPicture0 z3, Option.bind_some, if_pos rfl, a_ifn]
      rintro (z | ⟨q, hq, hqp, e⟩)
      · exact z1 z
      · exact z3 ⟨q, hq, e⟩
theorem a_X.f9 {c n : Nat → Nat} {m M : q_MM} (h : a_X c n m M) {p : Nat} (hp : p < c 2) {r k : Nat} {v : Int32} (hrk : (r = 5037 ∧ k = 9 ∧ a_ltm v (c 2) ∧ v ≠ nI p) ∨ (r = 5038 ∧ k = 10 ∧ a_rg v 0 1000000) ∨ (r = 5039 ∧ k = 11 ∧ a_rg v 0 400)) : a_X c n (q_u2 m r p v) (q_u2 M (1300 + p) k v) := by
  have hC := h.C.2.2.1
  have h7 : a_B7 c n m M := h 7
  refine h.wr [7] (a_wM.s1 a_wM.rf (oM_pic (by omega) (by omega))) (a_wS.s1 a_wS.rf (by rcases hrk with ⟨rfl, -⟩ | ⟨rfl, -⟩ | ⟨rfl, -⟩ <;> rfl)) (a_one ?_)
  refine ⟨hC, (q_u2_ne (by omega)).trans h7.2.1, (q_u2_ne (by omega)).trans h7.2.2.1, fun q hq => ?_, ?_⟩
  · have g := h7.2.2.2.1 q hq
    by_cases e : q = p
    · subst e
      rcases hrk with ⟨rfl, rfl, v1, v2⟩ | ⟨rfl, rfl, v1⟩ | ⟨rfl, rfl, v1⟩
      · simp [q_u2_at, g, v1, v2]
      · simp [q_u2_at, g, v1]
      · simp [q_u2_at, g, v1]
    · rcases hrk with ⟨rfl, rfl, v1, v2⟩ | ⟨rfl, rfl, v1⟩ | ⟨rfl, rfl, v1⟩ <;> simp [q_u2_at, g, e]
  · have e : q_u2 m r p v 5036 = m 5036 := funext fun k => q_u2_ne (by omega)
    rw [e]
    exact h7.2.2.2.2
theorem pub_tell {c n : Nat → Nat} {m M : q_MM} (h : a_X c n m M) (a1 a2 a3 : Int32) : a_T c (f_X11_tell c M a1 a2 a3) (f_X12_tell m a1 a2 a3) := by
  unfold f_X12_tell
  simp only [w_let]
  replace h := h.t0
  generalize q_u2 m 5001 0 0 = m at h ⊢
  have hC := h.C
  have hC2 := hC.2.2.1
  by_cases z1 : a_lt a1 (c 2)
  · obtain ⟨p, hp, rfl⟩ := z1
    have g := (h 7 : a_B7 c n m M).2.2.2.1 p hp
    have e8 := h.f8 hp
    have e9 : M (1300 + p) 9 = m 5037 p := g.1.2.2.2.2.2.2.2.2.2.1
    have e10 : M (1300 + p) 10 = m 5038 p := g.1.2.2.2.2.2.2.2.2.2.2.1
    have e11 : M (1300 + p) 11 = m 5039 p := g.1.2.2.2.2.2.2.2.2.2.2.2
    rw [s_tellX h hp, h.isPicture1 hp, Option.bind_some, if_neg (show ¬ (1 : Int32) = 0 by decide)]
    by_cases z2 : a_rg a2 0 3
    · rw [s_in1 z2 rfl rfl, Option.bind_some, if_neg (show ¬ (1 : Int32) = 0 by decide)]
      obtain ⟨k, hk, rfl⟩ := (a_lt_i (x := a2) (N := 4) (by decide)).mpr (by unfold a_rg at z2; omega)
      rcases (show k = 0 ∨ k = 1 ∨ k = 2 ∨ k = 3 by omega) with rfl | rfl | rfl | rfl
      · rw [s_tellM h hp (a2 := nI 0) (Or.inl rfl)]
        unfold b_X11_tell_44 b_X12_tell_91
        rw [show nI 0 = 0 from rfl, if_pos rfl]
        by_cases z3 : a_fv c p a3
        · rw [a_ifp z3, if_neg (by decide), if_neg (by decide), w_ck (t_pic hC hp), w_let, e8.1, if_pos rfl, w_ld (by omega) (by decide)]
          unfold b_X12_tell_148 b_X11_tell_172 b_X12_tell_222 f_X2_pair
          obtain ⟨m1, M1, p1, p2, p3, p4, p5⟩ := s_part h hp
          rw [if_pos rfl, p1, p2, Option.bind_some]
          rcases z3 with rfl | ⟨q, hq, hqp, rfl⟩
          · rw [s_picAt0 h (a_ltm1 (by omega)), Option.bind_some, Option.bind_some, if_pos rfl, Option.bind_some, if_pos (by decide)]
            exact ⟨_, n, M1, m1, rfl, rfl, p3⟩
          · obtain ⟨m2, M2, t1, t2, t3, t4, t5⟩ := s_part p3 hq
            have g1 : m2 5036 p = -1 := t5 p p4
            have gM0 : M2 (1300 + q) 0 = nI q := ((t3 7 : a_B7 c n m2 M2).2.2.2.1 q hq).1.1
            have gM1 : M2 (1300 + p) 0 = nI p := ((t3 7 : a_B7 c n m2 M2).2.2.2.1 p hp).1.1
            have gs := (t3 7 : a_B7 c n m2 M2).2.2.2.2
            rw [s_picAt1 h hq, Option.bind_some, Option.bind_some, if_neg (by omega), t1, t2, Option.bind_some, w_ck (t_pic hC hq), w_ck (t_pic hC hp), w_let, w_let, Option.bind_some, if_neg (nI_pos (by omega)), Option.bind_some, w_as (by omega) (by decide), w_as (by omega) (by decide), gM0, q_u2_ne (by omega), gM1]
            refine ⟨_, n, _, _, rfl, rfl, ?_⟩
            refine t3.fel (fun o k ho => (q_u2_ne (fun z => ho z.1)).trans (q_u2_ne (fun z => ho z.1))) (fun o k ho => (q_u2_ne (fun z => ho ⟨⟨q, hq, z.1⟩, z.2⟩)).trans (q_u2_ne (fun z => ho ⟨⟨p, hp, z.1⟩, z.2⟩))) (fun r hr => ?_) (fun r t hr ht => ?_)
            · by_cases z : r = p
              · subst z
                rw [q_u2_ne (by omega), q_u2_eq, q_u2_eq]
                exact ⟨rfl, Or.inr ⟨q, hq, rfl⟩, fun q' => hqp (nI_inj (by omega) (by omega) q')⟩
              · rw [q_u2_ne (M := q_u2 m2 5036 q (nI p)) (by omega)]
                by_cases z2 : r = q
                · subst z2
                  rw [q_u2_eq, q_u2_eq]
                  exact ⟨rfl, Or.inr ⟨p, hp, rfl⟩, fun q' => hqp (nI_inj (by omega) (by omega) q'.symm)⟩
                · rw [q_u2_ne (by omega), q_u2_ne (by omega), q_u2_ne (by omega)]
                  exact t3.f8 hr
            · by_cases z : r = p
              · subst z
                rw [q_u2_eq]
                intro e
                have : q = t := nI_inj (by omega) (by omega) e
                subst this
                rw [q_u2_ne (by omega), q_u2_eq]
              · rw [q_u2_ne (M := q_u2 m2 5036 q (nI p)) (by omega)]
                by_cases z2 : r = q
                · subst z2
                  rw [q_u2_eq]
                  intro e
                  have : p = t := nI_inj (by omega) (by omega) e
                  subst this
                  rw [q_u2_eq]
                · rw [q_u2_ne (by omega)]
                  intro e
                  have := gs r t hr ht e
                  have n1 : t ≠ p := fun z => by
                    rw [z, g1] at this
                    exact nI_neg1 (by omega) this.symm
                  have n2 : t ≠ q := fun z => by
                    rw [z, t4] at this
                    exact nI_neg1 (by omega) this.symm
                  rw [q_u2_ne (by omega), q_u2_ne (by omega)]
                  exact this
        · rw [a_ifn z3, if_pos rfl, if_pos rfl]
          exact a_T.no h (-2) (by simp [b_X11_tell_86, b_X11_tell_112, b_X11_tell_143, b_X11_tell_172]) rfl
      · rw [s_tellM h hp (a2 := nI 1) (Or.inr rfl)]
        unfold b_X11_tell_44 b_X12_tell_91 b_X11_tell_86
        rw [show nI 1 = 1 from rfl, if_neg (by decide), if_pos rfl]
        by_cases z3 : a_fv c p a3
        · rw [a_ifp z3, if_neg (by decide), if_neg (by decide), w_ck (t_pic hC hp), w_let, w_let, e9, if_neg (by decide), if_pos rfl, w_ld (by omega) (by decide)]
          unfold b_X12_tell_148 b_X11_tell_172 b_X12_tell_222
          rw [if_neg (by decide), if_pos rfl, w_as (by omega) (by decide)]
          refine ⟨_, n, _, _, rfl, rfl, h.f9 hp (Or.inl ⟨rfl, rfl, ?_, ?_⟩)⟩
          · rcases z3 with z | ⟨q, hq, hqp, e⟩
            · exact Or.inl z
            · exact Or.inr ⟨q, hq, e⟩
          · rcases z3 with z | ⟨q, hq, hqp, e⟩
            · rw [z]
              exact fun q => nI_neg1 (by omega) q.symm
            · rw [e]
              exact fun q' => hqp (nI_inj (by omega) (by omega) q')
        · rw [a_ifn z3, if_pos rfl, if_pos rfl]
          exact a_T.no h (-2) (by simp [b_X11_tell_112, b_X11_tell_143, b_X11_tell_172]) rfl
      · unfold b_X11_tell_44 b_X12_tell_30 b_X11_tell_86 b_X11_tell_112 b_X12_tell_80 b_X12_tell_86 b_X12_tell_90 b_X12_tell_91
        rw [show nI 2 = 2 from rfl, if_neg (by decide), if_neg (by decide), if_pos rfl, if_neg (by decide), if_pos (by decide), if_pos rfl]
        by_cases z3 : a_rg a3 0 1000000
        · have e3 : f_X11_within c M a3 0 1000000 = some 1 := s_within1 z3 rfl rfl
          have e4 : f_X12_in m (Int32.toInt64 a3) 0 1000000 = some 1 := s_in1 z3 rfl rfl
          rw [e3, e4, Option.bind_some, Option.bind_some, if_neg (show ¬ (1 : Int32) = 0 by decide), if_neg (show ¬ (1 : Int32) = 0 by decide), w_ck (t_pic hC hp), w_let, w_let, e10]
          unfold b_X12_tell_148 b_X11_tell_172 b_X12_tell_222
          rw [if_neg (show ¬ (1 : Int32) = 0 by decide), if_neg (show ¬ (2 : Int32) = 0 by decide), if_neg (show ¬ (2 : Int32) = 1 by decide), if_pos rfl, w_ld (by omega) (by decide), if_neg (show ¬ (2 : Int32) = 0 by decide), if_neg (show ¬ (2 : Int32) = 1 by decide), if_pos rfl, w_as (by omega) (by decide)]
          exact ⟨_, n, _, _, rfl, rfl, h.f9 hp (Or.inr (Or.inl ⟨rfl, rfl, z3⟩))⟩
        · have e3 : f_X11_within c M a3 0 1000000 = some 0 := s_within0 z3 rfl rfl
          have e4 : f_X12_in m (Int32.toInt64 a3) 0 1000000 = some 0 := s_inn z3 rfl rfl
          exact a_T.no h (-2) (by simp [e3, b_X11_tell_143, b_X11_tell_172]) (by simp [e4])
      · unfold b_X11_tell_44 b_X12_tell_30 b_X11_tell_86 b_X11_tell_112 b_X11_tell_143 b_X12_tell_80 b_X12_tell_86 b_X12_tell_90 b_X12_tell_91
        rw [show nI 3 = 3 from rfl, if_neg (by decide), if_neg (by decide), if_neg (by decide), if_pos rfl, if_neg (by decide), if_pos (by decide), if_neg (by decide)]
        by_cases z3 : a_rg a3 0 400
        · have e3 : f_X11_within c M a3 0 400 = some 1 := s_within1 z3 rfl rfl
          have e4 : f_X12_in m (Int32.toInt64 a3) 0 400 = some 1 := s_in1 z3 rfl rfl
          rw [e3, e4, Option.bind_some, Option.bind_some, if_neg (show ¬ (1 : Int32) = 0 by decide), if_neg (show ¬ (1 : Int32) = 0 by decide), w_ck (t_pic hC hp), w_let, w_let, e11]
          unfold b_X12_tell_148 b_X11_tell_172 b_X12_tell_222
          rw [if_neg (show ¬ (1 : Int32) = 0 by decide), if_neg (show ¬ (3 : Int32) = 0 by decide), if_neg (show ¬ (3 : Int32) = 1 by decide), if_neg (show ¬ (3 : Int32) = 2 by decide), w_ld (by omega) (by decide), if_neg (show ¬ (3 : Int32) = 0 by decide), if_neg (show ¬ (3 : Int32) = 1 by decide), if_neg (show ¬ (3 : Int32) = 2 by decide), w_as (by omega) (by decide)]
          exact ⟨_, n, _, _, rfl, rfl, h.f9 hp (Or.inr (Or.inr ⟨rfl, rfl, z3⟩))⟩
        · have e3 : f_X11_within c M a3 0 400 = some 0 := s_within0 z3 rfl rfl
          have e4 : f_X12_in m (Int32.toInt64 a3) 0 400 = some 0 := s_inn z3 rfl rfl
          exact a_T.no h (-2) (by simp [e3, b_X11_tell_172]) (by simp [e4])
    · rw [s_inn z2 rfl rfl, Option.bind_some, if_pos rfl]
      have g0 : ∀ k : Int32, a_rg k 0 3 → a2 ≠ k := fun k hk e => z2 (e ▸ hk)
      exact a_T.no h (-2) (by simp [b_X11_tell_44, b_X11_tell_86, b_X11_tell_112, b_X11_tell_143, b_X11_tell_172, g0 0 (by unfold a_rg; decide), g0 1 (by unfold a_rg; decide), g0 2 (by unfold a_rg; decide), g0 3 (by unfold a_rg; decide)]) (by simp [b_X12_tell_29, b_X12_tell_30, b_X12_tell_90, b_X12_tell_91])
  · refine a_T.no h (-2) ?_ ?_
    · unfold f_X11_tell
      rw [s_picAt0 h z1, Option.bind_some, if_pos rfl]
    · rw [h.isPicture0 z1]
      simp [b_X12_tell_29, b_X12_tell_30, b_X12_tell_90, b_X12_tell_91]
