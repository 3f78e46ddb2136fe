/-! sign, move -/
def a_sg (x : Int32) (i : Nat) : Int32 := (x >>> (nI (24 - 8 * i) &&& 31)) &&& 255
theorem nI_nl2 (a b : Nat) (ha : a < 2 ^ 31) (hb : b < 2 ^ 31) (h : b < a) : ¬ nI a ≤ nI b := by
  rw [i_le, nI_toInt ha, nI_toInt hb]
  omega
theorem a_sg_lt (x : Int32) (i : Nat) : a_lt (a_sg x i) 256 := pk_andE _ 8 rfl
theorem a_sgU (x : Int32) {i : Nat} (_ : i < 4) : (x.toUInt32 >>> ((nI (24 - 8 * i)).toUInt32 &&& Int32.toUInt32 31)).toInt32 &&& 255 = a_sg x i := by
  refine b_ext fun j hj => ?_
  unfold a_sg
  rw [b_and, b_and, b_255, b_ushr _ (by omega), b_sshr _ (by omega) _ hj]
  by_cases z : j < 8
  · rw [if_pos (by omega)]
  · simp [z]
theorem a_sg3 (x : Int32) : x &&& 255 = a_sg x 3 := by
  refine b_ext fun j hj => ?_
  unfold a_sg
  rw [b_and, b_and, b_255, b_sshr _ (by omega) _ hj, if_pos (by omega)]
  simp
theorem s_sign1 {M : q_MM} {x : Int32} {k i nf : Nat} (hk : M 5001 42 = nI k) (h : k ≤ 96) (hi : i < 4) : b_X12_sign_18 (nf + 1) x (nI i) M = b_X12_sign_18 nf x (nI (i + 1)) (q_u2 M 5051 (k + i) (a_sg x i)) := by
  rw [b_X12_sign_18, if_neg (show ¬ (4 : Int32) ≤ nI i from nI_ge hi (by decide)), hk, nI_add, w_as (by omega) (by decide), nI_1, show (8 : Int32) = nI 8 from rfl, pk_mul, show (24 : Int32) = nI 24 from rfl, pk_sub (by omega)]
  rfl
theorem s_sign {m : q_MM} {x : Int32} {k : Nat} (hk : m 5001 42 = nI k) (h : k ≤ 96) : b_X12_sign_18 q_fu x 0 m = some (nI (k + 4), q_u2 (q_u2 (q_u2 (q_u2 (q_u2 m 5051 k (a_sg x 0)) 5051 (k + 1) (a_sg x 1)) 5051 (k + 2) (a_sg x 2)) 5051 (k + 3) (a_sg x 3)) 5001 42 (nI (k + 4))) := by
  obtain ⟨f, hf⟩ : ∃ f, q_fu = f + 5 := ⟨q_fu - 5, by have := q_fu_le; omega⟩
  rw [hf, show (0 : Int32) = nI 0 from rfl, s_sign1 hk h (by decide), s_sign1 (by rw [q_u2_ne (by omega)]; exact hk) h (by decide), s_sign1 (by rw [q_u2_ne (by omega), q_u2_ne (by omega)]; exact hk) h (by decide), s_sign1 (by rw [q_u2_ne (by omega), q_u2_ne (by omega), q_u2_ne (by omega)]; exact hk) h (by decide), b_X12_sign_18, if_pos (by decide), w_let, q_u2_eq, q_u2_ne (by omega), q_u2_ne (by omega), q_u2_ne (by omega), q_u2_ne (by omega), hk, show (4 : Int32) = nI 4 from rfl, nI_add]
  rfl
theorem pub_sign {c n : Nat → Nat} {m M : q_MM} (h : a_X c n m M) (a1 : Int32) : a_T c (f_X11_sign c M a1) (f_X12_sign m a1) := by
  unfold f_X11_sign f_X12_sign
  simp only [w_let]
  replace h := h.t0
  generalize q_u2 m 5001 0 0 = m at h ⊢
  obtain ⟨k, k1, k2, k3, k4⟩ := show a_B13 c n m M from h 13
  rw [k2, k3]
  by_cases z : k ≤ 96
  · rw [if_pos (show nI k ≤ 96 from nI_le z (by decide)), if_pos (show nI k ≤ 96 from nI_le z (by decide)), s_sign k3 z]
    rw [show ((Int32.toUInt32 a1 >>> (Int32.toUInt32 24 &&& Int32.toUInt32 31)).toInt32 &&& 255) = a_sg a1 0 from a_sgU a1 (i := 0) (by decide), show ((Int32.toUInt32 a1 >>> (Int32.toUInt32 16 &&& Int32.toUInt32 31)).toInt32 &&& 255) = a_sg a1 1 from a_sgU a1 (i := 1) (by decide), show ((Int32.toUInt32 a1 >>> (Int32.toUInt32 8 &&& Int32.toUInt32 31)).toInt32 &&& 255) = a_sg a1 2 from a_sgU a1 (i := 2) (by decide), a_sg3]
    rw [s_add (r := 57) (N := 100) (by decide) k2 (by omega), Option.bind_some, s_add (r := 57) (N := 100) (by decide) q_u2_eq (by omega), Option.bind_some, s_add (r := 57) (N := 100) (by decide) q_u2_eq (by omega), Option.bind_some, s_add (r := 57) (N := 100) (by decide) q_u2_eq (by omega), Option.bind_some, q_u2_eq]
    refine ⟨_, n, _, _, rfl, rfl, ?_⟩
    refine h.wr [13] (a_wM.s1 (a_wM.s1 (a_wM.s1 (a_wM.s1 (a_wM.s1 (a_wM.s1 (a_wM.s1 (a_wM.s1 a_wM.rf rfl) rfl) rfl) rfl) rfl) rfl) rfl) rfl) (a_wS.s1 (a_wS.s1 (a_wS.s1 (a_wS.s1 (a_wS.s1 a_wS.rf rfl) rfl) rfl) rfl) rfl) (a_one ?_)
    refine ⟨k + 4, by omega, q_u2_eq, q_u2_eq, fun i hi => ?_⟩
    have g0 := a_sg_lt a1 0
    have g1 := a_sg_lt a1 1
    have g2 := a_sg_lt a1 2
    have g3 := a_sg_lt a1 3
    by_cases z0 : i < k
    · have := k4 i z0
      simpa [q_u2_at, show ¬ i = k by omega, show ¬ i = k + 1 by omega, show ¬ i = k + 2 by omega, show ¬ i = k + 3 by omega, show ¬ i = k + 1 + 1 by omega, show ¬ i = k + 1 + 1 + 1 by omega] using this
    · rcases (show i = k ∨ i = k + 1 ∨ i = k + 2 ∨ i = k + 3 by omega) with rfl | rfl | rfl | rfl <;> simp [q_u2_at, g0, g1, g2, g3, show ∀ i : Nat, ¬ i = i + 1 + 1 from fun i => by omega, show ∀ i : Nat, ¬ i = i + 1 + 1 + 1 from fun i => by omega]
  · rw [if_neg (show ¬ nI k ≤ 96 from nI_nl2 k 96 (by omega) (by omega) (by omega)), if_neg (show ¬ nI k ≤ 96 from nI_nl2 k 96 (by omega) (by omega) (by omega))]
    exact a_T.no h (-1) rfl rfl
theorem pub_move {c n : Nat → Nat} {m M : q_MM} (h : a_X c n m M) (a1 a2 a3 : Int32) : a_T c (f_X11_move c M a1 a2 a3) (f_X12_move m a1 a2 a3) := by
  unfold f_X11_move f_X12_move
  simp only [w_let]
  replace h := h.t0
  generalize q_u2 m 5001 0 0 = m at h ⊢
  have hC := h.C
  by_cases z1 : a_here c m a1
  · obtain ⟨p, hp, rfl, hs⟩ := z1
    rw [s_present1 h hp hs, h.isHere1 hp hs, Option.bind_some, Option.bind_some, if_neg (by omega), if_neg (by decide)]
    by_cases z2 : a_lt a2 (c 1)
    · obtain ⟨w, hw, rfl⟩ := z2
      rw [s_wallAt1 h hw, h.isWall1 hw, Option.bind_some, Option.bind_some, if_neg (by omega), if_neg (by decide)]
      have h16 : a_B16 c n m M := h 16
      obtain ⟨⟨k, k1, k2, k3, k4⟩, ⟨k', k1', k2', k3', k4'⟩, ⟨k'', k1'', k2'', k3'', k4''⟩, hd⟩ := id h16
      have e1 : k' = k := nI_inj (by omega) (by omega) (k3'.symm.trans k3)
      have e2 : k'' = k := nI_inj (by omega) (by omega) (k3''.symm.trans k3)
      subst e1 e2
      have e3 := s_find (c := c) (v := nI p) (o := 39) (r := 89) (N := 8) (by decide) k2 k1
      have e4 := s_isThere (M := m) (o := 5077) (k := k'') (v := nI p) (N := 8) rfl rfl (by decide) k1
      rw [k3, e4, e3, Option.bind_some, Option.bind_some]
      by_cases z3 : a_rg a3 (-1000) 4000
      · have e5 : f_X11_within c M a3 (-1000) 4000 = some 1 := s_within1 z3 rfl rfl
        have e6 : f_X12_in m (Int32.toInt64 a3) (-1000) 4000 = some 1 := s_in1 z3 rfl rfl
        rw [e5, e6, Option.bind_some, if_neg (show ¬ (1 : Int32) = 0 by decide)]
        by_cases z4 : ∃ j, j < k'' ∧ m 5077 j = nI p
        · rw [a_ifp z4, if_neg (show ¬ (1 : Int32) = 0 by decide)]
          obtain ⟨j, hj, hje⟩ := z4
          rw [if_neg (fun z => (a_fnd_no (by omega)).mp z j (Nat.zero_le _) (by omega) ((k4 j hj).1.trans hje))]
          exact a_T.no h (-1) rfl rfl
        · rw [a_ifn z4, if_pos (rfl : (0 : Int32) = 0), Option.bind_some, if_neg (show ¬ (1 : Int32) = 0 by decide), if_pos ((a_fnd_no (by omega)).mpr (fun j _ hj e => z4 ⟨j, by omega, (k4 j (by omega)).1.symm.trans e⟩))]
          unfold b_X11_move_55
          rw [if_neg (by decide), k2]
          by_cases z5 : k'' < 8
          · rw [if_pos (show nI k'' < 8 from nI_lt z5 (by decide)), if_neg (show ¬ nI k'' = 8 from fun z => by have := nI_inj (by omega) (by decide) (show nI k'' = nI 8 from z); omega)]
            rw [s_add (r := 89) (N := 8) (by decide) k2 z5, Option.bind_some, s_add (r := 90) (N := 8) (by decide) (by rw [q_u2_ne (by omega), q_u2_ne (by omega)]; exact k2') z5, Option.bind_some, s_add (r := 91) (N := 8) (by decide) (by rw [q_u2_ne (by omega), q_u2_ne (by omega), q_u2_ne (by omega), q_u2_ne (by omega)]; exact k2'') z5, Option.bind_some]
            have g1 : q_u2 m 5077 k'' (nI p) 5001 66 = nI k'' := (q_u2_ne (by omega)).trans k3
            have g2 : q_u2 (q_u2 m 5077 k'' (nI p)) 5078 k'' (nI w) 5001 66 = nI k'' := (q_u2_ne (by omega)).trans g1
            have g3 : q_u2 (q_u2 (q_u2 m 5077 k'' (nI p)) 5078 k'' (nI w)) 5079 k'' a3 5001 66 = nI k'' := (q_u2_ne (by omega)).trans g2
            rw [w_as z5 (by decide), g1, w_as z5 (by decide), g2, w_as z5 (by decide), g3]
            refine ⟨_, n, _, q_u2 (q_u2 (q_u2 (q_u2 m 5077 k'' (nI p)) 5078 k'' (nI w)) 5079 k'' a3) 5001 66 (nI k'' + 1), rfl, ?_, ?_⟩
            · simp [q_u2_at, nI_1]
            · refine h.wr [16] (a_wM.s1 (a_wM.s1 (a_wM.s1 (a_wM.s1 (a_wM.s1 (a_wM.s1 a_wM.rf rfl) rfl) rfl) rfl) rfl) rfl) (a_wS.s1 (a_wS.s1 (a_wS.s1 (a_wS.s1 a_wS.rf rfl) rfl) rfl) rfl) (a_one ?_)
              rw [nI_1]
              refine ⟨⟨k'' + 1, z5, by simp [q_u2_at], by simp [q_u2_at], fun i hi => ?_⟩, ⟨k'' + 1, z5, by simp [q_u2_at], by simp [q_u2_at], fun i hi => ?_⟩, ⟨k'' + 1, z5, by simp [q_u2_at], by simp [q_u2_at], fun i hi => ?_⟩, ?_⟩
              · by_cases e : i = k''
                · subst e
                  simp [q_u2_at]
                  exact ⟨p, hp, rfl⟩
                · have := k4 i (by omega)
                  simpa [q_u2_at, e] using this
              · by_cases e : i = k''
                · subst e
                  simp [q_u2_at]
                  exact ⟨w, hw, rfl⟩
                · have := k4' i (by omega)
                  simpa [q_u2_at, e] using this
              · by_cases e : i = k''
                · subst e
                  simp [q_u2_at]
                  exact z3
                · have := k4'' i (by omega)
                  simpa [q_u2_at, e] using this
              · rw [q_u2_eq, nI_clamp (by omega)]
                rw [k3, nI_clamp (by omega)] at hd
                refine a_dis_push hd (fun i hi => ?_) (fun i hi => ?_)
                · simp [q_u2_at, show ¬ i = k'' by omega]
                · simp [q_u2_at]
                  exact fun e => z4 ⟨i, hi, e⟩
          · have : k'' = 8 := by omega
            subst this
            rw [if_neg (by decide), if_pos (show nI 8 = 8 from rfl)]
            exact a_T.no h (-1) rfl rfl
      · have e5 : f_X11_within c M a3 (-1000) 4000 = some 0 := s_within0 z3 rfl rfl
        have e6 : f_X12_in m (Int32.toInt64 a3) (-1000) 4000 = some 0 := s_inn z3 rfl rfl
        rw [e5, e6, Option.bind_some, if_pos rfl, Option.bind_some, if_pos rfl]
        refine a_T.no h (-1) (by simp [b_X11_move_54, b_X11_move_55]) ?_
        split <;> rfl
    · rw [s_wallAt0 h z2, h.isWall0 z2, Option.bind_some, Option.bind_some, if_pos rfl, if_pos rfl]
      exact a_T.no h (-1) (by simp [b_X11_move_54, b_X11_move_55]) rfl
  · rw [s_present0 h z1, h.isHere0 z1, Option.bind_some, Option.bind_some, if_pos rfl, if_pos rfl]
    exact a_T.no h (-1) (by simp [b_X11_move_54, b_X11_move_55]) rfl
