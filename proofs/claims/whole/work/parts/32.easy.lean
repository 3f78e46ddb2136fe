/-! easy calls -/
theorem a_X.isWall1 {c n : Nat → Nat} {m M : q_MM} (h : a_X c n m M) {w : Nat} (hw : w < c 1) : f_X12_isWall m (nI w) = some 1 := by rw [h.isWall, a_ifp ⟨w, hw, rfl⟩]
theorem a_X.isWall0 {c n : Nat → Nat} {m M : q_MM} (h : a_X c n m M) {x : Int32} (hx : ¬ a_lt x (c 1)) : f_X12_isWall m x = some 0 := by rw [h.isWall, a_ifn hx]
theorem a_X.isPicture1 {c n : Nat → Nat} {m M : q_MM} (h : a_X c n m M) {w : Nat} (hw : w < c 2) : f_X12_isPicture m (nI w) = some 1 := by rw [h.isPicture, a_ifp ⟨w, hw, rfl⟩]
theorem a_X.isPicture0 {c n : Nat → Nat} {m M : q_MM} (h : a_X c n m M) {x : Int32} (hx : ¬ a_lt x (c 2)) : f_X12_isPicture m x = some 0 := by rw [h.isPicture, a_ifn hx]
theorem a_X.isRoom1 {c n : Nat → Nat} {m M : q_MM} (h : a_X c n m M) {w : Nat} (hw : w < n 0) : f_X12_isRoom m (nI w) = some 1 := by rw [h.isRoom, a_ifp ⟨w, hw, rfl⟩]
theorem a_X.isRoom0 {c n : Nat → Nat} {m M : q_MM} (h : a_X c n m M) {x : Int32} (hx : ¬ a_lt x (n 0)) : f_X12_isRoom m x = some 0 := by rw [h.isRoom, a_ifn hx]
theorem s_hasRoom1 {c n : Nat → Nat} {m M : q_MM} (h : a_X c n m M) {w : Nat} (hw : w < n 0) : f_X2_hasRoom c M (nI w) = some 1 := by rw [s_hasRoom h, a_ifp ⟨w, hw, rfl⟩]
theorem s_hasRoom0 {c n : Nat → Nat} {m M : q_MM} (h : a_X c n m M) {x : Int32} (hx : ¬ a_lt x (n 0)) : f_X2_hasRoom c M x = some 0 := by rw [s_hasRoom h, a_ifn hx]
theorem s_within1 {c : Nat → Nat} {M : q_MM} {x lo hi : Int32} {l u : Int} (h : a_rg x l u) (el : lo.toInt = l) (eu : hi.toInt = u) : f_X11_within c M x lo hi = some 1 := by rw [s_within, el, eu, a_ifp h]
theorem s_within0 {c : Nat → Nat} {M : q_MM} {x lo hi : Int32} {l u : Int} (h : ¬ a_rg x l u) (el : lo.toInt = l) (eu : hi.toInt = u) : f_X11_within c M x lo hi = some 0 := by rw [s_within, el, eu, a_ifn h]
theorem s_in1 {M : q_MM} {x : Int32} {lo hi : Int64} {l u : Int} (h : a_rg x l u) (el : lo.toInt = l) (eu : hi.toInt = u) : f_X12_in M (Int32.toInt64 x) lo hi = some 1 := by rw [s_inc, el, eu, a_ifp h]
theorem s_inn {M : q_MM} {x : Int32} {lo hi : Int64} {l u : Int} (h : ¬ a_rg x l u) (el : lo.toInt = l) (eu : hi.toInt = u) : f_X12_in M (Int32.toInt64 x) lo hi = some 0 := by rw [s_inc, el, eu, a_ifn h]
theorem oM_door {d k : Nat} (h : d < 100) : ownM (1000 + d) k = 2 := by unfold ownM; rw [if_neg (by omega), if_pos (by omega)]
theorem oM_wall {d k : Nat} (h : d < 100) : ownM (1100 + d) k = 5 := by unfold ownM; rw [if_neg (by omega), if_neg (by omega), if_pos (by omega)]
theorem oM_light {d k : Nat} (h : d < 100) : ownM (1200 + d) k = 5 := by unfold ownM; rw [if_neg (by omega), if_neg (by omega), if_pos (by omega)]
theorem oM_pic {d k : Nat} (h : d < 100) (hk : k ≤ 11) : ownM (1300 + d) k = 7 := by unfold ownM; rw [if_neg (by omega), if_neg (by omega), if_neg (by omega), if_neg (by omega), if_neg (by omega), if_pos (by omega), if_pos hk]
theorem oM_pic12 {d : Nat} (h : d < 100) : ownM (1300 + d) 12 = 8 := by unfold ownM; rw [if_neg (by omega), if_neg (by omega), if_neg (by omega), if_neg (by omega), if_neg (by omega), if_pos (by omega), if_neg (by omega), if_pos rfl]
theorem oM_pic13 {d : Nat} (h : d < 100) : ownM (1300 + d) 13 = 9 := by unfold ownM; rw [if_neg (by omega), if_neg (by omega), if_neg (by omega), if_neg (by omega), if_neg (by omega), if_pos (by omega), if_neg (by omega), if_neg (by omega), if_pos rfl]
theorem a_wS.s1 {i : Nat} {M M' : q_MM} {o k : Nat} {v : Int32} (h : a_wS [i] M M') (ho : ownS o k = i) : a_wS [i] M (q_u2 M' o k v) := h.u2 (Or.inl (List.mem_singleton.mpr ho))
theorem a_wM.s1 {i : Nat} {M M' : q_MM} {o k : Nat} {v : Int32} (h : a_wM [i] M M') (ho : ownM o k = i) : a_wM [i] M (q_u2 M' o k v) := h.u2 (Or.inl (List.mem_singleton.mpr ho))
theorem a_one {i : Nat} {P : Nat → Prop} (h : P i) : ∀ j ∈ [i], P j := fun j hj => by
  rw [List.mem_singleton] at hj
  exact hj ▸ h
theorem a_two {i k : Nat} {P : Nat → Prop} (h : P i) (h2 : P k) : ∀ j ∈ [i, k], P j := fun j hj => by
  simp only [List.mem_cons, List.not_mem_nil, or_false] at hj
  rcases hj with rfl | rfl
  · exact h
  · exact h2
theorem pub_blind {c n : Nat → Nat} {m M : q_MM} (h : a_X c n m M) (a1 a2 a3 : Int32) : a_T c (f_X11_blind c M a1 a2 a3) (f_X12_blind m a1 a2 a3) := by
  unfold f_X11_blind f_X12_blind
  rw [w_let]
  replace h := h.t0
  generalize q_u2 m 5001 0 0 = m at h ⊢
  have hC := h.C
  have h1 := hC.2.1
  by_cases z1 : a_lt a1 (c 1)
  · obtain ⟨w, hw, rfl⟩ := z1
    have e1 := s_wallAt1 h hw
    have e2 := h.isWall1 hw
    by_cases z2 : a_rg a2 0 23
    · have e3 : f_X11_within c M a2 0 23 = some 1 := s_within1 z2 rfl rfl
      have e4 : f_X12_in m (Int32.toInt64 a2) 0 23 = some 1 := s_in1 z2 rfl rfl
      by_cases z3 : a_rg a3 0 23
      · have e5 : f_X11_within c M a3 0 23 = some 1 := s_within1 z3 rfl rfl
        have e6 : f_X12_in m (Int32.toInt64 a3) 0 23 = some 1 := s_in1 z3 rfl rfl
        refine ⟨1, n, q_u2 (q_u2 M (1100 + w) 6 a2) (1100 + w) 7 a3, q_u2 (q_u2 m 5025 w a2) 5026 w a3, ?_, ?_, ?_⟩
        · simp [e1, e3, e5, w_ck (t_wall hC hw), w_let, w_bl1]
        · simp [e2, e4, e6, w_as (show w < 16 by omega), w_bl1]
        · refine h.wr [5] (a_wM.s1 (a_wM.s1 a_wM.rf (oM_wall (by omega))) (oM_wall (by omega))) (a_wS.s1 (a_wS.s1 a_wS.rf rfl) rfl) (a_one ?_)
          have h5 : a_B5 c n m M := h 5
          refine ⟨h1, by simpa [q_u2_at] using h5.2.1, by simpa [q_u2_at] using h5.2.2.1, fun w' hw' => ?_, fun w' hw' k hk => ?_, fun w' hw' r hr => ?_, fun w' hw' => ?_⟩
          · have := h5.2.2.2.1 w' hw'
            by_cases e : w' = w
            · subst e
              simp [q_u2_at, this, z2, z3]
            · simpa [q_u2_at, e] using this
          · have := h5.2.2.2.2.1 w' hw' k hk
            simpa [q_u2_at, show ¬ 1200 + w' = 1100 + w by omega] using this
          · have := h5.2.2.2.2.2.1 w' hw' r hr
            simpa [q_u2_at] using this
          · have := h5.2.2.2.2.2.2 w' hw'
            simpa [q_u2_at] using this
      · have e5 : f_X11_within c M a3 0 23 = some 0 := s_within0 z3 rfl rfl
        have e6 : f_X12_in m (Int32.toInt64 a3) 0 23 = some 0 := s_inn z3 rfl rfl
        exact a_T.no h 0 (by simp [e1, e3, e5, w_bl0]) (by simp [e2, e4, e6, w_bl0])
    · have e3 : f_X11_within c M a2 0 23 = some 0 := s_within0 z2 rfl rfl
      have e4 : f_X12_in m (Int32.toInt64 a2) 0 23 = some 0 := s_inn z2 rfl rfl
      exact a_T.no h 0 (by simp [e1, e3, w_bl0]) (by simp [e2, e4, w_bl0])
  · exact a_T.no h 0 (by simp [s_wallAt0 h z1, w_bl0]) (by simp [h.isWall0 z1, w_bl0])
theorem w_as0 {ρ : Type} {M : q_MM} {x : Int32} {k : q_MM → Option ρ} {o : Nat} : q_as M o 4 0 x k = k (q_u2 M o 0 x) := w_as (i := 0) (by decide) (by decide)
theorem w_as1 {ρ : Type} {M : q_MM} {x : Int32} {k : q_MM → Option ρ} {o : Nat} : q_as M o 4 1 x k = k (q_u2 M o 1 x) := w_as (i := 1) (by decide) (by decide)
theorem w_as2 {ρ : Type} {M : q_MM} {x : Int32} {k : q_MM → Option ρ} {o : Nat} : q_as M o 4 2 x k = k (q_u2 M o 2 x) := w_as (i := 2) (by decide) (by decide)
theorem w_as3 {ρ : Type} {M : q_MM} {x : Int32} {k : q_MM → Option ρ} {o : Nat} : q_as M o 4 3 x k = k (q_u2 M o 3 x) := w_as (i := 3) (by decide) (by decide)
/-- NUMBERS: which may become what -/
def a_may (M : Nat → Int32) (k : Nat) (v : Int32) : Prop := (k = 0 → a_rg v 100 200) ∧ (k = 1 → a_rg v 0 99) ∧ (k = 2 → a_rg v 0 (M 3).toInt) ∧ (k = 3 → a_rg v (M 2).toInt 23)
theorem pub_set {c n : Nat → Nat} {m M : q_MM} (h : a_X c n m M) (a1 a2 : Int32) : a_T c (f_X11_set c M a1 a2) (f_X12_set m a1 a2) := by
  unfold f_X11_set f_X12_set
  rw [w_let]
  replace h := h.t0
  generalize q_u2 m 5001 0 0 = m at h ⊢
  have h6 : a_B6 c n m M := h 6
  have f0 := h6.1 0 (by decide)
  have f1 := h6.1 1 (by decide)
  have f2 := h6.1 2 (by decide)
  have f3 := h6.1 3 (by decide)
  have fin : ∀ k : Nat, k < 4 → a_may (m 5027) k a2 → a_X c n (q_u2 m 5027 k a2) (q_u2 M 16 k a2) := by
    intro k hk hm
    refine h.wr [6] (a_wM.s1 a_wM.rf rfl) (a_wS.s1 a_wS.rf rfl) (a_one ?_)
    obtain ⟨g1, g2, g3, g4⟩ := hm
    obtain ⟨k1, k2, k3, k4, k5, k6⟩ := h6
    show a_B6 c n _ _
    unfold a_B6
    unfold a_rg at *
    refine ⟨fun j hj => ?_, ?_⟩
    · rw [q_u2_at, q_u2_at]
      simp [k1 j hj]
    · rcases (show k = 0 ∨ k = 1 ∨ k = 2 ∨ k = 3 by omega) with rfl | rfl | rfl | rfl <;> simp [q_u2_at] at * <;> omega
  by_cases z1 : a_rg a1 0 3
  · have e1 : f_X11_within c M a1 0 3 = some 1 := s_within1 z1 rfl rfl
    obtain ⟨k, hk, rfl⟩ := (a_lt_i (x := a1) (N := 4) (by decide)).mpr (by unfold a_rg at z1; omega)
    rcases (show k = 0 ∨ k = 1 ∨ k = 2 ∨ k = 3 by omega) with rfl | rfl | rfl | rfl
    · have e1 : f_X11_within c M 0 0 3 = some 1 := e1
      by_cases z2 : a_rg a2 100 200
      · have e2 : f_X11_within c M a2 100 200 = some 1 := s_within1 z2 rfl rfl
        have e3 : f_X12_in m (Int32.toInt64 a2) 100 200 = some 1 := s_in1 z2 rfl rfl
        refine ⟨m 5027 0, n, _, _, ?_, ?_, fin 0 (by decide) ⟨fun _ => z2, by simp, by simp, by simp⟩⟩
        · simp [e1, f_X11_mayBecome, show nI 0 = 0 from rfl, e2, w_bl1, w_ld0, f0, w_as0]
        · simp [show nI 0 = 0 from rfl, e3, b_X12_set_89, w_ld0, w_as0]
      · have e2 : f_X11_within c M a2 100 200 = some 0 := s_within0 z2 rfl rfl
        have e3 : f_X12_in m (Int32.toInt64 a2) 100 200 = some 0 := s_inn z2 rfl rfl
        exact a_T.no h (-1) (by simp [e1, f_X11_mayBecome, show nI 0 = 0 from rfl, e2, w_bl0]) (by simp [show nI 0 = 0 from rfl, e3, b_X12_set_89])
    · have e1 : f_X11_within c M 1 0 3 = some 1 := e1
      by_cases z2 : a_rg a2 0 99
      · have e2 : f_X11_within c M a2 0 99 = some 1 := s_within1 z2 rfl rfl
        have e3 : f_X12_in m (Int32.toInt64 a2) 0 99 = some 1 := s_in1 z2 rfl rfl
        refine ⟨m 5027 1, n, _, _, ?_, ?_, fin 1 (by decide) ⟨by simp, fun _ => z2, by simp, by simp⟩⟩
        · simp [e1, f_X11_mayBecome, show nI 1 = 1 from rfl, e2, w_bl1, w_ld1, f1, w_as1]
        · simp [show nI 1 = 1 from rfl, e3, b_X12_set_89, w_ld1, w_as1]
      · have e2 : f_X11_within c M a2 0 99 = some 0 := s_within0 z2 rfl rfl
        have e3 : f_X12_in m (Int32.toInt64 a2) 0 99 = some 0 := s_inn z2 rfl rfl
        exact a_T.no h (-1) (by simp [e1, f_X11_mayBecome, show nI 1 = 1 from rfl, e2, w_bl0]) (by simp [show nI 1 = 1 from rfl, e3, b_X12_set_89])
    · have e1 : f_X11_within c M 2 0 3 = some 1 := e1
      by_cases z2 : a_rg a2 0 (m 5027 3).toInt
      · have e2 : f_X11_within c M a2 0 (m 5027 3) = some 1 := s_within1 z2 rfl rfl
        have e3 : f_X12_in m (Int32.toInt64 a2) 0 (Int32.toInt64 (m 5027 3)) = some 1 := s_in1 z2 rfl (Int32.toInt_toInt64 _)
        refine ⟨m 5027 2, n, _, _, ?_, ?_, fin 2 (by decide) ⟨by simp, by simp, fun _ => z2, by simp⟩⟩
        · simp [e1, f_X11_mayBecome, show nI 2 = 2 from rfl, e2, w_bl1, w_ld2, w_ld3, f2, f3, w_as2]
        · simp [show nI 2 = 2 from rfl, e3, b_X12_set_89, w_ld2, w_ld3, w_as2]
      · have e2 : f_X11_within c M a2 0 (m 5027 3) = some 0 := s_within0 z2 rfl rfl
        have e3 : f_X12_in m (Int32.toInt64 a2) 0 (Int32.toInt64 (m 5027 3)) = some 0 := s_inn z2 rfl (Int32.toInt_toInt64 _)
        exact a_T.no h (-1) (by simp [e1, f_X11_mayBecome, show nI 2 = 2 from rfl, e2, w_bl0, w_ld3, f3]) (by simp [show nI 2 = 2 from rfl, e3, b_X12_set_89, w_ld3])
    · have e1 : f_X11_within c M 3 0 3 = some 1 := e1
      by_cases z2 : a_rg a2 (m 5027 2).toInt 23
      · have e2 : f_X11_within c M a2 (m 5027 2) 23 = some 1 := s_within1 z2 rfl rfl
        have e3 : f_X12_in m (Int32.toInt64 a2) (Int32.toInt64 (m 5027 2)) 23 = some 1 := s_in1 z2 (Int32.toInt_toInt64 _) rfl
        refine ⟨m 5027 3, n, _, _, ?_, ?_, fin 3 (by decide) ⟨by simp, by simp, by simp, fun _ => z2⟩⟩
        · simp [e1, f_X11_mayBecome, show nI 3 = 3 from rfl, e2, w_bl1, w_ld2, w_ld3, f2, f3, w_as3]
        · simp [show nI 3 = 3 from rfl, e3, b_X12_set_89, w_ld2, w_ld3, w_as3]
      · have e2 : f_X11_within c M a2 (m 5027 2) 23 = some 0 := s_within0 z2 rfl rfl
        have e3 : f_X12_in m (Int32.toInt64 a2) (Int32.toInt64 (m 5027 2)) 23 = some 0 := s_inn z2 (Int32.toInt_toInt64 _) rfl
        exact a_T.no h (-1) (by simp [e1, f_X11_mayBecome, show nI 3 = 3 from rfl, e2, w_bl0, w_ld2, f2]) (by simp [show nI 3 = 3 from rfl, e3, b_X12_set_88, b_X12_set_89, w_ld2])
  · have e1 : f_X11_within c M a1 0 3 = some 0 := s_within0 z1 rfl rfl
    have g0 : ∀ k : Int32, a_rg k 0 3 → a1 ≠ k := fun k hk e => z1 (e ▸ hk)
    exact a_T.no h (-1) (by simp [e1]) (by simp [g0 0 (by unfold a_rg; decide), g0 1 (by unfold a_rg; decide), g0 2 (by unfold a_rg; decide), g0 3 (by unfold a_rg; decide), b_X12_set_88, b_X12_set_89])
