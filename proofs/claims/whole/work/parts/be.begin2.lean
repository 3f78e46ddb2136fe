/-! the law's beginning: both objects and the array are made; the world is q_lw -/
theorem q_fillc {M M' : q_MM} {a i n o : Nat} {v : Int32} (h : M o = M' o) : q_fill M a i n v o = q_fill M' a i n v o := by
  funext j
  show (if _ then v else M o j) = if _ then v else M' o j
  rw [h]
theorem q_filln {M : q_MM} {a i n o : Nat} {v : Int32} (h : o ≠ a) : q_fill M a i n v o = M o := by
  funext j
  exact if_neg (fun q => h q.1)
theorem q_iM_cg {M M' : q_MM} {o : Nat} (h : M o = M' o) : wX11_initM M o = wX11_initM M' o := by
  unfold wX11_initM wX3_initM wX6_initM wX9_initM wX8_initM wX2_initM
  repeat (first | with_reducible exact h | with_reducible apply q_upc | with_reducible apply q_u2c | with_reducible apply q_fillc)
theorem q_iM_hi {M : q_MM} {o : Nat} (h : 120 ≤ o) : wX11_initM M o = M o := by
  unfold wX11_initM wX3_initM wX6_initM wX9_initM wX8_initM wX2_initM
  funext k
  repeat (first | rw [va_up_ne _ _ (by omega)] | rw [q_u2_ne (fun q => absurd q.1 (by omega))] | rw [q_filln (by omega)])
theorem q_jM_cg {M M' : q_MM} {o : Nat} (h : M o = M' o) : wX12_initM M o = wX12_initM M' o := by
  unfold wX12_initM
  repeat (first | with_reducible exact h | with_reducible apply q_upc | with_reducible apply q_u2c | with_reducible apply q_fillc)
theorem q_jM_hi {M : q_MM} {o : Nat} (h : o < 5001 ∨ 5100 ≤ o) : wX12_initM M o = M o := by
  unfold wX12_initM
  funext k
  repeat (first | rw [va_up_ne _ _ (by omega)] | rw [q_u2_ne (fun q => absurd q.1 (by omega))] | rw [q_filln (by omega)])
theorem q_rtX : ∀ o, o < 120 → 4 < wX11_initT q_T0 o → (q_rt (wX11_initT q_T0 o - 10)).length ≤ 13 := by decide +kernel
theorem q_rtM : ∀ i, i < 100 → 4 < wX12_initT q_T5 (5000 + i) → (q_rt (wX12_initT q_T5 (5000 + i) - 10)).length ≤ 77 := by decide +kernel
theorem q_M00 {o : Nat} (h : 5100 ≤ o) : qTM o = 0 := by
  unfold qTM
  rw [if_neg (by omega)]
  simp only [List.getD]
  rw [List.getElem?_eq_none (by simp only [List.length]; omega)]
  rfl
theorem q_X00 {o : Nat} (h : 120 ≤ o) : qTX q_c0 o = 0 := by
  unfold qTX q_rg q_c0
  rw [if_neg (by omega)]
  by_cases z : o < 300
  · rw [if_pos z, if_neg (fun q => q.2.2.1 rfl)]
  · rw [if_neg z]
    repeat rw [if_neg (by omega)]
def q_T1 : Nat → Nat := va_up (fun _ => 0) 1 21
def q_L1 : Nat → Nat := va_up (fun _ => 0) 1 0
def q_P1 : Nat → Nat → Nat := va_up (fun _ _ => 0) 1 (fun _ => 0)
def q_M1 : q_MM := va_up q_z0 1 (fun _ => 0)
def q_T3 : Nat → Nat := va_up (wX11_initT q_T1) 5001 22
def q_L3 : Nat → Nat := va_up (wX11_initL q_L1) 5001 0
def q_P3 : Nat → Nat → Nat := va_up (wX11_initP q_P1) 5001 (fun _ => 0)
def q_M3 : q_MM := va_up (wX11_initM q_M1) 5001 (fun _ => 0)
theorem q_T1e {o : Nat} : q_T1 o = q_T0 o := rfl
theorem q_L1e {o : Nat} : q_L1 o = 0 := by
  unfold q_L1 va_up
  split <;> rfl
theorem q_P1e {o : Nat} : q_P1 o = fun _ => 0 := by
  unfold q_P1 va_up
  split <;> rfl
theorem q_M1e {o : Nat} : q_M1 o = q_z0 o := by
  unfold q_M1 va_up q_z0
  split <;> rfl
theorem q_T3h {o : Nat} (h : 120 ≤ o) : q_T3 o = q_T5 o := by
  unfold q_T3 q_T5 va_up
  by_cases z : o = 5001
  · rw [if_pos z, if_pos z]
  · rw [if_neg z, if_neg z, q_iT_hi h]
    exact if_neg (by omega)
theorem q_L3h {o : Nat} (h : 120 ≤ o) : q_L3 o = 0 := by
  unfold q_L3 va_up
  by_cases z : o = 5001
  · rw [if_pos z]
  · rw [if_neg z, q_iL_hi h]
    exact q_L1e
theorem q_P3h {o : Nat} (h : 120 ≤ o) : q_P3 o = fun _ => 0 := by
  unfold q_P3 va_up
  by_cases z : o = 5001
  · rw [if_pos z]
  · rw [if_neg z, q_iP_hi h]
    exact q_P1e
theorem q_M3h {o : Nat} (h : 120 ≤ o) : q_M3 o = q_z0 o := by
  unfold q_M3 va_up
  by_cases z : o = 5001
  · rw [if_pos z]; rfl
  · rw [if_neg z, q_iM_hi h]
    exact q_M1e
theorem q_T3l {o : Nat} (h : o < 120) : q_T3 o = wX11_initT q_T0 o := by
  unfold q_T3
  rw [va_up_ne _ _ (by omega)]
  rfl
theorem q_L3l {o : Nat} (h : o < 120) : q_L3 o = wX11_initL (fun _ => 0) o := by
  unfold q_L3
  rw [va_up_ne _ _ (by omega)]
  exact q_iL_cg q_L1e
theorem q_P3l {o : Nat} (h : o < 120) : q_P3 o = wX11_initP (fun _ _ => 0) o := by
  unfold q_P3
  rw [va_up_ne _ _ (by omega)]
  exact q_iP_cg q_P1e
theorem q_M3l {o : Nat} (h : o < 120) : q_M3 o = wX11_initM q_z0 o := by
  unfold q_M3
  rw [va_up_ne _ _ (by omega)]
  exact q_iM_cg q_M1e
/-- the world that stands before the loop -/
theorem q_first : q_alk (va_up (wX12_initT q_T3) 6000 4, va_up (wX12_initL q_L3) 6000 1, va_up (wX12_initP q_P3) 6000 (fun _ => 0), va_up (wX12_initM q_M3) 6000 (fun _ => 0)) (q_lw q_c0 (wX11_initM q_z0) (wX12_initM q_z0) q_z0) := by
  obtain ⟨G, hG⟩ : ∃ G, G = q_lw q_c0 (wX11_initM q_z0) (wX12_initM q_z0) q_z0 := ⟨_, rfl⟩
  have g6 : G.1 6000 = 4 ∧ G.2.1 6000 = 1 ∧ G.2.2.2 6000 = q_z0 6000 := by
    rw [hG]
    have e : (q_un (q_wM (wX12_initM q_z0)) (q_wO q_z0)).1 6000 ≠ 0 := q_un_ne.mpr (Or.inr (q_O4 rfl))
    refine ⟨?_, ?_, ?_⟩
    · rfl
    · rfl
    · rfl
  have gM : ∀ o, o ≠ 6000 → (G.1 o = if qTM o ≠ 0 then qTM o else qTX q_c0 o) ∧ (qTM o ≠ 0 → G.2.1 o = qLM o ∧ G.2.2.1 o = qPM o ∧ G.2.2.2 o = wX12_initM q_z0 o) ∧ (qTM o = 0 → G.2.1 o = qLX q_c0 o ∧ G.2.2.1 o = qPX q_c0 o ∧ G.2.2.2 o = wX11_initM q_z0 o) := fun o ho => by
    rw [hG]
    have e1 : (q_wO q_z0).1 o = 0 := q_O0 ho
    unfold q_lw q_un
    simp only [e1, ne_eq, not_true_eq_false, if_false]
    refine ⟨rfl, fun h => ?_, fun h => ?_⟩
    · have h : (q_wM (wX12_initM q_z0)).1 o ≠ 0 := h
      simp only [h, not_false_eq_true, if_true]
      exact ⟨rfl, rfl, rfl⟩
    · have h : (q_wM (wX12_initM q_z0)).1 o = 0 := h
      simp only [h, not_true_eq_false, if_false]
      exact ⟨rfl, rfl, rfl⟩
  rw [← hG]
  have T4m : ∀ i, i < 100 → wX12_initT q_T3 (5000 + i) = wX12_initT q_T5 (5000 + i) := fun i hi => q_jT_cg (q_T3h (by omega))
  have L4m : ∀ i, i < 100 → wX12_initL q_L3 (5000 + i) = wX12_initL (fun _ => 0) (5000 + i) := fun i hi => q_jL_cg (q_L3h (by omega))
  have P4m : ∀ i, i < 100 → wX12_initP q_P3 (5000 + i) = wX12_initP (fun _ _ => 0) (5000 + i) := fun i hi => q_jP_cg (q_P3h (by omega))
  have M4m : ∀ i, i < 100 → wX12_initM q_M3 (5000 + i) = wX12_initM q_z0 (5000 + i) := fun i hi => q_jM_cg (q_M3h (by omega))
  have out : ∀ o, 120 ≤ o → (o < 5000 ∨ 5100 ≤ o) → wX12_initT q_T3 o = 0 := fun o h1 h2 => by
    rw [q_jT_hi (by omega), q_T3h h1]
    exact if_neg (by omega)
  refine ⟨fun o => ?_, fun o ho => ?_⟩
  · show G.1 o = va_up (wX12_initT q_T3) 6000 4 o
    by_cases z : o = 6000
    · rw [z, va_up_self, g6.1]
    rw [va_up_ne _ _ z, (gM o z).1]
    by_cases y : o < 120
    · rw [if_neg (fun q => q (q_M0 (Or.inl (by omega)))), q_jT_hi (by omega), q_T3l y, (q_start o y).1]
    by_cases x : 5000 ≤ o ∧ o < 5100
    · obtain ⟨i, rfl⟩ : ∃ i, o = 5000 + i := ⟨o - 5000, by omega⟩
      rw [T4m i (by omega), (q_start2 i (by omega)).1]
      by_cases w : qTM (5000 + i) = 0
      · rw [if_neg (fun q => q w), q_X00 (by omega), w]
      · rw [if_pos w]
    · rw [out o (by omega) (by omega), q_X00 (by omega)]
      by_cases w : o < 5000
      · rw [if_neg (fun q => q (q_M0 (Or.inl w)))]
      · rw [if_neg (fun q => q (q_M00 (by omega)))]
  · have ho : va_up (wX12_initT q_T3) 6000 4 o ≠ 0 := ho
    show (va_up (wX12_initT q_T3) 6000 4 o ≤ 4 → G.2.1 o = va_up (wX12_initL q_L3) 6000 1 o) ∧ (va_up (wX12_initT q_T3) 6000 4 o = 1 ∨ va_up (wX12_initT q_T3) 6000 4 o = 2 ∨ va_up (wX12_initT q_T3) 6000 4 o = 4 → ∀ x, x < va_up (wX12_initL q_L3) 6000 1 o → G.2.2.2 o x = va_up (wX12_initM q_M3) 6000 (fun _ => 0) o x) ∧ (va_up (wX12_initT q_T3) 6000 4 o = 3 → ∀ x, x < va_up (wX12_initL q_L3) 6000 1 o → G.2.2.1 o x = va_up (wX12_initP q_P3) 6000 (fun _ => 0) o x) ∧ (4 < va_up (wX12_initT q_T3) 6000 4 o → ∀ k, k < (q_rt (va_up (wX12_initT q_T3) 6000 4 o - 10)).length → ((q_rt (va_up (wX12_initT q_T3) 6000 4 o - 10)).getD k false = true → G.2.2.1 o k = va_up (wX12_initP q_P3) 6000 (fun _ => 0) o k) ∧ ((q_rt (va_up (wX12_initT q_T3) 6000 4 o - 10)).getD k false = false → G.2.2.2 o k = va_up (wX12_initM q_M3) 6000 (fun _ => 0) o k))
    by_cases z : o = 6000
    · rw [z, va_up_self, va_up_self, va_up_self, va_up_self, g6.2.1, g6.2.2]
      exact ⟨fun _ => rfl, fun _ _ _ => rfl, fun q => absurd q (by decide), fun q => absurd q (by decide)⟩
    rw [va_up_ne _ _ z] at ho
    rw [va_up_ne _ _ z, va_up_ne _ _ z, va_up_ne _ _ z, va_up_ne _ _ z]
    obtain ⟨m1, m2, m3⟩ := gM o z
    by_cases y : o < 120
    · obtain ⟨n1, n2, n3⟩ := m3 (q_M0 (Or.inl (by omega)))
      obtain ⟨s1, s2, s3, s4⟩ := q_start o y
      rw [q_jT_hi (by omega), q_T3l y] at ho ⊢
      rw [q_jL_hi (by omega), q_L3l y, q_jP_hi (by omega), q_P3l y, q_jM_hi (by omega), q_M3l y, n1, n2, n3]
      exact ⟨fun q => (s2 ho q).symm, fun _ _ _ => rfl, fun q => absurd q s3, fun q k hk => ⟨fun hk1 => (s4 q k (by have := q_rtX o y q; omega) hk1).symm, fun _ => rfl⟩⟩
    by_cases x : 5000 ≤ o ∧ o < 5100
    · obtain ⟨i, rfl⟩ : ∃ i, o = 5000 + i := ⟨o - 5000, by omega⟩
      obtain ⟨s1, s2, s3, s4⟩ := q_start2 i (by omega)
      rw [T4m i (by omega)] at ho ⊢
      obtain ⟨n1, n2, n3⟩ := m2 (by rw [← s1]; exact ho)
      rw [L4m i (by omega), P4m i (by omega), M4m i (by omega), n1, n2, n3]
      exact ⟨fun q => (s2 ho q).symm, fun _ _ _ => rfl, fun q => absurd q s3, fun q k hk => ⟨fun hk1 => (s4 q k (by have := q_rtM i (by omega) q; omega) hk1).symm, fun _ => rfl⟩⟩
    · exact absurd (out o (by omega) (by omega)) ho
