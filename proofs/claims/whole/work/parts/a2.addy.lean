/-! level 1: a new object is put into its list -/
theorem q_lo_T {c : Nat → Nat} : ∀ {j : Nat}, j < 4 → qTX c (q_lo j) = 23
  | 0, _ => rfl
  | 1, _ => rfl
  | 2, _ => rfl
  | 3, _ => rfl
  | _ + 4, h => absurd h (by omega)
theorem q_lo_P {c : Nat → Nat} : ∀ {j : Nat}, j < 4 → qPX c (q_lo j) = q_ed j (c j)
  | 0, _ => rfl
  | 1, _ => rfl
  | 2, _ => rfl
  | 3, _ => rfl
  | _ + 4, h => absurd h (by omega)
theorem q_lo_lt : ∀ {j : Nat}, j < 4 → q_lo j < 120
  | 0, _ => by decide
  | 1, _ => by decide
  | 2, _ => by decide
  | 3, _ => by decide
  | _ + 4, h => absurd h (by omega)
theorem q_pre_mk {j v v2 t : Nat} {c c' T L : Nat → Nat} {P : Nat → Nat → Nat} (h : q_one j c c') (hC : a_C c) (hv : v = q_bs j + c j) (hv2 : 1000 ≤ v2) (hTv : T v = t) (ht : 4 < t) (hTv' : qTX c' v = t) (a1 : ∀ x, x ≠ v → x ≠ v2 → T x = qTX c x) (a2 : ∀ x, x ≠ v → x ≠ v2 → L x = qLX c x ∧ P x = q_msk c x) (hb : v2 = v ∨ T v2 = 1 ∧ qTX c' v2 = 1 ∧ L v2 = qLX c' v2) (b2 : ∀ k, qPX c' v k = P v k) (h2 : j = 1 → v2 = 1200 + c 1) (h3 : j = 3 → v2 = 1500 + c 3) : q_pre j (q_lo j) c c' T L P := by
  have hj := h.1
  have v1000 : 1000 ≤ v := by
    rcases q_bs_le j with q | q
    · omega
    · omega
  refine ⟨fun x hx => ?_, fun g hg => ?_, fun x hx hT => ⟨fun h4 => ?_, fun q3 k hk => ?_, fun xo q5 k hk hk1 => ?_⟩⟩
  · by_cases z : x = v
    · rw [z, hTv, hTv']
    by_cases y : x = v2
    · rcases hb with q | q
      · exact absurd (y.trans q) z
      · rw [y, q.1, q.2.1]
    rw [a1 x z y]
    exact (q_one_T h hC hx (fun q => z (q.trans hv.symm)) (fun q w => y (w.trans (h2 q).symm)) (fun q w => y (w.trans (h3 q).symm))).symm
  · have n1 : 200 + 4 * j + g ≠ v := by omega
    have n2 : 200 + 4 * j + g ≠ v2 := by omega
    obtain ⟨l1, l2⟩ := a2 _ n1 n2
    refine ⟨a1 _ n1 n2, by rw [l1, qLX_rw hj hg], fun k h0 hgg => ?_⟩
    rw [l2, q_msk_eq (by rw [qTX_rw hj hg, if_pos ⟨h0, hgg⟩]; decide)]
  · by_cases z : x = v
    · rw [z, hTv] at h4
      omega
    by_cases y : x = v2
    · rcases hb with q | q
      · exact absurd (y.trans q) z
      · rw [y, q.2.2]
    rw [(a2 x z y).1]
    exact q_one_L h (fun q w => y (w.trans (h3 q).symm))
  · by_cases z : x = v
    · rw [z, hTv] at q3
      omega
    by_cases y : x = v2
    · rcases hb with q | q
      · exact absurd (y.trans q) z
      · rw [y, q.1] at q3
        omega
    rw [a1 x z y] at q3
    have := q_no3 q3
    have lt := q_lo_lt hj
    rw [(a2 x z y).2, q_msk_eq (by rw [q3]; decide), q_one_P h hx (by rw [q3]; decide) (by omega)]
  · by_cases z : x = v
    · rw [z]; exact b2 k
    by_cases y : x = v2
    · rcases hb with q | q
      · exact absurd (y.trans q) z
      · rw [y, q.1] at q5
        omega
    rw [a1 x z y] at hT
    rw [(a2 x z y).2, q_msk_eq hT, q_one_P h hx hT xo]
theorem c_addY (l : Launch) (K : q_KK) {j v v2 ci : Nat} {c c' T L : Nat → Nat} {P : Nat → Nat → Nat} {M : q_MM} {C : String} {Tt : u_T} {N9 : Nat} (h : q_one j c c') (hC : a_C c) (hN : c j < 30) (hM : M (q_lo j) 2 = nI (c j)) (hv : v = q_bs j + c j) (hv2 : 1000 ≤ v2) (hTv : T v = ci + 10) (hk : ∀ k, k < c j → qTX c (q_bs j + k) = ci + 10) (hTv' : qTX c' v = ci + 10) (hcl : q_classes[ci]? = some (C, Tt, N9)) (hcs : (C, "java/lang/Object") ∈ q_csts) (a1 : ∀ x, x ≠ v → x ≠ v2 → T x = qTX c x) (a2 : ∀ x, x ≠ v → x ≠ v2 → L x = qLX c x ∧ P x = q_msk c x) (hb : v2 = v ∨ T v2 = 1 ∧ qTX c' v2 = 1 ∧ L v2 = qLX c' v2) (b2 : ∀ k, qPX c' v k = P v k) (h2 : j = 1 → v2 = 1200 + c 1) (h3 : j = 3 → v2 = 1500 + c 3) (hno : ∀ x, 200 ≤ x → x < 300 → q_no (qTX c) (q_msk c) x → q_no T P x) : ∃ g', Mt l yJx4a65c_add_9ea2d cJx4a65c_add_9ea2d 2 (some FieldType.boolean) 6 200 1 33 true K [.ref (q_lo j), .ref v] (T, L, P, M) (some (.int 1)) g' ∧ q_alk g' (qTX c', qLX c', qPX c', q_ad2 M (q_lo j) (c j)) := by
  have hj := h.1
  have lt := q_lo_lt hj
  have v1000 : 1000 ≤ v := by
    rcases q_bs_le j with q | q
    · omega
    · omega
  have n1 : q_lo j ≠ v := by omega
  have n2 : q_lo j ≠ v2 := by omega
  refine c_addX l K hj hN h.2.1 lt hM (by rw [a1 _ n1 n2, q_lo_T hj]) ?_ (q_lo_P hj) hv hTv hcl hcs (fun k hkk => ?_) (q_pre_mk h hC hv hv2 hTv (by omega) hTv' a1 a2 hb b2 h2 h3) (fun g hg hn => ?_)
  · rw [(a2 _ n1 n2).2, q_msk_eq (by rw [q_lo_T hj]; decide), q_lo_P hj]
    unfold q_ed
    rw [if_pos rfl]
  · by_cases y : q_bs j + k = v2
    · exfalso
      rcases hb with q | q
      · omega
      · obtain ⟨b0, b1, b2', b3⟩ := hC
        rcases (show j = 0 ∨ j = 1 ∨ j = 2 ∨ j = 3 by omega) with w | w | w | w <;> subst w
        · have e : 1000 + k = v2 := y
          have := hk k hkk
          rw [show q_bs 0 + k = v2 from e] at this
          have h6 := q_one_T h ⟨b0, b1, b2', b3⟩ (x := v2) (by omega) (by rw [← hv]; omega) (fun q => by omega) (fun q => by omega)
          rw [q.2.1, this] at h6
          omega
        · have e : 1100 + k = v2 := y
          have := h2 rfl
          omega
        · have e : 1300 + k = v2 := y
          have := hk k hkk
          rw [show q_bs 2 + k = v2 from e] at this
          have h6 := q_one_T h ⟨b0, b1, b2', b3⟩ (x := v2) (by omega) (by rw [← hv]; omega) (fun q => by omega) (fun q => by omega)
          rw [q.2.1, this] at h6
          omega
        · have e : 1400 + k = v2 := y
          have := h3 rfl
          omega
    · rw [a1 _ (by omega) y, hk k hkk]
  · exact hno _ (by omega) (by omega) (q_msk_no hC (by rw [qTX_rw hj hg, if_neg hn]) (by omega) (Or.inl (by omega)))
