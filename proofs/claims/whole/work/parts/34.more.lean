/-! more calls -/
/-- two rooms of one bit -/
theorem b_sh1 (x : Int32) {r : Nat} (hr : r < 32) : (x >>> (nI r &&& 31)) &&& 1 = 0 ↔ bt x r = false := by
  have e0 : bt ((x >>> (nI r &&& 31)) &&& 1) 0 = bt x r := by
    rw [b_and, b_sshr r hr x (by decide)]
    have : bt (1 : Int32) 0 = true := by decide
    rw [this, Bool.and_true]
    simp [hr]
  constructor
  · intro h
    rw [← e0, h]
    exact b_0 0
  · intro h
    refine b_ext (fun i hi => ?_)
    by_cases z : i = 0
    · subst z
      rw [e0, h]
      exact (b_0 0).symm
    · rw [b_and, b_0]
      have : bt (1 : Int32) i = false := (by decide +kernel : ∀ i, i < 32 → i ≠ 0 → bt (1 : Int32) i = false) i hi z
      rw [this, Bool.and_false]
theorem s_isShut {c n : Nat → Nat} {m M : q_MM} (h : a_X c n m M) {r : Nat} (hr : r < 10) : f_X2_isShut c M (nI r) = some (if m 5075 r = 1 then 1 else 0) := by
  have h4 : a_B4 c n m M := h 4
  have e := (h4 r hr).2
  unfold f_X2_isShut
  rw [a_bt] at e
  by_cases z : m 5075 r = 1
  · rw [if_pos z]
    rw [if_neg (fun q => by rw [(b_sh1 _ (by omega)).mp q, z] at e; exact absurd e (by decide)), w_bl1]
  · rw [if_neg z]
    rw [if_pos ((b_sh1 _ (by omega)).mpr (by rw [e]; simpa using z)), w_bl0]
theorem narz01 (x : Int32) : x &&& 1 = 0 ∨ x &&& 1 = 1 := by
  by_cases h : bt x 0 = true
  · refine Or.inr (b_ext fun i hi => ?_)
    rw [b_and]
    by_cases z : i = 0
    · subst z
      rw [h]
      rfl
    · rw [(by decide +kernel : ∀ i, i < 32 → i ≠ 0 → bt (1 : Int32) i = false) i hi z, Bool.and_false]
  · refine Or.inl (b_ext fun i hi => ?_)
    rw [b_and, b_0]
    by_cases z : i = 0
    · subst z
      simp [h]
    · rw [(by decide +kernel : ∀ i, i < 32 → i ≠ 0 → bt (1 : Int32) i = false) i hi z, Bool.and_false]
/-- what the law passes for a boolean is 0 or 1 -/
theorem pub_shut {c n : Nat → Nat} {m M : q_MM} (h : a_X c n m M) (a1 a2 : Int32) (ha : a2 = 0 ∨ a2 = 1) : a_T c (f_X11_shut c M a1 a2) (f_X12_shut m a1 a2) := by
  unfold f_X11_shut f_X12_shut
  simp only [w_let]
  replace h := h.t0
  generalize q_u2 m 5001 0 0 = m at h ⊢
  by_cases z1 : a_lt a1 (n 0)
  · obtain ⟨r, hr, rfl⟩ := z1
    have hn : n 0 ≤ 10 := (h 0).1
    have h4 : a_B4 c n m M := h 4
    have fin : ∀ x v : Int32, (v = 0 ∨ v = 1) → (∀ i, i < 10 → i ≠ r → bt x i = bt (M 2 11) i) → bt x r = (v == 1) → a_X c n (q_u2 m 5075 r v) (q_u2 M 2 11 x) := by
      intro x v hv h1 h2
      refine h.wr [4] (a_wM.s1 a_wM.rf rfl) (a_wS.s1 a_wS.rf rfl) (a_one ?_)
      intro i hi
      rw [q_u2_eq, a_bt]
      by_cases z : i = r
      · subst z
        rw [q_u2_eq]
        exact ⟨hv, h2⟩
      · rw [q_u2_ne (fun q => z q.2), h1 i hi z]
        exact h4 i hi
    simp only [s_hasRoom1 h hr, h.isRoom1 hr, Option.bind_some, if_false, show ¬ (1 : Int32) = 0 by decide, w_as (show r < 10 by omega) (show 10 ≤ 100000 by decide)]
    rcases ha with rfl | rfl
    · refine ⟨1, n, _, _, ?_, ?_, fin ((M 2 11) &&& (((1 : Int32) <<< (nI r &&& 31)) ^^^ (-1))) (vp_nar .boolean 0) (Or.inl rfl) (fun i hi hne => ?_) ?_⟩
      · simp [b_X11_shut_48, w_let, w_bl1]
      · simp [w_bl1]
      · rw [b_and, b_xor, b_one r (by omega) i (by omega), b_m1 i (by omega)]
        simp [hne]
      · rw [b_and, b_xor, b_one r (by omega) r (by omega), b_m1 r (by omega)]
        simp [show vp_nar .boolean 0 = 0 from rfl]
    · refine ⟨1, n, _, _, ?_, ?_, fin ((M 2 11) ||| ((1 : Int32) <<< (nI r &&& 31))) (vp_nar .boolean 1) (Or.inr rfl) (fun i hi hne => ?_) ?_⟩
      · simp [b_X11_shut_48, w_let, w_bl1]
      · simp [w_bl1]
      · rw [b_or, b_one r (by omega) i (by omega)]
        simp [hne]
      · rw [b_or, b_one r (by omega) r (by omega)]
        simp [show vp_nar .boolean 1 = 1 from rfl]
  · exact a_T.no h 0 (by simp [s_hasRoom0 h z1, w_bl0]) (by simp [h.isRoom0 z1, w_bl0])
theorem pub_sight {c n : Nat → Nat} {m M : q_MM} (h : a_X c n m M) (a1 a2 : Int32) : a_T c (f_X11_sight c M a1 a2) (f_X12_sight m a1 a2) := by
  unfold f_X11_sight f_X12_sight
  simp only [w_let]
  replace h := h.t0
  generalize q_u2 m 5001 0 0 = m at h ⊢
  have hC := h.C
  have hC1 := hC.2.1
  have hn : n 0 ≤ 10 := (h 0).1
  by_cases z2 : a_lt a2 (c 1)
  · obtain ⟨w, hw, rfl⟩ := z2
    by_cases z1 : a_lt a1 (n 0)
    · obtain ⟨r, hr, rfl⟩ := z1
      have h5 : a_B5 c n m M := h 5
      have hr1 := (h5.2.2.2.1 w hw).1.2.1
      simp only [s_hasRoom1 h hr, h.isRoom1 hr, s_wallAt1 h hw, h.isWall1 hw, Option.bind_some, if_false, show ¬ (1 : Int32) = 0 by decide, show ¬ 1100 + w = 0 by omega, w_ck (t_wall hC hw), w_ld (show w < 16 by omega) (show 16 ≤ 100000 by decide), hr1]
      by_cases z3 : m 5020 w = nI r
      · simp only [z3, if_true, w_bl0]
        exact a_T.no h 0 rfl rfl
      · have ei : (16 : Int32) * nI r + nI w = nI (16 * r + w) := by
          rw [show (16 : Int32) = nI 16 from rfl, pk_mul, nI_add]
        simp only [z3, if_false, w_bl1, ei, w_as (show 16 * r + w < 160 by omega) (show 160 ≤ 100000 by decide)]
        refine ⟨1, n, _, _, rfl, rfl, ?_⟩
        refine h.wr [5] (a_wM.s1 a_wM.rf (oM_wall (by omega))) (a_wS.s1 a_wS.rf rfl) (a_one ?_)
        refine ⟨hC1, by simpa [q_u2_at] using h5.2.1, by simpa [q_u2_at] using h5.2.2.1, fun w' hw' => ?_, fun w' hw' k hk => ?_, fun w' hw' i hi => ?_, fun w' hw' hw2 => ?_⟩
        · have := h5.2.2.2.1 w' hw'
          simpa [q_u2_at] using this
        · have := h5.2.2.2.2.1 w' hw' k hk
          simpa [q_u2_at, show ¬ 1200 + w' = 1100 + w by omega] using this
        · have := h5.2.2.2.2.2.1 w' hw' i hi
          rw [a_bt] at this ⊢
          by_cases e : w' = w
          · subst e
            rw [q_u2_eq, b_or, b_one r (by omega) i (by omega), this.2]
            by_cases e2 : i = r
            · subst e2
              rw [q_u2_eq]
              exact ⟨Or.inr rfl, by simp [show vp_nar .boolean 1 = 1 from rfl]⟩
            · have n1 : ¬ (16 * i + w' = 16 * r + w') := by omega
              rw [q_u2_ne (M := m) (fun z => n1 z.2), q_u2_ne (M := m) (fun z => absurd z.1 (by decide))]
              exact ⟨this.1, by simp [e2]⟩
          · have n1 : ¬ (16 * i + w' = 16 * r + w) := by omega
            rw [q_u2_ne (M := M) (fun z => e (by omega)), q_u2_ne (M := m) (fun z => n1 z.2), q_u2_ne (M := m) (fun z => absurd z.1 (by decide))]
            exact this
        · have := h5.2.2.2.2.2.2 w' hw' hw2
          refine ⟨fun k hk => ?_, fun i hi => ?_⟩
          · rw [q_u2_ne (fun z => absurd z.1 (by decide))]
            exact this.1 k hk
          · rw [q_u2_ne (fun z => by omega)]
            exact this.2 i hi
    · exact a_T.no h 0 (by simp [s_wallAt1 h hw, s_hasRoom0 h z1, w_bl0]) (by simp [h.isRoom0 z1, w_bl0])
  · refine a_T.no h 0 (by simp [s_wallAt0 h z2, w_bl0]) ?_
    by_cases z1 : a_lt a1 (n 0)
    · obtain ⟨r, hr, rfl⟩ := z1
      simp [h.isRoom1 hr, h.isWall0 z2, w_bl0]
    · simp [h.isRoom0 z1, w_bl0]
/-- pictures on walls, in the class: of one of the two hangings -/
theorem s_put {c : Nat → Nat} {M : q_MM} {p o a b : Nat} {w x : Int32} (ho : (o, a, b) ∈ [(21, 61, 63), (22, 62, 64)]) (hp : p < 24) : f_X1_put c M o (nI p) w x = some (q_u2 (q_u2 M a p w) b p x) := by
  have h : qTX c o = 11 ∧ qPX c o 0 = a ∧ qPX c o 1 = b ∧ qTX c a = 1 ∧ qTX c b = 1 ∧ qLX c a = 24 ∧ qLX c b = 24 := by
    simp only [List.mem_cons, List.not_mem_nil, or_false, Prod.mk.injEq] at ho
    rcases ho with ⟨rfl, rfl, rfl⟩ | ⟨rfl, rfl, rfl⟩ <;> exact ⟨rfl, rfl, rfl, rfl, rfl, rfl, rfl⟩
  obtain ⟨h1, h2, h3, h4, h5, h6, h7⟩ := h
  unfold f_X1_put
  rw [if_neg (nI_pos (by omega)), if_neg (show ¬ (24 : Int32) ≤ nI p from nI_ge hp (by decide)), w_ck h1, h2, h3, w_ck h4, h6, w_as hp (by decide), w_ck h5, h7, w_as hp (by decide)]
theorem s_take {c : Nat → Nat} {M : q_MM} {p o a b : Nat} (ho : (o, a, b) ∈ [(21, 61, 63), (22, 62, 64)]) (hp : p < 24) : f_X1_take c M o (nI p) = some (q_u2 (q_u2 M a p (-1)) b p (-1)) := by
  have h : qTX c o = 11 := by
    simp only [List.mem_cons, List.not_mem_nil, or_false, Prod.mk.injEq] at ho
    rcases ho with ⟨rfl, rfl, rfl⟩ | ⟨rfl, rfl, rfl⟩ <;> rfl
  unfold f_X1_take
  rw [w_ck h, s_put ho hp]
  rfl
theorem s_wallUnder {c : Nat → Nat} {M : q_MM} {p o a b : Nat} (ho : (o, a, b) ∈ [(21, 61, 63), (22, 62, 64)]) (hp : p < 24) : f_X1_wallUnder c M o (nI p) = some (M a p) := by
  have h : qTX c o = 11 ∧ qPX c o 0 = a ∧ qTX c a = 1 ∧ qLX c a = 24 := by
    simp only [List.mem_cons, List.not_mem_nil, or_false, Prod.mk.injEq] at ho
    rcases ho with ⟨rfl, rfl, rfl⟩ | ⟨rfl, rfl, rfl⟩ <;> exact ⟨rfl, rfl, rfl, rfl⟩
  obtain ⟨h1, h2, h3, h4⟩ := h
  unfold f_X1_wallUnder
  rw [if_neg (nI_pos (by omega)), if_neg (show ¬ (24 : Int32) ≤ nI p from nI_ge hp (by decide)), w_ck h1, h2, w_ck h3, h4, w_ld hp (by decide)]
theorem s_leftSide {c : Nat → Nat} {M : q_MM} {p o a b : Nat} (ho : (o, a, b) ∈ [(21, 61, 63), (22, 62, 64)]) (hp : p < 24) : f_X1_leftSide c M o (nI p) = some (M b p) := by
  have h : qTX c o = 11 ∧ qPX c o 1 = b ∧ qTX c b = 1 ∧ qLX c b = 24 := by
    simp only [List.mem_cons, List.not_mem_nil, or_false, Prod.mk.injEq] at ho
    rcases ho with ⟨rfl, rfl, rfl⟩ | ⟨rfl, rfl, rfl⟩ <;> exact ⟨rfl, rfl, rfl, rfl⟩
  obtain ⟨h1, h2, h3, h4⟩ := h
  unfold f_X1_leftSide
  rw [if_neg (nI_pos (by omega)), if_neg (show ¬ (24 : Int32) ≤ nI p from nI_ge hp (by decide)), w_ck h1, h2, w_ck h3, h4, w_ld hp (by decide)]
theorem s_has {c : Nat → Nat} {M : q_MM} {p : Nat} (hp : p < 24) : f_X1_has c M 21 (nI p) = some (if M 61 p = -1 then 0 else 1) := by
  unfold f_X1_has
  rw [w_ck (show qTX c 21 = 11 from rfl), s_wallUnder (a := 61) (b := 63) (by decide) hp, Option.bind_some]
  split
  · rw [w_bl0]
  · rw [w_bl1]
/-- a picture that leaves its place: to the store, away, back -/
theorem a_B8_leave {c n : Nat → Nat} {m M : q_MM} (h8 : a_B8 c n m M) {p : Nat} (hp : p < c 2) {v : Int32} (hv : v = 0 ∨ v = 2 ∨ v = 3) (h3 : v = 3 ∨ m 5040 p ≠ 3) : a_B8 c n (q_u2 (q_u2 (q_u2 m 5040 p v) 5041 p (-1)) 5042 p (-1)) (q_u2 (q_u2 (q_u2 M (1300 + p) 12 v) 61 p (-1)) 63 p (-1)) := by
  have hC := h8.1
  have hv2 : v ≠ 1 ∧ a_lt v 4 := by
    rcases hv with rfl | rfl | rfl
    · exact ⟨by decide, 0, by decide, rfl⟩
    · exact ⟨by decide, 2, by decide, rfl⟩
    · exact ⟨by decide, 3, by decide, rfl⟩
  refine ⟨hC, fun q hq => ?_, fun q hq hq2 => ?_, fun q hq e1 e2 => ?_, fun q r hq hr hqr e1 e2 e3 => ?_⟩
  · have := h8.2.1 q hq
    by_cases e : q = p
    · subst e
      simp [q_u2_at, hv2.1, hv2.2, show ¬ 1300 + q = 61 by omega, show ¬ 1300 + q = 63 by omega, show ¬ 61 = 1300 + q by omega, show ¬ 63 = 1300 + q by omega]
    · simpa [q_u2_at, e, show ¬ 1300 + q = 61 by omega, show ¬ 1300 + q = 63 by omega, show ¬ 61 = 1300 + p by omega, show ¬ 63 = 1300 + p by omega] using this
  · have := h8.2.2.1 q hq hq2
    have e : q ≠ p := by omega
    simpa [q_u2_at, e, show ¬ 61 = 1300 + p by omega, show ¬ 63 = 1300 + p by omega] using this
  · have := h8.2.2.2.1 q hq e1 e2
    by_cases e : q = p
    · subst e
      have : v = 3 := h3.elim id (fun z => absurd this z)
      simp [q_u2_at, this]
    · simpa [q_u2_at, e] using this
  · have := h8.2.2.2.2 q r hq hr hqr
    by_cases e : q = p
    · subst e
      simp [q_u2_at, hv2.1] at e1
    · by_cases e' : r = p
      · subst e'
        simp [q_u2_at, hv2.1] at e2
      · simp [q_u2_at, e] at e1
        simp [q_u2_at, e'] at e2
        simp [q_u2_at, e, e'] at e3
        simpa [q_u2_at, e, e'] using this e1 e2 e3
theorem a_X.leave {c n : Nat → Nat} {m M : q_MM} (h : a_X c n m M) {p : Nat} (hp : p < c 2) {v : Int32} (hv : v = 0 ∨ v = 2 ∨ v = 3) (h3 : v = 3 ∨ m 5040 p ≠ 3) : a_X c n (q_u2 (q_u2 (q_u2 m 5040 p v) 5041 p (-1)) 5042 p (-1)) (q_u2 (q_u2 (q_u2 M (1300 + p) 12 v) 61 p (-1)) 63 p (-1)) := by
  have hC := h.C.2.2.1
  exact h.wr [8] (a_wM.s1 (a_wM.s1 (a_wM.s1 a_wM.rf (oM_pic12 (by omega))) rfl) rfl) (a_wS.s1 (a_wS.s1 (a_wS.s1 a_wS.rf rfl) rfl) rfl) (a_one (a_B8_leave (h 8) hp hv h3))
theorem pub_store {c n : Nat → Nat} {m M : q_MM} (h : a_X c n m M) (a1 : Int32) : a_T c (f_X11_store c M a1) (f_X12_store m a1) := by
  unfold f_X11_store f_X12_store
  simp only [w_let]
  replace h := h.t0
  generalize q_u2 m 5001 0 0 = m at h ⊢
  by_cases z1 : a_lt a1 (c 2)
  · obtain ⟨p, hp, rfl⟩ := z1
    have hC := h.C
    have hC2 := hC.2.2.1
    have h8 : a_B8 c n m M := h 8
    obtain ⟨g1, g2, g3, ⟨s, hs, g4⟩, g5, g6⟩ := h8.2.1 p hp
    have g0 : M (1300 + p) 0 = nI p := ((h 7).2.2.2.1 p hp).1.1
    have gX := fun z => h.leave hp (v := 0) (Or.inl rfl) (Or.inr z)
    have e47 : b_X11_store_47 c (1300 + p) M = some (1, q_u2 (q_u2 (q_u2 M (1300 + p) 12 0) 61 p (-1)) 63 p (-1)) := by
      unfold b_X11_store_47
      rw [w_ck (t_pic hC hp), w_let, q_u2_ne (by omega), g0, s_take (a := 61) (b := 63) (by decide) (by omega), Option.bind_some, w_bl1]
    have em : (f_X12_takes m (nI p) 0).bind (fun r8 => q_bl 1 (some ((1 : Int32), r8))) = some (1, q_u2 (q_u2 (q_u2 m 5040 p 0) 5041 p (-1)) 5042 p (-1)) := by
      unfold f_X12_takes
      rw [w_as (by omega) (by decide), w_as (by omega) (by decide), w_as (by omega) (by decide), Option.bind_some, w_bl1]
    simp only [s_picAt1 h hp, h.isPicture1 hp, Option.bind_some, if_false, show ¬ (1 : Int32) = 0 by decide, show ¬ 1300 + p = 0 by omega, w_ck (t_pic hC hp), w_ld (show p < 24 by omega) (show 24 ≤ 100000 by decide), g0, g3, em, e47, s_has (show p < 24 by omega)]
    rcases (show s = 0 ∨ s = 1 ∨ s = 2 ∨ s = 3 by omega) with rfl | rfl | rfl | rfl
    · have e61 : M 61 p = -1 := g1.trans (g6 (by rw [g4]; decide)).1
      simp only [g4, show nI 0 = 0 from rfl, e61, w_bl0]
      exact a_T.no h 0 (by simp [w_bl0]) (by simp)
    · obtain ⟨⟨w, hw, e61⟩, -⟩ := g5 g4
      have e61' : ¬ M 61 p = -1 := by rw [g1, e61]; exact nI_neg1 (by have := hC.2.1; omega)
      refine ⟨1, n, _, _, ?_, ?_, gX (by rw [g4]; decide)⟩
      · simp [g4, show nI 1 = 1 from rfl, e61']
      · simp [g4, show nI 1 = 1 from rfl]
    · refine ⟨1, n, _, _, ?_, ?_, gX (by rw [g4]; decide)⟩
      · simp [g4, show nI 2 = 2 from rfl]
      · simp [g4, show nI 2 = 2 from rfl]
    · exact a_T.no h 0 (by simp [g4, show nI 3 = 3 from rfl, w_bl0]) (by simp [g4, show nI 3 = 3 from rfl, w_bl0])
  · exact a_T.no h 0 (by simp [s_picAt0 h z1, w_bl0]) (by simp [h.isPicture0 z1, w_bl0])
/-- a picture that is neither away nor back -/
def a_here (c : Nat → Nat) (m : q_MM) (x : Int32) : Prop := ∃ p, p < c 2 ∧ x = nI p ∧ (m 5040 p = 0 ∨ m 5040 p = 1)
theorem s_present1 {c n : Nat → Nat} {m M : q_MM} (h : a_X c n m M) {p : Nat} (hp : p < c 2) (hs : m 5040 p = 0 ∨ m 5040 p = 1) : f_X2_present c M (nI p) = some (1300 + p) := by
  have h8 : a_B8 c n m M := h 8
  obtain ⟨-, -, g3, -⟩ := h8.2.1 p hp
  unfold f_X2_present
  rw [s_picAt1 h hp, Option.bind_some, if_neg (by omega), w_ck (t_pic h.C hp), g3]
  rcases hs with e | e <;> rw [e] <;> simp
theorem s_present0 {c n : Nat → Nat} {m M : q_MM} (h : a_X c n m M) {x : Int32} (hx : ¬ a_here c m x) : f_X2_present c M x = some 0 := by
  unfold f_X2_present
  by_cases z : a_lt x (c 2)
  · obtain ⟨p, hp, rfl⟩ := z
    have h8 : a_B8 c n m M := h 8
    obtain ⟨-, -, g3, ⟨s, hs, g4⟩, -⟩ := h8.2.1 p hp
    rw [s_picAt1 h hp, Option.bind_some, if_neg (by omega), w_ck (t_pic h.C hp), g3]
    rcases (show s = 0 ∨ s = 1 ∨ s = 2 ∨ s = 3 by omega) with rfl | rfl | rfl | rfl
    · exact absurd ⟨p, hp, rfl, Or.inl g4⟩ hx
    · exact absurd ⟨p, hp, rfl, Or.inr g4⟩ hx
    · simp [g4, show nI 2 = 2 from rfl]
    · simp [g4, show nI 3 = 3 from rfl]
  · rw [s_picAt0 h z, Option.bind_some, if_pos rfl]
theorem a_X.isHere1 {c n : Nat → Nat} {m M : q_MM} (h : a_X c n m M) {p : Nat} (hp : p < c 2) (hs : m 5040 p = 0 ∨ m 5040 p = 1) : f_X12_isHere m (nI p) = some 1 := by
  have := h.C.2.2.1
  unfold f_X12_isHere
  rw [h.isPicture1 hp, Option.bind_some, if_neg (by decide), w_ld (by omega) (by decide)]
  rcases hs with e | e <;> rw [e] <;> simp [w_bl1] <;> decide
theorem a_X.isHere0 {c n : Nat → Nat} {m M : q_MM} (h : a_X c n m M) {x : Int32} (hx : ¬ a_here c m x) : f_X12_isHere m x = some 0 := by
  have := h.C.2.2.1
  unfold f_X12_isHere
  by_cases z : a_lt x (c 2)
  · obtain ⟨p, hp, rfl⟩ := z
    have h8 : a_B8 c n m M := h 8
    obtain ⟨-, -, g3, ⟨s, hs, g4⟩, -⟩ := h8.2.1 p hp
    rw [h.isPicture1 hp, Option.bind_some, if_neg (by decide), w_ld (by omega) (by decide), g4]
    rcases (show s = 0 ∨ s = 1 ∨ s = 2 ∨ s = 3 by omega) with rfl | rfl | rfl | rfl
    · exact absurd ⟨p, hp, rfl, Or.inl g4⟩ hx
    · exact absurd ⟨p, hp, rfl, Or.inr g4⟩ hx
    · rw [if_pos (by decide), w_bl0]
    · rw [if_pos (by decide), w_bl0]
  · rw [h.isPicture0 z, Option.bind_some, if_pos rfl, w_bl0]
theorem pub_send {c n : Nat → Nat} {m M : q_MM} (h : a_X c n m M) (a1 : Int32) : a_T c (f_X11_send c M a1) (f_X12_send m a1) := by
  unfold f_X11_send f_X12_send
  simp only [w_let]
  replace h := h.t0
  generalize q_u2 m 5001 0 0 = m at h ⊢
  by_cases z1 : a_here c m a1
  · obtain ⟨p, hp, rfl, hs⟩ := z1
    have hC := h.C
    have hC2 := hC.2.2.1
    have g0 : M (1300 + p) 0 = nI p := ((h 7).2.2.2.1 p hp).1.1
    refine ⟨1, n, _, _, ?_, ?_, h.leave hp (v := 2) (Or.inr (Or.inl rfl)) (Or.inr (by rcases hs with z | z <;> rw [z] <;> decide))⟩
    · rw [s_present1 h hp hs, Option.bind_some, if_neg (by omega), w_ck (t_pic hC hp), q_u2_ne (by omega), g0, s_take (a := 61) (b := 63) (by decide) (by omega), Option.bind_some, w_bl1]
    · rw [h.isHere1 hp hs, Option.bind_some, if_neg (by decide)]
      unfold f_X12_takes
      rw [w_as (by omega) (by decide), w_as (by omega) (by decide), w_as (by omega) (by decide), Option.bind_some, w_bl1]
  · exact a_T.no h 0 (by simp [s_present0 h z1, w_bl0]) (by simp [h.isHere0 z1, w_bl0])
