/-! level 1: what a new object leaves as it was -/
/-- the references of the cells that stand -/
def q_msk (c : Nat → Nat) : Nat → Nat → Nat := fun o => if qTX c o = 0 then (fun _ => 0) else qPX c o
theorem q_msk_eq {c : Nat → Nat} {o : Nat} (h : qTX c o ≠ 0) : q_msk c o = qPX c o := by
  unfold q_msk
  rw [if_neg h]
theorem q_msk_alk {c : Nat → Nat} {M : q_MM} : q_alk (qTX c, qLX c, qPX c, M) (qTX c, qLX c, q_msk c, M) :=
  ⟨fun _ => rfl, fun o ho => ⟨fun _ => rfl, fun _ _ _ => rfl, fun _ x _ => congrFun (q_msk_eq ho) x, fun _ k _ => ⟨fun _ => congrFun (q_msk_eq ho) k, fun _ => rfl⟩⟩⟩
theorem q_msk_no {c : Nat → Nat} (hC : a_C c) {o : Nat} (h0 : qTX c o = 0) (h1 : 200 ≤ o) (h2 : o < 900 ∨ 1000 ≤ o) : q_no (qTX c) (q_msk c) o := by
  refine ⟨h0, fun o' k e => ?_⟩
  by_cases z : qTX c o' = 0
  · unfold q_msk at e
    rw [if_pos z] at e
    omega
  rw [q_msk_eq z] at e
  have ed : ∀ j, j < 4 → q_ed j (c j) k ≠ o := fun j hj e => by
    unfold q_ed at e
    by_cases k1 : k = 1
    · rw [if_pos k1] at e
      by_cases c0 : c j = 0
      · rw [if_pos c0] at e
        omega
      · rw [if_neg c0] at e
        have := qTX_rw (c := c) hj (q_gn4 (c j))
        rw [if_pos ⟨c0, Nat.le_refl _⟩] at this
        unfold q_bid at e
        rw [e] at this
        omega
    · rw [if_neg k1] at e
      omega
  unfold qPX at e
  by_cases y : o' < 120
  · rw [if_pos y] at e
    by_cases y1 : o' = 13
    · rw [if_pos y1] at e; exact ed 0 (by decide) e
    rw [if_neg y1] at e
    by_cases y2 : o' = 14
    · rw [if_pos y2] at e; exact ed 1 (by decide) e
    rw [if_neg y2] at e
    by_cases y3 : o' = 15
    · rw [if_pos y3] at e; exact ed 2 (by decide) e
    rw [if_neg y3] at e
    by_cases y4 : o' = 27
    · rw [if_pos y4] at e; exact ed 3 (by decide) e
    rw [if_neg y4] at e
    by_cases k13 : k < 13
    · have := qPXs_lt o' y k k13
      omega
    · have h1 := qPXs_len o' y
      have : (qPXs.getD o' []).getD k 0 = 0 := by
        simp only [List.getD]
        rw [List.getElem?_eq_none (by simp only [List.getD] at h1; omega)]
        rfl
      omega
  rw [if_neg y] at e
  by_cases x : o' < 300
  · rw [if_pos x] at e
    have hi : (o' - 200) / 4 < 4 := by
      unfold qTX at z
      rw [if_neg y, if_pos x] at z
      by_cases q : 200 ≤ o' ∧ o' < 216 ∧ c ((o' - 200) / 4) ≠ 0 ∧ (o' - 200) % 4 ≤ q_gn (c ((o' - 200) / 4))
      · omega
      · rw [if_neg q] at z
        exact absurd rfl z
    unfold q_el at e
    by_cases w : k < c ((o' - 200) / 4)
    · rw [if_pos w] at e
      rcases (show (o' - 200) / 4 = 0 ∨ (o' - 200) / 4 = 1 ∨ (o' - 200) / 4 = 2 ∨ (o' - 200) / 4 = 3 by omega) with q | q | q | q <;> rw [q] at e w
      · have e : 1000 + k = o := e
        have := t_door hC w
        rw [e] at this; omega
      · have e : 1100 + k = o := e
        have := t_wall hC w
        rw [e] at this; omega
      · have e : 1300 + k = o := e
        have := t_pic hC w
        rw [e] at this; omega
      · have e : 1400 + k = o := e
        have := t_term hC w
        rw [e] at this; omega
    · rw [if_neg w] at e
      omega
  rw [if_neg x] at e
  have tz : qTX c o' = q_rg o' 1000 (c 0) 10 (q_rg o' 1100 (c 1) 20 (q_rg o' 1200 (c 1) 1 (q_rg o' 1300 (c 2) 15 (q_rg o' 1400 (c 3) 17 (q_rg o' 1500 (c 3) 1 0))))) := by
    unfold qTX
    rw [if_neg y, if_neg x]
  obtain ⟨b0, b1, b2, b3⟩ := hC
  by_cases w : 1100 ≤ o' ∧ o' < 1200 ∧ k = 5
  · rw [if_pos w] at e
    have hd : o' - 1100 < c 1 := by
      rw [tz] at z
      unfold q_rg at z
      by_cases q : o' < 1100 + c 1
      · omega
      · rw [if_neg (by omega), if_neg (by omega), if_neg (by omega), if_neg (by omega), if_neg (by omega), if_neg (by omega)] at z
        exact absurd rfl z
    have := t_light ⟨b0, b1, b2, b3⟩ hd
    rw [show 1200 + (o' - 1100) = o by omega] at this
    omega
  rw [if_neg w] at e
  by_cases v : 1400 ≤ o' ∧ o' < 1500 ∧ k = 2
  · rw [if_pos v] at e
    have hd : o' - 1400 < c 3 := by
      rw [tz] at z
      unfold q_rg at z
      by_cases q : o' < 1400 + c 3
      · omega
      · rw [if_neg (by omega), if_neg (by omega), if_neg (by omega), if_neg (by omega), if_neg (by omega), if_neg (by omega)] at z
        exact absurd rfl z
    have := t_code ⟨b0, b1, b2, b3⟩ hd
    rw [show 1500 + (o' - 1400) = o by omega] at this
    omega
  rw [if_neg v] at e
  omega
/-- counts that differ in one list only -/
def q_one (j : Nat) (c c' : Nat → Nat) : Prop := j < 4 ∧ c' j = c j + 1 ∧ (∀ i, i < 4 → i ≠ j → c' i = c i) ∧ (∀ i, 4 ≤ i → i ≠ 10 + c 3 ∨ j ≠ 3 → c' i = c i)
theorem q_one_T {j : Nat} {c c' : Nat → Nat} (h : q_one j c c') (hC : a_C c) {x : Nat} (hx : x < 200 + 4 * j ∨ 204 + 4 * j ≤ x) (h1 : x ≠ q_bs j + c j) (h2 : j = 1 → x ≠ 1200 + c 1) (h3 : j = 3 → x ≠ 1500 + c 3) : qTX c' x = qTX c x := by
  obtain ⟨hj, e1, e2, -⟩ := h
  obtain ⟨b0, b1, b2, b3⟩ := hC
  unfold qTX
  by_cases z : x < 120
  · rw [if_pos z, if_pos z]
  rw [if_neg z, if_neg z]
  by_cases y : x < 300
  · rw [if_pos y, if_pos y]
    by_cases w : 200 ≤ x ∧ x < 216
    · rw [e2 ((x - 200) / 4) (by omega) (by omega)]
    · rw [if_neg (fun q => w ⟨q.1, q.2.1⟩), if_neg (fun q => w ⟨q.1, q.2.1⟩)]
  rw [if_neg y, if_neg y]
  rcases (show j = 0 ∨ j = 1 ∨ j = 2 ∨ j = 3 by omega) with q | q | q | q <;> subst q
  · have h1 : x ≠ 1000 + c 0 := h1
    rw [e1, e2 1 (by decide) (by decide), e2 2 (by decide) (by decide), e2 3 (by decide) (by decide)]
    unfold q_rg
    by_cases w : 1000 ≤ x ∧ x < 1000 + c 0
    · rw [if_pos (by omega), if_pos w]
    · rw [if_neg (by omega), if_neg w]
  · have h1 : x ≠ 1100 + c 1 := h1
    have h2 := h2 rfl
    rw [e1, e2 0 (by decide) (by decide), e2 2 (by decide) (by decide), e2 3 (by decide) (by decide)]
    unfold q_rg
    by_cases w0 : 1000 ≤ x ∧ x < 1000 + c 0
    · rw [if_pos w0, if_pos w0]
    rw [if_neg w0, if_neg w0]
    by_cases w : 1100 ≤ x ∧ x < 1100 + c 1
    · rw [if_pos (by omega), if_pos w]
    rw [if_neg (by omega), if_neg w]
    by_cases w2 : 1200 ≤ x ∧ x < 1200 + c 1
    · rw [if_pos (by omega), if_pos w2]
    rw [if_neg (by omega), if_neg w2]
  · have h1 : x ≠ 1300 + c 2 := h1
    rw [e1, e2 0 (by decide) (by decide), e2 1 (by decide) (by decide), e2 3 (by decide) (by decide)]
    unfold q_rg
    by_cases w : 1300 ≤ x ∧ x < 1300 + c 2
    · rw [if_pos (show 1300 ≤ x ∧ x < 1300 + (c 2 + 1) by omega), if_pos w]
    rw [if_neg (show ¬ (1300 ≤ x ∧ x < 1300 + (c 2 + 1)) by omega), if_neg w]
  · have h1 : x ≠ 1400 + c 3 := h1
    have h3 := h3 rfl
    rw [e1, e2 0 (by decide) (by decide), e2 1 (by decide) (by decide), e2 2 (by decide) (by decide)]
    unfold q_rg
    by_cases w : 1400 ≤ x ∧ x < 1400 + c 3
    · rw [if_pos (show 1400 ≤ x ∧ x < 1400 + (c 3 + 1) by omega), if_pos w]
    rw [if_neg (show ¬ (1400 ≤ x ∧ x < 1400 + (c 3 + 1)) by omega), if_neg w]
    by_cases w2 : 1500 ≤ x ∧ x < 1500 + c 3
    · rw [if_pos (show 1500 ≤ x ∧ x < 1500 + (c 3 + 1) by omega), if_pos w2]
    rw [if_neg (show ¬ (1500 ≤ x ∧ x < 1500 + (c 3 + 1)) by omega), if_neg w2]
theorem q_one_L {j : Nat} {c c' : Nat → Nat} (h : q_one j c c') {x : Nat} (h3 : j = 3 → x ≠ 1500 + c 3) : qLX c' x = qLX c x := by
  obtain ⟨hj, e1, e2, e3⟩ := h
  unfold qLX
  by_cases z : x < 120
  · rw [if_pos z, if_pos z]
  rw [if_neg z, if_neg z]
  by_cases y : x < 300
  · rw [if_pos y, if_pos y]
  rw [if_neg y, if_neg y]
  by_cases w : x < 1500
  · rw [if_pos w, if_pos w]
  rw [if_neg w, if_neg w, e3 (10 + (x - 1500)) (by omega) (by omega)]
def q_lo (j : Nat) : Nat := ([13, 14, 15, 27] : List Nat).getD j 0
theorem q_one_P {j : Nat} {c c' : Nat → Nat} (h : q_one j c c') {x : Nat} (hx : x < 200 + 4 * j ∨ 204 + 4 * j ≤ x) (hT : qTX c x ≠ 0) (ho : x ≠ q_lo j) : qPX c' x = qPX c x := by
  obtain ⟨hj, e1, e2, e3⟩ := h
  funext k
  unfold qPX
  by_cases z : x < 120
  · rw [if_pos z, if_pos z]
    rcases (show j = 0 ∨ j = 1 ∨ j = 2 ∨ j = 3 by omega) with q | q | q | q <;> subst q
    · rw [if_neg (show x ≠ 13 from ho), if_neg (show x ≠ 13 from ho), e2 1 (by decide) (by decide), e2 2 (by decide) (by decide), e2 3 (by decide) (by decide)]
    · rw [if_neg (show x ≠ 14 from ho), if_neg (show x ≠ 14 from ho), e2 0 (by decide) (by decide), e2 2 (by decide) (by decide), e2 3 (by decide) (by decide)]
    · rw [if_neg (show x ≠ 15 from ho), if_neg (show x ≠ 15 from ho), e2 0 (by decide) (by decide), e2 1 (by decide) (by decide), e2 3 (by decide) (by decide)]
    · rw [if_neg (show x ≠ 27 from ho), if_neg (show x ≠ 27 from ho), e2 0 (by decide) (by decide), e2 1 (by decide) (by decide), e2 2 (by decide) (by decide)]
  rw [if_neg z, if_neg z]
  by_cases y : x < 300
  · rw [if_pos y, if_pos y]
    have hi : 200 ≤ x ∧ (x - 200) / 4 < 4 := by
      unfold qTX at hT
      rw [if_neg z, if_pos y] at hT
      by_cases q : 200 ≤ x ∧ x < 216 ∧ c ((x - 200) / 4) ≠ 0 ∧ (x - 200) % 4 ≤ q_gn (c ((x - 200) / 4))
      · omega
      · rw [if_neg q] at hT
        exact absurd rfl hT
    rw [e2 _ hi.2 (by omega)]
  rw [if_neg y, if_neg y]
theorem q_no3 {c : Nat → Nat} {x : Nat} (h : qTX c x = 3) : 200 ≤ x ∧ x < 216 := by
  unfold qTX at h
  by_cases z : x < 120
  · rw [if_pos z] at h
    exfalso
    revert h
    have : ∀ x, x < 120 → qTXs.getD x 0 ≠ 3 := by decide +kernel
    exact this x z
  rw [if_neg z] at h
  by_cases y : x < 300
  · rw [if_pos y] at h
    by_cases q : 200 ≤ x ∧ x < 216 ∧ c ((x - 200) / 4) ≠ 0 ∧ (x - 200) % 4 ≤ q_gn (c ((x - 200) / 4))
    · exact ⟨q.1, q.2.1⟩
    · rw [if_neg q] at h
      omega
  · rw [if_neg y] at h
    unfold q_rg at h
    exfalso
    revert h
    repeat' split
    all_goals omega
