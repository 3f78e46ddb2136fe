/-! level 1: worlds apart, in either order; where the class' references go -/
theorem q_un_swap {g h : q_Mem} (hd : ∀ o, h.1 o ≠ 0 → g.1 o = 0) : q_alk (q_un g h) (q_un h g) := by
  have l1 : ∀ o, h.1 o ≠ 0 → (q_un g h).1 o = h.1 o ∧ (q_un g h).2.1 o = h.2.1 o ∧ (q_un g h).2.2.1 o = h.2.2.1 o ∧ (q_un g h).2.2.2 o = h.2.2.2 o := fun o ho => by
    unfold q_un
    simp only [ho, ne_eq, not_false_eq_true, if_true, and_self]
  have l2 : ∀ o, h.1 o = 0 → (q_un g h).1 o = g.1 o ∧ (q_un g h).2.1 o = g.2.1 o ∧ (q_un g h).2.2.1 o = g.2.2.1 o ∧ (q_un g h).2.2.2 o = g.2.2.2 o := fun o ho => by
    unfold q_un
    simp only [ho, ne_eq, not_true_eq_false, if_false, and_self]
  have l3 : ∀ o, g.1 o ≠ 0 → (q_un h g).1 o = g.1 o ∧ (q_un h g).2.1 o = g.2.1 o ∧ (q_un h g).2.2.1 o = g.2.2.1 o ∧ (q_un h g).2.2.2 o = g.2.2.2 o := fun o ho => by
    unfold q_un
    simp only [ho, ne_eq, not_false_eq_true, if_true, and_self]
  have l4 : ∀ o, g.1 o = 0 → (q_un h g).1 o = h.1 o ∧ (q_un h g).2.1 o = h.2.1 o ∧ (q_un h g).2.2.1 o = h.2.2.1 o ∧ (q_un h g).2.2.2 o = h.2.2.2 o := fun o ho => by
    unfold q_un
    simp only [ho, ne_eq, not_true_eq_false, if_false, and_self]
  have eq : ∀ o, (q_un g h).1 o ≠ 0 → (q_un h g).2.1 o = (q_un g h).2.1 o ∧ (q_un h g).2.2.1 o = (q_un g h).2.2.1 o ∧ (q_un h g).2.2.2 o = (q_un g h).2.2.2 o := fun o ho => by
    by_cases z : h.1 o = 0
    · obtain ⟨a1, a2, a3, a4⟩ := l2 o z
      rw [a1] at ho
      obtain ⟨b1, b2, b3, b4⟩ := l3 o ho
      exact ⟨b2.trans a2.symm, b3.trans a3.symm, b4.trans a4.symm⟩
    · obtain ⟨a1, a2, a3, a4⟩ := l1 o z
      obtain ⟨b1, b2, b3, b4⟩ := l4 o (hd o z)
      exact ⟨b2.trans a2.symm, b3.trans a3.symm, b4.trans a4.symm⟩
  refine ⟨fun o => ?_, fun o ho => ?_⟩
  · by_cases z : h.1 o = 0
    · by_cases y : g.1 o = 0
      · rw [(l2 o z).1, (l4 o y).1, z, y]
      · rw [(l2 o z).1, (l3 o y).1]
    · rw [(l1 o z).1, (l4 o (hd o z)).1]
  · obtain ⟨c1, c2, c3⟩ := eq o ho
    exact ⟨fun _ => c1, fun _ x _ => by rw [c3], fun _ x _ => by rw [c2], fun _ k _ => ⟨fun _ => by rw [c2], fun _ => by rw [c3]⟩⟩
theorem qPXs_len : ∀ o, o < 120 → (qPXs.getD o []).length ≤ 13 := by decide +kernel
theorem qPXs_lt : ∀ o, o < 120 → ∀ k, k < 13 → (qPXs.getD o []).getD k 0 < 200 := by decide +kernel
theorem qPX_lt {c : Nat → Nat} (hC : a_C c) {o : Nat} (ho : qTX c o ≠ 0) (k : Nat) : qPX c o k < 2000 := by
  have hg : ∀ n, q_gn n ≤ 3 := fun n => by
    unfold q_gn
    repeat' split
    all_goals omega
  have ed : ∀ j n, j < 4 → q_ed j n k < 2000 := fun j n hj => by
    have := hg n
    unfold q_ed q_bid
    repeat' split
    all_goals omega
  have tb : o < 120 → (qPXs.getD o []).getD k 0 < 2000 := fun ho => by
    by_cases z : k < 13
    · have := qPXs_lt o ho k z
      omega
    · have h1 := qPXs_len o ho
      have : (qPXs.getD o []).getD k 0 = 0 := by
        simp only [List.getD]
        rw [List.getElem?_eq_none (by simp only [List.getD] at h1; omega)]
        rfl
      omega
  unfold qPX
  by_cases z : o < 120
  · rw [if_pos z]
    by_cases y1 : o = 13
    · rw [if_pos y1]; exact ed 0 _ (by decide)
    rw [if_neg y1]
    by_cases y2 : o = 14
    · rw [if_pos y2]; exact ed 1 _ (by decide)
    rw [if_neg y2]
    by_cases y3 : o = 15
    · rw [if_pos y3]; exact ed 2 _ (by decide)
    rw [if_neg y3]
    by_cases y4 : o = 27
    · rw [if_pos y4]; exact ed 3 _ (by decide)
    rw [if_neg y4]
    exact tb z
  · rw [if_neg z]
    by_cases y : o < 300
    · rw [if_pos y]
      have hb : ∀ i, ([1000, 1100, 1300, 1400] : List Nat).getD i 0 ≤ 1400 := fun i => by
        match i with
        | 0 => decide
        | 1 => decide
        | 2 => decide
        | 3 => decide
        | i + 4 => exact Nat.zero_le _
      have hcb : (o - 200) / 4 < 4 → c ((o - 200) / 4) ≤ 30 := fun hi => by
        obtain ⟨c0, c1, c2, c3⟩ := hC
        rcases (show (o - 200) / 4 = 0 ∨ (o - 200) / 4 = 1 ∨ (o - 200) / 4 = 2 ∨ (o - 200) / 4 = 3 by omega) with e | e | e | e <;> rw [e] <;> omega
      have hi : (o - 200) / 4 < 4 := by
        unfold qTX at ho
        rw [if_neg z, if_pos y] at ho
        by_cases q : 200 ≤ o ∧ o < 216 ∧ c ((o - 200) / 4) ≠ 0 ∧ (o - 200) % 4 ≤ q_gn (c ((o - 200) / 4))
        · omega
        · rw [if_neg q] at ho
          exact absurd rfl ho
      have h1 := hcb hi
      have h2 := hb ((o - 200) / 4)
      unfold q_el
      split
      · omega
      · omega
    · rw [if_neg y]
      repeat' split
      all_goals omega
