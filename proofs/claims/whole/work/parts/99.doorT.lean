/-! level 1: the kinds behind a new door -/
theorem q_gnv {n : Nat} : q_gn n = if n ≤ 10 then 0 else if n ≤ 15 then 1 else if n ≤ 22 then 2 else 3 := rfl
theorem a_ndc_ne {c : Nat → Nat} {i : Nat} (h : i ≠ 0) : a_ndc c i = c i := by
  unfold a_ndc
  rw [if_neg h]
theorem qTX_door {c : Nat → Nat} (hc : c 0 < 20) (o : Nat) : qTX (a_ndc c) o = if o = 1000 + c 0 then 10 else if o = 200 + q_gn (c 0 + 1) ∧ (c 0 = 0 ∨ c 0 = 10 ∨ c 0 = 15) then 3 else qTX c o := by
  have c0 : a_ndc c 0 = c 0 + 1 := rfl
  have g2 : q_gn (c 0 + 1) ≤ 2 := by
    rw [q_gnv]
    repeat' split
    all_goals omega
  unfold qTX
  by_cases z : o < 120
  · rw [if_pos z, if_pos z, if_neg (by omega), if_neg (by omega)]
  rw [if_neg z, if_neg z]
  by_cases y : o < 300
  · rw [if_pos y, if_pos y, if_neg (show ¬ o = 1000 + c 0 by omega)]
    by_cases x : 200 ≤ o ∧ o < 204
    · have e0 : (o - 200) / 4 = 0 := by omega
      have e1 : (o - 200) % 4 = o - 200 := by omega
      rw [e0, e1, c0]
      by_cases w : o = 200 + q_gn (c 0 + 1) ∧ (c 0 = 0 ∨ c 0 = 10 ∨ c 0 = 15)
      · rw [if_pos w, if_pos ⟨by omega, by omega, by omega, by omega⟩]
      · rw [if_neg w]
        have : (200 ≤ o ∧ o < 216 ∧ c 0 + 1 ≠ 0 ∧ o - 200 ≤ q_gn (c 0 + 1)) ↔ (200 ≤ o ∧ o < 216 ∧ c 0 ≠ 0 ∧ o - 200 ≤ q_gn (c 0)) := by
          have h1 : q_gn (c 0 + 1) = if c 0 + 1 ≤ 10 then 0 else if c 0 + 1 ≤ 15 then 1 else if c 0 + 1 ≤ 22 then 2 else 3 := rfl
          have h2 : q_gn (c 0) = if c 0 ≤ 10 then 0 else if c 0 ≤ 15 then 1 else if c 0 ≤ 22 then 2 else 3 := rfl
          by_cases w1 : c 0 = 0
          · rw [w1] at w h1 ⊢
            have h1 : q_gn (0 + 1) = 0 := h1
            rw [h1] at w ⊢
            omega
          by_cases w2 : c 0 ≤ 9
          · rw [if_pos (by omega)] at h1 h2
            rw [h1, h2]; omega
          by_cases w3 : c 0 = 10
          · rw [w3] at w ⊢
            have h1 : q_gn (10 + 1) = 1 := rfl
            have h2 : q_gn 10 = 0 := rfl
            rw [h1] at w
            rw [h1, h2]; omega
          by_cases w4 : c 0 ≤ 14
          · rw [if_neg (by omega), if_pos (by omega)] at h1 h2
            rw [h1, h2]; omega
          by_cases w5 : c 0 = 15
          · rw [w5] at w ⊢
            have h1 : q_gn (15 + 1) = 2 := rfl
            have h2 : q_gn 15 = 1 := rfl
            rw [h1] at w
            rw [h1, h2]; omega
          · rw [if_neg (by omega), if_neg (by omega), if_pos (by omega)] at h1 h2
            rw [h1, h2]; omega
        by_cases q : 200 ≤ o ∧ o < 216 ∧ c 0 ≠ 0 ∧ o - 200 ≤ q_gn (c 0)
        · rw [if_pos (this.mpr q), if_pos q]
        · rw [if_neg (fun p => q (this.mp p)), if_neg q]
    · rw [if_neg (show ¬ (o = 200 + q_gn (c 0 + 1) ∧ (c 0 = 0 ∨ c 0 = 10 ∨ c 0 = 15)) by omega)]
      by_cases w : 200 ≤ o
      · rw [a_ndc_ne (show (o - 200) / 4 ≠ 0 by omega)]
      · rw [if_neg (by omega), if_neg (by omega)]
  · rw [if_neg y, if_neg y, a_ndc_ne (show 1 ≠ 0 by decide), a_ndc_ne (show 2 ≠ 0 by decide), a_ndc_ne (show 3 ≠ 0 by decide), c0]
    by_cases x : o = 1000 + c 0
    · rw [if_pos x]
      unfold q_rg
      rw [if_pos (by omega)]
    · rw [if_neg x, if_neg (show ¬ (o = 200 + q_gn (c 0 + 1) ∧ (c 0 = 0 ∨ c 0 = 10 ∨ c 0 = 15)) by omega)]
      unfold q_rg
      by_cases w : 1000 ≤ o ∧ o < 1000 + c 0
      · rw [if_pos (by omega), if_pos w]
      · rw [if_neg (by omega), if_neg w]
theorem qLX_row {c : Nat → Nat} {g : Nat} (hg : g < 3) : qLX c (200 + g) = if g = 0 then 10 else if g = 1 then 15 else 22 := by
  unfold qLX
  rw [if_neg (by omega), if_pos (by omega)]
  rcases (show g = 0 ∨ g = 1 ∨ g = 2 by omega) with e | e | e <;> subst e <;> rfl
theorem qPX_row {c : Nat → Nat} {g k : Nat} (hg : g < 3) : qPX c (200 + g) k = if k < c 0 then 1000 + k else 0 := by
  unfold qPX q_el
  rw [if_neg (by omega), if_pos (by omega), show (200 + g - 200) / 4 = 0 by omega]
  rfl
theorem qTX_row {c : Nat → Nat} {g : Nat} (hg : g < 3) (h0 : c 0 ≠ 0) (h1 : g ≤ q_gn (c 0)) : qTX c (200 + g) = 3 := by
  unfold qTX
  rw [if_neg (by omega), if_pos (by omega), show (200 + g - 200) / 4 = 0 by omega, show (200 + g - 200) % 4 = g by omega, if_pos ⟨by omega, by omega, h0, h1⟩]
theorem qPX_13 {c : Nat → Nat} : qPX c 13 1 = if c 0 = 0 then 940 else 200 + q_gn (c 0) := rfl
