/-! level 1: the kinds behind a new door -/
theorem q_gnv {n : Nat} : q_gn n = if n ≤ 10 then 0 else if n ≤ 15 then 1 else if n ≤ 22 then 2 else 3 := rfl
theorem a_ndc_ne {c : Nat → Nat} {i : Nat} (h : i ≠ 0) : a_ndc c i = c i := by
  unfold a_ndc
  rw [if_neg h]
theorem qTX_door {c : Nat → Nat} (hc : c 0 < 20) (o : Nat) : qTX (a_ndc c) o = if o = 1000 + c 0 then 10 else if o = 200 + q_gn (c 0 + 1) ∧ (c 0 = 0 ∨ c 0 = 10 ∨ c 0 = 15) then 3 else qTX c o := by
  have c0 : a_ndc c 0 = c 0 + 1 := rfl
  have g2 : q_gn (c 0 + 1) ≤ 2 := by
    rw [q_gnv]
    repeat' split
    all_goals omega
  unfold qTX
  by_cases z : o < 120
  · rw [if_pos z, if_pos z, if_neg (by omega), if_neg (by omega)]
  rw [if_neg z, if_neg z]
  by_cases y : o < 300
  · rw [if_pos y, if_pos y, if_neg (show ¬ o = 1000 + c 0 by omega)]
    by_cases x : 200 ≤ o ∧ o < 204
    · have e0 : (o - 200) / 4 = 0 := by omega
      have e1 : (o - 200) % 4 = o - 200 := by omega
      rw [e0, e1, c0]
      by_cases w : o = 200 + q_gn (c 0 + 1) ∧ (c 0 = 0 ∨ c 0 = 10 ∨ c 0 = 15)
      · rw [if_pos w, if_pos ⟨by omega, by omega, by omega, by omega⟩]
      · rw [if_neg w]
        have : (200 ≤ o ∧ o < 216 ∧ c 0 + 1 ≠ 0 ∧ o - 200 ≤ q_gn (c 0 + 1)) ↔ (200 ≤ o ∧ o < 216 ∧ c 0 ≠ 0 ∧ o - 200 ≤ q_gn (c 0)) := by
          have h1 : q_gn (c 0 + 1) = if c 0 + 1 ≤ 10 then 0 else if c 0 + 1 ≤ 15 then 1 else if c 0 + 1 ≤ 22 then 2 else 3 := rfl
          have h2 : q_gn (c 0) = if c 0 ≤ 10 then 0 else if c 0 ≤ 15 then 1 else if c 0 ≤ 22 then 2 else 3 := rfl
          by_cases w1 : c 0 = 0
          · rw [w1] at w h1 ⊢
            have h1 : q_gn (0 + 1) = 0 := h1
            rw [h1] at w ⊢
            omega
          by_cases w2 : c 0 ≤ 9
          · rw [if_pos (by omega)] at h1 h2
            rw [h1, h2]; omega
          by_cases w3 : c 0 = 10
          · rw [w3] at w ⊢
            have h1 : q_gn (10 + 1) = 1 := rfl
            have h2 : q_gn 10 = 0 := rfl
            rw [h1] at w
            rw [h1, h2]; omega
          by_cases w4 : c 0 ≤ 14
          · rw [if_neg (by omega), if_pos (by omega)] at h1 h2
            rw [h1, h2]; omega
          by_cases w5 : c 0 = 15
          · rw [w5] at w ⊢
            have h1 : q_gn (15 + 1) = 2 := rfl
            have h2 : q_gn 15 = 1 := rfl
            rw [h1] at w
            rw [h1, h2]; omega
          · rw [if_neg (by omega), if_neg (by omega), if_pos (by omega)] at h1 h2
            rw [h1, h2]; omega
        by_cases q : 200 ≤ o ∧ o < 216 ∧ c 0 ≠ 0 ∧ o - 200 ≤ q_gn (c 0)
        · rw [if_pos (this.mpr q), if_pos q]
        · rw [if_neg (fun p => q (this.mp p)), if_neg q]
    · rw [if_neg (show ¬ (o = 200 + q_gn (c 0 + 1) ∧ (c 0 = 0 ∨ c 0 = 10 ∨ c 0 = 15)) by omega)]
      by_cases w : 200 ≤ o
      · rw [a_ndc_ne (show (o - 200) / 4 ≠ 0 by omega)]
      · rw [if_neg (by omega), if_neg (by omega)]
  · rw [if_neg y, if_neg y, a_ndc_ne (show 1 ≠ 0 by decide), a_ndc_ne (show 2 ≠ 0 by decide), a_ndc_ne (show 3 ≠ 0 by decide), c0]
    by_cases x : o = 1000 + c 0
    · rw [if_pos x]
      unfold q_rg
      rw [if_pos (by omega)]
    · rw [if_neg x, if_neg (show ¬ (o = 200 + q_gn (c 0 + 1) ∧ (c 0 = 0 ∨ c 0 = 10 ∨ c 0 = 15)) by omega)]
      unfold q_rg
      by_cases w : 1000 ≤ o ∧ o < 1000 + c 0
      · rw [if_pos (by omega), if_pos w]
      · rw [if_neg (by omega), if_neg w]
theorem qLX_row {c : Nat → Nat} {g : Nat} (hg : g < 3) : qLX c (200 + g) = if g = 0 then 10 else if g = 1 then 15 else 22 := by
  unfold qLX
  rw [if_neg (by omega), if_pos (by omega)]
  rcases (show g = 0 ∨ g = 1 ∨ g = 2 by omega) with e | e | e <;> subst e <;> rfl
theorem qPX_row {c : Nat → Nat} {g k : Nat} (hg : g < 3) : qPX c (200 + g) k = if k < c 0 then 1000 + k else 0 := by
  unfold qPX q_el
  rw [if_neg (by omega), if_pos (by omega), show (200 + g - 200) / 4 = 0 by omega]
  rfl
theorem qTX_row {c : Nat → Nat} {g : Nat} (hg : g < 3) (h0 : c 0 ≠ 0) (h1 : g ≤ q_gn (c 0)) : qTX c (200 + g) = 3 := by
  unfold qTX
  rw [if_neg (by omega), if_pos (by omega), show (200 + g - 200) / 4 = 0 by omega, show (200 + g - 200) % 4 = g by omega, if_pos ⟨by omega, by omega, h0, h1⟩]
theorem qPX_13 {c : Nat → Nat} : qPX c 13 1 = if c 0 = 0 then 940 else 200 + q_gn (c 0) := rfl
/-! level 1: a door added where the row has room -/
theorem qPX_same {c : Nat → Nat} {o : Nat} (h1 : o ≠ 13) (h2 : o < 120 ∨ 204 ≤ o) : qPX (a_ndc c) o = qPX c o := by
  funext k
  unfold qPX
  by_cases z : o < 120
  · rw [if_pos z, if_pos z, if_neg h1, if_neg h1, a_ndc_ne (show 1 ≠ 0 by decide), a_ndc_ne (show 2 ≠ 0 by decide), a_ndc_ne (show 3 ≠ 0 by decide)]
  · rw [if_neg z, if_neg z]
    by_cases y : o < 300
    · rw [if_pos y, if_pos y, a_ndc_ne (show (o - 200) / 4 ≠ 0 by omega)]
    · rw [if_neg y, if_neg y]
theorem qLX_same {c : Nat → Nat} {o : Nat} : qLX (a_ndc c) o = qLX c o := by
  unfold qLX
  rw [a_ndc_ne (show 10 + (o - 1500) ≠ 0 by omega)]
theorem c_addD_room (l : Launch) (K : q_KK) {c : Nat → Nat} {M : q_MM} (hc : c 0 < 20) (hM : M 13 2 = nI (c 0)) (h0 : c 0 ≠ 0) (h10 : c 0 ≠ 10) (h15 : c 0 ≠ 15) : ∃ g', Mt l yJx4a65c_add_9ea2d cJx4a65c_add_9ea2d 2 (some FieldType.boolean) 6 200 1 33 true K [.ref 13, .ref (1000 + c 0)] (va_up (qTX c) (1000 + c 0) 10, va_up (qLX c) (1000 + c 0) 0, va_up (qPX c) (1000 + c 0) (fun _ => 0), M) (some (.int 1)) g' ∧ q_alk g' (qTX (a_ndc c), qLX (a_ndc c), qPX (a_ndc c), q_ad2 M 13 (c 0)) := by
  have g2 : q_gn (c 0) < 3 := by
    rw [q_gnv]
    repeat' split
    all_goals omega
  have gs : q_gn (c 0 + 1) = q_gn (c 0) := by
    rw [q_gnv, q_gnv]
    repeat' split
    all_goals omega
  have gL : c 0 < (if q_gn (c 0) = 0 then 10 else if q_gn (c 0) = 1 then 15 else 22) := by
    rw [q_gnv]
    repeat' split
    all_goals omega
  have g1000 : (if q_gn (c 0) = 0 then 10 else if q_gn (c 0) = 1 then 15 else 22) ≤ 1000 := by
    repeat' split
    all_goals omega
  have gold : ∀ g, g < q_gn (c 0) → (if g = 0 then 10 else if g = 1 then 15 else 22) ≤ c 0 := fun g hg => by
    rw [q_gnv] at hg
    revert hg
    repeat' split
    all_goals omega
  have ne : ∀ {α : Type} (f : Nat → α) (x : α) (o : Nat), o < 1000 → va_up f (1000 + c 0) x o = f o := fun f x o ho => va_up_ne f x (by omega)
  refine ⟨_, c_addR l K _ _ _ M 13 (1000 + c 0) (200 + q_gn (c 0)) (c 0) (if q_gn (c 0) = 0 then 10 else if q_gn (c 0) = 1 then 15 else 22) 0 ?_ ?_ hM ?_ ?_ gL g1000 (va_up_self _ _ _) (show q_classes[0]? = some (RX0, TX0, 4) from rfl) (by decide +kernel), fun o => ?_, fun o ho => ⟨fun h4 => ?_, fun _ x _ => rfl, fun h3 x hx => ?_, fun h5 k hk => ⟨fun hk1 => ?_, fun _ => rfl⟩⟩⟩
  · rw [ne _ _ _ (by omega)]; rfl
  · rw [ne _ _ _ (by omega), qPX_13, if_neg h0]
  · rw [ne _ _ _ (by omega), qTX_row g2 h0 (Nat.le_refl _)]
  · rw [ne _ _ _ (by omega), qLX_row g2]
  · show qTX (a_ndc c) o = va_up (qTX c) (1000 + c 0) 10 o
    rw [qTX_door hc]
    unfold va_up
    by_cases z : o = 1000 + c 0
    · rw [if_pos z, if_pos z]
    · rw [if_neg z, if_neg z, if_neg (by omega)]
  · show qLX (a_ndc c) o = va_up (qLX c) (1000 + c 0) 0 o
    have h4 : va_up (qTX c) (1000 + c 0) 10 o ≤ 4 := h4
    by_cases z : o = 1000 + c 0
    · rw [z, va_up_self] at h4
      omega
    · rw [qLX_same, va_up_ne _ _ z]
  · have h3 : va_up (qTX c) (1000 + c 0) 10 o = 3 := h3
    have hx : x < va_up (qLX c) (1000 + c 0) 0 o := hx
    show qPX (a_ndc c) o x = q_p2 (va_up (qPX c) (1000 + c 0) (fun _ => 0)) (200 + q_gn (c 0)) (c 0) (1000 + c 0) o x
    by_cases z : o = 1000 + c 0
    · rw [z, va_up_self] at h3
      omega
    rw [va_up_ne _ _ z] at h3 hx
    by_cases y : 200 ≤ o ∧ o < 204
    · obtain ⟨g, rfl⟩ : ∃ g, o = 200 + g := ⟨o - 200, by omega⟩
      have hg : g ≤ q_gn (c 0) := by
        unfold qTX at h3
        rw [if_neg (by omega), if_pos (by omega), show (200 + g - 200) / 4 = 0 by omega, show (200 + g - 200) % 4 = g by omega] at h3
        by_cases q : 200 ≤ 200 + g ∧ 200 + g < 216 ∧ c 0 ≠ 0 ∧ g ≤ q_gn (c 0)
        · exact q.2.2.2
        · rw [if_neg q] at h3
          omega
      rw [qPX_row (by omega), show a_ndc c 0 = c 0 + 1 from rfl]
      by_cases w : g = q_gn (c 0)
      · subst w
        show _ = (if 200 + q_gn (c 0) = 200 + q_gn (c 0) then (fun k' => if k' = c 0 then 1000 + c 0 else va_up (qPX c) (1000 + c 0) (fun _ => 0) (200 + q_gn (c 0)) k') else _) x
        rw [if_pos rfl]
        show _ = if x = c 0 then 1000 + c 0 else va_up (qPX c) (1000 + c 0) (fun _ => 0) (200 + q_gn (c 0)) x
        rw [va_up_ne _ _ z, qPX_row (by omega)]
        by_cases v : x = c 0
        · rw [if_pos v, if_pos (by omega), v]
        · rw [if_neg v]
          by_cases v2 : x < c 0
          · rw [if_pos (by omega), if_pos v2]
          · rw [if_neg (by omega), if_neg v2]
      · rw [q_p2n (by omega), va_up_ne _ _ z, qPX_row (by omega)]
        rw [qLX_row (by omega)] at hx
        have := gold g (by omega)
        rw [if_pos (by omega), if_pos (by omega)]
    · rw [q_p2n (by omega), va_up_ne _ _ z]
      by_cases w : o < 120 ∨ 204 ≤ o
      · by_cases v : o = 13
        · subst v
          exact absurd (show qTX c 13 = 23 from rfl) (by omega)
        · rw [qPX_same v w]
      · exfalso
        unfold qTX at h3
        rw [if_neg (by omega), if_pos (by omega), if_neg (by omega)] at h3
        omega
  · have h5 : 4 < va_up (qTX c) (1000 + c 0) 10 o := h5
    show qPX (a_ndc c) o k = q_p2 (va_up (qPX c) (1000 + c 0) (fun _ => 0)) (200 + q_gn (c 0)) (c 0) (1000 + c 0) o k
    by_cases z : o = 1000 + c 0
    · rw [q_p2n (by omega), z, va_up_self]
      unfold qPX
      rw [if_neg (by omega), if_neg (by omega), if_neg (by omega), if_neg (by omega)]
    rw [va_up_ne _ _ z] at h5
    by_cases y : 120 ≤ o ∧ o < 300
    · exfalso
      unfold qTX at h5
      rw [if_neg (by omega), if_pos (by omega)] at h5
      revert h5
      split
      all_goals omega
    rw [q_p2n (by omega), va_up_ne _ _ z]
    by_cases v : o = 13
    · subst v
      show q_ed 0 (a_ndc c 0) k = q_ed 0 (c 0) k
      unfold q_ed q_bid
      rw [show a_ndc c 0 = c 0 + 1 from rfl, gs, if_neg (show ¬ c 0 + 1 = 0 by omega), if_neg h0]
    · rw [qPX_same v (by omega)]
