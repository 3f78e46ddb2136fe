/-! level 1: the kinds behind a new door -/
theorem q_gnv {n : Nat} : q_gn n = if n ≤ 10 then 0 else if n ≤ 15 then 1 else if n ≤ 22 then 2 else 3 := rfl
theorem a_ndc_ne {c : Nat → Nat} {i : Nat} (h : i ≠ 0) : a_ndc c i = c i := by
  unfold a_ndc
  rw [if_neg h]
theorem qTX_door {c : Nat → Nat} (hc : c 0 < 20) (o : Nat) : qTX (a_ndc c) o = if o = 1000 + c 0 then 10 else if o = 200 + q_gn (c 0 + 1) ∧ (c 0 = 0 ∨ c 0 = 10 ∨ c 0 = 15) then 3 else qTX c o := by
  have c0 : a_ndc c 0 = c 0 + 1 := rfl
  have g2 : q_gn (c 0 + 1) ≤ 2 := by
    rw [q_gnv]
    repeat' split
    all_goals omega
  unfold qTX
  by_cases z : o < 120
  · rw [if_pos z, if_pos z, if_neg (by omega), if_neg (by omega)]
  rw [if_neg z, if_neg z]
  by_cases y : o < 300
  · rw [if_pos y, if_pos y, if_neg (show ¬ o = 1000 + c 0 by omega)]
    by_cases x : 200 ≤ o ∧ o < 204
    · have e0 : (o - 200) / 4 = 0 := by omega
      have e1 : (o - 200) % 4 = o - 200 := by omega
      rw [e0, e1, c0]
      by_cases w : o = 200 + q_gn (c 0 + 1) ∧ (c 0 = 0 ∨ c 0 = 10 ∨ c 0 = 15)
      · rw [if_pos w, if_pos ⟨by omega, by omega, by omega, by omega⟩]
      · rw [if_neg w]
        have : (200 ≤ o ∧ o < 216 ∧ c 0 + 1 ≠ 0 ∧ o - 200 ≤ q_gn (c 0 + 1)) ↔ (200 ≤ o ∧ o < 216 ∧ c 0 ≠ 0 ∧ o - 200 ≤ q_gn (c 0)) := by
          have h1 : q_gn (c 0 + 1) = if c 0 + 1 ≤ 10 then 0 else if c 0 + 1 ≤ 15 then 1 else if c 0 + 1 ≤ 22 then 2 else 3 := rfl
          have h2 : q_gn (c 0) = if c 0 ≤ 10 then 0 else if c 0 ≤ 15 then 1 else if c 0 ≤ 22 then 2 else 3 := rfl
          by_cases w1 : c 0 = 0
          · rw [w1] at w h1 ⊢
            have h1 : q_gn (0 + 1) = 0 := h1
            rw [h1] at w ⊢
            omega
          by_cases w2 : c 0 ≤ 9
          · rw [if_pos (by omega)] at h1 h2
            rw [h1, h2]; omega
          by_cases w3 : c 0 = 10
          · rw [w3] at w ⊢
            have h1 : q_gn (10 + 1) = 1 := rfl
            have h2 : q_gn 10 = 0 := rfl
            rw [h1] at w
            rw [h1, h2]; omega
          by_cases w4 : c 0 ≤ 14
          · rw [if_neg (by omega), if_pos (by omega)] at h1 h2
            rw [h1, h2]; omega
          by_cases w5 : c 0 = 15
          · rw [w5] at w ⊢
            have h1 : q_gn (15 + 1) = 2 := rfl
            have h2 : q_gn 15 = 1 := rfl
            rw [h1] at w
            rw [h1, h2]; omega
          · rw [if_neg (by omega), if_neg (by omega), if_pos (by omega)] at h1 h2
            rw [h1, h2]; omega
        by_cases q : 200 ≤ o ∧ o < 216 ∧ c 0 ≠ 0 ∧ o - 200 ≤ q_gn (c 0)
        · rw [if_pos (this.mpr q), if_pos q]
        · rw [if_neg (fun p => q (this.mp p)), if_neg q]
    · rw [if_neg (show ¬ (o = 200 + q_gn (c 0 + 1) ∧ (c 0 = 0 ∨ c 0 = 10 ∨ c 0 = 15)) by omega)]
      by_cases w : 200 ≤ o
      · rw [a_ndc_ne (show (o - 200) / 4 ≠ 0 by omega)]
      · rw [if_neg (by omega), if_neg (by omega)]
  · rw [if_neg y, if_neg y, a_ndc_ne (show 1 ≠ 0 by decide), a_ndc_ne (show 2 ≠ 0 by decide), a_ndc_ne (show 3 ≠ 0 by decide), c0]
    by_cases x : o = 1000 + c 0
    · rw [if_pos x]
      unfold q_rg
      rw [if_pos (by omega)]
    · rw [if_neg x, if_neg (show ¬ (o = 200 + q_gn (c 0 + 1) ∧ (c 0 = 0 ∨ c 0 = 10 ∨ c 0 = 15)) by omega)]
      unfold q_rg
      by_cases w : 1000 ≤ o ∧ o < 1000 + c 0
      · rw [if_pos (by omega), if_pos w]
      · rw [if_neg (by omega), if_neg w]
theorem qLX_row {c : Nat → Nat} {g : Nat} (hg : g < 3) : qLX c (200 + g) = if g = 0 then 10 else if g = 1 then 15 else 22 := by
  unfold qLX
  rw [if_neg (by omega), if_pos (by omega)]
  rcases (show g = 0 ∨ g = 1 ∨ g = 2 by omega) with e | e | e <;> subst e <;> rfl
theorem qPX_row {c : Nat → Nat} {g k : Nat} (hg : g < 3) : qPX c (200 + g) k = if k < c 0 then 1000 + k else 0 := by
  unfold qPX q_el
  rw [if_neg (by omega), if_pos (by omega), show (200 + g - 200) / 4 = 0 by omega]
  rfl
theorem qTX_row {c : Nat → Nat} {g : Nat} (hg : g < 3) (h0 : c 0 ≠ 0) (h1 : g ≤ q_gn (c 0)) : qTX c (200 + g) = 3 := by
  unfold qTX
  rw [if_neg (by omega), if_pos (by omega), show (200 + g - 200) / 4 = 0 by omega, show (200 + g - 200) % 4 = g by omega, if_pos ⟨by omega, by omega, h0, h1⟩]
theorem qPX_13 {c : Nat → Nat} : qPX c 13 1 = if c 0 = 0 then 940 else 200 + q_gn (c 0) := rfl
/-! level 1: a door added where the row has room -/
theorem qPX_same {c : Nat → Nat} {o : Nat} (h1 : o ≠ 13) (h2 : o < 120 ∨ 204 ≤ o) : qPX (a_ndc c) o = qPX c o := by
  funext k
  unfold qPX
  by_cases z : o < 120
  · rw [if_pos z, if_pos z, if_neg h1, if_neg h1, a_ndc_ne (show 1 ≠ 0 by decide), a_ndc_ne (show 2 ≠ 0 by decide), a_ndc_ne (show 3 ≠ 0 by decide)]
  · rw [if_neg z, if_neg z]
    by_cases y : o < 300
    · rw [if_pos y, if_pos y, a_ndc_ne (show (o - 200) / 4 ≠ 0 by omega)]
    · rw [if_neg y, if_neg y]
theorem qLX_same {c : Nat → Nat} {o : Nat} : qLX (a_ndc c) o = qLX c o := by
  unfold qLX
  rw [a_ndc_ne (show 10 + (o - 1500) ≠ 0 by omega)]
theorem c_addD_room (l : Launch) (K : q_KK) {c : Nat → Nat} {M : q_MM} (hc : c 0 < 20) (hM : M 13 2 = nI (c 0)) (h0 : c 0 ≠ 0) (h10 : c 0 ≠ 10) (h15 : c 0 ≠ 15) : ∃ g', Mt l yJx4a65c_add_9ea2d cJx4a65c_add_9ea2d 2 (some FieldType.boolean) 6 200 1 33 true K [.ref 13, .ref (1000 + c 0)] (va_up (qTX c) (1000 + c 0) 10, va_up (qLX c) (1000 + c 0) 0, va_up (qPX c) (1000 + c 0) (fun _ => 0), M) (some (.int 1)) g' ∧ q_alk g' (qTX (a_ndc c), qLX (a_ndc c), qPX (a_ndc c), q_ad2 M 13 (c 0)) := by
  have g2 : q_gn (c 0) < 3 := by
    rw [q_gnv]
    repeat' split
    all_goals omega
  have gs : q_gn (c 0 + 1) = q_gn (c 0) := by
    rw [q_gnv, q_gnv]
    repeat' split
    all_goals omega
  have gL : c 0 < (if q_gn (c 0) = 0 then 10 else if q_gn (c 0) = 1 then 15 else 22) := by
    rw [q_gnv]
    repeat' split
    all_goals omega
  have g1000 : (if q_gn (c 0) = 0 then 10 else if q_gn (c 0) = 1 then 15 else 22) ≤ 1000 := by
    repeat' split
    all_goals omega
  have gold : ∀ g, g < q_gn (c 0) → (if g = 0 then 10 else if g = 1 then 15 else 22) ≤ c 0 := fun g hg => by
    rw [q_gnv] at hg
    revert hg
    repeat' split
    all_goals omega
  have ne : ∀ {α : Type} (f : Nat → α) (x : α) (o : Nat), o < 1000 → va_up f (1000 + c 0) x o = f o := fun f x o ho => va_up_ne f x (by omega)
  refine ⟨_, c_addR l K _ _ _ M 13 (1000 + c 0) (200 + q_gn (c 0)) (c 0) (if q_gn (c 0) = 0 then 10 else if q_gn (c 0) = 1 then 15 else 22) 0 ?_ ?_ hM ?_ ?_ gL g1000 (va_up_self _ _ _) (show q_classes[0]? = some (RX0, TX0, 4) from rfl) (by decide +kernel), fun o => ?_, fun o ho => ⟨fun h4 => ?_, fun _ x _ => rfl, fun h3 x hx => ?_, fun h5 k hk => ⟨fun hk1 => ?_, fun _ => rfl⟩⟩⟩
  · rw [ne _ _ _ (by omega)]; rfl
  · rw [ne _ _ _ (by omega), qPX_13, if_neg h0]
  · rw [ne _ _ _ (by omega), qTX_row g2 h0 (Nat.le_refl _)]
  · rw [ne _ _ _ (by omega), qLX_row g2]
  · show qTX (a_ndc c) o = va_up (qTX c) (1000 + c 0) 10 o
    rw [qTX_door hc]
    unfold va_up
    by_cases z : o = 1000 + c 0
    · rw [if_pos z, if_pos z]
    · rw [if_neg z, if_neg z, if_neg (by omega)]
  · show qLX (a_ndc c) o = va_up (qLX c) (1000 + c 0) 0 o
    have h4 : va_up (qTX c) (1000 + c 0) 10 o ≤ 4 := h4
    by_cases z : o = 1000 + c 0
    · rw [z, va_up_self] at h4
      omega
    · rw [qLX_same, va_up_ne _ _ z]
  · have h3 : va_up (qTX c) (1000 + c 0) 10 o = 3 := h3
    have hx : x < va_up (qLX c) (1000 + c 0) 0 o := hx
    show qPX (a_ndc c) o x = q_p2 (va_up (qPX c) (1000 + c 0) (fun _ => 0)) (200 + q_gn (c 0)) (c 0) (1000 + c 0) o x
    by_cases z : o = 1000 + c 0
    · rw [z, va_up_self] at h3
      omega
    rw [va_up_ne _ _ z] at h3 hx
    by_cases y : 200 ≤ o ∧ o < 204
    · obtain ⟨g, rfl⟩ : ∃ g, o = 200 + g := ⟨o - 200, by omega⟩
      have hg : g ≤ q_gn (c 0) := by
        unfold qTX at h3
        rw [if_neg (by omega), if_pos (by omega), show (200 + g - 200) / 4 = 0 by omega, show (200 + g - 200) % 4 = g by omega] at h3
        by_cases q : 200 ≤ 200 + g ∧ 200 + g < 216 ∧ c 0 ≠ 0 ∧ g ≤ q_gn (c 0)
        · exact q.2.2.2
        · rw [if_neg q] at h3
          omega
      rw [qPX_row (by omega), show a_ndc c 0 = c 0 + 1 from rfl]
      by_cases w : g = q_gn (c 0)
      · subst w
        show _ = (if 200 + q_gn (c 0) = 200 + q_gn (c 0) then (fun k' => if k' = c 0 then 1000 + c 0 else va_up (qPX c) (1000 + c 0) (fun _ => 0) (200 + q_gn (c 0)) k') else _) x
        rw [if_pos rfl]
        show _ = if x = c 0 then 1000 + c 0 else va_up (qPX c) (1000 + c 0) (fun _ => 0) (200 + q_gn (c 0)) x
        rw [va_up_ne _ _ z, qPX_row (by omega)]
        by_cases v : x = c 0
        · rw [if_pos v, if_pos (by omega), v]
        · rw [if_neg v]
          by_cases v2 : x < c 0
          · rw [if_pos (by omega), if_pos v2]
          · rw [if_neg (by omega), if_neg v2]
      · rw [q_p2n (by omega), va_up_ne _ _ z, qPX_row (by omega)]
        rw [qLX_row (by omega)] at hx
        have := gold g (by omega)
        rw [if_pos (by omega), if_pos (by omega)]
    · rw [q_p2n (by omega), va_up_ne _ _ z]
      by_cases w : o < 120 ∨ 204 ≤ o
      · by_cases v : o = 13
        · subst v
          exact absurd (show qTX c 13 = 23 from rfl) (by omega)
        · rw [qPX_same v w]
      · exfalso
        unfold qTX at h3
        rw [if_neg (by omega), if_pos (by omega), if_neg (by omega)] at h3
        omega
  · have h5 : 4 < va_up (qTX c) (1000 + c 0) 10 o := h5
    show qPX (a_ndc c) o k = q_p2 (va_up (qPX c) (1000 + c 0) (fun _ => 0)) (200 + q_gn (c 0)) (c 0) (1000 + c 0) o k
    by_cases z : o = 1000 + c 0
    · rw [q_p2n (by omega), z, va_up_self]
      unfold qPX
      rw [if_neg (by omega), if_neg (by omega), if_neg (by omega), if_neg (by omega)]
    rw [va_up_ne _ _ z] at h5
    by_cases y : 120 ≤ o ∧ o < 300
    · exfalso
      unfold qTX at h5
      rw [if_neg (by omega), if_pos (by omega)] at h5
      revert h5
      split
      all_goals omega
    rw [q_p2n (by omega), va_up_ne _ _ z]
    by_cases v : o = 13
    · subst v
      show q_ed 0 (a_ndc c 0) k = q_ed 0 (c 0) k
      unfold q_ed q_bid
      rw [show a_ndc c 0 = c 0 + 1 from rfl, gs, if_neg (show ¬ c 0 + 1 = 0 by omega), if_neg h0]
    · rw [qPX_same v (by omega)]
/-! level 1: a door added where the row grows -/
theorem q_u2c {M M' : q_MM} {a k o : Nat} {v : Int32} (h : M o = M' o) : q_u2 M a k v o = q_u2 M' a k v o := by
  unfold q_u2
  by_cases z : o = a
  · subst z
    rw [if_pos rfl, if_pos rfl, h]
  · rw [if_neg z, if_neg z, h]
theorem c_addD_grow (l : Launch) (K : q_KK) {c : Nat → Nat} {M : q_MM} {N' : Nat} (hC : a_C c) (hM : M 13 2 = nI (c 0)) (hn : c 0 = 10 ∧ N' = 15 ∨ c 0 = 15 ∧ N' = 22) (hno : q_no (va_up (qTX c) (1000 + c 0) 10) (va_up (qPX c) (1000 + c 0) (fun _ => 0)) (200 + q_gn (c 0 + 1))) : ∃ g', Mt l yJx4a65c_add_9ea2d cJx4a65c_add_9ea2d 2 (some FieldType.boolean) 6 200 1 33 true K [.ref 13, .ref (1000 + c 0)] (va_up (qTX c) (1000 + c 0) 10, va_up (qLX c) (1000 + c 0) 0, va_up (qPX c) (1000 + c 0) (fun _ => 0), M) (some (.int 1)) g' ∧ q_alk g' (qTX (a_ndc c), qLX (a_ndc c), qPX (a_ndc c), q_ad2 M 13 (c 0)) := by
  obtain ⟨b, hb⟩ : ∃ b, b = q_gn (c 0 + 1) := ⟨_, rfl⟩
  obtain ⟨a, ha⟩ : ∃ a, a = q_gn (c 0) := ⟨_, rfl⟩
  have hab : b = a + 1 ∧ b < 3 ∧ (if a = 0 then 10 else if a = 1 then 15 else 22) = c 0 ∧ (if b = 0 then 10 else if b = 1 then 15 else 22) = N' := by
    rcases hn with ⟨e1, e2⟩ | ⟨e1, e2⟩ <;> rw [hb, ha, e1, e2] <;> decide
  obtain ⟨hab, b3, La, Lb⟩ := hab
  have h0 : c 0 ≠ 0 := by omega
  have hc : c 0 < 20 := by omega
  rw [← hb] at hno
  have gold : ∀ g, g ≤ a → (if g = 0 then 10 else if g = 1 then 15 else 22) ≤ c 0 := fun g hg => by
    rw [← La]
    repeat' split
    all_goals omega
  have ne : ∀ {α : Type} (f : Nat → α) (x : α) (o : Nat), o < 1000 → va_up f (1000 + c 0) x o = f o := fun f x o ho => va_up_ne f x (by omega)
  refine ⟨_, c_addGn l K _ _ _ M 13 (1000 + c 0) (200 + a) (200 + b) (c 0) N' 0 (by omega) ?_ ?_ hM ?_ ?_ (by omega) (by unfold q_st; omega) hno (fun k hk hk2 => ?_) (va_up_self _ _ _) (show q_classes[0]? = some (RX0, TX0, 4) from rfl) (by decide +kernel), fun o => ?_, fun o ho => ⟨fun h4 => ?_, fun h3 x hx => ?_, fun h3 x hx => ?_, fun h5 k hk => ⟨fun hk1 => ?_, fun hk1 => ?_⟩⟩⟩
  · rw [ne _ _ _ (by omega)]; rfl
  · rw [ne _ _ _ (by omega), qPX_13, if_neg h0, ha]
  · rw [ne _ _ _ (by omega), qTX_row (by omega) h0 (by omega)]
  · rw [ne _ _ _ (by omega), qLX_row (by omega)]; exact La
  · rw [ne (qPX c) (fun _ => 0) (200 + a) (by omega), qPX_row (by omega), if_pos hk, va_up_ne _ _ (by omega)]
    unfold qTX
    rw [if_neg (by omega), if_neg (by omega)]
    unfold q_rg
    rw [if_pos (by omega)]
  · show qTX (a_ndc c) o = va_up (va_up (qTX c) (1000 + c 0) 10) (200 + b) 3 o
    rw [qTX_door hc, ← hb]
    unfold va_up
    by_cases z : o = 1000 + c 0
    · rw [if_pos z, if_neg (by omega), if_pos z]
    · rw [if_neg z]
      by_cases y : o = 200 + b
      · rw [if_pos ⟨y, by omega⟩, if_pos y]
      · rw [if_neg (fun q => y q.1), if_neg y, if_neg z]
  · show qLX (a_ndc c) o = va_up (va_up (qLX c) (1000 + c 0) 0) (200 + b) N' o
    have h4 : va_up (va_up (qTX c) (1000 + c 0) 10) (200 + b) 3 o ≤ 4 := h4
    by_cases y : o = 200 + b
    · rw [y, va_up_self, qLX_row b3]; exact Lb
    rw [va_up_ne _ _ y] at h4 ⊢
    by_cases z : o = 1000 + c 0
    · rw [z, va_up_self] at h4
      omega
    · rw [qLX_same, va_up_ne _ _ z]
  · have h3 : va_up (va_up (qTX c) (1000 + c 0) 10) (200 + b) 3 o = 1 ∨ va_up (va_up (qTX c) (1000 + c 0) 10) (200 + b) 3 o = 2 ∨ va_up (va_up (qTX c) (1000 + c 0) 10) (200 + b) 3 o = 4 := h3
    have y : o ≠ 200 + b := fun y => by rw [y, va_up_self] at h3; omega
    show q_u2 (q_u2 M 13 0 (M 13 0 + 1)) 13 2 (nI (c 0 + 1)) o x = q_u2 (va_up (q_u2 M 13 0 (M 13 0 + 1)) (200 + b) (fun _ => 0)) 13 2 (nI (c 0 + 1)) o x
    exact congrFun (q_u2c (va_up_ne _ _ y).symm) x
  · have h3 : va_up (va_up (qTX c) (1000 + c 0) 10) (200 + b) 3 o = 3 := h3
    have hx : x < va_up (va_up (qLX c) (1000 + c 0) 0) (200 + b) N' o := hx
    show qPX (a_ndc c) o x = q_p2 (q_p2 (va_up (va_up (qPX c) (1000 + c 0) (fun _ => 0)) (200 + b) (va_cpy (va_up (qPX c) (1000 + c 0) (fun _ => 0) (200 + a)) (fun _ => 0) 0 0 (c 0))) 13 1 (200 + b)) (200 + b) (c 0) (1000 + c 0) o x
    by_cases y : o = 200 + b
    · subst y
      rw [qPX_row b3, show a_ndc c 0 = c 0 + 1 from rfl]
      show _ = (if 200 + b = 200 + b then (fun k' => if k' = c 0 then 1000 + c 0 else q_p2 (va_up (va_up (qPX c) (1000 + c 0) (fun _ => 0)) (200 + b) (va_cpy (va_up (qPX c) (1000 + c 0) (fun _ => 0) (200 + a)) (fun _ => 0) 0 0 (c 0))) 13 1 (200 + b) (200 + b) k') else _) x
      rw [if_pos rfl]
      show _ = if x = c 0 then 1000 + c 0 else q_p2 (va_up (va_up (qPX c) (1000 + c 0) (fun _ => 0)) (200 + b) (va_cpy (va_up (qPX c) (1000 + c 0) (fun _ => 0) (200 + a)) (fun _ => 0) 0 0 (c 0))) 13 1 (200 + b) (200 + b) x
      rw [q_p2n (by omega), va_up_self, va_up_ne _ _ (show 200 + a ≠ 1000 + c 0 by omega)]
      unfold va_cpy
      by_cases v : x = c 0
      · rw [if_pos v, if_pos (by omega), v]
      · rw [if_neg v]
        by_cases v2 : x < c 0
        · rw [if_pos (by omega), if_pos (by omega), qPX_row (by omega), if_pos (by omega)]; omega
        · rw [if_neg (by omega), if_neg (by omega)]
    rw [va_up_ne _ _ y] at h3 hx
    by_cases z : o = 1000 + c 0
    · rw [z, va_up_self] at h3
      omega
    rw [va_up_ne _ _ z] at h3 hx
    have n13 : o ≠ 13 := fun q => by rw [q] at h3; exact absurd h3 (by rw [show qTX c 13 = 23 from rfl]; decide)
    rw [q_p2n y, q_p2n n13, va_up_ne _ _ y, va_up_ne _ _ z]
    by_cases w : o < 120 ∨ 204 ≤ o
    · rw [qPX_same n13 w]
    · have y2 : 200 ≤ o ∧ o < 204 := by
        unfold qTX at h3
        rw [if_neg (by omega), if_pos (by omega)] at h3
        by_cases q : 200 ≤ o
        · omega
        · rw [if_neg (fun p => q p.1)] at h3
          omega
      obtain ⟨g, rfl⟩ : ∃ g, o = 200 + g := ⟨o - 200, by omega⟩
      have hg : g ≤ a := by
        unfold qTX at h3
        rw [if_neg (by omega), if_pos (by omega), show (200 + g - 200) / 4 = 0 by omega, show (200 + g - 200) % 4 = g by omega] at h3
        by_cases q : 200 ≤ 200 + g ∧ 200 + g < 216 ∧ c 0 ≠ 0 ∧ g ≤ q_gn (c 0)
        · rw [ha]; exact q.2.2.2
        · rw [if_neg q] at h3
          omega
      rw [qLX_row (by omega)] at hx
      have := gold g hg
      rw [qPX_row (by omega), qPX_row (by omega), show a_ndc c 0 = c 0 + 1 from rfl, if_pos (by omega), if_pos (by omega)]
  · have h5 : 4 < va_up (va_up (qTX c) (1000 + c 0) 10) (200 + b) 3 o := h5
    show qPX (a_ndc c) o k = q_p2 (q_p2 (va_up (va_up (qPX c) (1000 + c 0) (fun _ => 0)) (200 + b) (va_cpy (va_up (qPX c) (1000 + c 0) (fun _ => 0) (200 + a)) (fun _ => 0) 0 0 (c 0))) 13 1 (200 + b)) (200 + b) (c 0) (1000 + c 0) o k
    have y : o ≠ 200 + b := fun y => by rw [y, va_up_self] at h5; omega
    rw [va_up_ne _ _ y] at h5
    rw [q_p2n y]
    by_cases v : o = 13
    · subst v
      show q_ed 0 (a_ndc c 0) k = if k = 1 then 200 + b else va_up (va_up (qPX c) (1000 + c 0) (fun _ => 0)) (200 + b) _ 13 k
      rw [va_up_ne _ _ y, ne _ _ _ (by omega)]
      show q_ed 0 (a_ndc c 0) k = if k = 1 then 200 + b else q_ed 0 (c 0) k
      unfold q_ed q_bid
      rw [show a_ndc c 0 = c 0 + 1 from rfl, ← hb, if_neg (show ¬ c 0 + 1 = 0 by omega)]
      by_cases k1 : k = 1
      · rw [if_pos k1, if_pos k1]
      · rw [if_neg k1, if_neg k1, if_neg k1]
    rw [q_p2n v, va_up_ne _ _ y]
    by_cases z : o = 1000 + c 0
    · rw [z, va_up_self]
      unfold qPX
      rw [if_neg (by omega), if_neg (by omega), if_neg (by omega), if_neg (by omega)]
    rw [va_up_ne _ _ z] at h5 ⊢
    by_cases w : 120 ≤ o ∧ o < 300
    · exfalso
      unfold qTX at h5
      rw [if_neg (by omega), if_pos (by omega)] at h5
      revert h5
      split
      all_goals omega
    rw [qPX_same v (by omega)]
  · have h5 : 4 < va_up (va_up (qTX c) (1000 + c 0) 10) (200 + b) 3 o := h5
    have y : o ≠ 200 + b := fun y => by rw [y, va_up_self] at h5; omega
    show q_u2 (q_u2 M 13 0 (M 13 0 + 1)) 13 2 (nI (c 0 + 1)) o k = q_u2 (va_up (q_u2 M 13 0 (M 13 0 + 1)) (200 + b) (fun _ => 0)) 13 2 (nI (c 0 + 1)) o k
    exact congrFun (q_u2c (va_up_ne _ _ y).symm) k
/-! level 1: the first door -/
theorem c_addD_0 (l : Launch) (K : q_KK) {c : Nat → Nat} {M : q_MM} (h0 : c 0 = 0) (hM : M 13 2 = nI 0) (hno : q_no (va_up (qTX c) 1000 10) (va_up (qPX c) 1000 (fun _ => 0)) 200) : ∃ g', Mt l yJx4a65c_add_9ea2d cJx4a65c_add_9ea2d 2 (some FieldType.boolean) 6 200 1 33 true K [.ref 13, .ref 1000] (va_up (qTX c) 1000 10, va_up (qLX c) 1000 0, va_up (qPX c) 1000 (fun _ => 0), M) (some (.int 1)) g' ∧ q_alk g' (qTX (a_ndc c), qLX (a_ndc c), qPX (a_ndc c), q_ad2 M 13 0) := by
  have c1 : a_ndc c 0 = 1 := by show c 0 + 1 = 1; omega
  have ne : ∀ {α : Type} (f : Nat → α) (x : α) (o : Nat), o < 1000 → va_up f 1000 x o = f o := fun f x o ho => va_up_ne f x (by omega)
  refine ⟨_, c_addG0 l K _ _ _ M 13 1000 200 0 ?_ ?_ hM (by decide) (by unfold q_st; omega) hno (va_up_self _ _ _) (show q_classes[0]? = some (RX0, TX0, 4) from rfl) (by decide +kernel), fun o => ?_, fun o ho => ⟨fun h4 => ?_, fun h3 x hx => ?_, fun h3 x hx => ?_, fun h5 k hk => ⟨fun hk1 => ?_, fun hk1 => ?_⟩⟩⟩
  · rw [ne _ _ _ (by omega)]; rfl
  · rw [ne _ _ _ (by omega), qPX_13, if_pos h0]
  · show qTX (a_ndc c) o = va_up (va_up (qTX c) 1000 10) 200 3 o
    rw [qTX_door (by omega), h0, show q_gn (0 + 1) = 0 from rfl]
    unfold va_up
    by_cases z : o = 1000
    · rw [if_pos z, if_neg (by omega), if_pos z]
    · rw [if_neg z]
      by_cases y : o = 200
      · rw [if_pos ⟨y, Or.inl rfl⟩, if_pos y]
      · rw [if_neg (fun q => y q.1), if_neg y, if_neg z]
  · show qLX (a_ndc c) o = va_up (va_up (qLX c) 1000 0) 200 10 o
    have h4 : va_up (va_up (qTX c) 1000 10) 200 3 o ≤ 4 := h4
    by_cases y : o = 200
    · rw [y, va_up_self]; rfl
    rw [va_up_ne _ _ y] at h4 ⊢
    by_cases z : o = 1000
    · rw [z, va_up_self] at h4
      omega
    · rw [qLX_same, va_up_ne _ _ z]
  · have h3 : va_up (va_up (qTX c) 1000 10) 200 3 o = 1 ∨ va_up (va_up (qTX c) 1000 10) 200 3 o = 2 ∨ va_up (va_up (qTX c) 1000 10) 200 3 o = 4 := h3
    have y : o ≠ 200 := fun y => by rw [y, va_up_self] at h3; omega
    exact congrFun (q_u2c (va_up_ne _ _ y).symm) x
  · have h3 : va_up (va_up (qTX c) 1000 10) 200 3 o = 3 := h3
    show qPX (a_ndc c) o x = q_p2 (q_p2 (va_up (va_up (qPX c) 1000 (fun _ => 0)) 200 (fun _ => 0)) 13 1 200) 200 0 1000 o x
    by_cases y : o = 200
    · subst y
      rw [show (200 : Nat) = 200 + 0 from rfl, qPX_row (by decide), c1]
      show _ = if x = 0 then 1000 else q_p2 (va_up (va_up (qPX c) 1000 (fun _ => 0)) 200 (fun _ => 0)) 13 1 200 200 x
      rw [q_p2n (by decide), va_up_self]
      by_cases v : x = 0
      · rw [if_pos v, if_pos (by omega), v]
      · rw [if_neg v, if_neg (by omega)]
    rw [va_up_ne _ _ y] at h3
    by_cases z : o = 1000
    · rw [z, va_up_self] at h3
      omega
    rw [va_up_ne _ _ z] at h3
    have n13 : o ≠ 13 := fun q => by rw [q] at h3; exact absurd h3 (by rw [show qTX c 13 = 23 from rfl]; decide)
    rw [q_p2n y, q_p2n n13, va_up_ne _ _ y, va_up_ne _ _ z]
    by_cases w : o < 120 ∨ 204 ≤ o
    · rw [qPX_same n13 w]
    · exfalso
      unfold qTX at h3
      rw [if_neg (by omega), if_pos (by omega), show (o - 200) / 4 = 0 by omega] at h3
      rw [if_neg (fun p => p.2.2.1 h0)] at h3
      omega
  · have h5 : 4 < va_up (va_up (qTX c) 1000 10) 200 3 o := h5
    show qPX (a_ndc c) o k = q_p2 (q_p2 (va_up (va_up (qPX c) 1000 (fun _ => 0)) 200 (fun _ => 0)) 13 1 200) 200 0 1000 o k
    have y : o ≠ 200 := fun y => by rw [y, va_up_self] at h5; omega
    rw [va_up_ne _ _ y] at h5
    rw [q_p2n y]
    by_cases v : o = 13
    · subst v
      show q_ed 0 (a_ndc c 0) k = if k = 1 then 200 else va_up (va_up (qPX c) 1000 (fun _ => 0)) 200 _ 13 k
      rw [va_up_ne _ _ y, ne _ _ _ (by omega)]
      show q_ed 0 (a_ndc c 0) k = if k = 1 then 200 else q_ed 0 (c 0) k
      unfold q_ed q_bid
      rw [c1]
      by_cases k1 : k = 1
      · rw [if_pos k1, if_pos k1]; rfl
      · rw [if_neg k1, if_neg k1, if_neg k1]
    rw [q_p2n v, va_up_ne _ _ y]
    by_cases z : o = 1000
    · rw [z, va_up_self]
      rfl
    rw [va_up_ne _ _ z] at h5 ⊢
    by_cases w : 120 ≤ o ∧ o < 300
    · exfalso
      unfold qTX at h5
      rw [if_neg (by omega), if_pos (by omega)] at h5
      revert h5
      split
      all_goals omega
    rw [qPX_same v (by omega)]
  · have h5 : 4 < va_up (va_up (qTX c) 1000 10) 200 3 o := h5
    have y : o ≠ 200 := fun y => by rw [y, va_up_self] at h5; omega
    exact congrFun (q_u2c (va_up_ne _ _ y).symm) k
