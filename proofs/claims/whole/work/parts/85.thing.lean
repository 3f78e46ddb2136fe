/-! term: things, signs ahead of things, all levels -/
theorem a_l0t : ∀ s, s < 256 → s ∈ a_set 0 → s ≠ 40 ∧ s ≠ 33 ∧ s ≠ 45 ∧ ¬ (48 ≤ s ∧ s ≤ 57) ∧ a_li s < 12 := by decide +kernel
theorem a_l1t : ∀ s, s < 256 → (s ∈ a_set 1 ↔ s = 33 ∨ s = 45) ∧ (s ∈ a_set 2 ↔ 48 ≤ s ∧ s ≤ 57) ∧ (s ∈ a_set 0 ↔ a_li s < 12) := by decide +kernel
theorem a_l12 : ∀ l, l < 12 → a_tr (-1 - nI l) = 10000 + nI l ∧ -1 - nI l < 0 ∧ (-12 : Int32) ≤ -1 - nI l := by decide +kernel
theorem a_dg8 {w s : Nat} (hs : 48 ≤ s) (hw : w < 10000) (h9 : s ≤ 57) : (10 : Int32) * nI w + nI s - 48 = nI (10 * w + (s - 48)) ∧ nI w * 10 + nI s - 48 = nI (10 * w + (s - 48)) := by
  have e : (10 : Int32) * nI w + nI s - 48 = nI (10 * w + (s - 48)) := by
    rw [show (10 : Int32) = nI 10 from rfl, pk_mul, nI_add, show (48 : Int32) = nI 48 from rfl, pk_sub (by omega)]
    congr 1
    omega
  exact ⟨e, by rw [Int32.mul_comm]; exact e⟩
theorem a_digs {t : Nat → Nat} {n : Nat} {C : List Int32} {W : List Nat} {o : Nat} (ht : ∀ j, j < n → t j < 256) : ∀ (k i p w : Nat), i + k = 4 → 1 ≤ i → w < 10 ^ i → p ≤ n → ∃ w' d', a_pdig t n k p (nI w) = ((a_pdig t n k p (nI w)).1, nI w') ∧ w' < 10000 ∧ a_go t p (C ++ [nI w], W, false, i, o) (a_pdig t n k p (nI w)).1 (C ++ [nI w'], W, false, d', o) ∧ ((a_pdig t n k p (nI w)).1 < n → 48 ≤ t (a_pdig t n k p (nI w)).1 ∧ t (a_pdig t n k p (nI w)).1 ≤ 57 → 4 ≤ d') ∧ p ≤ (a_pdig t n k p (nI w)).1 ∧ (a_pdig t n k p (nI w)).1 ≤ n := by
  intro k
  induction k with
  | zero =>
    intro i p w hi h1 hw hp
    have hi : i = 4 := by omega
    subst hi
    exact ⟨w, 4, rfl, hw, a_go.rf, fun _ _ => Nat.le_refl _, Nat.le_refl _, hp⟩
  | succ k ih =>
    intro i p w hi h1 hw hp
    have hw4 : w < 1000 := by
      rcases (show i = 1 ∨ i = 2 ∨ i = 3 by omega) with rfl | rfl | rfl <;> omega
    rw [show a_pdig t n (k + 1) p (nI w) = if p < n ∧ t p ∈ a_set 2 then a_pdig t n k (p + 1) (10 * nI w + nI (t p) - 48) else (p, nI w) from rfl]
    by_cases z : p < n ∧ t p ∈ a_set 2
    · have td := (a_l1t _ (ht p z.1)).2.1.mp z.2
      obtain ⟨e1, e2⟩ := a_dg8 td.1 (show w < 10000 by omega) td.2
      rw [if_pos z, e1]
      obtain ⟨w', d', a1, a2, a3, a4, a5, a6⟩ := ih (i + 1) (p + 1) (10 * w + (t p - 48)) (by omega) (by omega) (by rw [Nat.pow_succ]; omega) z.1
      refine ⟨w', d', a1, a2, ?_, a4, by omega, a6⟩
      refine a_go.tr (a_go.rf.st ?_) a3
      unfold a_stp
      dsimp only
      rw [if_neg (show ¬ (false = true) by decide), if_pos td, if_neg (by omega)]
      have q1 : (C ++ [nI w]).dropLast = C := List.dropLast_concat
      have q2 : (C ++ [nI w]).getD ((C ++ [nI w]).length - 1) 0 = nI w := by
        rw [List.length_append]
        show (C ++ [nI w]).getD C.length 0 = nI w
        rw [a_getD_app (Nat.lt_succ_self _), if_pos rfl]
      rw [q1, q2, e2]
    · rw [if_neg z]
      refine ⟨w, i, rfl, by omega, a_go.rf, fun hn hd => ?_, Nat.le_refl _, hp⟩
      exact absurd ⟨hn, (a_l1t _ (ht p hn)).2.1.mpr hd⟩ z
theorem a_nWn {w : Nat} (hw : w < 10000) : (0 : Int32) ≤ nI w ∧ nI w < 10000 := ⟨nI_le (a := 0) (by omega) (by omega), nI_lt (b := 10000) hw (by decide)⟩
theorem a_pth_g {t : Nat → Nat} {n N : Nat} {sm : Nat → a_RR} (ht : ∀ j, j < n → t j < 256) (hs : a_rg2 t n N 1 sm) {p : Nat} (hp : p ≤ n) (hN : n - p < N + 1) (hz : ¬ (p < n ∧ t p ∈ a_set 1)) : p ≤ (a_pth t n sm p).2.1 ∧ (a_pth t n sm p).2.1 ≤ n ∧ ∀ C W o, a_gdd t n 6 C W o p (a_pth t n sm p).1 (a_pth t n sm p).2.1 (a_pth t n sm p).2.2 6 := by
  unfold a_pth
  by_cases z0 : p < n ∧ t p ∈ a_set 0
  · rw [if_pos z0]
    obtain ⟨q1, q2, q3, q4, q5⟩ := a_l0t _ (ht p z0.1) z0.2
    obtain ⟨l1, l2, l3⟩ := a_l12 _ q5
    refine ⟨Nat.le_succ _, z0.1, fun C W o => ⟨fun _ => ⟨C ++ [10000 + nI (a_li (t p))], [], 0, a_go.rf.st ?_, ?_, fun x hx => (by cases hx), fun e => a_ch1 (Or.inr (Or.inl ⟨l2, l3, rfl⟩)), fun _ => ⟨fun _ => Or.inl rfl, Or.inl (by omega)⟩⟩, fun q => by cases q⟩⟩
    · unfold a_stp
      dsimp only
      rw [if_pos (show true = true from rfl), if_neg q1, if_neg q2, if_neg q3, if_neg q4, if_pos q5]
      rfl
    · show C ++ [10000 + nI (a_li (t p))] ++ [] = C ++ [a_tr (-1 - nI (a_li (t p)))]
      rw [List.append_nil, l1]
  · rw [if_neg z0]
    by_cases z2 : p < n ∧ t p ∈ a_set 2
    · rw [if_pos z2]
      have td := (a_l1t _ (ht p z2.1)).2.1.mp z2.2
      have e : a_pdig t n 4 p 0 = a_pdig t n 3 (p + 1) (nI (t p - 48)) := by
        rw [show a_pdig t n 4 p 0 = if p < n ∧ t p ∈ a_set 2 then a_pdig t n 3 (p + 1) (10 * nI 0 + nI (t p) - 48) else (p, 0) from rfl, if_pos z2, (a_dg8 td.1 (by decide) td.2).1, Nat.mul_zero, Nat.zero_add]
      rw [e]
      refine ⟨?_, ?_, fun C W o => ⟨fun _ => ?_, fun q => by cases q⟩⟩
      · obtain ⟨w', d', a1, a2, a3, a4, a5, a6⟩ := a_digs (C := []) (W := []) (o := 0) ht 3 1 (p + 1) (t p - 48) (by decide) (Nat.le_refl _) (by omega) z2.1
        show p ≤ (a_pdig t n 3 (p + 1) (nI (t p - 48))).1
        omega
      · obtain ⟨w', d', a1, a2, a3, a4, a5, a6⟩ := a_digs (C := []) (W := []) (o := 0) ht 3 1 (p + 1) (t p - 48) (by decide) (Nat.le_refl _) (by omega) z2.1
        exact a6
      · obtain ⟨w', d', a1, a2, a3, a4, a5, a6⟩ := a_digs (C := C) (W := W) (o := o) ht 3 1 (p + 1) (t p - 48) (by decide) (Nat.le_refl _) (by omega) z2.1
        obtain ⟨n1, n2⟩ := a_nWn a2
        have e2 : (a_pdig t n 3 (p + 1) (nI (t p - 48))).2 = nI w' := by rw [a1]
        refine ⟨C ++ [nI w'], [], d', ?_, ?_, fun x hx => (by cases hx), fun e => ?_, fun hn => ⟨fun hd => Or.inr (a4 hn hd), Or.inl (by omega)⟩⟩
        · refine a_go.tr (a_go.rf.st ?_) a3
          unfold a_stp
          dsimp only
          rw [if_pos (show true = true from rfl), if_neg (by omega), if_neg (by omega), if_neg (by omega), if_pos td, show nI (t p) - 48 = nI (t p - 48) from by rw [show (48 : Int32) = nI 48 from rfl, pk_sub td.1]]
        · show C ++ [nI w'] ++ [] = C ++ [a_tr (a_pdig t n 3 (p + 1) (nI (t p - 48))).2]
          rw [List.append_nil, e2]
          unfold a_tr
          rw [if_pos n1]
        · show a_cha [(a_pdig t n 3 (p + 1) (nI (t p - 48))).2] e (e + 1)
          rw [e2]
          exact a_ch1 (Or.inl ⟨n1, n2, rfl⟩)
    · rw [if_neg z2]
      by_cases z4 : p < n ∧ t p = 40
      · rw [if_pos z4]
        obtain ⟨b1, b2, b3⟩ := hs (p + 1) (by omega) (by omega)
        have st : ∀ (C : List Int32) (W : List Nat) (o : Nat), a_go t p (C, W, true, 0, o) (p + 1) (C, 40 :: W, true, 0, o + 1) := fun C W o => a_go.rf.st (by
          unfold a_stp
          dsimp only
          rw [if_pos (show true = true from rfl), if_pos z4.2])
        have c1 : ∀ (C : List Int32) (W : List Nat) (o : Nat), a_gdd t n 1 C (40 :: W) (o + 1) (p + 1) (sm (p + 1)).1 (sm (p + 1)).2.1 (sm (p + 1)).2.2 1 := fun C W o => b3 C (40 :: W) (o + 1) (fun _ => by show a_lv 40 < 1; decide)
        cases zr : (sm (p + 1)).1
        · rw [if_neg (show ¬ (false = true) by decide)]
          refine ⟨by show p ≤ (sm (p + 1)).2.1; omega, b2, fun C W o => ?_⟩
          have c1 := c1 C W o
          rw [zr] at c1
          exact c1.no (st C W o)
        · rw [if_pos rfl]
          by_cases z1 : (sm (p + 1)).2.1 < n ∧ t (sm (p + 1)).2.1 = 41
          · rw [if_pos z1]
            refine ⟨by show p ≤ (sm (p + 1)).2.1 + 1; omega, z1.1, fun C W o => ⟨fun _ => ?_, fun q => by cases q⟩⟩
            obtain ⟨C2, P, d, h1, h2, h3, h4, h5⟩ := (c1 C W o).1 zr
            refine ⟨C2 ++ P.map a_ng, [], 0, ((st C W o).tr h1).st ?_, ?_, fun x hx => (by cases hx), h4, fun _ => ⟨fun _ => Or.inl rfl, Or.inl (by omega)⟩⟩
            · unfold a_stp
              dsimp only
              rw [if_neg (show ¬ (false = true) by decide), if_neg (by omega), if_pos z1.2, if_neg (by omega), a_ul_all (W := 40 :: W) (by show a_lv 40 < 1; decide) P C2 h3]
              rfl
            · rw [List.map_nil, List.append_nil]
              exact h2
          · rw [if_neg z1]
            refine ⟨by show p ≤ (sm (p + 1)).2.1; omega, b2, fun C W o => ⟨fun q => (by cases q), fun _ => ?_⟩⟩
            obtain ⟨C2, P, d, h1, h2, h3, h4, h5⟩ := (c1 C W o).1 zr
            exact ⟨_, (st C W o).tr h1, fun _ => Or.inr (Nat.succ_pos _), fun hn => a_stp_no (h5 hn) (fun q => absurd ⟨hn, q⟩ z1) (fun _ => Nat.succ_ne_zero _)⟩
      · rw [if_neg z4]
        refine ⟨Nat.le_refl _, hp, fun C W o => ⟨fun q => (by cases q), fun _ => ⟨_, a_go.rf, fun _ => Or.inl rfl, fun hn => ?_⟩⟩⟩
        have tl := a_l1t _ (ht p hn)
        show a_stp (C, W, true, 0, o) (t p) = none
        unfold a_stp
        dsimp only
        rw [if_pos (show true = true from rfl), if_neg (fun q => z4 ⟨hn, q⟩), if_neg (fun q => hz ⟨hn, tl.1.mpr (Or.inl q)⟩), if_neg (fun q => hz ⟨hn, tl.1.mpr (Or.inr q)⟩), if_neg (fun q => z2 ⟨hn, tl.2.1.mpr q⟩), if_neg (fun q => z0 ⟨hn, tl.2.2.mpr q⟩)]
theorem a_pun_g {t : Nat → Nat} {n N : Nat} {un sm : Nat → a_RR} (ht : ∀ j, j < n → t j < 256) (hu : a_rg2 t n N 6 un) (hs : a_rg2 t n N 1 sm) : a_rg2 t n (N + 1) 6 (a_pun t n un sm) := by
  intro p hp hN
  unfold a_pun
  by_cases z : p < n ∧ t p ∈ a_set 1
  · rw [if_pos z]
    have ts := (a_l1t _ (ht p z.1)).1.mp z.2
    obtain ⟨x, hx⟩ : ∃ x, x = (if t p = 33 then 33 else 126) := ⟨_, rfl⟩
    have hx2 : a_lv x = 6 ∧ a_tr (nI x - 200) = a_ng x ∧ (nI x - 200 = -167 ∨ nI x - 200 = -74) := by
      rw [hx]
      split
      · exact ⟨rfl, by decide, by decide⟩
      · exact ⟨rfl, by decide, by decide⟩
    have st : ∀ (C : List Int32) (W : List Nat) (o : Nat), a_go t p (C, W, true, 0, o) (p + 1) (C, x :: W, true, 0, o) := fun C W o => a_go.rf.st (by
      unfold a_stp
      dsimp only
      rw [if_pos (show true = true from rfl), if_neg (by omega), hx]
      rcases ts with q | q
      · rw [if_pos q, if_pos q]
      · rw [if_neg (by omega), if_pos q, if_neg (by omega)])
    obtain ⟨b1, b2, b3⟩ := hu (p + 1) (by omega) (by omega)
    have xc : (nI (if t p = 33 then 33 else 126) - 200 : Int32) = nI x - 200 := by rw [hx]
    rw [xc]
    cases zr : (un (p + 1)).1
    · rw [if_neg (show ¬ (false = true) by decide)]
      refine ⟨by show p ≤ (un (p + 1)).2.1; omega, b2, fun C W o _ => ?_⟩
      have c1 := b3 C (x :: W) o (fun q => absurd q (by decide))
      rw [zr] at c1
      exact c1.no (st C W o)
    · rw [if_pos rfl]
      refine ⟨by show p ≤ (un (p + 1)).2.1; omega, b2, fun C W o _ => ⟨fun _ => ?_, fun q => by cases q⟩⟩
      obtain ⟨C2, P, d, h1, h2, h3, h4, h5⟩ := (b3 C (x :: W) o (fun q => absurd q (by decide))).1 zr
      refine ⟨C2, P ++ [x], d, ?_, ?_, fun y hy => ?_, fun e => ?_, fun hn => (h5 hn).ap⟩
      · rw [List.append_assoc]
        exact (st C W o).tr h1
      · show C2 ++ (P ++ [x]).map a_ng = C ++ ((un (p + 1)).2.2 ++ [nI x - 200]).map a_tr
        rw [List.map_append, List.map_append, ← a_app, h2, a_app]
        show C ++ (_ ++ [a_ng x]) = C ++ (_ ++ [a_tr (nI x - 200)])
        rw [hx2.2.1]
      · rcases List.mem_append.mp hy with q | q
        · exact h3 y q
        · rw [List.mem_singleton.mp q, hx2.1]
          exact Nat.le_refl _
      · exact a_cha_app (h4 e) (a_ch1 (Or.inr (Or.inr (Or.inl ⟨hx2.2.2, Nat.succ_le_succ (Nat.zero_le _), rfl⟩))))
  · rw [if_neg z]
    obtain ⟨b1, b2, b3⟩ := a_pth_g ht hs hp hN z
    exact ⟨b1, b2, fun C W o _ => b3 C W o⟩
theorem a_rec_g {t : Nat → Nat} {n : Nat} (ht : ∀ j, j < n → t j < 256) (hn : n ≤ 60) : ∀ d, a_rg2 t n d 6 (a_pr t n d).1 ∧ a_rg2 t n d 1 (a_pr t n d).2
  | 0 => ⟨fun _ _ h => absurd h (Nat.not_lt_zero _), fun _ _ h => absurd h (Nat.not_lt_zero _)⟩
  | d + 1 => by
    have ih := a_rec_g ht hn d
    have h6 := a_pun_g ht ih.1 ih.2
    have h5 := a_ply_g ht hn (v := 5) (by decide) (by decide) h6
    have h4 := a_ply_g ht hn (v := 4) (by decide) (by decide) h5
    have h3 := a_cmp_g ht h4
    have h2 := a_ply_g ht hn (v := 2) (by decide) (by decide) h3
    have h1 := a_ply_g ht hn (v := 1) (by decide) (by decide) h2
    exact ⟨h6, h1⟩
