/-! term: the class' reader, sign by sign. Its state: code, waiting operators (the last one ahead), wants a thing, digits, open brackets -/
abbrev a_S : Type := List Int32 × List Nat × Bool × Nat × Nat
theorem a_lv_le {x : Nat} : a_lv x ≤ 6 := by
  unfold a_lv
  repeat' split
  all_goals omega
def a_ul (v : Nat) : List Int32 → List Nat → List Int32 × List Nat
  | C, [] => (C, [])
  | C, x :: W => if v ≤ a_lv x then a_ul v (C ++ [-(nI x)]) W else (C, x :: W)
theorem a_ul_c {v x : Nat} {C : List Int32} {W : List Nat} : a_ul v C (x :: W) = if v ≤ a_lv x then a_ul v (C ++ [-(nI x)]) W else (C, x :: W) := rfl
def a_stp (S : a_S) (s : Nat) : Option a_S :=
  if S.2.2.1 = true then
    (if s = 40 then some (S.1, 40 :: S.2.1, true, S.2.2.2.1, S.2.2.2.2 + 1)
     else if s = 33 then some (S.1, 33 :: S.2.1, true, S.2.2.2.1, S.2.2.2.2)
     else if s = 45 then some (S.1, 126 :: S.2.1, true, S.2.2.2.1, S.2.2.2.2)
     else if 48 ≤ s ∧ s ≤ 57 then some (S.1 ++ [nI s - 48], S.2.1, false, 1, S.2.2.2.2)
     else if a_li s < 12 then some (S.1 ++ [10000 + nI (a_li s)], S.2.1, false, S.2.2.2.1, S.2.2.2.2)
     else none)
  else if 48 ≤ s ∧ s ≤ 57 then
    (if S.2.2.2.1 < 1 ∨ 3 < S.2.2.2.1 then none
     else some (S.1.dropLast ++ [S.1.getD (S.1.length - 1) 0 * 10 + nI s - 48], S.2.1, false, S.2.2.2.1 + 1, S.2.2.2.2))
  else if s = 41 then
    (if S.2.2.2.2 = 0 then none else some ((a_ul 1 S.1 S.2.1).1, (a_ul 1 S.1 S.2.1).2.tail, false, 0, S.2.2.2.2 - 1))
  else if s = 59 then
    (if S.2.2.2.2 = 0 then some ((a_ul 1 S.1 S.2.1).1 ++ [-59], (a_ul 1 S.1 S.2.1).2, true, 0, S.2.2.2.2) else none)
  else if a_lv s < 1 ∨ 5 < a_lv s then none
  else if a_lv s = 3 ∧ a_lv ((a_ul 4 S.1 S.2.1).2.headD 40) = 3 then none
  else some ((a_ul (a_lv s) (a_ul (a_lv s + 1) S.1 S.2.1).1 (a_ul (a_lv s + 1) S.1 S.2.1).2).1, s :: (a_ul (a_lv s) (a_ul (a_lv s + 1) S.1 S.2.1).1 (a_ul (a_lv s + 1) S.1 S.2.1).2).2, true, 0, S.2.2.2.2)
def a_rd2 (i : Nat) (M : q_MM) (S : a_S) : Prop := M 31 1 = nI S.1.length ∧ (∀ j, j < S.1.length → M 81 j = S.1.getD j 0) ∧ M 32 1 = nI S.2.1.length ∧ (∀ j, j < S.2.1.length → M 82 j = nI (S.2.1.getD (S.2.1.length - 1 - j) 0)) ∧ (∀ x ∈ S.2.1, x < 256) ∧ M 28 2 = (if S.2.2.1 = true then 1 else 0) ∧ M 28 3 = nI S.2.2.2.1 ∧ M 28 4 = nI S.2.2.2.2 ∧ S.1.length + S.2.1.length ≤ i ∧ S.2.2.2.1 ≤ 4 ∧ S.2.2.2.2 ≤ i
def a_w8 (M M' : q_MM) : Prop := ∀ o x, o ≠ 31 → o ≠ 32 → o ≠ 81 → o ≠ 82 → ¬ (o = 28 ∧ (x = 2 ∨ x = 3 ∨ x = 4)) → M' o x = M o x
theorem a_w8.rf {M : q_MM} : a_w8 M M := fun _ _ _ _ _ _ _ => rfl
theorem a_w8.trans {M M' M'' : q_MM} (h : a_w8 M M') (h' : a_w8 M' M'') : a_w8 M M'' := fun o x a b d e f => (h' o x a b d e f).trans (h o x a b d e f)
theorem a_w8.u2 {M M' : q_MM} {o x : Nat} {v : Int32} (h : a_w8 M M') (ho : o = 31 ∨ o = 32 ∨ o = 81 ∨ o = 82 ∨ (o = 28 ∧ (x = 2 ∨ x = 3 ∨ x = 4))) : a_w8 M (q_u2 M' o x v) := fun o' x' a b d e f => by
  rw [q_u2_ne (by
    rintro ⟨rfl, rfl⟩
    rcases ho with q | q | q | q | q
    · exact a q
    · exact b q
    · exact d q
    · exact e q
    · exact f q)]
  exact h o' x' a b d e f
theorem a_getD_app {C : List Int32} {v : Int32} {j : Nat} (hj : j < C.length + 1) : (C ++ [v]).getD j 0 = if j = C.length then v else C.getD j 0 := by
  by_cases e : j = C.length
  · subst e
    simp [List.getD]
  · rw [if_neg e]
    simp [List.getD, List.getElem?_append_left (show j < C.length by omega)]
theorem s_addC {c : Nat → Nat} {M : q_MM} {i : Nat} {C : List Int32} {W : List Nat} {w : Bool} {d o : Nat} {v : Int32} (h : a_rd2 i M (C, W, w, d, o)) (hi : C.length < 61) : ∃ M', f_X4_add c M 31 v = some M' ∧ (∀ i', C.length + 1 + W.length ≤ i' → o ≤ i' → a_rd2 i' M' (C ++ [v], W, w, d, o)) ∧ a_w8 M M' ∧ M' 28 = M 28 := by
  obtain ⟨h1, h2, h3, h4, h5, h6, h7, h8, h9, h10, h11⟩ := h
  dsimp only at *
  refine ⟨_, s_add (r := 81) (N := 61) (k := C.length) (by decide) h1 hi, fun i' q1 q2 => ⟨?_, fun j hj => ?_, ?_, fun j hj => ?_, h5, ?_, ?_, ?_, ?_, h10, q2⟩, (a_w8.rf.u2 (by omega)).u2 (by omega), ?_⟩
  · rw [q_u2_eq, List.length_append]; rfl
  · rw [List.length_append] at hj
    have hj : j < C.length + 1 := hj
    rw [q_u2_ne (by omega), a_getD_app hj]
    by_cases e : j = C.length
    · rw [e, q_u2_eq, if_pos rfl]
    · rw [q_u2_ne (by omega), if_neg e]
      exact h2 j (by omega)
  · rw [q_u2_ne (by omega), q_u2_ne (by omega)]; exact h3
  · rw [q_u2_ne (by omega), q_u2_ne (by omega)]; exact h4 j hj
  · rw [q_u2_ne (by omega), q_u2_ne (by omega)]; exact h6
  · rw [q_u2_ne (by omega), q_u2_ne (by omega)]; exact h7
  · rw [q_u2_ne (by omega), q_u2_ne (by omega)]; exact h8
  · rw [List.length_append]
    show C.length + 1 + W.length ≤ i'
    exact q1
  · funext x
    rw [q_u2_ne (by omega), q_u2_ne (by omega)]
theorem s_addW {c : Nat → Nat} {M : q_MM} {i s : Nat} {C : List Int32} {W : List Nat} {w : Bool} {d o : Nat} (h : a_rd2 i M (C, W, w, d, o)) (hi : W.length < 60) (hs : s < 256) : ∃ M', f_X4_add c M 32 (nI s) = some M' ∧ (∀ i', C.length + (W.length + 1) ≤ i' → o ≤ i' → a_rd2 i' M' (C, s :: W, w, d, o)) ∧ a_w8 M M' ∧ M' 28 = M 28 := by
  obtain ⟨h1, h2, h3, h4, h5, h6, h7, h8, h9, h10, h11⟩ := h
  dsimp only at *
  refine ⟨_, s_add (r := 82) (N := 60) (k := W.length) (by decide) h3 hi, fun i' q1 q2 => ⟨?_, fun j hj => ?_, ?_, fun j hj => ?_, fun x hx => ?_, ?_, ?_, ?_, q1, h10, q2⟩, (a_w8.rf.u2 (by omega)).u2 (by omega), ?_⟩
  · rw [q_u2_ne (by omega), q_u2_ne (by omega)]; exact h1
  · rw [q_u2_ne (by omega), q_u2_ne (by omega)]; exact h2 j hj
  · rw [q_u2_eq]; rfl
  · have hj : j < W.length + 1 := hj
    show _ = nI ((s :: W).getD (W.length + 1 - 1 - j) 0)
    rw [q_u2_ne (by omega)]
    by_cases e : j = W.length
    · rw [e, q_u2_eq, show W.length + 1 - 1 - W.length = 0 by omega]
      rfl
    · rw [q_u2_ne (by omega), h4 j (by omega), show W.length + 1 - 1 - j = (W.length - 1 - j) + 1 by omega]
      rfl
  · rcases List.mem_cons.mp hx with e | e
    · rw [e]; exact hs
    · exact h5 x e
  · rw [q_u2_ne (by omega), q_u2_ne (by omega)]; exact h6
  · rw [q_u2_ne (by omega), q_u2_ne (by omega)]; exact h7
  · rw [q_u2_ne (by omega), q_u2_ne (by omega)]; exact h8
  · funext x
    rw [q_u2_ne (by omega), q_u2_ne (by omega)]
theorem s_takeG {c : Nat → Nat} {M : q_MM} {o r N d : Nat} (ht : (o, r, N) ∈ a_nums) (h : M o 1 = nI (d + 1)) (hd : d < N) : f_X4_take c M o = some (M r d, q_u2 M o 1 (nI d)) := by
  obtain ⟨h1, h2, h3, h4, h5, h6, -⟩ := a_numf c _ ht
  dsimp only at h1 h2 h3 h4 h5 h6
  unfold f_X4_take
  rw [w_ck h1, h, if_pos (show 0 < nI (d + 1) from nI_lt (a := 0) (by omega) (by omega)), show (1 : Int32) = nI 1 from rfl, pk_sub (by omega), Nat.add_sub_cancel, w_let, h2, w_ck h3, h4, q_u2_eq, w_ld hd (by omega), q_u2_ne (fun z => h6 z.1.symm)]
theorem s_unload_loop {c : Nat → Nat} {v i : Nat} {w : Bool} {d o : Nat} (hv : v ≤ 7) (hi : i ≤ 61) : ∀ (W : List Nat) (C : List Int32) (M : q_MM) (nf : Nat), W.length < nf → a_rd2 i M (C, W, w, d, o) → W.length ≤ 60 → ∃ M', b_X8_unload_10 c nf (nI v) (nI W.length + (-1)) M = some M' ∧ a_rd2 i M' ((a_ul v C W).1, (a_ul v C W).2, w, d, o) ∧ a_w8 M M' ∧ M' 28 = M 28
  | [], C, M, 0, h, _, _ => absurd h (Nat.not_lt_zero _)
  | [], C, M, nf + 1, _, h, _ => ⟨M, by rw [b_X8_unload_10, if_pos (show nI ([] : List Nat).length + (-1) < 0 by decide)], h, a_w8.rf, rfl⟩
  | x :: W, C, M, 0, h, _, _ => absurd h (Nat.not_lt_zero _)
  | x :: W, C, M, nf + 1, hf, h, h60 => by
    have hx : x < 256 := h.2.2.2.2.1 x List.mem_cons_self
    have hf : W.length + 1 < nf + 1 := hf
    have h60 : W.length + 1 ≤ 60 := h60
    have hs := h.2.2.2.2.2.2.2.2.1
    dsimp only at hs
    have hs : C.length + (W.length + 1) ≤ i := hs
    have e32 : M 32 1 = nI (W.length + 1) := h.2.2.1
    have e82 : M 82 W.length = nI x := by
      have := h.2.2.2.1 W.length (Nat.lt_succ_self _)
      rw [this]
      show nI ((x :: W).getD (W.length + 1 - 1 - W.length) 0) = nI x
      rw [show W.length + 1 - 1 - W.length = 0 by omega]
      rfl
    have lx : a_lv x ≤ 6 := a_lv_le
    show ∃ M', b_X8_unload_10 c (nf + 1) (nI v) (nI (W.length + 1) + (-1)) M = some M' ∧ _
    rw [b_X8_unload_10, pk_m1, if_neg (nI_pos (by omega)), s_get1 (r := 82) (N := 60) (k := W.length + 1) (by decide) e32 (by omega) (by omega), Option.bind_some, e82, s_levelOf hx, Option.bind_some, a_ul_c]
    by_cases z : v ≤ a_lv x
    · rw [if_neg (nI_nlt z (by omega)), if_pos z, s_takeG (r := 82) (N := 60) (d := W.length) (by decide) e32 (by omega), Option.bind_some]
      dsimp only
      rw [e82]
      have h' : a_rd2 i (q_u2 M 32 1 (nI W.length)) (C, W, w, d, o) := by
        obtain ⟨h1, h2, h3, h4, h5, h6, h7, h8, h9, h10, h11⟩ := h
        dsimp only at *
        refine ⟨by rw [q_u2_ne (by omega)]; exact h1, fun j hj => by rw [q_u2_ne (by omega)]; exact h2 j hj, q_u2_eq, fun j hj => ?_, fun y hy => h5 y (List.mem_cons_of_mem _ hy), by rw [q_u2_ne (by omega)]; exact h6, by rw [q_u2_ne (by omega)]; exact h7, by rw [q_u2_ne (by omega)]; exact h8, by dsimp only; omega, h10, h11⟩
        dsimp only at hj ⊢
        rw [q_u2_ne (by omega), h4 j (by show j < W.length + 1; omega)]
        show nI ((x :: W).getD (W.length + 1 - 1 - j) 0) = _
        rw [show W.length + 1 - 1 - j = (W.length - 1 - j) + 1 by omega]
        rfl
      obtain ⟨M1, a1, a2, a3, a4⟩ := s_addC (c := c) (v := -(nI x)) h' (by omega)
      obtain ⟨M2, b1, b2, b3, b4⟩ := s_unload_loop (c := c) hv hi W (C ++ [-(nI x)]) M1 nf (by omega) (a2 i (by omega) h.2.2.2.2.2.2.2.2.2.2) (by omega)
      rw [a1, Option.bind_some]
      exact ⟨M2, b1, b2, ((a_w8.rf.u2 (by omega)).trans a3).trans b3, by rw [b4, a4]; funext y; exact q_u2_ne (by omega)⟩
    · rw [if_pos (nI_lt (by omega) (by omega)), if_neg z]
      exact ⟨M, rfl, h, a_w8.rf, rfl⟩
theorem s_unload {c : Nat → Nat} {v i : Nat} {w : Bool} {d o : Nat} {W : List Nat} {C : List Int32} {M : q_MM} (hv : v ≤ 7) (hi : i ≤ 60) (h : a_rd2 i M (C, W, w, d, o)) : ∃ M', f_X8_unload c M (nI v) = some M' ∧ a_rd2 i M' ((a_ul v C W).1, (a_ul v C W).2, w, d, o) ∧ a_w8 M M' ∧ M' 28 = M 28 := by
  have hfu := q_fu_le
  have hs := h.2.2.2.2.2.2.2.2.1
  dsimp only at hs
  unfold f_X8_unload
  rw [w_let, h.2.2.1, a_sub1]
  exact s_unload_loop hv (by omega) W C M q_fu (by omega) h (by omega)
theorem a_ul_len {v : Nat} : ∀ {W : List Nat} {C : List Int32}, (a_ul v C W).1.length + (a_ul v C W).2.length = C.length + W.length
  | [], C => rfl
  | x :: W, C => by
    rw [a_ul_c]
    split
    · rw [a_ul_len, List.length_append]
      show C.length + 1 + W.length = C.length + (W.length + 1)
      omega
    · rfl
theorem a_rd2.f28 {i : Nat} {M M' : q_MM} {C : List Int32} {W : List Nat} {w w' : Bool} {d d' o o' : Nat} (h : a_rd2 i M (C, W, w, d, o)) (hM : ∀ r x, r ≠ 28 → M' r x = M r x) (h2 : M' 28 2 = if w' = true then 1 else 0) (h3 : M' 28 3 = nI d') (h4 : M' 28 4 = nI o') {i' : Nat} (hi : C.length + W.length ≤ i') (hd : d' ≤ 4) (ho : o' ≤ i') : a_rd2 i' M' (C, W, w', d', o') := by
  obtain ⟨g1, g2, g3, g4, g5, g6, g7, g8, g9, g10, g11⟩ := h
  dsimp only at *
  exact ⟨by rw [hM 31 1 (by decide)]; exact g1, fun j hj => by rw [hM 81 j (by decide)]; exact g2 j hj, by rw [hM 32 1 (by decide)]; exact g3, fun j hj => by rw [hM 82 j (by decide)]; exact g4 j hj, g5, h2, h3, h4, hi, hd, ho⟩
/-- one sign: taken, or not -/
def a_tkF (i : Nat) (M : q_MM) (F : Option (Int32 × q_MM)) (R : Option a_S) : Prop := (∀ S', R = some S' → ∃ M', F = some (1, M') ∧ a_rd2 (i + 1) M' S' ∧ a_w8 M M') ∧ (R = none → ∃ M', F = some (0, M') ∧ a_w8 M M')
theorem a_tkF.no {i : Nat} {M M' : q_MM} {F : Option (Int32 × q_MM)} (h : F = some (0, M')) (hw : a_w8 M M') : a_tkF i M F none := ⟨fun _ q => (by cases q), fun _ => ⟨M', h, hw⟩⟩
theorem a_tkF.yes {i : Nat} {M M' : q_MM} {F : Option (Int32 × q_MM)} {S' : a_S} (h : F = some (1, M')) (hr : a_rd2 (i + 1) M' S') (hw : a_w8 M M') : a_tkF i M F (some S') := ⟨fun S q => (by cases q; exact ⟨M', h, hr, hw⟩), fun q => (by cases q)⟩
theorem a_tkF.bl {i : Nat} {M : q_MM} {F : Option (Int32 × q_MM)} {R : Option a_S} (h : a_tkF i M F R) : a_tkF i M (F.bind fun r => q_bl r.1 (some (r.1, r.2))) R := by
  constructor
  · intro S e
    obtain ⟨M', a, b⟩ := h.1 S e
    exact ⟨M', by rw [a, Option.bind_some]; exact w_bl1, b⟩
  · intro e
    obtain ⟨M', a, b⟩ := h.2 e
    exact ⟨M', by rw [a, Option.bind_some]; exact w_bl0, b⟩
theorem a_tkF.pre {i : Nat} {M M7 : q_MM} {F : Option (Int32 × q_MM)} {R : Option a_S} (h : a_tkF i M7 F R) (hw : a_w8 M M7) : a_tkF i M F R := by
  constructor
  · intro S e
    obtain ⟨M', a, b, d⟩ := h.1 S e
    exact ⟨M', a, b, hw.trans d⟩
  · intro e
    obtain ⟨M', a, d⟩ := h.2 e
    exact ⟨M', a, hw.trans d⟩
theorem s_takesDigit {c : Nat → Nat} {i : Nat} {M : q_MM} {C : List Int32} {W : List Nat} {d o : Nat} (h : a_rd2 i M (C, W, false, d, o)) (hi : i < 60) {s : Nat} (hs : s < 256) : a_tkF i M (f_X8_takesDigit c M (nI s)) (if d < 1 ∨ 3 < d then none else some (C.dropLast ++ [C.getD (C.length - 1) 0 * 10 + nI s - 48], W, false, d + 1, o)) := by
  have sz := h.2.2.2.2.2.2.2.2.1
  have d4 := h.2.2.2.2.2.2.2.2.2.1
  have oi := h.2.2.2.2.2.2.2.2.2.2
  have e2 := h.2.2.2.2.2.1
  have e3 := h.2.2.2.2.2.2.1
  have e4 := h.2.2.2.2.2.2.2.1
  dsimp only at sz d4 oi e2 e3 e4
  rw [if_neg (show ¬ (false = true) by decide)] at e2
  have dig : f_X8_takesDigit c M (nI s) = (if M 28 3 < (1 : Int32) then q_bl 0 (some (0, M)) else if M 28 3 ≤ (3 : Int32) then (f_X4_take c M 31).bind fun r3 => (f_X4_add c r3.2 31 (((r3.1 * 10) + nI s) - 48)).bind fun r4 => q_let (q_u2 r4 28 3 ((r4 28 3) + 1)) fun M5 => q_bl 1 (some (1, M5)) else q_bl 0 (some (0, M))) := rfl
  rw [e3] at dig
  by_cases z1 : d < 1
  · rw [if_pos (Or.inl z1)]
    rw [if_pos (show nI d < (1 : Int32) from nI_lt (b := 1) z1 (by decide)), w_bl0] at dig
    exact a_tkF.no dig a_w8.rf
  · rw [if_neg (show ¬ nI d < (1 : Int32) from nI_nlt (b := 1) (by omega) (by omega))] at dig
    by_cases z2 : 3 < d
    · rw [if_pos (Or.inr z2)]
      rw [if_neg (show ¬ nI d ≤ (3 : Int32) from nI_ge (a := 3) z2 (by omega)), w_bl0] at dig
      exact a_tkF.no dig a_w8.rf
    · rw [if_neg (by omega)]
      rw [if_pos (show nI d ≤ (3 : Int32) from nI_le (b := 3) (by omega) (by decide))] at dig
      by_cases zC : C = []
      · -- no number to go on with: the class takes 0 then
        subst zC
        have e31 : M 31 1 = 0 := h.1
        have tk : f_X4_take c M 31 = some (0, M) := by
          unfold f_X4_take
          rw [w_ck (show qTX c 31 = 14 from rfl), e31, if_neg (show ¬ (0 : Int32) < 0 by decide)]
        rw [tk, Option.bind_some] at dig
        dsimp only at dig
        obtain ⟨M1, a1, a2, a3, a4⟩ := s_addC (c := c) (v := 0 * 10 + nI s - 48) h (by show 0 < 61; decide)
        rw [a1, Option.bind_some, w_let, w_bl1, a4, e3, nI_1] at dig
        refine a_tkF.yes (M' := q_u2 M1 28 3 (nI (d + 1))) dig ?_ (a3.trans (a_w8.rf.u2 (by omega)))
        refine (a2 (i + 1) (by omega) (by omega)).f28 (fun r x hr => q_u2_ne (fun q => hr q.1)) ?_ q_u2_eq ?_ (by show 1 + W.length ≤ i + 1; have sz : 0 + W.length ≤ i := sz; omega) (by omega) (by omega)
        · rw [q_u2_ne (by omega), a4]; exact e2
        · rw [q_u2_ne (by omega), a4]; exact e4
      · have lenC : C.length ≠ 0 := fun q => zC (List.eq_nil_of_length_eq_zero q)
        have e31 : M 31 1 = nI ((C.length - 1) + 1) := by rw [show C.length - 1 + 1 = C.length by omega]; exact h.1
        have dl : C.dropLast.length = C.length - 1 := List.length_dropLast
        rw [s_takeG (r := 81) (N := 61) (d := C.length - 1) (by decide) e31 (by omega), Option.bind_some] at dig
        dsimp only at dig
        have h' : a_rd2 i (q_u2 M 31 1 (nI (C.length - 1))) (C.dropLast, W, false, d, o) := by
          obtain ⟨h1, h2, h3, h4, h5, h6, h7, h8, h9, h10, h11⟩ := h
          dsimp only at *
          refine ⟨by rw [q_u2_eq]; dsimp only; rw [dl], fun j hj => ?_, by rw [q_u2_ne (by omega)]; exact h3, fun j hj => by rw [q_u2_ne (by omega)]; exact h4 j hj, h5, by rw [q_u2_ne (by omega)]; exact h6, by rw [q_u2_ne (by omega)]; exact h7, by rw [q_u2_ne (by omega)]; exact h8, by dsimp only; omega, h10, h11⟩
          dsimp only at hj ⊢
          rw [dl] at hj
          rw [q_u2_ne (by omega), h2 j (by omega)]
          simp [List.getD, List.getElem?_dropLast, hj, show j < C.length from by omega]
        obtain ⟨M1, a1, a2, a3, a4⟩ := s_addC (c := c) (v := M 81 (C.length - 1) * 10 + nI s - 48) h' (by omega)
        have q28 : ∀ x, M1 28 x = M 28 x := fun x => by rw [a4, q_u2_ne (by omega)]
        rw [a1, Option.bind_some, w_let, w_bl1, q28, e3, nI_1] at dig
        refine a_tkF.yes (M' := q_u2 M1 28 3 (nI (d + 1))) dig ?_ (((a_w8.rf.u2 (by omega)).trans a3).trans (a_w8.rf.u2 (by omega)))
        have a2' := a2 (i + 1) (by omega) (by omega)
        rw [h.2.1 (C.length - 1) (by dsimp only; omega)] at a2'
        refine a2'.f28 (fun r x hr => q_u2_ne (fun q => hr q.1)) ?_ q_u2_eq ?_ (by rw [List.length_append, dl]; show C.length - 1 + 1 + W.length ≤ i + 1; omega) (by omega) (by omega)
        · rw [q_u2_ne (by omega), q28]; exact e2
        · rw [q_u2_ne (by omega), q28]; exact e4
theorem s_closes {c : Nat → Nat} {i : Nat} {M7 : q_MM} {C : List Int32} {W : List Nat} {o : Nat} (h7 : a_rd2 i M7 (C, W, false, 0, o)) (hi : i < 60) : a_tkF i M7 (f_X8_closes c M7) (if o = 0 then none else some ((a_ul 1 C W).1, (a_ul 1 C W).2.tail, false, 0, o - 1)) := by
  have sz := h7.2.2.2.2.2.2.2.2.1
  have oi := h7.2.2.2.2.2.2.2.2.2.2
  have e74 : M7 28 4 = nI o := h7.2.2.2.2.2.2.2.1
  dsimp only at sz oi
  obtain ⟨F, start⟩ : ∃ F, f_X8_closes c M7 = F := ⟨_, rfl⟩
  rw [start]
  unfold f_X8_closes at start
  rw [e74] at start
  by_cases zo : o = 0
  · rw [if_pos zo]
    rw [if_neg (show ¬ (0 : Int32) < nI o by rw [zo]; decide), w_bl0] at start
    exact a_tkF.no start.symm a_w8.rf
  · rw [if_neg zo]
    rw [if_pos (show (0 : Int32) < nI o from nI_lt (a := 0) (by omega) (by omega))] at start
    obtain ⟨M1, a1, a2, a3, a4⟩ := s_unload (c := c) (v := 1) (by decide) (by omega) h7
    have len := a_ul_len (v := 1) (W := W) (C := C)
    rw [show f_X8_unload c M7 (1 : Int32) = some M1 from a1, Option.bind_some] at start
    cases eW : (a_ul 1 C W).2 with
    | nil =>
      rw [eW] at a2 len
      have e32 : M1 32 1 = 0 := a2.2.2.1
      have tk : f_X4_take c M1 32 = some (0, M1) := by
        unfold f_X4_take
        rw [w_ck (show qTX c 32 = 14 from rfl), e32, if_neg (show ¬ (0 : Int32) < 0 by decide)]
      rw [tk, Option.bind_some] at start
      dsimp only at start
      rw [w_let, w_bl1, show M1 28 4 = nI o from a2.2.2.2.2.2.2.2.1, show nI o - 1 = nI (o - 1) from by rw [show (1 : Int32) = nI 1 from rfl, pk_sub (by omega)]] at start
      refine a_tkF.yes start.symm ?_ (a3.trans (a_w8.rf.u2 (by omega)))
      exact a2.f28 (fun r x hr => q_u2_ne (fun q => hr q.1)) (by rw [q_u2_ne (by omega)]; exact a2.2.2.2.2.2.1) (by rw [q_u2_ne (by omega)]; exact a2.2.2.2.2.2.2.1) q_u2_eq (by simp only [List.length_nil] at len ⊢; omega) (by omega) (by omega)
    | cons x X =>
      rw [eW] at a2 len
      have len : (a_ul 1 C W).1.length + (X.length + 1) = C.length + W.length := len
      have e32 : M1 32 1 = nI (X.length + 1) := a2.2.2.1
      rw [s_takeG (r := 82) (N := 60) (d := X.length) (by decide) e32 (by omega), Option.bind_some] at start
      dsimp only at start
      rw [w_let, w_bl1, q_u2_ne (M := M1) (by omega), show M1 28 4 = nI o from a2.2.2.2.2.2.2.2.1, show nI o - 1 = nI (o - 1) from by rw [show (1 : Int32) = nI 1 from rfl, pk_sub (by omega)]] at start
      refine a_tkF.yes start.symm ?_ ((a3.trans (a_w8.rf.u2 (by omega))).trans (a_w8.rf.u2 (by omega)))
      have h' : a_rd2 i (q_u2 M1 32 1 (nI X.length)) ((a_ul 1 C W).1, X, false, 0, o) := by
        obtain ⟨h1, h2, h3, h4, h5, h6, h7, h8, h9, h10, h11⟩ := a2
        dsimp only at *
        refine ⟨by rw [q_u2_ne (by omega)]; exact h1, fun j hj => by rw [q_u2_ne (by omega)]; exact h2 j hj, q_u2_eq, fun j hj => ?_, fun y hy => h5 y (List.mem_cons_of_mem _ hy), by rw [q_u2_ne (by omega)]; exact h6, by rw [q_u2_ne (by omega)]; exact h7, by rw [q_u2_ne (by omega)]; exact h8, by dsimp only; omega, h10, h11⟩
        dsimp only at hj ⊢
        rw [q_u2_ne (by omega), h4 j (by show j < X.length + 1; omega)]
        show nI ((x :: X).getD (X.length + 1 - 1 - j) 0) = _
        rw [show X.length + 1 - 1 - j = (X.length - 1 - j) + 1 by omega]
        rfl
      exact h'.f28 (fun r x hr => q_u2_ne (fun q => hr q.1)) (by rw [q_u2_ne (by omega)]; exact h'.2.2.2.2.2.1) (by rw [q_u2_ne (by omega)]; exact h'.2.2.2.2.2.2.1) q_u2_eq (by show _ + X.length ≤ _; omega) (by omega) (by omega)
theorem s_ends {c : Nat → Nat} {i : Nat} {M7 : q_MM} {C : List Int32} {W : List Nat} {o : Nat} (h7 : a_rd2 i M7 (C, W, false, 0, o)) (hi : i < 60) : a_tkF i M7 (if (M7 28 4) = 0 then b_X8_takes_61 c 1 M7 else b_X8_takes_61 c 0 M7) (if o = 0 then some ((a_ul 1 C W).1 ++ [-59], (a_ul 1 C W).2, true, 0, o) else none) := by
  have sz := h7.2.2.2.2.2.2.2.2.1
  have oi := h7.2.2.2.2.2.2.2.2.2.2
  have e74 : M7 28 4 = nI o := h7.2.2.2.2.2.2.2.1
  dsimp only at sz oi
  rw [e74]
  have fin : ∀ v : Int32, (v = 0 ∨ v = 1) → ∃ M', b_X8_takes_61 c v M7 = (if nI o = 0 then q_bl 1 (some (1, M')) else q_bl 0 (some (0, M'))) ∧ a_rd2 (i + 1) M' ((a_ul 1 C W).1 ++ [-59], (a_ul 1 C W).2, (v == 1), 0, o) ∧ a_w8 M7 M' := fun v hv => by
    have hv' : v = (if (v == 1) = true then 1 else 0) := by rcases hv with rfl | rfl <;> rfl
    have h8 : a_rd2 i (q_u2 M7 28 2 v) (C, W, (v == 1), 0, o) := h7.f28 (fun r x hr => q_u2_ne (fun q => hr q.1)) (by rw [q_u2_eq]; exact hv') (by rw [q_u2_ne (by omega)]; exact h7.2.2.2.2.2.2.1) (by rw [q_u2_ne (by omega)]; exact e74) sz (by omega) oi
    obtain ⟨M1, a1, a2, a3, a4⟩ := s_unload (c := c) (v := 1) (by decide) (by omega) h8
    have len := a_ul_len (v := 1) (W := W) (C := C)
    obtain ⟨M2, b1, b2, b3, b4⟩ := s_addC (c := c) (v := -59) a2 (by omega)
    refine ⟨M2, ?_, b2 (i + 1) (by omega) (by omega), ((a_w8.rf.u2 (by omega)).trans a3).trans b3⟩
    have eb : q_bl v = (fun F : Option (Int32 × q_MM) => F) := by funext F; rcases hv with rfl | rfl <;> first | exact w_bl0 | exact w_bl1
    unfold b_X8_takes_61 f_X8_endExpression
    rw [eb]
    dsimp only
    rw [w_let, show f_X8_unload c (q_u2 M7 28 2 v) (1 : Int32) = some M1 from a1, Option.bind_some, b1, Option.bind_some, Option.bind_some, b4, show M1 28 4 = nI o from a2.2.2.2.2.2.2.2.1]
  by_cases zo : o = 0
  · rw [if_pos zo]
    obtain ⟨M', f1, f2, f3⟩ := fin 1 (Or.inr rfl)
    rw [if_pos (show nI o = 0 by rw [zo]; rfl), f1, if_pos (show nI o = 0 by rw [zo]; rfl), w_bl1]
    exact a_tkF.yes rfl f2 f3
  · rw [if_neg zo]
    obtain ⟨M', f1, f2, f3⟩ := fin 0 (Or.inl rfl)
    have no : ¬ nI o = 0 := nI_ne0 (by omega) (by omega)
    rw [if_neg no, f1, if_neg no, w_bl0]
    exact a_tkF.no rfl f3
theorem s_takesOp {c : Nat → Nat} {i : Nat} {M7 : q_MM} {C : List Int32} {W : List Nat} {o : Nat} (h7 : a_rd2 i M7 (C, W, false, 0, o)) (hi : i < 60) {s : Nat} (hs : s < 256) : a_tkF i M7 (f_X8_takesOperator c M7 (nI s)) (if a_lv s < 1 ∨ 5 < a_lv s then none else if a_lv s = 3 ∧ a_lv ((a_ul 4 C W).2.headD 40) = 3 then none else some ((a_ul (a_lv s) (a_ul (a_lv s + 1) C W).1 (a_ul (a_lv s + 1) C W).2).1, s :: (a_ul (a_lv s) (a_ul (a_lv s + 1) C W).1 (a_ul (a_lv s + 1) C W).2).2, true, 0, o)) := by
  have sz := h7.2.2.2.2.2.2.2.2.1
  have oi := h7.2.2.2.2.2.2.2.2.2.2
  have e74 : M7 28 4 = nI o := h7.2.2.2.2.2.2.2.1
  dsimp only at sz oi
  have un : ∀ k : Nat, k < 256 → ((nI s = nI k) ↔ s = k) := fun k hk => nI_eq (by omega) (by omega)
  have lx : a_lv s ≤ 6 := a_lv_le
  obtain ⟨F, start⟩ : ∃ F, f_X8_takesOperator c M7 (nI s) = F := ⟨_, rfl⟩
  rw [start]
  unfold f_X8_takesOperator at start
  rw [s_levelOf hs, Option.bind_some] at start
  by_cases z1 : a_lv s < 1
  · rw [if_pos (Or.inl z1)]
    rw [if_pos (show nI (a_lv s) < (1 : Int32) from nI_lt (b := 1) z1 (by decide)), w_bl0] at start
    exact a_tkF.no start.symm a_w8.rf
  · rw [if_neg (show ¬ nI (a_lv s) < (1 : Int32) from nI_nlt (b := 1) (by omega) (by omega))] at start
    by_cases z5 : 5 < a_lv s
    · rw [if_pos (Or.inr z5)]
      rw [if_neg (show ¬ nI (a_lv s) ≤ (5 : Int32) from nI_ge (a := 5) z5 (by omega)), w_bl0] at start
      exact a_tkF.no start.symm a_w8.rf
    · rw [if_neg (by omega)]
      rw [if_pos (show nI (a_lv s) ≤ (5 : Int32) from nI_le (b := 5) (by omega) (by decide)), nI_1] at start
      obtain ⟨M1, a1, a2, a3, a4⟩ := s_unload (c := c) (v := a_lv s + 1) (by omega) (by omega) h7
      have len := a_ul_len (v := a_lv s + 1) (W := W) (C := C)
      obtain ⟨M2, b1, b2, b3, b4⟩ := s_unload (c := c) (v := a_lv s) (by omega) (by omega) a2
      have len2 := a_ul_len (v := a_lv s) (W := (a_ul (a_lv s + 1) C W).2) (C := (a_ul (a_lv s + 1) C W).1)
      obtain ⟨M3, d1, d2, d3, d4⟩ := s_addW (c := c) (s := s) b2 (by omega) hs
      have e54 : b_X8_takesOperator_54 c (nI s) (nI (a_lv s)) M1 = some (1, q_u2 M3 28 2 1) := by
        unfold b_X8_takesOperator_54
        rw [b1, Option.bind_some, d1, Option.bind_some]
        simp only [w_bl1, w_let]
      have fine : F = some (1, q_u2 M3 28 2 1) → a_tkF i M7 F (some ((a_ul (a_lv s) (a_ul (a_lv s + 1) C W).1 (a_ul (a_lv s + 1) C W).2).1, s :: (a_ul (a_lv s) (a_ul (a_lv s + 1) C W).1 (a_ul (a_lv s + 1) C W).2).2, true, 0, o)) := fun st => by
        have d2' := d2 (i + 1) (by omega) (by omega)
        refine a_tkF.yes st ?_ (((a3.trans b3).trans d3).trans (a_w8.rf.u2 (by omega)))
        exact d2'.f28 (fun r x hr => q_u2_ne (fun q => hr q.1)) q_u2_eq (by rw [q_u2_ne (by omega)]; exact d2'.2.2.2.2.2.2.1) (by rw [q_u2_ne (by omega)]; exact d2'.2.2.2.2.2.2.2.1) (by show _ + (_ + 1) ≤ _; omega) (by omega) (by omega)
      rw [a1, Option.bind_some] at start
      by_cases z3 : a_lv s = 3
      · rw [if_pos (show nI (a_lv s) = (3 : Int32) by rw [z3]; rfl)] at start
        -- the one on top
        have eg : ∃ x, f_X4_get c M1 32 ((M1 32 1) - 1) = some x ∧ f_X8_levelOf c M1 x = some (nI (a_lv ((a_ul (a_lv s + 1) C W).2.headD 40))) := by
          cases eW : (a_ul (a_lv s + 1) C W).2 with
          | nil =>
            rw [eW] at a2
            have e32 : M1 32 1 = nI 0 := a2.2.2.1
            refine ⟨-1, s_get0 (r := 82) (N := 60) (k := 0) (by decide) e32 (by decide) ?_, ?_⟩
            · rw [e32]
              rintro ⟨j, hj, -⟩
              omega
            · rfl
          | cons x X =>
            rw [eW] at a2 len
            have len : (a_ul (a_lv s + 1) C W).1.length + (X.length + 1) = C.length + W.length := len
            have e32 : M1 32 1 = nI (X.length + 1) := a2.2.2.1
            have hx : x < 256 := a2.2.2.2.2.1 x List.mem_cons_self
            refine ⟨nI x, ?_, s_levelOf hx⟩
            rw [e32, show nI (X.length + 1) - 1 = nI X.length from nI_pred _, s_get1 (r := 82) (N := 60) (k := X.length + 1) (by decide) e32 (by omega) (by omega), a2.2.2.2.1 X.length (by show _ < X.length + 1; omega)]
            show some (nI ((x :: X).getD (X.length + 1 - 1 - X.length) 0)) = _
            rw [show X.length + 1 - 1 - X.length = 0 by omega]
            rfl
        obtain ⟨x, g1, g2⟩ := eg
        rw [g1, Option.bind_some, g2, Option.bind_some] at start
        have lh : a_lv ((a_ul (a_lv s + 1) C W).2.headD 40) ≤ 6 := a_lv_le
        have e43 : a_lv s + 1 = 4 := by omega
        by_cases zt : a_lv ((a_ul (a_lv s + 1) C W).2.headD 40) = 3
        · rw [if_pos (show nI _ = (3 : Int32) by rw [zt]; rfl), w_bl0] at start
          rw [if_pos ⟨z3, by rw [← e43]; exact zt⟩]
          exact a_tkF.no start.symm a3
        · rw [if_neg (show ¬ nI _ = (3 : Int32) from fun q => zt (nI_inj (j := 3) (by omega) (by decide) q)), e54] at start
          rw [if_neg (fun q => zt (by rw [e43]; exact q.2))]
          exact fine start.symm
      · rw [if_neg (show ¬ nI (a_lv s) = (3 : Int32) from fun q => z3 (nI_inj (j := 3) (by omega) (by decide) q)), e54] at start
        rw [if_neg (fun q => z3 q.1)]
        exact fine start.symm
theorem s_begins {c : Nat → Nat} {i : Nat} {M : q_MM} {C : List Int32} {W : List Nat} {d o : Nat} (h : a_rd2 i M (C, W, true, d, o)) (hi : i < 60) {s : Nat} (hs : s < 256) : a_tkF i M (f_X8_beginsThing c M (nI s)) (if s = 40 then some (C, 40 :: W, true, d, o + 1) else if s = 33 then some (C, 33 :: W, true, d, o) else if s = 45 then some (C, 126 :: W, true, d, o) else if 48 ≤ s ∧ s ≤ 57 then some (C ++ [nI s - 48], W, false, 1, o) else if a_li s < 12 then some (C ++ [10000 + nI (a_li s)], W, false, d, o) else none) := by
  have sz := h.2.2.2.2.2.2.2.2.1
  have d4 := h.2.2.2.2.2.2.2.2.2.1
  have oi := h.2.2.2.2.2.2.2.2.2.2
  have e2 := h.2.2.2.2.2.1
  have e3 := h.2.2.2.2.2.2.1
  have e4 := h.2.2.2.2.2.2.2.1
  dsimp only at sz d4 oi e2 e3 e4
  have un : ∀ k : Nat, k < 256 → ((nI s = nI k) ↔ s = k) := fun k hk => nI_eq (by omega) (by omega)
  rw [if_pos (show true = true from rfl)] at e2
  have li12 : a_li s ≤ 12 := List.findIdx_le_length
  have lt := a_lit2 s hs
  have ix : f_J0_indexOf_0f7a4 (qTX c) (qLX c) (qPX c) M 900 (Int32.toUInt32 (nI s) % 65536).toInt32 = some (a_fnd (a_by 0) (Int32.toInt8 (nI s)).toInt32 12 0) := by
    have e16 : (Int32.toUInt32 (nI s) % 65536).toInt32 = nI s := by
      rw [pk_char, pk_tn (by omega), Nat.mod_eq_of_lt (by omega)]
    rw [e16]
    exact s_index (i := 0) (by decide) hs
  obtain ⟨F, start⟩ : ∃ F, f_X8_beginsThing c M (nI s) = F := ⟨_, rfl⟩
  rw [start]
  unfold f_X8_beginsThing b_X8_beginsThing_47 b_X8_beginsThing_63 at start
  rw [ix, Option.bind_some] at start
  simp only [w_ck (show qTX c 32 = 14 from rfl)] at start
  by_cases z40 : s = 40
  · rw [if_pos z40]
    rw [if_pos (show nI s = (40 : Int32) from (un 40 (by decide)).mpr z40), w_let, e4, nI_1] at start
    have h' : a_rd2 (i + 1) (q_u2 M 28 4 (nI (o + 1))) (C, W, true, d, o + 1) := h.f28 (fun r x hr => q_u2_ne (fun q => hr q.1)) (by rw [q_u2_ne (by omega)]; exact e2) (by rw [q_u2_ne (by omega)]; exact e3) q_u2_eq (by omega) (by omega) (by omega)
    obtain ⟨M1, a1, a2, a3, -⟩ := s_addW (c := c) (s := s) h' (by omega) hs
    rw [a1, Option.bind_some, w_bl1] at start
    rw [← z40]
    exact a_tkF.yes start.symm (a2 (i + 1) (by omega) (by omega)) ((a_w8.rf.u2 (by omega)).trans a3)
  · rw [if_neg z40]
    rw [if_neg (show ¬ nI s = (40 : Int32) from fun q => z40 ((un 40 (by decide)).mp q))] at start
    by_cases z33 : s = 33
    · rw [if_pos z33]
      rw [if_pos (show nI s = (33 : Int32) from (un 33 (by decide)).mpr z33), if_neg (show ¬ nI s = (45 : Int32) from fun q => by have := (un 45 (by decide)).mp q; omega)] at start
      obtain ⟨M1, a1, a2, a3, -⟩ := s_addW (c := c) (s := s) h (by omega) hs
      rw [a1, Option.bind_some, w_bl1] at start
      rw [← z33]
      exact a_tkF.yes start.symm (a2 (i + 1) (by omega) (by omega)) a3
    · rw [if_neg z33]
      rw [if_neg (show ¬ nI s = (33 : Int32) from fun q => z33 ((un 33 (by decide)).mp q))] at start
      by_cases z45 : s = 45
      · rw [if_pos z45]
        rw [if_pos (show nI s = (45 : Int32) from (un 45 (by decide)).mpr z45), if_pos (show nI s = (45 : Int32) from (un 45 (by decide)).mpr z45)] at start
        obtain ⟨M1, a1, a2, a3, -⟩ := s_addW (c := c) (s := 126) h (by omega) (by decide)
        rw [show f_X4_add c M 32 (126 : Int32) = some M1 from a1, Option.bind_some, w_bl1] at start
        exact a_tkF.yes start.symm (a2 (i + 1) (by omega) (by omega)) a3
      · rw [if_neg z45]
        rw [if_neg (show ¬ nI s = (45 : Int32) from fun q => z45 ((un 45 (by decide)).mp q)), s_isDigit hs, Option.bind_some] at start
        by_cases zd : 48 ≤ s ∧ s ≤ 57
        · rw [if_pos zd]
          rw [a_ifp (show a_dg s from zd), if_neg (show ¬ (1 : Int32) = 0 by decide), w_let] at start
          have h' : a_rd2 i (q_u2 M 28 3 1) (C, W, true, 1, o) := h.f28 (d' := 1) (fun r x hr => q_u2_ne (fun q => hr q.1)) (by rw [q_u2_ne (by omega)]; exact e2) q_u2_eq (by rw [q_u2_ne (by omega)]; exact e4) sz (by omega) oi
          obtain ⟨M1, a1, a2, a3, a4⟩ := s_addC (c := c) (v := nI s - 48) h' (by omega)
          rw [a1, Option.bind_some, w_bl0, w_let, w_bl1] at start
          have a2' := a2 (i + 1) (by omega) (by omega)
          refine a_tkF.yes start.symm ?_ (((a_w8.rf.u2 (by omega)).trans a3).trans (a_w8.rf.u2 (by omega)))
          exact a2'.f28 (fun r x hr => q_u2_ne (fun q => hr q.1)) q_u2_eq (by rw [q_u2_ne (by omega)]; exact a2'.2.2.2.2.2.2.1) (by rw [q_u2_ne (by omega)]; exact a2'.2.2.2.2.2.2.2.1) (by rw [List.length_append]; show C.length + 1 + W.length ≤ _; omega) (by omega) (by omega)
        · rw [if_neg zd]
          rw [a_ifn (show ¬ a_dg s from zd), if_pos rfl] at start
          by_cases zl : a_li s < 12
          · rw [if_pos zl]
            rw [lt.2 zl, if_neg (nI_pos (by omega))] at start
            obtain ⟨M1, a1, a2, a3, a4⟩ := s_addC (c := c) (v := 10000 + nI (a_li s)) h (by omega)
            rw [a1, Option.bind_some, w_bl0, w_let, w_bl1] at start
            have a2' := a2 (i + 1) (by omega) (by omega)
            refine a_tkF.yes start.symm ?_ (a3.trans (a_w8.rf.u2 (by omega)))
            exact a2'.f28 (fun r x hr => q_u2_ne (fun q => hr q.1)) q_u2_eq (by rw [q_u2_ne (by omega)]; exact a2'.2.2.2.2.2.2.1) (by rw [q_u2_ne (by omega)]; exact a2'.2.2.2.2.2.2.2.1) (by rw [List.length_append]; show C.length + 1 + W.length ≤ _; omega) (by omega) (by omega)
          · rw [if_neg zl]
            have := (a_sett s hs 0 (by decide)).mpr (fun q => zl (lt.1.mpr q))
            rw [if_pos (show a_fnd (a_by 0) (Int32.toInt8 (nI s)).toInt32 12 0 < 0 from this), w_bl0] at start
            exact a_tkF.no start.symm a_w8.rf
  
def a_tkr (c : Nat → Nat) (i : Nat) (M : q_MM) (s : Nat) (R : Option a_S) : Prop := a_tkF i M (f_X8_takes c M (nI s)) R
theorem s_takesR {c : Nat → Nat} {i : Nat} {M : q_MM} {S : a_S} (h : a_rd2 i M S) (hi : i < 60) {s : Nat} (hs : s < 256) : a_tkr c i M s (a_stp S s) := by
  obtain ⟨C, W, w, d, o⟩ := S
  have sz := h.2.2.2.2.2.2.2.2.1
  have d4 := h.2.2.2.2.2.2.2.2.2.1
  have oi := h.2.2.2.2.2.2.2.2.2.2
  have e2 := h.2.2.2.2.2.1
  have e3 := h.2.2.2.2.2.2.1
  have e4 := h.2.2.2.2.2.2.2.1
  dsimp only at sz d4 oi e2 e3 e4
  have un : ∀ k : Nat, k < 256 → ((nI s = nI k) ↔ s = k) := fun k hk => nI_eq (by omega) (by omega)
  unfold a_stp a_tkr
  dsimp only
  cases w
  · rw [if_neg (show ¬ (false = true) by decide)]
    rw [if_neg (show ¬ (false = true) by decide)] at e2
    by_cases zd : 48 ≤ s ∧ s ≤ 57
    · rw [if_pos zd, show f_X8_takes c M (nI s) = (f_X8_takesDigit c M (nI s)).bind fun r13 => q_bl r13.1 (some (r13.1, r13.2)) from by
        unfold f_X8_takes
        rw [e2, if_pos rfl, s_isDigit hs, Option.bind_some, a_ifp (show a_dg s from zd), if_neg (show ¬ (1 : Int32) = 0 by decide)]]
      exact (s_takesDigit h hi hs).bl
    · rw [if_neg zd]
      obtain ⟨M7, hM7⟩ : ∃ M7, M7 = q_u2 M 28 3 0 := ⟨_, rfl⟩
      have w7 : a_w8 M M7 := by rw [hM7]; exact a_w8.rf.u2 (by omega)
      have h7 : a_rd2 i M7 (C, W, false, 0, o) := by
        rw [hM7]
        exact h.f28 (d' := 0) (fun r x hr => q_u2_ne (fun q => hr q.1)) (by rw [q_u2_ne (by omega), e2]; rfl) q_u2_eq (by rw [q_u2_ne (by omega)]; exact e4) sz (by omega) oi
      have start : f_X8_takes c M (nI s) = (if nI s = (41 : Int32) then (f_X8_closes c M7).bind fun r9 => q_bl r9.1 (some (r9.1, r9.2)) else if nI s = (59 : Int32) then (if (M7 28 4) = 0 then b_X8_takes_61 c 1 M7 else b_X8_takes_61 c 0 M7) else (f_X8_takesOperator c M7 (nI s)).bind fun r12 => q_bl r12.1 (some (r12.1, r12.2))) := by
        unfold f_X8_takes
        rw [e2, if_pos rfl, s_isDigit hs, Option.bind_some, a_ifn (show ¬ a_dg s from zd), if_pos rfl, w_let, hM7]
      rw [start]
      refine a_tkF.pre ?_ w7
      by_cases z41 : s = 41
      · rw [if_pos z41, if_pos (show nI s = (41 : Int32) from (un 41 (by decide)).mpr z41)]
        exact (s_closes h7 hi).bl
      · rw [if_neg z41, if_neg (show ¬ nI s = (41 : Int32) from fun q => z41 ((un 41 (by decide)).mp q))]
        by_cases z59 : s = 59
        · rw [if_pos z59, if_pos (show nI s = (59 : Int32) from (un 59 (by decide)).mpr z59)]
          exact s_ends h7 hi
        · rw [if_neg z59, if_neg (show ¬ nI s = (59 : Int32) from fun q => z59 ((un 59 (by decide)).mp q))]
          exact (s_takesOp h7 hi hs).bl
  · rw [if_pos (show true = true from rfl)]
    rw [if_pos (show true = true from rfl)] at e2
    rw [show f_X8_takes c M (nI s) = (f_X8_beginsThing c M (nI s)).bind fun r14 => q_bl r14.1 (some (r14.1, r14.2)) from by
      unfold f_X8_takes
      rw [e2, if_neg (show ¬ (1 : Int32) = 0 by decide)]]
    exact (s_begins h hi hs).bl
