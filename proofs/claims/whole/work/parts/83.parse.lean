/-! term: the model's reader as plain functions of the signs -/
abbrev a_RR : Type := Bool × Nat × List Int32
def a_pdig (t : Nat → Nat) (n : Nat) : Nat → Nat → Int32 → Nat × Int32
  | 0, p, v => (p, v)
  | k + 1, p, v => if p < n ∧ t p ∈ a_set 2 then a_pdig t n k (p + 1) (10 * v + nI (t p) - 48) else (p, v)
def a_pth (t : Nat → Nat) (n : Nat) (sm : Nat → a_RR) (p : Nat) : a_RR :=
  if p < n ∧ t p ∈ a_set 0 then (true, p + 1, [-1 - nI (a_li (t p))])
  else if p < n ∧ t p ∈ a_set 2 then (true, (a_pdig t n 4 p 0).1, [(a_pdig t n 4 p 0).2])
  else if p < n ∧ t p = 40 then
    (if (sm (p + 1)).1 = true then (if (sm (p + 1)).2.1 < n ∧ t (sm (p + 1)).2.1 = 41 then (true, (sm (p + 1)).2.1 + 1, (sm (p + 1)).2.2) else (false, (sm (p + 1)).2.1, (sm (p + 1)).2.2)) else (false, (sm (p + 1)).2.1, (sm (p + 1)).2.2))
  else (false, p, [])
def a_pun (t : Nat → Nat) (n : Nat) (un sm : Nat → a_RR) (p : Nat) : a_RR :=
  if p < n ∧ t p ∈ a_set 1 then
    (if (un (p + 1)).1 = true then (true, (un (p + 1)).2.1, (un (p + 1)).2.2 ++ [nI (if t p = 33 then 33 else 126) - 200]) else (false, (un (p + 1)).2.1, (un (p + 1)).2.2))
  else a_pth t n sm p
def a_plo (t : Nat → Nat) (n v : Nat) (f : Nat → a_RR) : Nat → a_RR → a_RR
  | 0, x => x
  | k + 1, x => if x.1 = true ∧ x.2.1 < n ∧ a_lv (t x.2.1) = v then a_plo t n v f k ((f (x.2.1 + 1)).1, (f (x.2.1 + 1)).2.1, x.2.2 ++ (f (x.2.1 + 1)).2.2 ++ (if (f (x.2.1 + 1)).1 = true then [nI (t x.2.1) - 200] else [])) else x
theorem a_plo_s {t : Nat → Nat} {n v : Nat} {f : Nat → a_RR} {k : Nat} {x : a_RR} : a_plo t n v f (k + 1) x = if x.1 = true ∧ x.2.1 < n ∧ a_lv (t x.2.1) = v then a_plo t n v f k ((f (x.2.1 + 1)).1, (f (x.2.1 + 1)).2.1, x.2.2 ++ (f (x.2.1 + 1)).2.2 ++ (if (f (x.2.1 + 1)).1 = true then [nI (t x.2.1) - 200] else [])) else x := rfl
def a_ply (t : Nat → Nat) (n v k : Nat) (f : Nat → a_RR) : Nat → a_RR := fun p => a_plo t n v f k (f p)
def a_psm (t : Nat → Nat) (n : Nat) (U : Nat → a_RR) : Nat → a_RR := a_ply t n 1 61 (a_ply t n 2 61 (a_ply t n 3 1 (a_ply t n 4 61 (a_ply t n 5 61 U))))
def a_pr (t : Nat → Nat) (n : Nat) : Nat → (Nat → a_RR) × (Nat → a_RR)
  | 0 => (fun p => (false, p, []), fun p => (false, p, []))
  | d + 1 => (a_pun t n (a_pr t n d).1 (a_pr t n d).2, a_psm t n (a_pun t n (a_pr t n d).1 (a_pr t n d).2))
theorem a_slv : ∀ s, s < 256 → (s ∈ a_set 3 ↔ a_lv s = 5) ∧ (s ∈ a_set 4 ↔ a_lv s = 4) ∧ (s ∈ a_set 5 ↔ a_lv s = 3) ∧ (s = 38 ↔ a_lv s = 2) ∧ (s = 124 ↔ a_lv s = 1) := by decide +kernel
def a_b (b : Bool) : Int32 := if b = true then 1 else 0
theorem a_b1 : a_b true = 1 := rfl
theorem a_b0 : a_b false = 0 := rfl
/-- one of the model's readers, and the plain one -/
def a_rl (t : Nat → Nat) (n N : Nat) (F : q_MM → Int32 → Option (Int32 × q_MM)) (f : Nat → a_RR) : Prop := ∀ (m : q_MM) (u : Nat) (K : List Int32) (p : Nat), a_mk m u K p → a_tp2 m t n → p ≤ n → n - p < N → K.length + (n - p) ≤ 63 → ∃ m', F m (nI n) = some (a_b (f p).1, m') ∧ a_mk m' u (K ++ (f p).2.2) (f p).2.1 ∧ a_fm u m m' ∧ p ≤ (f p).2.1 ∧ (f p).2.1 ≤ n ∧ (f p).2.2.length + p ≤ (f p).2.1
theorem s_pdig {un sm : q_MM → Int32 → Option (Int32 × q_MM)} {t : Nat → Nat} {n u : Nat} {K : List Int32} : ∀ (k nf : Nat) (m : q_MM) (p : Nat) (v : Int32) (i : Nat), i + k = 4 → k < nf → a_mk m u K p → a_tp2 m t n → p ≤ n → K.length < 64 → ∃ m', b_X12_thing_56 un sm nf (nI n) v (nI i) m = some (1, m') ∧ a_mk m' u (K ++ [(a_pdig t n k p v).2]) (a_pdig t n k p v).1 ∧ a_fm u m m' ∧ p ≤ (a_pdig t n k p v).1 ∧ (a_pdig t n k p v).1 ≤ n := by
  have fin : ∀ (m : q_MM) (p : Nat) (v : Int32), a_mk m u K p → K.length < 64 → ∃ m', b_X12_thing_105 un sm v m = some (1, m') ∧ a_mk m' u (K ++ [v]) p ∧ a_fm u m m' := fun m p v hm hK => by
    obtain ⟨m', a1, a2, a3⟩ := s_marks (v := v) hm hK
    unfold b_X12_thing_105
    exact ⟨m', by rw [a1, Option.bind_some, w_bl1], a2, a3⟩
  intro k
  induction k with
  | zero =>
    intro nf m p v i hi hf hm ht hp hK
    obtain ⟨nf, rfl⟩ : ∃ z, nf = z + 1 := ⟨nf - 1, by omega⟩
    obtain ⟨m', a1, a2, a3⟩ := fin m p v hm hK
    exact ⟨m', by rw [b_X12_thing_56, if_pos (show (4 : Int32) ≤ nI i from nI_le (a := 4) (by omega) (by omega))]; exact a1, a2, a3, Nat.le_refl _, hp⟩
  | succ k ih =>
    intro nf m p v i hi hf hm ht hp hK
    obtain ⟨nf, rfl⟩ : ∃ z, nf = z + 1 := ⟨nf - 1, by omega⟩
    have hn := ht.1
    rw [b_X12_thing_56, if_neg (show ¬ (4 : Int32) ≤ nI i from nI_ge (b := 4) (by omega) (by decide)), show f_X12_isOf m (nI n) 902 = _ from s_isOf (i := 2) ht hm.2.2.2.2 hp (by decide), Option.bind_some]
    rw [show a_pdig t n (k + 1) p v = if p < n ∧ t p ∈ a_set 2 then a_pdig t n k (p + 1) (10 * v + nI (t p) - 48) else (p, v) from rfl]
    by_cases z : p < n ∧ t p ∈ a_set 2
    · rw [a_ifp z, if_neg (show ¬ (1 : Int32) = 0 by decide), if_pos z, hm.2.2.2.2, w_ld (show p < 100 by omega) (by decide), (ht.2 p z.1).1, w_let, w_let, nI_1, nI_1]
      have hm' := hm.at (p' := p + 1)
      obtain ⟨m', a1, a2, a3, a4, a5⟩ := ih nf _ (p + 1) (10 * v + nI (t p) - 48) (i + 1) (by omega) (by omega) hm'.1 (ht.fm hm'.2) (by omega) hK
      exact ⟨m', a1, a2, hm'.2.trans a3, by omega, a5⟩
    · rw [a_ifn z, if_pos rfl, if_neg z]
      obtain ⟨m', a1, a2, a3⟩ := fin m p v hm hK
      exact ⟨m', a1, a2, a3, Nat.le_refl _, hp⟩
theorem s_pth {un sm : q_MM → Int32 → Option (Int32 × q_MM)} {fm : Nat → a_RR} {t : Nat → Nat} {n N : Nat} (hs : a_rl t n N sm fm) : a_rl t n (N + 1) (f_X12_thing un sm) (a_pth t n fm) := by
  intro m u K p hm ht hp hN hK
  have hn := ht.1
  unfold f_X12_thing a_pth
  rw [show f_X12_isOf m (nI n) 900 = _ from s_isOf (i := 0) ht hm.2.2.2.2 hp (by decide), Option.bind_some]
  by_cases z0 : p < n ∧ t p ∈ a_set 0
  · obtain ⟨e, ts⟩ := ht.2 p z0.1
    have li := a_lit2 (t p) ts
    rw [a_ifp z0, if_neg (show ¬ (1 : Int32) = 0 by decide), if_pos z0, hm.2.2.2.2, w_ld (show p < 100 by omega) (by decide), e, show f_J0_indexOf_0f7a4 qTM qLM qPM m 900 (nI (t p)) = _ from s_index (i := 0) (by decide) ts, Option.bind_some, show q_len.getD 0 0 = 12 from rfl, li.2 (li.1.mpr z0.2)]
    obtain ⟨m1, a1, a2, a3⟩ := s_marks (v := -1 - nI (a_li (t p))) hm (by omega)
    have hm' := a2.at (p' := p + 1)
    refine ⟨_, by rw [a1, Option.bind_some, a2.2.2.2.2, nI_1, w_let, w_bl1]; rfl, hm'.1, a3.trans hm'.2, Nat.le_succ _, z0.1, ?_⟩
    show 1 + p ≤ p + 1
    omega
  · rw [a_ifn z0, if_pos rfl, if_neg z0, show f_X12_isOf m (nI n) 902 = _ from s_isOf (i := 2) ht hm.2.2.2.2 hp (by decide), Option.bind_some]
    by_cases z2 : p < n ∧ t p ∈ a_set 2
    · rw [a_ifp z2, if_neg (show ¬ (1 : Int32) = 0 by decide), if_pos z2]
      obtain ⟨m', a1, a2, a3, a4, a5⟩ := s_pdig (un := un) (sm := sm) 4 q_fu m p 0 0 (by decide) (by have := q_fu_le; omega) hm ht hp (by omega)
      refine ⟨m', a1, a2, a3, a4, a5, ?_⟩
      have : p + 1 ≤ (a_pdig t n 4 p 0).1 := by
        rw [show a_pdig t n 4 p 0 = if p < n ∧ t p ∈ a_set 2 then a_pdig t n 3 (p + 1) (10 * 0 + nI (t p) - 48) else (p, 0) from rfl, if_pos z2]
        have h1 := hm.at (p' := p + 1)
        obtain ⟨_, _, _, _, b4, _⟩ := s_pdig (un := un) (sm := sm) 3 q_fu _ (p + 1) (10 * 0 + nI (t p) - 48) 1 (by decide) (by have := q_fu_le; omega) h1.1 (ht.fm h1.2) (by omega) (by omega)
        exact b4
      show 1 + p ≤ (a_pdig t n 4 p 0).1
      omega
    · rw [a_ifn z2, if_pos rfl, if_neg z2, show f_X12_isSign m (nI n) (40 : Int32) = _ from s_isSign (s := 40) ht hm.2.2.2.2 hp (by decide), Option.bind_some]
      by_cases z4 : p < n ∧ t p = 40
      · rw [a_ifp z4, if_neg (show ¬ (1 : Int32) = 0 by decide), if_pos z4, hm.2.2.2.2, nI_1, w_let]
        have hm' := hm.at (p' := p + 1)
        obtain ⟨m1, a1, a2, a3, a4, a5, a6⟩ := hs _ u K (p + 1) hm'.1 (ht.fm hm'.2) (by omega) (by omega) (by omega)
        rw [a1, Option.bind_some]
        dsimp only
        cases zr : (fm (p + 1)).1
        · rw [a_b0, if_pos rfl, w_bl0, if_neg (show ¬ (false = true) by decide)]
          exact ⟨m1, rfl, a2, hm'.2.trans a3, by dsimp only; omega, a5, by dsimp only; omega⟩
        · rw [a_b1, if_neg (show ¬ (1 : Int32) = 0 by decide), if_pos rfl, show f_X12_isSign m1 (nI n) (41 : Int32) = _ from s_isSign (s := 41) ((ht.fm hm'.2).fm a3) a2.2.2.2.2 a5 (by decide), Option.bind_some]
          by_cases z1 : (fm (p + 1)).2.1 < n ∧ t (fm (p + 1)).2.1 = 41
          · rw [a_ifp z1, if_neg (show ¬ (1 : Int32) = 0 by decide), if_pos z1, a2.2.2.2.2, nI_1, w_let, w_bl1]
            have h3 := a2.at (p' := (fm (p + 1)).2.1 + 1)
            exact ⟨_, rfl, h3.1, (hm'.2.trans a3).trans h3.2, by dsimp only; omega, by dsimp only; omega, by dsimp only; omega⟩
          · rw [a_ifn z1, if_pos rfl, if_neg z1, w_bl0]
            exact ⟨m1, rfl, a2, hm'.2.trans a3, by dsimp only; omega, a5, by dsimp only; omega⟩
      · rw [a_ifn z4, if_pos rfl, if_neg z4, w_bl0]
        exact ⟨m, rfl, by rw [List.append_nil]; exact hm, a_fm.rf, Nat.le_refl _, hp, by show 0 + p ≤ p; omega⟩
theorem a_app {a b d : List Int32} : a ++ b ++ d = a ++ (b ++ d) := List.append_assoc a b d
theorem s_pun {un sm : q_MM → Int32 → Option (Int32 × q_MM)} {fu fm : Nat → a_RR} {t : Nat → Nat} {n N : Nat} (hu : a_rl t n N un fu) (hs : a_rl t n N sm fm) : a_rl t n (N + 1) (f_X12_unary un sm) (a_pun t n fu fm) := by
  intro m u K p hm ht hp hN hK
  have hn := ht.1
  unfold f_X12_unary a_pun
  rw [show f_X12_isOf m (nI n) 901 = _ from s_isOf (i := 1) ht hm.2.2.2.2 hp (by decide), Option.bind_some]
  by_cases z : p < n ∧ t p ∈ a_set 1
  · obtain ⟨e, ts⟩ := ht.2 p z.1
    rw [a_ifp z, if_neg (show ¬ (1 : Int32) = 0 by decide), if_pos z, hm.2.2.2.2, w_ld (show p < 100 by omega) (by decide), e, nI_1, w_let]
    have hm' := hm.at (p' := p + 1)
    obtain ⟨m1, a1, a2, a3, a4, a5, a6⟩ := hu _ u K (p + 1) hm'.1 (ht.fm hm'.2) (by omega) (by omega) (by omega)
    rw [a1, Option.bind_some]
    dsimp only
    rw [w_let]
    unfold b_X12_unary_60 b_X12_unary_66 f_X12_act
    cases zr : (fu (p + 1)).1
    · rw [a_b0, if_pos rfl, w_bl0, if_neg (show ¬ (false = true) by decide)]
      exact ⟨m1, rfl, a2, hm'.2.trans a3, by dsimp only; omega, a5, by dsimp only; omega⟩
    · rw [a_b1, if_neg (show ¬ (1 : Int32) = 0 by decide), if_pos rfl]
      have fin : ∀ x : Int32, ∃ m', ((some (x - 200) : Option Int32).bind fun r1 => (f_X12_marks m1 r1).bind fun r2 => q_bl 1 (some ((1 : Int32), r2))) = some (1, m') ∧ a_mk m' u (K ++ ((fu (p + 1)).2.2 ++ [x - 200])) (fu (p + 1)).2.1 ∧ a_fm u m m' := fun x => by
        obtain ⟨m2, b1, b2, b3⟩ := s_marks (v := x - 200) a2 (by rw [List.length_append]; omega)
        refine ⟨m2, by rw [Option.bind_some, b1, Option.bind_some, w_bl1], ?_, (hm'.2.trans a3).trans b3⟩
        rw [← a_app]; exact b2
      by_cases z3 : t p = 33
      · rw [if_pos (show nI (t p) = (33 : Int32) by rw [z3]; rfl), if_pos z3]
        obtain ⟨m2, b1, b2, b3⟩ := fin 33
        exact ⟨m2, b1, b2, b3, by dsimp only; omega, a5, by dsimp only; rw [List.length_append]; show _ + 1 + p ≤ _; omega⟩
      · rw [if_neg (show ¬ nI (t p) = (33 : Int32) from fun q => z3 (nI_inj (j := 33) (by omega) (by decide) q)), if_neg z3]
        obtain ⟨m2, b1, b2, b3⟩ := fin 126
        exact ⟨m2, b1, b2, b3, by dsimp only; omega, a5, by dsimp only; rw [List.length_append]; show _ + 1 + p ≤ _; omega⟩
  · rw [a_ifn z, if_pos rfl, if_neg z]
    obtain ⟨m', a1, a2⟩ := s_pth (un := un) hs m u K p hm ht hp hN hK
    refine ⟨m', ?_, a2⟩
    rw [a1, Option.bind_some]
    cases (a_pth t n fm p).1
    · exact w_bl0
    · exact w_bl1
/-- a loop over operators of one level -/
def a_lpf (t : Nat → Nat) (n v : Nat) (F : q_MM → Int32 → Option (Int32 × q_MM)) (B : Nat → Int32 → q_MM → Option (Int32 × q_MM)) : Prop := (∀ nf M, B (nf + 1) 0 M = some (0, M)) ∧ (∀ nf M p, a_tp2 M t n → M 5001 43 = nI p → p ≤ n → ¬ (p < n ∧ a_lv (t p) = v) → B (nf + 1) 1 M = some (1, M)) ∧ (∀ nf M p, a_tp2 M t n → M 5001 43 = nI p → p < n → a_lv (t p) = v → B (nf + 1) 1 M = (F (q_u2 M 5001 43 (nI (p + 1))) (nI n)).bind fun r => if r.1 = 0 then B nf r.1 r.2 else (f_X12_marks r.2 (nI (t p) - 200)).bind fun r10 => B nf r.1 r10)
theorem s_plo {t : Nat → Nat} {n N v u : Nat} {F : q_MM → Int32 → Option (Int32 × q_MM)} {f : Nat → a_RR} {B : Nat → Int32 → q_MM → Option (Int32 × q_MM)} (hF : a_rl t n N F f) (hB : a_lpf t n v F B) {K : List Int32} : ∀ (k nf : Nat) (m : q_MM) (r : Bool) (p : Nat) (D : List Int32), a_mk m u (K ++ D) p → a_tp2 m t n → p ≤ n → n - p ≤ N → n - p < k → n - p < nf → K.length + D.length + (n - p) ≤ 63 → ∃ m', B nf (a_b r) m = some (a_b (a_plo t n v f k (r, p, D)).1, m') ∧ a_mk m' u (K ++ (a_plo t n v f k (r, p, D)).2.2) (a_plo t n v f k (r, p, D)).2.1 ∧ a_fm u m m' ∧ p ≤ (a_plo t n v f k (r, p, D)).2.1 ∧ (a_plo t n v f k (r, p, D)).2.1 ≤ n ∧ (a_plo t n v f k (r, p, D)).2.2.length + p ≤ D.length + (a_plo t n v f k (r, p, D)).2.1 := by
  intro k
  induction k with
  | zero => intro nf m r p D _ _ _ _ h; exact absurd h (Nat.not_lt_zero _)
  | succ k ih =>
    intro nf m r p D hm ht hp hN hk hf hK
    obtain ⟨nf, rfl⟩ : ∃ z, nf = z + 1 := ⟨nf - 1, by omega⟩
    rw [a_plo_s]
    dsimp only
    cases r
    · rw [if_neg (fun q => absurd q.1 (by decide)), a_b0]
      exact ⟨m, hB.1 nf m, hm, a_fm.rf, Nat.le_refl _, hp, Nat.le_refl _⟩
    · by_cases z : p < n ∧ a_lv (t p) = v
      · rw [if_pos ⟨rfl, z⟩, a_b1, hB.2.2 nf m p ht hm.2.2.2.2 z.1 z.2]
        have hm' := hm.at (p' := p + 1)
        obtain ⟨m1, a1, a2, a3, a4, a5, a6⟩ := hF _ u (K ++ D) (p + 1) hm'.1 (ht.fm hm'.2) (by omega) (by omega) (by rw [List.length_append]; omega)
        rw [a1, Option.bind_some]
        dsimp only
        cases zr : (f (p + 1)).1
        · rw [a_b0, if_pos rfl, if_neg (show ¬ (false = true) by decide), List.append_nil]
          obtain ⟨m2, b1, b2, b3, b4, b5, b6⟩ := ih nf m1 false (f (p + 1)).2.1 (D ++ (f (p + 1)).2.2) (by rw [← a_app]; exact a2) ((ht.fm hm'.2).fm a3) a5 (by omega) (by omega) (by omega) (by rw [List.length_append]; omega)
          rw [List.length_append] at b6
          exact ⟨m2, b1, b2, (hm'.2.trans a3).trans b3, by omega, b5, by omega⟩
        · rw [a_b1, if_neg (show ¬ (1 : Int32) = 0 by decide), if_pos rfl]
          obtain ⟨m3, d1, d2, d3⟩ := s_marks (v := nI (t p) - 200) a2 (by rw [List.length_append, List.length_append]; omega)
          rw [d1, Option.bind_some]
          obtain ⟨m2, b1, b2, b3, b4, b5, b6⟩ := ih nf m3 true (f (p + 1)).2.1 (D ++ (f (p + 1)).2.2 ++ [nI (t p) - 200]) (by rw [← a_app, ← a_app]; exact d2) (((ht.fm hm'.2).fm a3).fm d3) a5 (by omega) (by omega) (by omega) (by rw [List.length_append, List.length_append]; show _ + (_ + _ + 1) + _ ≤ 63; omega)
          rw [List.length_append, List.length_append] at b6
          have b6 : _ + _ ≤ D.length + (f (p + 1)).2.2.length + 1 + _ := b6
          exact ⟨m2, b1, b2, ((hm'.2.trans a3).trans d3).trans b3, by omega, b5, by omega⟩
      · rw [if_neg (fun q => z q.2), a_b1]
        exact ⟨m, hB.2.1 nf m p ht hm.2.2.2.2 hp z, hm, a_fm.rf, Nat.le_refl _, hp, Nat.le_refl _⟩
theorem s_ply {t : Nat → Nat} {n N v : Nat} {F G : q_MM → Int32 → Option (Int32 × q_MM)} {f : Nat → a_RR} {B : Nat → Int32 → q_MM → Option (Int32 × q_MM)} (hF : a_rl t n N F f) (hB : a_lpf t n v F B) (hG : ∀ m, G m (nI n) = (F m (nI n)).bind fun r => B q_fu r.1 r.2) : a_rl t n N G (a_ply t n v 61 f) := by
  intro m u K p hm ht hp hN hK
  have hfu := q_fu_le
  have hn := ht.1
  obtain ⟨m1, a1, a2, a3, a4, a5, a6⟩ := hF m u K p hm ht hp hN hK
  obtain ⟨m2, b1, b2, b3, b4, b5, b6⟩ := s_plo hF hB (K := K) 61 q_fu m1 (f p).1 (f p).2.1 (f p).2.2 a2 (ht.fm a3) a5 (by omega) (by omega) (by omega) (by omega)
  unfold a_ply
  exact ⟨m2, by rw [hG, a1, Option.bind_some]; exact b1, b2, a3.trans b3, Nat.le_trans a4 b4, b5, by have b6 : _ ≤ (f p).2.2.length + _ := b6; have b6 : (a_plo t n v f 61 (f p)).2.2.length + (f p).2.1 ≤ (f p).2.2.length + (a_plo t n v f 61 (f p)).2.1 := b6; omega⟩
/-! the five loops of the model -/
theorem s_lp5 {un sm : q_MM → Int32 → Option (Int32 × q_MM)} {t : Nat → Nat} {n : Nat} : a_lpf t n 5 (f_X12_unary un sm) (fun nf x M => b_X12_product_6 un sm nf (nI n) x M) := by
  refine ⟨fun nf M => ?_, fun nf M p ht hp hpn hz => ?_, fun nf M p ht hp hpn hz => ?_⟩
  · dsimp only
    rw [b_X12_product_6, if_pos rfl]; exact w_bl0
  · dsimp only
    rw [b_X12_product_6, if_neg (show ¬ (1 : Int32) = 0 by decide), show f_X12_isOf M (nI n) 903 = _ from s_isOf (i := 3) ht hp hpn (by decide), Option.bind_some, a_ifn (fun q => hz ⟨q.1, (a_slv _ (ht.2 p q.1).2).1.mp q.2⟩), if_pos rfl]; exact w_bl1
  · dsimp only
    have hn := ht.1
    rw [b_X12_product_6, if_neg (show ¬ (1 : Int32) = 0 by decide), show f_X12_isOf M (nI n) 903 = _ from s_isOf (i := 3) ht hp (by omega) (by decide), Option.bind_some, a_ifp ⟨hpn, (a_slv _ (ht.2 p hpn).2).1.mpr hz⟩, if_neg (show ¬ (1 : Int32) = 0 by decide), hp, w_ld (show p < 100 by omega) (by decide), (ht.2 p hpn).1, nI_1]
    rfl
theorem s_lp4 {un sm : q_MM → Int32 → Option (Int32 × q_MM)} {t : Nat → Nat} {n : Nat} : a_lpf t n 4 (f_X12_product un sm) (fun nf x M => b_X12_total_6 un sm nf (nI n) x M) := by
  refine ⟨fun nf M => ?_, fun nf M p ht hp hpn hz => ?_, fun nf M p ht hp hpn hz => ?_⟩
  · dsimp only
    rw [b_X12_total_6, if_pos rfl]; exact w_bl0
  · dsimp only
    rw [b_X12_total_6, if_neg (show ¬ (1 : Int32) = 0 by decide), show f_X12_isOf M (nI n) 904 = _ from s_isOf (i := 4) ht hp hpn (by decide), Option.bind_some, a_ifn (fun q => hz ⟨q.1, (a_slv _ (ht.2 p q.1).2).2.1.mp q.2⟩), if_pos rfl]; exact w_bl1
  · dsimp only
    have hn := ht.1
    rw [b_X12_total_6, if_neg (show ¬ (1 : Int32) = 0 by decide), show f_X12_isOf M (nI n) 904 = _ from s_isOf (i := 4) ht hp (by omega) (by decide), Option.bind_some, a_ifp ⟨hpn, (a_slv _ (ht.2 p hpn).2).2.1.mpr hz⟩, if_neg (show ¬ (1 : Int32) = 0 by decide), hp, w_ld (show p < 100 by omega) (by decide), (ht.2 p hpn).1, nI_1]
    rfl
theorem s_lp2 {un sm : q_MM → Int32 → Option (Int32 × q_MM)} {t : Nat → Nat} {n : Nat} : a_lpf t n 2 (f_X12_compared un sm) (fun nf x M => b_X12_every_6 un sm nf (nI n) x M) := by
  refine ⟨fun nf M => ?_, fun nf M p ht hp hpn hz => ?_, fun nf M p ht hp hpn hz => ?_⟩
  · dsimp only
    rw [b_X12_every_6, if_pos rfl]; exact w_bl0
  · dsimp only
    rw [b_X12_every_6, if_neg (show ¬ (1 : Int32) = 0 by decide), show f_X12_isSign M (nI n) (38 : Int32) = _ from s_isSign (s := 38) ht hp hpn (by decide), Option.bind_some, a_ifn (fun q => hz ⟨q.1, (a_slv _ (ht.2 p q.1).2).2.2.2.1.mp q.2⟩), if_pos rfl]; exact w_bl1
  · dsimp only
    have hn := ht.1
    have e := (a_slv _ (ht.2 p hpn).2).2.2.2.1.mpr hz
    rw [b_X12_every_6, if_neg (show ¬ (1 : Int32) = 0 by decide), show f_X12_isSign M (nI n) (38 : Int32) = _ from s_isSign (s := 38) ht hp (by omega) (by decide), Option.bind_some, a_ifp ⟨hpn, e⟩, if_neg (show ¬ (1 : Int32) = 0 by decide), hp, nI_1, e]
    rfl
theorem s_lp1 {un sm : q_MM → Int32 → Option (Int32 × q_MM)} {t : Nat → Nat} {n : Nat} : a_lpf t n 1 (f_X12_every un sm) (fun nf x M => b_X12_some_6 un sm nf (nI n) x M) := by
  refine ⟨fun nf M => ?_, fun nf M p ht hp hpn hz => ?_, fun nf M p ht hp hpn hz => ?_⟩
  · dsimp only
    rw [b_X12_some_6, if_pos rfl]; exact w_bl0
  · dsimp only
    rw [b_X12_some_6, if_neg (show ¬ (1 : Int32) = 0 by decide), show f_X12_isSign M (nI n) (124 : Int32) = _ from s_isSign (s := 124) ht hp hpn (by decide), Option.bind_some, a_ifn (fun q => hz ⟨q.1, (a_slv _ (ht.2 p q.1).2).2.2.2.2.mp q.2⟩), if_pos rfl]; exact w_bl1
  · dsimp only
    have hn := ht.1
    have e := (a_slv _ (ht.2 p hpn).2).2.2.2.2.mpr hz
    rw [b_X12_some_6, if_neg (show ¬ (1 : Int32) = 0 by decide), show f_X12_isSign M (nI n) (124 : Int32) = _ from s_isSign (s := 124) ht hp (by omega) (by decide), Option.bind_some, a_ifp ⟨hpn, e⟩, if_neg (show ¬ (1 : Int32) = 0 by decide), hp, nI_1, e]
    rfl
theorem s_cmp3 {un sm : q_MM → Int32 → Option (Int32 × q_MM)} {t : Nat → Nat} {n N : Nat} {f : Nat → a_RR} (hF : a_rl t n N (f_X12_total un sm) f) : a_rl t n N (f_X12_compared un sm) (a_ply t n 3 1 f) := by
  intro m u K p hm ht hp hN hK
  have hn := ht.1
  obtain ⟨m1, a1, a2, a3, a4, a5, a6⟩ := hF m u K p hm ht hp hN hK
  have ht1 := ht.fm a3
  unfold a_ply f_X12_compared b_X12_compared_58
  rw [a_plo_s, a1, Option.bind_some]
  dsimp only
  rw [w_let]
  cases zr : (f p).1
  · rw [a_b0, if_pos rfl, w_bl0, if_neg (fun q => absurd q.1 (by decide))]
    exact ⟨m1, by rw [zr]; rfl, a2, a3, a4, a5, a6⟩
  · rw [a_b1, if_neg (show ¬ (1 : Int32) = 0 by decide), show f_X12_isOf m1 (nI n) 905 = _ from s_isOf (i := 5) ht1 a2.2.2.2.2 a5 (by decide), Option.bind_some]
    by_cases z : (f p).2.1 < n ∧ a_lv (t (f p).2.1) = 3
    · have sl := (a_slv _ (ht1.2 _ z.1).2).2.2.1
      rw [a_ifp ⟨z.1, sl.mpr z.2⟩, if_neg (show ¬ (1 : Int32) = 0 by decide), if_pos ⟨rfl, z⟩, a2.2.2.2.2, w_ld (show (f p).2.1 < 100 by omega) (by decide), (ht1.2 _ z.1).1, nI_1, w_let]
      have hm' := a2.at (p' := (f p).2.1 + 1)
      obtain ⟨m2, b1, b2, b3, b4, b5, b6⟩ := hF _ u _ ((f p).2.1 + 1) hm'.1 (ht1.fm hm'.2) (by omega) (by omega) (by rw [List.length_append]; omega)
      rw [b1, Option.bind_some]
      dsimp only
      rw [w_let]
      unfold f_X12_act
      cases zr2 : (f ((f p).2.1 + 1)).1
      · rw [a_b0, if_pos rfl, w_bl0, if_neg (show ¬ (false = true) by decide), List.append_nil]
        refine ⟨m2, rfl, by show a_mk m2 u (K ++ ((f p).2.2 ++ (f ((f p).2.1 + 1)).2.2)) (f ((f p).2.1 + 1)).2.1; rw [← a_app]; exact b2, (a3.trans hm'.2).trans b3, by show p ≤ (f ((f p).2.1 + 1)).2.1; omega, b5, ?_⟩
        show ((f p).2.2 ++ (f ((f p).2.1 + 1)).2.2).length + p ≤ (f ((f p).2.1 + 1)).2.1
        rw [List.length_append]
        omega
      · rw [a_b1, if_neg (show ¬ (1 : Int32) = 0 by decide), if_pos rfl, Option.bind_some]
        obtain ⟨m3, d1, d2, d3⟩ := s_marks (v := nI (t (f p).2.1) - 200) b2 (by rw [List.length_append, List.length_append]; omega)
        rw [d1, Option.bind_some, w_bl1]
        refine ⟨m3, rfl, by show a_mk m3 u (K ++ ((f p).2.2 ++ (f ((f p).2.1 + 1)).2.2 ++ [nI (t (f p).2.1) - 200])) (f ((f p).2.1 + 1)).2.1; rw [← a_app, ← a_app]; exact d2, ((a3.trans hm'.2).trans b3).trans d3, by show p ≤ (f ((f p).2.1 + 1)).2.1; omega, b5, ?_⟩
        show ((f p).2.2 ++ (f ((f p).2.1 + 1)).2.2 ++ [nI (t (f p).2.1) - 200]).length + p ≤ (f ((f p).2.1 + 1)).2.1
        rw [List.length_append, List.length_append]
        show _ + _ + 1 + _ ≤ _
        omega
    · rw [a_ifn (fun q => z ⟨q.1, (a_slv _ (ht1.2 _ q.1).2).2.2.1.mp q.2⟩), if_pos rfl, w_bl1, if_neg (fun q => z q.2)]
      exact ⟨m1, by rw [zr]; rfl, a2, a3, a4, a5, a6⟩
theorem s_rec {t : Nat → Nat} {n : Nat} : ∀ d, a_rl t n d (q_rec d).1 (a_pr t n d).1 ∧ a_rl t n d (q_rec d).2 (a_pr t n d).2
  | 0 => ⟨fun _ _ _ _ _ _ _ h => absurd h (Nat.not_lt_zero _), fun _ _ _ _ _ _ _ h => absurd h (Nat.not_lt_zero _)⟩
  | d + 1 => by
    have ih := s_rec (t := t) (n := n) d
    have h6 := s_pun ih.1 ih.2
    have h5 : a_rl t n (d + 1) (f_X12_product (q_rec d).1 (q_rec d).2) _ := s_ply h6 s_lp5 (fun m => rfl)
    have h4 : a_rl t n (d + 1) (f_X12_total (q_rec d).1 (q_rec d).2) _ := s_ply h5 s_lp4 (fun m => rfl)
    have h3 := s_cmp3 h4
    have h2 : a_rl t n (d + 1) (f_X12_every (q_rec d).1 (q_rec d).2) _ := s_ply h3 s_lp2 (fun m => rfl)
    have h1 : a_rl t n (d + 1) (f_X12_some (q_rec d).1 (q_rec d).2) _ := s_ply h2 s_lp1 (fun m => rfl)
    exact ⟨h6, h1⟩
