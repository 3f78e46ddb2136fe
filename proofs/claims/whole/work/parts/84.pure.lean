/-! term: the class' steps along the model's readings -/
def a_run (t : Nat → Nat) : Nat → a_S → Nat → Option a_S
  | 0, S, _ => some S
  | k + 1, S, p => (a_run t k S p).bind fun S' => a_stp S' (t (p + k))
def a_go (t : Nat → Nat) (p : Nat) (S : a_S) (q : Nat) (S' : a_S) : Prop := ∃ k, q = p + k ∧ a_run t k S p = some S'
theorem a_go.rf {t : Nat → Nat} {p : Nat} {S : a_S} : a_go t p S p S := ⟨0, rfl, rfl⟩
theorem a_go.st {t : Nat → Nat} {p q : Nat} {S S' S'' : a_S} (h : a_go t p S q S') (e : a_stp S' (t q) = some S'') : a_go t p S (q + 1) S'' := by
  obtain ⟨k, rfl, h⟩ := h
  exact ⟨k + 1, rfl, by rw [a_run, h, Option.bind_some]; exact e⟩
theorem a_run_tr {t : Nat → Nat} {p k : Nat} {S S' : a_S} (h : a_run t k S p = some S') : ∀ j, a_run t (k + j) S p = a_run t j S' (p + k)
  | 0 => h
  | j + 1 => by
    rw [← Nat.add_assoc, a_run, a_run, a_run_tr h j, Nat.add_assoc]
theorem a_go.tr {t : Nat → Nat} {p q r : Nat} {S S' S'' : a_S} (h : a_go t p S q S') (h' : a_go t q S' r S'') : a_go t p S r S'' := by
  obtain ⟨k, rfl, h⟩ := h
  obtain ⟨j, rfl, h'⟩ := h'
  exact ⟨k + j, by omega, by rw [a_run_tr h]; exact h'⟩
/-- marks that add one to the heap -/
def a_cha : List Int32 → Nat → Nat → Prop
  | [], d, d' => d = d'
  | x :: D, d, d' => ∃ e, a_wfs x d e ∧ a_cha D e d'
theorem a_cha_app : ∀ {D E : List Int32} {d e f : Nat}, a_cha D d e → a_cha E e f → a_cha (D ++ E) d f
  | [], E, d, e, f, h, h' => by
    have h : d = e := h
    rw [h]; exact h'
  | x :: D, E, d, e, f, h, h' => by
    obtain ⟨g, h1, h2⟩ := h
    exact ⟨g, h1, a_cha_app h2 h'⟩
theorem a_ch1 {x : Int32} {d e : Nat} (h : a_wfs x d e) : a_cha [x] d e := ⟨e, h, rfl⟩
def a_ng (x : Nat) : Int32 := -(nI x)
/-- unloading -/
theorem a_ul_all {v : Nat} {W : List Nat} (hW : a_lv (W.headD 40) < v) : ∀ (P : List Nat) (C : List Int32), (∀ x ∈ P, v ≤ a_lv x) → a_ul v C (P ++ W) = (C ++ P.map a_ng, W)
  | [], C, _ => by
    rw [List.nil_append, List.map_nil, List.append_nil]
    cases W with
    | nil => rfl
    | cons y W => rw [a_ul_c, if_neg (show ¬ v ≤ a_lv y from Nat.not_le.mpr hW)]
  | x :: P, C, h => by
    rw [List.cons_append, a_ul_c, if_pos (h x List.mem_cons_self), a_ul_all hW P _ (fun y hy => h y (List.mem_cons_of_mem _ hy)), a_app]
    rfl
theorem a_ul_two {v : Nat} {W : List Nat} (hW : a_lv (W.headD 40) < v) : ∀ (P : List Nat) (C : List Int32), (∀ x ∈ P, v ≤ a_lv x) → a_ul v (a_ul (v + 1) C (P ++ W)).1 (a_ul (v + 1) C (P ++ W)).2 = (C ++ P.map a_ng, W)
  | [], C, h => by
    have e := a_ul_all (v := v + 1) (W := W) (Nat.lt_succ_of_lt hW) [] C (fun _ q => by cases q)
    rw [e]
    dsimp only
    rw [List.map_nil, List.append_nil, List.nil_append] at *
    have e2 := a_ul_all hW [] C (fun _ q => by cases q)
    rw [List.map_nil, List.append_nil, List.nil_append] at e2
    exact e2
  | x :: P, C, h => by
    rw [List.cons_append, a_ul_c]
    by_cases z : v + 1 ≤ a_lv x
    · rw [if_pos z, a_ul_two hW P _ (fun y hy => h y (List.mem_cons_of_mem _ hy)), a_app]
      rfl
    · rw [if_neg z]
      dsimp only
      rw [← List.cons_append]
      exact a_ul_all hW (x :: P) C h
theorem a_ul_top {x : Nat} {W : List Nat} (hx : a_lv x = 3) : ∀ (P : List Nat) (C : List Int32), (∀ y ∈ P, 4 ≤ a_lv y) → (a_ul 4 C (P ++ x :: W)).2 = x :: W
  | [], C, _ => by
    rw [List.nil_append, a_ul_c, if_neg (by omega)]
  | y :: P, C, h => by
    rw [List.cons_append, a_ul_c, if_pos (h y List.mem_cons_self)]
    exact a_ul_top hx P _ (fun z hz => h z (List.mem_cons_of_mem _ hz))
theorem a_opt : ∀ s, s < 256 → 1 ≤ a_lv s ∧ a_lv s ≤ 5 → ¬ (48 ≤ s ∧ s ≤ 57) ∧ s ≠ 41 ∧ s ≠ 59 ∧ nI s - 200 ∈ [(-163 : Int32), -162, -158, -157, -155, -153, -140, -139, -138, -76] ∧ a_tr (nI s - 200) = -(nI s) := by decide +kernel
theorem a_stp_op {C : List Int32} {P W : List Nat} {d o s v : Nat} (hs : s < 256) (hv : 1 ≤ v ∧ v ≤ 5) (e : a_lv s = v) (hW : a_lv (W.headD 40) < v) (hP : ∀ x ∈ P, v ≤ a_lv x) (h3 : v = 3 → ∀ x ∈ P, 4 ≤ a_lv x) : a_stp (C, P ++ W, false, d, o) s = some (C ++ P.map a_ng, s :: W, true, 0, o) := by
  obtain ⟨o1, o2, o3, -⟩ := a_opt s hs (by omega)
  unfold a_stp
  dsimp only
  rw [if_neg (show ¬ (false = true) by decide), if_neg o1, if_neg o2, if_neg o3, if_neg (by omega), e, a_ul_two hW P C hP]
  rw [if_neg]
  rintro ⟨q1, q2⟩
  have := a_ul_all (v := 4) (W := W) (by omega) P C (h3 q1)
  rw [this] at q2
  dsimp only at q2
  omega
def a_ex (v : Nat) (P : List Nat) (d s : Nat) : Prop := (48 ≤ s ∧ s ≤ 57 → d = 0 ∨ 4 ≤ d) ∧ (¬ (v ≤ a_lv s ∧ a_lv s ≤ 5) ∨ (a_lv s = 3 ∧ ∃ P1 x P2, P = P1 ++ x :: P2 ∧ (∀ y ∈ P1, 4 ≤ a_lv y) ∧ a_lv x = 3))
theorem a_ex.ap {v : Nat} {P P2 : List Nat} {d s : Nat} (h : a_ex v P d s) : a_ex v (P ++ P2) d s := by
  refine ⟨h.1, ?_⟩
  rcases h.2 with q | ⟨q, P1, x, P3, e, q2, q3⟩
  · exact Or.inl q
  · exact Or.inr ⟨q, P1, x, P3 ++ P2, by rw [e, List.append_assoc]; rfl, q2, q3⟩
theorem a_ex.dn {v : Nat} {P : List Nat} {d s : Nat} (h : a_ex (v + 1) P d s) (hv : a_lv s ≠ v) : a_ex v P d s := by
  refine ⟨h.1, ?_⟩
  rcases h.2 with q | q
  · exact Or.inl (by omega)
  · exact Or.inr q
theorem a_ex.d3 {P : List Nat} {d s x : Nat} (h : a_ex 4 P d s) (hP : ∀ y ∈ P, 4 ≤ a_lv y) (hx : a_lv x = 3) : a_ex 3 (P ++ [x]) d s := by
  refine ⟨h.1, ?_⟩
  by_cases z : a_lv s = 3
  · exact Or.inr ⟨z, P, x, [], rfl, hP, hx⟩
  · rcases h.2 with q | q
    · exact Or.inl (by omega)
    · exact absurd q.1 z
theorem a_stp_no {C : List Int32} {P W : List Nat} {d o s : Nat} (h : a_ex 1 P d s) (h41 : s = 41 → o = 0) (h59 : s = 59 → o ≠ 0) : a_stp (C, P ++ W, false, d, o) s = none := by
  unfold a_stp
  dsimp only
  rw [if_neg (show ¬ (false = true) by decide)]
  by_cases z : 48 ≤ s ∧ s ≤ 57
  · rw [if_pos z, if_pos]
    rcases h.1 z with q | q <;> omega
  · rw [if_neg z]
    by_cases z1 : s = 41
    · rw [if_pos z1, if_pos (h41 z1)]
    · rw [if_neg z1]
      by_cases z2 : s = 59
      · rw [if_pos z2, if_neg (h59 z2)]
      · rw [if_neg z2]
        rcases h.2 with q | ⟨q, P1, x, P2, e, q2, q3⟩
        · rw [if_pos (by omega)]
        · rw [if_neg (by omega), if_pos]
          refine ⟨q, ?_⟩
          rw [e, List.append_assoc, List.cons_append, a_ul_top q3 P1 C q2]
          exact q3
/-- how a reading ends, for the class -/
def a_gdd (t : Nat → Nat) (n v : Nat) (C : List Int32) (W : List Nat) (o p : Nat) (r : Bool) (q : Nat) (D : List Int32) (vx : Nat) : Prop := (r = true → ∃ C2 P d, a_go t p (C, W, true, 0, o) q (C2, P ++ W, false, d, o) ∧ C2 ++ P.map a_ng = C ++ D.map a_tr ∧ (∀ x ∈ P, v ≤ a_lv x) ∧ (∀ e, a_cha D e (e + 1)) ∧ (q < n → a_ex vx P d (t q))) ∧ (r = false → ∃ S, a_go t p (C, W, true, 0, o) q S ∧ (q = n → S.2.2.1 = true ∨ 0 < S.2.2.2.2) ∧ (q < n → a_stp S (t q) = none))
def a_rg2 (t : Nat → Nat) (n N v : Nat) (f : Nat → a_RR) : Prop := ∀ p, p ≤ n → n - p < N → p ≤ (f p).2.1 ∧ (f p).2.1 ≤ n ∧ ∀ C W o, (v ≤ 5 → a_lv (W.headD 40) < v) → a_gdd t n v C W o p (f p).1 (f p).2.1 (f p).2.2 v
theorem a_gdd.no {t : Nat → Nat} {n v v' : Nat} {C C' : List Int32} {W W' : List Nat} {o o' p p' : Nat} {q : Nat} {D D' : List Int32} {vx vx' : Nat} (h : a_gdd t n v C W o p false q D vx) (g : a_go t p' (C', W', true, 0, o') p (C, W, true, 0, o)) : a_gdd t n v' C' W' o' p' false q D' vx' := by
  refine ⟨fun q => (by cases q), fun _ => ?_⟩
  obtain ⟨S, a1, a2⟩ := h.2 rfl
  exact ⟨S, g.tr a1, a2⟩
theorem a_wf2 {s e : Nat} (hs : s < 256) (h : 1 ≤ a_lv s ∧ a_lv s ≤ 5) : a_wfs (nI s - 200) (e + 2) (e + 1) := Or.inr (Or.inr (Or.inr (Or.inl ⟨(a_opt s hs h).2.2.2.1, by omega, rfl⟩)))
/-- an operator and what follows it -/
theorem a_gdd.op {t : Nat → Nat} {n v : Nat} {C : List Int32} {W : List Nat} {o p q q1 : Nat} {r1 : Bool} {D D1 : List Int32} {vx w : Nat} (hs : t q < 256) (hv : 1 ≤ v ∧ v ≤ 5) (e : a_lv (t q) = v) (hW : a_lv (W.headD 40) < v) {C2 : List Int32} {P : List Nat} {d : Nat} (h1 : a_go t p (C, W, true, 0, o) q (C2, P ++ W, false, d, o)) (h2 : C2 ++ P.map a_ng = C ++ D.map a_tr) (h3 : ∀ x ∈ P, v ≤ a_lv x) (h3' : v = 3 → ∀ x ∈ P, 4 ≤ a_lv x) (h4 : ∀ e, a_cha D e (e + 1)) (hw : v ≤ w) (hg : a_gdd t n w (C ++ D.map a_tr) (t q :: W) o (q + 1) r1 q1 D1 vx) : (r1 = true → ∃ C2 P d, a_go t p (C, W, true, 0, o) q1 (C2, (P ++ [t q]) ++ W, false, d, o) ∧ C2 ++ (P ++ [t q]).map a_ng = C ++ (D ++ D1 ++ [nI (t q) - 200]).map a_tr ∧ (∀ x ∈ P, w ≤ a_lv x) ∧ (∀ e, a_cha (D ++ D1 ++ [nI (t q) - 200]) e (e + 1)) ∧ (q1 < n → a_ex vx P d (t q1))) ∧ (r1 = false → ∀ D2 v2 vx2, a_gdd t n v2 C W o p false q1 D2 vx2) := by
  have st := a_stp_op (C := C2) (d := d) (o := o) hs hv e hW h3 h3'
  rw [h2] at st
  have g := h1.st st
  refine ⟨fun hr => ?_, fun hr D2 v2 vx2 => ?_⟩
  · subst hr
    obtain ⟨C3, P3, d3, a1, a2, a3, a4, a5⟩ := hg.1 rfl
    refine ⟨C3, P3, d3, ?_, ?_, a3, fun e' => ?_, a5⟩
    · rw [List.append_assoc]
      exact g.tr a1
    · rw [List.map_append, List.map_append, List.map_append, ← a_app, a2, a_app, a_app, a_app]
      congr 3
      show [a_ng (t q)] = [a_tr (nI (t q) - 200)]
      rw [(a_opt _ hs (by omega)).2.2.2.2]
      rfl
    · exact a_cha_app (a_cha_app (h4 e') (a4 (e' + 1))) (a_ch1 (a_wf2 hs (by omega)))
  · subst hr
    exact hg.no g
theorem a_plo_g {t : Nat → Nat} {n N v : Nat} {f : Nat → a_RR} (ht : ∀ j, j < n → t j < 256) (hv : 1 ≤ v ∧ v ≤ 5) (v3 : v ≠ 3) (hf : a_rg2 t n N (v + 1) f) {C : List Int32} {W : List Nat} {o p : Nat} (hW : a_lv (W.headD 40) < v) : ∀ (k : Nat) (r : Bool) (q : Nat) (D : List Int32), q ≤ n → n - q ≤ N → n - q < k → a_gdd t n v C W o p r q D (v + 1) → a_gdd t n v C W o p (a_plo t n v f k (r, q, D)).1 (a_plo t n v f k (r, q, D)).2.1 (a_plo t n v f k (r, q, D)).2.2 v := by
  intro k
  induction k with
  | zero => intro r q D _ _ h; exact absurd h (Nat.not_lt_zero _)
  | succ k ih =>
    intro r q D hq hN hk hg
    rw [a_plo_s]
    dsimp only
    cases r
    · rw [if_neg (fun z => absurd z.1 (by decide))]
      exact hg.no a_go.rf
    · obtain ⟨C2, P, d, h1, h2, h3, h4, h5⟩ := hg.1 rfl
      by_cases z : q < n ∧ a_lv (t q) = v
      · rw [if_pos ⟨rfl, z⟩]
        obtain ⟨b1, b2, b3⟩ := hf (q + 1) (by omega) (by omega)
        have b3 := b3 (C ++ D.map a_tr) (t q :: W) o (fun _ => by show a_lv (t q) < v + 1; omega)
        obtain ⟨g1, g2⟩ := a_gdd.op (ht q z.1) hv z.2 hW h1 h2 h3 (fun q => absurd q v3) h4 (Nat.le_succ v) b3
        refine ih _ _ _ b2 (by omega) (by omega) ?_
        cases zr : (f (q + 1)).1
        · exact g2 zr _ _ _
        · refine ⟨fun _ => ?_, fun q => by cases q⟩
          obtain ⟨C3, P3, d3, a1, a2, a3, a4, a5⟩ := g1 zr
          rw [if_pos rfl]
          refine ⟨C3, P3 ++ [t q], d3, a1, a2, fun x hx => ?_, a4, fun hn => (a5 hn).ap⟩
          rcases List.mem_append.mp hx with y | y
          · have := a3 x y
            omega
          · rw [List.mem_singleton.mp y]
            omega
      · rw [if_neg (fun y => z y.2)]
        refine ⟨fun _ => ⟨C2, P, d, h1, h2, h3, h4, fun hn => (h5 hn).dn (fun y => z ⟨hn, y⟩)⟩, fun q => by cases q⟩
theorem a_plo_le {t : Nat → Nat} {n N v : Nat} {f : Nat → a_RR} (hf : ∀ p, p ≤ n → n - p < N → p ≤ (f p).2.1 ∧ (f p).2.1 ≤ n) : ∀ (k : Nat) (r : Bool) (q : Nat) (D : List Int32), q ≤ n → n - q ≤ N → q ≤ (a_plo t n v f k (r, q, D)).2.1 ∧ (a_plo t n v f k (r, q, D)).2.1 ≤ n := by
  intro k
  induction k with
  | zero => intro r q D h _; exact ⟨Nat.le_refl _, h⟩
  | succ k ih =>
    intro r q D hq hN
    rw [a_plo_s]
    dsimp only
    by_cases z : r = true ∧ q < n ∧ a_lv (t q) = v
    · rw [if_pos z]
      obtain ⟨b1, b2⟩ := hf (q + 1) (by omega) (by omega)
      obtain ⟨b3, b4⟩ := ih (f (q + 1)).1 (f (q + 1)).2.1 (D ++ (f (q + 1)).2.2 ++ (if (f (q + 1)).1 = true then [nI (t q) - 200] else [])) b2 (by omega)
      exact ⟨by omega, b4⟩
    · rw [if_neg z]
      exact ⟨Nat.le_refl _, hq⟩
theorem a_gdd.wk {t : Nat → Nat} {n v : Nat} {C : List Int32} {W : List Nat} {o p : Nat} {r : Bool} {q : Nat} {D : List Int32} {vx : Nat} (h : a_gdd t n (v + 1) C W o p r q D vx) : a_gdd t n v C W o p r q D vx := ⟨fun hr => by
  obtain ⟨C2, P, d, h1, h2, h3, h4, h5⟩ := h.1 hr
  exact ⟨C2, P, d, h1, h2, fun x hx => by have := h3 x hx; omega, h4, h5⟩, h.2⟩
theorem a_ply_g {t : Nat → Nat} {n N v : Nat} {f : Nat → a_RR} (ht : ∀ j, j < n → t j < 256) (hn : n ≤ 60) (hv : 1 ≤ v ∧ v ≤ 5) (v3 : v ≠ 3) (hf : a_rg2 t n N (v + 1) f) : a_rg2 t n N v (a_ply t n v 61 f) := by
  intro p hp hN
  obtain ⟨b1, b2, b3⟩ := hf p hp hN
  obtain ⟨l1, l2⟩ := a_plo_le (t := t) (v := v) (fun p hp hN => ⟨(hf p hp hN).1, (hf p hp hN).2.1⟩) 61 (f p).1 (f p).2.1 (f p).2.2 b2 (by omega)
  refine ⟨Nat.le_trans b1 l1, l2, fun C W o hW => ?_⟩
  exact a_plo_g ht hv v3 hf (hW hv.2) 61 (f p).1 (f p).2.1 (f p).2.2 b2 (by omega) (by omega) (b3 C W o (fun _ => Nat.lt_succ_of_lt (hW hv.2))).wk
theorem a_cmp_g {t : Nat → Nat} {n N : Nat} {f : Nat → a_RR} (ht : ∀ j, j < n → t j < 256) (hf : a_rg2 t n N 4 f) : a_rg2 t n N 3 (a_ply t n 3 1 f) := by
  intro p hp hN
  obtain ⟨b1, b2, b3⟩ := hf p hp hN
  obtain ⟨l1, l2⟩ := a_plo_le (t := t) (v := 3) (fun p hp hN => ⟨(hf p hp hN).1, (hf p hp hN).2.1⟩) 1 (f p).1 (f p).2.1 (f p).2.2 b2 (by omega)
  refine ⟨Nat.le_trans b1 l1, l2, fun C W o hW => ?_⟩
  have hW := hW (by decide)
  have b3 := b3 C W o (fun _ => Nat.lt_succ_of_lt hW)
  unfold a_ply
  rw [a_plo_s]
  cases zr : (f p).1
  · rw [if_neg (fun z => absurd z.1 (by decide)), zr]
    rw [zr] at b3
    exact b3.no a_go.rf
  · rw [zr] at b3
    obtain ⟨C2, P, d, h1, h2, h3, h4, h5⟩ := b3.1 rfl
    by_cases z : (f p).2.1 < n ∧ a_lv (t (f p).2.1) = 3
    · rw [if_pos ⟨rfl, z⟩]
      obtain ⟨d1, d2, d3⟩ := hf ((f p).2.1 + 1) (by omega) (by omega)
      have d3 := d3 (C ++ (f p).2.2.map a_tr) (t (f p).2.1 :: W) o (fun _ => by show a_lv (t (f p).2.1) < 4; omega)
      obtain ⟨g1, g2⟩ := a_gdd.op (ht _ z.1) (by omega) z.2 hW h1 h2 (fun x hx => by have := h3 x hx; omega) (fun _ => h3) h4 (Nat.le_succ 3) d3
      show a_gdd t n 3 C W o p (f ((f p).2.1 + 1)).1 (f ((f p).2.1 + 1)).2.1 ((f p).2.2 ++ (f ((f p).2.1 + 1)).2.2 ++ (if (f ((f p).2.1 + 1)).1 = true then [nI (t (f p).2.1) - 200] else [])) 3
      cases zr : (f ((f p).2.1 + 1)).1
      · exact g2 zr _ _ _
      · refine ⟨fun _ => ?_, fun q => by cases q⟩
        obtain ⟨C3, P3, d3, a1, a2, a3, a4, a5⟩ := g1 zr
        rw [if_pos rfl]
        refine ⟨C3, P3 ++ [t (f p).2.1], d3, a1, a2, fun x hx => ?_, a4, fun hn => (a5 hn).d3 a3 z.2⟩
        rcases List.mem_append.mp hx with y | y
        · have := a3 x y
          omega
        · rw [List.mem_singleton.mp y]
          omega
    · rw [if_neg (fun y => z y.2), zr]
      exact ⟨fun _ => ⟨C2, P, d, h1, h2, fun x hx => by have := h3 x hx; omega, h4, fun hn => (h5 hn).dn (fun y => z ⟨hn, y⟩)⟩, fun q => by cases q⟩
