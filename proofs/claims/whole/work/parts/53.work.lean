/-! terms at work: the heap of numbers -/
/-- the class' heap and the model's: d numbers, letters -/
def a_hp (d : Nat) (m M : q_MM) : Prop := M 30 1 = nI d ∧ d ≤ 60 ∧ (∀ j, j < d → M 80 j = m 5055 j) ∧ ∀ j, j < 12 → M 29 j = m 5056 j
def a_w30 (M M' : q_MM) : Prop := ∀ o, o ≠ 30 → o ≠ 80 → M' o = M o
def a_w55 (m m' : q_MM) : Prop := ∀ o k, o ≠ 5055 → ¬ (o = 5001 ∧ k = 48) → m' o k = m o k
theorem a_w30.rf {M : q_MM} : a_w30 M M := fun _ _ _ => rfl
theorem a_w55.rf {m : q_MM} : a_w55 m m := fun _ _ _ _ => rfl
theorem a_w30.trans {M M' M'' : q_MM} (h : a_w30 M M') (h' : a_w30 M' M'') : a_w30 M M'' := fun o a b => (h' o a b).trans (h o a b)
theorem a_w55.trans {m m' m'' : q_MM} (h : a_w55 m m') (h' : a_w55 m' m'') : a_w55 m m'' := fun o k a b => (h' o k a b).trans (h o k a b)
theorem a_w30.u2 {M M' : q_MM} {o k : Nat} {v : Int32} (h : a_w30 M M') (ho : o = 30 ∨ o = 80) : a_w30 M (q_u2 M' o k v) := fun o' a b => by
  funext k'
  rw [q_u2_ne (by omega), h o' a b]
theorem a_w55.u2 {m m' : q_MM} {k : Nat} {v : Int32} (h : a_w55 m m') : a_w55 m (q_u2 m' 5055 k v) := fun o' k' a b => by
  rw [q_u2_ne (fun z => a z.1)]
  exact h o' k' a b
theorem s_take30 {c : Nat → Nat} {M : q_MM} {d : Nat} (h : M 30 1 = nI (d + 1)) (hd : d < 60) : f_X4_take c M 30 = some (M 80 d, q_u2 M 30 1 (nI d)) := by
  unfold f_X4_take
  rw [w_ck (show qTX c 30 = 14 from rfl), h, if_pos (show 0 < nI (d + 1) from nI_lt (a := 0) (by omega) (by omega)), show (1 : Int32) = nI 1 from rfl, pk_sub (by omega), Nat.add_sub_cancel, w_let, show qPX c 30 0 = 80 from rfl, w_ck (show qTX c 80 = 1 from rfl), show qLX c 80 = 60 from rfl, q_u2_eq, w_ld (by omega) (by decide), q_u2_ne (by omega)]
theorem a_hp.push {d : Nat} {m M : q_MM} {v : Int32} (h : a_hp d m M) (hd : d < 60) : a_hp (d + 1) (q_u2 m 5055 d v) (q_u2 (q_u2 M 80 d v) 30 1 (nI (d + 1))) := by
  obtain ⟨h1, h2, h3, h4⟩ := h
  refine ⟨q_u2_eq, by omega, fun j hj => ?_, fun j hj => ?_⟩
  · rw [q_u2_ne (by omega)]
    by_cases e : j = d
    · subst e
      rw [q_u2_eq, q_u2_eq]
    · rw [q_u2_ne (by omega), q_u2_ne (by omega)]
      exact h3 j (by omega)
  · rw [q_u2_ne (by omega), q_u2_ne (by omega), q_u2_ne (by omega)]
    exact h4 j hj
def a_opI (c : Nat) : Int32 := nI c
theorem s_op {c : Nat → Nat} {m M : q_MM} {v a b : Int32} (hv : v ∈ [(-163 : Int32), -162, -158, -157, -155, -153, -140, -139, -138, -76]) : ∃ r, f_X9_joined c M (v + 200) a b = some r ∧ f_X12_acted m (v + 200) a b = some r := by
  unfold f_X9_joined f_X12_acted b_X9_joined_92 b_X12_acted_166 b_X12_acted_180 b_X12_acted_194 b_X12_acted_211 b_X12_acted_210 b_X12_acted_223 b_X12_acted_228
  simp only [b_X12_acted_211, b_X12_acted_228, s_truth0, s_truth1, Option.bind_some]
  simp only [List.mem_cons, List.not_mem_nil, or_false] at hv
  rcases hv with rfl | rfl | rfl | rfl | rfl | rfl | rfl | rfl | rfl | rfl
  all_goals
    by_cases z1 : a = 0 <;> by_cases z2 : b = 0 <;> by_cases z3 : b ≤ a <;> by_cases z4 : a ≤ b <;> by_cases z5 : a = b <;> simp [z1, z2, z3, z4, z5] <;> (try (split <;> exact ⟨_, rfl⟩))
theorem s_mark {c : Nat → Nat} {m M : q_MM} {v : Int32} {d d' : Nat} (hw : a_wfs v d d') (hv : v ≠ -300) (h : a_hp d m M) (hd' : d' ≤ 60) {x2 : Int32} {pos K : Nat} (hx : x2 = nI K) (hpos : pos < K) (hK : K ≤ 1984) (he : m 5049 pos = v) : ∃ m' M', f_X9_work c M (a_tr v) = some M' ∧ (∀ nf, b_X12_worked_5 (nf + 1) x2 (nI d) (nI pos) m = b_X12_worked_5 nf x2 (nI d') (nI (pos + 1)) m') ∧ a_hp d' m' M' ∧ a_w30 M M' ∧ a_w55 m m' := by
  obtain ⟨h1, h2, h3, h4⟩ := id h
  have start : ∀ nf, b_X12_worked_5 (nf + 1) x2 (nI d) (nI pos) m = (if v < 0 then (if v < ((-12) : Int32) then (if v = -167 then q_ld m 5055 64 (nI d - 1) fun v14 => if v14 = 0 then b_X12_worked_113 (b_X12_worked_5 nf) x2 (nI d) (nI pos) 1 (nI d - 1) 5055 m else b_X12_worked_113 (b_X12_worked_5 nf) x2 (nI d) (nI pos) 0 (nI d - 1) 5055 m else if v = -74 then q_ld m 5055 64 (nI d - 1) fun v18 => q_as m 5055 64 (nI d - 1) (-v18) fun M19 => b_X12_worked_184 (b_X12_worked_5 nf) x2 (nI d) (nI pos) M19 else q_ld m 5055 64 ((nI d + (-1)) - 1) fun v20 => q_ld m 5055 64 (nI d + (-1)) fun v21 => (f_X12_acted m (v + 200) v20 v21).bind fun r22 => q_as m 5055 64 ((nI d + (-1)) - 1) r22 fun M23 => b_X12_worked_184 (b_X12_worked_5 nf) x2 (nI d + (-1)) (nI pos) M23) else q_ld m 5056 12 (((-1) : Int32) - v) fun v24 => q_as m 5055 64 (nI d) v24 fun M25 => b_X12_worked_184 (b_X12_worked_5 nf) x2 (nI d + 1) (nI pos) M25) else q_as m 5055 64 (nI d) v fun M26 => b_X12_worked_184 (b_X12_worked_5 nf) x2 (nI d + 1) (nI pos) M26) := by
    intro nf
    rw [b_X12_worked_5, hx, if_neg (nI_ge hpos (by omega)), w_ld (by omega) (by decide), he, if_neg hv, w_ld (by omega) (by decide), he]
    rfl
  have fin : ∀ nf (e : Nat) (m' : q_MM), b_X12_worked_184 (b_X12_worked_5 nf) x2 (nI e) (nI pos) m' = b_X12_worked_5 nf x2 (nI e) (nI (pos + 1)) m' := fun nf e m' => by
    unfold b_X12_worked_184
    rw [nI_1]
  rcases hw with ⟨w1, w2, rfl⟩ | ⟨w1, w2, rfl⟩ | ⟨w1, w2, rfl⟩ | ⟨w1, w2, w3⟩ | ⟨w1, -⟩
  · have n0 : ¬ v < 0 := by rw [i_le] at w1; rw [i_lt]; omega
    refine ⟨_, _, ?_, fun nf => ?_, h.push (v := v) (by omega), (a_w30.rf.u2 (Or.inr rfl)).u2 (Or.inl rfl), a_w55.rf.u2⟩
    · unfold f_X9_work a_tr
      rw [if_pos w1, if_pos w2, if_neg n0, s_add (r := 80) (N := 60) (by decide) h1 (by omega), Option.bind_some]
    · rw [start, if_neg n0, w_as (by omega) (by decide), nI_1, fin]
  · have n0 : ¬ (0 : Int32) ≤ v := by rw [i_lt] at w1; rw [i_le]; omega
    obtain ⟨j, hj, e⟩ : ∃ j : Nat, j < 12 ∧ (-1 : Int32) - v = nI j := by
      have hlt : a_lt ((-1 : Int32) - v) 12 := by
        rw [a_lt_i (by decide)]
        rw [i_lt] at w1
        rw [i_le] at w2
        have e1 : (-1 : Int32).toInt = -1 := rfl
        have e2 : (-12 : Int32).toInt = -12 := rfl
        have e3 : (0 : Int32).toInt = 0 := rfl
        rw [fb_subI (by omega) (by omega)]
        omega
      exact hlt
    refine ⟨_, _, ?_, fun nf => ?_, h.push (v := m 5056 j) (by omega), (a_w30.rf.u2 (Or.inr rfl)).u2 (Or.inl rfl), a_w55.rf.u2⟩
    · unfold f_X9_work a_tr b_X9_work_38
      have e2 : (10000 : Int32) + (-1 - v) = nI (10000 + j) := by rw [e, show (10000 : Int32) = nI 10000 from rfl, nI_add]
      rw [if_neg n0, if_pos w2, e2, if_neg (show ¬ nI (10000 + j) < (10000 : Int32) from nI_nlt (a := 10000 + j) (b := 10000) (by omega) (by omega)), show nI (10000 + j) - (10000 : Int32) = nI j by rw [show (10000 : Int32) = nI 10000 from rfl, pk_sub (by omega), Nat.add_sub_cancel_left], if_neg (show ¬ (12 : Int32) ≤ nI j from nI_ge (a := j) (b := 12) hj (by decide)), w_ld hj (by decide), h4 j hj, w_ck (show qTX c 30 = 14 from rfl), s_add (r := 80) (N := 60) (by decide) h1 (by omega), Option.bind_some]
    · rw [start, if_pos w1, if_neg (fun q => by rw [i_lt] at q; rw [i_le] at w2; omega), e, w_ld hj (by decide), w_as (by omega) (by decide), nI_1, fin]
  · obtain ⟨e, rfl⟩ : ∃ e, d' = e + 1 := ⟨d' - 1, by omega⟩
    have em : nI (e + 1) - 1 = nI e := by rw [show (1 : Int32) = nI 1 from rfl, pk_sub (by omega), Nat.add_sub_cancel]
    have tk := s_take30 (c := c) h1 (by omega)
    have ht := h3 e (by omega)
    have hp : ∀ v', a_hp (e + 1) (q_u2 m 5055 e v') (q_u2 (q_u2 (q_u2 M 30 1 (nI e)) 80 e v') 30 1 (nI (e + 1))) := fun v' => by
      have : a_hp e m (q_u2 M 30 1 (nI e)) := ⟨q_u2_eq, by omega, fun j hj => by rw [q_u2_ne (by omega)]; exact h3 j (by omega), fun j hj => by rw [q_u2_ne (by omega)]; exact h4 j hj⟩
      exact this.push (by omega)
    have hw' : ∀ v', a_w30 M (q_u2 (q_u2 (q_u2 M 30 1 (nI e)) 80 e v') 30 1 (nI (e + 1))) := fun v' => ((a_w30.rf.u2 (Or.inl rfl)).u2 (Or.inr rfl)).u2 (Or.inl rfl)
    have ad : ∀ v', f_X4_add c (q_u2 M 30 1 (nI e)) 30 v' = some (q_u2 (q_u2 (q_u2 M 30 1 (nI e)) 80 e v') 30 1 (nI (e + 1))) := fun v' => s_add (r := 80) (N := 60) (by decide) q_u2_eq (by omega)
    rcases w1 with rfl | rfl
    · refine ⟨_, _, ?_, fun nf => ?_, hp (if m 5055 e = 0 then 1 else 0), hw' _, a_w55.rf.u2⟩
      · unfold f_X9_work b_X9_work_84
        rw [show a_tr (-167) = -33 by decide, if_pos (by decide), if_pos (by decide), if_pos rfl, tk, Option.bind_some, ht]
        by_cases z : m 5055 e = 0
        · rw [if_pos z, if_pos z, w_ck (show qTX c 30 = 14 from rfl), ad, Option.bind_some]
        · rw [if_neg z, if_neg z, w_ck (show qTX c 30 = 14 from rfl), ad, Option.bind_some]
      · rw [start, if_pos (by decide), if_pos (by decide), if_pos rfl, em, w_ld (by omega) (by decide)]
        unfold b_X12_worked_113
        by_cases z : m 5055 e = 0
        · rw [if_pos z, if_pos z, s_truth1, Option.bind_some, w_ck (show qTM 5055 = 1 from rfl), show qLM 5055 = 64 from rfl, w_as (by omega) (by decide), fin]
        · rw [if_neg z, if_neg z, s_truth0, Option.bind_some, w_ck (show qTM 5055 = 1 from rfl), show qLM 5055 = 64 from rfl, w_as (by omega) (by decide), fin]
    · refine ⟨_, _, ?_, fun nf => ?_, hp (-(m 5055 e)), hw' _, a_w55.rf.u2⟩
      · unfold f_X9_work
        rw [show a_tr (-74) = -126 by decide, if_pos (by decide), if_pos (by decide), if_neg (by decide), if_pos rfl, tk, Option.bind_some, ht, ad, Option.bind_some]
      · rw [start, if_pos (by decide), if_pos (by decide), if_neg (by decide), if_pos rfl, em, w_ld (by omega) (by decide), w_as (by omega) (by decide), fin]
  · obtain ⟨e, rfl⟩ : ∃ e, d = e + 2 := ⟨d - 2, by omega⟩
    have : d' = e + 1 := by omega
    subst this
    have tk1 := s_take30 (c := c) (d := e + 1) h1 (by omega)
    have tk2 := s_take30 (c := c) (M := q_u2 M 30 1 (nI (e + 1))) (d := e) q_u2_eq (by omega)
    have g0 := h3 e (by omega)
    have g1 := h3 (e + 1) (by omega)
    rw [q_u2_ne (M := M) (by omega), g0] at tk2
    rw [g1] at tk1
    obtain ⟨r, r1, r2⟩ := s_op (c := c) (m := m) (M := q_u2 (q_u2 M 30 1 (nI (e + 1))) 30 1 (nI e)) (a := m 5055 e) (b := m 5055 (e + 1)) w1
    have neg : v < 0 ∧ v < -12 ∧ v ≠ -167 ∧ v ≠ -74 ∧ ¬ a_tr v = -33 ∧ ¬ a_tr v = -126 ∧ a_tr v < 0 ∧ a_tr v < 10000 ∧ -(a_tr v) = v + 200 := by
      simp only [List.mem_cons, List.not_mem_nil, or_false] at w1
      rcases w1 with rfl | rfl | rfl | rfl | rfl | rfl | rfl | rfl | rfl | rfl <;> decide
    obtain ⟨n1, n2, n3, n4, n5, n6, n7, n8, n9⟩ := neg
    have hp : a_hp (e + 1) (q_u2 m 5055 e r) (q_u2 (q_u2 (q_u2 (q_u2 M 30 1 (nI (e + 1))) 30 1 (nI e)) 80 e r) 30 1 (nI (e + 1))) := by
      have : a_hp e m (q_u2 (q_u2 M 30 1 (nI (e + 1))) 30 1 (nI e)) := ⟨q_u2_eq, by omega, fun j hj => by rw [q_u2_ne (by omega), q_u2_ne (by omega)]; exact h3 j (by omega), fun j hj => by rw [q_u2_ne (by omega), q_u2_ne (by omega)]; exact h4 j hj⟩
      exact this.push (by omega)
    refine ⟨_, _, ?_, fun nf => ?_, hp, (((a_w30.rf.u2 (Or.inl rfl)).u2 (Or.inl rfl)).u2 (Or.inr rfl)).u2 (Or.inl rfl), a_w55.rf.u2⟩
    · unfold f_X9_work
      rw [if_pos n8, if_pos n7, if_neg n5, if_neg n6, tk1, Option.bind_some, w_let, tk2, Option.bind_some, n9, r1, Option.bind_some, s_add (r := 80) (N := 60) (by decide) q_u2_eq (by omega), Option.bind_some]
    · have e1 : nI (e + 2) + (-1) = nI (e + 1) := pk_m1 (e + 1)
      have e2 : nI (e + 1) - 1 = nI e := by rw [show (1 : Int32) = nI 1 from rfl, pk_sub (by omega), Nat.add_sub_cancel]
      rw [start, if_pos n1, if_pos n2, if_neg n3, if_neg n4, e1, e2, w_ld (by omega) (by decide), w_ld (by omega) (by decide), r2, Option.bind_some, w_as (by omega) (by decide), fin]
  · exact absurd w1 hv
