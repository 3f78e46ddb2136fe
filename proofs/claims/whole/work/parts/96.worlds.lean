/-! level 1: two worlds side by side -/
def q_un (g h : q_Mem) : q_Mem := (fun o => if h.1 o ≠ 0 then h.1 o else g.1 o, fun o => if h.1 o ≠ 0 then h.2.1 o else g.2.1 o, fun o => if h.1 o ≠ 0 then h.2.2.1 o else g.2.2.1 o, fun o => if h.1 o ≠ 0 then h.2.2.2 o else g.2.2.2 o)
theorem q_un_l {K : q_KK} {ad : Nat → Nat} {g h : q_Mem} {o : Nat} (ho : h.1 o = 0) : q_cell K ad (q_un g h) o = q_cell K ad g o := by
  unfold q_cell q_un
  simp only [ho, ne_eq, not_true_eq_false, if_false]
theorem q_un_r {K : q_KK} {ad : Nat → Nat} {g h : q_Mem} {o : Nat} (ho : h.1 o ≠ 0) : q_cell K ad (q_un g h) o = q_cell K ad h o := by
  unfold q_cell q_un
  simp only [ho, ne_eq, not_false_eq_true, if_true]
/-- a world by its cells: each is on the heap, and no two lie at one address -/
theorem q_Wd.cells {K : q_KK} {ad : Nat → Nat} {A : Nat → Prop} {g : q_Mem} {H : Heap} (hw : q_Wd K ad A g H) : g.1 0 = 0 ∧ (∀ o, g.1 o ≠ 0 → va_at K.1 q_classes (ad o, q_cell K ad g o) H ∧ A (ad o)) ∧ ∀ o o', g.1 o ≠ 0 → g.1 o' ≠ 0 → ad o = ad o' → o = o' := by
  obtain ⟨ids, w1, w2, w3, w4, w5, w6⟩ := hw
  have pl : ∀ o, g.1 o ≠ 0 → ∃ k : Nat, ids[k]? = some o ∧ (q_ws K ad g ids)[k]? = some (ad o, q_cell K ad g o) := fun o ho => q_ws_at ((w2 o).mp ho)
  refine ⟨?_, fun o ho => ?_, fun o o' ho ho' e => ?_⟩
  · by_cases z : g.1 0 = 0
    · exact z
    · exact absurd ((w2 0).mp z) w3
  · obtain ⟨k, -, k2⟩ := pl o ho
    exact ⟨w4 k _ k2, w6 k (ad o, q_cell K ad g o) k2⟩
  · obtain ⟨k, k1, k2⟩ := pl o ho
    obtain ⟨k', j1, j2⟩ := pl o' ho'
    have := w5 k k' _ _ k2 j2 e
    subst this
    exact Option.some.inj (k1.symm.trans j1)
theorem q_Wd.mk {K : q_KK} {ad : Nat → Nat} {A : Nat → Prop} {g : q_Mem} {H : Heap} (ids : List Nat) (w1 : ids.Nodup) (w2 : ∀ o, g.1 o ≠ 0 ↔ o ∈ ids) (h0 : g.1 0 = 0) (hc : ∀ o, g.1 o ≠ 0 → va_at K.1 q_classes (ad o, q_cell K ad g o) H ∧ A (ad o)) (hd : ∀ o o', g.1 o ≠ 0 → g.1 o' ≠ 0 → ad o = ad o' → o = o') : q_Wd K ad A g H := by
  have at' : ∀ (k : Nat) (q : Nat × va_E), (q_ws K ad g ids)[k]? = some q → ∃ o, g.1 o ≠ 0 ∧ ids[k]? = some o ∧ q = (ad o, q_cell K ad g o) := fun k q hk => by
    unfold q_ws at hk
    rw [List.getElem?_map] at hk
    cases e : ids[k]? with
    | none => rw [e] at hk; cases hk
    | some o =>
      rw [e] at hk
      cases hk
      exact ⟨o, (w2 o).mpr (List.mem_of_getElem? e), rfl, rfl⟩
  refine ⟨ids, w1, w2, fun q => (w2 0).mpr q h0, fun k q hk => ?_, fun i j p q hp hq e => ?_, fun k q hk => ?_⟩
  · obtain ⟨o, o1, -, rfl⟩ := at' k q hk
    exact (hc o o1).1
  · obtain ⟨o, o1, o2, rfl⟩ := at' i p hp
    obtain ⟨o', q1, q2, rfl⟩ := at' j q hq
    have := hd o o' o1 q1 e
    subst this
    exact (List.getElem?_inj (List.getElem?_eq_some_iff.mp o2).1 w1).mp (o2.trans q2.symm)
  · obtain ⟨o, o1, -, rfl⟩ := at' k q hk
    exact (hc o o1).2
/-- the left one of two worlds; the right one; both together -/
theorem q_Wd.left {K : q_KK} {ad : Nat → Nat} {A : Nat → Prop} {g h : q_Mem} {H : Heap} (hw : q_Wd K ad A (q_un g h) H) (hd : ∀ o, h.1 o ≠ 0 → g.1 o = 0) : q_Wd K ad A g H := by
  obtain ⟨a1, a2, a3⟩ := hw.cells
  obtain ⟨ids, w1, w2, -⟩ := hw
  have un : ∀ o, g.1 o ≠ 0 → (q_un g h).1 o ≠ 0 ∧ h.1 o = 0 := fun o ho => by
    have z : h.1 o = 0 := by
      by_cases z : h.1 o = 0
      · exact z
      · exact absurd (hd o z) ho
    exact ⟨by unfold q_un; simp only [z, ne_eq, not_true_eq_false, if_false]; exact ho, z⟩
  refine q_Wd.mk (ids.filter fun o => g.1 o != 0) (w1.filter _) (fun o => ?_) ?_ (fun o ho => ?_) (fun o o' ho ho' e => a3 o o' (un o ho).1 (un o' ho').1 e)
  · rw [List.mem_filter]
    constructor
    · exact fun ho => ⟨(w2 o).mp (un o ho).1, by simpa using ho⟩
    · exact fun q => by simpa using q.2
  · by_cases z : g.1 0 = 0
    · exact z
    · exact absurd a1 (un 0 z).1
  · rw [← q_un_l (h := h) (un o ho).2]
    exact a2 o (un o ho).1
theorem q_Wd.right {K : q_KK} {ad : Nat → Nat} {A : Nat → Prop} {g h : q_Mem} {H : Heap} (hw : q_Wd K ad A (q_un g h) H) : q_Wd K ad A h H := by
  obtain ⟨a1, a2, a3⟩ := hw.cells
  obtain ⟨ids, w1, w2, -⟩ := hw
  have un : ∀ o, h.1 o ≠ 0 → (q_un g h).1 o ≠ 0 := fun o ho => by
    unfold q_un; simp only [ho, ne_eq, not_false_eq_true, if_true]
  refine q_Wd.mk (ids.filter fun o => h.1 o != 0) (w1.filter _) (fun o => ?_) ?_ (fun o ho => ?_) (fun o o' ho ho' e => a3 o o' (un o ho) (un o' ho') e)
  · rw [List.mem_filter]
    constructor
    · exact fun ho => ⟨(w2 o).mp (un o ho), by simpa using ho⟩
    · exact fun q => by simpa using q.2
  · by_cases z : h.1 0 = 0
    · exact z
    · exact absurd a1 (un 0 z)
  · rw [← q_un_r (g := g) ho]
    exact a2 o (un o ho)
theorem q_Wd.join {K : q_KK} {ad : Nat → Nat} {A : Nat → Prop} {g h : q_Mem} {H : Heap} (hg : q_Wd K ad A g H) (hh : q_Wd K ad A h H) (hd : ∀ o, h.1 o ≠ 0 → g.1 o = 0) (hap : ∀ o o', g.1 o ≠ 0 → h.1 o' ≠ 0 → ad o ≠ ad o') : q_Wd K ad A (q_un g h) H := by
  obtain ⟨a1, a2, a3⟩ := hg.cells
  obtain ⟨b1, b2, b3⟩ := hh.cells
  obtain ⟨ids, w1, w2, -⟩ := hg
  obtain ⟨jds, v1, v2, -⟩ := hh
  have e : ∀ o, (q_un g h).1 o = if h.1 o ≠ 0 then h.1 o else g.1 o := fun _ => rfl
  have un : ∀ o, (q_un g h).1 o ≠ 0 ↔ g.1 o ≠ 0 ∨ h.1 o ≠ 0 := fun o => by
    rw [e]
    by_cases z : h.1 o ≠ 0
    · rw [if_pos z]; exact ⟨Or.inr, fun _ => z⟩
    · rw [if_neg z]; exact ⟨Or.inl, fun q => q.elim id fun y => absurd y z⟩
  refine q_Wd.mk (ids ++ jds) ?_ (fun o => ?_) ?_ (fun o ho => ?_) (fun o o' ho ho' q => ?_)
  · rw [List.nodup_append]
    exact ⟨w1, v1, fun a ha b hb q => by subst q; exact absurd (hd a ((v2 a).mpr hb)) ((w2 a).mpr ha)⟩
  · rw [un, List.mem_append, w2, v2]
  · rw [e, if_neg (fun q => q b1)]; exact a1
  · by_cases z : h.1 o ≠ 0
    · rw [q_un_r z]
      exact b2 o z
    · have z : h.1 o = 0 := Classical.not_not.mp z
      rw [q_un_l z]
      exact a2 o (((un o).mp ho).elim id fun y => absurd z y)
  · rcases (un o).mp ho with x | x <;> rcases (un o').mp ho' with y | y
    · exact a3 o o' x y q
    · exact absurd q (hap o o' x y)
    · exact absurd q.symm (hap o' o y x)
    · exact b3 o o' x y q
