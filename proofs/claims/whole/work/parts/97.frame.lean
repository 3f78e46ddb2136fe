/-! level 1: a run beside another world leaves it as it was -/
theorem q_cell_ad {K : q_KK} {ad ad' : Nat → Nat} {g : q_Mem} {o : Nat} (h : ∀ k, g.2.2.1 o k ≠ 0 → ad' (g.2.2.1 o k) = ad (g.2.2.1 o k)) : q_cell K ad' g o = q_cell K ad g o := by
  have e1 : q_arr ad' (g.2.2.1 o) = q_arr ad (g.2.2.1 o) := by
    funext i
    unfold q_arr
    by_cases z : g.2.2.1 o i = 0
    · rw [if_pos z, if_pos z]
    · rw [if_neg z, if_neg z, h i z]
  have e2 : ∀ rt, q_fs ad' (g.2.2.1 o) (g.2.2.2 o) rt = q_fs ad (g.2.2.1 o) (g.2.2.2 o) rt := fun rt => by
    unfold q_fs
    apply List.map_congr_left
    intro k _
    have : q_rf ad' (g.2.2.1 o k) = q_rf ad (g.2.2.1 o k) := by
      unfold q_rf
      by_cases z : g.2.2.1 o k = 0
      · rw [if_pos z, if_pos z]
      · rw [if_neg z, if_neg z, h k z]
    rw [this]
  unfold q_cell
  rw [e1, e2]
theorem q_Wd.re {K : q_KK} {ad ad' : Nat → Nat} {A : Nat → Prop} {g : q_Mem} {H : Heap} (hw : q_Wd K ad A g H) (h1 : ∀ o, g.1 o ≠ 0 → ad' o = ad o) (h2 : ∀ o k, g.1 o ≠ 0 → g.2.2.1 o k ≠ 0 → ad' (g.2.2.1 o k) = ad (g.2.2.1 o k)) : q_Wd K ad' A g H := by
  obtain ⟨a1, a2, a3⟩ := hw.cells
  obtain ⟨ids, w1, w2, -⟩ := hw
  refine q_Wd.mk ids w1 w2 a1 (fun o ho => ?_) (fun o o' ho ho' e => a3 o o' ho ho' (by rw [← h1 o ho, ← h1 o' ho']; exact e))
  rw [q_cell_ad (fun k hk => h2 o k ho hk), h1 o ho]
  exact a2 o ho
theorem Mt.frame {l : Launch} {y : MethodName} {b : ByteArray} {n : Nat} {ret : Option FieldType} {fr lo mc ms : Nat} {al : Bool} {K : q_KK} {av : List Value} {g g' : q_Mem} {rv : Option Value} (hM : Mt l y b n ret fr lo mc ms al K av g rv g') (h : q_Mem) (hd : ∀ o, h.1 o ≠ 0 → g.1 o = 0) (hd' : ∀ o, h.1 o ≠ 0 → g'.1 o = 0) (hr' : ∀ o k, g'.1 o ≠ 0 → h.1 (g'.2.2.1 o k) = 0) (hr : ∀ o k, h.1 o ≠ 0 → h.2.2.1 o k ≠ 0 → h.1 (h.2.2.1 o k) ≠ 0 ∨ g.1 (h.2.2.1 o k) ≠ 0 ∨ q_st (h.2.2.1 o k)) (hrv : ∀ r, rv = some (.ref r) → h.1 r = 0) : Mt l y b n ret fr lo mc ms al K av (q_un g h) rv (q_un g' h) := by
  intro ad sz p e ha hc hk s m args below hf happ hP hK
  obtain ⟨P0, P1, PW, PK, PS⟩ := hP
  have un : ∀ (g : q_Mem) o, (q_un g h).1 o ≠ 0 ↔ g.1 o ≠ 0 ∨ h.1 o ≠ 0 := fun g o => by
    show (if h.1 o ≠ 0 then h.1 o else g.1 o) ≠ 0 ↔ _
    by_cases z : h.1 o ≠ 0
    · rw [if_pos z]; exact ⟨Or.inr, fun _ => z⟩
    · rw [if_neg z]; exact ⟨Or.inl, fun q => q.elim id fun y => absurd y z⟩
  have hA : ∀ q, q_A ad g sz q → q_A ad (q_un g h) sz q := fun q z => z.elim (fun ⟨o, o1, o2⟩ => Or.inl ⟨o, (un g o).mpr (Or.inl o1), o2⟩) Or.inr
  have Wl := PW.left hd
  have Wr := PW.right
  obtain ⟨-, -, apart⟩ := PW.cells
  obtain ⟨k, o, e1, e2, e3, e4, L, e5, e6⟩ := hM ad sz p e ha hc hk s m args below hf happ ⟨P0, P1, Wl, PK, PS.to (U := s) (State.WarmedH.refl s) (fun _ _ => rfl) hA (fun _ _ _ => rfl)⟩ hK
  obtain ⟨⟨ad', x1, x2, x3⟩, F1, F2⟩ := e4
  obtain ⟨ad2, hl, hn2⟩ : ∃ ad2 : Nat → Nat, (∀ o, h.1 o ≠ 0 → ad2 o = ad o) ∧ ∀ o, h.1 o = 0 → ad2 o = ad' o := ⟨fun o => if h.1 o = 0 then ad' o else ad o, fun o ho => if_neg ho, fun o ho => if_pos ho⟩
  have fin : ∀ H', q_Wd K ad' (q_A ad g sz) g' H' → (∀ q : Nat, q < s.heap.size → ¬ q_A ad g sz q → H'[q]? = s.heap[q]?) → q_Wd K ad2 (q_A ad (q_un g h) sz) (q_un g' h) H' := fun H' x3 F2 => by
    obtain ⟨c1, c2, c3⟩ := x3.cells
    obtain ⟨d1, d2, d3⟩ := Wr.cells
    have lt : ∀ o, h.1 o ≠ 0 → ad o < sz := fun o ho => by rw [← P1]; exact (d2 o ho).1.lt
    have out : ∀ o, h.1 o ≠ 0 → ¬ q_A ad g sz (ad o) := fun o ho q => by
      rcases q with ⟨o1, q1, q2⟩ | q
      · have := apart o1 o ((un g o1).mpr (Or.inl q1)) ((un g o).mpr (Or.inr ho)) q2
        subst this
        exact q1 (hd _ ho)
      · exact absurd (lt o ho) (Nat.not_lt.mpr q)
    have z0 : ∀ o, g'.1 o ≠ 0 → h.1 o = 0 := fun o ho => by
      by_cases z : h.1 o = 0
      · exact z
      · exact absurd (hd' o z) ho
    have W1 : q_Wd K ad2 (q_A ad g sz) g' H' := x3.re (fun o ho => hn2 o (z0 o ho)) (fun o k ho _ => hn2 _ (hr' o k ho))
    have W1' : q_Wd K ad2 (q_A ad (q_un g h) sz) g' H' := by
      obtain ⟨v1, v2, v3⟩ := W1.cells
      obtain ⟨ids, w1, w2, -⟩ := W1
      exact q_Wd.mk ids w1 w2 v1 (fun o ho => ⟨(v2 o ho).1, hA _ (v2 o ho).2⟩) v3
    have W2 : q_Wd K ad (q_A ad (q_un g h) sz) h H' := by
      obtain ⟨ids, w1, w2, -⟩ := Wr
      exact q_Wd.mk ids w1 w2 d1 (fun o ho => ⟨(d2 o ho).1.kept (F2 _ (by show ad o < _; rw [P1]; exact lt o ho) (out o ho)), Or.inl ⟨o, (un g o).mpr (Or.inr ho), rfl⟩⟩) d3
    have W2' : q_Wd K ad2 (q_A ad (q_un g h) sz) h H' := W2.re (fun o ho => hl o ho) (fun o k ho hk => by
      by_cases z : h.1 (h.2.2.1 o k) = 0
      · rw [hn2 _ z]
        exact x1.1 _ ((hr o k ho hk).elim (fun q => absurd z q) id)
      · exact hl _ z)
    refine W1'.join W2' hd' (fun o o' ho ho' q => ?_)
    rw [hn2 o (z0 o ho), hl o' ho'] at q
    have := (c2 o ho).2
    rw [q] at this
    exact out o' ho' this
  refine ⟨k, o, e1, e2, e3, ⟨⟨ad2, ⟨fun o ho => ?_, fun o ho => ?_, fun z => ?_⟩, ?_, fin _ x3 F2⟩, F1, fun q q1 q2 => F2 q q1 (fun z => q2 (hA q z))⟩, L, e5, fun q hq => hA _ (e6 q hq)⟩
  · by_cases z : h.1 o = 0
    · rw [hn2 o z]
      exact x1.1 o (ho.elim (fun q => Or.inl (((un g o).mp q).elim id fun y => absurd z y)) Or.inr)
    · exact hl o z
  · exact (un g' o).mpr (((un g o).mp ho).elim (fun q => Or.inl (x1.2.1 o q)) Or.inr)
  · funext o
    by_cases y : h.1 o = 0
    · rw [hn2 o y, x1.2.2 z]
    · exact hl o y
  · rw [x2]
    cases rv with
    | none => rfl
    | some v =>
      cases v with
      | ref r =>
        have e : q_rf ad' r = q_rf ad2 r := by
          unfold q_rf
          rw [hn2 r (hrv r rfl)]
        show Outcome.returned (some (q_rf ad' r)) = Outcome.returned (some (q_rf ad2 r))
        rw [e]
      | _ => rfl
