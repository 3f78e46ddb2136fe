/-! level 1: the frame rule for methods that may throw -/
theorem q_un_ne {g h : q_Mem} {o : Nat} : (q_un g h).1 o ≠ 0 ↔ g.1 o ≠ 0 ∨ h.1 o ≠ 0 := by
  show (if h.1 o ≠ 0 then h.1 o else g.1 o) ≠ 0 ↔ _
  by_cases z : h.1 o ≠ 0
  · rw [if_pos z]; exact ⟨Or.inr, fun _ => z⟩
  · rw [if_neg z]; exact ⟨Or.inl, fun q => q.elim id fun y => absurd y z⟩
theorem q_frame_core {K : q_KK} {al : Bool} {ad ad' : Nat → Nat} {g g' h : q_Mem} {H H' : Heap} {sz : Nat} (PW : q_Wd K ad (fun _ => True) (q_un g h) H) (hsz : H.size = sz) (x1 : q_ext al ad ad' g g') (x3 : q_Wd K ad' (q_A ad g sz) g' H') (F2 : ∀ q : Nat, q < H.size → ¬ q_A ad g sz q → H'[q]? = H[q]?) (hd : ∀ o, h.1 o ≠ 0 → g.1 o = 0) (hd' : ∀ o, h.1 o ≠ 0 → g'.1 o = 0) (hr' : ∀ o k, g'.1 o ≠ 0 → h.1 (g'.2.2.1 o k) = 0) (hr : ∀ o k, h.1 o ≠ 0 → h.2.2.1 o k ≠ 0 → h.1 (h.2.2.1 o k) ≠ 0 ∨ g.1 (h.2.2.1 o k) ≠ 0 ∨ q_st (h.2.2.1 o k)) : ∃ ad2 : Nat → Nat, q_ext al ad ad2 (q_un g h) (q_un g' h) ∧ q_Wd K ad2 (q_A ad (q_un g h) sz) (q_un g' h) H' ∧ ∀ r, h.1 r = 0 → ad2 r = ad' r := by
  have hA : ∀ q, q_A ad g sz q → q_A ad (q_un g h) sz q := fun q z => z.elim (fun ⟨o, o1, o2⟩ => Or.inl ⟨o, q_un_ne.mpr (Or.inl o1), o2⟩) Or.inr
  have Wr := PW.right
  obtain ⟨-, -, apart⟩ := PW.cells
  obtain ⟨ad2, hl, hn2⟩ : ∃ ad2 : Nat → Nat, (∀ o, h.1 o ≠ 0 → ad2 o = ad o) ∧ ∀ o, h.1 o = 0 → ad2 o = ad' o := ⟨fun o => if h.1 o = 0 then ad' o else ad o, fun o ho => if_neg ho, fun o ho => if_pos ho⟩
  obtain ⟨c1, c2, c3⟩ := x3.cells
  obtain ⟨d1, d2, d3⟩ := Wr.cells
  have lt : ∀ o, h.1 o ≠ 0 → ad o < sz := fun o ho => by rw [← hsz]; exact (d2 o ho).1.lt
  have out : ∀ o, h.1 o ≠ 0 → ¬ q_A ad g sz (ad o) := fun o ho q => by
    rcases q with ⟨o1, q1, q2⟩ | q
    · have := apart o1 o (q_un_ne.mpr (Or.inl q1)) (q_un_ne.mpr (Or.inr ho)) q2
      subst this
      exact q1 (hd _ ho)
    · exact absurd (lt o ho) (Nat.not_lt.mpr q)
  have z0 : ∀ o, g'.1 o ≠ 0 → h.1 o = 0 := fun o ho => by
    by_cases z : h.1 o = 0
    · exact z
    · exact absurd (hd' o z) ho
  have W1 : q_Wd K ad2 (q_A ad g sz) g' H' := x3.re (fun o ho => hn2 o (z0 o ho)) (fun o k ho _ => hn2 _ (hr' o k ho))
  have W1' : q_Wd K ad2 (q_A ad (q_un g h) sz) g' H' := by
    obtain ⟨v1, v2, v3⟩ := W1.cells
    obtain ⟨ids, w1, w2, -⟩ := W1
    exact q_Wd.mk ids w1 w2 v1 (fun o ho => ⟨(v2 o ho).1, hA _ (v2 o ho).2⟩) v3
  have W2 : q_Wd K ad (q_A ad (q_un g h) sz) h H' := by
    obtain ⟨ids, w1, w2, -⟩ := Wr
    exact q_Wd.mk ids w1 w2 d1 (fun o ho => ⟨(d2 o ho).1.kept (F2 _ (by show ad o < _; rw [hsz]; exact lt o ho) (out o ho)), Or.inl ⟨o, q_un_ne.mpr (Or.inr ho), rfl⟩⟩) d3
  have W2' : q_Wd K ad2 (q_A ad (q_un g h) sz) h H' := W2.re (fun o ho => hl o ho) (fun o k ho hk => by
    by_cases z : h.1 (h.2.2.1 o k) = 0
    · rw [hn2 _ z]
      exact x1.1 _ ((hr o k ho hk).elim (fun q => absurd z q) id)
    · exact hl _ z)
  refine ⟨ad2, ⟨fun o ho => ?_, fun o ho => ?_, fun z => ?_⟩, W1'.join W2' hd' (fun o o' ho ho' q => ?_), hn2⟩
  · by_cases z : h.1 o = 0
    · rw [hn2 o z]
      exact x1.1 o (ho.elim (fun q => Or.inl ((q_un_ne.mp q).elim id fun y => absurd z y)) Or.inr)
    · exact hl o z
  · exact q_un_ne.mpr ((q_un_ne.mp ho).elim (fun q => Or.inl (x1.2.1 o q)) Or.inr)
  · funext o
    by_cases y : h.1 o = 0
    · rw [hn2 o y, x1.2.2 z]
    · exact hl o y
  · rw [hn2 o (z0 o ho), hl o' ho'] at q
    have := (c2 o ho).2
    rw [q] at this
    exact out o' ho' this
theorem XMt.frame {l : Launch} {y : MethodName} {b : ByteArray} {n fr lo mc ms : Nat} {K : q_KK} {av : List Value} {g g' : q_Mem} {rv : Option Int32} (hM : XMt l y b n fr lo mc ms K av g rv g') (h : q_Mem) (hd : ∀ o, h.1 o ≠ 0 → g.1 o = 0) (hd' : ∀ o, h.1 o ≠ 0 → g'.1 o = 0) (hr' : ∀ o k, g'.1 o ≠ 0 → h.1 (g'.2.2.1 o k) = 0) (hr : ∀ o k, h.1 o ≠ 0 → h.2.2.1 o k ≠ 0 → h.1 (h.2.2.1 o k) ≠ 0 ∨ g.1 (h.2.2.1 o k) ≠ 0 ∨ q_st (h.2.2.1 o k)) : XMt l y b n fr lo mc ms K av (q_un g h) rv (q_un g' h) := by
  intro ad sz p e ha hc hk s m args below hf happ hP hK
  obtain ⟨P0, P1, PW, PK, PS, PT⟩ := hP
  have hA : ∀ q, q_A ad g sz q → q_A ad (q_un g h) sz q := fun q z => z.elim (fun ⟨o, o1, o2⟩ => Or.inl ⟨o, q_un_ne.mpr (Or.inl o1), o2⟩) Or.inr
  have Wl := PW.left hd
  obtain ⟨k, o, e1, e2, e3, e4⟩ := hM ad sz p e ha hc hk s m args below hf happ ⟨P0, P1, Wl, PK, PS.to (U := s) (State.WarmedH.refl s) (fun _ _ => rfl) hA (fun _ _ _ => rfl), PT.to (U := s) (State.WarmedH.refl s) hA (fun _ _ _ => rfl)⟩ hK
  refine ⟨k, o, e1, e2, e3, ?_⟩
  rcases e4 with ⟨⟨v, hv, ⟨ad', x1, x2, x3⟩, F1, F2⟩, L, e5, e6⟩ | ⟨q, ho, E, ce, L, ⟨hn, hE, ⟨ad', x1, x3⟩, F1, F2⟩, hce, hcv, hcl, hW, hs, hL⟩
  · obtain ⟨ad2, y1, y2, -⟩ := q_frame_core PW P1 x1 x3 F2 hd hd' hr' hr
    exact Or.inl ⟨⟨v, hv, ⟨ad2, y1, x2, y2⟩, F1, fun q q1 q2 => F2 q q1 (fun z => q2 (hA q z))⟩, L, e5, fun q hq => hA _ (e6 q hq)⟩
  · obtain ⟨ad2, y1, y2, -⟩ := q_frame_core PW P1 x1 x3 F2 hd hd' hr' hr
    exact Or.inr ⟨q, ho, E, ce, L, ⟨hn, hE, ⟨ad2, y1, y2⟩, F1, fun q q1 q2 => F2 q q1 (fun z => q2 (hA q z))⟩, hce, hcv, hcl, hW, hs, fun q hq => hA _ (hL q hq)⟩
