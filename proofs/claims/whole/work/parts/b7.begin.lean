/-! the law's entry: what the premises give of the world -/
def q_fl : List Cond := flatC (Jvm.Cond.and given_1 narrow_1)
def q_tm (i : Nat) : Term := ([Term.string "GalleryWalls$Terms" 25, Term.string "GalleryWallsModel" 218, Term.string "GalleryWallsModel" 209, Term.string "GalleryWallsModel" 229, Term.string "GalleryWallsModel" 234, Term.string "GalleryWallsModel" 239] : List Term).getD i (Term.int 0)
theorem q_tm1 : ∀ i, i < 6 → Cond.exactly (q_tm i) "java/lang/String" ∈ q_fl := by decide +kernel
theorem q_tm2 : ∀ i, i < 6 → Cond.eq (.field (q_tm i) "java/lang/String" "coder" "B") (.int 0) ∈ q_fl := by decide +kernel
theorem q_tm3 : ∀ i, i < 6 → Cond.arrayOf (.field (q_tm i) "java/lang/String" "value" "[B") .byte ∈ q_fl := by decide +kernel
theorem q_tm4 : ∀ i, i < 6 → Cond.eq (.length (.field (q_tm i) "java/lang/String" "value" "[B")) (.int (Int32.ofNat (q_len.getD i 0))) ∈ q_fl := by decide +kernel
theorem q_tm5 : ∀ i, i < 6 → ∀ j, j < q_len.getD i 0 → Cond.eq (.elem (.field (q_tm i) "java/lang/String" "value" "[B") (.int (Int32.ofNat j))) (.int ((q_byt.getD i []).getD j 0)) ∈ q_fl := by decide +kernel
theorem q_tm6 : ∀ i, i < 6 → ∀ j, j < 6 → i = j ∨ Cond.not (Cond.eq (q_tm i) (q_tm j)) ∈ q_fl ∨ Cond.not (Cond.eq (q_tm j) (q_tm i)) ∈ q_fl := by decide +kernel
theorem q_strw : ∀ t ∈ q_strs, Cond.stringRef t.1 t.2.1 t.2.2.1 ∈ lw_tbl := by decide +kernel
theorem q_stre : ∀ t ∈ q_strs, t.2.2.2 < 6 ∧ (Term.string t.1 t.2.1 = q_tm t.2.2.2 ∨ Cond.eq (q_tm t.2.2.2) (Term.string t.1 t.2.1) ∈ q_fl ∨ Cond.eq (Term.string t.1 t.2.1) (q_tm t.2.2.2) ∈ q_fl) := by decide +kernel
theorem q_cstw : ∀ x ∈ q_csts, Cond.castable x.1 x.2 ∈ lw_tbl := by decide +kernel
theorem q_nestw : ∀ x ∈ q_nests, Cond.methodLinkNest x.1 x.2.1 x.2.2.1 x.2.2.2 ∈ lw_tbl := by decide +kernel
theorem q_dclw : ∀ y ∈ q_dcl, Cond.declares y ∈ lw_tbl := by decide +kernel
theorem q_begin {p : Program} {s : State} {m : MethodId} {meth : Method} {c : Code} {b L : Nat} {xs : Nat → Int32} (C0 : lw_At p s m meth c b L xs) : ∃ ad : Nat → Nat, ad 960 = b ∧ q_Sc ad (fun q => s.heap.size ≤ q) s s.heap ∧ q_Tz (fun q => s.heap.size ≤ q) s s.heap := by
  obtain ⟨hx, hb, hr, hml, hown, hts, hX, hbl, hlocks, hgv⟩ := C0
  have hs : ∀ w ∈ q_fl, w.before #[Value.ref b] s = true := flat_of_before _ hgv
  have hA : ∀ a : Nat, a < s.heap.size → ¬ (fun q => s.heap.size ≤ q) a := fun a h => Nat.not_le.mpr h
  have nw : ∀ {w : Cond}, w.onTables = true → w ∈ lw_tbl → va_Nw w s := fun h1 h2 => va_tabs h1 rfl (hts _ h2)
  obtain ⟨adK, adV, kS, kE⟩ := vk_Sof (args := #[Value.ref b]) (s := s) (N := 6) (tm := q_tm) (len := q_len) (byt := q_byt) (A := fun q => s.heap.size ≤ q) (by decide +kernel) (fun i hi => hs _ (q_tm1 i hi)) (fun i hi => hs _ (q_tm2 i hi)) (fun i hi => hs _ (q_tm3 i hi)) (fun i hi => hs _ (q_tm4 i hi)) (fun i hi j hj => hs _ (q_tm5 i hi j hj)) (fun i j hi hj hne => (q_tm6 i hi j hj).elim (fun e => absurd e hne) (fun h => h.elim (fun h => Or.inl (hs _ h)) (fun h => Or.inr (hs _ h)))) hA
  obtain ⟨e9, t9, T9⟩ := va_Tof (args := #[Value.ref b]) (s := s) (tm := .static "java/util/ArrayList" "DEFAULTCAPACITY_EMPTY_ELEMENTDATA" "[Ljava/lang/Object;") (ty := .object "java/lang/Object") (N := 0) (f := fun _ => .null) (A := fun q => s.heap.size ≤ q) (by decide) (hs _ (by decide +kernel)) (va_eqt (hs _ (by decide +kernel))) (fun j hj => absurd hj (Nat.not_lt_zero j)) hA
  obtain ⟨mi, hmi⟩ := va_Mi.of (args := #[Value.ref b]) (s := s) (C := "[Ljava/lang/Object;") (hs _ (by decide +kernel))
  obtain ⟨ad, had⟩ : ∃ ad : Nat → Nat, ad = fun o => if 900 ≤ o ∧ o < 906 then adK (o - 900) else if 920 ≤ o ∧ o < 926 then adV (o - 920) else if o = 940 then e9 else if o = 950 then mi else if o = 960 then b else 0 := ⟨_, rfl⟩
  have aK : ∀ i, i < 6 → ad (900 + i) = adK i := fun i hi => by rw [had]; show (if _ then _ else _) = _; rw [if_pos ⟨by omega, by omega⟩, Nat.add_sub_cancel_left]
  have aV : ∀ i, i < 6 → ad (920 + i) = adV i := fun i hi => by rw [had]; show (if _ then _ else _) = _; rw [if_neg (by omega), if_pos ⟨by omega, by omega⟩, Nat.add_sub_cancel_left]
  have a940 : ad 940 = e9 := by rw [had]; rfl
  have a950 : ad 950 = mi := by rw [had]; rfl
  have a960 : ad 960 = b := by rw [had]; rfl
  refine ⟨ad, a960, ⟨⟨fun i hi => ?_, fun i j hi hj e => ?_⟩, fun t ht => ?_, ?_, ?_, by rw [a940]; exact T9, va_AO.of (hts (.arrayOver (.object "java/lang/Object")) (by decide +kernel)), by rw [a950]; exact hmi, nw rfl (by decide +kernel), fun x hx => nw rfl (q_cstw x hx), fun x hx => nw rfl (q_nestw x hx)⟩, ?_, ?_, fun y hy => nw rfl (q_dclw y hy), nw rfl (by decide +kernel)⟩
  · show va_O _ (ad (900 + i)) _ _ _ ∧ va_OF _ _ _ _ (ad (900 + i)) _ _ _ ∧ va_OF _ _ _ (.ref (ad (920 + i))) (ad (900 + i)) _ _ _ ∧ va_T _ (ad (920 + i)) _ _ _ _ _
    rw [aK i hi, aV i hi]
    exact kS.1 i hi
  · have e : ad (900 + i) = ad (900 + j) := e
    rw [aK i hi, aK j hj] at e
    exact kS.2 i j hi hj e
  · obtain ⟨q1, q2⟩ := q_stre t ht
    refine ⟨?_, q1⟩
    have ev : (Term.string t.1 t.2.1).eval #[Value.ref b] s none [] s = some (.ref (ad (900 + t.2.2.2))) := by
      rw [aK _ q1]
      rcases q2 with q2 | q2 | q2
      · rw [q2]; exact kE _ q1
      · exact va_eqR (hs _ q2) (kE _ q1)
      · exact va_eqv (hs _ q2) (kE _ q1)
    exact vk_R.of (hts _ (q_strw t ht)) ev
  · exact va_Zof (hts _ (by decide +kernel)) (hts _ (by decide +kernel)) (va_eqt (hs _ (by decide +kernel))) hA
  · rw [a940]
    exact va_Zof (hts _ (by decide +kernel)) (hts _ (by decide +kernel)) t9 hA
  · exact vx_Zqof (hts _ (by decide +kernel)) (hts _ (by decide +kernel)) (hs _ (by decide +kernel)) hA
  · exact vx_Zqof (hts _ (by decide +kernel)) (hts _ (by decide +kernel)) (hs _ (by decide +kernel)) hA
theorem q_known {p : Program} {s : State} {m : MethodId} {meth : Method} {c : Code} {b L : Nat} {xs : Nat → Int32} (C0 : lw_At p s m meth c b L xs) : ∃ K : q_KK, va_K K.1 q_classes (q_tys K) s := by
  obtain ⟨hx, hb, hr, hml, hown, hts, hX, hbl, hlocks, hgv⟩ := C0
  have sub : ∀ {w : Cond}, w ∈ q_gtb → w ∈ lw_tbl := fun h => (List.mem_filter.mp h).1
  have k : ∀ (C : String) (T : u_T) (N n : Nat), (∀ w ∈ u_ws C T N, w ∈ q_gtb) → Cond.instantiable C n ∈ lw_tbl → ∃ r : ClassId × (Nat → Nat), u_Kn s C T N r.1 r.2 := fun C T N n h1 h2 => by
    obtain ⟨cC, iS, h⟩ := u_known (ws := lw_tbl) hts (fun w hw => sub (h1 w hw)) (hts _ h2)
    exact ⟨(cC, iS), h⟩
  have all : ∀ j : Nat, ∃ r : ClassId × (Nat → Nat), ∀ q : vw_C, q_classes[j]? = some q → u_Kn s q.1 q.2.1 q.2.2 r.1 r.2 := fun j => by
    match j with
    | 0 => obtain ⟨r, h⟩ := k RX0 TX0 4 4 in_X0 (by decide +kernel); exact ⟨r, fun q hq => by cases hq; exact h⟩
    | 1 => obtain ⟨r, h⟩ := k RX1 TX1 2 2 in_X1 (by decide +kernel); exact ⟨r, fun q hq => by cases hq; exact h⟩
    | 2 => obtain ⟨r, h⟩ := k RX2 TX2 13 13 in_X2 (by decide +kernel); exact ⟨r, fun q hq => by cases hq; exact h⟩
    | 3 => obtain ⟨r, h⟩ := k RX3 TX3 8 8 in_X3 (by decide +kernel); exact ⟨r, fun q hq => by cases hq; exact h⟩
    | 4 => obtain ⟨r, h⟩ := k RX4 TX4 2 2 in_X4 (by decide +kernel); exact ⟨r, fun q hq => by cases hq; exact h⟩
    | 5 => obtain ⟨r, h⟩ := k RX5 TX5 14 14 in_X5 (by decide +kernel); exact ⟨r, fun q hq => by cases hq; exact h⟩
    | 6 => obtain ⟨r, h⟩ := k RX6 TX6 8 8 in_X6 (by decide +kernel); exact ⟨r, fun q hq => by cases hq; exact h⟩
    | 7 => obtain ⟨r, h⟩ := k RX7 TX7 3 3 in_X7 (by decide +kernel); exact ⟨r, fun q hq => by cases hq; exact h⟩
    | 8 => obtain ⟨r, h⟩ := k RX8 TX8 5 5 in_X8 (by decide +kernel); exact ⟨r, fun q hq => by cases hq; exact h⟩
    | 9 => obtain ⟨r, h⟩ := k RX9 TX9 5 5 in_X9 (by decide +kernel); exact ⟨r, fun q hq => by cases hq; exact h⟩
    | 10 => obtain ⟨r, h⟩ := k RX10 TX10 9 9 in_X10 (by decide +kernel); exact ⟨r, fun q hq => by cases hq; exact h⟩
    | 11 => obtain ⟨r, h⟩ := k RX11 TX11 11 11 in_X11 (by decide +kernel); exact ⟨r, fun q hq => by cases hq; exact h⟩
    | 12 => obtain ⟨r, h⟩ := k RX12 TX12 77 77 in_X12 (by decide +kernel); exact ⟨r, fun q hq => by cases hq; exact h⟩
    | 13 => obtain ⟨r, h⟩ := k RJx4a65c TJx4a65c 3 3 in_Jx4a65c (by decide +kernel); exact ⟨r, fun q hq => by cases hq; exact h⟩
    | j + 14 => exact ⟨(0, fun _ => 0), fun q hq => by simp [q_classes] at hq⟩
  obtain ⟨f, hf⟩ := Classical.axiomOfChoice all
  have arr : ∀ ty : FieldType, (∀ C, ty ≠ .object C) → Cond.arrayClass ty ∈ lw_tbl → ∃ cA : ClassId, ArrOfT s cA ty ∧ s.vm.findClass ("[" ++ ty.toString) = some cA := fun ty hn h => by
    obtain ⟨cA, kA, comp, h1, h2, h3⟩ := Cond.arrayClass_spec (hts _ h)
    exact ⟨cA, fun n z => ⟨(fun k h => by cases h), kA, h2, comp, h3⟩, h1⟩
  obtain ⟨cI, i1, i2⟩ := arr .int (fun C h => by cases h) (by decide +kernel)
  obtain ⟨cZ, z1, z2⟩ := arr .boolean (fun C h => by cases h) (by decide +kernel)
  obtain ⟨cJ, j1, j2⟩ := arr .long (fun C h => by cases h) (by decide +kernel)
  obtain ⟨comp, cO, kO, o1, o2, o3, o4, o5⟩ := Cond.arrayOver_spec (hts (.arrayOver (.object "java/lang/Object")) (by decide +kernel))
  refine ⟨((fun j => (f j).1, fun j => (f j).2), cI, cZ, cO, cJ), fun j q hq => hf j q hq, fun j q hq => ?_⟩
  match j, hq with
  | 0, hq => cases hq; exact ⟨i1, i2⟩
  | 1, hq => cases hq; exact ⟨z1, z2⟩
  | 2, hq => cases hq; exact ⟨fun n z => ⟨(fun k h => by cases h), kO, o3, comp, o4⟩, kO, comp, o3, o4, o1, o5⟩
  | 3, hq => cases hq; exact ⟨j1, j2⟩
  | j + 4, hq => simp [q_tys] at hq
