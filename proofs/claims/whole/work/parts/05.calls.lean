/-- the cells that a call may change -/
def q_A (ad : Nat → Nat) (g : q_Mem) (sz : Nat) : Nat → Prop := fun q => (∃ o, g.1 o ≠ 0 ∧ ad o = q) ∨ sz ≤ q
def q_Qc (K : q_KK) (al : Bool) (ad : Nat → Nat) (g : q_Mem) (rv : Option Value) (g' : q_Mem) (A : Nat → Prop) : Array Value → State → Outcome → State → Prop := fun _ st o t =>
  (∃ ad' : Nat → Nat, q_ext al ad ad' g g' ∧ o = .returned (rv.map (q_tr ad')) ∧ q_Wd K ad' A g' t.heap) ∧ va_F A st t
def q_Pc (K : q_KK) (ad : Nat → Nat) (g : q_Mem) (sz : Nat) (av : List Value) : Array Value → State → Prop :=
  va_Pc (av.map (q_tr ad)) (fun U => U.heap.size = sz ∧ q_Wd K ad (fun _ => True) g U.heap ∧ va_K K.1 q_classes (q_tys K) U ∧ q_Sc ad (q_A ad g sz) U U.heap)
/-- one run of a method: from these arguments and this memory to that answer and that memory -/
def Mt (l : Launch) (y : MethodName) (b : ByteArray) (n : Nat) (ret : Option FieldType) (fr lo mc ms : Nat) (al : Bool) (K : q_KK) (av : List Value) (g : q_Mem) (rv : Option Value) (g' : q_Mem) : Prop :=
  ∀ (ad : Nat → Nat) (sz : Nat), Met l y (Cond.code y b n ret :: q_gtb) { frames := fr, cells := mc, slots := ms, locals := lo } (q_Pc K ad g sz av) (q_Qc K al ad g rv g' (q_A ad g sz)) mc ms (q_A ad g sz)
theorem q_Pc_blind {K : q_KK} {ad : Nat → Nat} {g : q_Mem} {sz : Nat} {av : List Value} : FrameBlind (q_Pc K ad g sz av) := fun a U g mk q => by
  obtain ⟨q0, q1, qP, qK, qS⟩ := q
  exact ⟨q0, q1, qP, va_K.moved (u := U) (U := U.calling g mk a) (Vm.Alike.refl U.vm) qK, qS.to (U := U.calling g mk a) (State.WarmedH.refl U) (fun _ _ => rfl) (fun _ h => h) (fun _ _ _ => rfl)⟩
theorem q_Wd.weak {K : q_KK} {ad : Nat → Nat} {A B : Nat → Prop} {g : q_Mem} {H : Heap} (h : q_Wd K ad A g H) (hB : ∀ o, g.1 o ≠ 0 → B (ad o)) : q_Wd K ad B g H := by
  obtain ⟨ids, hn, hi, h0, hP, hD⟩ := h
  refine ⟨ids, hn, hi, h0, hP, hD.1, fun k q hk => ?_⟩
  obtain ⟨o, ho, rfl⟩ := List.mem_map.mp (List.mem_of_getElem? hk)
  exact hB o ((hi o).mpr ho)
theorem q_Wd.A {K : q_KK} {ad : Nat → Nat} {A : Nat → Prop} {g : q_Mem} {H : Heap} (h : q_Wd K ad A g H) {o : Nat} (ho : g.1 o ≠ 0) : A (ad o) := by
  obtain ⟨ids, hn, hi, h0, hP, hD⟩ := h
  obtain ⟨q0, -, e1⟩ := q_ws_at (K := K) (ad := ad) (g := g) ((hi o).mp ho)
  exact hD.2 q0 _ e1
theorem q_ext.rf {al : Bool} {ad : Nat → Nat} {g : q_Mem} : q_ext al ad ad g g := ⟨fun _ _ => rfl, fun _ h => h, fun _ => rfl⟩
theorem q_ext.trans {al al2 : Bool} {ad ad' ad'' : Nat → Nat} {g g' g'' : q_Mem} (h1 : q_ext al ad ad' g g') (h2 : q_ext al2 ad' ad'' g' g'') (ha : al2 = true → al = true) : q_ext al ad ad'' g g'' :=
  ⟨fun o h => (h2.1 o (h.imp (h1.2.1 o) id)).trans (h1.1 o h), fun o h => h2.2.1 o (h1.2.1 o h), fun h => (h2.2.2 (by cases al2 with | false => rfl | true => rw [ha rfl] at h; cases h)).trans (h1.2.2 h)⟩
theorem q_sl_len (ad : Nat → Nat) (av : List Value) : (lg_sl (av.map (q_tr ad))).length = (lg_sl av).length := by
  unfold lg_sl
  induction av with
  | nil => rfl
  | cons v vs ih =>
    simp only [List.map_cons, List.flatMap_cons, List.length_append, q_tr_cat, ih]
    split <;> rfl
theorem q_args_lm (ad : Nat → Nat) (av : List Value) : ∀ i : Nat, lv_args i (av.map (q_tr ad)) = q_lm ad (lv_args i av) := by
  induction av with
  | nil => intro i; rfl
  | cons v vs ih =>
    intro i
    simp only [List.map_cons, lv_args, q_tr_cat, ih, q_lm]
/-- a method out of its program -/
theorem Mt.of {ρ : Type} {l : Launch} {y : MethodName} {b : ByteArray} {n : Nat} {ret : Option FieldType} {fr lo mc ms : Nat} {al : Bool} {K : q_KK} {av : List Value} {g : q_Mem} {F : Option ρ} (rvf : ρ → Option Value) (gf : ρ → q_Mem)
    (hy : plainName y.cls = true) (hN : (lg_sl av).length ≤ n)
    (hbody : ∀ (p : Program) (e : Env) (s : State) (m : MethodId) (args : Array Value) (below : List Frame) (meth : Method) (c : Code) (A : Nat → Prop) (ad : Nat → Nat), q_X p s m args meth c K A ad n b y.cls ret → meth.name = y.name →
      GG p l e { frames := fr, cells := mc, slots := ms, locals := lo } s m args below meth c K A g ad al n (fun res => MQ below (q_Qc K al ad g (rvf res) (gf res) A) args s mc ms A) F 0 (lv_args 0 av) [] g 0 0) :
    ∀ res, F = some res → Mt l y b n ret fr lo mc ms al K av g (rvf res) (gf res) := by
  intro res hF ad sz
  refine Met.ofW (cc := b) (maxL := n) (ret := ret) hy rfl ?_
  intro p e s m args below meth c s₁ B hml hv
  obtain ⟨rfl, hsz, hW, hK, hSc⟩ := hv
  subst hsz
  have hts := atoms_spec (ws := Cond.code y b n ret :: q_gtb) B.pre
  have hown : s.vm.findClass y.cls = some m.cls := findClass_of_methodNamed B.named
  have X : q_X p s m (av.map (q_tr ad)).toArray meth c K (q_A ad g s.heap.size) ad n b y.cls ret := ⟨B.exec, B.bytes, hml, hown, fun w h => hts w (List.mem_cons_of_mem _ h), hK, fun q h => Or.inr h, B.returns, B.notSynchronized, hSc⟩
  have h := hbody p e s m _ below meth c _ ad X (name_of_methodNamed B.named B.method).1 res hF ad s.heap [] (entryFrame m (av.map (q_tr ad)).toArray n).locals q_ext.rf (hW.weak fun o ho => Or.inl ⟨o, ho, rfl⟩) va_S.rf ?_
  · exact h
  · rw [lg_entry_eq, ← q_args_lm]
    exact lv_entry (av.map (q_tr ad)) (n := n) (by rw [q_sl_len]; exact hN)
/-- what the tables say of a call's place: virtual, static, constructors, constructors of nest mates -/
def q_LV (own : String) (idx : Nat) (ci : Nat) (y : MethodName) (b : ByteArray) (n : Nat) (ret : Option FieldType) (na : Nat) : Prop :=
  (∃ (C : String) (T : u_T) (N : Nat), q_classes[ci]? = some (C, T, N) ∧ y.cls = C) ∧ Cond.methodLink own idx y ∈ q_gtb ∧ Cond.instanceMethod y ∈ q_gtb ∧ Cond.selects y.cls y y ∈ q_gtb ∧ Cond.initialized y.cls ∈ q_gtb ∧ Cond.code y b n ret ∈ q_gtb ∧ (y.cls ≠ "java/lang/invoke/MethodHandle" ∧ y.cls ≠ "java/lang/invoke/VarHandle") ∧ (parseMethodDescriptor y.desc).map (fun d => d.parameters.length) = some na
def q_LS (own : String) (idx : Nat) (y : MethodName) (b : ByteArray) (n : Nat) (ret : Option FieldType) (na : Nat) : Prop :=
  Cond.methodLink own idx y ∈ q_gtb ∧ Cond.static y ∈ q_gtb ∧ Cond.initialized y.cls ∈ q_gtb ∧ Cond.code y b n ret ∈ q_gtb ∧ (y.cls ≠ "java/lang/invoke/MethodHandle" ∧ y.cls ≠ "java/lang/invoke/VarHandle") ∧ (parseMethodDescriptor y.desc).map (fun d => d.parameters.length) = some na
def q_LI (own : String) (idx : Nat) (y : MethodName) (b : ByteArray) (n : Nat) (na : Nat) : Prop :=
  Cond.methodLink own idx y ∈ q_gtb ∧ Cond.instanceMethod y ∈ q_gtb ∧ y.name = "<init>" ∧ Cond.initialized y.cls ∈ q_gtb ∧ Cond.code y b n none ∈ q_gtb ∧ (y.cls ≠ "java/lang/invoke/MethodHandle" ∧ y.cls ≠ "java/lang/invoke/VarHandle") ∧ (parseMethodDescriptor y.desc).map (fun d => d.parameters.length) = some na
theorem q_good {y : MethodName} {b : ByteArray} {n : Nat} {ret : Option FieldType} (h : Cond.code y b n ret ∈ q_gtb) : GoodIn q_gtb (Cond.code y b n ret :: q_gtb) := by
  intro w hw
  have hm : w ∈ q_gtb := by
    rcases List.mem_cons.mp hw with rfl | hw
    · exact h
    · exact hw
  exact ⟨hm, good_of_word (List.all_eq_true.mp q_gtb_good w hm)⟩
/-- values that name cells that are there -/
def q_ok (g : q_Mem) : Value → Prop
  | .ref r => r = 0 ∨ g.1 r ≠ 0 ∨ q_st r
  | _ => True
theorem q_ok.tr {ad ad' : Nat → Nat} {g g' : q_Mem} {al : Bool} (h : q_ext al ad ad' g g') : ∀ {v : Value}, q_ok g v → q_tr ad' v = q_tr ad v := by
  intro v hv
  cases v with
  | ref r =>
    show q_rf ad' r = q_rf ad r
    unfold q_rf
    split
    · rfl
    · rename_i hr
      rw [h.1 r (hv.resolve_left hr)]
  | _ => rfl
theorem q_ok.trs {ad ad' : Nat → Nat} {g g' : q_Mem} {al : Bool} (h : q_ext al ad ad' g g') : ∀ {vs : List Value}, (∀ v ∈ vs, q_ok g v) → vs.map (q_tr ad') = vs.map (q_tr ad) := fun hv => List.map_congr_left fun v hm => q_ok.tr h (hv v hm)
theorem q_ok.lm {ad ad' : Nat → Nat} {g g' : q_Mem} {al : Bool} (h : q_ext al ad ad' g g') : ∀ {lv : List (Nat × Value)}, (∀ q ∈ lv, q_ok g q.2) → q_lm ad' lv = q_lm ad lv := fun hv => List.map_congr_left fun q hm => by rw [q_ok.tr h (hv q hm)]
theorem q_cats (ad : Nat → Nat) (vs : List Value) : ((vs.map (q_tr ad)).map fun v => v.category).sum = (vs.map fun v => v.category).sum := by
  rw [List.map_map]
  congr 1
  exact List.map_congr_left fun v _ => q_tr_cat ad v
section GGcalls
variable {ρ : Type} {p : Program} {l : Launch} {e : Env} {R : Room} {s : State} {m : MethodId} {args : Array Value} {below : List Frame} {meth : Method} {c : Code} {K : q_KK} {A : Nat → Prop} {g0 : q_Mem} {ad0 : Nat → Nat} {al : Bool} {nL : Nat} {Q : ρ → State → Prop} {F F' : Option ρ} {pc : Nat} {lv lv' : List (Nat × Value)} {st rest As : List Value} {g g' : q_Mem} {kc kn : Nat} {cc : ByteArray} {own : String} {ret : Option FieldType}
variable {y : MethodName} {b : ByteArray} {n na idx ci fr lo mc ms : Nat} {rty : Option FieldType} {al2 : Bool} {rv : Option Value}
theorem q_callgo (hR : ∀ (ad : Nat → Nat) (H : Heap) (locs : List Loc) (ls : Array Slot), q_ext al ad0 ad g0 g → va_S A s.heap H locs → (∀ q, q_A ad g H.size q → A q) → q_Wd K ad A g H → ls.size = nL → va_Run p l e R s m args below meth c H locs kc kn mc ms (F0 m pc ls (st.map (q_tr ad))) (rest.map (q_tr ad)) (q_Qc K al2 ad g rv g' (q_A ad g H.size) #[]) (q_A ad g H.size))
    (hA : ∀ q, s.heap.size ≤ q → A q) (hcl : al2 = true → al = true ∧ (∀ q ∈ lv, q_ok g q.2) ∧ ∀ v ∈ rest, q_ok g v)
    (kk : GG p l e R s m args below meth c K A g0 ad0 al nL Q F (pc + 3) lv (rv.toList ++ rest) g' (kc + mc) (kn + ms)) : GG p l e R s m args below meth c K A g0 ad0 al nL Q F pc lv st g kc kn := by
  intro res hF ad H locs ls h1 h2 h3 h4 T hT X
  have hA1 : ∀ q, q_A ad g H.size q → A q := fun q hq => by
    rcases hq with ⟨o, ho, rfl⟩ | hq
    · exact h2.A ho
    · exact hA q (Nat.le_trans h3.1 hq)
  obtain ⟨v, st₀, t, T', L, h0, X', hL, e1, e2, ⟨⟨ad', hx, ho, hW⟩, hz, hk⟩, stp⟩ := hR ad H locs ls h1 h3 hA1 h2 h4.1 T hT X
  cases ho
  rw [h0] at hz hk
  have hlm : q_lm ad' lv = q_lm ad lv ∧ rest.map (q_tr ad') = rest.map (q_tr ad) := by
    cases al2 with
    | false => rw [hx.2.2 rfl]; exact ⟨rfl, rfl⟩
    | true => exact ⟨q_ok.lm hx (hcl rfl).2.1, q_ok.trs hx (hcl rfl).2.2⟩
  have h := kk res hF ad' T'.heap (locs ++ L) ls (h1.trans hx fun z => (hcl z).1) (by rw [e1]; exact hW.weak fun o ho => hA1 _ (hW.A ho))
    ⟨Nat.le_trans h3.1 (by rw [e1]; exact hz), fun q a1 a2 => by rw [e1, hk q (Nat.lt_of_lt_of_le a1 h3.1) (fun z => a2 (hA1 q z))]; exact h3.2.1 q a1 a2, fun q hq => by
      rcases List.mem_append.mp hq with h | h
      · exact h3.2.2 q h
      · exact hA1 _ (hL q h)⟩ (by rw [hlm.1]; exact h4)
  have hst : (rv.toList ++ rest).map (q_tr ad') = (rv.map (q_tr ad')).toList ++ rest.map (q_tr ad) := by
    rw [List.map_append, hlm.2]
    cases rv <;> rfl
  rw [hst] at h
  obtain ⟨t2, a1, b1⟩ := h T' rfl X'
  exact ⟨t2, stp t2 a1, b1⟩
theorem g_callV (X : q_X p s m args meth c K A ad0 nL cc own ret) {o : Nat} (hM : Mt l y b n rty fr lo mc ms al2 K (.ref o :: As) g rv g') (hW : q_LV own idx ci y b n rty na) (hT : g.1 o = ci + 10) (hna : As.length = na) (hst : st = As.reverse ++ .ref o :: rest) (hcat : (rest.map fun v => v.category).sum ≤ 8) (hroom : fr + 1 ≤ R.frames ∧ 8 + (n + 11) + lo ≤ R.locals) (hcells : kc + mc ≤ R.cells ∧ kn + ms ≤ R.slots) (hd : decode cc pc = .ok (.invokevirtual idx, 3)) (hcl : al2 = true → al = true ∧ (∀ q ∈ lv, q_ok g q.2) ∧ ∀ v ∈ rest, q_ok g v)
    (kk : GG p l e R s m args below meth c K A g0 ad0 al nL Q F (pc + 3) lv (rv.toList ++ rest) g' (kc + mc) (kn + ms)) : GG p l e R s m args below meth c K A g0 ad0 al nL Q F pc lv st g kc kn := by
  refine q_callgo (fun ad H locs ls h1 h3 hA1 h2 hsz => ?_) X.2.2.2.2.2.2.1 hcl kk
  obtain ⟨⟨C, T, N, w0, w00⟩, w1, w2, w3, w4, w5, w6, w7⟩ := hW
  have hts := X.2.2.2.2.1
  obtain ⟨h0, ws, q0, hP, hD, e0, -⟩ := h2.at (o := o) (by omega)
  rw [q_cell_obj hT] at e0
  have e1 : q_tr ad (.ref o) = .ref (ad o) := by simp [q_tr, q_rf, h0]
  have cw : CallW R s args own C idx y b n rty (Cond.code y b n rty :: q_gtb) { frames := fr, cells := mc, slots := ms, locals := lo } mc ms na :=
    ⟨callB_of na hts (q_good w5) rfl rfl rfl (hts _ w4) (hts _ w1) ⟨w6.1, w6.2, w7⟩ hroom, hts _ w2, by rw [← w00]; exact hts _ w3⟩
  subst hst
  exact va_runV (As := As.map (q_tr ad)) (rest := rest.map (q_tr ad)) (b := ad o) (g := F0 m pc ls ((As.reverse ++ .ref o :: rest).map (q_tr ad))) ⟨X.1, X.2.1, X.2.2.1, X.2.2.2.1, hts⟩ (hM ad H.size) cw ⟨q_Pc_blind, va_recv X.2.2.2.2.2.1 hP w0 e0, fun U hU hWm => ⟨by rw [List.map_cons, e1], by rw [hU], by rw [hU]; exact h2.weak fun _ _ => trivial, va_K.moved hWm.alike X.2.2.2.2.2.1, by rw [hU]; exact X.2.2.2.2.2.2.2.2.2.to hWm (fun o ho => h1.1 o (Or.inr ho)) hA1 h3.2.1⟩⟩ rfl (by rw [List.length_map]; exact hna) hsz (by simp [e1]) (lv_room (by rw [q_cats]; exact hcat)) hd hcells
theorem g_callS (X : q_X p s m args meth c K A ad0 nL cc own ret) (hM : Mt l y b n rty fr lo mc ms al2 K As g rv g') (hW : q_LS own idx y b n rty na) (hna : As.length = na) (hst : st = As.reverse ++ rest) (hcat : (rest.map fun v => v.category).sum ≤ 8) (hroom : fr + 1 ≤ R.frames ∧ 8 + (n + 11) + lo ≤ R.locals) (hcells : kc + mc ≤ R.cells ∧ kn + ms ≤ R.slots) (hd : decode cc pc = .ok (.invokestatic idx, 3)) (hcl : al2 = true → al = true ∧ (∀ q ∈ lv, q_ok g q.2) ∧ ∀ v ∈ rest, q_ok g v)
    (kk : GG p l e R s m args below meth c K A g0 ad0 al nL Q F (pc + 3) lv (rv.toList ++ rest) g' (kc + mc) (kn + ms)) : GG p l e R s m args below meth c K A g0 ad0 al nL Q F pc lv st g kc kn := by
  refine q_callgo (fun ad H locs ls h1 h3 hA1 h2 hsz => ?_) X.2.2.2.2.2.2.1 hcl kk
  obtain ⟨w1, w2, w4, w5, w6, w7⟩ := hW
  have hts := X.2.2.2.2.1
  subst hst
  exact va_runS (As := As.map (q_tr ad)) (rest := rest.map (q_tr ad)) (g := F0 m pc ls ((As.reverse ++ rest).map (q_tr ad))) ⟨X.1, X.2.1, X.2.2.1, X.2.2.2.1, hts⟩ (hM ad H.size) ⟨callB_of na hts (q_good w5) rfl rfl rfl (hts _ w4) (hts _ w1) ⟨w6.1, w6.2, w7⟩ hroom, hts _ w2⟩ ⟨q_Pc_blind, fun U hU hWm => ⟨rfl, by rw [hU], by rw [hU]; exact h2.weak fun _ _ => trivial, va_K.moved hWm.alike X.2.2.2.2.2.1, by rw [hU]; exact X.2.2.2.2.2.2.2.2.2.to hWm (fun o ho => h1.1 o (Or.inr ho)) hA1 h3.2.1⟩⟩ rfl (by rw [List.length_map]; exact hna) hsz (by simp) (lv_room (by rw [q_cats]; exact hcat)) hd hcells
theorem g_widen {kc' kn' : Nat} (h1 : kc ≤ kc') (h2 : kn ≤ kn') (kk : GG p l e R s m args below meth c K A g0 ad0 al nL Q F pc lv st g kc' kn') : GG p l e R s m args below meth c K A g0 ad0 al nL Q F pc lv st g kc kn :=
  fun res hF ad H locs ls a1 a2 a3 a4 => W.widen h1 h2 (kk res hF ad H locs ls a1 a2 a3 a4)
theorem g_stop : GG p l e R s m args below meth c K A g0 ad0 al nL Q none pc lv st g kc kn := fun _ hF => by cases hF
section Ends
variable {rvf : ρ → Option Value} {gf : ρ → q_Mem} {res0 : ρ}
theorem q_end {H : Heap} {ad : Nat → Nat} {locs : List Loc} {t : State} (h1 : q_ext al ad0 ad g0 g) (h2 : q_Wd K ad A g H) (h3 : va_S A s.heap H locs) (ht : t.heap = H) : q_Qc K al ad0 g0 rv g A args s (.returned (rv.map (q_tr ad))) t :=
  ⟨⟨ad, h1, rfl, by rw [ht]; exact h2⟩, h3.F ht⟩
theorem g_iret (X : q_X p s m args meth c K A ad0 nL cc own ret) {x : Int32} (hr : ret = some .int) (h1 : rvf res0 = some (.int x)) (h2 : gf res0 = g) (hd : decode cc pc = .ok (.ireturn, 1)) : GG p l e R s m args below meth c K A g0 ad0 al nL (fun res => MQ below (q_Qc K al ad0 g0 (rvf res) (gf res) A) args s kc kn A) (some res0) pc lv [.int x] g kc kn := by
  intro res hF ad H locs ls a1 a2 a3 a4
  cases hF
  show W p l e R s m args below meth c H locs kc kn (MQ below (q_Qc K al ad0 g0 (rvf res0) (gf res0) A) args s kc kn A) _
  rw [h1, h2]
  exact W.iret (v := x) X.1 X.2.1 (X.2.2.2.2.2.2.2.1.trans hr) (fun t ht hW => q_end (rv := some (.int x)) a1 a2 a3 ht) a3.2.2 hd X.2.2.2.2.2.2.2.2.1
theorem q_nb {x : Int32} (h : x = 0 ∨ x = 1) : narrow .boolean (.int x) = .int x := by
  rcases h with rfl | rfl <;> rfl
theorem g_zret (X : q_X p s m args meth c K A ad0 nL cc own ret) {x : Int32} (hr : ret = some .boolean) (h1 : rvf res0 = some (.int x)) (h2 : gf res0 = g) (hd : decode cc pc = .ok (.ireturn, 1)) : GG p l e R s m args below meth c K A g0 ad0 al nL (fun res => MQ below (q_Qc K al ad0 g0 (rvf res) (gf res) A) args s kc kn A) (if x = 0 ∨ x = 1 then some res0 else none) pc lv [.int x] g kc kn := by
  intro res hF ad H locs ls a1 a2 a3 a4
  by_cases hx : x = 0 ∨ x = 1
  · rw [if_pos hx] at hF
    cases hF
    show W p l e R s m args below meth c H locs kc kn (MQ below (q_Qc K al ad0 g0 (rvf res0) (gf res0) A) args s kc kn A) _
    rw [h1, h2]
    exact W.zret (v := x) X.1 X.2.1 (X.2.2.2.2.2.2.2.1.trans hr) (q_nb hx) (fun t ht hW => q_end (rv := some (.int x)) a1 a2 a3 ht) a3.2.2 hd X.2.2.2.2.2.2.2.2.1
  · rw [if_neg hx] at hF; cases hF
theorem g_aret (X : q_X p s m args meth c K A ad0 nL cc own ret) {x : Nat} {rt : FieldType} (hr : ret = some rt) (hrt : (∃ n, rt = .object n) ∨ ∃ t, rt = .array t) (h1 : rvf res0 = some (.ref x)) (h2 : gf res0 = g) (hd : decode cc pc = .ok (.areturn, 1)) : GG p l e R s m args below meth c K A g0 ad0 al nL (fun res => MQ below (q_Qc K al ad0 g0 (rvf res) (gf res) A) args s kc kn A) (some res0) pc lv [.ref x] g kc kn := by
  intro res hF ad H locs ls a1 a2 a3 a4
  cases hF
  show W p l e R s m args below meth c H locs kc kn (MQ below (q_Qc K al ad0 g0 (rvf res0) (gf res0) A) args s kc kn A) _
  rw [h1, h2]
  exact W.aret (v := q_tr ad (.ref x)) X.1 X.2.1 (X.2.2.2.2.2.2.2.1.trans hr) hrt (by show q_rf ad x = _ ∨ ∃ a, q_rf ad x = _; unfold q_rf; split; exact Or.inl rfl; exact Or.inr ⟨_, rfl⟩) (fun t ht hW => q_end (rv := some (.ref x)) a1 a2 a3 ht) a3.2.2 hd X.2.2.2.2.2.2.2.2.1
theorem g_vret (X : q_X p s m args meth c K A ad0 nL cc own ret) (hr : ret = none) (h1 : rvf res0 = none) (h2 : gf res0 = g) (hd : decode cc pc = .ok (.return_, 1)) : GG p l e R s m args below meth c K A g0 ad0 al nL (fun res => MQ below (q_Qc K al ad0 g0 (rvf res) (gf res) A) args s kc kn A) (some res0) pc lv [] g kc kn := by
  intro res hF ad H locs ls a1 a2 a3 a4
  cases hF
  show W p l e R s m args below meth c H locs kc kn (MQ below (q_Qc K al ad0 g0 (rvf res0) (gf res0) A) args s kc kn A) _
  rw [h1, h2]
  exact W.vret X.1 X.2.1 (X.2.2.2.2.2.2.2.1.trans hr) (fun t ht hW => q_end (rv := none) a1 a2 a3 ht) a3.2.2 hd X.2.2.2.2.2.2.2.2.1
end Ends
end GGcalls
/-! programs: the words they are made of -/
def q_let {α ρ : Type} (e : α) (k : α → Option ρ) : Option ρ := k e
def q_ld {ρ : Type} (M : Nat → Nat → Int32) (o n : Nat) (i : Int32) (k : Int32 → Option ρ) : Option ρ := if i < 0 ∨ n ≤ i.toNatClampNeg then none else k (M o i.toNatClampNeg)
def q_as {ρ : Type} (M : Nat → Nat → Int32) (o n : Nat) (i x : Int32) (k : (Nat → Nat → Int32) → Option ρ) : Option ρ := if i < 0 ∨ n ≤ i.toNatClampNeg then none else k (q_u2 M o i.toNatClampNeg x)
def q_ck {ρ : Type} (t u : Nat) (F : Option ρ) : Option ρ := if t = u then F else none
def q_bl {ρ : Type} (x : Int32) (F : Option ρ) : Option ρ := if x = 0 ∨ x = 1 then F else none
theorem q_fuE : ∃ n : Nat, 100000 ≤ n := ⟨100000, Nat.le_refl _⟩
/-- as many rounds as any loop needs; nothing can compute with it -/
noncomputable def q_fu : Nat := Classical.choose q_fuE
theorem q_fu_le : 100000 ≤ q_fu := Classical.choose_spec q_fuE
section GGprog
variable {ρ : Type} {p : Program} {l : Launch} {e : Env} {R : Room} {s : State} {m : MethodId} {args : Array Value} {below : List Frame} {meth : Method} {c : Code} {K : q_KK} {A : Nat → Prop} {g0 : q_Mem} {ad0 : Nat → Nat} {al : Bool} {nL : Nat} {Q : ρ → State → Prop} {F F' : Option ρ} {pc : Nat} {lv lv' : List (Nat × Value)} {st rest As : List Value} {g g' : q_Mem} {kc kn : Nat} {cc : ByteArray} {own : String} {ret : Option FieldType}
variable {T : Nat → Nat} {L : Nat → Nat} {P : Nat → Nat → Nat} {M : Nat → Nat → Int32}
theorem g_ck {t u : Nat} (kk : t = u → GG p l e R s m args below meth c K A g0 ad0 al nL Q F pc lv st g kc kn) : GG p l e R s m args below meth c K A g0 ad0 al nL Q (q_ck t u F) pc lv st g kc kn := by
  intro res hF
  unfold q_ck at hF
  split at hF
  · rename_i h; exact kk h res hF
  · cases hF
theorem g_case {x v : Int32} (kt : x = v → GG p l e R s m args below meth c K A g0 ad0 al nL Q F pc lv st g kc kn) (kf : ¬ x = v → GG p l e R s m args below meth c K A g0 ad0 al nL Q F' pc lv st g kc kn) : GG p l e R s m args below meth c K A g0 ad0 al nL Q (if x = v then F else F') pc lv st g kc kn := by
  intro res hF
  split at hF
  · rename_i h; exact kt h res hF
  · rename_i h; exact kf h res hF
theorem g_ild (X : q_X p s m args meth c K A ad0 nL cc own ret) {o n : Nat} {i : Int32} {k : Int32 → Option ρ} (hT : T o = 1) (hL : L o = n) (hd : decode cc pc = .ok (.iaload, 1))
    (kk : ∀ v : Int32, GG p l e R s m args below meth c K A g0 ad0 al nL Q (k v) (pc + 1) lv (.int v :: st) (T, L, P, M) kc kn) : GG p l e R s m args below meth c K A g0 ad0 al nL Q (q_ld M o n i k) pc lv (.int i :: .ref o :: st) (T, L, P, M) kc kn :=
  g_iald (f := k) X hT hL hd (fun _ => kk _)
theorem g_bld (X : q_X p s m args meth c K A ad0 nL cc own ret) {o n : Nat} {i : Int32} {k : Int32 → Option ρ} (hT : T o = 2) (hL : L o = n) (hd : decode cc pc = .ok (.baload, 1))
    (kk : ∀ v : Int32, GG p l e R s m args below meth c K A g0 ad0 al nL Q (k v) (pc + 1) lv (.int v :: st) (T, L, P, M) kc kn) : GG p l e R s m args below meth c K A g0 ad0 al nL Q (q_ld M o n i k) pc lv (.int i :: .ref o :: st) (T, L, P, M) kc kn :=
  g_bald (f := k) X hT hL hd (fun _ => kk _)
theorem g_isv (X : q_X p s m args meth c K A ad0 nL cc own ret) {o n : Nat} {i x : Int32} {k : (Nat → Nat → Int32) → Option ρ} (hT : T o = 1) (hL : L o = n) (hd : decode cc pc = .ok (.iastore, 1))
    (kk : ∀ M' : Nat → Nat → Int32, GG p l e R s m args below meth c K A g0 ad0 al nL Q (k M') (pc + 1) lv st (T, L, P, M') kc kn) : GG p l e R s m args below meth c K A g0 ad0 al nL Q (q_as M o n i x k) pc lv (.int x :: .int i :: .ref o :: st) (T, L, P, M) kc kn :=
  g_iast X hT hL hd (fun _ => kk _)
theorem g_bsv (X : q_X p s m args meth c K A ad0 nL cc own ret) {o n : Nat} {i x : Int32} {k : (Nat → Nat → Int32) → Option ρ} (hT : T o = 2) (hL : L o = n) (hd : decode cc pc = .ok (.bastore, 1))
    (kk : ∀ M' : Nat → Nat → Int32, GG p l e R s m args below meth c K A g0 ad0 al nL Q (k M') (pc + 1) lv st (T, L, P, M') kc kn) : GG p l e R s m args below meth c K A g0 ad0 al nL Q (q_as M o n i (vp_nar .boolean x) k) pc lv (.int x :: .int i :: .ref o :: st) (T, L, P, M) kc kn :=
  g_bast X hT hL hd (fun _ => kk _)
theorem g_pfi (X : q_X p s m args meth c K A ad0 nL cc own ret) {ci kf idx o : Nat} {v : Int32} {k : (Nat → Nat → Int32) → Option ρ} (fa : q_FA own idx ci kf false) (hfin : q_nofin ci kf = true) (hI : parseFieldDescriptor (q_dsc ci kf) = some .int) (hT : T o = ci + 10) (hd : decode cc pc = .ok (.putfield idx, 3))
    (kk : ∀ M' : Nat → Nat → Int32, GG p l e R s m args below meth c K A g0 ad0 al nL Q (k M') (pc + 3) lv st (T, L, P, M') kc kn) : GG p l e R s m args below meth c K A g0 ad0 al nL Q (q_let (q_u2 M o kf v) k) pc lv (.int v :: .ref o :: st) (T, L, P, M) kc kn :=
  g_puti X fa hfin hT (fun ty _ h => by cases hI.symm.trans h; exact ⟨rfl, rfl⟩) hd (kk _)
theorem g_pfz (X : q_X p s m args meth c K A ad0 nL cc own ret) {ci kf idx o : Nat} {v : Int32} {k : (Nat → Nat → Int32) → Option ρ} (fa : q_FA own idx ci kf false) (hfin : q_nofin ci kf = true) (hI : parseFieldDescriptor (q_dsc ci kf) = some .boolean) (hT : T o = ci + 10) (hd : decode cc pc = .ok (.putfield idx, 3))
    (kk : ∀ M' : Nat → Nat → Int32, GG p l e R s m args below meth c K A g0 ad0 al nL Q (k M') (pc + 3) lv st (T, L, P, M') kc kn) : GG p l e R s m args below meth c K A g0 ad0 al nL Q (q_bl v (q_let (q_u2 M o kf v) k)) pc lv (.int v :: .ref o :: st) (T, L, P, M) kc kn := by
  intro res hF
  unfold q_bl at hF
  split at hF
  · rename_i hv
    refine g_puti X fa hfin hT (fun ty _ h => ?_) hd (kk _) res hF
    cases hI.symm.trans h
    rcases hv with rfl | rfl <;> exact ⟨rfl, rfl⟩
  · cases hF
theorem g_isn (X : q_X p s m args meth c K A ad0 nL cc own ret) {k : Fin 4} {i : Nat} {x : Int32} {f : Int32 → Option ρ} (lv' : Int32 → List (Nat × Value)) (hd : decode cc pc = .ok (.istore_n k, 1)) (hi : (k : Nat) = i) (hn : i < nL) (hl : ∀ x : Int32, (i, Value.int x) :: lv.filter (fun q => !(q.1 == i) && !(q.1 + 1 == i && q.2.category == 2)) = lv' x)
    (kk : ∀ y : Int32, GG p l e R s m args below meth c K A g0 ad0 al nL Q (f y) (pc + 1) (lv' y) st g kc kn) : GG p l e R s m args below meth c K A g0 ad0 al nL Q (q_let x f) pc lv (.int x :: st) g kc kn :=
  g_istore_n X (lv' x) hd hi hn (hl x) (kk x)
theorem g_is (X : q_X p s m args meth c K A ad0 nL cc own ret) {i : Nat} {x : Int32} {f : Int32 → Option ρ} (lv' : Int32 → List (Nat × Value)) (hd : decode cc pc = .ok (.istore i, 2)) (hn : i < nL) (hl : ∀ x : Int32, (i, Value.int x) :: lv.filter (fun q => !(q.1 == i) && !(q.1 + 1 == i && q.2.category == 2)) = lv' x)
    (kk : ∀ y : Int32, GG p l e R s m args below meth c K A g0 ad0 al nL Q (f y) (pc + 2) (lv' y) st g kc kn) : GG p l e R s m args below meth c K A g0 ad0 al nL Q (q_let x f) pc lv (.int x :: st) g kc kn :=
  g_istore X (lv' x) hd hn (hl x) (kk x)
section C
variable {y : MethodName} {b : ByteArray} {n na idx ci fr lo : Nat} {rty : Option FieldType} {φ : Type} {f : Option φ} {k : φ → Option ρ} {ri : φ → Int32} {rr : φ → Nat} {gf : φ → q_Mem}
theorem g_bVi (X : q_X p s m args meth c K A ad0 nL cc own ret) {o : Nat} (hM : ∀ r, f = some r → Mt l y b n rty fr lo 0 0 false K (.ref o :: As) g (some (.int (ri r))) (gf r)) (hW : q_LV own idx ci y b n rty na) (hT : g.1 o = ci + 10) (hna : As.length = na) (hst : st = As.reverse ++ .ref o :: rest) (hcat : (rest.map fun v => v.category).sum ≤ 8) (hroom : fr + 1 ≤ R.frames ∧ 8 + (n + 11) + lo ≤ R.locals) (hcells : kc ≤ R.cells ∧ kn ≤ R.slots) (hd : decode cc pc = .ok (.invokevirtual idx, 3))
    (kk : ∀ r, GG p l e R s m args below meth c K A g0 ad0 al nL Q (k r) (pc + 3) lv (.int (ri r) :: rest) (gf r) kc kn) : GG p l e R s m args below meth c K A g0 ad0 al nL Q (f.bind k) pc lv st g kc kn := by
  intro res hF
  obtain ⟨r, h1, h2⟩ := Option.bind_eq_some_iff.mp hF
  exact g_callV X (hM r h1) hW hT hna hst hcat hroom hcells hd (fun h => by cases h) (kk r) res h2
theorem g_bVr (X : q_X p s m args meth c K A ad0 nL cc own ret) {o : Nat} (hM : ∀ r, f = some r → Mt l y b n rty fr lo 0 0 false K (.ref o :: As) g (some (.ref (rr r))) (gf r)) (hW : q_LV own idx ci y b n rty na) (hT : g.1 o = ci + 10) (hna : As.length = na) (hst : st = As.reverse ++ .ref o :: rest) (hcat : (rest.map fun v => v.category).sum ≤ 8) (hroom : fr + 1 ≤ R.frames ∧ 8 + (n + 11) + lo ≤ R.locals) (hcells : kc ≤ R.cells ∧ kn ≤ R.slots) (hd : decode cc pc = .ok (.invokevirtual idx, 3))
    (kk : ∀ r, GG p l e R s m args below meth c K A g0 ad0 al nL Q (k r) (pc + 3) lv (.ref (rr r) :: rest) (gf r) kc kn) : GG p l e R s m args below meth c K A g0 ad0 al nL Q (f.bind k) pc lv st g kc kn := by
  intro res hF
  obtain ⟨r, h1, h2⟩ := Option.bind_eq_some_iff.mp hF
  exact g_callV X (hM r h1) hW hT hna hst hcat hroom hcells hd (fun h => by cases h) (kk r) res h2
theorem g_bVv (X : q_X p s m args meth c K A ad0 nL cc own ret) {o : Nat} (hM : ∀ r, f = some r → Mt l y b n rty fr lo 0 0 false K (.ref o :: As) g none (gf r)) (hW : q_LV own idx ci y b n rty na) (hT : g.1 o = ci + 10) (hna : As.length = na) (hst : st = As.reverse ++ .ref o :: rest) (hcat : (rest.map fun v => v.category).sum ≤ 8) (hroom : fr + 1 ≤ R.frames ∧ 8 + (n + 11) + lo ≤ R.locals) (hcells : kc ≤ R.cells ∧ kn ≤ R.slots) (hd : decode cc pc = .ok (.invokevirtual idx, 3))
    (kk : ∀ r, GG p l e R s m args below meth c K A g0 ad0 al nL Q (k r) (pc + 3) lv rest (gf r) kc kn) : GG p l e R s m args below meth c K A g0 ad0 al nL Q (f.bind k) pc lv st g kc kn := by
  intro res hF
  obtain ⟨r, h1, h2⟩ := Option.bind_eq_some_iff.mp hF
  exact g_callV X (hM r h1) hW hT hna hst hcat hroom hcells hd (fun h => by cases h) (kk r) res h2
theorem g_bSi (X : q_X p s m args meth c K A ad0 nL cc own ret) (hM : ∀ r, f = some r → Mt l y b n rty fr lo 0 0 false K As g (some (.int (ri r))) (gf r)) (hW : q_LS own idx y b n rty na) (hna : As.length = na) (hst : st = As.reverse ++ rest) (hcat : (rest.map fun v => v.category).sum ≤ 8) (hroom : fr + 1 ≤ R.frames ∧ 8 + (n + 11) + lo ≤ R.locals) (hcells : kc ≤ R.cells ∧ kn ≤ R.slots) (hd : decode cc pc = .ok (.invokestatic idx, 3))
    (kk : ∀ r, GG p l e R s m args below meth c K A g0 ad0 al nL Q (k r) (pc + 3) lv (.int (ri r) :: rest) (gf r) kc kn) : GG p l e R s m args below meth c K A g0 ad0 al nL Q (f.bind k) pc lv st g kc kn := by
  intro res hF
  obtain ⟨r, h1, h2⟩ := Option.bind_eq_some_iff.mp hF
  exact g_callS X (hM r h1) hW hna hst hcat hroom hcells hd (fun h => by cases h) (kk r) res h2
theorem g_bSv (X : q_X p s m args meth c K A ad0 nL cc own ret) (hM : ∀ r, f = some r → Mt l y b n rty fr lo 0 0 false K As g none (gf r)) (hW : q_LS own idx y b n rty na) (hna : As.length = na) (hst : st = As.reverse ++ rest) (hcat : (rest.map fun v => v.category).sum ≤ 8) (hroom : fr + 1 ≤ R.frames ∧ 8 + (n + 11) + lo ≤ R.locals) (hcells : kc ≤ R.cells ∧ kn ≤ R.slots) (hd : decode cc pc = .ok (.invokestatic idx, 3))
    (kk : ∀ r, GG p l e R s m args below meth c K A g0 ad0 al nL Q (k r) (pc + 3) lv rest (gf r) kc kn) : GG p l e R s m args below meth c K A g0 ad0 al nL Q (f.bind k) pc lv st g kc kn := by
  intro res hF
  obtain ⟨r, h1, h2⟩ := Option.bind_eq_some_iff.mp hF
  exact g_callS X (hM r h1) hW hna hst hcat hroom hcells hd (fun h => by cases h) (kk r) res h2
end C
theorem g_mmax (X : q_X p s m args meth c K A ad0 nL cc own ret) {idx : Nat} {x y : Int32} (hW : Cond.methodLink own idx Lib.Math.max.name ∈ q_gtb ∧ Cond.static Lib.Math.max.name ∈ q_gtb ∧ Cond.initialized "java/lang/Math" ∈ q_gtb ∧ Cond.code Lib.Math.max.name Lib.Math.max.code 2 (some .int) ∈ q_gtb) (hcat : (st.map fun v => v.category).sum ≤ 8) (hroom : 1 ≤ R.frames ∧ 21 ≤ R.locals) (hcells : kc ≤ R.cells ∧ kn ≤ R.slots) (hd : decode cc pc = .ok (.invokestatic idx, 3))
    (kk : GG p l e R s m args below meth c K A g0 ad0 al nL Q F (pc + 3) lv (.int (if x < y then y else x) :: st) g kc kn) : GG p l e R s m args below meth c K A g0 ad0 al nL Q F pc lv (.int y :: .int x :: st) g kc kn :=
  fun res hF ad H locs ls a1 a2 a3 a4 => va_mmax X.1 X.2.1 (X.2.2.1.trans a4.1.symm) X.2.2.2.1 (X.2.2.2.2.1 _ hW.1) (X.2.2.2.2.1 _ hW.2.1) (X.2.2.2.2.1 _ hW.2.2.1) (X.2.2.2.2.1 _ hW.2.2.2) hroom.1 (by rw [q_cats]; omega) hcells.1 hcells.2 hd (kk res hF ad H locs ls a1 a2 a3 a4)
theorem g_mmin (X : q_X p s m args meth c K A ad0 nL cc own ret) {idx : Nat} {x y : Int32} (hW : Cond.methodLink own idx Lib.Math.min.name ∈ q_gtb ∧ Cond.static Lib.Math.min.name ∈ q_gtb ∧ Cond.initialized "java/lang/Math" ∈ q_gtb ∧ Cond.code Lib.Math.min.name Lib.Math.min.code 2 (some .int) ∈ q_gtb) (hcat : (st.map fun v => v.category).sum ≤ 8) (hroom : 1 ≤ R.frames ∧ 21 ≤ R.locals) (hcells : kc ≤ R.cells ∧ kn ≤ R.slots) (hd : decode cc pc = .ok (.invokestatic idx, 3))
    (kk : GG p l e R s m args below meth c K A g0 ad0 al nL Q F (pc + 3) lv (.int (if y < x then y else x) :: st) g kc kn) : GG p l e R s m args below meth c K A g0 ad0 al nL Q F pc lv (.int y :: .int x :: st) g kc kn :=
  fun res hF ad H locs ls a1 a2 a3 a4 => va_mmin X.1 X.2.1 (X.2.2.1.trans a4.1.symm) X.2.2.2.1 (X.2.2.2.2.1 _ hW.1) (X.2.2.2.2.1 _ hW.2.1) (X.2.2.2.2.1 _ hW.2.2.1) (X.2.2.2.2.1 _ hW.2.2.2) hroom.1 (by rw [q_cats]; omega) hcells.1 hcells.2 hd (kk res hF ad H locs ls a1 a2 a3 a4)
theorem g_mabs (X : q_X p s m args meth c K A ad0 nL cc own ret) {idx : Nat} {x : Int32} (hW : Cond.methodLink own idx Lib.Math.abs.name ∈ q_gtb ∧ Cond.static Lib.Math.abs.name ∈ q_gtb ∧ Cond.initialized "java/lang/Math" ∈ q_gtb ∧ Cond.code Lib.Math.abs.name Lib.Math.abs.code 1 (some .int) ∈ q_gtb) (hcat : (st.map fun v => v.category).sum ≤ 8) (hroom : 1 ≤ R.frames ∧ 21 ≤ R.locals) (hcells : kc ≤ R.cells ∧ kn ≤ R.slots) (hd : decode cc pc = .ok (.invokestatic idx, 3))
    (kk : GG p l e R s m args below meth c K A g0 ad0 al nL Q F (pc + 3) lv (.int (if 0 ≤ x then x else 0 - x) :: st) g kc kn) : GG p l e R s m args below meth c K A g0 ad0 al nL Q F pc lv (.int x :: st) g kc kn :=
  fun res hF ad H locs ls a1 a2 a3 a4 => va_mabs X.1 X.2.1 (X.2.2.1.trans a4.1.symm) X.2.2.2.1 (X.2.2.2.2.1 _ hW.1) (X.2.2.2.2.1 _ hW.2.1) (X.2.2.2.2.1 _ hW.2.2.1) (X.2.2.2.2.1 _ hW.2.2.2) hroom.1 (by rw [q_cats]; omega) hcells.1 hcells.2 hd (kk res hF ad H locs ls a1 a2 a3 a4)
/-- switches -/
theorem g_tin (X : q_X p s m args meth c K A ad0 nL cc own ret) {dflt lo hi : Int} {offs : Array Int} {len : Nat} {x v : Int32} {off : Int} (tgt : Nat) (hx : x = v) (hd : decode cc pc = .ok (.tableswitch dflt lo hi offs, len)) (h1 : ¬ v.toInt < lo) (h2 : ¬ hi < v.toInt) (ho : offs[(v.toInt - lo).toNat]? = some off) (ht : (pc : Int) + off = (tgt : Int))
    (kk : GG p l e R s m args below meth c K A g0 ad0 al nL Q F tgt lv st g kc kn) : GG p l e R s m args below meth c K A g0 ad0 al nL Q F pc lv (.int x :: st) g kc kn := by
  subst hx
  exact fun res hF ad H locs ls a1 a2 a3 a4 => lv_tableIn X.1 X.2.1 hd h1 h2 ho ht (kk res hF ad H locs ls a1 a2 a3 a4)
theorem g_tdef (X : q_X p s m args meth c K A ad0 nL cc own ret) {dflt lo hi : Int} {offs : Array Int} {len : Nat} {x : Int32} (keys : List Int32) (tgt : Nat) (hk : ∀ k ∈ keys, ¬ x = k) (hd : decode cc pc = .ok (.tableswitch dflt lo hi offs, len)) (hc : (List.range (hi - lo + 1).toNat).all (fun j => decide (offs[j]? = some dflt) || decide (Int32.ofInt (lo + j) ∈ keys)) = true) (ht : (pc : Int) + dflt = (tgt : Int))
    (kk : GG p l e R s m args below meth c K A g0 ad0 al nL Q F tgt lv st g kc kn) : GG p l e R s m args below meth c K A g0 ad0 al nL Q F pc lv (.int x :: st) g kc kn := by
  intro res hF ad H locs ls a1 a2 a3 a4
  have h := kk res hF ad H locs ls a1 a2 a3 a4
  by_cases hin : x.toInt < lo ∨ hi < x.toInt
  · exact lv_tableOut X.1 X.2.1 hd hin ht h
  · have h1 : ¬ x.toInt < lo := fun z => hin (Or.inl z)
    have h2 : ¬ hi < x.toInt := fun z => hin (Or.inr z)
    have hj := List.all_eq_true.mp hc (x.toInt - lo).toNat (List.mem_range.mpr (by omega))
    have e1 : lo + ((x.toInt - lo).toNat : Int) = x.toInt := by omega
    rw [e1, Int32.ofInt_toInt] at hj
    rcases Bool.or_eq_true _ _ |>.mp hj with z | z
    · exact lv_tableIn X.1 X.2.1 hd h1 h2 (of_decide_eq_true z) ht h
    · exact absurd rfl (hk x (of_decide_eq_true z))
end GGprog
