/-! rows that make cells and that write references -/
theorem q_tr_up {ad : Nat → Nat} {o q : Nat} {v : Value} (h : v ≠ .ref o) : q_tr (va_up ad o q) v = q_tr ad v := by
  cases v with
  | ref r =>
    have hr : r ≠ o := fun e => h (by rw [e])
    show q_rf _ r = q_rf _ r
    unfold q_rf va_up
    simp [hr]
  | _ => rfl
theorem q_rf_up {ad : Nat → Nat} {o q r : Nat} (h : r ≠ o) : q_rf (va_up ad o q) r = q_rf ad r := by
  unfold q_rf va_up
  simp [h]
theorem q_fs_up {ad : Nat → Nat} {o q : Nat} {P : Nat → Nat} {M : Nat → Int32} {rt : List Bool} (h : ∀ k, P k ≠ o) : q_fs (va_up ad o q) P M rt = q_fs ad P M rt := by
  unfold q_fs
  apply List.map_congr_left
  intro k _
  rw [q_rf_up (h k)]
theorem q_arr_up {ad : Nat → Nat} {o q : Nat} {f : Nat → Nat} (h : ∀ k, f k ≠ o) : q_arr (va_up ad o q) f = q_arr ad f := by
  funext i
  unfold q_arr va_up
  simp [h i]
section GGalloc
variable {ρ : Type} {p : Program} {l : Launch} {e : Env} {R : Room} {s : State} {m : MethodId} {args : Array Value} {below : List Frame} {meth : Method} {c : Code} {K : q_KK} {A : Nat → Prop} {g0 : q_Mem} {ad0 : Nat → Nat} {al : Bool} {nL : Nat} {Q : ρ → State → Prop} {F F' : Option ρ} {pc : Nat} {lv lv' : List (Nat × Value)} {st rest As : List Value} {g g' : q_Mem} {kc kn : Nat} {cc : ByteArray} {own : String} {ret : Option FieldType}
variable {T : Nat → Nat} {L : Nat → Nat} {P : Nat → Nat → Nat} {M : Nat → Nat → Int32}
/-- a world with one cell more -/
theorem q_Wd.grow {ad : Nat → Nat} {H1 : Heap} {o q t n : Nat} {r : Nat → Nat} {x : Nat → Int32} {ids : List Nat} (hn : ids.Nodup) (hi : ∀ o, T o ≠ 0 ↔ o ∈ ids) (h0i : 0 ∉ ids) (ht : t ≠ 0) (h0 : o ≠ 0) (hT : T o = 0) (hP : ∀ o', T o' ≠ 0 → ∀ k, P o' k ≠ o) {ce : va_E} (hce : q_cell K (va_up ad o q) (va_up T o t, va_up L o n, va_up P o r, va_up M o x) o = ce)
    (hP1 : va_P K.1 q_classes (q_ws K ad (T, L, P, M) ids ++ [(q, ce)]) H1) (hD1 : va_D A (q_ws K ad (T, L, P, M) ids ++ [(q, ce)])) : q_Wd K (va_up ad o q) A (va_up T o t, va_up L o n, va_up P o r, va_up M o x) H1 := by
  have ho : o ∉ ids := fun h => (hi o).mpr h hT
  have hws : q_ws K (va_up ad o q) (va_up T o t, va_up L o n, va_up P o r, va_up M o x) (ids ++ [o]) = q_ws K ad (T, L, P, M) ids ++ [(q, ce)] := by
    unfold q_ws
    rw [List.map_append]
    congr 1
    · apply List.map_congr_left
      intro o' ho'
      have hne : o' ≠ o := fun e => ho (e ▸ ho')
      have hp := hP o' ((hi o').mpr ho')
      have e1 : va_up ad o q o' = ad o' := by simp [va_up, hne]
      rw [e1]
      congr 1
      unfold q_cell
      have e2 : va_up T o t o' = T o' := by simp [va_up, hne]
      have e3 : va_up L o n o' = L o' := by simp [va_up, hne]
      have e4 : va_up P o r o' = P o' := by simp [va_up, hne]
      have e5 : va_up M o x o' = M o' := by simp [va_up, hne]
      simp only [e2, e3, e4, e5]
      rw [q_fs_up hp, q_arr_up hp]
    · simp only [List.map_cons, List.map_nil]
      rw [hce]
      simp [va_up]
  refine ⟨ids ++ [o], ?_, fun o' => ?_, ?_, by rw [hws]; exact hP1, by rw [hws]; exact hD1⟩
  · rw [List.nodup_append]
    exact ⟨hn, by simp, fun a ha b hb => by simp at hb; subst hb; exact fun e => ho (e ▸ ha)⟩
  · simp only [List.mem_append, List.mem_singleton, ← hi o']
    by_cases h : o' = o
    · subst h
      simp [va_up, ht]
    · simp [va_up, h]
  · simp only [List.mem_append, List.mem_singleton]
    exact fun h => h.elim h0i (fun e => h0 e.symm)
theorem q_ext.grow {ad : Nat → Nat} {o q t n : Nat} {r : Nat → Nat} {x : Nat → Int32} (hal : al = true) (hst : ¬ q_st o) (hT : T o = 0) (h : q_ext al ad0 ad g0 (T, L, P, M)) : q_ext al ad0 (va_up ad o q) g0 (va_up T o t, va_up L o n, va_up P o r, va_up M o x) := by
  have hne : ∀ o', (g0.1 o' ≠ 0 ∨ q_st o') → o' ≠ o := fun o' h' e => by
    subst e
    exact h'.elim (fun z => h.2.1 o' z hT) (fun z => hst z)
  refine ⟨fun o' h' => ?_, fun o' h' => ?_, fun z => by rw [hal] at z; cases z⟩
  · rw [← h.1 o' h']
    simp [va_up, hne o' h']
  · have := h.2.1 o' h'
    show va_up T o t o' ≠ 0
    unfold va_up
    rw [if_neg (hne o' (Or.inl h'))]
    exact this
theorem q_lm_up {ad : Nat → Nat} {o q : Nat} (h : ∀ x ∈ lv, x.2 ≠ .ref o) : q_lm (va_up ad o q) lv = q_lm ad lv := List.map_congr_left fun x hx => by rw [q_tr_up (h x hx)]
theorem q_st_up {ad : Nat → Nat} {o q : Nat} (h : ∀ x ∈ st, x ≠ .ref o) : st.map (q_tr (va_up ad o q)) = st.map (q_tr ad) := List.map_congr_left fun x hx => q_tr_up (h x hx)
/-- a class whose objects may be made, by what the tables say -/
def q_NW (own : String) (idx ci N : Nat) : Prop := ∃ (C : String) (Tt : u_T) (ty : Nat → FieldType), q_classes[ci]? = some (C, Tt, N) ∧ Cond.classLink own idx C ∈ q_gtb ∧ Cond.instantiable C N ∈ q_gtb ∧ Cond.initialized C ∈ q_gtb ∧ (∀ w ∈ u_ws C Tt N, w ∈ q_gtb) ∧ (∀ k, k < N → parseFieldDescriptor (Tt k).2.2.1 = some (ty k)) ∧ (q_rt ci).length = N ∧ ∀ k, k < N → defaultValue (ty k) = if (q_rt ci).getD k false then .null else .int 0
theorem g_new (X : q_X p s m args meth c K A ad0 nL cc own ret) {idx ci N : Nat} (o : Nat) (hW : q_NW own idx ci N) (hal : al = true) (h0 : o ≠ 0) (hst : ¬ q_st o) (hT : T o = 0) (hP : ∀ o', T o' ≠ 0 → ∀ k, P o' k ≠ o) (hlv : ∀ x ∈ lv, x.2 ≠ .ref o) (hsk : ∀ x ∈ st, x ≠ .ref o) (hcells : kc + 1 ≤ R.cells) (hslots : kn + N ≤ R.slots) (hd : decode cc pc = .ok (.new idx, 3))
    (kk : GG p l e R s m args below meth c K A g0 ad0 al nL Q F (pc + 3) lv (.ref o :: st) (va_up T o (ci + 10), va_up L o 0, va_up P o (fun _ => 0), va_up M o (fun _ => 0)) (kc + 1) (kn + N)) : GG p l e R s m args below meth c K A g0 ad0 al nL Q F pc lv st (T, L, P, M) kc kn := by
  intro res hF ad H locs ls h1 h2 h3 h4
  obtain ⟨ids, hn, hi, h0i, hPw, hD⟩ := h2
  obtain ⟨C, Tt, ty, w1, w2, w3, w4, w5, w6, w7, w8⟩ := hW
  refine va_new (ci := ci) (fs := q_fs ad (fun _ => 0) (fun _ => 0) (q_rt ci)) X.1 X.2.1 X.2.2.2.2.1 w5 ty w6 X.2.2.2.1 (X.2.2.2.2.1 _ w2) (X.2.2.2.2.1 _ w3) (X.2.2.2.2.1 _ w4) X.2.2.2.2.2.1 hPw hD h3 X.2.2.2.2.2.2.1 w1 (fun j hj => ?_) hcells hslots hd (fun q H1 hP1 hD1 hS1 => ?_)
  · rw [w8 j hj]
    have := q_fs_at (ad := ad) (P := fun _ => 0) (M := fun _ => 0) (rt := q_rt ci) (k := j) (by omega)
    have e9 : (q_fs ad (fun _ => 0) (fun _ => 0) (q_rt ci)).getD j .null = if (q_rt ci).getD j false then q_rf ad 0 else .int 0 := by rw [List.getD_eq_getElem?_getD, this]; rfl
    show _ = (q_fs ad (fun _ => 0) (fun _ => 0) (q_rt ci)).getD j .null
    rw [e9]
    cases (q_rt ci).getD j false <;> rfl
  · have k := kk res hF (va_up ad o q) H1 locs ls (h1.grow hal hst hT) (q_Wd.grow hn hi h0i (by omega) h0 hT hP (by
      rw [q_cell_obj (ci := ci) (by simp [va_up])]
      simp only [va_up, if_pos]
      rw [← q_fs_up (o := o) (q := q) (ad := ad) (fun _ => Ne.symm h0)]) hP1 hD1) hS1 (by rw [q_lm_up hlv]; exact h4)
    rw [List.map_cons, q_st_up hsk, q_trne h0] at k
    have e1 : va_up ad o q o = q := by simp [va_up]
    rw [e1] at k
    exact k
theorem g_newi (X : q_X p s m args meth c K A ad0 nL cc own ret) {n : Int32} (o : Nat) (hW : Cond.arrayClass .int ∈ q_gtb) (hal : al = true) (h0 : o ≠ 0) (hst : ¬ q_st o) (hT : T o = 0) (hP : ∀ o', T o' ≠ 0 → ∀ k, P o' k ≠ o) (hlv : ∀ x ∈ lv, x.2 ≠ .ref o) (hsk : ∀ x ∈ st, x ≠ .ref o) (hn : ¬ n < 0) (hb : n.toNatClampNeg ≤ 100000) (hcells : kc + 1 ≤ R.cells) (hslots : kn + n.toNatClampNeg ≤ R.slots) (hd : decode cc pc = .ok (.newarray .int, 2))
    (kk : GG p l e R s m args below meth c K A g0 ad0 al nL Q F (pc + 2) lv (.ref o :: st) (va_up T o 1, va_up L o n.toNatClampNeg, va_up P o (fun _ => 0), va_up M o (fun _ => 0)) (kc + 1) (kn + n.toNatClampNeg)) : GG p l e R s m args below meth c K A g0 ad0 al nL Q F pc lv (.int n :: st) (T, L, P, M) kc kn := by
  intro res hF ad H locs ls h1 h2 h3 h4
  obtain ⟨ids, hn1, hi, h0i, hPw, hD⟩ := h2
  refine va_newa (atype := .int) X.1 X.2.1 (X.2.2.2.2.1 _ hW) (ty := .int) rfl X.2.2.2.2.2.1 hPw hD h3 X.2.2.2.2.2.2.1 (a0 := (n.toNatClampNeg, .inl (fun _ => 0))) (fun _ => rfl) hn rfl (by show n.toNatClampNeg * 4 ≤ _; omega) hcells hslots hd (fun q cA H1 hK1 hP1 hD1 hS1 => ?_)
  have f1 := (hK1.2 4 (cA, .int) rfl).2
  have f2 := (X.2.2.2.2.2.1.2 0 (K.2.1, .int) rfl).2
  have f3 : cA = K.2.1 := Option.some.inj ((show s.vm.findClass ("[" ++ FieldType.int.toString) = some cA from f1).symm.trans (show s.vm.findClass ("[" ++ FieldType.int.toString) = some K.2.1 from f2))
  subst f3
  have k := kk res hF (va_up ad o q) H1 locs ls (h1.grow hal hst hT) (q_Wd.grow hn1 hi h0i (by decide) h0 hT hP (by
      rw [q_cell_arr (by simp [va_up])]
      simp [va_up]) hP1 hD1) hS1 (by rw [q_lm_up hlv]; exact h4)
  rw [List.map_cons, q_st_up hsk, q_trne h0] at k
  have e1 : va_up ad o q o = q := by simp [va_up]
  rw [e1] at k
  exact k
theorem g_newz (X : q_X p s m args meth c K A ad0 nL cc own ret) {n : Int32} (o : Nat) (hW : Cond.arrayClass .boolean ∈ q_gtb) (hal : al = true) (h0 : o ≠ 0) (hst : ¬ q_st o) (hT : T o = 0) (hP : ∀ o', T o' ≠ 0 → ∀ k, P o' k ≠ o) (hlv : ∀ x ∈ lv, x.2 ≠ .ref o) (hsk : ∀ x ∈ st, x ≠ .ref o) (hn : ¬ n < 0) (hb : n.toNatClampNeg ≤ 100000) (hcells : kc + 1 ≤ R.cells) (hslots : kn + n.toNatClampNeg ≤ R.slots) (hd : decode cc pc = .ok (.newarray .boolean, 2))
    (kk : GG p l e R s m args below meth c K A g0 ad0 al nL Q F (pc + 2) lv (.ref o :: st) (va_up T o 2, va_up L o n.toNatClampNeg, va_up P o (fun _ => 0), va_up M o (fun _ => 0)) (kc + 1) (kn + n.toNatClampNeg)) : GG p l e R s m args below meth c K A g0 ad0 al nL Q F pc lv (.int n :: st) (T, L, P, M) kc kn := by
  intro res hF ad H locs ls h1 h2 h3 h4
  obtain ⟨ids, hn1, hi, h0i, hPw, hD⟩ := h2
  refine va_newa (atype := .boolean) X.1 X.2.1 (X.2.2.2.2.1 _ hW) (ty := .boolean) rfl X.2.2.2.2.2.1 hPw hD h3 X.2.2.2.2.2.2.1 (a0 := (n.toNatClampNeg, .inl (fun _ => 0))) (fun _ => rfl) hn rfl (by show n.toNatClampNeg * 1 ≤ _; omega) hcells hslots hd (fun q cA H1 hK1 hP1 hD1 hS1 => ?_)
  have f1 := (hK1.2 4 (cA, .boolean) rfl).2
  have f2 := (X.2.2.2.2.2.1.2 1 (K.2.2.1, .boolean) rfl).2
  have f3 : cA = K.2.2.1 := Option.some.inj ((show s.vm.findClass ("[" ++ FieldType.boolean.toString) = some cA from f1).symm.trans (show s.vm.findClass ("[" ++ FieldType.boolean.toString) = some K.2.2.1 from f2))
  subst f3
  have k := kk res hF (va_up ad o q) H1 locs ls (h1.grow hal hst hT) (q_Wd.grow hn1 hi h0i (by decide) h0 hT hP (by
      rw [q_cell_bool (by simp [va_up])]
      simp [va_up]) hP1 hD1) hS1 (by rw [q_lm_up hlv]; exact h4)
  rw [List.map_cons, q_st_up hsk, q_trne h0] at k
  have e1 : va_up ad o q o = q := by simp [va_up]
  rw [e1] at k
  exact k
theorem g_objinit (X : q_X p s m args meth c K A ad0 nL cc own ret) {o idx : Nat} (h0 : o ≠ 0) (hW : Cond.methodLink own idx Lib.objectInit ∈ q_gtb ∧ Cond.instanceMethod Lib.objectInit ∈ q_gtb ∧ Cond.code Lib.objectInit ⟨#[0xb1]⟩ 1 none ∈ q_gtb) (hcat : (st.map fun v => v.category).sum + 12 ≤ R.locals) (hfr : 1 ≤ R.frames) (hd : decode cc pc = .ok (.invokespecial idx, 3))
    (kk : GG p l e R s m args below meth c K A g0 ad0 al nL Q F (pc + 3) lv st g kc kn) : GG p l e R s m args below meth c K A g0 ad0 al nL Q F pc lv (.ref o :: st) g kc kn := by
  intro res hF ad H locs ls h1 h2 h3 h4
  rw [List.map_cons, q_trne h0]
  refine W.objInit X.1 X.2.1 X.2.2.2.1 (X.2.2.2.2.1 _ hW.1) (X.2.2.2.2.1 _ hW.2.1) (X.2.2.2.2.1 _ hW.2.2) rfl (by rw [X.2.2.1]; exact h4.1) rfl hd hfr (by show 2 * 0 + _ + 12 ≤ _; rw [q_cats]; omega) ?_
  exact kk res hF ad H locs ls h1 h2 h3 h4
theorem g_putrF (X : q_X p s m args meth c K A ad0 nL cc own ret) {ci kf idx o r : Nat} (fa : q_FA own idx ci kf true) (hin : meth.name = "<init>") (hfin : q_nofin ci kf = false) (hdec : (q_classes[ci]?.map (fun q => (q.2.1 kf).1)) = some own) (hfit : ∀ (ad : Nat → Nat) (ty : FieldType), parseFieldDescriptor (q_dsc ci kf) = some ty → narrow ty (q_rf ad r) = q_rf ad r ∧ fits ty (q_rf ad r) = true) (hT : T o = ci + 10) (hd : decode cc pc = .ok (.putfield idx, 3))
    (kk : GG p l e R s m args below meth c K A g0 ad0 al nL Q F (pc + 3) lv st (T, L, q_p2 P o kf r, M) kc kn) : GG p l e R s m args below meth c K A g0 ad0 al nL Q F pc lv (.ref r :: .ref o :: st) (T, L, P, M) kc kn := by
  intro res hF ad H locs ls h1 h2 h3 h4
  obtain ⟨C, Tt, N, ty, f1, f2, f3, f4, f5, f6, f7, f8, f9, f10⟩ := fa
  obtain ⟨h0, ws, q0, hP, hD, e, hset⟩ := h2.at (o := o) (by show T o ≠ 0; omega)
  rw [q_cell_obj (ci := ci) hT] at e
  rw [List.map_cons, List.map_cons, q_trne h0]
  have hf : (Tt kf).2.2.2 = true := by
    have z := hfin
    unfold q_nofin at z
    rw [f1] at z
    simpa using z
  have hde : (Tt kf).1 = own := by rw [f1] at hdec; exact Option.some.inj hdec
  have hvv := hfit ad (ty kf) (by unfold q_dsc; rw [f1]; exact f7 kf f2)
  refine va_putF (v := q_rf ad r) X.1 X.2.1 X.2.2.2.2.1 f6 ty f7 f8 X.2.2.2.1 X.2.2.2.2.2.1 hP hD h3 q0 e f1 kf f2 (X.2.2.2.2.1 _ f5) (fun _ z => z) hf hin hde (f7 kf f2) hvv.1 hvv.2 (by rw [q_fs_len]; omega) hd (fun H1 locs1 hP1 hD1 hS1 => ?_)
  have e2 : q_cell K ad (T, L, q_p2 P o kf r, M) o = .inr (ci, (q_fs ad (P o) (M o) (q_rt ci)).set kf (q_rf ad r)) := by
    rw [q_cell_obj (ci := ci) hT, q_fs_setr f4 (by omega)]
    simp only [q_p2, if_pos]
  exact kk res hF ad H1 locs1 ls h1 (hset (T, L, q_p2 P o kf r, M) (fun _ => rfl) (fun o' z => q_cell_p2 o' z) H1 (by rw [e2]; exact hP1) (by rw [e2]; exact hD1)) hS1 h4
theorem g_putiF (X : q_X p s m args meth c K A ad0 nL cc own ret) {ci kf idx o : Nat} {v : Int32} (fa : q_FA own idx ci kf false) (hin : meth.name = "<init>") (hfin : q_nofin ci kf = false) (hdec : (q_classes[ci]?.map (fun q => (q.2.1 kf).1)) = some own) (hI : parseFieldDescriptor (q_dsc ci kf) = some .int) (hT : T o = ci + 10) (hd : decode cc pc = .ok (.putfield idx, 3))
    (kk : GG p l e R s m args below meth c K A g0 ad0 al nL Q F (pc + 3) lv st (T, L, P, q_u2 M o kf v) kc kn) : GG p l e R s m args below meth c K A g0 ad0 al nL Q F pc lv (.int v :: .ref o :: st) (T, L, P, M) kc kn := by
  intro res hF ad H locs ls h1 h2 h3 h4
  obtain ⟨C, Tt, N, ty, f1, f2, f3, f4, f5, f6, f7, f8, f9, f10⟩ := fa
  obtain ⟨h0, ws, q0, hP, hD, e, hset⟩ := h2.at (o := o) (by show T o ≠ 0; omega)
  rw [q_cell_obj (ci := ci) hT] at e
  rw [List.map_cons, List.map_cons, q_trne h0]
  have hf : (Tt kf).2.2.2 = true := by
    have z := hfin
    unfold q_nofin at z
    rw [f1] at z
    simpa using z
  have hde : (Tt kf).1 = own := by rw [f1] at hdec; exact Option.some.inj hdec
  have hI2 : parseFieldDescriptor (Tt kf).2.2.1 = some .int := by
    have z := hI
    unfold q_dsc at z
    rw [f1] at z
    exact z
  refine va_putF (v := .int v) X.1 X.2.1 X.2.2.2.2.1 f6 ty f7 f8 X.2.2.2.1 X.2.2.2.2.2.1 hP hD h3 q0 e f1 kf f2 (X.2.2.2.2.1 _ f5) (fun _ z => z) hf hin hde hI2 rfl rfl (by rw [q_fs_len]; omega) hd (fun H1 locs1 hP1 hD1 hS1 => ?_)
  have e2 : q_cell K ad (T, L, P, q_u2 M o kf v) o = .inr (ci, (q_fs ad (P o) (M o) (q_rt ci)).set kf (.int v)) := by
    rw [q_cell_obj (ci := ci) hT, q_fs_seti f4 (by omega)]
    simp only [q_u2, if_pos]
  exact kk res hF ad H1 locs1 ls h1 (hset (T, L, P, q_u2 M o kf v) (fun _ => rfl) (fun o' z => q_cell_u2 o' z) H1 (by rw [e2]; exact hP1) (by rw [e2]; exact hD1)) hS1 h4
theorem g_callI (X : q_X p s m args meth c K A ad0 nL cc own ret) {o fr lo n na idx mc ms : Nat} {y : MethodName} {b : ByteArray} {al2 : Bool} {rv : Option Value} (h0 : o ≠ 0) (hM : Mt l y b n none fr lo mc ms al2 K (.ref o :: As) g none g') (hW : q_LI own idx y b n na) (hna : As.length = na) (hst : st = As.reverse ++ .ref o :: rest) (hcat : (rest.map fun v => v.category).sum ≤ 8) (hroom : fr + 1 ≤ R.frames ∧ 8 + (n + 11) + lo ≤ R.locals) (hcells : kc + mc ≤ R.cells ∧ kn + ms ≤ R.slots) (hd : decode cc pc = .ok (.invokespecial idx, 3)) (hcl : al2 = true → al = true ∧ (∀ q ∈ lv, q_ok g q.2) ∧ ∀ v ∈ rest, q_ok g v)
    (kk : GG p l e R s m args below meth c K A g0 ad0 al nL Q F (pc + 3) lv rest g' (kc + mc) (kn + ms)) : GG p l e R s m args below meth c K A g0 ad0 al nL Q F pc lv st g kc kn := by
  refine q_callgo (rv := none) (fun ad H locs ls h1 h3 hA1 h2 hsz => ?_) X.2.2.2.2.2.2.1 hcl kk
  obtain ⟨w1, w2, w3, w4, w5, w6, w7⟩ := hW
  have hts := X.2.2.2.2.1
  have e1 : q_tr ad (.ref o) = .ref (ad o) := q_trne h0
  subst hst
  exact va_runI (As := As.map (q_tr ad)) (rest := rest.map (q_tr ad)) (b := ad o) (g := F0 m pc ls ((As.reverse ++ .ref o :: rest).map (q_tr ad))) ⟨X.1, X.2.1, X.2.2.1, X.2.2.2.1, hts⟩ (hM ad H.size) ⟨callB_of na hts (q_good w5) rfl rfl rfl (hts _ w4) (hts _ w1) ⟨w6.1, w6.2, w7⟩ hroom, w3, hts _ w2⟩ ⟨q_Pc_blind, fun U hU hWm => ⟨by rw [List.map_cons, e1], by rw [hU], by rw [hU]; exact h2.weak fun _ _ => trivial, va_K.moved hWm.alike X.2.2.2.2.2.1, by rw [hU]; exact X.2.2.2.2.2.2.2.2.2.to hWm (fun o ho => h1.1 o (Or.inr ho)) hA1 h3.2.1⟩⟩ rfl (by rw [List.length_map]; exact hna) hsz (by simp [e1]) (lv_room (by rw [q_cats]; exact hcat)) hd hcells
end GGalloc
