/-! THE ABSTRACT MEMORY: cells have numbers (0: null), a kind, a length, references, ints; a world ties them to a heap -/
abbrev q_Mem : Type := (Nat → Nat) × (Nat → Nat) × (Nat → Nat → Nat) × (Nat → Nat → Int32)
abbrev q_KK : Type := va_G × ClassId × ClassId × ClassId × ClassId
abbrev q_classes : List vw_C := [(RX0, TX0, 4), (RX1, TX1, 2), (RX2, TX2, 13), (RX3, TX3, 8), (RX4, TX4, 2), (RX5, TX5, 14), (RX6, TX6, 8), (RX7, TX7, 3), (RX8, TX8, 5), (RX9, TX9, 5), (RX10, TX10, 9), (RX11, TX11, 11), (RX12, TX12, 77), (RJx4a65c, TJx4a65c, 3)]
/-- which fields hold references -/
def q_isr : FieldType → Bool
  | .object _ => true
  | .array _ => true
  | _ => false
def q_rts : List (List Bool) := [(List.range 4).map (fun k => q_isr (tyX0 k)), (List.range 2).map (fun k => q_isr (tyX1 k)), (List.range 13).map (fun k => q_isr (tyX2 k)), (List.range 8).map (fun k => q_isr (tyX3 k)), (List.range 2).map (fun k => q_isr (tyX4 k)), (List.range 14).map (fun k => q_isr (tyX5 k)), (List.range 8).map (fun k => q_isr (tyX6 k)), (List.range 3).map (fun k => q_isr (tyX7 k)), (List.range 5).map (fun k => q_isr (tyX8 k)), (List.range 5).map (fun k => q_isr (tyX9 k)), (List.range 9).map (fun k => q_isr (tyX10 k)), (List.range 11).map (fun k => q_isr (tyX11 k)), (List.range 77).map (fun k => q_isr (tyX12 k)), (List.range 3).map (fun k => q_isr (tyJx4a65c k))]
def q_rt (ci : Nat) : List Bool := q_rts.getD ci []
def q_gtb : List Cond := lw_tbl.filter goodWord
theorem q_gtb_good : q_gtb.all goodWord = true := List.all_eq_true.mpr fun _ h => (List.mem_filter.mp h).2
theorem q_in {w : Cond} (h : w ∈ lw_tbl) (g : goodWord w = true) : w ∈ q_gtb := List.mem_filter.mpr ⟨h, g⟩
def q_rf (ad : Nat → Nat) (r : Nat) : Value := if r = 0 then .null else .ref (ad r)
def q_tr (ad : Nat → Nat) : Value → Value
  | .ref r => q_rf ad r
  | v => v
theorem q_tr_cat (ad : Nat → Nat) (v : Value) : (q_tr ad v).category = v.category := by
  cases v <;> first | rfl | (simp only [q_tr, q_rf]; split <;> rfl)
def q_fs (ad : Nat → Nat) (P : Nat → Nat) (M : Nat → Int32) (rt : List Bool) : List Value := (List.range rt.length).map fun k => if rt.getD k false then q_rf ad (P k) else .int (M k)
theorem q_fs_at {ad : Nat → Nat} {P : Nat → Nat} {M : Nat → Int32} {rt : List Bool} {k : Nat} (h : k < rt.length) : (q_fs ad P M rt)[k]? = some (if rt.getD k false then q_rf ad (P k) else .int (M k)) := by
  simp [q_fs, h]
theorem q_fs_len {ad : Nat → Nat} {P : Nat → Nat} {M : Nat → Int32} {rt : List Bool} : (q_fs ad P M rt).length = rt.length := by simp [q_fs]
def q_arr (ad : Nat → Nat) (f : Nat → Nat) : Nat → Option Nat := fun i => if f i = 0 then none else some (ad (f i))
theorem q_arr_rf (ad : Nat → Nat) (f : Nat → Nat) (i : Nat) : va_rf (q_arr ad f i) = q_rf ad (f i) := by
  unfold q_arr q_rf
  split <;> rfl
def q_cell (K : q_KK) (ad : Nat → Nat) (g : q_Mem) (o : Nat) : va_E :=
  if g.1 o = 1 then .inl (K.2.1, g.2.1 o, .inl (g.2.2.2 o))
  else if g.1 o = 2 then .inl (K.2.2.1, g.2.1 o, .inl (g.2.2.2 o))
  else if g.1 o = 3 then .inl (K.2.2.2.1, g.2.1 o, .inr (.inr (.inr (.inr (q_arr ad (g.2.2.1 o))))))
  else if g.1 o = 4 then .inl (K.2.2.2.2, g.2.1 o, .inr (.inl (fun i => (g.2.2.2 o i).toInt64)))
  else .inr (g.1 o - 10, q_fs ad (g.2.2.1 o) (g.2.2.2 o) (q_rt (g.1 o - 10)))
abbrev q_tys (K : q_KK) : List (ClassId × FieldType) := [(K.2.1, .int), (K.2.2.1, .boolean), (K.2.2.2.1, .object "java/lang/Object"), (K.2.2.2.2, .long)]
def q_ws (K : q_KK) (ad : Nat → Nat) (g : q_Mem) (ids : List Nat) : va_W := ids.map fun o => (ad o, q_cell K ad g o)
def q_Wd (K : q_KK) (ad : Nat → Nat) (A : Nat → Prop) (g : q_Mem) (H : Heap) : Prop :=
  ∃ ids : List Nat, ids.Nodup ∧ (∀ o, g.1 o ≠ 0 ↔ o ∈ ids) ∧ 0 ∉ ids ∧ va_P K.1 q_classes (q_ws K ad g ids) H ∧ va_D A (q_ws K ad g ids)
theorem q_ws_at {K : q_KK} {ad : Nat → Nat} {g : q_Mem} {ids : List Nat} {o : Nat} (h : o ∈ ids) : ∃ q0 : Nat, ids[q0]? = some o ∧ (q_ws K ad g ids)[q0]? = some (ad o, q_cell K ad g o) := by
  obtain ⟨q0, h0⟩ := List.getElem?_of_mem h
  exact ⟨q0, h0, by simp [q_ws, h0]⟩
theorem q_ws_set {K : q_KK} {ad : Nat → Nat} {g g' : q_Mem} {ids : List Nat} {o q0 : Nat} (hn : ids.Nodup) (h0 : ids[q0]? = some o) (he : ∀ o', o' ≠ o → q_cell K ad g' o' = q_cell K ad g o') : (q_ws K ad g ids).set q0 (ad o, q_cell K ad g' o) = q_ws K ad g' ids := by
  apply List.ext_getElem?
  intro k
  by_cases hk : k = q0
  · subst hk
    have hl : k < ids.length := (List.getElem?_eq_some_iff.mp h0).1
    rw [List.getElem?_set_self (by simpa [q_ws] using hl)]
    simp [q_ws, h0]
  · rw [List.getElem?_set_ne (Ne.symm hk)]
    simp only [q_ws, List.getElem?_map]
    cases hi : ids[k]? with
    | none => rfl
    | some o' =>
      have hne : o' ≠ o := fun e => hk (by
        subst e
        exact (List.getElem?_inj (List.getElem?_eq_some_iff.mp hi).1 hn).mp (hi.trans h0.symm))
      simp [he o' hne]
def q_u2 (M : Nat → Nat → Int32) (o k : Nat) (v : Int32) : Nat → Nat → Int32 := fun o' => if o' = o then upd (M o) k v else M o'
def q_p2 (P : Nat → Nat → Nat) (o k : Nat) (v : Nat) : Nat → Nat → Nat := fun o' => if o' = o then (fun k' => if k' = k then v else P o k') else P o'
def q_st (o : Nat) : Prop := 900 ≤ o ∧ o < 1000
def q_ext (al : Bool) (ad ad' : Nat → Nat) (g g' : q_Mem) : Prop := (∀ o, (g.1 o ≠ 0 ∨ q_st o) → ad' o = ad o) ∧ (∀ o, g.1 o ≠ 0 → g'.1 o ≠ 0) ∧ (al = false → ad' = ad)
def q_lm (ad : Nat → Nat) (lv : List (Nat × Value)) : List (Nat × Value) := lv.map fun q => (q.1, q_tr ad q.2)
theorem q_lm_at {ad : Nat → Nat} {lv : List (Nat × Value)} {k i : Nat} {v : Value} (h : lv[k]? = some (i, v)) : (q_lm ad lv)[k]? = some (i, q_tr ad v) := by simp [q_lm, h]
theorem q_lm_filter (ad : Nat → Nat) (lv : List (Nat × Value)) (i : Nat) : (q_lm ad lv).filter (fun q => !(q.1 == i) && !(q.1 + 1 == i && q.2.category == 2)) = q_lm ad (lv.filter (fun q => !(q.1 == i) && !(q.1 + 1 == i && q.2.category == 2))) := by
  unfold q_lm
  rw [List.filter_map]
  congr 1
  apply List.filter_congr
  intro x _
  simp [q_tr_cat]
theorem q_lm_filter2 (ad : Nat → Nat) (lv : List (Nat × Value)) (i : Nat) : (q_lm ad lv).filter (fun q => !(q.1 == i) && (!(q.1 == i + 1) && !(q.1 + 1 == i && q.2.category == 2))) = q_lm ad (lv.filter (fun q => !(q.1 == i) && (!(q.1 == i + 1) && !(q.1 + 1 == i && q.2.category == 2)))) := by
  unfold q_lm
  rw [List.filter_map]
  congr 1
  apply List.filter_congr
  intro x _
  simp [q_tr_cat]
/-- the cells that nobody writes: String constants (numbers 900 and on; their bytes 920 and on), the empty array of lists (940), two static fields; and what else the tables say once for all -/
def q_len : List Nat := [12, 2, 10, 3, 2, 3]
def q_byt : List (List Int32) := [[114, 119, 112, 108, 110, 115, 98, 107, 102, 116, 121, 97], [33, 45], [48, 49, 50, 51, 52, 53, 54, 55, 56, 57], [42, 47, 37], [43, 45], [60, 62, 61]]
def q_strs : List (String × Nat × String × Nat) := [("GalleryWalls$Terms", 25, "rwplnsbkftya", 0), ("GalleryWalls$TermReader", 67, "rwplnsbkftya", 0), ("GalleryWallsModel", 200, "rwplnsbkftya", 0), ("GalleryWallsModel", 218, "!-", 1), ("GalleryWallsModel", 209, "0123456789", 2), ("GalleryWallsModel", 229, "*/%", 3), ("GalleryWallsModel", 234, "+-", 4), ("GalleryWallsModel", 239, "<>=", 5)]
def q_csts : List (String × String) := ["GalleryWalls", "GalleryWalls$House", "java/util/ArrayList", "GalleryWalls$Hanging", "GalleryWalls$Terms", "GalleryWalls$TermReader", "GalleryWalls$Numbers", "GalleryWalls$Rows", "GalleryWalls$Moves", "GalleryWallsModel", "GalleryWalls$Door", "GalleryWalls$Wall", "GalleryWalls$Picture", "GalleryWalls$Term", "[Ljava/lang/Object;"].map (fun C => (C, "java/lang/Object")) ++ [("[I", "java/lang/Cloneable")]
def q_nests : List (String × Nat × MethodName × String) := [("GalleryWalls", 9, ⟨"GalleryWalls$House", "<init>", "()V"⟩, "GalleryWalls"), ("GalleryWalls$Terms", 20, ⟨"GalleryWalls$TermReader", "<init>", "()V"⟩, "GalleryWalls")]
def q_Sc (ad : Nat → Nat) (A : Nat → Prop) (U : State) (H : Heap) : Prop :=
  vk_S 6 q_len q_byt (fun i => ad (900 + i)) (fun i => ad (920 + i)) A U H ∧ (∀ t ∈ q_strs, vk_R t.1 t.2.1 t.2.2.1 (ad (900 + t.2.2.2)) U ∧ t.2.2.2 < 6) ∧ va_Z "java/lang/String" "COMPACT_STRINGS" "Z" (.int 1) A U H ∧ va_Z "java/util/ArrayList" "DEFAULTCAPACITY_EMPTY_ELEMENTDATA" "[Ljava/lang/Object;" (.ref (ad 940)) A U H ∧ va_T (.object "java/lang/Object") (ad 940) 0 (fun _ => .null) A U H ∧ va_AO "java/lang/Object" U ∧ va_Mi "[Ljava/lang/Object;" (ad 950) U ∧ va_Dc U ∧ (∀ x ∈ q_csts, va_Nw (.castable x.1 x.2) U) ∧ (∀ x ∈ q_nests, va_Nw (.methodLinkNest x.1 x.2.1 x.2.2.1 x.2.2.2) U)
theorem q_Sc.to {ad ad' : Nat → Nat} {A A' : Nat → Prop} {s U : State} {H H' : Heap} (h : q_Sc ad A s H) (hW : s.WarmedH U.vm) (hst : ∀ o, q_st o → ad' o = ad o) (hA : ∀ q, A' q → A q) (hk : ∀ a : Nat, a < H.size → ¬ A a → H'[a]? = H[a]?) : q_Sc ad' A' U H' := by
  obtain ⟨h1, h2, h3, h4, h5, h6, h7, h8, h9, h10⟩ := h
  have e4 : ad' 940 = ad 940 := hst 940 ⟨by decide, by decide⟩
  refine ⟨⟨fun i hi => ?_, fun i j hi hj e => ?_⟩, fun t ht => ⟨?_, (h2 t ht).2⟩, ((h3.moved hW.alike).kept hk).narrow hA, ?_, ?_, h6.moved hW.alike, ?_, h8.moved hW.alike, fun x hx => (h9 x hx).warmC hW, fun x hx => (h10 x hx).warmM hW⟩
  · have g := (((vk_S.moved hW.alike h1).kept hk).narrow hA).1 i hi
    dsimp only at g ⊢
    rw [hst (900 + i) ⟨by omega, by omega⟩, hst (920 + i) ⟨by omega, by omega⟩]
    exact g
  · dsimp only at e
    rw [hst (900 + i) ⟨by omega, by omega⟩, hst (900 + j) ⟨by omega, by omega⟩] at e
    exact h1.2 i j hi hj e
  · have hi := (h2 t ht).2
    rw [hst (900 + t.2.2.2) ⟨by omega, by omega⟩]
    exact (h2 t ht).1.warm hW
  · rw [e4]; exact ((h4.moved hW.alike).kept hk).narrow hA
  · rw [e4]; exact ((h5.moved hW.alike).kept hk).narrow hA
  · rw [hst 950 ⟨by decide, by decide⟩]; exact h7.moved hW.alike
/-- a program F and the machine at a frame go in step -/
def GG {ρ : Type} (p : Program) (l : Launch) (e : Env) (R : Room) (s : State) (m : MethodId) (args : Array Value) (below : List Frame) (meth : Method) (c : Code) (K : q_KK) (A : Nat → Prop) (g0 : q_Mem) (ad0 : Nat → Nat) (al : Bool) (nL : Nat) (Q : ρ → State → Prop) (F : Option ρ) (pc : Nat) (lv : List (Nat × Value)) (st : List Value) (g : q_Mem) (kc kn : Nat) : Prop :=
  ∀ res, F = some res → ∀ (ad : Nat → Nat) (H : Heap) (locs : List Loc) (ls : Array Slot), q_ext al ad0 ad g0 g → q_Wd K ad A g H → va_S A s.heap H locs → lv_has ls nL (q_lm ad lv) → W p l e R s m args below meth c H locs kc kn (Q res) (F0 m pc ls (st.map (q_tr ad)))
def q_X (p : Program) (s : State) (m : MethodId) (args : Array Value) (meth : Method) (c : Code) (K : q_KK) (A : Nat → Prop) (ad0 : Nat → Nat) (nL : Nat) (cc : ByteArray) (own : String) (ret : Option FieldType) : Prop :=
  p.tables.exec = Jvm.exec ∧ c.code = cc ∧ c.maxLocals = nL ∧ s.vm.findClass own = some m.cls ∧ (∀ w ∈ q_gtb, w.before args s = true) ∧ va_K K.1 q_classes (q_tys K) s ∧ (∀ q, s.heap.size ≤ q → A q) ∧ meth.sig.returnType = ret ∧ meth.locks = false ∧ q_Sc ad0 A s s.heap
section GGrows
variable {ρ : Type} {p : Program} {l : Launch} {e : Env} {R : Room} {s : State} {m : MethodId} {args : Array Value} {below : List Frame} {meth : Method} {c : Code} {K : q_KK} {A : Nat → Prop} {g0 : q_Mem} {ad0 : Nat → Nat} {al : Bool} {nL : Nat} {Q : ρ → State → Prop} {F F' : Option ρ} {pc : Nat} {lv lv' : List (Nat × Value)} {st : List Value} {g : q_Mem} {kc kn : Nat} {cc : ByteArray} {own : String} {ret : Option FieldType}
theorem g_iload_n (X : q_X p s m args meth c K A ad0 nL cc own ret) {k : Fin 4} {i : Nat} {x : Int32} (hd : decode cc pc = .ok (.iload_n k, 1)) (hi : (k : Nat) = i) (j : Nat) (hl : lv[j]? = some (i, .int x))
    (kk : GG p l e R s m args below meth c K A g0 ad0 al nL Q F (pc + 1) lv (.int x :: st) g kc kn) : GG p l e R s m args below meth c K A g0 ad0 al nL Q F pc lv st g kc kn :=
  fun res hF ad H locs ls h1 h2 h3 h4 => lv_iload_n X.1 X.2.1 hd hi (lv_at h4 j (q_lm_at hl)) (kk res hF ad H locs ls h1 h2 h3 h4)
theorem g_iload (X : q_X p s m args meth c K A ad0 nL cc own ret) {i : Nat} {x : Int32} (hd : decode cc pc = .ok (.iload i, 2)) (j : Nat) (hl : lv[j]? = some (i, .int x))
    (kk : GG p l e R s m args below meth c K A g0 ad0 al nL Q F (pc + 2) lv (.int x :: st) g kc kn) : GG p l e R s m args below meth c K A g0 ad0 al nL Q F pc lv st g kc kn :=
  fun res hF ad H locs ls h1 h2 h3 h4 => lv_iload X.1 X.2.1 hd (lv_at h4 j (q_lm_at hl)) (kk res hF ad H locs ls h1 h2 h3 h4)
theorem g_aload_n (X : q_X p s m args meth c K A ad0 nL cc own ret) {k : Fin 4} {i : Nat} {x : Nat} (hd : decode cc pc = .ok (.aload_n k, 1)) (hi : (k : Nat) = i) (j : Nat) (hl : lv[j]? = some (i, .ref x))
    (kk : GG p l e R s m args below meth c K A g0 ad0 al nL Q F (pc + 1) lv (.ref x :: st) g kc kn) : GG p l e R s m args below meth c K A g0 ad0 al nL Q F pc lv st g kc kn := by
  intro res hF ad H locs ls h1 h2 h3 h4
  have h := kk res hF ad H locs ls h1 h2 h3 h4
  have ha := lv_at h4 j (q_lm_at hl)
  by_cases hx : x = 0
  · subst hx
    exact lv_aload_nN X.1 X.2.1 hd hi ha h
  · have e1 : q_tr ad (.ref x) = .ref (ad x) := by simp [q_tr, q_rf, hx]
    rw [List.map_cons, e1] at h
    rw [e1] at ha
    exact lv_aload_n X.1 X.2.1 hd hi ha h
theorem g_aload (X : q_X p s m args meth c K A ad0 nL cc own ret) {i : Nat} {x : Nat} (hd : decode cc pc = .ok (.aload i, 2)) (j : Nat) (hl : lv[j]? = some (i, .ref x))
    (kk : GG p l e R s m args below meth c K A g0 ad0 al nL Q F (pc + 2) lv (.ref x :: st) g kc kn) : GG p l e R s m args below meth c K A g0 ad0 al nL Q F pc lv st g kc kn := by
  intro res hF ad H locs ls h1 h2 h3 h4
  have h := kk res hF ad H locs ls h1 h2 h3 h4
  have ha := lv_at h4 j (q_lm_at hl)
  by_cases hx : x = 0
  · subst hx
    exact lv_aloadN X.1 X.2.1 hd ha h
  · have e1 : q_tr ad (.ref x) = .ref (ad x) := by simp [q_tr, q_rf, hx]
    rw [List.map_cons, e1] at h
    rw [e1] at ha
    exact lv_aload X.1 X.2.1 hd ha h
theorem g_istore_n (X : q_X p s m args meth c K A ad0 nL cc own ret) {k : Fin 4} {i : Nat} {x : Int32} (lv' : List (Nat × Value)) (hd : decode cc pc = .ok (.istore_n k, 1)) (hi : (k : Nat) = i) (hn : i < nL) (hl : (i, Value.int x) :: lv.filter (fun q => !(q.1 == i) && !(q.1 + 1 == i && q.2.category == 2)) = lv')
    (kk : GG p l e R s m args below meth c K A g0 ad0 al nL Q F (pc + 1) lv' st g kc kn) : GG p l e R s m args below meth c K A g0 ad0 al nL Q F pc lv (.int x :: st) g kc kn :=
  fun res hF ad H locs ls h1 h2 h3 h4 => lv_istore_n X.1 X.2.1 (lv' := q_lm ad lv') hd hi h4 hn (by rw [q_lm_filter, ← hl]; rfl) (fun ls' h => kk res hF ad H locs ls' h1 h2 h3 h)
theorem g_istore (X : q_X p s m args meth c K A ad0 nL cc own ret) {i : Nat} {x : Int32} (lv' : List (Nat × Value)) (hd : decode cc pc = .ok (.istore i, 2)) (hn : i < nL) (hl : (i, Value.int x) :: lv.filter (fun q => !(q.1 == i) && !(q.1 + 1 == i && q.2.category == 2)) = lv')
    (kk : GG p l e R s m args below meth c K A g0 ad0 al nL Q F (pc + 2) lv' st g kc kn) : GG p l e R s m args below meth c K A g0 ad0 al nL Q F pc lv (.int x :: st) g kc kn :=
  fun res hF ad H locs ls h1 h2 h3 h4 => lv_istore X.1 X.2.1 (lv' := q_lm ad lv') hd h4 hn (by rw [q_lm_filter, ← hl]; rfl) (fun ls' h => kk res hF ad H locs ls' h1 h2 h3 h)
theorem g_astore_n (X : q_X p s m args meth c K A ad0 nL cc own ret) {k : Fin 4} {i : Nat} {x : Nat} (lv' : List (Nat × Value)) (hd : decode cc pc = .ok (.astore_n k, 1)) (hi : (k : Nat) = i) (hn : i < nL) (hl : (i, Value.ref x) :: lv.filter (fun q => !(q.1 == i) && !(q.1 + 1 == i && q.2.category == 2)) = lv')
    (kk : GG p l e R s m args below meth c K A g0 ad0 al nL Q F (pc + 1) lv' st g kc kn) : GG p l e R s m args below meth c K A g0 ad0 al nL Q F pc lv (.ref x :: st) g kc kn := by
  intro res hF ad H locs ls h1 h2 h3 h4
  have h := fun ls' z => kk res hF ad H locs ls' h1 h2 h3 z
  rw [← hl] at h
  by_cases hx : x = 0
  · subst hx
    exact lv_astore_nN X.1 X.2.1 hd hi h4 hn rfl (fun ls' z => h ls' (by rw [q_lm_filter] at z; exact z))
  · have e1 : q_tr ad (.ref x) = .ref (ad x) := by simp [q_tr, q_rf, hx]
    rw [List.map_cons, e1]
    exact lv_astore_n X.1 X.2.1 hd hi h4 hn rfl (fun ls' z => h ls' (by rw [q_lm_filter] at z; show lv_has ls' nL ((i, q_tr ad (.ref x)) :: q_lm ad _); rw [e1]; exact z))
theorem g_astore (X : q_X p s m args meth c K A ad0 nL cc own ret) {i : Nat} {x : Nat} (lv' : List (Nat × Value)) (hd : decode cc pc = .ok (.astore i, 2)) (hn : i < nL) (hl : (i, Value.ref x) :: lv.filter (fun q => !(q.1 == i) && !(q.1 + 1 == i && q.2.category == 2)) = lv')
    (kk : GG p l e R s m args below meth c K A g0 ad0 al nL Q F (pc + 2) lv' st g kc kn) : GG p l e R s m args below meth c K A g0 ad0 al nL Q F pc lv (.ref x :: st) g kc kn := by
  intro res hF ad H locs ls h1 h2 h3 h4
  have h := fun ls' z => kk res hF ad H locs ls' h1 h2 h3 z
  rw [← hl] at h
  by_cases hx : x = 0
  · subst hx
    exact lv_astoreN X.1 X.2.1 hd h4 hn rfl (fun ls' z => h ls' (by rw [q_lm_filter] at z; exact z))
  · have e1 : q_tr ad (.ref x) = .ref (ad x) := by simp [q_tr, q_rf, hx]
    rw [List.map_cons, e1]
    exact lv_astore X.1 X.2.1 hd h4 hn rfl (fun ls' z => h ls' (by rw [q_lm_filter] at z; show lv_has ls' nL ((i, q_tr ad (.ref x)) :: q_lm ad _); rw [e1]; exact z))
theorem g_iinc (X : q_X p s m args meth c K A ad0 nL cc own ret) {i : Nat} {n : Int} {x v : Int32} (lv' : List (Nat × Value)) (j : Nat) (hd : decode cc pc = .ok (.iinc i n, 3)) (hk : lv[j]? = some (i, .int x)) (hv : Int32.ofInt n = v) (hn : i < nL) (hl : (i, Value.int (x + v)) :: lv.filter (fun q => !(q.1 == i) && !(q.1 + 1 == i && q.2.category == 2)) = lv')
    (kk : GG p l e R s m args below meth c K A g0 ad0 al nL Q F (pc + 3) lv' st g kc kn) : GG p l e R s m args below meth c K A g0 ad0 al nL Q F pc lv st g kc kn :=
  fun res hF ad H locs ls h1 h2 h3 h4 => lv_iinc X.1 X.2.1 (lv' := q_lm ad lv') hd h4 (q_lm_at hk) (by rw [hv]) hn (by rw [q_lm_filter, ← hl]; rfl) (fun ls' h => kk res hF ad H locs ls' h1 h2 h3 h)
theorem g_sub (ks : List Nat) (hl : lv_pick lv ks = lv')
    (kk : GG p l e R s m args below meth c K A g0 ad0 al nL Q F pc lv' st g kc kn) : GG p l e R s m args below meth c K A g0 ad0 al nL Q F pc lv st g kc kn :=
  fun res hF ad H locs ls h1 h2 h3 h4 => kk res hF ad H locs ls h1 h2 h3 (lv_sub h4 ks (by
    rw [← hl]
    unfold lv_pick q_lm
    rw [List.map_filterMap]
    congr 1
    funext k
    simp))
end GGrows
