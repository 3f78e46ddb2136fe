/-! rows on String constants, references in arrays, casts, arraycopy -/
def q_sck {ρ : Type} (o : Nat) (F : Option ρ) : Option ρ := if 900 ≤ o ∧ o < 906 then F else none
def q_bck {ρ : Type} (o : Nat) (F : Option ρ) : Option ρ := if 920 ≤ o ∧ o < 926 then F else none
/-- a byte of a String constant -/
def q_sb {ρ : Type} (o : Nat) (i : Int32) (k : Int32 → Option ρ) : Option ρ := if i < 0 ∨ q_len.getD (o - 920) 0 ≤ i.toNatClampNeg then none else k ((q_byt.getD (o - 920) []).getD i.toNatClampNeg 0)
def q_ldr {ρ : Type} (P : Nat → Nat → Nat) (o n : Nat) (i : Int32) (k : Nat → Option ρ) : Option ρ := if i < 0 ∨ n ≤ i.toNatClampNeg then none else k (P o i.toNatClampNeg)
def q_LX (own : String) (idx : Nat) (y : MethodName) (b : ByteArray) (n : Nat) (ret : Option FieldType) (na : Nat) : Prop :=
  y.cls = "java/lang/String" ∧ Cond.methodLink own idx y ∈ q_gtb ∧ Cond.instanceMethod y ∈ q_gtb ∧ Cond.selects y.cls y y ∈ q_gtb ∧ Cond.initialized y.cls ∈ q_gtb ∧ Cond.code y b n ret ∈ q_gtb ∧ (y.cls ≠ "java/lang/invoke/MethodHandle" ∧ y.cls ≠ "java/lang/invoke/VarHandle") ∧ (parseMethodDescriptor y.desc).map (fun d => d.parameters.length) = some na
def q_if {ρ : Type} (pr : Prop) [Decidable pr] (F : Option ρ) : Option ρ := if pr then F else none
section GGmore
variable {ρ : Type} {p : Program} {l : Launch} {e : Env} {R : Room} {s : State} {m : MethodId} {args : Array Value} {below : List Frame} {meth : Method} {c : Code} {K : q_KK} {A : Nat → Prop} {g0 : q_Mem} {ad0 : Nat → Nat} {al : Bool} {nL : Nat} {Q : ρ → State → Prop} {F F' : Option ρ} {pc : Nat} {lv lv' : List (Nat × Value)} {st rest As : List Value} {g g' : q_Mem} {kc kn : Nat} {cc : ByteArray} {own : String} {ret : Option FieldType}
variable {T : Nat → Nat} {L : Nat → Nat} {P : Nat → Nat → Nat} {M : Nat → Nat → Int32}
theorem g_sck {o : Nat} (kk : 900 ≤ o ∧ o < 906 → GG p l e R s m args below meth c K A g0 ad0 al nL Q F pc lv st g kc kn) : GG p l e R s m args below meth c K A g0 ad0 al nL Q (q_sck o F) pc lv st g kc kn := by
  intro res hF
  unfold q_sck at hF
  split at hF
  · rename_i h; exact kk h res hF
  · cases hF
theorem g_bck {o : Nat} (kk : 920 ≤ o ∧ o < 926 → GG p l e R s m args below meth c K A g0 ad0 al nL Q F pc lv st g kc kn) : GG p l e R s m args below meth c K A g0 ad0 al nL Q (q_bck o F) pc lv st g kc kn := by
  intro res hF
  unfold q_bck at hF
  split at hF
  · rename_i h; exact kk h res hF
  · cases hF
theorem q_trne {ad : Nat → Nat} {o : Nat} (h : o ≠ 0) : q_tr ad (.ref o) = .ref (ad o) := by simp [q_tr, q_rf, h]
theorem g_ldcw (X : q_X p s m args meth c K A ad0 nL cc own ret) {index : Nat} {v : Int32} (hw : Cond.constant own index v ∈ q_gtb) (hd : decode cc pc = .ok (.ldc_w index, 3))
    (kk : GG p l e R s m args below meth c K A g0 ad0 al nL Q F (pc + 3) lv (.int v :: st) g kc kn) : GG p l e R s m args below meth c K A g0 ad0 al nL Q F pc lv st g kc kn :=
  fun res hF ad H locs ls h1 h2 h3 h4 => lv_ldcw X.1 X.2.1 X.2.2.2.1 (X.2.2.2.2.1 _ hw) hd (kk res hF ad H locs ls h1 h2 h3 h4)
theorem g_ldcs (X : q_X p s m args meth c K A ad0 nL cc own ret) {index i o : Nat} {tx : String} (ht : (own, index, tx, i) ∈ q_strs) (ho : o = 900 + i) (hd : decode cc pc = .ok (.ldc index, 2))
    (kk : GG p l e R s m args below meth c K A g0 ad0 al nL Q F (pc + 2) lv (.ref o :: st) g kc kn) : GG p l e R s m args below meth c K A g0 ad0 al nL Q F pc lv st g kc kn := by
  subst ho
  intro res hF ad H locs ls h1 h2 h3 h4
  obtain ⟨hr, hi⟩ := X.2.2.2.2.2.2.2.2.2.2.1 _ ht
  dsimp only at hr hi
  have e1 : q_tr ad (.ref (900 + i)) = .ref (ad0 (900 + i)) := by rw [q_trne (by omega), h1.1 (900 + i) (Or.inr ⟨by omega, by omega⟩)]
  have k := kk res hF ad H locs ls h1 h2 h3 h4
  rw [List.map_cons, e1] at k
  exact va_ldcS X.1 X.2.1 X.2.2.2.1 hr hd k
theorem g_callX (X : q_X p s m args meth c K A ad0 nL cc own ret) {o fr lo n na idx : Nat} {y : MethodName} {b : ByteArray} {rty : Option FieldType} {rv : Option Value} (ho : 900 ≤ o ∧ o < 906) (hM : Mt l y b n rty fr lo 0 0 false K (.ref o :: As) g rv g') (hW : q_LX own idx y b n rty na) (hna : As.length = na) (hst : st = As.reverse ++ .ref o :: rest) (hcat : (rest.map fun v => v.category).sum ≤ 8) (hroom : fr + 1 ≤ R.frames ∧ 8 + (n + 11) + lo ≤ R.locals) (hcells : kc ≤ R.cells ∧ kn ≤ R.slots) (hd : decode cc pc = .ok (.invokevirtual idx, 3))
    (kk : GG p l e R s m args below meth c K A g0 ad0 al nL Q F (pc + 3) lv (rv.toList ++ rest) g' kc kn) : GG p l e R s m args below meth c K A g0 ad0 al nL Q F pc lv st g kc kn := by
  refine q_callgo (al2 := false) (mc := 0) (ms := 0) (fun ad H locs ls h1 h3 hA1 h2 hsz => ?_) X.2.2.2.2.2.2.1 (fun h => by cases h) kk
  obtain ⟨w0, w1, w2, w3, w4, w5, w6, w7⟩ := hW
  have hts := X.2.2.2.2.1
  have e1 : q_tr ad (.ref o) = .ref (ad0 o) := by rw [q_trne (by omega), h1.1 o (Or.inr ⟨by omega, by omega⟩)]
  have hrc := vk_recv (X.2.2.2.2.2.2.2.2.2.1) (i := o - 900) (by omega) h3
  have e2 : 900 + (o - 900) = o := by omega
  rw [e2] at hrc
  have cw : CallW R s args own "java/lang/String" idx y b n rty (Cond.code y b n rty :: q_gtb) { frames := fr, cells := 0, slots := 0, locals := lo } 0 0 na :=
    ⟨callB_of na hts (q_good w5) rfl rfl rfl (hts _ w4) (hts _ w1) ⟨w6.1, w6.2, w7⟩ hroom, hts _ w2, by rw [← w0]; exact hts _ w3⟩
  subst hst
  exact va_runV (As := As.map (q_tr ad)) (rest := rest.map (q_tr ad)) (b := ad0 o) (g := F0 m pc ls ((As.reverse ++ .ref o :: rest).map (q_tr ad))) ⟨X.1, X.2.1, X.2.2.1, X.2.2.2.1, hts⟩ (hM ad H.size) cw ⟨q_Pc_blind, hrc, fun U hU hWm => ⟨by rw [List.map_cons, e1], by rw [hU], by rw [hU]; exact h2.weak fun _ _ => trivial, va_K.moved hWm.alike X.2.2.2.2.2.1, by rw [hU]; exact X.2.2.2.2.2.2.2.2.2.to hWm (fun o ho => h1.1 o (Or.inr ho)) hA1 h3.2.1⟩⟩ rfl (by rw [List.length_map]; exact hna) hsz (by simp [e1]) (lv_room (by rw [q_cats]; exact hcat)) hd hcells
theorem g_bXi (X : q_X p s m args meth c K A ad0 nL cc own ret) {o fr lo n na idx : Nat} {y : MethodName} {b : ByteArray} {rty : Option FieldType} {φ : Type} {f : Option φ} {k : φ → Option ρ} {ri : φ → Int32} {gf : φ → q_Mem} (hM : ∀ r, f = some r → Mt l y b n rty fr lo 0 0 false K (.ref o :: As) g (some (.int (ri r))) (gf r)) (hW : q_LX own idx y b n rty na) (ho : 900 ≤ o ∧ o < 906) (hna : As.length = na) (hst : st = As.reverse ++ .ref o :: rest) (hcat : (rest.map fun v => v.category).sum ≤ 8) (hroom : fr + 1 ≤ R.frames ∧ 8 + (n + 11) + lo ≤ R.locals) (hcells : kc ≤ R.cells ∧ kn ≤ R.slots) (hd : decode cc pc = .ok (.invokevirtual idx, 3))
    (kk : ∀ r, GG p l e R s m args below meth c K A g0 ad0 al nL Q (k r) (pc + 3) lv (.int (ri r) :: rest) (gf r) kc kn) : GG p l e R s m args below meth c K A g0 ad0 al nL Q (f.bind k) pc lv st g kc kn := by
  intro res hF
  obtain ⟨r, h1, h2⟩ := Option.bind_eq_some_iff.mp hF
  exact g_callX X ho (hM r h1) hW hna hst hcat hroom hcells hd (kk r) res h2
theorem g_sval (X : q_X p s m args meth c K A ad0 nL cc own ret) {o idx : Nat} (ho : 900 ≤ o ∧ o < 906) (hw : Cond.fieldLink own idx "java/lang/String" "value" "[B" ∈ q_gtb) (hd : decode cc pc = .ok (.getfield idx, 3))
    (kk : GG p l e R s m args below meth c K A g0 ad0 al nL Q F (pc + 3) lv (.ref (o + 20) :: st) g kc kn) : GG p l e R s m args below meth c K A g0 ad0 al nL Q F pc lv (.ref o :: st) g kc kn := by
  intro res hF ad H locs ls h1 h2 h3 h4
  have k := kk res hF ad H locs ls h1 h2 h3 h4
  have hs := (X.2.2.2.2.2.2.2.2.2.1.1 (o - 900) (by omega)).2.2.1
  have e2 : 900 + (o - 900) = o := by omega
  have e3 : 920 + (o - 900) = o + 20 := by omega
  dsimp only at hs
  rw [e2, e3] at hs
  rw [List.map_cons, q_trne (by omega), h1.1 (o + 20) (Or.inr ⟨by omega, by omega⟩)] at k
  rw [List.map_cons, q_trne (by omega), h1.1 o (Or.inr ⟨by omega, by omega⟩)]
  exact vk_getf X.1 X.2.1 hs h3 X.2.2.2.1 (X.2.2.2.2.1 _ hw) (fun _ z => z) hd k
theorem g_scod (X : q_X p s m args meth c K A ad0 nL cc own ret) {o idx : Nat} (ho : 900 ≤ o ∧ o < 906) (hw : Cond.fieldLink own idx "java/lang/String" "coder" "B" ∈ q_gtb) (hd : decode cc pc = .ok (.getfield idx, 3))
    (kk : GG p l e R s m args below meth c K A g0 ad0 al nL Q F (pc + 3) lv (.int 0 :: st) g kc kn) : GG p l e R s m args below meth c K A g0 ad0 al nL Q F pc lv (.ref o :: st) g kc kn := by
  intro res hF ad H locs ls h1 h2 h3 h4
  have k := kk res hF ad H locs ls h1 h2 h3 h4
  have hs := (X.2.2.2.2.2.2.2.2.2.1.1 (o - 900) (by omega)).2.1
  have e2 : 900 + (o - 900) = o := by omega
  dsimp only at hs
  rw [e2] at hs
  rw [List.map_cons, q_trne (by omega), h1.1 o (Or.inr ⟨by omega, by omega⟩)]
  exact vk_getf X.1 X.2.1 hs h3 X.2.2.2.1 (X.2.2.2.2.1 _ hw) (fun _ z => z) hd k
theorem g_comp (X : q_X p s m args meth c K A ad0 nL cc own ret) {idx : Nat} (hw : Cond.fieldLink own idx "java/lang/String" "COMPACT_STRINGS" "Z" ∈ q_gtb) (hd : decode cc pc = .ok (.getstatic idx, 3))
    (kk : GG p l e R s m args below meth c K A g0 ad0 al nL Q F (pc + 3) lv (.int 1 :: st) g kc kn) : GG p l e R s m args below meth c K A g0 ad0 al nL Q F pc lv st g kc kn :=
  fun res hF ad H locs ls h1 h2 h3 h4 => va_gets X.1 X.2.1 X.2.2.2.2.2.2.2.2.2.2.2.1 h3 X.2.2.2.1 (X.2.2.2.2.1 _ hw) (fun _ z => z) hd (kk res hF ad H locs ls h1 h2 h3 h4)
theorem g_empt (X : q_X p s m args meth c K A ad0 nL cc own ret) {idx : Nat} (hw : Cond.fieldLink own idx "java/util/ArrayList" "DEFAULTCAPACITY_EMPTY_ELEMENTDATA" "[Ljava/lang/Object;" ∈ q_gtb) (hd : decode cc pc = .ok (.getstatic idx, 3))
    (kk : GG p l e R s m args below meth c K A g0 ad0 al nL Q F (pc + 3) lv (.ref 940 :: st) g kc kn) : GG p l e R s m args below meth c K A g0 ad0 al nL Q F pc lv st g kc kn := by
  intro res hF ad H locs ls h1 h2 h3 h4
  have k := kk res hF ad H locs ls h1 h2 h3 h4
  rw [List.map_cons, q_trne (by omega), h1.1 940 (Or.inr ⟨by omega, by omega⟩)] at k
  exact va_gets X.1 X.2.1 X.2.2.2.2.2.2.2.2.2.2.2.2.1 h3 X.2.2.2.1 (X.2.2.2.2.1 _ hw) (fun _ z => z) hd k
theorem g_sbld (X : q_X p s m args meth c K A ad0 nL cc own ret) {o : Nat} {i : Int32} {k : Int32 → Option ρ} (ho : 920 ≤ o ∧ o < 926) (hd : decode cc pc = .ok (.baload, 1))
    (kk : ∀ v : Int32, GG p l e R s m args below meth c K A g0 ad0 al nL Q (k v) (pc + 1) lv (.int v :: st) g kc kn) : GG p l e R s m args below meth c K A g0 ad0 al nL Q (q_sb o i k) pc lv (.int i :: .ref o :: st) g kc kn := by
  intro res hF ad H locs ls h1 h2 h3 h4
  unfold q_sb at hF
  split at hF
  · cases hF
  rename_i z
  have k := kk _ res hF ad H locs ls h1 h2 h3 h4
  have hs := (X.2.2.2.2.2.2.2.2.2.1.1 (o - 920) (by omega)).2.2.2
  have e3 : 920 + (o - 920) = o := by omega
  dsimp only at hs
  rw [e3] at hs
  rw [List.map_cons, List.map_cons, q_trne (by omega), h1.1 o (Or.inr ⟨by omega, by omega⟩)]
  exact va_tb X.1 X.2.1 hs h3 z rfl hd k
theorem g_sbal (X : q_X p s m args meth c K A ad0 nL cc own ret) {o : Nat} (ho : 920 ≤ o ∧ o < 926) (hd : decode cc pc = .ok (.arraylength, 1))
    (kk : GG p l e R s m args below meth c K A g0 ad0 al nL Q F (pc + 1) lv (.int (Int32.ofNat (q_len.getD (o - 920) 0)) :: st) g kc kn) : GG p l e R s m args below meth c K A g0 ad0 al nL Q F pc lv (.ref o :: st) g kc kn := by
  intro res hF ad H locs ls h1 h2 h3 h4
  have k := kk res hF ad H locs ls h1 h2 h3 h4
  have hs := (X.2.2.2.2.2.2.2.2.2.1.1 (o - 920) (by omega)).2.2.2
  have e3 : 920 + (o - 920) = o := by omega
  dsimp only at hs
  rw [e3] at hs
  rw [List.map_cons, q_trne (by omega), h1.1 o (Or.inr ⟨by omega, by omega⟩)]
  exact va_tlen X.1 X.2.1 hs h3 rfl hd k
theorem g_yret {rvf : ρ → Option Value} {gf : ρ → q_Mem} {res0 : ρ} (X : q_X p s m args meth c K A ad0 nL cc own ret) {x : Int32} (hr : ret = some .byte) (h1 : rvf res0 = some (.int x)) (h2 : gf res0 = g) (hd : decode cc pc = .ok (.ireturn, 1)) : GG p l e R s m args below meth c K A g0 ad0 al nL (fun res => MQ below (q_Qc K al ad0 g0 (rvf res) (gf res) A) args s kc kn A) (q_bl x (some res0)) pc lv [.int x] g kc kn := by
  intro res hF ad H locs ls a1 a2 a3 a4
  unfold q_bl at hF
  split at hF
  · rename_i hx
    cases hF
    show W p l e R s m args below meth c H locs kc kn (MQ below (q_Qc K al ad0 g0 (rvf res0) (gf res0) A) args s kc kn A) _
    rw [h1, h2]
    exact W.zret (v := x) X.1 X.2.1 (X.2.2.2.2.2.2.2.1.trans hr) (by rcases hx with rfl | rfl <;> rfl) (fun t ht hW => q_end (rv := some (.int x)) a1 a2 a3 ht) a3.2.2 hd X.2.2.2.2.2.2.2.2.1
  · cases hF
theorem q_cell_refs {K : q_KK} {ad : Nat → Nat} {g : q_Mem} {o : Nat} (h : g.1 o = 3) : q_cell K ad g o = .inl (K.2.2.2.1, g.2.1 o, .inr (.inr (.inr (.inr (q_arr ad (g.2.2.1 o)))))) := by unfold q_cell; rw [if_neg (by omega), if_neg (by omega), if_pos h]
theorem g_ald (X : q_X p s m args meth c K A ad0 nL cc own ret) {o n : Nat} {i : Int32} {k : Nat → Option ρ} (hT : T o = 3) (hL : L o = n) (hd : decode cc pc = .ok (.aaload, 1))
    (kk : ∀ r : Nat, GG p l e R s m args below meth c K A g0 ad0 al nL Q (k r) (pc + 1) lv (.ref r :: st) (T, L, P, M) kc kn) : GG p l e R s m args below meth c K A g0 ad0 al nL Q (q_ldr P o n i k) pc lv (.int i :: .ref o :: st) (T, L, P, M) kc kn := by
  intro res hF ad H locs ls h1 h2 h3 h4
  unfold q_ldr at hF
  split at hF
  · cases hF
  rename_i z
  obtain ⟨h0, ws, q0, hP, hD, e, -⟩ := h2.at (o := o) (by show T o ≠ 0; omega)
  rw [q_cell_refs hT] at e
  rw [List.map_cons, List.map_cons, q_trne h0]
  have k := kk _ res hF ad H locs ls h1 h2 h3 h4
  refine va_aldq X.1 X.2.1 X.2.2.2.2.2.1 hP q0 2 e rfl (by show vp_in i (L o); rw [hL]; exact z) hd ?_
  rw [q_arr_rf]
  exact k
theorem g_cast (X : q_X p s m args meth c K A ad0 nL cc own ret) {o ci idx : Nat} {C : String} {Tt : u_T} {N : Nat} (hc : q_classes[ci]? = some (C, Tt, N)) (hw : Cond.classLink own idx C ∈ q_gtb) (hT : g.1 o = ci + 10) (hd : decode cc pc = .ok (.checkcast idx, 3))
    (kk : GG p l e R s m args below meth c K A g0 ad0 al nL Q F (pc + 3) lv (.ref o :: st) g kc kn) : GG p l e R s m args below meth c K A g0 ad0 al nL Q F pc lv (.ref o :: st) g kc kn := by
  intro res hF ad H locs ls h1 h2 h3 h4
  obtain ⟨h0, ws, q0, hP, hD, e, -⟩ := h2.at (o := o) (by omega)
  rw [q_cell_obj hT] at e
  have k := kk res hF ad H locs ls h1 h2 h3 h4
  rw [List.map_cons, q_trne h0] at k ⊢
  exact va_castS X.1 X.2.1 X.2.2.2.1 (X.2.2.2.2.1 _ hw) (X.2.2.2.2.2.1.1 ci _ hc).2 (va_recv X.2.2.2.2.2.1 hP hc e) hd k
/-- arraycopy of a whole row of ints into another -/
theorem g_copy (X : q_X p s m args meth c K A ad0 nL cc own ret) {o o2 n n2 idx : Nat} {sp dp cn : Int32} {k : (Nat → Nat → Int32) → Option ρ} (hW : Cond.methodLink own idx arraycopyName ∈ q_gtb ∧ Cond.native arraycopyName ∈ q_gtb ∧ Cond.static arraycopyName ∈ q_gtb ∧ Cond.initialized "java/lang/System" ∈ q_gtb) (hT : T o = 1) (hL : L o = n) (hT2 : T o2 = 1) (hL2 : L o2 = n2) (hcat : (st.map fun v => v.category).sum + (nativeFrameWords "java/lang/System" "arraycopy" 5 + 11) ≤ R.locals) (hfr : 1 ≤ R.frames) (h1 : ¬ sp < 0) (h2 : ¬ dp < 0) (h3 : ¬ cn < 0) (h4 : sp.toNatClampNeg + cn.toNatClampNeg ≤ n) (h5 : dp.toNatClampNeg + cn.toNatClampNeg ≤ n2) (hd : decode cc pc = .ok (.invokestatic idx, 3))
    (kk : ∀ M' : Nat → Nat → Int32, GG p l e R s m args below meth c K A g0 ad0 al nL Q (k M') (pc + 3) lv st (T, L, P, M') kc kn) : GG p l e R s m args below meth c K A g0 ad0 al nL Q (q_let (fun o' => if o' = o2 then va_cpy (M o) (M o2) sp.toNatClampNeg dp.toNatClampNeg cn.toNatClampNeg else M o') k) pc lv (.int cn :: .int dp :: .ref o2 :: .int sp :: .ref o :: st) (T, L, P, M) kc kn := by
  intro res hF ad H locs ls a1 a2 a3 a4
  obtain ⟨ids, hn, hi, h0, hP, hD⟩ := a2
  have m1 := (hi o).mp (by show T o ≠ 0; omega)
  have m2 := (hi o2).mp (by show T o2 ≠ 0; omega)
  obtain ⟨q0, e0, f0⟩ := q_ws_at (K := K) (ad := ad) (g := ((T, L, P, M) : q_Mem)) m1
  obtain ⟨q1, e1, f1⟩ := q_ws_at (K := K) (ad := ad) (g := ((T, L, P, M) : q_Mem)) m2
  rw [q_cell_arr (by exact hT)] at f0
  rw [q_cell_arr (by exact hT2)] at f1
  rw [List.map_cons, List.map_cons, List.map_cons, List.map_cons, List.map_cons, q_trne (o := o) (fun z => h0 (z ▸ m1)), q_trne (o := o2) (fun z => h0 (z ▸ m2))]
  refine va_copyi X.1 X.2.1 (X.2.2.1.trans a4.1.symm) X.2.2.2.1 (X.2.2.2.2.1 _ hW.1) (X.2.2.2.2.1 _ hW.2.1) (X.2.2.2.2.1 _ hW.2.2.1) (X.2.2.2.2.1 _ hW.2.2.2) X.2.2.2.2.2.1 hP hD a3 q0 q1 0 0 f0 f1 rfl rfl rfl h1 h2 h3 (by show _ ≤ L o; omega) (by show _ ≤ L o2; omega) (fun _ _ => rfl) hfr (by rw [q_cats]; exact hcat) hd (fun H1 locs1 hP1 hD1 hS1 => ?_)
  have e2 : q_cell K ad (T, L, P, (fun o' => if o' = o2 then va_cpy (M o) (M o2) sp.toNatClampNeg dp.toNatClampNeg cn.toNatClampNeg else M o')) o2 = .inl (K.2.1, L o2, .inl (va_cpy (M o) (M o2) sp.toNatClampNeg dp.toNatClampNeg cn.toNatClampNeg)) := by
    rw [q_cell_arr (by exact hT2)]
    simp only [if_pos]
  have hset := q_ws_set (K := K) (ad := ad) (g := (T, L, P, M)) (g' := (T, L, P, (fun o' => if o' = o2 then va_cpy (M o) (M o2) sp.toNatClampNeg dp.toNatClampNeg cn.toNatClampNeg else M o'))) hn e1 (fun o' z => by unfold q_cell; simp only [if_neg z])
  rw [e2] at hset
  exact kk _ res hF ad H1 locs1 ls a1 ⟨ids, hn, hi, h0, by rw [← hset]; exact hP1, by rw [← hset]; exact hD1⟩ hS1 a4
theorem g_lin (X : q_X p s m args meth c K A ad0 nL cc own ret) {dflt : Int} {ps : Array (Int × Int)} {len : Nat} {x v : Int32} {off : Int} (tgt : Nat) (hx : x = v) (hd : decode cc pc = .ok (.lookupswitch dflt ps, len)) (hp : (ps.toList.zip (ps.toList.drop 1)).all (fun (a, next) => a.1 < next.1) = true) (ho : Op.lookupswitch.offset ps.toList dflt v.toInt = off) (ht : (pc : Int) + off = (tgt : Int))
    (kk : GG p l e R s m args below meth c K A g0 ad0 al nL Q F tgt lv st g kc kn) : GG p l e R s m args below meth c K A g0 ad0 al nL Q F pc lv (.int x :: st) g kc kn := by
  subst hx
  exact fun res hF ad H locs ls a1 a2 a3 a4 => lv_lookup X.1 X.2.1 hd hp ho ht (kk res hF ad H locs ls a1 a2 a3 a4)
theorem q_osw {x : Int32} {d : Int} : ∀ (r : List (Int × Int)) (keys : List Int32), (∀ k ∈ keys, ¬ x = k) → keys.map Int32.toInt = r.map Prod.fst → Op.lookupswitch.offset r d x.toInt = d
  | [], _, _, _ => rfl
  | (a, o) :: r, [], _, h => by cases h
  | (a, o) :: r, k :: ks, hk, h => by
    obtain ⟨h1, h2⟩ := List.cons.inj h
    rw [lv_osw (hk k List.mem_cons_self) h1]
    exact q_osw r ks (fun k h => hk k (List.mem_cons_of_mem _ h)) h2
theorem g_ldef (X : q_X p s m args meth c K A ad0 nL cc own ret) {dflt : Int} {ps : Array (Int × Int)} {len : Nat} {x : Int32} (keys : List Int32) (tgt : Nat) (hk : ∀ k ∈ keys, ¬ x = k) (hd : decode cc pc = .ok (.lookupswitch dflt ps, len)) (hp : (ps.toList.zip (ps.toList.drop 1)).all (fun (a, next) => a.1 < next.1) = true) (hc : keys.map Int32.toInt = ps.toList.map Prod.fst) (ht : (pc : Int) + dflt = (tgt : Int))
    (kk : GG p l e R s m args below meth c K A g0 ad0 al nL Q F tgt lv st g kc kn) : GG p l e R s m args below meth c K A g0 ad0 al nL Q F pc lv (.int x :: st) g kc kn :=
  fun res hF ad H locs ls a1 a2 a3 a4 => lv_lookup X.1 X.2.1 hd hp (q_osw ps.toList keys hk hc) ht (kk res hF ad H locs ls a1 a2 a3 a4)
theorem g_qif {pr : Prop} [Decidable pr] (kk : pr → GG p l e R s m args below meth c K A g0 ad0 al nL Q F pc lv st g kc kn) : GG p l e R s m args below meth c K A g0 ad0 al nL Q (q_if pr F) pc lv st g kc kn := by
  intro res hF
  unfold q_if at hF
  split at hF
  · rename_i h; exact kk h res hF
  · cases hF
end GGmore
