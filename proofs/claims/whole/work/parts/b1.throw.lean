/-! level 1: methods that return or throw -/
def q_NSE : String := "java/util/NoSuchElementException"
def q_dcl : List MethodName := [⟨"java/lang/RuntimeException", "<init>", "()V"⟩, ⟨"java/lang/Exception", "<init>", "()V"⟩, ⟨"java/lang/Throwable", "<init>", "()V"⟩]
theorem q_decl_moved {y : MethodName} {u U : State} (hvm : u.vm.Alike U.vm) (h : va_Nw (.declares y) u) : va_Nw (.declares y) U := by
  have h1 : (Cond.declares y).before #[] (u.setVm U.vm) = true := by
    rw [Cond.declares_setVm hvm]
    exact h
  have e := Cond.onTables_vm (A := #[]) (A' := #[]) (U := u) (U' := U) U.vm (Cond.declares y) rfl
  have hU : U.setVm U.vm = U := rfl
  rw [hU] at e
  unfold va_Nw
  rw [← e]
  exact h1
/-- what a throw needs of the world -/
def q_Tz (A : Nat → Prop) (U : State) (H : Heap) : Prop := vx_Zq Bundle.tN "UNASSIGNED_STACK" Bundle.steD A U H ∧ vx_Zq Bundle.tN "SUPPRESSED_SENTINEL" Bundle.listD A U H ∧ (∀ y ∈ q_dcl, va_Nw (.declares y) U) ∧ va_Nw (.castable q_NSE q_NSE) U
theorem q_Tz.to {A A' : Nat → Prop} {s U : State} {H H' : Heap} (h : q_Tz A s H) (hW : s.WarmedH U.vm) (hA : ∀ q, A' q → A q) (hk : ∀ a : Nat, a < H.size → ¬ A a → H'[a]? = H[a]?) : q_Tz A' U H' :=
  ⟨((vx_Zq.moved hW.alike h.1).kept hk).narrow hA, ((vx_Zq.moved hW.alike h.2.1).kept hk).narrow hA, fun y hy => q_decl_moved hW.alike (h.2.2.1 y hy), h.2.2.2.warmC hW⟩
def q_PX (K : q_KK) (ad : Nat → Nat) (g : q_Mem) (sz : Nat) (av : List Value) : Array Value → State → Prop :=
  va_Pc (av.map (q_tr ad)) (fun U => U.heap.size = sz ∧ q_Wd K ad (fun _ => True) g U.heap ∧ va_K K.1 q_classes (q_tys K) U ∧ q_Sc ad (q_A ad g sz) U U.heap ∧ q_Tz (q_A ad g sz) U U.heap)
theorem q_PX_blind {K : q_KK} {ad : Nat → Nat} {g : q_Mem} {sz : Nat} {av : List Value} : FrameBlind (q_PX K ad g sz av) := fun a U g mk q => by
  obtain ⟨q0, q1, qP, qK, qS, qT⟩ := q
  exact ⟨q0, q1, qP, va_K.moved (u := U) (U := U.calling g mk a) (Vm.Alike.refl U.vm) qK, qS.to (U := U.calling g mk a) (State.WarmedH.refl U) (fun _ _ => rfl) (fun _ h => h) (fun _ _ _ => rfl), qT.to (U := U.calling g mk a) (State.WarmedH.refl U) (fun _ h => h) (fun _ _ _ => rfl)⟩
def q_QX (K : q_KK) (al : Bool) (ad : Nat → Nat) (g : q_Mem) (rv : Option Int32) (g' : q_Mem) (A : Nat → Prop) : Array Value → State → Outcome → State → Prop := fun a st o t => ∃ v : Int32, rv = some v ∧ q_Qc K al ad g (some (.int v)) g' A a st o t
def q_XC (K : q_KK) (al : Bool) (ad : Nat → Nat) (g : q_Mem) (rv : Option Int32) (g' : q_Mem) (A : Nat → Prop) : String → State → State → Prop := fun E st t => rv = none ∧ E = q_NSE ∧ (∃ ad' : Nat → Nat, q_ext al ad ad' g g' ∧ q_Wd K ad' A g' t.heap) ∧ va_F A st t
/-- one run of a method that answers v (rv = some v) or throws (rv = none) -/
def XMt (l : Launch) (y : MethodName) (b : ByteArray) (n : Nat) (fr lo mc ms : Nat) (K : q_KK) (av : List Value) (g : q_Mem) (rv : Option Int32) (g' : q_Mem) : Prop :=
  ∀ (ad : Nat → Nat) (sz : Nat), vx_Met l y (Cond.code y b n (some .int) :: q_gtb) { frames := fr, cells := mc, slots := ms, locals := lo } (q_PX K ad g sz av) (q_QX K false ad g rv g' (q_A ad g sz)) (q_XC K false ad g rv g' (q_A ad g sz)) mc ms (q_A ad g sz)
theorem XMt.of {ρ : Type} {l : Launch} {y : MethodName} {b : ByteArray} {n : Nat} {fr lo mc ms : Nat} {K : q_KK} {av : List Value} {g : q_Mem} {F : Option ρ} (rvf : ρ → Option Int32) (gf : ρ → q_Mem) (hy : plainName y.cls = true) (hN : (lg_sl av).length ≤ n)
    (hbody : ∀ (p : Program) (e : Env) (s : State) (m : MethodId) (args : Array Value) (below : List Frame) (meth : Method) (c : Code) (A : Nat → Prop) (ad : Nat → Nat), q_X p s m args meth c K A ad n b y.cls (some .int) → (∀ x ∈ c.exceptionTable.toList, False) → q_Tz A s s.heap →
      GG p l e { frames := fr, cells := mc, slots := ms, locals := lo } s m args below meth c K A g ad false n (fun res => vx_MQ below (q_QX K false ad g (rvf res) (gf res) A) (q_XC K false ad g (rvf res) (gf res) A) args s mc ms A) F 0 (lv_args 0 av) [] g 0 0) :
    ∀ res, F = some res → XMt l y b n fr lo mc ms K av g (rvf res) (gf res) := by
  intro res hF ad sz
  refine vx_ofW (cc := b) (maxL := n) (ret := some .int) hy rfl ?_
  intro p e s m args below meth c s₁ B hml ht hv
  obtain ⟨rfl, hsz, hW, hK, hSc, hTz⟩ := hv
  subst hsz
  have hts := atoms_spec (ws := Cond.code y b n (some .int) :: q_gtb) B.pre
  have hown : s.vm.findClass y.cls = some m.cls := findClass_of_methodNamed B.named
  have X : q_X p s m (av.map (q_tr ad)).toArray meth c K (q_A ad g s.heap.size) ad n b y.cls (some .int) := ⟨B.exec, B.bytes, hml, hown, fun w h => hts w (List.mem_cons_of_mem _ h), hK, fun q h => Or.inr h, B.returns, B.notSynchronized, hSc⟩
  have h := hbody p e s m _ below meth c _ ad X ht hTz res hF ad s.heap [] (entryFrame m (av.map (q_tr ad)).toArray n).locals q_ext.rf (hW.weak fun o ho => Or.inl ⟨o, ho, rfl⟩) va_S.rf ?_
  · exact h
  · rw [lg_entry_eq, ← q_args_lm]
    exact lv_entry (av.map (q_tr ad)) (n := n) (by rw [q_sl_len]; exact hN)
def q_xws : List Cond := (vx_at0 "GalleryWalls" 253 q_NSE ["java/lang/RuntimeException", "java/lang/Exception"]).filter goodWord
theorem q_xws_in : ∀ w ∈ q_xws, w ∈ q_gtb := by
  have h : q_xws.all (fun w => lw_tbl.any (fun v => decide (v = w))) = true := by decide +kernel
  intro w hw
  obtain ⟨v, v1, v2⟩ := List.any_eq_true.mp (List.all_eq_true.mp h w hw)
  have e : v = w := of_decide_eq_true v2
  subst e
  exact q_in v1 (List.mem_filter.mp hw).2
theorem q_xlink : Cond.classLink "GalleryWalls" 251 q_NSE ∈ q_gtb ∧ Cond.initialized q_NSE ∈ q_gtb := by
  have h : lw_tbl.any (fun v => decide (v = Cond.classLink "GalleryWalls" 251 q_NSE)) = true ∧ lw_tbl.any (fun v => decide (v = Cond.initialized q_NSE)) = true := by decide +kernel
  obtain ⟨⟨v, v1, v2⟩, ⟨w, w1, w2⟩⟩ := And.intro (List.any_eq_true.mp h.1) (List.any_eq_true.mp h.2)
  have e : v = _ := of_decide_eq_true v2
  have e' : w = _ := of_decide_eq_true w2
  subst e
  subst e'
  exact ⟨q_in v1 (by decide +kernel), q_in w1 (by decide +kernel)⟩
theorem q_Wd.kept {K : q_KK} {ad : Nat → Nat} {A : Nat → Prop} {g : q_Mem} {H H' : Heap} (hw : q_Wd K ad A g H) (hk : ∀ q : Nat, q < H.size → H'[q]? = H[q]?) : q_Wd K ad A g H' := by
  obtain ⟨a1, a2, a3⟩ := hw.cells
  obtain ⟨ids, w1, w2, -⟩ := hw
  exact q_Wd.mk ids w1 w2 a1 (fun o ho => ⟨(a2 o ho).1.kept (hk _ (a2 o ho).1.lt), (a2 o ho).2⟩) a3
section GGthrow
variable {ρ : Type} {p : Program} {l : Launch} {e : Env} {R : Room} {s : State} {m : MethodId} {args : Array Value} {below : List Frame} {meth : Method} {c : Code} {K : q_KK} {A : Nat → Prop} {g0 : q_Mem} {ad0 : Nat → Nat} {al : Bool} {nL : Nat} {Q : ρ → State → Prop} {F : Option ρ} {pc : Nat} {lv : List (Nat × Value)} {st rest As : List Value} {g g' : q_Mem} {kc kn : Nat} {cc : ByteArray} {own : String} {ret : Option FieldType}
variable {rvf : ρ → Option Int32} {gf : ρ → q_Mem} {res0 : ρ}
theorem g_xiret (X : q_X p s m args meth c K A ad0 nL cc own ret) {x : Int32} (hr : ret = some .int) (h1 : rvf res0 = some x) (h2 : gf res0 = g) (hd : decode cc pc = .ok (.ireturn, 1)) : GG p l e R s m args below meth c K A g0 ad0 al nL (fun res => vx_MQ below (q_QX K al ad0 g0 (rvf res) (gf res) A) (q_XC K al ad0 g0 (rvf res) (gf res) A) args s kc kn A) (some res0) pc lv [.int x] g kc kn := by
  intro res hF ad H locs ls a1 a2 a3 a4
  cases hF
  show W p l e R s m args below meth c H locs kc kn (vx_MQ below (q_QX K al ad0 g0 (rvf res0) (gf res0) A) (q_XC K al ad0 g0 (rvf res0) (gf res0) A) args s kc kn A) _
  rw [h1, h2]
  exact vx_ret (W.iret (v := x) X.1 X.2.1 (X.2.2.2.2.2.2.2.1.trans hr) (fun t ht hW => ⟨x, rfl, q_end (rv := some (.int x)) a1 a2 a3 ht⟩) a3.2.2 hd X.2.2.2.2.2.2.2.2.1)
theorem g_xthrow (X : q_X p s m args meth c K A ad0 nL cc "GalleryWalls" ret) (hl : l.stackTraces = false) (hT : q_Tz A s s.heap) (hE : ∀ x ∈ c.exceptionTable.toList, False) (h1 : rvf res0 = none) (h2 : gf res0 = g) (d0 : decode cc pc = .ok (.new 251, 3)) (d3 : decode cc (pc + 3) = .ok (.dup, 1)) (d4 : decode cc (pc + 4) = .ok (.invokespecial 253, 3)) (d7 : decode cc (pc + 7) = .ok (.athrow, 1)) (hfr : 5 < R.frames) (hlo : 81 ≤ R.locals) (hc : kc + 1 ≤ R.cells) (hs : kn + 6 ≤ R.slots) {mc ms : Nat} (hmc : kc + 1 ≤ mc) (hms : kn + 6 ≤ ms) : GG p l e R s m args below meth c K A g0 ad0 al nL (fun res => vx_MQ below (q_QX K al ad0 g0 (rvf res) (gf res) A) (q_XC K al ad0 g0 (rvf res) (gf res) A) args s mc ms A) (some res0) pc lv [] g kc kn := by
  intro res hF ad H locs ls a1 a2 a3 a4
  cases hF
  have ot : ∀ {w : Cond}, w.onTables = true → va_Nw w s → w.before args s = true := fun hw h => va_tabs hw rfl h
  have hat : ∀ w ∈ vx_at0 "GalleryWalls" 253 q_NSE ["java/lang/RuntimeException", "java/lang/Exception"], w.before args s = true := by
    refine vx_hat (B := [Cond.declares ⟨"java/lang/RuntimeException", "<init>", "()V"⟩, Cond.declares ⟨"java/lang/Exception", "<init>", "()V"⟩, Cond.declares ⟨"java/lang/Throwable", "<init>", "()V"⟩, Cond.castable q_NSE q_NSE]) (fun w hw => X.2.2.2.2.1 w (q_xws_in w hw)) (by decide +kernel) ?_
    intro w hw
    rcases List.mem_cons.mp hw with rfl | hw
    · exact ot rfl (hT.2.2.1 _ (by simp [q_dcl]))
    rcases List.mem_cons.mp hw with rfl | hw
    · exact ot rfl (hT.2.2.1 _ (by simp [q_dcl]))
    rcases List.mem_cons.mp hw with rfl | hw
    · exact ot rfl (hT.2.2.1 _ (by simp [q_dcl]))
    rcases List.mem_cons.mp hw with rfl | hw
    · exact ot rfl hT.2.2.2
    · cases hw
  exact vx_throw0 (cls := q_NSE) (names := ["java/lang/RuntimeException", "java/lang/Exception"]) (ik := 251) (ic := 253) (A := A) X.1 X.2.1 hl X.2.2.2.1 (by decide +kernel) (by decide +kernel) (X.2.2.2.2.1 _ q_xlink.1) (X.2.2.2.2.1 _ q_xlink.2) hat (by decide +kernel) hT.1 hT.2.1 a3 (a4.1.trans X.2.2.1.symm) d0 d3 d4 d7 (fun x hx => (hE x hx).elim) hfr (by show 0 + (13 * 3 + 42) ≤ R.locals; omega) hc hs X.2.2.2.2.2.2.2.2.1 (fun t ht h3 h4 => ⟨h1, rfl, ⟨ad, by rw [h2]; exact a1, by rw [h2]; exact a2.kept h4⟩, Nat.le_trans a3.1 h3, fun q q1 q2 => by rw [h4 q (Nat.lt_of_lt_of_le q1 a3.1)]; exact a3.2.1 q q1 q2⟩) a3.2.2 hmc hms
end GGthrow
