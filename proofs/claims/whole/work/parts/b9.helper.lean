/-! level 1: methods with a handler: a call that may throw, caught where it is made -/
def LMt (l : Launch) (y : MethodName) (b : ByteArray) (n : Nat) (hh : List (Nat × Nat × Nat × Nat)) (fr lo mc ms : Nat) (K : q_KK) (av : List Value) (g : q_Mem) (rv : Option Value) (g' : q_Mem) : Prop :=
  ∀ (ad : Nat → Nat) (sz : Nat), Met l y (Cond.codeWith y b n (some .int) hh :: q_gtb) { frames := fr, cells := mc, slots := ms, locals := lo } (q_PX K ad g sz av) (q_Qc K false ad g rv g' (q_A ad g sz)) mc ms (q_A ad g sz)
theorem LMt.of {ρ : Type} {l : Launch} {y : MethodName} {b : ByteArray} {n : Nat} {hh : List (Nat × Nat × Nat × Nat)} {fr lo mc ms : Nat} {K : q_KK} {av : List Value} {g : q_Mem} {F : Option ρ} (rvf : ρ → Option Value) (gf : ρ → q_Mem) (hy : plainName y.cls = true) (hN : (lg_sl av).length ≤ n)
    (hbody : ∀ (p : Program) (e : Env) (s : State) (m : MethodId) (args : Array Value) (below : List Frame) (meth : Method) (c : Code) (A : Nat → Prop) (ad : Nat → Nat), q_X p s m args meth c K A ad n b y.cls (some .int) → c.exceptionTable.toList = tableOf hh → q_Tz A s s.heap →
      GG p l e { frames := fr, cells := mc, slots := ms, locals := lo } s m args below meth c K A g ad false n (fun res => MQ below (q_Qc K false ad g (rvf res) (gf res) A) args s mc ms A) F 0 (lv_args 0 av) [] g 0 0) :
    ∀ res, F = some res → LMt l y b n hh fr lo mc ms K av g (rvf res) (gf res) := by
  intro res hF ad sz
  refine MetFree.of_bodyS (code := b) (maxLocals := n) (ret := some .int) hy ?_ ?_
  · intro args s m h hn
    obtain ⟨m9, meth, c, hn9, h1, h2, h3, h4, -, h5, h6, -⟩ := Cond.codeWith_spec (atoms_spec (ws := Cond.codeWith y b n (some .int) hh :: q_gtb) h _ List.mem_cons_self)
    cases hn.symm.trans hn9
    exact ⟨meth, c, h1, h2, h3, h4, h5, h6⟩
  · intro p e s m args below meth c s₁ B hml0 hP _
    have hh0 : s₁.heap = s.heap := by rw [B.state]; rfl
    have hts := atoms_spec (ws := Cond.codeWith y b n (some .int) hh :: q_gtb) B.pre
    have hcw := hts _ List.mem_cons_self
    have ht := vx_table (x := y) B hcw
    have hml : c.maxLocals = n := by
      obtain ⟨m9, meth9, c9, hn9, h1, h2, h3, h4, h5, h6, -⟩ := Cond.codeWith_spec hcw
      cases Option.some.inj (hn9.symm.trans B.named)
      cases Option.some.inj (h1.symm.trans B.method)
      cases Option.some.inj (h2.symm.trans (Stand.of_body B).code)
      assumption
    obtain ⟨rfl, hsz, hW, hK, hSc, hTz⟩ := hP
    subst hsz
    have hown : s.vm.findClass y.cls = some m.cls := findClass_of_methodNamed B.named
    have X : q_X p s m (av.map (q_tr ad)).toArray meth c K (q_A ad g s.heap.size) ad n b y.cls (some .int) := ⟨B.exec, B.bytes, hml, hown, fun w h => hts w (List.mem_cons_of_mem _ h), hK, fun q h => Or.inr h, B.returns, B.notSynchronized, hSc⟩
    have h := hbody p e s m _ below meth c _ ad X ht hTz res hF ad s.heap [] (entryFrame m (av.map (q_tr ad)).toArray n).locals q_ext.rf (hW.weak fun o ho => Or.inl ⟨o, ho, rfl⟩) va_S.rf (by
      rw [lg_entry_eq, ← q_args_lm]
      exact lv_entry (av.map (q_tr ad)) (n := n) (by rw [q_sl_len]; exact hN))
    obtain ⟨t, a1, o, b1, b2, b3⟩ := h s₁ hh0 (Stand.of_body B)
    exact ⟨t, o, a1, b1, b2, b3⟩
/-- the frame rule for such a method -/
theorem LMt.frame {l : Launch} {y : MethodName} {b : ByteArray} {n : Nat} {hh : List (Nat × Nat × Nat × Nat)} {fr lo mc ms : Nat} {K : q_KK} {av : List Value} {g g' : q_Mem} {r : Int32} (hM : LMt l y b n hh fr lo mc ms K av g (some (.int r)) g') (h : q_Mem) (hd : ∀ o, h.1 o ≠ 0 → g.1 o = 0) (hd' : ∀ o, h.1 o ≠ 0 → g'.1 o = 0) (hr' : ∀ o k, g'.1 o ≠ 0 → h.1 (g'.2.2.1 o k) = 0) (hr : ∀ o k, h.1 o ≠ 0 → h.2.2.1 o k ≠ 0 → h.1 (h.2.2.1 o k) ≠ 0 ∨ g.1 (h.2.2.1 o k) ≠ 0 ∨ q_st (h.2.2.1 o k)) : LMt l y b n hh fr lo mc ms K av (q_un g h) (some (.int r)) (q_un g' h) := by
  intro ad sz p e ha hc hk s m args below hf happ hP hK
  obtain ⟨P0, P1, PW, PK, PS, PT⟩ := hP
  have hA : ∀ q, q_A ad g sz q → q_A ad (q_un g h) sz q := fun q z => z.elim (fun ⟨o, o1, o2⟩ => Or.inl ⟨o, q_un_ne.mpr (Or.inl o1), o2⟩) Or.inr
  have Wl := PW.left hd
  obtain ⟨k, o, e1, e2, e3, ⟨⟨ad', x1, x2, x3⟩, F1, F2⟩, L, e5, e6⟩ := hM ad sz p e ha hc hk s m args below hf happ ⟨P0, P1, Wl, PK, PS.to (U := s) (State.WarmedH.refl s) (fun _ _ => rfl) hA (fun _ _ _ => rfl), PT.to (U := s) (State.WarmedH.refl s) hA (fun _ _ _ => rfl)⟩ hK
  obtain ⟨ad2, y1, y2, -⟩ := q_frame_core PW P1 x1 x3 F2 hd hd' hr' hr
  exact ⟨k, o, e1, e2, e3, ⟨⟨ad2, y1, x2, y2⟩, F1, fun q q1 q2 => F2 q q1 (fun z => q2 (hA q z))⟩, L, e5, fun q hq => hA _ (e6 q hq)⟩
theorem q_lawlink : Cond.classLink "GalleryWallsLaw" 13 q_NSE ∈ q_gtb := by
  have h : lw_tbl.any (fun v => decide (v = Cond.classLink "GalleryWallsLaw" 13 q_NSE)) = true := by decide +kernel
  obtain ⟨v, v1, v2⟩ := List.any_eq_true.mp h
  have e : v = _ := of_decide_eq_true v2
  subst e
  exact q_in v1 (by decide +kernel)
section GGtry
variable {ρ : Type} {p : Program} {l : Launch} {e : Env} {R : Room} {s : State} {m : MethodId} {args : Array Value} {below : List Frame} {meth : Method} {c : Code} {K : q_KK} {A : Nat → Prop} {g0 : q_Mem} {ad0 : Nat → Nat} {al : Bool} {nL : Nat} {Q : ρ → State → Prop} {F : Option ρ} {pc : Nat} {lv lv' : List (Nat × Value)} {st rest As : List Value} {g g' : q_Mem} {kc kn : Nat} {cc : ByteArray} {ret : Option FieldType}
variable {y : MethodName} {b : ByteArray} {n na idx ci fr lo mc ms : Nat} {rv : Option Int32}
theorem g_try (X : q_X p s m args meth c K A ad0 nL cc "GalleryWallsLaw" ret) {o i hp hl : Nat} {x : ExceptionTableEntry} (hM : XMt l y b n fr lo mc ms K (.ref o :: As) g rv g') (hW : q_LV "GalleryWallsLaw" idx ci y b n (some .int) na) (hT : g.1 o = ci + 10) (hTz : q_Tz A s s.heap) (hna : As.length = na) (hst : st = As.reverse ++ .ref o :: rest) (hcat : (rest.map fun v => v.category).sum ≤ 8) (hroom : fr + 1 ≤ R.frames ∧ 8 + (n + 11) + lo ≤ R.locals) (hcells : kc + mc ≤ R.cells ∧ kn + ms ≤ R.slots) (hd : decode cc pc = .ok (.invokevirtual idx, 3))
    (htab : c.exceptionTable.toList = [x]) (hx : covers x pc = true) (hct : x.catchType = 13) (hh : x.handlerPc = hp) (hi : i < nL) (hflt : lv.filter (fun q => !(q.1 == i) && !(q.1 + 1 == i && q.2.category == 2)) = lv) (hdh : decode cc hp = .ok (.astore i, 2) ∧ hl = hp + 2 ∨ (∃ k : Fin 4, (k : Nat) = i ∧ decode cc hp = .ok (.astore_n k, 1) ∧ hl = hp + 1))
    (kret : ∀ v, rv = some v → GG p l e R s m args below meth c K A g0 ad0 al nL Q F (pc + 3) lv (.int v :: rest) g' (kc + mc) (kn + ms))
    (kthr : rv = none → GG p l e R s m args below meth c K A g0 ad0 al nL Q F hl lv [] g' (kc + mc) (kn + ms)) : GG p l e R s m args below meth c K A g0 ad0 al nL Q F pc lv st g kc kn := by
  intro res hF ad H locs ls h1 h2 h3 h4 T hTT XS
  have hA1 : ∀ q, q_A ad g H.size q → A q := fun q hq => by
    rcases hq with ⟨o, ho, rfl⟩ | hq
    · exact h2.A ho
    · exact X.2.2.2.2.2.2.1 q (Nat.le_trans h3.1 hq)
  obtain ⟨⟨C, Tt, N, w0, w00⟩, w1, w2, w3, w4, w5, w6, w7⟩ := hW
  have hts := X.2.2.2.2.1
  obtain ⟨h0, ws, q0, hP, hD, e0, -⟩ := h2.at (o := o) (by omega)
  rw [q_cell_obj hT] at e0
  have e1 : q_tr ad (.ref o) = .ref (ad o) := by simp [q_tr, q_rf, h0]
  have cw : CallW R s args "GalleryWallsLaw" C idx y b n (some .int) (Cond.code y b n (some .int) :: q_gtb) { frames := fr, cells := mc, slots := ms, locals := lo } mc ms na :=
    ⟨callB_of na hts (q_good w5) rfl rfl rfl (hts _ w4) (hts _ w1) ⟨w6.1, w6.2, w7⟩ hroom, hts _ w2, by rw [← w00]; exact hts _ w3⟩
  subst hst
  have hR := vx_runV (p := p) (l := l) (e := e) (below := below) (meth := meth) (locs := locs) (As := As.map (q_tr ad)) (rest := rest.map (q_tr ad)) (b := ad o) (g := F0 m pc ls ((As.reverse ++ .ref o :: rest).map (q_tr ad))) ⟨X.1, X.2.1, X.2.2.1, X.2.2.2.1, hts⟩ (hM ad H.size) cw ⟨q_PX_blind, va_recv X.2.2.2.2.2.1 hP w0 e0, fun U hU hWm => ⟨by rw [List.map_cons, e1], by rw [hU], by rw [hU]; exact h2.weak fun _ _ => trivial, va_K.moved hWm.alike X.2.2.2.2.2.1, by rw [hU]; exact X.2.2.2.2.2.2.2.2.2.to hWm (fun o ho => h1.1 o (Or.inr ho)) hA1 h3.2.1, by rw [hU]; exact hTz.to hWm hA1 h3.2.1⟩⟩ rfl (by rw [List.length_map]; exact hna) h4.1 (by simp [e1]) (lv_room (by rw [q_cats]; exact hcat)) hd hcells
  have tail : ∀ {z : Heap} {L : List Loc} (t T' : State), T'.heap = t.heap → (H.size ≤ t.heap.size) → (∀ q : Nat, q < H.size → ¬ q_A ad g H.size q → t.heap[q]? = H[q]?) → (∀ q ∈ L, q_A ad g H.size q.base) → va_S A s.heap T'.heap (locs ++ L) := fun t T' e1 hz hk hL =>
    ⟨Nat.le_trans h3.1 (by rw [e1]; exact hz), fun q a1 a2 => by rw [e1, hk q (Nat.lt_of_lt_of_le a1 h3.1) (fun z => a2 (hA1 q z))]; exact h3.2.1 q a1 a2, fun q hq => by
      rcases List.mem_append.mp hq with h | h
      · exact h3.2.2 q h
      · exact hA1 _ (hL q h)⟩
  rcases hR T hTT XS with ⟨v, st₀, t, T', L, g1, X', hL, k1, k2, ⟨vv, hv, ⟨ad', hx', ho, hW'⟩, hz, hk⟩, stp⟩ | ⟨q, st₀, t, T', L, E, ce, g1, X', hL, k1, k2, ⟨hn, hE, ⟨ad', hx', hW'⟩, hz, hk⟩, hce, hcv, hcl, stp⟩
  · cases ho
    rw [g1] at hz hk
    have ead : ad' = ad := hx'.2.2 rfl
    rw [ead] at hx' hW'
    have h := kret vv hv res hF ad T'.heap (locs ++ L) ls (h1.trans hx' fun (z : false = true) => Bool.noConfusion z) (by rw [k1]; exact hW'.weak fun o ho => hA1 _ (hW'.A ho)) (tail (z := H) t T' k1 hz hk hL) h4
    obtain ⟨t2, a1, b1⟩ := h T' rfl X'
    exact ⟨t2, stp t2 a1, b1⟩
  · rw [g1] at hz hk
    have ead : ad' = ad := hx'.2.2 rfl
    rw [ead] at hx' hW'
    have hK2 := kthr hn res hF ad T'.heap (locs ++ L)
    have hcast : (Cond.castable E q_NSE).before args s = true := by rw [hE]; exact va_tabs rfl rfl hTz.2.2.2
    have hlk : (Cond.classLink "GalleryWallsLaw" x.catchType q_NSE).before args s = true := by rw [hct]; exact hts _ q_lawlink
    have hlm : (q_lm ad lv).filter (fun q => !(q.1 == i) && !(q.1 + 1 == i && q.2.category == 2)) = q_lm ad lv := by rw [q_lm_filter, hflt]
    have drop : ∀ {ls' : Array Slot} {z : Nat × Value}, lv_has ls' nL (z :: q_lm ad lv) → lv_has ls' nL (q_lm ad lv) := fun h => ⟨h.1, h.2.1, fun q hq => h.2.2 q (List.mem_cons_of_mem _ hq)⟩
    have kk : W p l e R s m args below meth c T'.heap (locs ++ L) (kc + mc) (kn + ms) (Q res) (F0 m x.handlerPc ls [.ref q]) := by
      have fin := fun ls' z => hK2 ls' (h1.trans hx' fun (z : false = true) => Bool.noConfusion z) (by rw [k1]; exact hW'.weak fun o ho => hA1 _ (hW'.A ho)) (tail (z := H) t T' k1 hz hk hL) (drop (z := (i, .ref q)) z)
      rw [hh]
      rcases hdh with ⟨d1, d2⟩ | ⟨k, d0, d1, d2⟩
      · subst d2
        exact lv_astore X.1 X.2.1 d1 h4 hi (by rw [hlm]) fin
      · subst d2
        exact lv_astore_n X.1 X.2.1 d1 d0 h4 hi (by rw [hlm]) fin
    have cat := vx_catch (rest := rest.map (q_tr ad)) (pc := pc) X.2.2.2.1 [] x [] (by rw [htab]; rfl) (fun z hz => by cases hz) hx (by rw [hct]; decide) hlk hcast (by rw [k1]; exact hce) hcv hcl kk
    obtain ⟨t2, a1, b1⟩ := cat T' rfl X'
    exact ⟨t2, stp.trans a1, b1⟩
end GGtry
