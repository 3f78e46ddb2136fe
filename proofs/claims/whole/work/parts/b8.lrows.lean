/-! level 1: rows of the law's own: its array of longs, its script, calls that may throw -/
theorem q_cell_long {K : q_KK} {ad : Nat → Nat} {g : q_Mem} {o : Nat} (h : g.1 o = 4) : q_cell K ad g o = .inl (K.2.2.2.2, g.2.1 o, .inr (.inl (fun i => (g.2.2.2 o i).toInt64))) := by
  unfold q_cell
  rw [if_neg (by omega), if_neg (by omega), if_neg (by omega), if_pos h]
theorem wa_long : Cond.arrayClass .long ∈ q_gtb := q_wd 2141 (by decide +kernel) (by decide +kernel)
section GGlaw
variable {ρ : Type} {p : Program} {l : Launch} {e : Env} {R : Room} {s : State} {m : MethodId} {args : Array Value} {below : List Frame} {meth : Method} {c : Code} {K : q_KK} {A : Nat → Prop} {g0 : q_Mem} {ad0 : Nat → Nat} {al : Bool} {nL : Nat} {Q : ρ → State → Prop} {F : Option ρ} {pc : Nat} {lv lv' : List (Nat × Value)} {st rest As : List Value} {g g' : q_Mem} {kc kn : Nat} {cc : ByteArray} {own : String} {ret : Option FieldType}
variable {T : Nat → Nat} {L : Nat → Nat} {P : Nat → Nat → Nat} {M : Nat → Nat → Int32}
variable {y : MethodName} {b : ByteArray} {n na idx ci fr lo mc ms : Nat} {rv : Option Int32}
theorem g_newl (X : q_X p s m args meth c K A ad0 nL cc own ret) {n : Int32} (o : Nat) (hW : Cond.arrayClass .long ∈ q_gtb) (hal : al = true) (h0 : o ≠ 0) (hst : ¬ q_st o) (hT : T o = 0) (hP : ∀ o', T o' ≠ 0 → ∀ k, P o' k ≠ o) (hlv : ∀ x ∈ lv, x.2 ≠ .ref o) (hsk : ∀ x ∈ st, x ≠ .ref o) (hn : ¬ n < 0) (hb : n.toNatClampNeg ≤ 100000) (hcells : kc + 1 ≤ R.cells) (hslots : kn + n.toNatClampNeg ≤ R.slots) (hd : decode cc pc = .ok (.newarray .long, 2))
    (kk : GG p l e R s m args below meth c K A g0 ad0 al nL Q F (pc + 2) lv (.ref o :: st) (va_up T o 4, va_up L o n.toNatClampNeg, va_up P o (fun _ => 0), va_up M o (fun _ => 0)) (kc + 1) (kn + n.toNatClampNeg)) : GG p l e R s m args below meth c K A g0 ad0 al nL Q F pc lv (.int n :: st) (T, L, P, M) kc kn := by
  intro res hF ad H locs ls h1 h2 h3 h4
  obtain ⟨ids, hn1, hi, h0i, hPw, hD⟩ := h2
  refine va_newa (atype := .long) X.1 X.2.1 (X.2.2.2.2.1 _ hW) (ty := .long) rfl X.2.2.2.2.2.1 hPw hD h3 X.2.2.2.2.2.2.1 (a0 := (n.toNatClampNeg, .inr (.inl (fun _ => 0)))) (fun _ => rfl) hn rfl (by show n.toNatClampNeg * 8 ≤ _; omega) hcells hslots hd (fun q cA H1 hK1 hP1 hD1 hS1 => ?_)
  have f1 := (hK1.2 4 (cA, .long) rfl).2
  have f2 := (X.2.2.2.2.2.1.2 3 (K.2.2.2.2, .long) rfl).2
  have f3 : cA = K.2.2.2.2 := Option.some.inj ((show s.vm.findClass ("[" ++ FieldType.long.toString) = some cA from f1).symm.trans (show s.vm.findClass ("[" ++ FieldType.long.toString) = some K.2.2.2.2 from f2))
  subst f3
  have k := kk res hF (va_up ad o q) H1 locs ls (h1.grow hal hst hT) (q_Wd.grow hn1 hi h0i (by decide) h0 hT hP (by
      rw [q_cell_long (by simp [va_up])]
      simp [va_up]) hP1 hD1) hS1 (by rw [q_lm_up hlv]; exact h4)
  rw [List.map_cons, q_st_up hsk, q_trne h0] at k
  have e1 : va_up ad o q o = q := by simp [va_up]
  rw [e1] at k
  exact k
theorem g_last (X : q_X p s m args meth c K A ad0 nL cc own ret) {o : Nat} {i x : Int32} {n : Nat} (hT : T o = 4) (hL : L o = n) (hin : vp_in i n) (hd : decode cc pc = .ok (.lastore, 1))
    (kk : GG p l e R s m args below meth c K A g0 ad0 al nL Q F (pc + 1) lv st (T, L, P, q_u2 M o i.toNatClampNeg x) kc kn) : GG p l e R s m args below meth c K A g0 ad0 al nL Q F pc lv (.long x.toInt64 :: .int i :: .ref o :: st) (T, L, P, M) kc kn := by
  intro res hF ad H locs ls h1 h2 h3 h4
  obtain ⟨h0, ws, q0, hP, hD, e, hset⟩ := h2.at (o := o) (by show T o ≠ 0; omega)
  rw [q_cell_long hT] at e
  have e1 : q_tr ad (.ref o) = .ref (ad o) := by simp [q_tr, q_rf, h0]
  rw [List.map_cons, List.map_cons, List.map_cons, e1]
  refine va_last X.1 X.2.1 X.2.2.2.2.2.1 hP hD h3 q0 3 e rfl (by show vp_in i (L o); rw [hL]; exact hin) hd (fun H1 locs1 hP1 hD1 hS1 => ?_)
  have e2 : q_cell K ad (T, L, P, q_u2 M o i.toNatClampNeg x) o = .inl (K.2.2.2.2, L o, .inr (.inl (vp_updL (fun j => (M o j).toInt64) i.toNatClampNeg x.toInt64))) := by
    rw [q_cell_long hT]
    congr 5
    funext j
    show (q_u2 M o i.toNatClampNeg x o j).toInt64 = _
    unfold vp_updL
    by_cases z : j = i.toNatClampNeg
    · rw [z, q_u2_eq, if_pos rfl]
    · rw [q_u2_ne (fun q => z q.2), if_neg z]
  exact kk res hF ad H1 locs1 ls h1 (hset (T, L, P, q_u2 M o i.toNatClampNeg x) (fun _ => rfl) (fun o' z => q_cell_u2 o' z) H1 (by rw [e2]; exact hP1) (by rw [e2]; exact hD1)) hS1 h4
theorem g_lald (X : q_X p s m args meth c K A ad0 nL cc own ret) {o : Nat} {i : Int32} {n : Nat} (hT : g.1 o = 4) (hL : g.2.1 o = n) (hin : vp_in i n) (hd : decode cc pc = .ok (.laload, 1))
    (kk : GG p l e R s m args below meth c K A g0 ad0 al nL Q F (pc + 1) lv (.long (g.2.2.2 o i.toNatClampNeg).toInt64 :: st) g kc kn) : GG p l e R s m args below meth c K A g0 ad0 al nL Q F pc lv (.int i :: .ref o :: st) g kc kn := by
  intro res hF ad H locs ls h1 h2 h3 h4
  obtain ⟨h0, ws, q0, hP, hD, e, -⟩ := h2.at (o := o) (by omega)
  rw [q_cell_long hT] at e
  have e1 : q_tr ad (.ref o) = .ref (ad o) := by simp [q_tr, q_rf, h0]
  rw [List.map_cons, List.map_cons, e1]
  exact va_lald X.1 X.2.1 X.2.2.2.2.2.1 hP q0 3 e rfl (by rw [hL]; exact hin) hd (kk res hF ad H locs ls h1 h2 h3 h4)
/-- the script, at the static number 960 -/
def q_scr (b N : Nat) (xs : Nat → Int32) (A : Nat → Prop) (ad0 : Nat → Nat) (s : State) : Prop := va_X b N xs s s.heap ∧ b < s.heap.size ∧ ¬ A b ∧ ad0 960 = b
theorem g_slen (X : q_X p s m args meth c K A ad0 nL cc own ret) {b N : Nat} {xs : Nat → Int32} (hS : q_scr b N xs A ad0 s) (hd : decode cc pc = .ok (.arraylength, 1))
    (kk : GG p l e R s m args below meth c K A g0 ad0 al nL Q F (pc + 1) lv (.int (nI N) :: st) g kc kn) : GG p l e R s m args below meth c K A g0 ad0 al nL Q F pc lv (.ref 960 :: st) g kc kn := by
  intro res hF ad H locs ls h1 h2 h3 h4
  have e : ad 960 = b := (h1.1 960 (Or.inr ⟨by decide, by decide⟩)).trans hS.2.2.2
  rw [List.map_cons, q_trne (by decide), e]
  exact va_slen X.1 X.2.1 hS.1 hS.2.1 hS.2.2.1 h3 hd (kk res hF ad H locs ls h1 h2 h3 h4)
theorem g_sld (X : q_X p s m args meth c K A ad0 nL cc own ret) {b N : Nat} {xs : Nat → Int32} (hS : q_scr b N xs A ad0 s) {i : Int32} (hin : vp_in i N) (hd : decode cc pc = .ok (.iaload, 1))
    (kk : GG p l e R s m args below meth c K A g0 ad0 al nL Q F (pc + 1) lv (.int (xs i.toNatClampNeg) :: st) g kc kn) : GG p l e R s m args below meth c K A g0 ad0 al nL Q F pc lv (.int i :: .ref 960 :: st) g kc kn := by
  intro res hF ad H locs ls h1 h2 h3 h4
  have e : ad 960 = b := (h1.1 960 (Or.inr ⟨by decide, by decide⟩)).trans hS.2.2.2
  rw [List.map_cons, List.map_cons, q_trne (by decide), e]
  exact va_sld X.1 X.2.1 hS.1 hS.2.1 hS.2.2.1 h3 hin hd (kk res hF ad H locs ls h1 h2 h3 h4)
/-- 'script[i + j]' on the stack -/
theorem g_arg5 (X : q_X p s m args meth c K A ad0 nL cc own ret) {b N : Nat} {xs : Nat → Int32} (hS : q_scr b N xs A ad0 s) {q : Nat} (j : Nat) {n : Int} (hN : N < 2147483648) (hq : q + j < N) (h0 : lv[0]? = some (0, .ref 960)) (h4 : lv[4]? = some (4, .int (nI q))) (d0 : decode cc pc = .ok (.aload_n 0, 1)) (d1 : decode cc (pc + 1) = .ok (.iload 4, 2)) (d3 : decode cc (pc + 3) = .ok (.iconst n, 1)) (hv : Int32.ofInt n = nI j) (d4 : decode cc (pc + 4) = .ok (.iadd, 1)) (d5 : decode cc (pc + 5) = .ok (.iaload, 1))
    (kk : GG p l e R s m args below meth c K A g0 ad0 al nL Q F (pc + 6) lv (.int (xs (q + j)) :: st) g kc kn) : GG p l e R s m args below meth c K A g0 ad0 al nL Q F pc lv st g kc kn := by
  refine g_aload_n X d0 rfl 0 h0 ?_
  refine g_iload X d1 4 h4 ?_
  refine g_iconst X d3 hv ?_
  refine g_iadd X d4 ?_
  rw [nI_add q j]
  refine g_sld X hS (vp_in_nI hq (by omega)) d5 ?_
  rw [nI_clamp (by omega)]
  exact kk
theorem g_arg6 (X : q_X p s m args meth c K A ad0 nL cc own ret) {b N : Nat} {xs : Nat → Int32} (hS : q_scr b N xs A ad0 s) {q : Nat} (j : Nat) {n : Int} (hN : N < 2147483648) (hq : q + j < N) (h0 : lv[0]? = some (0, .ref 960)) (h4 : lv[4]? = some (4, .int (nI q))) (d0 : decode cc pc = .ok (.aload_n 0, 1)) (d1 : decode cc (pc + 1) = .ok (.iload 4, 2)) (d3 : decode cc (pc + 3) = .ok (.bipush n, 2)) (hv : (Int8.ofInt n).toInt32 = nI j) (d4 : decode cc (pc + 5) = .ok (.iadd, 1)) (d5 : decode cc (pc + 6) = .ok (.iaload, 1))
    (kk : GG p l e R s m args below meth c K A g0 ad0 al nL Q F (pc + 7) lv (.int (xs (q + j)) :: st) g kc kn) : GG p l e R s m args below meth c K A g0 ad0 al nL Q F pc lv st g kc kn := by
  refine g_aload_n X d0 rfl 0 h0 ?_
  refine g_iload X d1 4 h4 ?_
  refine g_bipush X d3 hv ?_
  refine g_iadd X d4 ?_
  rw [nI_add q j]
  refine g_sld X hS (vp_in_nI hq (by omega)) d5 ?_
  rw [nI_clamp (by omega)]
  exact kk
/-- two equal numbers: the jump is taken -/
theorem g_icmpT (X : q_X p s m args meth c K A ad0 nL cc own ret) {x : Int32} {off : Int} (tgt : Nat) (hd : decode cc pc = .ok (.if_icmp .eq off, 3)) (ht : (pc : Int) + off = (tgt : Int)) (kk : GG p l e R s m args below meth c K A g0 ad0 al nL Q F tgt lv st g kc kn) : GG p l e R s m args below meth c K A g0 ad0 al nL Q F pc lv (.int x :: .int x :: st) g kc kn :=
  g_ite (φ := x = x) (g_icmp_eq X tgt hd ht (fun _ => kk) (fun h => absurd rfl h))
end GGlaw
