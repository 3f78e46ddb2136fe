/-! the law: a helper's call, the long that it leaves; the throwers' two ends as one -/
theorem q_goodH {y : MethodName} {b : ByteArray} {n : Nat} {hh : List (Nat × Nat × Nat × Nat)} (h : Cond.codeWith y b n (some .int) hh ∈ q_gtb) : GoodIn q_gtb (Cond.codeWith y b n (some .int) hh :: q_gtb) := by
  intro w hw
  have hm : w ∈ q_gtb := by
    rcases List.mem_cons.mp hw with rfl | hw
    · exact h
    · exact hw
  exact ⟨hm, good_of_word (List.all_eq_true.mp q_gtb_good w hm)⟩
section GGsh
variable {ρ : Type} {p : Program} {l : Launch} {e : Env} {R : Room} {s : State} {m : MethodId} {args : Array Value} {below : List Frame} {meth : Method} {c : Code} {K : q_KK} {A : Nat → Prop} {g0 : q_Mem} {ad0 : Nat → Nat} {al : Bool} {nL : Nat} {Q : ρ → State → Prop} {F : Option ρ} {pc : Nat} {lv lv' : List (Nat × Value)} {st rest As : List Value} {g g' : q_Mem} {kc kn : Nat} {cc : ByteArray} {own : String} {ret : Option FieldType}
variable {y : MethodName} {b : ByteArray} {n na idx fr lo mc ms : Nat} {hh : List (Nat × Nat × Nat × Nat)} {r : Int32}
theorem g_callSH (X : q_X p s m args meth c K A ad0 nL cc own ret) (hM : LMt l y b n hh fr lo mc ms K As g (some (.int r)) g') (hW : q_LH own idx y b n hh na) (hTz : q_Tz A s s.heap) (hna : As.length = na) (hst : st = As.reverse ++ rest) (hcat : (rest.map fun v => v.category).sum ≤ 8) (hroom : fr + 1 ≤ R.frames ∧ 8 + (n + 11) + lo ≤ R.locals) (hcells : kc + mc ≤ R.cells ∧ kn + ms ≤ R.slots) (hd : decode cc pc = .ok (.invokestatic idx, 3))
    (kk : GG p l e R s m args below meth c K A g0 ad0 al nL Q F (pc + 3) lv (.int r :: rest) g' (kc + mc) (kn + ms)) : GG p l e R s m args below meth c K A g0 ad0 al nL Q F pc lv st g kc kn := by
  refine q_callgo (al2 := false) (rv := some (.int r)) (fun ad H locs ls h1 h3 hA1 h2 hsz => ?_) X.2.2.2.2.2.2.1 (fun h => by cases h) kk
  obtain ⟨w1, w2, w3, w4, w5, w6⟩ := hW
  have hts := X.2.2.2.2.1
  subst hst
  exact vx_runSW (As := As.map (q_tr ad)) (rest := rest.map (q_tr ad)) (g := F0 m pc ls ((As.reverse ++ rest).map (q_tr ad))) ⟨X.1, X.2.1, X.2.2.1, X.2.2.2.1, hts⟩ (hM ad H.size) ⟨⟨rfl, rfl, hroom.1, hroom.2, pay_in hts (q_goodH w4), List.mem_cons_self⟩, hts _ w4, hts _ w3, w5, fun sig h => by rw [h] at w6; exact (Option.some.inj w6).symm, hts _ w1, hts _ w2⟩ ⟨q_PX_blind, fun U hU hWm => ⟨rfl, by rw [hU], by rw [hU]; exact h2.weak fun _ _ => trivial, va_K.moved hWm.alike X.2.2.2.2.2.1, by rw [hU]; exact X.2.2.2.2.2.2.2.2.2.to hWm (fun o ho => h1.1 o (Or.inr ho)) hA1 h3.2.1, by rw [hU]; exact hTz.to hWm hA1 h3.2.1⟩⟩ rfl (by rw [List.length_map]; exact hna) hsz (by simp) (lv_room (by rw [q_cats]; exact hcat)) hd hcells
end GGsh
theorem q_lw_out {c : Nat → Nat} {M m o : q_MM} {v : Int32} : (q_lw c M m (q_u2 o 6000 0 v)).2.2.2 6000 0 = v := by
  show (if (q_un (q_wM m) (q_wO (q_u2 o 6000 0 v))).1 6000 ≠ 0 then (q_un (q_wM m) (q_wO (q_u2 o 6000 0 v))).2.2.2 6000 else M 6000) 0 = v
  rw [if_pos (q_un_ne.mpr (Or.inr (q_O4 rfl)))]
  show (if (q_wO (q_u2 o 6000 0 v)).1 6000 ≠ 0 then q_u2 o 6000 0 v 6000 else m 6000) 0 = v
  rw [if_pos (q_O4 rfl)]
  exact q_u2_eq
theorem lg_same (x : Int64) : lg_cmp x x = 0 := by
  unfold lg_cmp
  simp
def a_Xt (c : Nat → Nat) (ft : Option (Option Int32 × q_MM)) (fm : Option (Int32 × q_MM)) : Prop := ∃ rv r n' M' m', ft = some (rv, M') ∧ fm = some (r, m') ∧ m' 5001 0 = q_hk rv ∧ (∀ v, rv = some v → v = r) ∧ a_X c n' m' M'
theorem px_row {c n : Nat → Nat} {m M : q_MM} (h : a_X c n m M) (a1 : Int32) : a_Xt c (ft_X11_row c M a1) (f_X12_row m a1) := by
  rcases pub_row h a1 with ⟨-, r, n', m', h1, h2, h3, h4⟩ | ⟨hn, r, n', m', h2, h3, h4⟩
  · exact ⟨some r, r, n', M, m', e_row1 h1, h2, h3, fun v hv => by cases hv; rfl, h4⟩
  · exact ⟨none, r, n', M, m', e_row0 hn, h2, h3, (fun v hv => (by cases hv)), h4⟩
theorem px_at {c n : Nat → Nat} {m M : q_MM} (h : a_X c n m M) (a1 a2 : Int32) : a_Xt c (ft_X11_at c M a1 a2) (f_X12_at m a1 a2) := by
  rcases pub_at h a1 a2 with ⟨-, r, n', m', h1, h2, h3, h4⟩ | ⟨hn, r, n', m', h2, h3, h4⟩
  · exact ⟨some r, r, n', M, m', e_at1 h1, h2, h3, fun v hv => by cases hv; rfl, h4⟩
  · exact ⟨none, r, n', M, m', e_at0 h hn, h2, h3, (fun v hv => (by cases hv)), h4⟩
theorem px_like {c n : Nat → Nat} {m M : q_MM} (h : a_X c n m M) (a1 a2 a3 : Int32) : a_Xt c (ft_X11_like c M a1 a2 a3) (f_X12_like m a1 a2 a3) := by
  rcases pub_like h a1 a2 a3 with ⟨-, r, M', m', h1, h2, h3, h4⟩ | ⟨hn, r, n', m', h2, h3, h4⟩
  · exact ⟨some r, r, n, M', m', e_like1 h1, h2, h3, fun v hv => by cases hv; rfl, h4⟩
  · exact ⟨none, r, n', M, m', e_like0 hn, h2, h3, (fun v hv => (by cases hv)), h4⟩
theorem px_best {c n : Nat → Nat} {m M : q_MM} (h : a_X c n m M) (a1 a2 : Int32) : a_Xt c (ft_X11_best c M a1 a2) (f_X12_best m a1 a2) := by
  rcases pub_best h a1 a2 with ⟨r, n', M', m', h1, h2, h3, h4⟩ | ⟨r, n', M', m', hn, h2, h3, h4⟩
  · exact ⟨some r, r, n', M', m', e_best1 h1, h2, h3, fun v hv => by cases hv; rfl, h4⟩
  · exact ⟨none, r, n', M', m', e_best0 hn, h2, h3, (fun v hv => (by cases hv)), h4⟩
theorem q_lwok {c : Nat → Nat} {M m o : q_MM} {x : Int32} : ∀ q ∈ ([(0, .ref 960), (1, .ref 1), (2, .ref 5001), (3, .ref 6000), (4, .int x)] : List (Nat × Value)), q_ok (q_lw c M m o) q.2 := by
  intro q hq
  simp only [List.mem_cons, List.not_mem_nil, or_false] at hq
  rcases hq with rfl | rfl | rfl | rfl | rfl
  · exact Or.inr (Or.inr ⟨by decide, by decide⟩)
  · exact Or.inr (Or.inl (by show (21 : Nat) ≠ 0; decide))
  · exact Or.inr (Or.inl (by show (22 : Nat) ≠ 0; decide))
  · exact Or.inr (Or.inl (by show (4 : Nat) ≠ 0; decide))
  · trivial
