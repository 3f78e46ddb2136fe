/-! level 1: memories that are alike (they differ only where no cell looks) -/
def q_alk (g g' : q_Mem) : Prop := (∀ o, g'.1 o = g.1 o) ∧ ∀ o, g.1 o ≠ 0 → (g.1 o ≤ 4 → g'.2.1 o = g.2.1 o) ∧ (g.1 o = 1 ∨ g.1 o = 2 ∨ g.1 o = 4 → ∀ x, x < g.2.1 o → g'.2.2.2 o x = g.2.2.2 o x) ∧ (g.1 o = 3 → ∀ x, x < g.2.1 o → g'.2.2.1 o x = g.2.2.1 o x) ∧ (4 < g.1 o → ∀ k, k < (q_rt (g.1 o - 10)).length → ((q_rt (g.1 o - 10)).getD k false = true → g'.2.2.1 o k = g.2.2.1 o k) ∧ ((q_rt (g.1 o - 10)).getD k false = false → g'.2.2.2 o k = g.2.2.2 o k))
theorem q_arrV_cg {cA : ClassId} {n : Nat} {f f' : Nat → Value} (h : ∀ x, x < n → f' x = f x) : arrV cA n f' = arrV cA n f := by
  unfold arrV
  congr 2
  funext j
  exact h j.val j.isLt
theorem q_cell_alk {K : q_KK} {cl : List vw_C} {ad : Nat → Nat} {g g' : q_Mem} {H : Heap} {o : Nat} (h : q_alk g g') (ho : g.1 o ≠ 0) (hv : va_at K.1 cl (ad o, q_cell K ad g o) H) : va_at K.1 cl (ad o, q_cell K ad g' o) H := by
  obtain ⟨hT, hc⟩ := h
  obtain ⟨h1, h2, h3, h4⟩ := hc o ho
  unfold q_cell at hv ⊢
  rw [hT o]
  by_cases z1 : g.1 o = 1
  · rw [if_pos z1] at hv ⊢
    have hv : H[ad o]? = some (arrV K.2.1 (g.2.1 o) (fun j => .int (g.2.2.2 o j))) := hv
    show H[ad o]? = some (arrV K.2.1 (g'.2.1 o) (fun j => .int (g'.2.2.2 o j)))
    rw [h1 (by omega), q_arrV_cg (fun x hx => by rw [h2 (Or.inl z1) x hx])]
    exact hv
  rw [if_neg z1] at hv ⊢
  by_cases z2 : g.1 o = 2
  · rw [if_pos z2] at hv ⊢
    have hv : H[ad o]? = some (arrV K.2.2.1 (g.2.1 o) (fun j => .int (g.2.2.2 o j))) := hv
    show H[ad o]? = some (arrV K.2.2.1 (g'.2.1 o) (fun j => .int (g'.2.2.2 o j)))
    rw [h1 (by omega), q_arrV_cg (fun x hx => by rw [h2 (Or.inr (Or.inl z2)) x hx])]
    exact hv
  rw [if_neg z2] at hv ⊢
  by_cases z3 : g.1 o = 3
  · rw [if_pos z3] at hv ⊢
    have hv : H[ad o]? = some (arrV K.2.2.2.1 (g.2.1 o) (fun j => va_rf (q_arr ad (g.2.2.1 o) j))) := hv
    show H[ad o]? = some (arrV K.2.2.2.1 (g'.2.1 o) (fun j => va_rf (q_arr ad (g'.2.2.1 o) j)))
    rw [h1 (by omega), q_arrV_cg (fun x hx => by unfold q_arr; rw [h3 z3 x hx])]
    exact hv
  rw [if_neg z3] at hv ⊢
  by_cases z4 : g.1 o = 4
  · rw [if_pos z4] at hv ⊢
    have hv : H[ad o]? = some (arrV K.2.2.2.2 (g.2.1 o) (fun j => .long (g.2.2.2 o j).toInt64)) := hv
    show H[ad o]? = some (arrV K.2.2.2.2 (g'.2.1 o) (fun j => .long (g'.2.2.2 o j).toInt64))
    rw [h1 (by omega), q_arrV_cg (fun x hx => by rw [h2 (Or.inr (Or.inr z4)) x hx])]
    exact hv
  rw [if_neg z4] at hv ⊢
  have e : q_fs ad (g'.2.2.1 o) (g'.2.2.2 o) (q_rt (g.1 o - 10)) = q_fs ad (g.2.2.1 o) (g.2.2.2 o) (q_rt (g.1 o - 10)) := by
    unfold q_fs
    apply List.map_congr_left
    intro k hk
    obtain ⟨a1, a2⟩ := h4 (by omega) k (List.mem_range.mp hk)
    cases zz : (q_rt (g.1 o - 10)).getD k false
    · rw [if_neg (by decide), if_neg (by decide), a2 zz]
    · rw [if_pos rfl, if_pos rfl, a1 zz]
  rw [e]
  exact hv
theorem q_Wd.alk {K : q_KK} {ad : Nat → Nat} {A : Nat → Prop} {g g' : q_Mem} {H : Heap} (hw : q_Wd K ad A g H) (h : q_alk g g') : q_Wd K ad A g' H := by
  obtain ⟨ids, w1, w2, w3, w4, w5, w6⟩ := hw
  have at' : ∀ (k : Nat) (q : Nat × va_E), (q_ws K ad g' ids)[k]? = some q → ∃ o, o ∈ ids ∧ ids[k]? = some o ∧ q = (ad o, q_cell K ad g' o) ∧ (q_ws K ad g ids)[k]? = some (ad o, q_cell K ad g o) := fun k q hk => by
    unfold q_ws at hk ⊢
    rw [List.getElem?_map] at hk ⊢
    cases e : ids[k]? with
    | none => rw [e] at hk; cases hk
    | some o =>
      rw [e] at hk
      cases hk
      exact ⟨o, List.mem_of_getElem? e, rfl, rfl, rfl⟩
  refine ⟨ids, w1, fun o => by rw [h.1 o]; exact w2 o, w3, fun k q hk => ?_, fun i j p q hp hq hpq => ?_, fun k q hk => ?_⟩
  · obtain ⟨o, o1, o2, rfl, o3⟩ := at' k q hk
    exact q_cell_alk h ((w2 o).mpr o1) (w4 k _ o3)
  · obtain ⟨o, o1, o2, rfl, o3⟩ := at' i p hp
    obtain ⟨o', q1, q2, rfl, q3⟩ := at' j q hq
    exact w5 i j _ _ o3 q3 hpq
  · obtain ⟨o, o1, o2, rfl, o3⟩ := at' k q hk
    exact w6 k (ad o, q_cell K ad g o) o3
/-- a run goes on alike from memories that are alike -/
theorem g_alk {ρ : Type} {p : Program} {l : Launch} {e : Env} {R : Room} {s : State} {m : MethodId} {args : Array Value} {below : List Frame} {meth : Method} {c : Code} {K : q_KK} {A : Nat → Prop} {g0 : q_Mem} {ad0 : Nat → Nat} {al : Bool} {nL : Nat} {Q : ρ → State → Prop} {F : Option ρ} {pc : Nat} {lv : List (Nat × Value)} {st : List Value} {g g' : q_Mem} {kc kn : Nat} (h : q_alk g g') (k : GG p l e R s m args below meth c K A g0 ad0 al nL Q F pc lv st g' kc kn) : GG p l e R s m args below meth c K A g0 ad0 al nL Q F pc lv st g kc kn := by
  intro res hF ad H locs ls hx hw hs hl
  exact k res hF ad H locs ls ⟨hx.1, fun o ho => by rw [h.1 o]; exact hx.2.1 o ho, hx.2.2⟩ (hw.alk h) hs hl
