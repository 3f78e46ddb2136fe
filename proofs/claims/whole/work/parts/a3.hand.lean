/-! level 1: makers: what is known ahead of a new object -/
noncomputable def q_hy {ρ : Type} (pr : Prop) (F : Option ρ) : Option ρ := @ite _ pr (Classical.propDecidable pr) F none
theorem q_hyT {ρ : Type} {pr : Prop} {F : Option ρ} (h : pr) : q_hy pr F = F := by
  unfold q_hy
  rw [if_pos h]
theorem g_hy {ρ : Type} {p : Program} {l : Launch} {e : Env} {R : Room} {s : State} {m : MethodId} {args : Array Value} {below : List Frame} {meth : Method} {c : Code} {K : q_KK} {A : Nat → Prop} {g0 : q_Mem} {ad0 : Nat → Nat} {al : Bool} {nL : Nat} {Q : ρ → State → Prop} {F : Option ρ} {pc : Nat} {lv : List (Nat × Value)} {st : List Value} {g : q_Mem} {kc kn : Nat} {pr : Prop} (kk : pr → GG p l e R s m args below meth c K A g0 ad0 al nL Q F pc lv st g kc kn) : GG p l e R s m args below meth c K A g0 ad0 al nL Q (q_hy pr F) pc lv st g kc kn := by
  intro res hF
  by_cases h : pr
  · rw [q_hyT h] at hF
    exact kk h res hF
  · unfold q_hy at hF
    rw [if_neg h] at hF
    cases hF
theorem z_fr0 {c : Nat → Nat} (hC : a_C c) : qTX c (1000 + c 0) = 0 := by
  obtain ⟨b0, b1, b2, b3⟩ := hC
  unfold qTX q_rg
  rw [if_neg (by omega), if_neg (by omega)]
  repeat rw [if_neg (by omega)]
theorem z_fr1 {c : Nat → Nat} (hC : a_C c) : qTX c (1100 + c 1) = 0 := by
  obtain ⟨b0, b1, b2, b3⟩ := hC
  unfold qTX q_rg
  rw [if_neg (by omega), if_neg (by omega)]
  repeat rw [if_neg (by omega)]
theorem z_frl {c : Nat → Nat} (hC : a_C c) : qTX c (1200 + c 1) = 0 := by
  obtain ⟨b0, b1, b2, b3⟩ := hC
  unfold qTX q_rg
  rw [if_neg (by omega), if_neg (by omega)]
  repeat rw [if_neg (by omega)]
theorem z_fr2 {c : Nat → Nat} (hC : a_C c) : qTX c (1300 + c 2) = 0 := by
  obtain ⟨b0, b1, b2, b3⟩ := hC
  unfold qTX q_rg
  rw [if_neg (by omega), if_neg (by omega)]
  repeat rw [if_neg (by omega)]
theorem z_fr3 {c : Nat → Nat} (hC : a_C c) : qTX c (1400 + c 3) = 0 := by
  obtain ⟨b0, b1, b2, b3⟩ := hC
  unfold qTX q_rg
  rw [if_neg (by omega), if_neg (by omega)]
  repeat rw [if_neg (by omega)]
theorem z_frc {c : Nat → Nat} (hC : a_C c) : qTX c (1500 + c 3) = 0 := by
  obtain ⟨b0, b1, b2, b3⟩ := hC
  unfold qTX q_rg
  rw [if_neg (by omega), if_neg (by omega)]
  repeat rw [if_neg (by omega)]
theorem a_nd1 {c : Nat → Nat} : q_one 0 c (a_ndc c) := ⟨by decide, rfl, fun _ _ hi => a_ndc_ne hi, fun _ hi _ => a_ndc_ne (by omega)⟩
theorem a_ndC {c : Nat → Nat} (hC : a_C c) (h : c 0 < 20) : a_C (a_ndc c) := ⟨by show c 0 + 1 ≤ 20; omega, hC.2.1, hC.2.2.1, hC.2.2.2⟩
theorem a_nw1 {c : Nat → Nat} : q_one 1 c (a_nwc c) := ⟨by decide, rfl, fun i _ hi => by unfold a_nwc; rw [if_neg hi], fun i hi _ => by unfold a_nwc; rw [if_neg (by omega)]⟩
theorem a_nwC {c : Nat → Nat} (hC : a_C c) (h : c 1 < 16) : a_C (a_nwc c) := ⟨hC.1, by show c 1 + 1 ≤ 16; omega, hC.2.2.1, hC.2.2.2⟩
theorem a_np1 {c : Nat → Nat} : q_one 2 c (a_npc c) := ⟨by decide, rfl, fun i _ hi => by unfold a_npc; rw [if_neg hi], fun i hi _ => by unfold a_npc; rw [if_neg (by omega)]⟩
theorem a_npC {c : Nat → Nat} (hC : a_C c) (h : c 2 < 24) : a_C (a_npc c) := ⟨hC.1, hC.2.1, by show c 2 + 1 ≤ 24; omega, hC.2.2.2⟩
theorem a_nt1 {c : Nat → Nat} {L : Nat} : q_one 3 c (a_ntc c L) := ⟨by decide, rfl, fun i h4 hi => a_ntc_ne hi (by omega), fun i hi h2 => a_ntc_ne (by omega) (by omega)⟩
theorem a_ntC {c : Nat → Nat} {L : Nat} (hC : a_C c) (h : c 3 < 30) : a_C (a_ntc c L) := ⟨by rw [a_ntc_ne (by decide) (by omega)]; exact hC.1, by rw [a_ntc_ne (by decide) (by omega)]; exact hC.2.1, by rw [a_ntc_ne (by decide) (by omega)]; exact hC.2.2.1, by show c 3 + 1 ≤ 30; omega⟩
def q_nr (o : Nat) : List Value → Prop
  | [] => True
  | .ref r :: l => r ≠ o ∧ q_nr o l
  | _ :: l => q_nr o l
theorem q_nr_st {o : Nat} : ∀ {l : List Value}, q_nr o l → ∀ x ∈ l, x ≠ .ref o
  | [], _ => fun _ h => absurd h List.not_mem_nil
  | .ref r :: l, h => fun x hx => (List.mem_cons.mp hx).elim (fun e => by subst e; exact fun z => h.1 (by cases z; rfl)) (q_nr_st h.2 x)
  | .int _ :: l, h => fun x hx => (List.mem_cons.mp hx).elim (fun e => by subst e; exact fun z => by cases z) (q_nr_st (l := l) h x)
  | .long _ :: l, h => fun x hx => (List.mem_cons.mp hx).elim (fun e => by subst e; exact fun z => by cases z) (q_nr_st (l := l) h x)
  | .float _ :: l, h => fun x hx => (List.mem_cons.mp hx).elim (fun e => by subst e; exact fun z => by cases z) (q_nr_st (l := l) h x)
  | .double _ :: l, h => fun x hx => (List.mem_cons.mp hx).elim (fun e => by subst e; exact fun z => by cases z) (q_nr_st (l := l) h x)
  | .null :: l, h => fun x hx => (List.mem_cons.mp hx).elim (fun e => by subst e; exact fun z => by cases z) (q_nr_st (l := l) h x)
  | .retAddr _ :: l, h => fun x hx => (List.mem_cons.mp hx).elim (fun e => by subst e; exact fun z => by cases z) (q_nr_st (l := l) h x)
theorem q_nr_lv {o : Nat} {lv : List (Nat × Value)} (h : q_nr o (lv.map fun q => q.2)) : ∀ x ∈ lv, x.2 ≠ .ref o := fun x hx => q_nr_st h x.2 (List.mem_map.mpr ⟨x, hx, rfl⟩)
