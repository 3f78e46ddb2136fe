/-! level 1: the law's world: class, model, and the law's own array -/
def q_wX (c : Nat → Nat) (M : q_MM) : q_Mem := (qTX c, qLX c, qPX c, M)
def q_wM (m : q_MM) : q_Mem := (qTM, qLM, qPM, m)
def q_wO (o : q_MM) : q_Mem := (fun a => if a = 6000 then 4 else 0, fun _ => 1, fun _ _ => 0, o)
def q_lw (c : Nat → Nat) (M m o : q_MM) : q_Mem := q_un (q_wX c M) (q_un (q_wM m) (q_wO o))
def q_lw2 (c : Nat → Nat) (M m o : q_MM) : q_Mem := q_un (q_wM m) (q_un (q_wX c M) (q_wO o))
def q_lw3 (c : Nat → Nat) (M m o : q_MM) : q_Mem := q_un (q_un (q_wX c M) (q_wO o)) (q_wM m)
theorem z_hi {c : Nat → Nat} (hC : a_C c) {o : Nat} (ho : 2000 ≤ o) : qTX c o = 0 := by
  obtain ⟨b0, b1, b2, b3⟩ := hC
  unfold qTX q_rg
  rw [if_neg (by omega), if_neg (by omega)]
  repeat rw [if_neg (by omega)]
theorem z_Mlen : (List.range 200).all (fun i => decide (i < 100 ∨ qTM (5000 + i) = 0)) = true := by decide +kernel
theorem z_M {o : Nat} (h : qTM o ≠ 0) : 5001 ≤ o ∧ o < 5900 := by
  have h0 : qTM 5000 = 0 := by decide +kernel
  by_cases z : o < 5000
  · unfold qTM at h
    rw [if_pos z] at h
    exact absurd rfl h
  by_cases y : o < 5900
  · by_cases x : o = 5000
    · rw [x] at h
      exact absurd h0 h
    · omega
  · exfalso
    apply h
    unfold qTM
    rw [if_neg z]
    simp only [List.getD]
    rw [List.getElem?_eq_none (by simp only [List.length]; omega)]
    rfl
theorem qPM_tab : (List.range 200).all (fun k => decide (qPM 5001 k = 0 ∨ qTM (qPM 5001 k) ≠ 0)) = true := by decide +kernel
theorem qPM_ok {o k : Nat} (h : qPM o k ≠ 0) : qTM (qPM o k) ≠ 0 := by
  by_cases z : o = 5001
  · subst z
    by_cases y : k < 200
    · have := of_decide_eq_true (List.all_eq_true.mp qPM_tab k (List.mem_range.mpr y))
      exact this.elim (fun q => absurd q h) id
    · exfalso
      apply h
      unfold qPM
      rw [if_pos rfl]
      simp only [List.getD]
      rw [List.getElem?_eq_none (by simp only [List.length]; omega)]
      rfl
  · unfold qPM at h
    rw [if_neg z] at h
    exact absurd rfl h
theorem qPX_tabok : ∀ o, o < 120 → ∀ k, k < 13 → (qPXs.getD o []).getD k 0 = 0 ∨ ((qPXs.getD o []).getD k 0 < 120 ∧ qTXs.getD ((qPXs.getD o []).getD k 0) 0 ≠ 0) := by decide +kernel
theorem qPX_ok {c : Nat → Nat} (hC : a_C c) {o k : Nat} (hT : qTX c o ≠ 0) (h : qPX c o k ≠ 0) : qTX c (qPX c o k) ≠ 0 ∨ q_st (qPX c o k) := by
  by_cases z : qTX c (qPX c o k) = 0
  rotate_left
  · exact Or.inl z
  right
  by_cases y : 200 ≤ qPX c o k ∧ (qPX c o k < 900 ∨ 1000 ≤ qPX c o k)
  · have := (q_msk_no hC z y.1 y.2).2 o k
    rw [q_msk_eq hT] at this
    exact absurd rfl this
  by_cases x : 200 ≤ qPX c o k
  · exact ⟨by omega, by omega⟩
  exfalso
  have hg : ∀ n, q_gn n < 4 := q_gn4
  have hed : ∀ j n, q_ed j n k = 0 ∨ 200 ≤ q_ed j n k := fun j n => by
    unfold q_ed q_bid
    repeat' split
    all_goals omega
  obtain ⟨r, hr⟩ : ∃ r, qPX c o k = r := ⟨_, rfl⟩
  rw [hr] at z h x
  unfold qPX at hr
  by_cases w : o < 120
  · rw [if_pos w] at hr
    have hed' : ∀ j n, q_ed j n k ≠ r := fun j n e => by
      have := hed j n
      omega
    by_cases y1 : o = 13
    · rw [if_pos y1] at hr; exact hed' _ _ hr
    rw [if_neg y1] at hr
    by_cases y2 : o = 14
    · rw [if_pos y2] at hr; exact hed' _ _ hr
    rw [if_neg y2] at hr
    by_cases y3 : o = 15
    · rw [if_pos y3] at hr; exact hed' _ _ hr
    rw [if_neg y3] at hr
    by_cases y4 : o = 27
    · rw [if_pos y4] at hr; exact hed' _ _ hr
    rw [if_neg y4] at hr
    by_cases k13 : k < 13
    · have t := qPX_tabok o w k k13
      rw [hr] at t
      rcases t with t | ⟨t1, t2⟩
      · exact h t
      · unfold qTX at z
        rw [if_pos t1] at z
        exact t2 z
    · have h1 := qPXs_len o w
      have : (qPXs.getD o []).getD k 0 = 0 := by
        simp only [List.getD]
        rw [List.getElem?_eq_none (by simp only [List.getD] at h1; omega)]
        rfl
      omega
  rw [if_neg w] at hr
  by_cases v : o < 300
  · rw [if_pos v] at hr
    have hi : (o - 200) / 4 < 4 := by
      unfold qTX at hT
      rw [if_neg w, if_pos v] at hT
      by_cases q : 200 ≤ o ∧ o < 216 ∧ c ((o - 200) / 4) ≠ 0 ∧ (o - 200) % 4 ≤ q_gn (c ((o - 200) / 4))
      · omega
      · rw [if_neg q] at hT
        exact absurd rfl hT
    unfold q_el at hr
    by_cases u : k < c ((o - 200) / 4)
    · rw [if_pos u] at hr
      have := (q_bs_le ((o - 200) / 4)).resolve_right (by omega)
      unfold q_bs at this
      omega
    · rw [if_neg u] at hr
      omega
  · rw [if_neg v] at hr
    revert hr
    repeat' split
    all_goals omega
theorem q_alk_of {g g' : q_Mem} (h1 : ∀ o, g'.1 o = g.1 o) (h2 : ∀ o, g.1 o ≠ 0 → g'.2.1 o = g.2.1 o ∧ g'.2.2.1 o = g.2.2.1 o ∧ g'.2.2.2 o = g.2.2.2 o) : q_alk g g' :=
  ⟨h1, fun o ho => ⟨fun _ => (h2 o ho).1, fun _ x _ => congrFun (h2 o ho).2.2 x, fun _ x _ => congrFun (h2 o ho).2.1 x, fun _ k _ => ⟨fun _ => congrFun (h2 o ho).2.1 k, fun _ => congrFun (h2 o ho).2.2 k⟩⟩⟩
theorem q_un_rot {a b d : q_Mem} (hab : ∀ o, b.1 o ≠ 0 → a.1 o = 0) : q_alk (q_un a (q_un b d)) (q_un b (q_un a d)) ∧ q_alk (q_un b (q_un a d)) (q_un a (q_un b d)) := by
  have e : ∀ o, (q_un b (q_un a d)).1 o = (q_un a (q_un b d)).1 o ∧ ((q_un a (q_un b d)).1 o ≠ 0 → (q_un b (q_un a d)).2.1 o = (q_un a (q_un b d)).2.1 o ∧ (q_un b (q_un a d)).2.2.1 o = (q_un a (q_un b d)).2.2.1 o ∧ (q_un b (q_un a d)).2.2.2 o = (q_un a (q_un b d)).2.2.2 o) := fun o => by
    have := hab o
    unfold q_un
    by_cases x : d.1 o = 0 <;> by_cases y : b.1 o = 0 <;> by_cases z : a.1 o = 0 <;> simp_all
  exact ⟨q_alk_of (fun o => (e o).1) (fun o ho => (e o).2 ho), q_alk_of (fun o => (e o).1.symm) (fun o ho => by
    have := (e o).2 (by rw [← (e o).1]; exact ho)
    exact ⟨this.1.symm, this.2.1.symm, this.2.2.symm⟩)⟩
theorem q_un_rot3 {a b d : q_Mem} (hdb : ∀ o, b.1 o ≠ 0 → d.1 o = 0) : q_alk (q_un a (q_un b d)) (q_un (q_un a d) b) ∧ q_alk (q_un (q_un a d) b) (q_un a (q_un b d)) := by
  have e : ∀ o, (q_un (q_un a d) b).1 o = (q_un a (q_un b d)).1 o ∧ ((q_un a (q_un b d)).1 o ≠ 0 → (q_un (q_un a d) b).2.1 o = (q_un a (q_un b d)).2.1 o ∧ (q_un (q_un a d) b).2.2.1 o = (q_un a (q_un b d)).2.2.1 o ∧ (q_un (q_un a d) b).2.2.2 o = (q_un a (q_un b d)).2.2.2 o) := fun o => by
    have := hdb o
    unfold q_un
    by_cases x : d.1 o = 0 <;> by_cases y : b.1 o = 0 <;> by_cases z : a.1 o = 0 <;> simp_all
  exact ⟨q_alk_of (fun o => (e o).1) (fun o ho => (e o).2 ho), q_alk_of (fun o => (e o).1.symm) (fun o ho => by
    have := (e o).2 (by rw [← (e o).1]; exact ho)
    exact ⟨this.1.symm, this.2.1.symm, this.2.2.symm⟩)⟩
theorem q_XM {c : Nat → Nat} (hC : a_C c) {M m : q_MM} {o : Nat} (h : (q_wM m).1 o ≠ 0) : (q_wX c M).1 o = 0 := z_hi hC (by have := z_M h; omega)
theorem q_O6 {o : q_MM} {a : Nat} (h : (q_wO o).1 a ≠ 0) : a = 6000 := by
  by_cases z : a = 6000
  · exact z
  · exact absurd (if_neg z) h
theorem q_MO {m o : q_MM} {a : Nat} (h : (q_wM m).1 a ≠ 0) : (q_wO o).1 a = 0 := if_neg (by have := z_M h; omega)
theorem q_M0 {a : Nat} (h : a < 5000 ∨ 5900 ≤ a) : qTM a = 0 := by
  by_cases z : qTM a = 0
  · exact z
  · have := z_M z
    omega
theorem q_O4 {o : q_MM} {a : Nat} (h : a = 6000) : (q_wO o).1 a ≠ 0 := by
  show (if a = 6000 then 4 else 0) ≠ 0
  rw [if_pos h]
  decide
theorem q_O0 {o : q_MM} {a : Nat} (h : a ≠ 6000) : (q_wO o).1 a = 0 := if_neg h
theorem q_unP_r {g h : q_Mem} {o : Nat} (ho : h.1 o ≠ 0) : (q_un g h).2.2.1 o = h.2.2.1 o := if_pos ho
theorem q_unP_l {g h : q_Mem} {o : Nat} (ho : h.1 o = 0) : (q_un g h).2.2.1 o = g.2.2.1 o := if_neg (fun q => q ho)
/-- a call of the class' in the law's world -/
theorem Mt.lawX {l : Launch} {y : MethodName} {b : ByteArray} {n : Nat} {ret : Option FieldType} {fr lo mc ms : Nat} {al : Bool} {K : q_KK} {av : List Value} {rv : Option Value} {c c' : Nat → Nat} {M M' : q_MM} (hM : Mt l y b n ret fr lo mc ms al K av (q_wX c M) rv (q_wX c' M')) (hC : a_C c) (hC' : a_C c') (hrv : ∀ r, rv ≠ some (.ref r)) (m o : q_MM) : Mt l y b n ret fr lo mc ms al K av (q_lw c M m o) rv (q_lw c' M' m o) := by
  have hi : ∀ a, (q_un (q_wM m) (q_wO o)).1 a ≠ 0 → 5000 ≤ a := fun a ha => (q_un_ne.mp ha).elim (fun q => by have := z_M q; omega) (fun q => by have := q_O6 q; omega)
  refine hM.frame _ (fun a ha => z_hi hC (by have := hi a ha; omega)) (fun a ha => z_hi hC' (by have := hi a ha; omega)) (fun a k ha => ?_) (fun a k ha hk => ?_) (fun r hr => absurd hr (hrv r))
  · have h2 : qPX c' a k < 2000 := qPX_lt hC' ha k
    by_cases z : (q_un (q_wM m) (q_wO o)).1 (qPX c' a k) = 0
    · exact z
    · have := hi _ z
      omega
  · left
    have e : (q_un (q_wM m) (q_wO o)).2.2.1 a k = if a = 6000 then 0 else qPM a k := by
      by_cases z : a = 6000
      · rw [if_pos z, q_unP_r (q_O4 z)]; rfl
      · rw [if_neg z, q_unP_l (q_O0 z)]; rfl
    rw [e] at hk ⊢
    by_cases z : a = 6000
    · rw [if_pos z] at hk
      exact absurd rfl hk
    · rw [if_neg z] at hk ⊢
      exact q_un_ne.mpr (Or.inl (qPM_ok hk))
/-- a call of the model's -/
theorem Mt.lawM {l : Launch} {y : MethodName} {b : ByteArray} {n : Nat} {ret : Option FieldType} {fr lo mc ms : Nat} {al : Bool} {K : q_KK} {av : List Value} {rv : Option Value} {c : Nat → Nat} {M m m' : q_MM} (hM : Mt l y b n ret fr lo mc ms al K av (q_wM m) rv (q_wM m')) (hC : a_C c) (hrv : ∀ r, rv ≠ some (.ref r)) (o : q_MM) : Mt l y b n ret fr lo mc ms al K av (q_lw2 c M m o) rv (q_lw2 c M m' o) := by
  have hi : ∀ a, (q_un (q_wX c M) (q_wO o)).1 a ≠ 0 → a < 5000 ∨ 5900 ≤ a := fun a ha => (q_un_ne.mp ha).elim (fun q => by
    by_cases z : a < 2000
    · omega
    · exact absurd (z_hi hC (by omega)) q) (fun q => by have := q_O6 q; omega)
  refine hM.frame _ (fun a ha => q_M0 (hi a ha)) (fun a ha => q_M0 (hi a ha)) (fun a k ha => ?_) (fun a k ha hk => ?_) (fun r hr => absurd hr (hrv r))
  · by_cases z : (q_un (q_wX c M) (q_wO o)).1 (qPM a k) = 0
    · exact z
    · have h1 := hi _ z
      by_cases y : qPM a k = 0
      · exfalso
        have z : (q_un (q_wX c M) (q_wO o)).1 (qPM a k) ≠ 0 := z
        rw [y] at z
        exact z rfl
      · have := z_M (qPM_ok y)
        omega
  · have e : (q_un (q_wX c M) (q_wO o)).2.2.1 a k = if a = 6000 then 0 else qPX c a k := by
      by_cases z : a = 6000
      · rw [if_pos z, q_unP_r (q_O4 z)]; rfl
      · rw [if_neg z, q_unP_l (q_O0 z)]; rfl
    rw [e] at hk ⊢
    by_cases z : a = 6000
    · rw [if_pos z] at hk
      exact absurd rfl hk
    · rw [if_neg z] at hk ⊢
      have hT : qTX c a ≠ 0 := (q_un_ne.mp ha).elim id (fun q => absurd (q_O6 q) z)
      rcases qPX_ok hC hT hk with q | q
      · exact Or.inl (q_un_ne.mpr (Or.inl q))
      · exact Or.inr (Or.inr q)
/-- a call of a thrower's beside the law's own array; .. and any call in that world beside the model -/
theorem XMt.lawO {l : Launch} {y : MethodName} {b : ByteArray} {n fr lo mc ms : Nat} {K : q_KK} {av : List Value} {rv : Option Int32} {c : Nat → Nat} {M M' : q_MM} (hM : XMt l y b n fr lo mc ms K av (q_wX c M) rv (q_wX c M')) (hC : a_C c) (o : q_MM) : XMt l y b n fr lo mc ms K av (q_un (q_wX c M) (q_wO o)) rv (q_un (q_wX c M') (q_wO o)) := by
  refine hM.frame _ (fun a ha => z_hi hC (by have := q_O6 ha; omega)) (fun a ha => z_hi hC (by have := q_O6 ha; omega)) (fun a k ha => ?_) (fun a k ha hk => absurd rfl hk)
  have h2 : qPX c a k < 2000 := qPX_lt hC ha k
  exact q_O0 (show qPX c a k ≠ 6000 by omega)
theorem q_lw_alk {c : Nat → Nat} (hC : a_C c) {M m o : q_MM} : q_alk (q_lw c M m o) (q_lw2 c M m o) ∧ q_alk (q_lw2 c M m o) (q_lw c M m o) := q_un_rot fun _ h => q_XM hC h
theorem q_lw3_alk {c : Nat → Nat} {M m o : q_MM} : q_alk (q_lw c M m o) (q_lw3 c M m o) ∧ q_alk (q_lw3 c M m o) (q_lw c M m o) := q_un_rot3 fun _ h => q_MO h
