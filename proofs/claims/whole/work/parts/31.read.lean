/-! the words of programs, read at known numbers -/
theorem w_ld {ρ : Type} {M : q_MM} {o N i : Nat} {k : Int32 → Option ρ} (h : i < N) (hN : N ≤ 100000) : q_ld M o N (nI i) k = k (M o i) := by
  unfold q_ld
  rw [if_neg (nI_in h (by omega)), nI_clamp (by omega)]
theorem w_as {ρ : Type} {M : q_MM} {o N i : Nat} {x : Int32} {k : q_MM → Option ρ} (h : i < N) (hN : N ≤ 100000) : q_as M o N (nI i) x k = k (q_u2 M o i x) := by
  unfold q_as
  rw [if_neg (nI_in h (by omega)), nI_clamp (by omega)]
theorem w_bl0 {ρ : Type} {F : Option ρ} : q_bl 0 F = F := if_pos (Or.inl rfl)
theorem w_bl1 {ρ : Type} {F : Option ρ} : q_bl 1 F = F := if_pos (Or.inr rfl)
theorem w_ck {ρ : Type} {t u : Nat} {F : Option ρ} (h : t = u) : q_ck t u F = F := if_pos h
theorem w_let {α ρ : Type} {e : α} {k : α → Option ρ} : q_let e k = k e := rfl
theorem w_if {ρ : Type} {pr : Prop} [Decidable pr] {F : Option ρ} (h : pr) : q_if pr F = F := if_pos h
theorem w_ld0 {ρ : Type} {M : q_MM} {k : Int32 → Option ρ} {o : Nat} : q_ld M o 4 0 k = k (M o 0) := w_ld (i := 0) (by decide) (by decide)
theorem w_ld1 {ρ : Type} {M : q_MM} {k : Int32 → Option ρ} {o : Nat} : q_ld M o 4 1 k = k (M o 1) := w_ld (i := 1) (by decide) (by decide)
theorem w_ld2 {ρ : Type} {M : q_MM} {k : Int32 → Option ρ} {o : Nat} : q_ld M o 4 2 k = k (M o 2) := w_ld (i := 2) (by decide) (by decide)
theorem w_ld3 {ρ : Type} {M : q_MM} {k : Int32 → Option ρ} {o : Nat} : q_ld M o 4 3 k = k (M o 3) := w_ld (i := 3) (by decide) (by decide)
/-! numbers -/
theorem i_le {x y : Int32} : x ≤ y ↔ x.toInt ≤ y.toInt := Int32.le_iff_toInt_le
theorem i_lt {x y : Int32} : x < y ↔ x.toInt < y.toInt := Int32.lt_iff_toInt_lt
theorem i_eq {x y : Int32} : x = y ↔ x.toInt = y.toInt := Int32.toInt_inj.symm
theorem a_lt_i {x : Int32} {N : Nat} (hN : N ≤ 2 ^ 31) : a_lt x N ↔ 0 ≤ x.toInt ∧ x.toInt < N := by
  constructor
  · rintro ⟨j, hj, rfl⟩
    rw [nI_toInt (by omega)]
    omega
  · intro h
    obtain ⟨j, hj, rfl⟩ := nI_of (x := x) (by rw [i_lt]; simp; omega)
    rw [nI_toInt hj] at h
    exact ⟨j, by omega, rfl⟩
theorem nI_neg1 {j : Nat} (h : j < 2 ^ 31) : nI j ≠ -1 := fun e => by
  have := congrArg Int32.toInt e
  rw [nI_toInt h] at this
  have h1 : (-1 : Int32).toInt = -1 := by decide
  omega
theorem nI_inj {i j : Nat} (hi : i < 2 ^ 31) (hj : j < 2 ^ 31) (h : nI i = nI j) : i = j := (nI_eq hi hj).mp h
theorem a_lt.nn {x : Int32} {N : Nat} (h : a_lt x N) (hN : N ≤ 2 ^ 31) : ¬ x < 0 := by
  obtain ⟨j, hj, rfl⟩ := h
  exact nI_pos (by omega)
theorem a_nlt {x : Int32} {N : Nat} (h : ¬ a_lt x N) (hN : N < 2 ^ 31) : x < 0 ∨ nI N ≤ x := by
  rcases pk_ix x hN with z | z | ⟨j, hj, e⟩
  · exact Or.inl z
  · exact Or.inr z
  · exact absurd ⟨j, hj, e⟩ h
theorem a_lt.cl {x : Int32} {N : Nat} (h : a_lt x N) (hN : N ≤ 2 ^ 31) : x = nI x.toNatClampNeg ∧ x.toNatClampNeg < N := by
  obtain ⟨j, hj, rfl⟩ := h
  rw [nI_clamp (by omega)]
  exact ⟨rfl, hj⟩
/-! the model's small words -/
theorem s_in {M : q_MM} {x y z : Int64} : f_X12_in M x y z = some (if y.toInt ≤ x.toInt ∧ x.toInt ≤ z.toInt then 1 else 0) := by
  unfold f_X12_in lg_cmp
  simp only [gt_iff_lt, Int64.lt_iff_toInt_lt, ← Int64.toInt_inj, w_bl0, w_bl1]
  by_cases h1 : y.toInt ≤ x.toInt
  · have e1 : ¬ ((if y.toInt < x.toInt then (1 : Int32) else if x.toInt = y.toInt then 0 else -1) < 0) := by
      repeat' split
      · decide
      · decide
      · omega
    rw [if_neg e1]
    by_cases h2 : x.toInt ≤ z.toInt
    · have e2 : ¬ ((0 : Int32) < (if z.toInt < x.toInt then (1 : Int32) else if x.toInt = z.toInt then 0 else -1)) := by
        rw [if_neg (by omega)]
        split <;> decide
      rw [if_neg e2, if_pos ⟨h1, h2⟩]
    · have e2 : ((0 : Int32) < (if z.toInt < x.toInt then (1 : Int32) else if x.toInt = z.toInt then 0 else -1)) := by
        rw [if_pos (by omega)]
        decide
      rw [if_pos e2, if_neg (fun q => h2 q.2)]
  · have e1 : ((if y.toInt < x.toInt then (1 : Int32) else if x.toInt = y.toInt then 0 else -1) < 0) := by
      rw [if_neg (by omega), if_neg (by omega)]
      decide
    rw [if_pos e1, if_neg (fun q => h1 q.1)]
theorem s_inc {M : q_MM} {x : Int32} {lo hi : Int64} : f_X12_in M (Int32.toInt64 x) lo hi = some (a_if (a_rg x lo.toInt hi.toInt) 1 0) := by
  rw [s_in, Int32.toInt_toInt64]
  unfold a_rg
  by_cases z : lo.toInt ≤ x.toInt ∧ x.toInt ≤ hi.toInt
  · rw [if_pos z, a_ifp z]
  · rw [if_neg z, a_ifn z]
theorem a_rg0 {x : Int32} {N : Nat} (hN : N ≤ 100000) : a_rg x 0 (nI N - 1).toInt ↔ a_lt x N := by
  rw [a_lt_i (by omega), show nI N - 1 = nI N - nI 1 from rfl, pk_sub_toInt (by omega) (by omega)]
  unfold a_rg
  omega
theorem s_in0 {M : q_MM} {x : Int32} {N : Nat} (hN : N ≤ 100000) : f_X12_in M (Int32.toInt64 x) 0 (Int32.toInt64 (nI N - 1)) = some (a_if (a_lt x N) 1 0) := by
  rw [s_inc, Int32.toInt_toInt64, show (0 : Int64).toInt = 0 from rfl]
  rw [show a_rg x 0 (nI N - 1).toInt = a_lt x N from propext (a_rg0 hN)]
theorem s_isRoom {M : q_MM} {x : Int32} {N : Nat} (h : M 5001 3 = nI N) (hN : N ≤ 100000) : f_X12_isRoom M x = some (a_if (a_lt x N) 1 0) := by
  unfold f_X12_isRoom
  rw [h, s_in0 hN]
  by_cases z : a_lt x N
  · simp [a_ifp z, w_bl1]
  · simp [a_ifn z, w_bl0]
theorem s_isWall {M : q_MM} {x : Int32} {N : Nat} (h : M 5001 9 = nI N) (hN : N ≤ 100000) : f_X12_isWall M x = some (a_if (a_lt x N) 1 0) := by
  unfold f_X12_isWall
  rw [h, s_in0 hN]
  by_cases z : a_lt x N
  · simp [a_ifp z, w_bl1]
  · simp [a_ifn z, w_bl0]
theorem s_isPicture {M : q_MM} {x : Int32} {N : Nat} (h : M 5001 18 = nI N) (hN : N ≤ 100000) : f_X12_isPicture M x = some (a_if (a_lt x N) 1 0) := by
  unfold f_X12_isPicture
  rw [h, s_in0 hN]
  by_cases z : a_lt x N
  · simp [a_ifp z, w_bl1]
  · simp [a_ifn z, w_bl0]
/-! the class' small words -/
theorem s_within {c : Nat → Nat} {M : q_MM} {x lo hi : Int32} : f_X11_within c M x lo hi = some (a_if (a_rg x lo.toInt hi.toInt) 1 0) := by
  unfold f_X11_within a_rg
  simp only [w_bl0, w_bl1, i_lt]
  by_cases h1 : lo.toInt ≤ x.toInt
  · by_cases h2 : x.toInt ≤ hi.toInt
    · rw [if_neg (by omega), if_neg (by omega), a_ifp ⟨h1, h2⟩]
    · rw [if_neg (by omega), if_pos (by omega), a_ifn (fun q => h2 q.2)]
  · rw [if_pos (by omega), a_ifn (fun q => h1 q.1)]
/-- the counts that a memory of the class can have -/
def a_C (c : Nat → Nat) : Prop := c 0 ≤ 20 ∧ c 1 ≤ 16 ∧ c 2 ≤ 24 ∧ c 3 ≤ 30
theorem a_X.C {c n : Nat → Nat} {m M : q_MM} (h : a_X c n m M) : a_C c := ⟨(h 2).1, (h 5).1, (h 7).1, (h 18).1⟩
theorem t_door {c : Nat → Nat} (hC : a_C c) {d : Nat} (hd : d < c 0) : qTX c (1000 + d) = 10 := by
  have := hC.1
  unfold qTX
  rw [if_neg (by omega), if_neg (by omega)]
  unfold q_rg
  rw [if_pos (by omega)]
theorem t_wall {c : Nat → Nat} (hC : a_C c) {d : Nat} (hd : d < c 1) : qTX c (1100 + d) = 20 := by
  have := hC.1
  have := hC.2.1
  unfold qTX
  rw [if_neg (by omega), if_neg (by omega)]
  unfold q_rg
  rw [if_neg (by omega), if_pos (by omega)]
theorem t_light {c : Nat → Nat} (hC : a_C c) {d : Nat} (hd : d < c 1) : qTX c (1200 + d) = 1 := by
  have := hC.1
  have := hC.2.1
  unfold qTX
  rw [if_neg (by omega), if_neg (by omega)]
  unfold q_rg
  rw [if_neg (by omega), if_neg (by omega), if_pos (by omega)]
theorem t_pic {c : Nat → Nat} (hC : a_C c) {d : Nat} (hd : d < c 2) : qTX c (1300 + d) = 15 := by
  have := hC.1
  have := hC.2.1
  have := hC.2.2.1
  unfold qTX
  rw [if_neg (by omega), if_neg (by omega)]
  unfold q_rg
  rw [if_neg (by omega), if_neg (by omega), if_neg (by omega), if_pos (by omega)]
theorem t_term {c : Nat → Nat} (hC : a_C c) {d : Nat} (hd : d < c 3) : qTX c (1400 + d) = 17 := by
  have := hC.1
  have := hC.2.1
  have := hC.2.2.1
  have := hC.2.2.2
  unfold qTX
  rw [if_neg (by omega), if_neg (by omega)]
  unfold q_rg
  rw [if_neg (by omega), if_neg (by omega), if_neg (by omega), if_neg (by omega), if_pos (by omega)]
theorem t_code {c : Nat → Nat} (hC : a_C c) {d : Nat} (hd : d < c 3) : qTX c (1500 + d) = 1 := by
  have := hC.1
  have := hC.2.1
  have := hC.2.2.1
  have := hC.2.2.2
  unfold qTX
  rw [if_neg (by omega), if_neg (by omega)]
  unfold q_rg
  rw [if_neg (by omega), if_neg (by omega), if_neg (by omega), if_neg (by omega), if_neg (by omega), if_pos (by omega)]
theorem l_light {c : Nat → Nat} {d : Nat} (hd : d < 300) : qLX c (1200 + d) = 24 := by
  unfold qLX
  rw [if_neg (by omega), if_neg (by omega), if_pos (by omega)]
theorem l_code {c : Nat → Nat} {d : Nat} : qLX c (1500 + d) = c (10 + d) := by
  unfold qLX
  rw [if_neg (by omega), if_neg (by omega), if_neg (by omega), Nat.add_sub_cancel_left]
theorem p_light {c : Nat → Nat} {d : Nat} (hd : d < 100) : qPX c (1100 + d) 5 = 1200 + d := by
  unfold qPX
  rw [if_neg (by omega), if_neg (by omega), if_pos ⟨by omega, by omega, rfl⟩]
  omega
theorem p_code {c : Nat → Nat} {d : Nat} (hd : d < 100) : qPX c (1400 + d) 2 = 1500 + d := by
  unfold qPX
  rw [if_neg (by omega), if_neg (by omega), if_neg (by omega), if_pos ⟨by omega, by omega, rfl⟩]
  omega
theorem s_size {c : Nat → Nat} {M : q_MM} {o : Nat} (h : qTX c o = 23) : f_Jx4a65c_size_8abf5 (qTX c) (qLX c) (qPX c) M o = some (M o 2) := by
  unfold f_Jx4a65c_size_8abf5
  rw [w_ck h]
theorem q_gn_c (k : Nat) : q_gn k = 0 ∧ k ≤ 10 ∨ q_gn k = 1 ∧ k ≤ 15 ∨ q_gn k = 2 ∧ k ≤ 22 ∨ q_gn k = 3 := by
  unfold q_gn
  split
  · exact Or.inl ⟨rfl, by assumption⟩
  · split
    · exact Or.inr (Or.inl ⟨rfl, by assumption⟩)
    · split
      · exact Or.inr (Or.inr (Or.inl ⟨rfl, by assumption⟩))
      · exact Or.inr (Or.inr (Or.inr rfl))
theorem s_getL {c : Nat → Nat} {M : q_MM} {o j b i : Nat} (hj : (o, j, b) ∈ [(13, 0, 1000), (14, 1, 1100), (15, 2, 1300), (27, 3, 1400)]) (hi : i < c j) (hc : c j ≤ 30) (hs : M o 2 = nI (c j)) : f_Jx4a65c_get_915e3 (qTX c) (qLX c) (qPX c) M o (nI i) = some (b + i) := by
  have hT : qTX c o = 23 := by
    simp only [List.mem_cons, List.not_mem_nil, or_false, Prod.mk.injEq] at hj
    rcases hj with ⟨rfl, -, -⟩ | ⟨rfl, -, -⟩ | ⟨rfl, -, -⟩ | ⟨rfl, -, -⟩ <;> rfl
  have hP : qPX c o 1 = q_bid j (c j) := by
    simp only [List.mem_cons, List.not_mem_nil, or_false, Prod.mk.injEq] at hj
    rcases hj with ⟨rfl, rfl, -⟩ | ⟨rfl, rfl, -⟩ | ⟨rfl, rfl, -⟩ | ⟨rfl, rfl, -⟩ <;> (unfold qPX q_ed; simp; omega)
  have hj4 : j < 4 := by
    simp only [List.mem_cons, List.not_mem_nil, or_false, Prod.mk.injEq] at hj
    rcases hj with ⟨rfl, rfl, -⟩ | ⟨rfl, rfl, -⟩ | ⟨rfl, rfl, -⟩ | ⟨rfl, rfl, -⟩ <;> decide
  have hg3 : q_gn (c j) ≤ 3 := by rcases q_gn_c (c j) with h | h | h | h <;> omega
  have e1 : (q_bid j (c j) - 200) / 4 = j := by unfold q_bid; omega
  have e2 : (q_bid j (c j) - 200) % 4 = q_gn (c j) := by unfold q_bid; omega
  have e3 : 200 ≤ q_bid j (c j) ∧ q_bid j (c j) < 216 := by unfold q_bid; omega
  have hT2 : qTX c (q_bid j (c j)) = 3 := by
    unfold qTX
    rw [if_neg (by omega), if_pos (by omega), e1, e2, if_pos ⟨e3.1, e3.2, by omega, Nat.le_refl _⟩]
  have hL : i < qLX c (q_bid j (c j)) ∧ qLX c (q_bid j (c j)) ≤ 33 := by
    unfold qLX
    rw [if_neg (by omega), if_pos (by omega), e2]
    rcases q_gn_c (c j) with ⟨h, h'⟩ | ⟨h, h'⟩ | ⟨h, h'⟩ | h <;> rw [h] <;> simp <;> omega
  have hP2 : qPX c (q_bid j (c j)) i = b + i := by
    unfold qPX
    rw [if_neg (by omega), if_pos (by omega), e1]
    unfold q_el
    rw [if_pos hi]
    simp only [List.mem_cons, List.not_mem_nil, or_false, Prod.mk.injEq] at hj
    rcases hj with ⟨-, rfl, rfl⟩ | ⟨-, rfl, rfl⟩ | ⟨-, rfl, rfl⟩ | ⟨-, rfl, rfl⟩ <;> rfl
  unfold f_Jx4a65c_get_915e3 f_J15_checkIndex_7cf53 f_J3_checkIndex_8e157 f_Jx4a65c_elementData_915e3
  rw [w_ck hT, hs, if_neg (nI_pos (by omega)), if_pos (nI_lt hi (by omega)), hP, w_ck hT2]
  unfold q_ldr
  rw [if_neg (nI_in hL.1 (by omega)), nI_clamp (by omega), hP2, w_ck hT]
  rfl
theorem s_getD {c n : Nat → Nat} {m M : q_MM} (h : a_X c n m M) {i : Nat} (hi : i < c 0) : f_Jx4a65c_get_915e3 (qTX c) (qLX c) (qPX c) M 13 (nI i) = some (1000 + i) := s_getL (by decide) hi (by have := h.C.1; omega) (h 2).2.2.1
theorem s_getW {c n : Nat → Nat} {m M : q_MM} (h : a_X c n m M) {i : Nat} (hi : i < c 1) : f_Jx4a65c_get_915e3 (qTX c) (qLX c) (qPX c) M 14 (nI i) = some (1100 + i) := s_getL (by decide) hi (by have := h.C.2.1; omega) (h 5).2.2.1
theorem s_getP {c n : Nat → Nat} {m M : q_MM} (h : a_X c n m M) {i : Nat} (hi : i < c 2) : f_Jx4a65c_get_915e3 (qTX c) (qLX c) (qPX c) M 15 (nI i) = some (1300 + i) := s_getL (by decide) hi (by have := h.C.2.2.1; omega) (h 7).2.2.1
theorem s_getT {c n : Nat → Nat} {m M : q_MM} (h : a_X c n m M) {i : Nat} (hi : i < c 3) : f_Jx4a65c_get_915e3 (qTX c) (qLX c) (qPX c) M 27 (nI i) = some (1400 + i) := s_getL (by decide) hi h.C.2.2.2 (h 18).2.2.1
theorem s_wallAt {c n : Nat → Nat} {m M : q_MM} (h : a_X c n m M) (x : Int32) : f_X2_wallAt c M x = some (a_if (a_lt x (c 1)) (1100 + x.toNatClampNeg) 0) := by
  have hC := h.C
  have hs : M 14 2 = nI (c 1) := (h 5).2.2.1
  have h1 := hC.2.1
  unfold f_X2_wallAt
  rw [s_size rfl, hs]
  by_cases z : a_lt x (c 1)
  · obtain ⟨j, hj, rfl⟩ := z
    rw [if_neg (nI_pos (by omega)), Option.bind_some, if_neg (nI_ge hj (by omega)), s_getW h hj, Option.bind_some, w_ck (t_wall hC hj), a_ifp ⟨j, hj, rfl⟩, nI_clamp (by omega)]
  · rw [a_ifn z]
    rcases a_nlt z (by omega) with q | q
    · rw [if_pos q]
    · by_cases q2 : x < 0
      · rw [if_pos q2]
      · rw [if_neg q2, Option.bind_some, if_pos q]
theorem s_picAt {c n : Nat → Nat} {m M : q_MM} (h : a_X c n m M) (x : Int32) : f_X2_pictureAt c M x = some (a_if (a_lt x (c 2)) (1300 + x.toNatClampNeg) 0) := by
  have hC := h.C
  have hs : M 15 2 = nI (c 2) := (h 7).2.2.1
  have h1 := hC.2.2.1
  unfold f_X2_pictureAt
  rw [s_size rfl, hs]
  by_cases z : a_lt x (c 2)
  · obtain ⟨j, hj, rfl⟩ := z
    rw [if_neg (nI_pos (by omega)), Option.bind_some, if_neg (nI_ge hj (by omega)), s_getP h hj, Option.bind_some, w_ck (t_pic hC hj), a_ifp ⟨j, hj, rfl⟩, nI_clamp (by omega)]
  · rw [a_ifn z]
    rcases a_nlt z (by omega) with q | q
    · rw [if_pos q]
    · by_cases q2 : x < 0
      · rw [if_pos q2]
      · rw [if_neg q2, Option.bind_some, if_pos q]
theorem s_hasRoom {c n : Nat → Nat} {m M : q_MM} (h : a_X c n m M) (x : Int32) : f_X2_hasRoom c M x = some (a_if (a_lt x (n 0)) 1 0) := by
  have hs : M 2 10 = nI (n 0) := (h 0).2.2
  have h1 : n 0 ≤ 10 := (h 0).1
  unfold f_X2_hasRoom
  rw [hs]
  by_cases z : a_lt x (n 0)
  · obtain ⟨j, hj, rfl⟩ := z
    rw [if_neg (nI_pos (by omega)), if_neg (nI_ge hj (by omega)), w_bl1, a_ifp ⟨j, hj, rfl⟩]
  · rw [a_ifn z]
    rcases a_nlt z (by omega) with q | q
    · rw [if_pos q, w_bl0]
    · by_cases q2 : x < 0
      · rw [if_pos q2, w_bl0]
      · rw [if_neg q2, if_pos q, w_bl0]
theorem s_wallAt1 {c n : Nat → Nat} {m M : q_MM} (h : a_X c n m M) {w : Nat} (hw : w < c 1) : f_X2_wallAt c M (nI w) = some (1100 + w) := by
  have := h.C.2.1
  rw [s_wallAt h, a_ifp ⟨w, hw, rfl⟩, nI_clamp (by omega)]
theorem s_wallAt0 {c n : Nat → Nat} {m M : q_MM} (h : a_X c n m M) {x : Int32} (hx : ¬ a_lt x (c 1)) : f_X2_wallAt c M x = some 0 := by rw [s_wallAt h, a_ifn hx]
theorem s_picAt1 {c n : Nat → Nat} {m M : q_MM} (h : a_X c n m M) {w : Nat} (hw : w < c 2) : f_X2_pictureAt c M (nI w) = some (1300 + w) := by
  have := h.C.2.2.1
  rw [s_picAt h, a_ifp ⟨w, hw, rfl⟩, nI_clamp (by omega)]
theorem s_picAt0 {c n : Nat → Nat} {m M : q_MM} (h : a_X c n m M) {x : Int32} (hx : ¬ a_lt x (c 2)) : f_X2_pictureAt c M x = some 0 := by rw [s_picAt h, a_ifn hx]
theorem a_ltm1 {N : Nat} (hN : N ≤ 1000) : ¬ a_lt (-1) N := by
  rintro ⟨j, hj, e⟩
  exact nI_neg1 (by omega) e.symm
theorem a_X.isWall {c n : Nat → Nat} {m M : q_MM} (h : a_X c n m M) (x : Int32) : f_X12_isWall m x = some (a_if (a_lt x (c 1)) 1 0) := s_isWall (h 5).2.1 (by have := h.C.2.1; omega)
theorem a_X.isPicture {c n : Nat → Nat} {m M : q_MM} (h : a_X c n m M) (x : Int32) : f_X12_isPicture m x = some (a_if (a_lt x (c 2)) 1 0) := s_isPicture (h 7).2.1 (by have := h.C.2.2.1; omega)
theorem a_X.isRoom {c n : Nat → Nat} {m M : q_MM} (h : a_X c n m M) (x : Int32) : f_X12_isRoom m x = some (a_if (a_lt x (n 0)) 1 0) := s_isRoom (h 0).2.1 (by have : n 0 ≤ 10 := (h 0).1; omega)
