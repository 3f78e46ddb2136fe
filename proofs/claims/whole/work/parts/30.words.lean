/-! LEVEL 2: the words. σ: the model's memory, its scratch cells forgotten; n 0: rooms, n 1: NOW; c 0..3: doors, walls, pictures, terms -/
def a_lt (x : Int32) (N : Nat) : Prop := ∃ j : Nat, j < N ∧ x = nI j
def a_ltm (x : Int32) (N : Nat) : Prop := x = -1 ∨ a_lt x N
def a_rg (x : Int32) (lo hi : Int) : Prop := lo ≤ x.toInt ∧ x.toInt ≤ hi
def a_bit (x : Int32) (i : Nat) : Bool := x.toBitVec.getLsbD i
/-- which part a cell belongs to (19: none, a scratch cell) -/
def ownM (o k : Nat) : Nat :=
  if o = 2 then (if k = 10 then 0 else if k = 12 then 1 else if k = 11 then 4 else 19)
  else if o = 13 ∨ o = 18 ∨ (1000 ≤ o ∧ o < 1100) then 2
  else if o = 14 ∨ (1100 ≤ o ∧ o < 1300) then 5
  else if o = 16 then 6
  else if o = 15 then 7
  else if 1300 ≤ o ∧ o < 1400 then (if k ≤ 11 then 7 else if k = 12 then 8 else if k = 13 then 9 else 19)
  else if o = 61 ∨ o = 63 then 8
  else if o = 20 then 10
  else if o = 17 then 11
  else if o = 6 ∨ o = 56 then 12
  else if o = 7 ∨ o = 57 then 13
  else if o = 8 ∨ o = 58 then 14
  else if o = 9 ∨ o = 59 then 15
  else if (39 ≤ o ∧ o ≤ 41) ∨ (89 ≤ o ∧ o ≤ 91) then 16
  else if o = 37 ∨ o = 38 ∨ o = 87 ∨ o = 88 ∨ o = 4 then 17
  else if o = 27 ∨ (1400 ≤ o ∧ o < 1600) then 18
  else 19
def ownS (o k : Nat) : Nat :=
  if o = 5001 then (if k = 3 then 0 else if k = 35 then 1 else if k = 4 then 2 else if k = 9 then 5 else if k = 18 then 7 else if k = 1 then 12 else if k = 42 then 13 else if k = 60 then 14 else if k = 62 then 15 else if k = 66 then 16 else if 55 ≤ k ∧ k ≤ 57 then 17 else if k = 36 then 18 else 19)
  else if 5015 ≤ o ∧ o ≤ 5018 then 2
  else if o = 5075 then 4
  else if (5020 ≤ o ∧ o ≤ 5026) ∨ o = 5086 then 5
  else if o = 5027 then 6
  else if 5029 ≤ o ∧ o ≤ 5039 then 7
  else if 5040 ≤ o ∧ o ≤ 5042 then 8
  else if o = 5043 then 9
  else if o = 5044 then 10
  else if o = 5059 then 11
  else if o = 5012 then 12
  else if o = 5051 then 13
  else if o = 5071 then 14
  else if o = 5073 then 15
  else if 5077 ≤ o ∧ o ≤ 5079 then 16
  else if o = 5068 ∨ o = 5069 then 17
  else if 5047 ≤ o ∧ o ≤ 5050 then 18
  else 19
/-- two memories of the model that agree on all cells that last; of the code rows only what belongs to terms that stand -/
def a_ag (c : Nat → Nat) (σ m : q_MM) : Prop := ∀ o k, ownS o k ≠ 19 → (o = 5049 → k < 64 * c 3) → (o = 5050 → k < c 3) → m o k = σ o k
/-- a mark of the model's code, as the class writes it -/
def a_tr (x : Int32) : Int32 := if 0 ≤ x then x else if -12 ≤ x then 10000 + (-1 - x) else if x = -300 then -59 else -(x + 200)
/-- marks in an order that can be worked: how many numbers lie on the heap ahead of and behind each -/
def a_wfs (v : Int32) (d d' : Nat) : Prop := (0 ≤ v ∧ v < 10000 ∧ d' = d + 1) ∨ (v < 0 ∧ -12 ≤ v ∧ d' = d + 1) ∨ ((v = -167 ∨ v = -74) ∧ 1 ≤ d ∧ d' = d) ∨ (v ∈ [(-163 : Int32), -162, -158, -157, -155, -153, -140, -139, -138, -76] ∧ 2 ≤ d ∧ d' + 1 = d) ∨ (v = -300 ∧ d = 1 ∧ d' = 0)
def a_wf (f : Nat → Int32) (k : Nat) : Prop := ∃ δ : Nat → Nat, δ 0 = 0 ∧ δ k = 1 ∧ ∀ i, i < k → a_wfs (f i) (δ i) (δ (i + 1))
theorem a_wf_cong {f g : Nat → Int32} {k : Nat} (h : a_wf f k) (e : ∀ i, i < k → g i = f i) : a_wf g k := by
  obtain ⟨δ, h1, h2, h3⟩ := h
  exact ⟨δ, h1, h2, fun i hi => by rw [e i hi]; exact h3 i hi⟩
def a_B0 (c n : Nat → Nat) (σ M : q_MM) : Prop := n 0 ≤ 10 ∧ σ 5001 3 = nI (n 0) ∧ M 2 10 = nI (n 0)
def a_B1 (c n : Nat → Nat) (σ M : q_MM) : Prop := n 1 ≤ 400 ∧ σ 5001 35 = nI (n 1) ∧ M 2 12 = nI (n 1)
def a_B2 (c n : Nat → Nat) (σ M : q_MM) : Prop := c 0 ≤ 20 ∧ σ 5001 4 = nI (c 0) ∧ M 13 2 = nI (c 0) ∧ (∀ d, d < c 0 → M (1000 + d) 0 = σ 5015 d ∧ M (1000 + d) 1 = σ 5016 d ∧ M (1000 + d) 2 = σ 5017 d ∧ M (1000 + d) 3 = σ 5018 d ∧ a_lt (σ 5015 d) (n 0) ∧ a_lt (σ 5016 d) (n 0) ∧ σ 5015 d ≠ σ 5016 d) ∧ (∀ r, r < n 0 → ∃ k, M 18 r = nI k ∧ a_dst (fun _ => True) (a_A σ) (a_Bd σ) (c 0) 0 r k)
def a_B4 (c n : Nat → Nat) (σ M : q_MM) : Prop := ∀ r, r < 10 → (σ 5075 r = 0 ∨ σ 5075 r = 1) ∧ a_bit (M 2 11) r = (σ 5075 r == 1)
def a_B5 (c n : Nat → Nat) (σ M : q_MM) : Prop := c 1 ≤ 16 ∧ σ 5001 9 = nI (c 1) ∧ M 14 2 = nI (c 1) ∧ (∀ w, w < c 1 → (M (1100 + w) 0 = nI w ∧ M (1100 + w) 1 = σ 5020 w ∧ M (1100 + w) 2 = σ 5021 w ∧ M (1100 + w) 3 = σ 5022 w ∧ M (1100 + w) 4 = σ 5023 w ∧ M (1100 + w) 6 = σ 5025 w ∧ M (1100 + w) 7 = σ 5026 w) ∧ (a_lt (σ 5020 w) (n 0) ∧ a_rg (σ 5021 w) 50 3000 ∧ a_rg (σ 5022 w) 100 900 ∧ a_rg (σ 5023 w) 1 9999 ∧ a_rg (σ 5025 w) 0 23 ∧ a_rg (σ 5026 w) 0 23)) ∧ (∀ w, w < c 1 → ∀ h, h < 24 → M (1200 + w) h = σ 5024 (24 * w + h) ∧ a_rg (σ 5024 (24 * w + h)) 0 9999) ∧ (∀ w, w < c 1 → ∀ r, r < 10 → (σ 5086 (16 * r + w) = 0 ∨ σ 5086 (16 * r + w) = 1) ∧ a_bit (M (1100 + w) 8) r = (σ 5020 w == nI r || σ 5086 (16 * r + w) == 1)) ∧ (∀ w, c 1 ≤ w → w < 16 → (∀ h, h < 24 → σ 5024 (24 * w + h) = 0) ∧ ∀ r, r < 10 → σ 5086 (16 * r + w) = 0)
def a_B6 (c n : Nat → Nat) (σ M : q_MM) : Prop := (∀ k, k < 4 → M 16 k = σ 5027 k) ∧ a_rg (σ 5027 0) 100 200 ∧ a_rg (σ 5027 1) 0 99 ∧ a_rg (σ 5027 2) 0 23 ∧ a_rg (σ 5027 3) 0 23 ∧ (σ 5027 2).toInt ≤ (σ 5027 3).toInt
def a_B7 (c n : Nat → Nat) (σ M : q_MM) : Prop := c 2 ≤ 24 ∧ σ 5001 18 = nI (c 2) ∧ M 15 2 = nI (c 2) ∧ (∀ p, p < c 2 → (M (1300 + p) 0 = nI p ∧ M (1300 + p) 1 = σ 5029 p ∧ M (1300 + p) 2 = σ 5030 p ∧ M (1300 + p) 3 = σ 5031 p ∧ M (1300 + p) 4 = σ 5032 p ∧ M (1300 + p) 5 = σ 5033 p ∧ M (1300 + p) 6 = σ 5034 p ∧ M (1300 + p) 7 = σ 5035 p ∧ M (1300 + p) 8 = σ 5036 p ∧ M (1300 + p) 9 = σ 5037 p ∧ M (1300 + p) 10 = σ 5038 p ∧ M (1300 + p) 11 = σ 5039 p) ∧ (a_rg (σ 5029 p) 10 800 ∧ a_rg (σ 5030 p) 10 800 ∧ a_rg (σ 5031 p) 1 999 ∧ a_lt (σ 5032 p) 8 ∧ a_rg (σ 5033 p) 0 2999 ∧ a_rg (σ 5034 p) 0 999 ∧ a_lt (σ 5035 p) 8 ∧ a_ltm (σ 5036 p) (c 2) ∧ σ 5036 p ≠ nI p ∧ a_ltm (σ 5037 p) (c 2) ∧ σ 5037 p ≠ nI p ∧ a_rg (σ 5038 p) 0 1000000 ∧ a_rg (σ 5039 p) 0 400)) ∧ (∀ p q, p < c 2 → q < c 2 → σ 5036 p = nI q → σ 5036 q = nI p)
def a_B8 (c n : Nat → Nat) (σ M : q_MM) : Prop := c 2 ≤ 24 ∧ (∀ p, p < c 2 → M 61 p = σ 5041 p ∧ M 63 p = σ 5042 p ∧ M (1300 + p) 12 = (if σ 5040 p = 1 then 0 else σ 5040 p) ∧ a_lt (σ 5040 p) 4 ∧ (σ 5040 p = 1 → a_lt (σ 5041 p) (c 1) ∧ a_rg (σ 5042 p) 0 3000) ∧ (σ 5040 p ≠ 1 → σ 5041 p = -1 ∧ σ 5042 p = -1)) ∧ (∀ p, c 2 ≤ p → p < 24 → M 61 p = -1 ∧ M 63 p = -1 ∧ σ 5040 p = 0) ∧ (∀ p, p < c 2 → n 1 = 400 → n (100 + p) = 0 → σ 5040 p = 3) ∧ (∀ p q, p < c 2 → q < c 2 → p ≠ q → σ 5040 p = 1 → σ 5040 q = 1 → σ 5041 p = σ 5041 q → σ 5042 p ≠ σ 5042 q)
def a_B9 (c n : Nat → Nat) (σ M : q_MM) : Prop := c 2 ≤ 24 ∧ (∀ p, p < c 2 → M (1300 + p) 13 = σ 5043 p ∧ a_rg (σ 5043 p) 0 (239976 * (n 1 : Int))) ∧ (∀ p, c 2 ≤ p → p < 24 → σ 5043 p = 0) ∧ (∀ p, p < c 2 → n 1 = 400 → n (100 + p) = 0 ∨ σ 5043 p = 0)
def a_B10 (c n : Nat → Nat) (σ M : q_MM) : Prop := (∀ p, p < 24 → ∀ k, k < 400 → (σ 5044 (400 * p + k) = 0 ∨ σ 5044 (400 * p + k) = 1) ∧ a_bit (M 20 k) p = (σ 5044 (400 * p + k) == 1) ∧ (n 1 ≤ k ∨ c 2 ≤ p → σ 5044 (400 * p + k) = 0))
def a_B11 (c n : Nat → Nat) (σ M : q_MM) : Prop := ∀ a b, a < 8 → b < 8 → M 17 (8 * a + b) = σ 5059 (8 * a + b) ∧ a_rg (σ 5059 (8 * a + b)) (-99) 99 ∧ σ 5059 (8 * a + b) = σ 5059 (8 * b + a)
/-- a row of numbers on either side: the same length, the same numbers -/
def a_row (N : Nat) (x y : Int32) (f g : Nat → Int32) (P : Int32 → Prop) : Prop := ∃ k : Nat, k ≤ N ∧ x = nI k ∧ y = nI k ∧ ∀ i, i < k → f i = g i ∧ P (g i)
def a_B12 (c n : Nat → Nat) (σ M : q_MM) : Prop := a_row 32 (M 6 1) (σ 5001 1) (M 56) (σ 5012) fun _ => True
def a_B13 (c n : Nat → Nat) (σ M : q_MM) : Prop := a_row 100 (M 7 1) (σ 5001 42) (M 57) (σ 5051) fun x => a_lt x 256
def a_dis (k : Nat) (f : Nat → Int32) : Prop := ∀ i j, i < k → j < k → f i = f j → i = j
def a_B14 (c n : Nat → Nat) (σ M : q_MM) : Prop := a_row 12 (M 8 1) (σ 5001 60) (M 58) (σ 5071) (fun x => a_lt x (c 2)) ∧ a_dis (σ 5001 60).toNatClampNeg (σ 5071)
def a_B15 (c n : Nat → Nat) (σ M : q_MM) : Prop := a_row 10 (M 9 1) (σ 5001 62) (M 59) (σ 5073) (fun x => a_lt x (n 0)) ∧ a_dis (σ 5001 62).toNatClampNeg (σ 5073)
def a_B16 (c n : Nat → Nat) (σ M : q_MM) : Prop := a_row 8 (M 39 1) (σ 5001 66) (M 89) (σ 5077) (fun x => a_lt x (c 2)) ∧ a_row 8 (M 40 1) (σ 5001 66) (M 90) (σ 5078) (fun x => a_lt x (c 1)) ∧ a_row 8 (M 41 1) (σ 5001 66) (M 91) (σ 5079) (fun x => a_rg x (-1000) 4000) ∧ a_dis (σ 5001 66).toNatClampNeg (σ 5077)
def a_B17 (c n : Nat → Nat) (σ M : q_MM) : Prop := (σ 5001 57 = 0 ∧ M 37 1 = 0 ∧ ∃ k : Nat, k ≤ 7 ∧ σ 5001 55 = nI k ∧ ∀ i, i < k → a_lt (σ 5068 i) (c 2)) ∨ (σ 5001 57 = 1 ∧ M 4 7 = σ 5001 56 ∧ a_lt (σ 5001 56) (c 1) ∧ (∃ k : Nat, 1 ≤ k ∧ k ≤ 7 ∧ σ 5001 55 = nI k) ∧ a_row 7 (M 37 1) (σ 5001 55) (M 87) (σ 5068) (fun x => a_lt x (c 2)) ∧ a_row 7 (M 38 1) (σ 5001 55) (M 88) (σ 5069) (fun x => a_rg x 0 3000) ∧ a_dis (σ 5001 55).toNatClampNeg (σ 5068) ∧ a_dis (σ 5001 55).toNatClampNeg (σ 5069))
def a_B18 (c n : Nat → Nat) (σ M : q_MM) : Prop := c 3 ≤ 30 ∧ σ 5001 36 = nI (c 3) ∧ M 27 2 = nI (c 3) ∧ (∀ t, t < c 3 → M (1400 + t) 0 = σ 5047 t ∧ M (1400 + t) 1 = σ 5048 t ∧ a_lt (σ 5047 t) (c 2) ∧ a_rg (σ 5048 t) 0 400 ∧ ∃ k : Nat, k ≤ 60 ∧ σ 5050 t = nI k ∧ c (10 + t) = k + 1 ∧ M (1500 + t) k = -59 ∧ (∀ i, i < k → M (1500 + t) i = a_tr (σ 5049 (64 * t + i))) ∧ a_wf (fun i => σ 5049 (64 * t + i)) k)
def a_R (i : Nat) (c n : Nat → Nat) (σ M : q_MM) : Prop := match i with
  | 0 => a_B0 c n σ M
  | 1 => a_B1 c n σ M
  | 2 => a_B2 c n σ M
  | 3 => True
  | 4 => a_B4 c n σ M
  | 5 => a_B5 c n σ M
  | 6 => a_B6 c n σ M
  | 7 => a_B7 c n σ M
  | 8 => a_B8 c n σ M
  | 9 => a_B9 c n σ M
  | 10 => a_B10 c n σ M
  | 11 => a_B11 c n σ M
  | 12 => a_B12 c n σ M
  | 13 => a_B13 c n σ M
  | 14 => a_B14 c n σ M
  | 15 => a_B15 c n σ M
  | 16 => a_B16 c n σ M
  | 17 => a_B17 c n σ M
  | 18 => a_B18 c n σ M
  | _ => True
/-- class and model hold the same -/
def a_X (c n : Nat → Nat) (σ M : q_MM) : Prop := ∀ i : Nat, a_R i c n σ M
def a_only (own : Nat → Nat → Nat) (i : Nat) (M M' : q_MM) : Prop := ∀ o k, own o k = i → M' o k = M o k
theorem a_cong {c n : Nat → Nat} {σ σ' M M' : q_MM} (i : Nat) (hM : a_only ownM i M M') (hS : a_only ownS i σ σ') (h : a_R i c n σ M) : a_R i c n σ' M' := by
  match i, hM, hS, h with
  | 0, hM, hS, h =>
    have h : a_B0 c n σ M := h
    exact ⟨h.1, by rw [hS 5001 3 rfl]; exact h.2.1, by rw [hM 2 10 rfl]; exact h.2.2⟩
  | 1, hM, hS, h =>
    have h : a_B1 c n σ M := h
    exact ⟨h.1, by rw [hS 5001 35 rfl]; exact h.2.1, by rw [hM 2 12 rfl]; exact h.2.2⟩
  | 2, hM, hS, h =>
    have h : a_B2 c n σ M := h
    have e1 : ∀ d k, d < 20 → M' (1000 + d) k = M (1000 + d) k := fun d k hd => hM _ _ (by unfold ownM; rw [if_neg (by omega), if_pos (by omega)])
    have e2 : σ' 5015 = σ 5015 := funext fun k => hS _ _ rfl
    have e3 : σ' 5016 = σ 5016 := funext fun k => hS _ _ rfl
    have e4 : σ' 5017 = σ 5017 := funext fun k => hS _ _ rfl
    have e5 : σ' 5018 = σ 5018 := funext fun k => hS _ _ rfl
    have e6 : a_A σ' = a_A σ := by unfold a_A; rw [e2]
    have e7 : a_Bd σ' = a_Bd σ := by unfold a_Bd; rw [e3]
    refine ⟨h.1, by rw [hS 5001 4 rfl]; exact h.2.1, by rw [hM 13 2 rfl]; exact h.2.2.1, fun d hd => ?_, fun r hr => ?_⟩
    · have := h.1
      rw [e1 d 0 (by omega), e1 d 1 (by omega), e1 d 2 (by omega), e1 d 3 (by omega), e2, e3, e4, e5]
      exact h.2.2.2.1 d hd
    · rw [hM 18 r rfl, e6, e7]
      exact h.2.2.2.2 r hr
  | 3, _, _, _ => trivial
  | 4, hM, hS, h =>
    have h : a_B4 c n σ M := h
    intro r hr
    rw [hS 5075 r rfl, hM 2 11 rfl]
    exact h r hr
  | 5, hM, hS, h =>
    have h : a_B5 c n σ M := h
    have h1 := h.1
    have e1 : ∀ w k, w < 16 → M' (1100 + w) k = M (1100 + w) k := fun d k hd => hM _ _ (by unfold ownM; rw [if_neg (by omega), if_neg (by omega), if_pos (by omega)])
    have e2 : ∀ w k, w < 16 → M' (1200 + w) k = M (1200 + w) k := fun d k hd => hM _ _ (by unfold ownM; rw [if_neg (by omega), if_neg (by omega), if_pos (by omega)])
    have f0 : σ' 5020 = σ 5020 := funext fun k => hS _ _ rfl
    have f1 : σ' 5021 = σ 5021 := funext fun k => hS _ _ rfl
    have f2 : σ' 5022 = σ 5022 := funext fun k => hS _ _ rfl
    have f3 : σ' 5023 = σ 5023 := funext fun k => hS _ _ rfl
    have f4 : σ' 5024 = σ 5024 := funext fun k => hS _ _ rfl
    have f5 : σ' 5025 = σ 5025 := funext fun k => hS _ _ rfl
    have f6 : σ' 5026 = σ 5026 := funext fun k => hS _ _ rfl
    have f7 : σ' 5086 = σ 5086 := funext fun k => hS _ _ rfl
    refine ⟨h.1, by rw [hS 5001 9 rfl]; exact h.2.1, by rw [hM 14 2 rfl]; exact h.2.2.1, fun w hw => ?_, fun w hw k hk => ?_, fun w hw k hk => ?_, fun w hw hw2 => ?_⟩
    · rw [e1 w 0 (by omega), e1 w 1 (by omega), e1 w 2 (by omega), e1 w 3 (by omega), e1 w 4 (by omega), e1 w 6 (by omega), e1 w 7 (by omega), f0, f1, f2, f3, f5, f6]
      exact h.2.2.2.1 w hw
    · rw [e2 w k (by omega), f4]
      exact h.2.2.2.2.1 w hw k hk
    · rw [e1 w 8 (by omega), f0, f7]
      exact h.2.2.2.2.2.1 w hw k hk
    · rw [f4, f7]
      exact h.2.2.2.2.2.2 w hw hw2
  | 6, hM, hS, h =>
    have h : a_B6 c n σ M := h
    have f0 : σ' 5027 = σ 5027 := funext fun k => hS _ _ rfl
    have f1 : M' 16 = M 16 := funext fun k => hM _ _ rfl
    unfold a_R a_B6
    rw [f0, f1]
    exact h
  | 7, hM, hS, h =>
    have h : a_B7 c n σ M := h
    have h1 := h.1
    have e1 : ∀ w k, w < 24 → k ≤ 11 → M' (1300 + w) k = M (1300 + w) k := fun d k hd hk => hM _ _ (by unfold ownM; rw [if_neg (by omega), if_neg (by omega), if_neg (by omega), if_neg (by omega), if_neg (by omega), if_pos (by omega), if_pos hk])
    have f0 : σ' 5029 = σ 5029 := funext fun k => hS _ _ rfl
    have f1 : σ' 5030 = σ 5030 := funext fun k => hS _ _ rfl
    have f2 : σ' 5031 = σ 5031 := funext fun k => hS _ _ rfl
    have f3 : σ' 5032 = σ 5032 := funext fun k => hS _ _ rfl
    have f4 : σ' 5033 = σ 5033 := funext fun k => hS _ _ rfl
    have f5 : σ' 5034 = σ 5034 := funext fun k => hS _ _ rfl
    have f6 : σ' 5035 = σ 5035 := funext fun k => hS _ _ rfl
    have f7 : σ' 5036 = σ 5036 := funext fun k => hS _ _ rfl
    have f8 : σ' 5037 = σ 5037 := funext fun k => hS _ _ rfl
    have f9 : σ' 5038 = σ 5038 := funext fun k => hS _ _ rfl
    have f10 : σ' 5039 = σ 5039 := funext fun k => hS _ _ rfl
    refine ⟨h.1, by rw [hS 5001 18 rfl]; exact h.2.1, by rw [hM 15 2 rfl]; exact h.2.2.1, fun w hw => ?_, by rw [f7]; exact h.2.2.2.2⟩
    rw [e1 w 0 (by omega) (by omega), e1 w 1 (by omega) (by omega), e1 w 2 (by omega) (by omega), e1 w 3 (by omega) (by omega), e1 w 4 (by omega) (by omega), e1 w 5 (by omega) (by omega), e1 w 6 (by omega) (by omega), e1 w 7 (by omega) (by omega), e1 w 8 (by omega) (by omega), e1 w 9 (by omega) (by omega), e1 w 10 (by omega) (by omega), e1 w 11 (by omega) (by omega), f0, f1, f2, f3, f4, f5, f6, f7, f8, f9, f10]
    exact h.2.2.2.1 w hw
  | 8, hM, hS, h =>
    have h : a_B8 c n σ M := h
    have f0 : σ' 5040 = σ 5040 := funext fun k => hS _ _ rfl
    have f1 : σ' 5041 = σ 5041 := funext fun k => hS _ _ rfl
    have f2 : σ' 5042 = σ 5042 := funext fun k => hS _ _ rfl
    have g1 : M' 61 = M 61 := funext fun k => hM _ _ rfl
    have g2 : M' 63 = M 63 := funext fun k => hM _ _ rfl
    unfold a_R a_B8
    rw [f0, f1, f2, g1, g2]
    refine ⟨h.1, fun p hp => ?_, h.2.2⟩
    have h1 := h.1
    rw [hM (1300 + p) 12 (by unfold ownM; rw [if_neg (by omega), if_neg (by omega), if_neg (by omega), if_neg (by omega), if_neg (by omega), if_pos (by omega), if_neg (by omega), if_pos rfl])]
    exact h.2.1 p hp
  | 9, hM, hS, h =>
    have h : a_B9 c n σ M := h
    have f0 : σ' 5043 = σ 5043 := funext fun k => hS _ _ rfl
    have h1 := h.1
    unfold a_R a_B9
    rw [f0]
    refine ⟨h.1, fun p hp => ?_, h.2.2⟩
    rw [hM (1300 + p) 13 (by unfold ownM; rw [if_neg (by omega), if_neg (by omega), if_neg (by omega), if_neg (by omega), if_neg (by omega), if_pos (by omega), if_neg (by omega), if_neg (by omega), if_pos rfl])]
    exact h.2.1 p hp
  | 10, hM, hS, h =>
    have h : a_B10 c n σ M := h
    have f0 : σ' 5044 = σ 5044 := funext fun k => hS _ _ rfl
    have g1 : M' 20 = M 20 := funext fun k => hM _ _ rfl
    unfold a_R a_B10
    rw [f0, g1]
    exact h
  | 11, hM, hS, h =>
    have h : a_B11 c n σ M := h
    have f0 : σ' 5059 = σ 5059 := funext fun k => hS _ _ rfl
    have g1 : M' 17 = M 17 := funext fun k => hM _ _ rfl
    unfold a_R a_B11
    rw [f0, g1]
    exact h
  | 12, hM, hS, h =>
    have h : a_B12 c n σ M := h
    have f0 : σ' 5012 = σ 5012 := funext fun k => hS _ _ rfl
    have g1 : M' 56 = M 56 := funext fun k => hM _ _ rfl
    unfold a_R a_B12
    rw [f0, g1, hM 6 1 rfl, hS 5001 1 rfl]
    exact h
  | 13, hM, hS, h =>
    have h : a_B13 c n σ M := h
    have f0 : σ' 5051 = σ 5051 := funext fun k => hS _ _ rfl
    have g1 : M' 57 = M 57 := funext fun k => hM _ _ rfl
    unfold a_R a_B13
    rw [f0, g1, hM 7 1 rfl, hS 5001 42 rfl]
    exact h
  | 14, hM, hS, h =>
    have h : a_B14 c n σ M := h
    have f0 : σ' 5071 = σ 5071 := funext fun k => hS _ _ rfl
    have g1 : M' 58 = M 58 := funext fun k => hM _ _ rfl
    unfold a_R a_B14
    rw [f0, g1, hM 8 1 rfl, hS 5001 60 rfl]
    exact h
  | 15, hM, hS, h =>
    have h : a_B15 c n σ M := h
    have f0 : σ' 5073 = σ 5073 := funext fun k => hS _ _ rfl
    have g1 : M' 59 = M 59 := funext fun k => hM _ _ rfl
    unfold a_R a_B15
    rw [f0, g1, hM 9 1 rfl, hS 5001 62 rfl]
    exact h
  | 16, hM, hS, h =>
    have h : a_B16 c n σ M := h
    have f0 : σ' 5077 = σ 5077 := funext fun k => hS _ _ rfl
    have f1 : σ' 5078 = σ 5078 := funext fun k => hS _ _ rfl
    have f2 : σ' 5079 = σ 5079 := funext fun k => hS _ _ rfl
    have g0 : M' 89 = M 89 := funext fun k => hM _ _ rfl
    have g1 : M' 90 = M 90 := funext fun k => hM _ _ rfl
    have g2 : M' 91 = M 91 := funext fun k => hM _ _ rfl
    unfold a_R a_B16
    rw [f0, f1, f2, g0, g1, g2, hM 39 1 rfl, hM 40 1 rfl, hM 41 1 rfl, hS 5001 66 rfl]
    exact h
  | 17, hM, hS, h =>
    have h : a_B17 c n σ M := h
    have f0 : σ' 5068 = σ 5068 := funext fun k => hS _ _ rfl
    have f1 : σ' 5069 = σ 5069 := funext fun k => hS _ _ rfl
    have g0 : M' 87 = M 87 := funext fun k => hM _ _ rfl
    have g1 : M' 88 = M 88 := funext fun k => hM _ _ rfl
    unfold a_R a_B17
    rw [f0, f1, g0, g1, hM 37 1 rfl, hM 38 1 rfl, hM 4 7 rfl, hS 5001 55 rfl, hS 5001 56 rfl, hS 5001 57 rfl]
    exact h
  | 18, hM, hS, h =>
    have h : a_B18 c n σ M := h
    have h1 := h.1
    have e1 : ∀ w k, w < 30 → M' (1400 + w) k = M (1400 + w) k := fun d k hd => hM _ _ (by unfold ownM; simp only [if_neg (show ¬ (1400 + d = 2) by omega), if_neg (show ¬ (1400 + d = 13 ∨ 1400 + d = 18 ∨ (1000 ≤ 1400 + d ∧ 1400 + d < 1100)) by omega), if_neg (show ¬ (1400 + d = 14 ∨ (1100 ≤ 1400 + d ∧ 1400 + d < 1300)) by omega)]; repeat (first | rw [if_pos (by omega)] | rw [if_neg (by omega)]))
    have e2 : ∀ w k, w < 30 → M' (1500 + w) k = M (1500 + w) k := fun d k hd => hM _ _ (by unfold ownM; repeat (first | rw [if_pos (by omega)] | rw [if_neg (by omega)]))
    have f0 : σ' 5047 = σ 5047 := funext fun k => hS _ _ rfl
    have f1 : σ' 5048 = σ 5048 := funext fun k => hS _ _ rfl
    have f2 : σ' 5049 = σ 5049 := funext fun k => hS _ _ rfl
    have f3 : σ' 5050 = σ 5050 := funext fun k => hS _ _ rfl
    refine ⟨h.1, by rw [hS 5001 36 rfl]; exact h.2.1, by rw [hM 27 2 rfl]; exact h.2.2.1, fun t ht => ?_⟩
    rw [e1 t 0 (by omega), e1 t 1 (by omega), f0, f1, f2, f3]
    have e3 : M' (1500 + t) = M (1500 + t) := funext fun k => e2 t k (by omega)
    rw [e3]
    exact h.2.2.2 t ht
  | k + 19, _, _, _ => trivial
/-- what a call has changed: parts in S anew, all else as it was -/
theorem a_X.upd {c n : Nat → Nat} {σ σ' M M' : q_MM} (h : a_X c n σ M) (S : List Nat) (hM : ∀ o k, ownM o k ∈ S ∨ ownM o k = 19 ∨ M' o k = M o k) (hσ : ∀ o k, ownS o k ∈ S ∨ ownS o k = 19 ∨ σ' o k = σ o k) (hS : ∀ i ∈ S, a_R i c n σ' M') : a_X c n σ' M' := by
  intro i
  by_cases hi : i ∈ S
  · exact hS i hi
  · by_cases h9 : i = 19
    · subst h9
      trivial
    · refine a_cong i (fun o k e => ?_) (fun o k e => ?_) (h i)
      · rcases hM o k with z | z | z
        · exact absurd (e ▸ z) hi
        · exact absurd (e.symm.trans z) h9
        · exact z
      · rcases hσ o k with z | z | z
        · exact absurd (e ▸ z) hi
        · exact absurd (e.symm.trans z) h9
        · exact z
theorem a_ag.rf {c : Nat → Nat} {m : q_MM} : a_ag c m m := fun _ _ _ _ _ => rfl
theorem a_ag.trans {c : Nat → Nat} {m m' m'' : q_MM} (h : a_ag c m m') (h' : a_ag c m' m'') : a_ag c m m'' := fun o k a1 a2 a3 => (h' o k a1 a2 a3).trans (h o k a1 a2 a3)
theorem a_ag.symm {c : Nat → Nat} {m m' : q_MM} (h : a_ag c m m') : a_ag c m' m := fun o k a1 a2 a3 => (h o k a1 a2 a3).symm
theorem q_u2_ne {M : q_MM} {o k : Nat} {v : Int32} {o' k' : Nat} (h : ¬ (o' = o ∧ k' = k)) : q_u2 M o k v o' k' = M o' k' := by
  rw [q_u2_at]
  by_cases h1 : o' = o
  · rw [if_pos h1, if_neg (fun z => h ⟨h1, z⟩)]
  · rw [if_neg h1]
theorem q_u2_eq {M : q_MM} {o k : Nat} {v : Int32} : q_u2 M o k v o k = v := by rw [q_u2_at, if_pos rfl, if_pos rfl]
theorem a_ag.u2 {c : Nat → Nat} {σ m : q_MM} {o k : Nat} {v : Int32} (h : a_ag c σ m) (ho : ownS o k = 19) : a_ag c σ (q_u2 m o k v) := fun o' k' a1 a2 a3 => by
  rw [q_u2_ne (fun z => a1 (by rw [z.1, z.2]; exact ho))]
  exact h o' k' a1 a2 a3
theorem a_ag.at {c : Nat → Nat} {σ m : q_MM} (h : a_ag c σ m) (o k : Nat) (h1 : ownS o k ≠ 19) (h2 : o ≠ 5049) (h3 : o ≠ 5050) : m o k = σ o k := h o k h1 (fun z => absurd z h2) (fun z => absurd z h3)
theorem a_X.ag {c n : Nat → Nat} {σ m M : q_MM} (h : a_X c n σ M) (hm : a_ag c σ m) : a_X c n m M := by
  intro i
  by_cases h9 : i = 19
  · subst h9
    trivial
  by_cases h8 : i = 18
  · subst h8
    have h : a_B18 c n σ M := h 18
    refine ⟨h.1, by rw [hm.at 5001 36 (by decide) (by decide) (by decide)]; exact h.2.1, h.2.2.1, fun t ht => ?_⟩
    obtain ⟨e1, e2, e3, e4, k, e5, e6, e7, e8, e9, e10⟩ := h.2.2.2 t ht
    have f1 : m 5047 t = σ 5047 t := hm.at 5047 t (by show (18 : Nat) ≠ 19; decide) (by decide) (by decide)
    have f2 : m 5048 t = σ 5048 t := hm.at 5048 t (by show (18 : Nat) ≠ 19; decide) (by decide) (by decide)
    have f3 : m 5050 t = σ 5050 t := hm 5050 t (by show (18 : Nat) ≠ 19; decide) (fun z => absurd z (by decide)) (fun _ => ht)
    refine ⟨e1.trans f1.symm, e2.trans f2.symm, by rw [f1]; exact e3, by rw [f2]; exact e4, k, e5, f3.trans e6, e7, e8, fun i hi => ?_, a_wf_cong e10 fun i hi => hm 5049 (64 * t + i) (by show (18 : Nat) ≠ 19; decide) (fun _ => by omega) (fun z => absurd z (by decide))⟩
    rw [hm 5049 (64 * t + i) (by show (18 : Nat) ≠ 19; decide) (fun _ => by omega) (fun z => absurd z (by decide))]
    exact e9 i hi
  · refine a_cong i (fun o k e => rfl) (fun o k e => hm.at o k (fun z => h9 (e.symm.trans z)) (fun z => h8 ?_) (fun z => h8 ?_)) (h i)
    · subst z
      exact e.symm.trans (by rfl)
    · subst z
      exact e.symm.trans (by rfl)
/-- writes into given parts alone -/
def a_wM (S : List Nat) (M M' : q_MM) : Prop := ∀ o k, ownM o k ∈ S ∨ ownM o k = 19 ∨ M' o k = M o k
def a_wS (S : List Nat) (M M' : q_MM) : Prop := ∀ o k, ownS o k ∈ S ∨ ownS o k = 19 ∨ M' o k = M o k
theorem a_wM.rf {S : List Nat} {M : q_MM} : a_wM S M M := fun _ _ => Or.inr (Or.inr rfl)
theorem a_wS.rf {S : List Nat} {M : q_MM} : a_wS S M M := fun _ _ => Or.inr (Or.inr rfl)
theorem a_wM.u2 {S : List Nat} {M M' : q_MM} {o k : Nat} {v : Int32} (h : a_wM S M M') (ho : ownM o k ∈ S ∨ ownM o k = 19) : a_wM S M (q_u2 M' o k v) := fun o' k' => by
  by_cases z : o' = o ∧ k' = k
  · obtain ⟨rfl, rfl⟩ := z
    exact ho.elim Or.inl (fun q => Or.inr (Or.inl q))
  · rw [q_u2_ne z]
    exact h o' k'
theorem a_wS.u2 {S : List Nat} {M M' : q_MM} {o k : Nat} {v : Int32} (h : a_wS S M M') (ho : ownS o k ∈ S ∨ ownS o k = 19) : a_wS S M (q_u2 M' o k v) := fun o' k' => by
  by_cases z : o' = o ∧ k' = k
  · obtain ⟨rfl, rfl⟩ := z
    exact ho.elim Or.inl (fun q => Or.inr (Or.inl q))
  · rw [q_u2_ne z]
    exact h o' k'
theorem a_X.wr {c n : Nat → Nat} {m m' M M' : q_MM} (h : a_X c n m M) (S : List Nat) (hM : a_wM S M M') (hm : a_wS S m m') (hS : ∀ i ∈ S, a_R i c n m' M') : a_X c n m' M' := h.upd S hM hm hS
theorem a_X.scr {c n : Nat → Nat} {m M M' : q_MM} (h : a_X c n m M) (hM : a_wM [] M M') : a_X c n m M' := h.upd [] hM a_wS.rf (fun i hi => by cases hi)
/-- class and model answer alike -/
def a_T (c : Nat → Nat) (fx fm : Option (Int32 × q_MM)) : Prop := ∃ r n' Mx' m', fx = some (r, Mx') ∧ fm = some (r, m') ∧ a_X c n' m' Mx'
def a_Tr (c : Nat → Nat) (M : q_MM) (fx : Option Int32) (fm : Option (Int32 × q_MM)) : Prop := ∃ r n' m', fx = some r ∧ fm = some (r, m') ∧ a_X c n' m' M
theorem a_X.t0 {c n : Nat → Nat} {m M : q_MM} (h : a_X c n m M) : a_X c n (q_u2 m 5001 0 0) M := h.ag (a_ag.rf.u2 rfl)
theorem a_T.no {c n : Nat → Nat} {m M : q_MM} (h : a_X c n m M) (r : Int32) {fx fm : Option (Int32 × q_MM)} (h1 : fx = some (r, M)) (h2 : fm = some (r, m)) : a_T c fx fm := ⟨r, n, M, m, h1, h2, h⟩
