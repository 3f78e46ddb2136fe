/-! best: rows of neighbours, pure. k: chosen ones; LK: likings; FE: whose fellow is which (100: nobody here); a set of used ones is bits, the last one a number (100: none) -/
def a_al (k : Nat) (FE : Nat → Nat) (u l i : Nat) : Prop := u.testBit i = false ∧ (l < k → FE l < k → u.testBit (FE l) = true ∨ FE l = i)
def a_LL (LK : Nat → Nat → Int) (l i : Nat) : Int := if l = 100 then 0 else LK l i
/-- the first of the greatest below i -/
noncomputable def a_bx (al : Nat → Prop) (F : Nat → Int) : Nat → Nat × Int
  | 0 => (100, 0)
  | i + 1 => a_if (al i ∧ ((a_bx al F i).1 = 100 ∨ (a_bx al F i).2 < F i)) (i, F i) (a_bx al F i)
theorem a_bx_s {al : Nat → Prop} {F : Nat → Int} {i : Nat} : a_bx al F (i + 1) = a_if (al i ∧ ((a_bx al F i).1 = 100 ∨ (a_bx al F i).2 < F i)) (i, F i) (a_bx al F i) := rfl
theorem a_bx_cong {al : Nat → Prop} {F G : Nat → Int} : ∀ {i : Nat}, (∀ j, j < i → al j → F j = G j) → a_bx al F i = a_bx al G i
  | 0, _ => rfl
  | i + 1, h => by
    rw [a_bx_s, a_bx_s, a_bx_cong (G := G) (fun j hj => h j (by omega))]
    by_cases z : al i
    · rw [h i (by omega) z]
    · rw [a_ifn (fun q => z q.1), a_ifn (fun q => z q.1)]
theorem a_bx_spec {al : Nat → Prop} {F : Nat → Int} : ∀ {i : Nat}, i ≤ 100 → ((a_bx al F i).1 = 100 ∧ (a_bx al F i).2 = 0 ∧ ∀ j, j < i → ¬ al j) ∨ ((a_bx al F i).1 < i ∧ al (a_bx al F i).1 ∧ (a_bx al F i).2 = F (a_bx al F i).1)
  | 0, _ => Or.inl ⟨rfl, rfl, fun j hj => absurd hj (Nat.not_lt_zero _)⟩
  | i + 1, hi => by
    have ih : ((a_bx al F i).1 = 100 ∧ (a_bx al F i).2 = 0 ∧ ∀ j, j < i → ¬ al j) ∨ ((a_bx al F i).1 < i ∧ al (a_bx al F i).1 ∧ (a_bx al F i).2 = F (a_bx al F i).1) := a_bx_spec (by omega)
    rw [a_bx_s]
    by_cases z : al i ∧ ((a_bx al F i).1 = 100 ∨ (a_bx al F i).2 < F i)
    · rw [a_ifp z]
      exact Or.inr ⟨Nat.lt_succ_self i, z.1, rfl⟩
    · rw [a_ifn z]
      rcases ih with ⟨e, e2, h⟩ | ⟨h1, h2, h3⟩
      · refine Or.inl ⟨e, e2, fun j hj => ?_⟩
        by_cases q : j = i
        · subst q
          exact fun q2 => z ⟨q2, Or.inl e⟩
        · exact h j (by omega)
      · exact Or.inr ⟨by omega, h2, h3⟩
def a_cu (k u : Nat) : Nat := fb_ct (fun j => !u.testBit j) k
noncomputable def a_bw (k : Nat) (LK : Nat → Nat → Int) (FE : Nat → Nat) : Nat → Nat → Nat → Int
  | 0, _, _ => 0
  | d + 1, u, l => (a_bx (a_al k FE u l) (fun i => a_LL LK l i + a_bw k LK FE d (u ||| 2 ^ i) i) k).2
noncomputable def a_bW (k : Nat) (LK : Nat → Nat → Int) (FE : Nat → Nat) (u l : Nat) : Int := a_bw k LK FE (a_cu k u) u l
noncomputable def a_bF (k : Nat) (LK : Nat → Nat → Int) (FE : Nat → Nat) (u l i : Nat) : Int := a_LL LK l i + a_bW k LK FE (u ||| 2 ^ i) i
noncomputable def a_nq (k : Nat) (LK : Nat → Nat → Int) (FE : Nat → Nat) (u l : Nat) : Nat := (a_bx (a_al k FE u l) (a_bF k LK FE u l) k).1
theorem a_or2 {u i j : Nat} : (u ||| 2 ^ i).testBit j = (u.testBit j || decide (i = j)) := by rw [Nat.testBit_or, Nat.testBit_two_pow]
theorem a_cu_or {k u i : Nat} (hi : i < k) (h : u.testBit i = false) : a_cu k (u ||| 2 ^ i) + 1 = a_cu k u := by
  unfold a_cu
  have := fb_ct_upd (fun j => !u.testBit j) false hi
  rw [h, Bool.not_false, if_pos rfl, if_neg (by decide)] at this
  rw [← Nat.add_zero (fb_ct (fun j => !u.testBit j) k), ← this]
  congr 1
  refine fb_ct_cong (fun j _ => ?_)
  rw [a_or2]
  by_cases e : j = i
  · subst e
    simp
  · rw [if_neg e, decide_eq_false (fun q => e q.symm), Bool.or_false]
theorem a_cu_le {k u : Nat} : a_cu k u ≤ k := fb_ct_le _ k
theorem a_bW_eq {k : Nat} {LK : Nat → Nat → Int} {FE : Nat → Nat} (hk : k ≤ 100) (u l : Nat) : a_bW k LK FE u l = (a_bx (a_al k FE u l) (a_bF k LK FE u l) k).2 := by
  have cong : ∀ d, a_cu k u = d + 1 → a_bx (a_al k FE u l) (fun i => a_LL LK l i + a_bw k LK FE d (u ||| 2 ^ i) i) k = a_bx (a_al k FE u l) (a_bF k LK FE u l) k := fun d hd => a_bx_cong (fun j hj ha => by
    unfold a_bF a_bW
    have := a_cu_or hj ha.1
    rw [show a_cu k (u ||| 2 ^ j) = d by omega])
  unfold a_bW
  cases e : a_cu k u with
  | zero =>
    have none : ∀ j, j < k → ¬ a_al k FE u l j := fun j hj ha => by
      have := a_cu_or hj ha.1
      omega
    rcases a_bx_spec (al := a_al k FE u l) (F := a_bF k LK FE u l) hk with ⟨-, e2, -⟩ | ⟨h1, h2, -⟩
    · rw [e2]
      rfl
    · exact absurd h2 (none _ h1)
  | succ d =>
    show (a_bx _ _ k).2 = _
    rw [cong d e]
theorem a_bW_nq {k : Nat} {LK : Nat → Nat → Int} {FE : Nat → Nat} (hk : k < 100) (u l : Nat) : (a_nq k LK FE u l = 100 ∧ a_bW k LK FE u l = 0 ∧ ∀ j, j < k → ¬ a_al k FE u l j) ∨ (a_nq k LK FE u l < k ∧ a_al k FE u l (a_nq k LK FE u l) ∧ a_bW k LK FE u l = a_bF k LK FE u l (a_nq k LK FE u l)) := by
  rw [a_bW_eq (by omega)]
  exact a_bx_spec (by omega)
theorem a_bW_rg {k : Nat} {LK : Nat → Nat → Int} {FE : Nat → Nat} (hk : k < 100) (hL : ∀ i j, i < k → j < k → -99 ≤ LK i j ∧ LK i j ≤ 99) : ∀ (d u l : Nat), a_cu k u = d → (l < k ∨ l = 100) → -(99 * (d : Int)) ≤ a_bW k LK FE u l ∧ a_bW k LK FE u l ≤ 99 * (d : Int)
  | 0, u, l, hd, hl => by
    rcases a_bW_nq (LK := LK) (FE := FE) hk u l with ⟨-, e, -⟩ | ⟨h1, h2, -⟩
    · rw [e]; omega
    · have := a_cu_or h1 h2.1
      omega
  | d + 1, u, l, hd, hl => by
    rcases a_bW_nq (LK := LK) (FE := FE) hk u l with ⟨-, e, -⟩ | ⟨h1, h2, e⟩
    · rw [e]; omega
    · have c := a_cu_or h1 h2.1
      have ih := a_bW_rg (FE := FE) hk hL d (u ||| 2 ^ (a_nq k LK FE u l)) (a_nq k LK FE u l) (by omega) (Or.inl h1)
      rw [e]
      unfold a_bF a_LL
      by_cases z : l = 100
      · rw [if_pos z]
        omega
      · rw [if_neg z]
        have := hL l (a_nq k LK FE u l) (by omega) h1
        omega
/-- one can always go on -/
theorem a_nq_go {k : Nat} {LK : Nat → Nat → Int} {FE : Nat → Nat} (hk : k < 100) {u l : Nat} (hu : ∃ j, j < k ∧ u.testBit j = false) : a_nq k LK FE u l < k ∧ a_al k FE u l (a_nq k LK FE u l) := by
  rcases a_bW_nq (LK := LK) (FE := FE) hk u l with ⟨-, -, h⟩ | ⟨h1, h2, -⟩
  · exfalso
    obtain ⟨j, hj, ej⟩ := hu
    by_cases z : l < k ∧ FE l < k ∧ u.testBit (FE l) = false
    · exact h (FE l) z.2.1 ⟨z.2.2, fun _ _ => Or.inr rfl⟩
    · refine h j hj ⟨ej, fun a b => Or.inl ?_⟩
      cases q : u.testBit (FE l)
      · exact absurd ⟨a, b, q⟩ z
      · rfl
  · exact ⟨h1, h2⟩
/-- the row that is told from here on -/
noncomputable def a_bG (k : Nat) (LK : Nat → Nat → Int) (FE : Nat → Nat) : Nat → Nat → Nat → Nat
  | u, l, 0 => a_nq k LK FE u l
  | u, l, j + 1 => a_bG k LK FE (u ||| 2 ^ (a_nq k LK FE u l)) (a_nq k LK FE u l) j
theorem a_bG0 {k : Nat} {LK : Nat → Nat → Int} {FE : Nat → Nat} {u l : Nat} : a_bG k LK FE u l 0 = a_nq k LK FE u l := rfl
theorem a_bGs {k : Nat} {LK : Nat → Nat → Int} {FE : Nat → Nat} {u l j : Nat} : a_bG k LK FE u l (j + 1) = a_bG k LK FE (u ||| 2 ^ (a_nq k LK FE u l)) (a_nq k LK FE u l) j := rfl
/-- rows that keep fellows beside each other, so far -/
def a_ok (k n : Nat) (FE sq : Nat → Nat) : Prop := ∀ a, a < n → FE (sq a) < k → (∃ b, b < n ∧ sq b = FE (sq a) ∧ (a = b + 1 ∨ b = a + 1)) ∨ (a + 1 = n ∧ ∀ b, b < n → sq b ≠ FE (sq a))
def a_sq (k n u : Nat) (sq : Nat → Nat) : Prop := (∀ b, b < n → sq b < k) ∧ (∀ a b, a < n → b < n → sq a = sq b → a = b) ∧ ∀ i, i < k → (u.testBit i = true ↔ ∃ b, b < n ∧ sq b = i)
def a_la (n : Nat) (sq : Nat → Nat) : Nat := if n = 0 then 100 else sq (n - 1)
theorem a_ok.less {k n u : Nat} {FE sq : Nat → Nat} (hs : a_sq k (n + 1) u sq) (h : a_ok k (n + 1) FE sq) : a_ok k n FE sq := fun a ha hf => by
  rcases h a (by omega) hf with ⟨b, b1, b2, b3⟩ | ⟨e, -⟩
  · by_cases q : b < n
    · exact Or.inl ⟨b, q, b2, b3⟩
    · refine Or.inr ⟨by omega, fun b' hb' e => ?_⟩
      have := hs.2.1 b' b (by omega) b1 (e.trans b2.symm)
      omega
  · omega
theorem a_ok.step {k n u i : Nat} {FE sq : Nat → Nat} (hs : a_sq k n u sq) (h : a_ok k n FE sq) (hk : k < 100) (hsy : ∀ i j, i < k → j < k → FE i = j → FE j = i) (hno : ∀ i, i < k → FE i ≠ i) (hi : i < k) (hu : u.testBit i = false) (hsn : sq n = i) : a_ok k (n + 1) FE sq ↔ a_al k FE u (a_la n sq) i := by
  have nu : ∀ b, b < n → sq b ≠ i := fun b hb e => by
    rw [(hs.2.2 i hi).mpr ⟨b, hb, e⟩] at hu
    cases hu
  constructor
  · intro q
    refine ⟨hu, fun hl hf => ?_⟩
    unfold a_la at *
    by_cases n0 : n = 0
    · rw [if_pos n0] at hl
      omega
    · rw [if_neg n0] at hl hf ⊢
      rcases q (n - 1) (by omega) hf with ⟨b, b1, b2, b3⟩ | ⟨e, -⟩
      · by_cases e : b = n
        · right
          rw [← b2, e, hsn]
        · left
          exact (hs.2.2 _ hf).mpr ⟨b, by omega, b2⟩
      · omega
  · intro q a ha hf
    by_cases an : a = n
    · subst an
      rw [hsn] at hf ⊢
      have hsym := hsy i (FE i) hi hf rfl
      by_cases z : ∃ b, b < a ∧ sq b = FE i
      · obtain ⟨b, b1, b2⟩ := z
        have hfb : FE (sq b) = i := by rw [b2]; exact hsym
        rcases h b b1 (by rw [hfb]; exact hi) with ⟨b', c1, c2, -⟩ | ⟨c1, -⟩
        · exact absurd (c2.trans hfb) (nu b' c1)
        · exact Or.inl ⟨b, by omega, b2, Or.inl (by omega)⟩
      · refine Or.inr ⟨rfl, fun b hb e => ?_⟩
        by_cases eb : b = a
        · subst eb
          rw [hsn] at e
          exact hno i hi e.symm
        · exact z ⟨b, by omega, e⟩
    · rcases h a (by omega) hf with ⟨b, b1, b2, b3⟩ | ⟨e, hn⟩
      · exact Or.inl ⟨b, by omega, b2, b3⟩
      · have ela : a_la n sq = sq a := by
          unfold a_la
          rw [if_neg (by omega), show n - 1 = a by omega]
        rw [ela] at q
        rcases q.2 (hs.1 a (by omega)) hf with z | z
        · obtain ⟨b, b1, b2⟩ := (hs.2.2 _ hf).mp z
          exact absurd b2 (hn b b1)
        · exact Or.inl ⟨n, by omega, by rw [hsn, z], Or.inr (by omega)⟩
