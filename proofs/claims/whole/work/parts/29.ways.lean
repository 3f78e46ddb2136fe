noncomputable def a_if {α : Type} (P : Prop) (x y : α) : α := @ite α P (Classical.propDecidable P) x y
theorem a_ifp {α : Type} {P : Prop} {x y : α} (h : P) : a_if P x y = x := if_pos h
theorem a_ifn {α : Type} {P : Prop} {x y : α} (h : ¬ P) : a_if P x y = y := if_neg h
/-! rooms and doors: how far. A, B: a door's rooms; P: doors that count; K: doors; N: rooms; g: from where -/
def a_bl (P : Nat → Prop) (A B : Nat → Nat) (K g : Nat) : Nat → Nat → Prop
  | 0, x => x = g
  | k + 1, x => a_bl P A B K g k x ∨ ∃ i, i < K ∧ P i ∧ ((A i = x ∧ a_bl P A B K g k (B i)) ∨ (B i = x ∧ a_bl P A B K g k (A i)))
theorem a_bl_s {P : Nat → Prop} {A B : Nat → Nat} {K g k x : Nat} : a_bl P A B K g (k + 1) x ↔ a_bl P A B K g k x ∨ ∃ i, i < K ∧ P i ∧ ((A i = x ∧ a_bl P A B K g k (B i)) ∨ (B i = x ∧ a_bl P A B K g k (A i))) := Iff.rfl
theorem a_bl_up {P : Nat → Prop} {A B : Nat → Nat} {K g k x : Nat} (h : a_bl P A B K g k x) : ∀ d, a_bl P A B K g (k + d) x
  | 0 => h
  | d + 1 => Or.inl (a_bl_up h d)
def a_dst (P : Nat → Prop) (A B : Nat → Nat) (K g x k : Nat) : Prop := (k < 99 ∧ a_bl P A B K g k x ∧ ∀ j, j < k → ¬ a_bl P A B K g j x) ∨ (k = 99 ∧ ∀ j, ¬ a_bl P A B K g j x)
theorem a_dst_one {P : Nat → Prop} {A B : Nat → Nat} {K g x k l : Nat} (h : a_dst P A B K g x k) (h' : a_dst P A B K g x l) : k = l := by
  rcases h with ⟨h1, h2, h3⟩ | ⟨h1, h2⟩ <;> rcases h' with ⟨g1, g2, g3⟩ | ⟨g1, g2⟩
  · rcases Nat.lt_trichotomy k l with e | e | e
    · exact absurd h2 (g3 k e)
    · exact e
    · exact absurd g2 (h3 l e)
  · exact absurd h2 (g2 k)
  · exact absurd g2 (h2 l)
  · omega
theorem a_dst_le {P : Nat → Prop} {A B : Nat → Nat} {K g x k : Nat} (h : a_dst P A B K g x k) : k ≤ 99 := by
  rcases h with ⟨h1, -⟩ | ⟨h1, -⟩ <;> omega
theorem a_ct_lt {p q : Nat → Bool} {n : Nat} (h : ∀ k, k < n → p k = true → q k = true) (hx : ∃ x, x < n ∧ q x = true ∧ p x = false) : fb_ct p n < fb_ct q n := by
  have e : fb_ct q n = fb_ct (fun k => p k || (q k && !p k)) n := fb_ct_cong fun k hk => by
    have := h k hk
    revert this
    cases p k <;> cases q k <;> simp
  rw [e, fb_ct_or (fun k _ => by cases p k <;> cases q k <;> simp)]
  have : 0 < fb_ct (fun k => q k && !p k) n := fb_ct_pos.mpr (by
    obtain ⟨x, h1, h2, h3⟩ := hx
    exact ⟨x, h1, by rw [h2, h3]; rfl⟩)
  omega
theorem a_bl_few {P : Nat → Prop} {A B : Nat → Nat} {K g N : Nat} (hA : ∀ i, i < K → A i < N ∧ B i < N) (hg : g < N) {j x : Nat} (hx : x < N) (h : a_bl P A B K g j x) : ∃ k, k < N ∧ k ≤ j ∧ a_bl P A B K g k x := by
  have : ∀ k x, Decidable (a_bl P A B K g k x) := fun k x => Classical.propDecidable _
  have cnt : ∀ k, (∃ k', k' < k ∧ ∀ x, x < N → a_bl P A B K g (k' + 1) x → a_bl P A B K g k' x) ∨ k + 1 ≤ fb_ct (fun x => decide (a_bl P A B K g k x)) N := by
    intro k
    induction k with
    | zero => exact Or.inr (fb_ct_pos.mpr ⟨g, hg, by simp [a_bl]⟩)
    | succ k ih =>
      rcases ih with ⟨k', h1, h2⟩ | ih
      · exact Or.inl ⟨k', by omega, h2⟩
      · by_cases z : ∀ x, x < N → a_bl P A B K g (k + 1) x → a_bl P A B K g k x
        · exact Or.inl ⟨k, by omega, z⟩
        · refine Or.inr ?_
          have : fb_ct (fun x => decide (a_bl P A B K g k x)) N < fb_ct (fun x => decide (a_bl P A B K g (k + 1) x)) N := by
            refine a_ct_lt (fun y _ q => decide_eq_true (Or.inl (of_decide_eq_true q))) ?_
            apply Classical.byContradiction
            intro q
            refine z fun y hy1 hy2 => ?_
            apply Classical.byContradiction
            intro hy3
            exact q ⟨y, hy1, decide_eq_true hy2, decide_eq_false hy3⟩
          omega
  rcases Nat.lt_or_ge j N with hj | hj
  · exact ⟨j, hj, Nat.le_refl j, h⟩
  · rcases cnt N with ⟨k', h1, h2⟩ | h1
    · have st : ∀ d x, x < N → a_bl P A B K g (k' + d) x → a_bl P A B K g k' x := by
        intro d
        induction d with
        | zero => exact fun x _ q => q
        | succ d ih =>
          intro x hx q
          rcases q with q | ⟨i, hi, hp, q⟩
          · exact ih x hx q
          · refine h2 x hx (Or.inr ⟨i, hi, hp, ?_⟩)
            rcases q with ⟨q1, q2⟩ | ⟨q1, q2⟩
            · exact Or.inl ⟨q1, ih _ (hA i hi).2 q2⟩
            · exact Or.inr ⟨q1, ih _ (hA i hi).1 q2⟩
      exact ⟨k', h1, by omega, st (j - k') x hx (by rw [show k' + (j - k') = j by omega]; exact h)⟩
    · have := fb_ct_le (fun x => decide (a_bl P A B K g N x)) N
      omega
/-- one door, one round, rounds -/
def a_rx1 (f : Nat → Nat) (u v : Nat) : Nat → Nat := fun x => if x = u then (if f v + 1 < f u then f v + 1 else f u) else f x
def a_rx (f : Nat → Nat) (u v : Nat) : Nat → Nat := a_rx1 (a_rx1 f u v) v u
theorem a_rx1_le {f : Nat → Nat} {u v x : Nat} : a_rx1 f u v x ≤ f x := by
  unfold a_rx1
  split
  · rename_i h
    subst h
    split <;> omega
  · omega
theorem a_rx_le {f : Nat → Nat} {u v x : Nat} : a_rx f u v x ≤ f x := Nat.le_trans a_rx1_le a_rx1_le
noncomputable def a_rd (P : Nat → Prop) (A B : Nat → Nat) (f : Nat → Nat) : Nat → Nat → Nat
  | 0 => f
  | i + 1 => a_if (P i) (a_rx (a_rd P A B f i) (A i) (B i)) (a_rd P A B f i)
theorem a_rd_s {P : Nat → Prop} {A B f : Nat → Nat} {i : Nat} : a_rd P A B f (i + 1) = a_if (P i) (a_rx (a_rd P A B f i) (A i) (B i)) (a_rd P A B f i) := rfl
theorem a_rd_step {P : Nat → Prop} {A B f : Nat → Nat} {i x : Nat} : a_rd P A B f (i + 1) x ≤ a_rd P A B f i x := by
  rw [a_rd_s]
  by_cases z : P i
  · rw [a_ifp z]
    exact a_rx_le
  · rw [a_ifn z]
    omega
theorem a_rd_le {P : Nat → Prop} {A B f : Nat → Nat} {x : Nat} (i : Nat) : ∀ d, a_rd P A B f (i + d) x ≤ a_rd P A B f i x
  | 0 => Nat.le_refl _
  | d + 1 => Nat.le_trans a_rd_step (a_rd_le i d)
noncomputable def a_rds (P : Nat → Prop) (A B : Nat → Nat) (K : Nat) (f : Nat → Nat) : Nat → Nat → Nat
  | 0 => f
  | r + 1 => a_rd P A B (a_rds P A B K f r) K
theorem a_rds_s {P : Nat → Prop} {A B f : Nat → Nat} {K r : Nat} : a_rds P A B K f (r + 1) = a_rd P A B (a_rds P A B K f r) K := rfl
def a_sd (P : Nat → Prop) (A B : Nat → Nat) (K g : Nat) (f : Nat → Nat) : Prop := ∀ x, f x ≤ 99 ∧ (f x < 99 → a_bl P A B K g (f x) x)
theorem a_rx1_sd {P : Nat → Prop} {A B f : Nat → Nat} {K g u v : Nat} (h : a_sd P A B K g f) (hs : ∀ k, a_bl P A B K g k v → a_bl P A B K g (k + 1) u) : a_sd P A B K g (a_rx1 f u v) := by
  intro x
  unfold a_rx1
  by_cases z : x = u
  · rw [if_pos z]
    by_cases z2 : f v + 1 < f u
    · have := (h u).1
      rw [if_pos z2]
      exact ⟨by omega, fun _ => z ▸ hs _ ((h v).2 (by omega))⟩
    · rw [if_neg z2]
      exact ⟨(h u).1, fun q => z ▸ (h u).2 q⟩
  · rw [if_neg z]
    exact h x
theorem a_rd_sd {P : Nat → Prop} {A B f : Nat → Nat} {K g : Nat} (h : a_sd P A B K g f) : ∀ i, i ≤ K → a_sd P A B K g (a_rd P A B f i)
  | 0, _ => h
  | i + 1, hi => by
    have ih := a_rd_sd h i (by omega)
    rw [a_rd_s]
    by_cases z : P i
    · rw [a_ifp z]
      exact a_rx1_sd (a_rx1_sd ih (fun k q => Or.inr ⟨i, by omega, z, Or.inl ⟨rfl, q⟩⟩)) (fun k q => Or.inr ⟨i, by omega, z, Or.inr ⟨rfl, q⟩⟩)
    · rw [a_ifn z]
      exact ih
theorem a_rds_sd {P : Nat → Prop} {A B f : Nat → Nat} {K g : Nat} (h : a_sd P A B K g f) : ∀ r, a_sd P A B K g (a_rds P A B K f r)
  | 0 => h
  | r + 1 => a_rd_sd (a_rds_sd h r) K (Nat.le_refl K)
def a_cp2 (P : Nat → Prop) (A B : Nat → Nat) (K g N : Nat) (R : Nat) (f : Nat → Nat) : Prop := ∀ x, x < N → ∀ k, k ≤ R → a_bl P A B K g k x → f x ≤ k
theorem a_rd_cp {P : Nat → Prop} {A B f : Nat → Nat} {K g N R : Nat} (hA : ∀ i, i < K → A i < N ∧ B i < N) (h : a_cp2 P A B K g N R f) : a_cp2 P A B K g N (R + 1) (a_rd P A B f K) := by
  intro x hx k hk hb
  have mono : ∀ i y, i ≤ K → a_rd P A B f i y ≤ f y := fun i y hi => by
    have := a_rd_le (P := P) (A := A) (B := B) (f := f) (x := y) 0 i
    rw [Nat.zero_add] at this
    exact this
  by_cases z : k ≤ R
  · exact Nat.le_trans (mono K x (Nat.le_refl K)) (h x hx k z hb)
  · have : k = R + 1 := by omega
    subst this
    rcases hb with hb | ⟨i, hi, hp, hb⟩
    · exact Nat.le_trans (mono K x (Nat.le_refl K)) (Nat.le_trans (h x hx R (Nat.le_refl R) hb) (by omega))
    · have e := a_rd_le (P := P) (A := A) (B := B) (f := f) (x := x) (i + 1) (K - (i + 1))
      rw [show i + 1 + (K - (i + 1)) = K by omega] at e
      refine Nat.le_trans e ?_
      rw [a_rd_s, a_ifp hp]
      rcases hb with ⟨e1, e2⟩ | ⟨e1, e2⟩
      · have h1 := Nat.le_trans (mono i (B i) (by omega)) (h (B i) (hA i hi).2 R (Nat.le_refl R) e2)
        subst e1
        refine Nat.le_trans a_rx1_le ?_
        unfold a_rx1
        rw [if_pos rfl]
        split <;> omega
      · have h1 := Nat.le_trans (mono i (A i) (by omega)) (h (A i) (hA i hi).1 R (Nat.le_refl R) e2)
        subst e1
        unfold a_rx
        have h2 := Nat.le_trans (a_rx1_le (f := a_rd P A B f i) (u := A i) (v := B i) (x := A i)) h1
        generalize a_rx1 (a_rd P A B f i) (A i) (B i) = f1 at h2 ⊢
        unfold a_rx1
        rw [if_pos rfl]
        split <;> omega
theorem a_rds_cp {P : Nat → Prop} {A B f : Nat → Nat} {K g N : Nat} (hA : ∀ i, i < K → A i < N ∧ B i < N) (h : a_cp2 P A B K g N 0 f) : ∀ r, a_cp2 P A B K g N r (a_rds P A B K f r)
  | 0 => h
  | r + 1 => a_rd_cp hA (a_rds_cp hA h r)
def a_f0 (g : Nat) : Nat → Nat := fun x => if x = g then 0 else 99
theorem a_rds_dst {P : Nat → Prop} {A B : Nat → Nat} {K g N r : Nat} (hA : ∀ i, i < K → A i < N ∧ B i < N) (hg : g < N) (hN : N ≤ 50) (hr : N ≤ r + 1) {x : Nat} (hx : x < N) : a_dst P A B K g x (a_rds P A B K (a_f0 g) r x) := by
  have h1 : a_sd P A B K g (a_rds P A B K (a_f0 g) r) := a_rds_sd (fun y => by
    unfold a_f0
    by_cases z : y = g
    · rw [if_pos z]
      exact ⟨by omega, fun _ => z⟩
    · rw [if_neg z]
      exact ⟨by omega, fun q => by omega⟩) r
  have h2 : a_cp2 P A B K g N r (a_rds P A B K (a_f0 g) r) := a_rds_cp hA (fun y _ k hk hb => by
    have : k = 0 := by omega
    subst this
    unfold a_f0
    rw [if_pos (show y = g from hb)]
    omega) r
  have h3 : ∀ j, a_bl P A B K g j x → a_rds P A B K (a_f0 g) r x ≤ j ∧ a_rds P A B K (a_f0 g) r x < 99 := fun j hj => by
    obtain ⟨k, k1, k2, k3⟩ := a_bl_few hA hg hx hj
    have := h2 x hx k (by omega) k3
    omega
  by_cases z : a_rds P A B K (a_f0 g) r x < 99
  · exact Or.inl ⟨z, (h1 x).2 z, fun j hj hb => by have := (h3 j hb).1; omega⟩
  · exact Or.inr ⟨by have := (h1 x).1; omega, fun j hb => z (h3 j hb).2⟩
/-- a door's rooms, in the model -/
def a_A (σ : q_MM) (d : Nat) : Nat := (σ 5015 d).toNatClampNeg
def a_Bd (σ : q_MM) (d : Nat) : Nat := (σ 5016 d).toNatClampNeg
