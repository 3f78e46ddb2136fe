/-! bitCount: digits -/
def a_D (s : Nat) (f : Nat → Nat) : Nat → Nat
  | 0 => 0
  | J + 1 => 2 ^ (s * J) * f J + a_D s f J
theorem a_D_s {s : Nat} {f : Nat → Nat} {J : Nat} : a_D s f (J + 1) = 2 ^ (s * J) * f J + a_D s f J := rfl
theorem a_D_lt {s : Nat} {f : Nat → Nat} (hf : ∀ j, f j < 2 ^ s) : ∀ J, a_D s f J < 2 ^ (s * J)
  | 0 => by
    rw [show a_D s f 0 = 0 from rfl]
    exact Nat.two_pow_pos _
  | J + 1 => by
    have ih := a_D_lt hf J
    have h1 : 2 ^ (s * J) * f J + 2 ^ (s * J) ≤ 2 ^ (s * J) * 2 ^ s := by
      rw [← Nat.mul_succ]
      exact Nat.mul_le_mul_left _ (hf J)
    rw [a_D_s, Nat.mul_succ, Nat.pow_add]
    omega
theorem a_D_bit {s : Nat} {f : Nat → Nat} (hf : ∀ j, f j < 2 ^ s) {i : Nat} (hi : i < s) : ∀ J j, (a_D s f J).testBit (s * j + i) = (decide (j < J) && (f j).testBit i)
  | 0, j => by
    rw [show a_D s f 0 = 0 from rfl]
    simp
  | J + 1, j => by
    rw [a_D_s, Nat.testBit_two_pow_mul_add _ (a_D_lt hf J), a_D_bit hf hi J j]
    rcases Nat.lt_trichotomy j J with h | h | h
    · have : s * j + i < s * J := by
        have : s * (j + 1) ≤ s * J := Nat.mul_le_mul_left _ h
        rw [Nat.mul_succ] at this
        omega
      rw [if_pos this]
      simp [h, Nat.lt_succ_of_lt h]
    · subst h
      rw [if_neg (by omega), Nat.add_sub_cancel_left]
      simp
    · have h1 : s * (J + 1) ≤ s * j := Nat.mul_le_mul_left _ h
      rw [Nat.mul_succ] at h1
      rw [if_neg (by omega)]
      have : (f J).testBit (s * j + i - s * J) = false := Nat.testBit_lt_two_pow (Nat.lt_of_lt_of_le (hf J) (Nat.pow_le_pow_right (by decide) (by omega)))
      rw [this]
      simp
      omega
theorem a_D_add {s : Nat} {f g : Nat → Nat} : ∀ J, a_D s (fun j => f j + g j) J = a_D s f J + a_D s g J
  | 0 => rfl
  | J + 1 => by
    rw [a_D_s, a_D_s, a_D_s, a_D_add J, Nat.mul_add]
    omega
theorem b_nI {n k : Nat} (hk : k < 32) : bt (nI n) k = n.testBit k := by
  unfold bt
  show (BitVec.ofNat 32 n).getLsbD k = _
  rw [BitVec.getLsbD_ofNat]
  simp [hk]
theorem a_D_mask {s J : Nat} {f : Nat → Nat} {v : Int32} (hf : ∀ j, f j < 2 ^ s) (hJ : s * (2 * J) = 32) (hv : ∀ k, k < 32 → bt v k = decide (k % (2 * s) < s)) : nI (a_D s f (2 * J)) &&& v = nI (a_D (2 * s) (fun j => f (2 * j)) J) := by
  have hs : 0 < s := by
    rcases Nat.eq_zero_or_pos s with h | h
    · rw [h, Nat.zero_mul] at hJ
      omega
    · exact h
  refine b_ext fun k hk => ?_
  rw [b_and, b_nI hk, b_nI hk, hv k hk]
  have hf2 : ∀ j, f (2 * j) < 2 ^ (2 * s) := fun j => Nat.lt_of_lt_of_le (hf _) (Nat.pow_le_pow_right (by decide) (by omega))
  have hk2 := Nat.div_add_mod k (2 * s)
  have hm := Nat.mod_lt k (show 0 < 2 * s by omega)
  generalize k / (2 * s) = j at hk2
  generalize k % (2 * s) = i at hk2 hm
  have e1 : (a_D (2 * s) (fun j => f (2 * j)) J).testBit k = (decide (j < J) && (f (2 * j)).testBit i) := by
    rw [← hk2]
    exact a_D_bit (f := fun j => f (2 * j)) hf2 hm J j
  rw [e1]
  by_cases z : i < s
  · have e2 : k = s * (2 * j) + i := by rw [← hk2, Nat.mul_comm 2 s, Nat.mul_assoc]
    rw [e2, a_D_bit hf z]
    simp only [z, decide_true, Bool.and_true]
    congr 2
    apply propext
    omega
  · have e3 : (f (2 * j)).testBit i = false := Nat.testBit_lt_two_pow (Nat.lt_of_lt_of_le (hf _) (Nat.pow_le_pow_right (by decide) (by omega)))
    rw [e3]
    simp [z]
theorem a_D_shr {s J t : Nat} {f : Nat → Nat} (hf : ∀ j, f j < 2 ^ s) (hJ : s * J = 32) (ht : s * t < 32) : ((nI (a_D s f J)).toUInt32 >>> ((nI (s * t)).toUInt32 &&& Int32.toUInt32 31)).toInt32 = nI (a_D s (fun j => if j + t < J then f (j + t) else 0) J) := by
  have hs : 0 < s := by
    rcases Nat.eq_zero_or_pos s with h | h
    · rw [h, Nat.zero_mul] at hJ
      omega
    · exact h
  refine b_ext fun k hk => ?_
  rw [b_ushr _ ht, b_nI hk]
  have hf2 : ∀ j, (if j + t < J then f (j + t) else 0) < 2 ^ s := fun j => by
    split
    · exact hf _
    · exact Nat.two_pow_pos _
  have hk2 := Nat.div_add_mod k s
  have hm := Nat.mod_lt k hs
  generalize k / s = j at hk2
  generalize k % s = i at hk2 hm
  have e1 : (a_D s (fun j => if j + t < J then f (j + t) else 0) J).testBit k = (decide (j < J) && (if j + t < J then f (j + t) else 0).testBit i) := by
    rw [← hk2]
    exact a_D_bit (f := fun j => if j + t < J then f (j + t) else 0) hf2 hm J j
  have hjJ : j < J := by
    rcases Nat.lt_or_ge j J with h | h
    · exact h
    · have := Nat.mul_le_mul_left s h
      omega
  rw [e1]
  have e2 : s * t + k = s * (j + t) + i := by
    rw [Nat.mul_add]
    omega
  by_cases z : j + t < J
  · have hlt : s * t + k < 32 := by
      have := Nat.mul_le_mul_left s z
      rw [Nat.mul_succ] at this
      omega
    rw [b_nI hlt, e2, a_D_bit hf hm, if_pos z]
    simp [z, hjJ]
  · have := Nat.mul_le_mul_left s (show J ≤ j + t by omega)
    rw [b_big (by omega), if_neg z]
    simp
theorem a_D_bits (x : Int32) : x = nI (a_D 2 (fun j => (bt x (2 * j)).toNat + 2 * (bt x (2 * j + 1)).toNat) 16) := by
  refine b_ext fun k hk => ?_
  rw [b_nI hk]
  have hf : ∀ j, (bt x (2 * j)).toNat + 2 * (bt x (2 * j + 1)).toNat < 2 ^ 2 := fun j => by
    cases bt x (2 * j) <;> cases bt x (2 * j + 1) <;> decide
  rcases Nat.mod_two_eq_zero_or_one k with h | h
  · have e : k = 2 * (k / 2) + 0 := by omega
    have := a_D_bit hf (i := 0) (by decide) 16 (k / 2)
    rw [← e] at this
    rw [this, ← Nat.add_zero (2 * (k / 2)), ← e, decide_eq_true (show k / 2 < 16 by omega), Bool.true_and]
    cases bt x k <;> cases bt x (k + 1) <;> decide
  · have e : k = 2 * (k / 2) + 1 := by omega
    have := a_D_bit hf (i := 1) (by decide) 16 (k / 2)
    rw [← e] at this
    rw [this, decide_eq_true (show k / 2 < 16 by omega), Bool.true_and]
    cases bt x k <;> cases bt x (2 * (k / 2)) <;> decide
theorem s_bits {T : Nat → Nat} {L : Nat → Nat} {P : Nat → Nat → Nat} {M : q_MM} {x : Int32} : f_J6_bitCount_0f7a4 T L P M x = some (nI (fb_ct (bt x) 32)) := by
  unfold f_J6_bitCount_0f7a4
  simp only [w_let]
  let b : Nat → Nat := fun k => (bt x k).toNat
  have hb : ∀ k, b k ≤ 1 := fun k => by
    show (bt x k).toNat ≤ 1
    cases bt x k <;> decide
  let f : Nat → Nat := fun j => b (2 * j) + b (2 * j + 1)
  have hf : ∀ j, f j ≤ 2 := fun j => by
    have := hb (2 * j)
    have := hb (2 * j + 1)
    show b (2 * j) + b (2 * j + 1) ≤ 2
    omega
  have e0 : (Int32.toUInt32 x >>> (Int32.toUInt32 1 &&& Int32.toUInt32 31)).toInt32 &&& 1431655765 = nI (a_D 2 (fun j => b (2 * j + 1)) 16) := by
    refine b_ext fun k hk => ?_
    have h1 : ∀ j, b (2 * j + 1) < 2 ^ 2 := fun j => by have := hb (2 * j + 1); omega
    rw [show Int32.toUInt32 1 = (nI 1).toUInt32 from rfl, b_and, b_ushr 1 (by decide), b_nI hk, (by decide +kernel : ∀ k, k < 32 → bt 1431655765 k = decide (k % 2 = 0)) k hk]
    rcases Nat.mod_two_eq_zero_or_one k with h | h
    · have e : k = 2 * (k / 2) + 0 := by omega
      have := a_D_bit h1 (i := 0) (by decide) 16 (k / 2)
      rw [← e] at this
      rw [this, decide_eq_true (show k / 2 < 16 by omega), Bool.true_and, show 2 * (k / 2) + 1 = 1 + k by omega]
      show (bt x (1 + k) && decide (k % 2 = 0)) = (bt x (1 + k)).toNat.testBit 0
      rw [decide_eq_true h]
      cases bt x (1 + k) <;> decide
    · have e : k = 2 * (k / 2) + 1 := by omega
      have := a_D_bit h1 (i := 1) (by decide) 16 (k / 2)
      rw [← e] at this
      rw [this, decide_eq_true (show k / 2 < 16 by omega), Bool.true_and]
      show (bt x (1 + k) && decide (k % 2 = 0)) = (bt x k).toNat.testBit 1
      rw [decide_eq_false (by omega)]
      cases bt x k <;> simp <;> decide
  have e1 : x - nI (a_D 2 (fun j => b (2 * j + 1)) 16) = nI (a_D 2 f 16) := by
    have h1 : x = nI (a_D 2 (fun j => f j + b (2 * j + 1)) 16) := by
      refine (a_D_bits x).trans ?_
      congr 2
      funext j
      show (bt x (2 * j)).toNat + 2 * (bt x (2 * j + 1)).toNat = (bt x (2 * j)).toNat + (bt x (2 * j + 1)).toNat + (bt x (2 * j + 1)).toNat
      omega
    rw [a_D_add] at h1
    conv => lhs; lhs; rw [h1]
    rw [pk_sub (by omega), Nat.add_sub_cancel]
  rw [e0, e1]
  have m1 : ∀ k, k < 32 → bt 858993459 k = decide (k % (2 * 2) < 2) := by decide +kernel
  have m2 : ∀ k, k < 32 → bt 252645135 k = decide (k % (2 * 4) < 4) := by decide +kernel
  have hf4 : ∀ j, f j < 2 ^ 2 := fun j => by have := hf j; omega
  let f' : Nat → Nat := fun j => if j + 1 < 16 then f (j + 1) else 0
  have hf' : ∀ j, f' j ≤ 2 := fun j => by
    show (if j + 1 < 16 then f (j + 1) else 0) ≤ 2
    split
    · exact hf _
    · omega
  have e2 : (nI (a_D 2 f 16) &&& 858993459) + ((Int32.toUInt32 (nI (a_D 2 f 16)) >>> (Int32.toUInt32 2 &&& Int32.toUInt32 31)).toInt32 &&& 858993459) = nI (a_D 4 (fun j => f (2 * j) + f' (2 * j)) 8) := by
    have g1 := a_D_mask (J := 8) hf4 (by decide) m1
    have g2 := a_D_shr (J := 16) (t := 1) hf4 (by decide) (by decide)
    have g3 := a_D_mask (s := 2) (J := 8) (f := f') (fun j => by have := hf' j; omega) (by decide) m1
    rw [show Int32.toUInt32 2 = (nI (2 * 1)).toUInt32 from rfl, g2]
    rw [show (2 * 8 : Nat) = 16 from rfl] at g1 g3
    rw [g1, g3, nI_add]
    exact congrArg nI (a_D_add (s := 4) (f := fun j => f (2 * j)) (g := fun j => f' (2 * j)) 8).symm
  rw [e2]
  let e : Nat → Nat := fun j => f (2 * j) + f' (2 * j)
  have he : ∀ j, e j ≤ 4 := fun j => by
    have := hf (2 * j)
    have := hf' (2 * j)
    show f (2 * j) + f' (2 * j) ≤ 4
    omega
  let e' : Nat → Nat := fun j => if j + 1 < 8 then e (j + 1) else 0
  have he' : ∀ j, e' j ≤ 4 := fun j => by
    show (if j + 1 < 8 then e (j + 1) else 0) ≤ 4
    split
    · exact he _
    · omega
  let g : Nat → Nat := fun j => e (2 * j) + e' (2 * j)
  have hg : ∀ j, g j ≤ 8 := fun j => by
    have := he (2 * j)
    have := he' (2 * j)
    show e (2 * j) + e' (2 * j) ≤ 8
    omega
  have e3 : (nI (a_D 4 e 8) + (Int32.toUInt32 (nI (a_D 4 e 8)) >>> (Int32.toUInt32 4 &&& Int32.toUInt32 31)).toInt32) &&& 252645135 = nI (a_D 8 g 4) := by
    have g2 := a_D_shr (s := 4) (J := 8) (t := 1) (f := e) (fun j => by have := he j; omega) (by decide) (by decide)
    have g3 := a_D_mask (s := 4) (J := 4) (f := fun j => e j + e' j) (fun j => by have := he j; have := he' j; omega) (by decide) m2
    rw [show (2 * 4 : Nat) = 8 from rfl] at g3
    rw [show Int32.toUInt32 4 = (nI (4 * 1)).toUInt32 from rfl, g2, nI_add, ← a_D_add]
    exact g3
  rw [e3]
  let g' : Nat → Nat := fun j => if j + 1 < 4 then g (j + 1) else 0
  have hg' : ∀ j, g' j ≤ 8 := fun j => by
    show (if j + 1 < 4 then g (j + 1) else 0) ≤ 8
    split
    · exact hg _
    · omega
  let h : Nat → Nat := fun j => g j + g' j
  have hh : ∀ j, h j ≤ 16 := fun j => by
    have := hg j
    have := hg' j
    show g j + g' j ≤ 16
    omega
  have e4 : nI (a_D 8 g 4) + (Int32.toUInt32 (nI (a_D 8 g 4)) >>> (Int32.toUInt32 8 &&& Int32.toUInt32 31)).toInt32 = nI (a_D 8 h 4) := by
    have g2 := a_D_shr (s := 8) (J := 4) (t := 1) (f := g) (fun j => by have := hg j; omega) (by decide) (by decide)
    rw [show Int32.toUInt32 8 = (nI (8 * 1)).toUInt32 from rfl, g2, nI_add, ← a_D_add]
  rw [e4]
  let h' : Nat → Nat := fun j => if j + 2 < 4 then h (j + 2) else 0
  have hh' : ∀ j, h' j ≤ 16 := fun j => by
    show (if j + 2 < 4 then h (j + 2) else 0) ≤ 16
    split
    · exact hh _
    · omega
  have e5 : nI (a_D 8 h 4) + (Int32.toUInt32 (nI (a_D 8 h 4)) >>> (Int32.toUInt32 16 &&& Int32.toUInt32 31)).toInt32 = nI (a_D 8 (fun j => h j + h' j) 4) := by
    have g2 := a_D_shr (s := 8) (J := 4) (t := 2) (f := h) (fun j => by have := hh j; omega) (by decide) (by decide)
    rw [show Int32.toUInt32 16 = (nI (8 * 2)).toUInt32 from rfl, g2, nI_add, ← a_D_add]
  rw [e5]
  have e6 : nI (a_D 8 (fun j => h j + h' j) 4) &&& 63 = nI (h 0 + h' 0) := by
    refine b_ext fun k hk => ?_
    rw [b_and, b_nI hk, b_nI hk, (by decide +kernel : ∀ k, k < 32 → bt 63 k = decide (k < 6)) k hk]
    have hl : h 0 + h' 0 < 2 ^ 6 := by
      have := hh 0
      have := hh' 0
      omega
    by_cases z : k < 6
    · have := a_D_bit (s := 8) (f := fun j => h j + h' j) (fun j => by have := hh j; have := hh' j; omega) (i := k) (by omega) 4 0
      rw [Nat.mul_zero, Nat.zero_add] at this
      rw [this]
      simp [z]
    · rw [Nat.testBit_lt_two_pow (x := h 0 + h' 0) (i := k) (Nat.lt_of_lt_of_le hl (Nat.pow_le_pow_right (by decide) (by omega)))]
      simp [z]
  rw [e6]
  congr 2
  have hct : ∀ p : Nat → Bool, ∀ N, fb_ct p N = fb_sm (fun k => (p k).toNat) N := fun p N => by
    induction N with
    | zero => rfl
    | succ N ih =>
      rw [fb_ct_succ, fb_sm_succ, ih]
      cases p N <;> rfl
  rw [hct]
  show h 0 + h' 0 = fb_sm b 32
  simp only [h, h', g, g', e, e', f, f', fb_sm]
  simp
  omega
