/-! liking of neighbours -/
def a_lk (m : q_MM) (p q : Nat) : Int32 := m 5059 (8 * (m 5032 p).toNatClampNeg + (m 5032 q).toNatClampNeg)
theorem s_likingOf {c n : Nat → Nat} {m M : q_MM} (y : a_Y c n m M) (h17 : a_B11 c n m M) {p q : Nat} (hp : p < c 2) (hq : q < c 2) : f_X2_likingOf c M (1300 + p) (1300 + q) = some (a_lk m p q) := by
  have h7 : a_B7 c n m M := y.1 7 (by decide)
  have gp := h7.2.2.2.1 p hp
  have gq := h7.2.2.2.1 q hq
  obtain ⟨s, hs, es⟩ := gp.2.2.2.2.1
  obtain ⟨t, ht, et⟩ := gq.2.2.2.2.1
  have e1 : M (1300 + p) 4 = nI s := gp.1.2.2.2.2.1.trans es
  have e2 : M (1300 + q) 4 = nI t := gq.1.2.2.2.2.1.trans et
  unfold f_X2_likingOf a_lk
  rw [w_ck (t_pic y.C hp), w_ck (t_pic y.C hq), e1, e2, es, et, nI_clamp (by omega), nI_clamp (by omega), show (8 : Int32) = nI 8 from rfl, pk_mul, nI_add, w_ld (by omega) (by decide), Nat.mul_comm s 8, (h17 s t hs ht).1]
def a_sum (m : q_MM) (p : Nat) (l r : Int32) : Int32 := (if l = -1 then 0 else a_lk m p l.toNatClampNeg) + (if r = -1 then 0 else a_lk m p r.toNatClampNeg)
theorem s_likedAt {c n : Nat → Nat} {m M : q_MM} (y : a_Y c n m M) (h17 : a_B11 c n m M) {o a b : Nat} (ho : (o, a, b) ∈ [(21, 61, 63), (22, 62, 64)]) (hH : a_H c m M a b) {p w : Nat} (hp : p < c 2) (hw : w < c 1) (x : Int32) : f_X2_likedAt c M o (1300 + p) (1100 + w) x = some (a_sum m p (a_left c m (nI w) x (nI p)) (a_right c m (nI w) x (nI p))) := by
  have hC := y.C
  have hC1 := hC.2.1
  have hC2 := hC.2.2.1
  have h5 : a_B5 c n m M := y.1 5 (by decide)
  have h7 : a_B7 c n m M := y.1 7 (by decide)
  have ew0 : M (1100 + w) 0 = nI w := (h5.2.2.2.1 w hw).1.1
  have ep0 : M (1300 + p) 0 = nI p := (h7.2.2.2.1 p hp).1.1
  have ho11 : qTX c o = 11 := by
    simp only [List.mem_cons, List.not_mem_nil, or_false, Prod.mk.injEq] at ho
    rcases ho with ⟨rfl, -, -⟩ | ⟨rfl, -, -⟩ <;> rfl
  obtain ⟨x5, e5, n5⟩ := s_nbr y.2 (a_left_rg (c := c) (m := m) (w := nI w) (x := x) (aside := nI p))
  obtain ⟨x6, e6, n6⟩ := s_nbr y.2 (a_right_rg (c := c) (m := m) (w := nI w) (x := x) (aside := nI p))
  unfold f_X2_likedAt b_X2_likedAt_56 b_X2_likedAt_72 a_sum
  rw [w_ck (t_pic hC hp), w_ck (t_wall hC hw), w_ck ho11, ep0, ew0, s_leftOf ho hH hC2 (by omega), Option.bind_some, e5, Option.bind_some, s_rightOf ho hH hC2 (by omega), Option.bind_some, e6, Option.bind_some]
  rcases n5 with ⟨l1, l2⟩ | ⟨i, hi, l1, l2⟩
  · rw [if_pos l2, l1, if_pos rfl]
    rcases n6 with ⟨r1, r2⟩ | ⟨j, hj, r1, r2⟩
    · rw [if_pos r2, r1, if_pos rfl]
    · rw [if_neg (by omega), r1, if_neg (nI_neg1 (by omega)), nI_clamp (by omega), r2, s_likingOf y h17 hp hj, Option.bind_some]
  · rw [if_neg (by omega), l1, if_neg (nI_neg1 (by omega)), nI_clamp (by omega), l2, s_likingOf y h17 hp hi, Option.bind_some]
    rcases n6 with ⟨r1, r2⟩ | ⟨j, hj, r1, r2⟩
    · rw [if_pos r2, r1, if_pos rfl]
    · rw [if_neg (by omega), r1, if_neg (nI_neg1 (by omega)), nI_clamp (by omega), r2, s_likingOf y h17 hp hj, Option.bind_some]
theorem s_likes {c n : Nat → Nat} {m M : q_MM} (y : a_Y c n m M) {p q : Nat} (hp : p < c 2) (hq : q < c 2) : f_X12_likes m (nI p) (nI q) = some (a_lk m p q) := by
  have hC2 := y.C.2.2.1
  have h7 : a_B7 c n m M := y.1 7 (by decide)
  obtain ⟨s, hs, es⟩ := (h7.2.2.2.1 p hp).2.2.2.2.1
  obtain ⟨t, ht, et⟩ := (h7.2.2.2.1 q hq).2.2.2.2.1
  unfold f_X12_likes a_lk
  rw [w_ld (by omega) (by decide), w_ld (by omega) (by decide), es, et, nI_clamp (by omega), nI_clamp (by omega), show (8 : Int32) = nI 8 from rfl, pk_mul, nI_add, w_ld (by omega) (by decide)]
theorem s_sumOf {c n : Nat → Nat} {m M : q_MM} (y : a_Y c n m M) {p : Nat} (hp : p < c 2) {l r : Int32} (hl : a_ltm l (c 2)) (hr : a_ltm r (c 2)) : f_X12_sumOf m (nI p) l r = some (a_sum m p l r) := by
  have hC2 := y.C.2.2.1
  unfold f_X12_sumOf b_X12_sumOf_14 b_X12_sumOf_28 a_sum
  rcases hl with rfl | ⟨i, hi, rfl⟩
  · rw [if_neg (by decide), if_pos rfl]
    rcases hr with rfl | ⟨j, hj, rfl⟩
    · rw [if_neg (by decide), if_pos rfl]
    · rw [if_pos (show (0 : Int32) ≤ nI j from nI_le (a := 0) (by omega) (by omega)), s_likes y hp hj, Option.bind_some, if_neg (nI_neg1 (by omega)), nI_clamp (by omega)]
  · rw [if_pos (show (0 : Int32) ≤ nI i from nI_le (a := 0) (by omega) (by omega)), s_likes y hp hi, Option.bind_some, if_neg (nI_neg1 (by omega)), nI_clamp (by omega)]
    rcases hr with rfl | ⟨j, hj, rfl⟩
    · rw [if_neg (by decide), if_pos rfl]
    · rw [if_pos (show (0 : Int32) ≤ nI j from nI_le (a := 0) (by omega) (by omega)), s_likes y hp hj, Option.bind_some, if_neg (nI_neg1 (by omega)), nI_clamp (by omega)]
