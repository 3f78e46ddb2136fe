/-! level 1: any of the four lists gets one more -/
def q_bs (j : Nat) : Nat := ([1000, 1100, 1300, 1400] : List Nat).getD j 0
def q_sz (g : Nat) : Nat := ([10, 15, 22, 33] : List Nat).getD g 0
theorem qTX_rw {c : Nat → Nat} {j g : Nat} (hj : j < 4) (hg : g < 4) : qTX c (200 + 4 * j + g) = if c j ≠ 0 ∧ g ≤ q_gn (c j) then 3 else 0 := by
  unfold qTX
  rw [if_neg (by omega), if_pos (by omega), show (200 + 4 * j + g - 200) / 4 = j by omega, show (200 + 4 * j + g - 200) % 4 = g by omega]
  by_cases h : c j ≠ 0 ∧ g ≤ q_gn (c j)
  · rw [if_pos h, if_pos ⟨by omega, by omega, h.1, h.2⟩]
  · rw [if_neg h, if_neg (fun q => h ⟨q.2.2.1, q.2.2.2⟩)]
theorem qLX_rw {c : Nat → Nat} {j g : Nat} (hj : j < 4) (hg : g < 4) : qLX c (200 + 4 * j + g) = q_sz g := by
  unfold qLX
  rw [if_neg (by omega), if_pos (by omega), show (200 + 4 * j + g - 200) % 4 = g by omega]
  rfl
theorem qPX_rw {c : Nat → Nat} {j g k : Nat} (hj : j < 4) (hg : g < 4) : qPX c (200 + 4 * j + g) k = if k < c j then q_bs j + k else 0 := by
  unfold qPX q_el
  rw [if_neg (by omega), if_pos (by omega), show (200 + 4 * j + g - 200) / 4 = j by omega]
  rfl
theorem q_gn4 (n : Nat) : q_gn n < 4 := by
  unfold q_gn
  repeat' split
  all_goals omega
theorem q_gn_room0 : ∀ n, n < 30 → (n = 0 ∨ n = 10 ∨ n = 15 ∨ n = 22) ∨ q_gn (n + 1) = q_gn n ∧ n < q_sz (q_gn n) := by decide +kernel
theorem q_gn_room (n : Nat) (h : n < 30) (h0 : n ≠ 0) (h10 : n ≠ 10) (h15 : n ≠ 15) (h22 : n ≠ 22) : q_gn (n + 1) = q_gn n ∧ n < q_sz (q_gn n) := (q_gn_room0 n h).elim (fun q => by omega) id
theorem q_sz_old : ∀ n, n < 30 → ∀ g, g < q_gn (n + 1) → q_sz g ≤ n := by decide +kernel
theorem q_sz_le : ∀ g, g < 4 → q_sz g ≤ 33 := by decide +kernel
theorem q_gn_grow : ∀ n, n < 30 → n = 10 ∨ n = 15 ∨ n = 22 → q_gn (n + 1) = q_gn n + 1 ∧ q_sz (q_gn n) = n := by decide +kernel
theorem q_bs_le : ∀ j, 1000 ≤ q_bs j ∨ 4 ≤ j
  | 0 => Or.inl (by decide)
  | 1 => Or.inl (by decide)
  | 2 => Or.inl (by decide)
  | 3 => Or.inl (by decide)
  | _ + 4 => Or.inr (by omega)
theorem q_rtL : ∀ k, k < (q_rt 13).length → (q_rt 13).getD k false = true → k = 1 := by decide +kernel
/-- before an add: all but the list's rows and the list itself stand as they will -/
def q_pre (j o : Nat) (c c' : Nat → Nat) (T L : Nat → Nat) (P : Nat → Nat → Nat) : Prop :=
  (∀ x, x < 200 + 4 * j ∨ 204 + 4 * j ≤ x → T x = qTX c' x) ∧ (∀ g, g < 4 → T (200 + 4 * j + g) = qTX c (200 + 4 * j + g) ∧ L (200 + 4 * j + g) = q_sz g ∧ ∀ k, c j ≠ 0 → g ≤ q_gn (c j) → P (200 + 4 * j + g) k = qPX c (200 + 4 * j + g) k) ∧ ∀ x, x < 200 + 4 * j ∨ 204 + 4 * j ≤ x → T x ≠ 0 → (T x ≤ 4 → qLX c' x = L x) ∧ (T x = 3 → ∀ k, k < L x → qPX c' x k = P x k) ∧ (x ≠ o → 4 < T x → ∀ k, k < (q_rt (T x - 10)).length → (q_rt (T x - 10)).getD k false = true → qPX c' x k = P x k)
theorem q_row_or (j x : Nat) : (x < 200 + 4 * j ∨ 204 + 4 * j ≤ x) ∨ ∃ g, g < 4 ∧ x = 200 + 4 * j + g := by
  by_cases h : x < 200 + 4 * j ∨ 204 + 4 * j ≤ x
  · exact Or.inl h
  · exact Or.inr ⟨x - (200 + 4 * j), by omega, by omega⟩
theorem q_alkR {c c' : Nat → Nat} {T L : Nat → Nat} {P : Nat → Nat → Nat} {M : q_MM} {j o v r : Nat} (hj : j < 4) (hN : c j < 30) (hc' : c' j = c j + 1) (ho : o < 120) (hTo : T o = 23) (hPo : P o 1 = if c j = 0 then 940 else q_bid j (c j)) (hPo' : qPX c' o = q_ed j (c' j)) (hv : v = q_bs j + c j) (hpre : q_pre j o c c' T L P) (h0 : c j ≠ 0) (h10 : c j ≠ 10) (h15 : c j ≠ 15) (h22 : c j ≠ 22) (hr : r = 200 + 4 * j + q_gn (c j)) : q_alk (T, L, q_p2 P r (c j) v, M) (qTX c', qLX c', qPX c', M) := by
  obtain ⟨p1, p2, p3⟩ := hpre
  obtain ⟨gs, gL⟩ := q_gn_room _ hN h0 h10 h15 h22
  have g4 := q_gn4 (c j)
  refine ⟨fun x => ?_, fun x hx => ⟨fun h4 => ?_, fun _ k _ => rfl, fun h3 k hk => ?_, fun h5 k hk => ⟨fun hk1 => ?_, fun _ => rfl⟩⟩⟩
  · show qTX c' x = T x
    rcases q_row_or j x with h | ⟨g, hg, rfl⟩
    · exact (p1 x h).symm
    · rw [(p2 g hg).1, qTX_rw hj hg, qTX_rw hj hg, hc', gs]
      by_cases z : g ≤ q_gn (c j)
      · rw [if_pos ⟨by omega, z⟩, if_pos ⟨h0, z⟩]
      · rw [if_neg (fun q => z q.2), if_neg (fun q => z q.2)]
  · show qLX c' x = L x
    rcases q_row_or j x with h | ⟨g, hg, rfl⟩
    · exact (p3 x h hx).1 h4
    · rw [qLX_rw hj hg, (p2 g hg).2.1]
  · have h3 : T x = 3 := h3
    have hk : k < L x := hk
    show qPX c' x k = q_p2 P r (c j) v x k
    rcases q_row_or j x with h | ⟨g, hg, rfl⟩
    · rw [q_p2n (by omega)]
      exact (p3 x h hx).2.1 h3 k hk
    · obtain ⟨q1, q2, q3⟩ := p2 g hg
      rw [q2] at hk
      have hgg : g ≤ q_gn (c j) := by
        rw [q1, qTX_rw hj hg] at h3
        by_cases z : c j ≠ 0 ∧ g ≤ q_gn (c j)
        · exact z.2
        · rw [if_neg z] at h3
          omega
      have q3 := q3 k h0 hgg
      rw [qPX_rw hj hg] at q3
      rw [qPX_rw hj hg, hc']
      by_cases w : g = q_gn (c j)
      · subst hr
        rw [w] at q3 ⊢
        show _ = (if 200 + 4 * j + q_gn (c j) = 200 + 4 * j + q_gn (c j) then (fun k' => if k' = c j then v else P (200 + 4 * j + q_gn (c j)) k') else _) k
        rw [if_pos rfl]
        show _ = if k = c j then v else P (200 + 4 * j + q_gn (c j)) k
        by_cases y : k = c j
        · rw [if_pos y, if_pos (by omega), y, hv]
        · rw [if_neg y, q3]
          by_cases y2 : k < c j
          · rw [if_pos (by omega), if_pos y2]
          · rw [if_neg (by omega), if_neg y2]
      · rw [q_p2n (by omega), q3]
        have := q_sz_old (c j) hN g (by omega)
        rw [if_pos (by omega), if_pos (by omega)]
  · have h5 : 4 < T x := h5
    show qPX c' x k = q_p2 P r (c j) v x k
    rcases q_row_or j x with h | ⟨g, hg, rfl⟩
    · rw [q_p2n (by omega)]
      by_cases z : x = o
      · subst z
        have hk : k < (q_rt (T x - 10)).length := hk
        have hk1 : (q_rt (T x - 10)).getD k false = true := hk1
        rw [hTo] at hk hk1
        have := q_rtL k hk hk1
        subst this
        rw [hPo', hPo]
        unfold q_ed q_bid
        rw [hc', gs, if_pos rfl, if_neg (by omega), if_neg h0]
      · exact (p3 x h hx).2.2 z h5 k hk hk1
    · exfalso
      rw [(p2 g hg).1, qTX_rw hj hg] at h5
      revert h5
      split
      all_goals omega
theorem q_alkG {c c' : Nat → Nat} {T L : Nat → Nat} {P : Nat → Nat → Nat} {M : q_MM} {w : Nat → Nat} {j o v nb g1 N' : Nat} (hj : j < 4) (hN : c j < 30) (hc' : c' j = c j + 1) (ho : o < 120) (hTo : T o = 23) (hPo' : qPX c' o = q_ed j (c' j)) (hv : v = q_bs j + c j) (hpre : q_pre j o c c' T L P) (hg1 : g1 = q_gn (c j + 1)) (hnb : nb = 200 + 4 * j + g1) (hN' : N' = q_sz g1) (hw : ∀ k, w k = if k < c j then q_bs j + k else 0) (hgg : ∀ g, g < 4 → ((c j ≠ 0 ∧ g ≤ q_gn (c j)) ↔ g < g1)) : q_alk (va_up T nb 3, va_up L nb N', q_p2 (q_p2 (va_up P nb w) o 1 nb) nb (c j) v, q_u2 (va_up (q_u2 M o 0 (M o 0 + 1)) nb (fun _ => 0)) o 2 (nI (c j + 1))) (qTX c', qLX c', qPX c', q_ad2 M o (c j)) := by
  obtain ⟨p1, p2, p3⟩ := hpre
  have g4 : g1 < 4 := by rw [hg1]; exact q_gn4 _
  have on : o ≠ nb := by omega
  refine ⟨fun x => ?_, fun x hx => ⟨fun h4 => ?_, fun h3 k hk => ?_, fun h3 k hk => ?_, fun h5 k hk => ⟨fun hk1 => ?_, fun hk1 => ?_⟩⟩⟩
  · show qTX c' x = va_up T nb 3 x
    rcases q_row_or j x with h | ⟨g, hg, rfl⟩
    · rw [va_up_ne _ _ (by omega)]
      exact (p1 x h).symm
    · rw [qTX_rw hj hg, hc', ← hg1]
      by_cases z : g = g1
      · rw [if_pos ⟨by omega, by omega⟩, hnb, z, va_up_self]
      · rw [va_up_ne _ _ (by omega), (p2 g hg).1, qTX_rw hj hg]
        by_cases y : g < g1
        · rw [if_pos ⟨by omega, by omega⟩, if_pos ((hgg g hg).mpr y)]
        · rw [if_neg (by omega), if_neg (fun q => y ((hgg g hg).mp q))]
  · show qLX c' x = va_up L nb N' x
    have hx : va_up T nb 3 x ≠ 0 := hx
    have h4 : va_up T nb 3 x ≤ 4 := h4
    rcases q_row_or j x with h | ⟨g, hg, rfl⟩
    · rw [va_up_ne _ _ (show x ≠ nb by omega)] at hx h4 ⊢
      exact (p3 x h hx).1 h4
    · rw [qLX_rw hj hg]
      by_cases z : g = g1
      · rw [hnb, z, va_up_self, hN']
      · rw [va_up_ne _ _ (by omega), (p2 g hg).2.1]
  · have h3 : va_up T nb 3 x = 1 ∨ va_up T nb 3 x = 2 ∨ va_up T nb 3 x = 4 := h3
    have y : x ≠ nb := fun y => by rw [y, va_up_self] at h3; omega
    exact congrFun (q_u2c (va_up_ne _ _ y).symm) k
  · have h3 : va_up T nb 3 x = 3 := h3
    have hk : k < va_up L nb N' x := hk
    have hx : va_up T nb 3 x ≠ 0 := hx
    show qPX c' x k = q_p2 (q_p2 (va_up P nb w) o 1 nb) nb (c j) v x k
    rcases q_row_or j x with h | ⟨g, hg, rfl⟩
    · have n : x ≠ nb := by omega
      rw [va_up_ne _ _ n] at h3 hk hx
      have xo : x ≠ o := fun q => by rw [q, hTo] at h3; omega
      rw [q_p2n n, q_p2n xo, va_up_ne _ _ n]
      exact (p3 x h hx).2.1 h3 k hk
    · rw [qPX_rw hj hg, hc']
      by_cases z : g = g1
      · subst z
        rw [← hnb]
        show _ = (if nb = nb then (fun k' => if k' = c j then v else q_p2 (va_up P nb w) o 1 nb nb k') else _) k
        rw [if_pos rfl]
        show _ = if k = c j then v else q_p2 (va_up P nb w) o 1 nb nb k
        rw [q_p2n on.symm, va_up_self, hw]
        by_cases y : k = c j
        · rw [if_pos y, if_pos (by omega), y, hv]
        · rw [if_neg y]
          by_cases y2 : k < c j
          · rw [if_pos (by omega), if_pos y2]
          · rw [if_neg (by omega), if_neg y2]
      · have n : 200 + 4 * j + g ≠ nb := by omega
        rw [va_up_ne _ _ n] at h3 hk hx
        obtain ⟨q1, q2, q3⟩ := p2 g hg
        rw [q1, qTX_rw hj hg] at h3
        have hgz : c j ≠ 0 ∧ g ≤ q_gn (c j) := by
          by_cases y : c j ≠ 0 ∧ g ≤ q_gn (c j)
          · exact y
          · rw [if_neg y] at h3
            omega
        have lt := (hgg g hg).mp hgz
        have q3 := q3 k hgz.1 hgz.2
        rw [qPX_rw hj hg] at q3
        rw [q_p2n n, q_p2n (by omega), va_up_ne _ _ n, q3]
        rw [q2] at hk
        have := q_sz_old (c j) hN g (by omega)
        rw [if_pos (by omega), if_pos (by omega)]
  · have h5 : 4 < va_up T nb 3 x := h5
    have hx : va_up T nb 3 x ≠ 0 := hx
    have hk2 : k < (q_rt (va_up T nb 3 x - 10)).length := hk
    have hk3 : (q_rt (va_up T nb 3 x - 10)).getD k false = true := hk1
    have y : x ≠ nb := fun y => by rw [y, va_up_self] at h5; omega
    rw [va_up_ne _ _ y] at h5 hx hk2 hk3
    show qPX c' x k = q_p2 (q_p2 (va_up P nb w) o 1 nb) nb (c j) v x k
    rw [q_p2n y]
    rcases q_row_or j x with h | ⟨g, hg, rfl⟩
    · by_cases z : x = o
      · subst z
        rw [hTo] at hk2 hk3
        have := q_rtL k hk2 hk3
        subst this
        show _ = (if x = x then (fun k' => if k' = 1 then nb else va_up P nb w x k') else _) 1
        rw [if_pos rfl]
        show _ = if 1 = 1 then nb else _
        rw [if_pos rfl, hPo']
        unfold q_ed q_bid
        rw [hc', if_pos rfl, if_neg (by omega), hnb, hg1]
      · rw [q_p2n z, va_up_ne _ _ y]
        exact (p3 x h hx).2.2 z h5 k hk2 hk3
    · exfalso
      rw [(p2 g hg).1, qTX_rw hj hg] at h5
      revert h5
      split
      all_goals omega
  · have h5 : 4 < va_up T nb 3 x := h5
    have y : x ≠ nb := fun y => by rw [y, va_up_self] at h5; omega
    exact congrFun (q_u2c (va_up_ne _ _ y).symm) k
theorem c_addX (l : Launch) (K : q_KK) {c c' : Nat → Nat} {T L : Nat → Nat} {P : Nat → Nat → Nat} {M : q_MM} {j o v ci : Nat} {C : String} {Tt : u_T} {N9 : Nat} (hj : j < 4) (hN : c j < 30) (hc' : c' j = c j + 1) (ho : o < 120) (hM : M o 2 = nI (c j)) (hTo : T o = 23) (hPo : P o 1 = if c j = 0 then 940 else q_bid j (c j)) (hPo' : qPX c' o = q_ed j (c' j)) (hv : v = q_bs j + c j) (hTv : T v = ci + 10) (hcl : q_classes[ci]? = some (C, Tt, N9)) (hcs : (C, "java/lang/Object") ∈ q_csts) (hel : ∀ k, k < c j → T (q_bs j + k) = ci + 10) (hpre : q_pre j o c c' T L P) (hno : ∀ g, g < 4 → ¬ (c j ≠ 0 ∧ g ≤ q_gn (c j)) → q_no T P (200 + 4 * j + g)) : ∃ g', Mt l yJx4a65c_add_9ea2d cJx4a65c_add_9ea2d 2 (some FieldType.boolean) 6 200 1 33 true K [.ref o, .ref v] (T, L, P, M) (some (.int 1)) g' ∧ q_alk g' (qTX c', qLX c', qPX c', q_ad2 M o (c j)) := by
  have g4 := q_gn4 (c j)
  have g4' := q_gn4 (c j + 1)
  have p2 := hpre.2.1
  have row : ∀ g, g < 4 → c j ≠ 0 → g ≤ q_gn (c j) → T (200 + 4 * j + g) = 3 := fun g hg h0 h1 => by rw [(p2 g hg).1, qTX_rw hj hg, if_pos ⟨h0, h1⟩]
  by_cases h0 : c j = 0
  · have e1 : q_gn (c j + 1) = 0 := by rw [h0]; rfl
    have h := c_addG0 l K T L P M o v (200 + 4 * j + 0) ci hTo (by rw [hPo, if_pos h0]) (by rw [hM, h0]) (by omega) (by unfold q_st; omega) (hno 0 (by decide) (fun q => q.1 h0)) hTv hcl hcs
    rw [show (0 : Nat) + 1 = c j + 1 by omega] at h
    refine ⟨_, h, ?_⟩
    have := q_alkG (M := M) (w := fun _ => 0) (nb := 200 + 4 * j + 0) (g1 := 0) (N' := 10) hj hN hc' ho hTo hPo' hv hpre e1.symm rfl rfl (fun k => by rw [h0, if_neg (Nat.not_lt_zero k)]) (fun g _ => ⟨fun q => absurd h0 q.1, fun q => by omega⟩)
    rw [h0] at this ⊢
    exact this
  by_cases hr : c j = 10 ∨ c j = 15 ∨ c j = 22
  · obtain ⟨e1, e2⟩ := q_gn_grow _ hN hr
    have hnn : c j = 10 ∧ q_sz (q_gn (c j + 1)) = 15 ∨ c j = 15 ∧ q_sz (q_gn (c j + 1)) = 22 ∨ c j = 22 ∧ q_sz (q_gn (c j + 1)) = 33 := by
      rcases hr with h | h | h <;> rw [h] <;> decide
    refine ⟨_, c_addGn l K T L P M o v (200 + 4 * j + q_gn (c j)) (200 + 4 * j + q_gn (c j + 1)) (c j) (q_sz (q_gn (c j + 1))) ci hnn hTo (by rw [hPo, if_neg h0]; rfl) hM (row _ g4 h0 (Nat.le_refl _)) (by rw [(p2 _ g4).2.1, e2]) (by omega) (by unfold q_st; omega) (hno _ g4' (by omega)) (fun k hk _ => ?_) hTv hcl hcs, q_alkG hj hN hc' ho hTo hPo' hv hpre rfl rfl rfl (fun k => ?_) (fun g _ => ⟨fun q => by omega, fun q => ⟨h0, by omega⟩⟩)⟩
    · rw [(p2 _ g4).2.2 k h0 (Nat.le_refl _), qPX_rw hj g4, if_pos hk]
      exact hel k hk
    · unfold va_cpy
      by_cases y : k < c j
      · rw [if_pos (by omega), if_pos y]
        rw [(p2 _ g4).2.2 _ h0 (Nat.le_refl _), qPX_rw hj g4, if_pos (by omega)]
        omega
      · rw [if_neg (by omega), if_neg y]
  · obtain ⟨e1, e2⟩ := q_gn_room _ hN h0 (by omega) (by omega) (by omega)
    exact ⟨_, c_addR l K T L P M o v (200 + 4 * j + q_gn (c j)) (c j) (q_sz (q_gn (c j))) ci hTo (by rw [hPo, if_neg h0]; rfl) hM (row _ g4 h0 (Nat.le_refl _)) (p2 _ g4).2.1 e2 (by have := q_sz_le _ g4; omega) hTv hcl hcs, q_alkR hj hN hc' ho hTo hPo hPo' hv hpre h0 (by omega) (by omega) (by omega) rfl⟩
