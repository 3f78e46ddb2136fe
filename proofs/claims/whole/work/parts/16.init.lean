/-! constructors, the small ones: what they make is told outright -/
def q_no (T : Nat → Nat) (P : Nat → Nat → Nat) (o : Nat) : Prop := T o = 0 ∧ ∀ o' k, P o' k ≠ o
theorem q_no.up {T : Nat → Nat} {P : Nat → Nat → Nat} {o a t : Nat} (h : q_no T P o) (ha : a ≠ o) (h0 : o ≠ 0) : q_no (va_up T a t) (va_up P a (fun _ => 0)) o := by
  refine ⟨?_, fun o' k => ?_⟩
  · unfold va_up
    rw [if_neg (Ne.symm ha)]
    exact h.1
  · unfold va_up
    split
    · exact Ne.symm h0
    · exact h.2 o' k
theorem q_no.p2 {T : Nat → Nat} {P : Nat → Nat → Nat} {o a k v : Nat} (h : q_no T P o) (hv : v ≠ o) : q_no T (q_p2 P a k v) o := by
  refine ⟨h.1, fun o' k' => ?_⟩
  unfold q_p2
  split
  · dsimp only
    split
    · exact hv
    · exact h.2 a k'
  · exact h.2 o' k'
/-- the rows of Numbers, made at o + 50 -/
def i_Numbers (g : q_Mem) (o n : Nat) : q_Mem := (va_up g.1 (o + 50) 1, va_up g.2.1 (o + 50) n, q_p2 (va_up g.2.2.1 (o + 50) (fun _ => 0)) o 0 (o + 50), va_up g.2.2.2 (o + 50) (fun _ => 0))
theorem q_arrfit {ci kf : Nat} {te : FieldType} (h : parseFieldDescriptor (q_dsc ci kf) = some (.array te)) (r : Nat) (ad : Nat → Nat) (ty : FieldType) (h2 : parseFieldDescriptor (q_dsc ci kf) = some ty) : narrow ty (q_rf ad r) = q_rf ad r ∧ fits ty (q_rf ad r) = true := by
  cases h.symm.trans h2
  unfold q_rf
  split <;> exact ⟨rfl, rfl⟩
theorem q_objfit {ci kf : Nat} {te : String} (h : parseFieldDescriptor (q_dsc ci kf) = some (.object te)) (r : Nat) (ad : Nat → Nat) (ty : FieldType) (h2 : parseFieldDescriptor (q_dsc ci kf) = some ty) : narrow ty (q_rf ad r) = q_rf ad r ∧ fits ty (q_rf ad r) = true := by
  cases h.symm.trans h2
  unfold q_rf
  split <;> exact ⟨rfl, rfl⟩
set_option maxHeartbeats 4000000 in
set_option maxRecDepth 100000 in
theorem c_X4_init (l : Launch) (K : q_KK) (T : Nat → Nat) (L : Nat → Nat) (P : Nat → Nat → Nat) (M : q_MM) (o : Nat) (n : Int32) (h0 : o ≠ 0) (hT : T o = 14) (hf : q_no T P (o + 50)) (hst : ¬ q_st (o + 50)) (hn : ¬ n < 0) (hb : n.toNatClampNeg ≤ 100000) : Mt l yX4_init cX4_init 2 none 1 20 1 n.toNatClampNeg true K [.ref o, .int n] (T, L, P, M) none (i_Numbers (T, L, P, M) o n.toNatClampNeg) := by
  refine Mt.of (ρ := Unit) (F := some ()) (fun _ => none) (fun _ => i_Numbers (T, L, P, M) o n.toNatClampNeg) (by decide) (Nat.le_of_ble_eq_true rfl) ?_ () rfl
  intro p e s m args below meth c0 A ad X hN
  refine g_sub (lv' := [(0, .ref o), (1, .int n)]) [0, 1] rfl ?_
  refine g_aload_n X dX4_init_0 rfl 0 rfl ?_
  refine g_objinit X h0 lko_X4_3 (Nat.le_of_ble_eq_true rfl) (Nat.le_of_ble_eq_true rfl) dX4_init_1 ?_
  refine g_aload_n X dX4_init_4 rfl 0 rfl ?_
  refine g_iload_n X dX4_init_5 rfl 1 rfl ?_
  refine g_newi X (o + 50) wa_int rfl (by omega) hst hf.1 (fun o' _ k => hf.2 o' k) (by simp) (by simp) hn hb (Nat.le_of_ble_eq_true rfl) (by dsimp only; omega) dX4_init_6 ?_
  refine g_putrF X fa_X4_9 hN (by decide +kernel) (by decide +kernel) (fun ad ty h => q_arrfit (te := .int) (by decide +kernel) _ ad ty h) (by simp [va_up, hT]) dX4_init_8 ?_
  refine g_widen (kc' := 1) (kn' := n.toNatClampNeg) (by omega) (by omega) ?_
  exact g_vret X rfl rfl rfl dX4_init_11
theorem q_u2_at (M : q_MM) (o k : Nat) (v : Int32) (o' k' : Nat) : q_u2 M o k v o' k' = if o' = o then (if k' = k then v else M o' k') else M o' k' := by
  unfold q_u2
  split
  · rename_i h
    subst h
    rfl
  · rfl
def q_fill (M : q_MM) (o i n : Nat) (v : Int32) : q_MM := fun o' j => if o' = o ∧ i ≤ j ∧ j < n then v else M o' j
theorem s_fill_loop {T : Nat → Nat} {L : Nat → Nat} {P : Nat → Nat → Nat} {o n : Nat} {v : Int32} (hT : T o = 1) (hL : L o = n) (hn : n < 2 ^ 31) : ∀ (k i nf : Nat) (M : q_MM), i + k = n → k < nf → b_J7_fill_53178_5 T L P nf o v (nI i) (nI n) M = some (q_fill M o i n v)
  | k, i, 0, M, _, h => absurd h (Nat.not_lt_zero _)
  | 0, i, nf + 1, M, hi, _ => by
    have e : i = n := by omega
    subst e
    rw [b_J7_fill_53178_5, if_pos (nI_le (Nat.le_refl _) hn)]
    congr 1
    funext o' j
    unfold q_fill
    rw [if_neg (by omega)]
  | k + 1, i, nf + 1, M, hi, hf => by
    rw [b_J7_fill_53178_5, if_neg (nI_ge (by omega) hn), q_ck, if_pos hT, q_as, hL, if_neg (nI_in (by omega) hn), nI_clamp (by omega), nI_1, s_fill_loop hT hL hn k (i + 1) nf _ (by omega) (by omega)]
    congr 1
    funext o' j
    unfold q_fill
    rw [q_u2_at]
    by_cases h1 : o' = o
    · subst h1
      by_cases h2 : j = i
      · subst h2
        simp
        omega
      · simp only [true_and, if_neg h2, if_true]
        by_cases h3 : i + 1 ≤ j ∧ j < n
        · rw [if_pos h3, if_pos ⟨by omega, h3.2⟩]
        · rw [if_neg h3, if_neg (by omega)]
    · simp [h1]
theorem s_fill {T : Nat → Nat} {L : Nat → Nat} {P : Nat → Nat → Nat} {M : q_MM} {o n : Nat} {v : Int32} (hT : T o = 1) (hL : L o = n) (hn : n < 100000) : f_J7_fill_53178 T L P M o v = some (q_fill M o 0 n v) := by
  rw [f_J7_fill_53178, q_ck, if_pos hT, q_let, hL]
  exact s_fill_loop hT hL (by omega) n 0 q_fu M (by omega) (Nat.lt_of_lt_of_le hn q_fu_le)
theorem q_no.ne {T : Nat → Nat} {P : Nat → Nat → Nat} {o a : Nat} (h : q_no T P o) (ha : T a ≠ 0) : a ≠ o := fun e => ha (e ▸ h.1)
/-- the rows of Hanging, made at o + 40 and o + 42 -/
def i_Hanging (g : q_Mem) (o : Nat) : q_Mem := (va_up (va_up g.1 (o + 40) 1) (o + 42) 1, va_up (va_up g.2.1 (o + 40) 24) (o + 42) 24, q_p2 (va_up (q_p2 (va_up g.2.2.1 (o + 40) (fun _ => 0)) o 0 (o + 40)) (o + 42) (fun _ => 0)) o 1 (o + 42), q_fill (q_fill (va_up (va_up g.2.2.2 (o + 40) (fun _ => 0)) (o + 42) (fun _ => 0)) (o + 40) 0 24 (-1)) (o + 42) 0 24 (-1))
set_option maxHeartbeats 4000000 in
set_option maxRecDepth 100000 in
theorem c_X1_init (l : Launch) (K : q_KK) (T : Nat → Nat) (L : Nat → Nat) (P : Nat → Nat → Nat) (M : q_MM) (o : Nat) (h0 : o ≠ 0) (hT : T o = 11) (hf : q_no T P (o + 40)) (hf2 : q_no T P (o + 42)) (hst : ¬ q_st (o + 40)) (hst2 : ¬ q_st (o + 42)) : Mt l yX1_init cX1_init 1 none 1 23 2 48 true K [.ref o] (T, L, P, M) none (i_Hanging (T, L, P, M) o) := by
  refine Mt.of (ρ := Unit) (F := some ()) (fun _ => none) (fun _ => i_Hanging (T, L, P, M) o) (by decide) (Nat.le_of_ble_eq_true rfl) ?_ () rfl
  intro p e s m args below meth c0 A ad X hN
  refine g_sub (lv' := [(0, .ref o)]) [0] rfl ?_
  refine g_aload_n X dX1_init_0 rfl 0 rfl ?_
  refine g_objinit X h0 lko_X1_3 (Nat.le_of_ble_eq_true rfl) (Nat.le_of_ble_eq_true rfl) dX1_init_1 ?_
  refine g_aload_n X dX1_init_4 rfl 0 rfl ?_
  refine g_bipush (v := 24) X dX1_init_5 (by decide) ?_
  refine g_newi X (o + 40) wa_int rfl (by omega) hst hf.1 (fun o' _ k => hf.2 o' k) (by simp) (by simp) (by decide) (by decide) (Nat.le_of_ble_eq_true rfl) (Nat.le_of_ble_eq_true rfl) dX1_init_7 ?_
  have hf3 : q_no (va_up T (o + 40) 1) (q_p2 (va_up P (o + 40) (fun _ => 0)) o 0 (o + 40)) (o + 42) := (hf2.up (by omega) (by omega)).p2 (by omega)
  refine g_putrF X fa_X1_9 hN (by decide +kernel) (by decide +kernel) (fun ad ty h => q_arrfit (te := .int) (by decide +kernel) _ ad ty h) (by simp [va_up, hT]) dX1_init_9 ?_
  refine g_aload_n X dX1_init_12 rfl 0 rfl ?_
  refine g_bipush (v := 24) X dX1_init_13 (by decide) ?_
  refine g_newi X (o + 42) wa_int rfl (by omega) hst2 hf3.1 (fun o' _ k => hf3.2 o' k) (by simp) (by simp) (by decide) (by decide) (Nat.le_of_ble_eq_true rfl) (Nat.le_of_ble_eq_true rfl) dX1_init_15 ?_
  refine g_putrF X fa_X1_15 hN (by decide +kernel) (by decide +kernel) (fun ad ty h => q_arrfit (te := .int) (by decide +kernel) _ ad ty h) (by simp [va_up, hT]) dX1_init_17 ?_
  refine g_aload_n X dX1_init_20 rfl 0 rfl ?_
  refine g_getr (r := o + 40) X fa_X1_9 (by simp [va_up, hT]) (by simp [va_up, q_p2]) dX1_init_21 ?_
  refine g_iconst (v := (-1)) X dX1_init_24 (by decide) ?_
  refine g_callS (As := [.ref (o + 40), .int (-1)]) (rest := []) X (c_J7_fill_53178 l K _ _ _ _ (o + 40) (-1) _ (s_fill (n := 24) (by simp [va_up]) (by simp [va_up]) (by decide))) lk_X1_18 rfl rfl (Nat.le_of_ble_eq_true rfl) ⟨Nat.le_of_ble_eq_true rfl, Nat.le_of_ble_eq_true rfl⟩ ⟨Nat.le_of_ble_eq_true rfl, Nat.le_of_ble_eq_true rfl⟩ dX1_init_25 (fun h => by cases h) ?_
  refine g_aload_n X dX1_init_28 rfl 0 rfl ?_
  refine g_getr (r := o + 42) X fa_X1_15 (by simp [va_up, hT]) (by simp [va_up, q_p2]) dX1_init_29 ?_
  refine g_iconst (v := (-1)) X dX1_init_32 (by decide) ?_
  refine g_callS (As := [.ref (o + 42), .int (-1)]) (rest := []) X (c_J7_fill_53178 l K _ _ _ _ (o + 42) (-1) _ (s_fill (n := 24) (by simp [va_up]) (by simp [va_up]) (by decide))) lk_X1_18 rfl rfl (Nat.le_of_ble_eq_true rfl) ⟨Nat.le_of_ble_eq_true rfl, Nat.le_of_ble_eq_true rfl⟩ ⟨Nat.le_of_ble_eq_true rfl, Nat.le_of_ble_eq_true rfl⟩ dX1_init_33 (fun h => by cases h) ?_
  refine g_widen (kc' := 2) (kn' := 48) (by decide) (by decide) ?_
  exact g_vret X rfl rfl rfl dX1_init_36
