/-! constructors, the small ones: what they make is told outright -/
def q_no (T : Nat → Nat) (P : Nat → Nat → Nat) (o : Nat) : Prop := T o = 0 ∧ ∀ o' k, P o' k ≠ o
theorem q_no.up {T : Nat → Nat} {P : Nat → Nat → Nat} {o a t : Nat} (h : q_no T P o) (ha : a ≠ o) (h0 : o ≠ 0) : q_no (va_up T a t) (va_up P a (fun _ => 0)) o := by
  refine ⟨?_, fun o' k => ?_⟩
  · unfold va_up
    rw [if_neg (Ne.symm ha)]
    exact h.1
  · unfold va_up
    split
    · exact Ne.symm h0
    · exact h.2 o' k
theorem q_no.p2 {T : Nat → Nat} {P : Nat → Nat → Nat} {o a k v : Nat} (h : q_no T P o) (hv : v ≠ o) : q_no T (q_p2 P a k v) o := by
  refine ⟨h.1, fun o' k' => ?_⟩
  unfold q_p2
  split
  · dsimp only
    split
    · exact hv
    · exact h.2 a k'
  · exact h.2 o' k'
/-- the rows of Numbers, made at o + 50 -/
def i_Numbers (g : q_Mem) (o n : Nat) : q_Mem := (va_up g.1 (o + 50) 1, va_up g.2.1 (o + 50) n, q_p2 (va_up g.2.2.1 (o + 50) (fun _ => 0)) o 0 (o + 50), va_up g.2.2.2 (o + 50) (fun _ => 0))
theorem q_arrfit {ci kf : Nat} {te : FieldType} (h : parseFieldDescriptor (q_dsc ci kf) = some (.array te)) (r : Nat) (ad : Nat → Nat) (ty : FieldType) (h2 : parseFieldDescriptor (q_dsc ci kf) = some ty) : narrow ty (q_rf ad r) = q_rf ad r ∧ fits ty (q_rf ad r) = true := by
  cases h.symm.trans h2
  unfold q_rf
  split <;> exact ⟨rfl, rfl⟩
theorem q_objfit {ci kf : Nat} {te : String} (h : parseFieldDescriptor (q_dsc ci kf) = some (.object te)) (r : Nat) (ad : Nat → Nat) (ty : FieldType) (h2 : parseFieldDescriptor (q_dsc ci kf) = some ty) : narrow ty (q_rf ad r) = q_rf ad r ∧ fits ty (q_rf ad r) = true := by
  cases h.symm.trans h2
  unfold q_rf
  split <;> exact ⟨rfl, rfl⟩
set_option maxHeartbeats 4000000 in
set_option maxRecDepth 100000 in
theorem c_X4_init (l : Launch) (K : q_KK) (T : Nat → Nat) (L : Nat → Nat) (P : Nat → Nat → Nat) (M : q_MM) (o : Nat) (n : Int32) (h0 : o ≠ 0) (hT : T o = 14) (hf : q_no T P (o + 50)) (hst : ¬ q_st (o + 50)) (hn : ¬ n < 0) (hb : n.toNatClampNeg ≤ 100000) : Mt l yX4_init cX4_init 2 none 1 20 1 n.toNatClampNeg true K [.ref o, .int n] (T, L, P, M) none (i_Numbers (T, L, P, M) o n.toNatClampNeg) := by
  refine Mt.of (ρ := Unit) (F := some ()) (fun _ => none) (fun _ => i_Numbers (T, L, P, M) o n.toNatClampNeg) (by decide) (Nat.le_of_ble_eq_true rfl) ?_ () rfl
  intro p e s m args below meth c0 A ad X hN
  refine g_sub (lv' := [(0, .ref o), (1, .int n)]) [0, 1] rfl ?_
  refine g_aload_n X dX4_init_0 rfl 0 rfl ?_
  refine g_objinit X h0 lko_X4_3 (Nat.le_of_ble_eq_true rfl) (Nat.le_of_ble_eq_true rfl) dX4_init_1 ?_
  refine g_aload_n X dX4_init_4 rfl 0 rfl ?_
  refine g_iload_n X dX4_init_5 rfl 1 rfl ?_
  refine g_newi X (o + 50) wa_int rfl (by omega) hst hf.1 (fun o' _ k => hf.2 o' k) (by simp) (by simp) hn hb (Nat.le_of_ble_eq_true rfl) (by dsimp only; omega) dX4_init_6 ?_
  refine g_putrF X fa_X4_9 hN (by decide +kernel) (by decide +kernel) (fun ad ty h => q_arrfit (te := .int) (by decide +kernel) _ ad ty h) (by simp [va_up, hT]) dX4_init_8 ?_
  refine g_widen (kc' := 1) (kn' := n.toNatClampNeg) (by omega) (by omega) ?_
  exact g_vret X rfl rfl rfl dX4_init_11
