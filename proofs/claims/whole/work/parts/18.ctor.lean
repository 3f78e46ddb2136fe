/- straight-line constructors (made by tool/ctor.py) -/
def i_X0_init (g : q_Mem) (o : Nat) (a1 : Int32) (a2 : Int32) (a3 : Int32) (a4 : Int32) : q_Mem := (g.1, g.2.1, g.2.2.1, (q_u2 (q_u2 (q_u2 (q_u2 g.2.2.2 o 0 a1) o 1 a2) o 2 a3) o 3 a4))
set_option maxHeartbeats 4000000 in
set_option maxRecDepth 100000 in
theorem c_X0_init (l : Launch) (K : q_KK) (T : Nat → Nat) (L : Nat → Nat) (P : Nat → Nat → Nat) (M : q_MM) (o : Nat) (a1 : Int32) (a2 : Int32) (a3 : Int32) (a4 : Int32) (h0 : o ≠ 0) (hT : T o = 10) : Mt l yX0_init cX0_init 5 none 1 20 0 0 false K [.ref o, .int a1, .int a2, .int a3, .int a4] (T, L, P, M) none (i_X0_init (T, L, P, M) o a1 a2 a3 a4) := by
  refine Mt.of (ρ := Unit) (F := some ()) (fun _ => none) (fun _ => i_X0_init (T, L, P, M) o a1 a2 a3 a4) (by decide) (Nat.le_of_ble_eq_true rfl) ?_ () rfl
  intro p e s m args below meth c0 A ad X hN
  refine g_sub (lv' := [(0, .ref o), (1, .int a1), (2, .int a2), (3, .int a3), (4, .int a4)]) [0, 1, 2, 3, 4] rfl ?_
  refine g_aload_n X dX0_init_0 rfl 0 rfl ?_
  refine g_objinit X h0 lko_X0_1 (Nat.le_of_ble_eq_true rfl) (Nat.le_of_ble_eq_true rfl) dX0_init_1 ?_
  refine g_aload_n X dX0_init_4 rfl 0 rfl ?_
  refine g_iload_n X dX0_init_5 rfl 1 rfl ?_
  refine g_putiF X fa_X0_7 hN (by decide +kernel) (by decide +kernel) (by decide +kernel) hT dX0_init_6 ?_
  refine g_aload_n X dX0_init_9 rfl 0 rfl ?_
  refine g_iload_n X dX0_init_10 rfl 2 rfl ?_
  refine g_putiF X fa_X0_13 hN (by decide +kernel) (by decide +kernel) (by decide +kernel) hT dX0_init_11 ?_
  refine g_aload_n X dX0_init_14 rfl 0 rfl ?_
  refine g_iload_n X dX0_init_15 rfl 3 rfl ?_
  refine g_putiF X fa_X0_16 hN (by decide +kernel) (by decide +kernel) (by decide +kernel) hT dX0_init_16 ?_
  refine g_aload_n X dX0_init_19 rfl 0 rfl ?_
  refine g_iload X dX0_init_20 4 rfl ?_
  refine g_putiF X fa_X0_19 hN (by decide +kernel) (by decide +kernel) (by decide +kernel) hT dX0_init_22 ?_
  refine g_widen (kc' := 0) (kn' := 0) (by decide) (by decide) ?_
  exact g_vret X rfl rfl rfl dX0_init_25
def i_X5_init (g : q_Mem) (o : Nat) (a1 : Int32) : q_Mem := (g.1, g.2.1, g.2.2.1, (q_u2 (q_u2 (q_u2 (q_u2 (q_u2 (q_u2 g.2.2.2 o 8 (-1)) o 9 (-1)) o 10 1000000) o 11 400) o 12 0) o 0 a1))
set_option maxHeartbeats 4000000 in
set_option maxRecDepth 100000 in
theorem c_X5_init (l : Launch) (K : q_KK) (T : Nat → Nat) (L : Nat → Nat) (P : Nat → Nat → Nat) (M : q_MM) (o : Nat) (a1 : Int32) (h0 : o ≠ 0) (hT : T o = 15) : Mt l yX5_init cX5_init 2 none 1 20 0 0 false K [.ref o, .int a1] (T, L, P, M) none (i_X5_init (T, L, P, M) o a1) := by
  refine Mt.of (ρ := Unit) (F := some ()) (fun _ => none) (fun _ => i_X5_init (T, L, P, M) o a1) (by decide) (Nat.le_of_ble_eq_true rfl) ?_ () rfl
  intro p e s m args below meth c0 A ad X hN
  refine g_sub (lv' := [(0, .ref o), (1, .int a1)]) [0, 1] rfl ?_
  refine g_aload_n X dX5_init_0 rfl 0 rfl ?_
  refine g_objinit X h0 lko_X5_3 (Nat.le_of_ble_eq_true rfl) (Nat.le_of_ble_eq_true rfl) dX5_init_1 ?_
  refine g_aload_n X dX5_init_4 rfl 0 rfl ?_
  refine g_iconst (v := (-1)) X dX5_init_5 (by decide) ?_
  refine g_puti X fa_X5_9 (by decide +kernel) hT (fun ty _ h => by cases (show parseFieldDescriptor (q_dsc 5 8) = some .int by decide +kernel).symm.trans h; exact ⟨rfl, rfl⟩) dX5_init_6 ?_
  refine g_aload_n X dX5_init_9 rfl 0 rfl ?_
  refine g_iconst (v := (-1)) X dX5_init_10 (by decide) ?_
  refine g_puti X fa_X5_15 (by decide +kernel) hT (fun ty _ h => by cases (show parseFieldDescriptor (q_dsc 5 9) = some .int by decide +kernel).symm.trans h; exact ⟨rfl, rfl⟩) dX5_init_11 ?_
  refine g_aload_n X dX5_init_14 rfl 0 rfl ?_
  refine g_ldc (v := 1000000) X wc_X5_18 dX5_init_15 ?_
  refine g_puti X fa_X5_19 (by decide +kernel) hT (fun ty _ h => by cases (show parseFieldDescriptor (q_dsc 5 10) = some .int by decide +kernel).symm.trans h; exact ⟨rfl, rfl⟩) dX5_init_17 ?_
  refine g_aload_n X dX5_init_20 rfl 0 rfl ?_
  refine g_sipush (v := 400) X dX5_init_21 (by decide) ?_
  refine g_puti X fa_X5_22 (by decide +kernel) hT (fun ty _ h => by cases (show parseFieldDescriptor (q_dsc 5 11) = some .int by decide +kernel).symm.trans h; exact ⟨rfl, rfl⟩) dX5_init_24 ?_
  refine g_aload_n X dX5_init_27 rfl 0 rfl ?_
  refine g_iconst (v := 0) X dX5_init_28 (by decide) ?_
  refine g_puti X fa_X5_25 (by decide +kernel) hT (fun ty _ h => by cases (show parseFieldDescriptor (q_dsc 5 12) = some .int by decide +kernel).symm.trans h; exact ⟨rfl, rfl⟩) dX5_init_29 ?_
  refine g_aload_n X dX5_init_32 rfl 0 rfl ?_
  refine g_iload_n X dX5_init_33 rfl 1 rfl ?_
  refine g_putiF X fa_X5_28 hN (by decide +kernel) (by decide +kernel) (by decide +kernel) hT dX5_init_34 ?_
  refine g_widen (kc' := 0) (kn' := 0) (by decide) (by decide) ?_
  exact g_vret X rfl rfl rfl dX5_init_37
def i_X7_init (g : q_Mem) (o : Nat) (a1 : Int32) (a2 : Int32) (a3 : Nat) : q_Mem := (g.1, g.2.1, (q_p2 g.2.2.1 o 2 a3), (q_u2 (q_u2 g.2.2.2 o 0 a1) o 1 a2))
set_option maxHeartbeats 4000000 in
set_option maxRecDepth 100000 in
theorem c_X7_init (l : Launch) (K : q_KK) (T : Nat → Nat) (L : Nat → Nat) (P : Nat → Nat → Nat) (M : q_MM) (o : Nat) (a1 : Int32) (a2 : Int32) (a3 : Nat) (h0 : o ≠ 0) (hT : T o = 17) : Mt l yX7_init cX7_init 4 none 1 20 0 0 false K [.ref o, .int a1, .int a2, .ref a3] (T, L, P, M) none (i_X7_init (T, L, P, M) o a1 a2 a3) := by
  refine Mt.of (ρ := Unit) (F := some ()) (fun _ => none) (fun _ => i_X7_init (T, L, P, M) o a1 a2 a3) (by decide) (Nat.le_of_ble_eq_true rfl) ?_ () rfl
  intro p e s m args below meth c0 A ad X hN
  refine g_sub (lv' := [(0, .ref o), (1, .int a1), (2, .int a2), (3, .ref a3)]) [0, 1, 2, 3] rfl ?_
  refine g_aload_n X dX7_init_0 rfl 0 rfl ?_
  refine g_objinit X h0 lko_X7_1 (Nat.le_of_ble_eq_true rfl) (Nat.le_of_ble_eq_true rfl) dX7_init_1 ?_
  refine g_aload_n X dX7_init_4 rfl 0 rfl ?_
  refine g_iload_n X dX7_init_5 rfl 1 rfl ?_
  refine g_putiF X fa_X7_7 hN (by decide +kernel) (by decide +kernel) (by decide +kernel) hT dX7_init_6 ?_
  refine g_aload_n X dX7_init_9 rfl 0 rfl ?_
  refine g_iload_n X dX7_init_10 rfl 2 rfl ?_
  refine g_putiF X fa_X7_13 hN (by decide +kernel) (by decide +kernel) (by decide +kernel) hT dX7_init_11 ?_
  refine g_aload_n X dX7_init_14 rfl 0 rfl ?_
  refine g_aload_n X dX7_init_15 rfl 3 rfl ?_
  refine g_putrF X fa_X7_16 hN (by decide +kernel) (by decide +kernel) (fun ad ty h => q_arrfit (te := .int) (by decide +kernel) _ ad ty h) hT dX7_init_16 ?_
  refine g_widen (kc' := 0) (kn' := 0) (by decide) (by decide) ?_
  exact g_vret X rfl rfl rfl dX7_init_19
def i_X10_init (g : q_Mem) (o : Nat) (a1 : Int32) (a2 : Int32) : q_Mem := ((va_up g.1 (o + 100) 1), (va_up g.2.1 (o + 100) 24), (q_p2 (va_up g.2.2.1 (o + 100) (fun _ => 0)) o 5 (o + 100)), (q_u2 (q_u2 (q_u2 (q_u2 (q_u2 (va_up g.2.2.2 (o + 100) (fun _ => 0)) o 6 1) o 7 0) o 0 a1) o 1 a2) o 8 ((1 : Int32) <<< (a2 &&& 31))))
set_option maxHeartbeats 4000000 in
set_option maxRecDepth 100000 in
theorem c_X10_init (l : Launch) (K : q_KK) (T : Nat → Nat) (L : Nat → Nat) (P : Nat → Nat → Nat) (M : q_MM) (o : Nat) (a1 : Int32) (a2 : Int32) (h0 : o ≠ 0) (hT : T o = 20) (hz0 : (o + 100) ≠ 0) (hs0 : ¬ q_st (o + 100)) (hf0 : q_no T P (o + 100)) (he0 : o ≠ (o + 100)) : Mt l yX10_init cX10_init 3 none 1 20 1 24 true K [.ref o, .int a1, .int a2] (T, L, P, M) none (i_X10_init (T, L, P, M) o a1 a2) := by
  refine Mt.of (ρ := Unit) (F := some ()) (fun _ => none) (fun _ => i_X10_init (T, L, P, M) o a1 a2) (by decide) (Nat.le_of_ble_eq_true rfl) ?_ () rfl
  intro p e s m args below meth c0 A ad X hN
  refine g_sub (lv' := [(0, .ref o), (1, .int a1), (2, .int a2)]) [0, 1, 2] rfl ?_
  refine g_aload_n X dX10_init_0 rfl 0 rfl ?_
  refine g_objinit X h0 lko_X10_3 (Nat.le_of_ble_eq_true rfl) (Nat.le_of_ble_eq_true rfl) dX10_init_1 ?_
  refine g_aload_n X dX10_init_4 rfl 0 rfl ?_
  refine g_bipush (v := 24) X dX10_init_5 (by decide) ?_
  refine g_newi X (o + 100) wa_int rfl hz0 hs0 hf0.1 (fun o9 _ k9 => hf0.2 o9 k9) (by simp; try omega) (by simp; try omega) (by decide) (by decide) (Nat.le_of_ble_eq_true rfl) (Nat.le_of_ble_eq_true rfl) dX10_init_7 ?_
  refine g_putrF X fa_X10_9 hN (by decide +kernel) (by decide +kernel) (fun ad ty h => q_arrfit (te := .int) (by decide +kernel) _ ad ty h) (by simp [va_up, hT, he0]) dX10_init_9 ?_
  refine g_aload_n X dX10_init_12 rfl 0 rfl ?_
  refine g_iconst (v := 1) X dX10_init_13 (by decide) ?_
  refine g_puti X fa_X10_15 (by decide +kernel) (by simp [va_up, hT, he0]) (fun ty _ h => by cases (show parseFieldDescriptor (q_dsc 10 6) = some .int by decide +kernel).symm.trans h; exact ⟨rfl, rfl⟩) dX10_init_14 ?_
  refine g_aload_n X dX10_init_17 rfl 0 rfl ?_
  refine g_iconst (v := 0) X dX10_init_18 (by decide) ?_
  refine g_puti X fa_X10_19 (by decide +kernel) (by simp [va_up, hT, he0]) (fun ty _ h => by cases (show parseFieldDescriptor (q_dsc 10 7) = some .int by decide +kernel).symm.trans h; exact ⟨rfl, rfl⟩) dX10_init_19 ?_
  refine g_aload_n X dX10_init_22 rfl 0 rfl ?_
  refine g_iload_n X dX10_init_23 rfl 1 rfl ?_
  refine g_putiF X fa_X10_22 hN (by decide +kernel) (by decide +kernel) (by decide +kernel) (by simp [va_up, hT, he0]) dX10_init_24 ?_
  refine g_aload_n X dX10_init_27 rfl 0 rfl ?_
  refine g_iload_n X dX10_init_28 rfl 2 rfl ?_
  refine g_putiF X fa_X10_25 hN (by decide +kernel) (by decide +kernel) (by decide +kernel) (by simp [va_up, hT, he0]) dX10_init_29 ?_
  refine g_aload_n X dX10_init_32 rfl 0 rfl ?_
  refine g_iconst (v := 1) X dX10_init_33 (by decide) ?_
  refine g_iload_n X dX10_init_34 rfl 2 rfl ?_
  refine g_ishl X dX10_init_35 ?_
  refine g_puti X fa_X10_28 (by decide +kernel) (by simp [va_up, hT, he0]) (fun ty _ h => by cases (show parseFieldDescriptor (q_dsc 10 8) = some .int by decide +kernel).symm.trans h; exact ⟨rfl, rfl⟩) dX10_init_36 ?_
  refine g_widen (kc' := 1) (kn' := 24) (by decide) (by decide) ?_
  exact g_vret X rfl rfl rfl dX10_init_39
