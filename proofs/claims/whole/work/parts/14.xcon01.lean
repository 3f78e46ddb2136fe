set_option maxHeartbeats 4000000 in
set_option maxRecDepth 100000 in
theorem c_X2_isIn (l : Launch) (K : q_KK) (c : Nat → Nat) (M : q_MM) (a1 : Nat) (a2 : Int32) (a3 : Int32) : ∀ res, f_X2_isIn c M a1 a2 a3 = some res → Mt l yX2_isIn cX2_isIn 5 (some FieldType.boolean) 4 85 0 0 false K [.ref 2, .ref a1, .int a2, .int a3] ((qTX c), (qLX c), (qPX c), M) (some (.int res)) (((qTX c), (qLX c), (qPX c), M)) := by
  refine Mt.of (fun (res : Int32) => some (.int res)) (fun (_ : Int32) => ((qTX c), (qLX c), (qPX c), M)) (by decide) (Nat.le_of_ble_eq_true rfl) ?_
  intro p e s m args below meth c0 A ad X hN
  refine g_sub (lv' := [(0, .ref 2), (1, .ref a1), (2, .int a2), (3, .int a3)]) [0, 1, 2, 3] rfl ?_
  unfold f_X2_isIn
  refine g_aload_n X dX2_isIn_0 rfl 0 rfl ?_
  refine g_aload_n X dX2_isIn_1 rfl 1 rfl ?_
  refine g_iload_n X dX2_isIn_2 rfl 2 rfl ?_
  refine g_ck (fun hT1 => ?_)
  refine g_bVi (As := [.int a2]) (rest := [.ref 2]) X (c_X1_wallUnder l K c M a1 a2) lk_X2_76 hT1 rfl rfl (Nat.le_of_ble_eq_true rfl) ⟨Nat.le_of_ble_eq_true rfl, Nat.le_of_ble_eq_true rfl⟩ ⟨Nat.zero_le _, Nat.zero_le _⟩ dX2_isIn_3 (fun r2 => ?_)
  refine g_bVr (As := [.int r2]) (rest := []) X (c_X2_wallAt l K c M r2) lk_X2_80 rfl rfl rfl (Nat.le_of_ble_eq_true rfl) ⟨Nat.le_of_ble_eq_true rfl, Nat.le_of_ble_eq_true rfl⟩ ⟨Nat.zero_le _, Nat.zero_le _⟩ dX2_isIn_6 (fun r3 => ?_)
  refine g_astore X [(4, .ref r3), (0, .ref 2), (1, .ref a1), (2, .int a2), (3, .int a3)] dX2_isIn_9 (by decide) rfl ?_
  refine g_aload X dX2_isIn_11 0 rfl ?_
  refine g_ifnull X 29 dX2_isIn_13 rfl (fun h4 => ?_) (fun h4 => ?_)
  · refine g_iconst (v := 0) X dX2_isIn_29 (by decide) ?_
    exact g_zret X rfl rfl rfl dX2_isIn_30
  · refine g_aload X dX2_isIn_16 0 rfl ?_
    refine g_ck (fun hT5 => ?_)
    refine g_geti X fa_X2_128 hT5 dX2_isIn_18 ?_
    refine g_iload_n X dX2_isIn_21 rfl 4 rfl ?_
    refine g_icmp_ne X 29 dX2_isIn_22 rfl (fun h6 => ?_) (fun h6 => ?_)
    · refine g_iconst (v := 1) X dX2_isIn_25 (by decide) ?_
      refine g_goto X 30 dX2_isIn_26 rfl ?_
      exact g_zret X rfl rfl rfl dX2_isIn_30
    · refine g_iconst (v := 0) X dX2_isIn_29 (by decide) ?_
      exact g_zret X rfl rfl rfl dX2_isIn_30
set_option maxHeartbeats 4000000 in
set_option maxRecDepth 100000 in
theorem c_X2_meetsFoe (l : Launch) (K : q_KK) (c : Nat → Nat) (M : q_MM) (a1 : Nat) (a2 : Nat) (a3 : Int32) : ∀ res, f_X2_meetsFoe c M a1 a2 a3 = some res → Mt l yX2_meetsFoe cX2_meetsFoe 6 (some FieldType.boolean) 5 109 0 0 false K [.ref 2, .ref a1, .ref a2, .int a3] ((qTX c), (qLX c), (qPX c), M) (some (.int res)) (((qTX c), (qLX c), (qPX c), M)) := by
  refine Mt.of (fun (res : Int32) => some (.int res)) (fun (_ : Int32) => ((qTX c), (qLX c), (qPX c), M)) (by decide) (Nat.le_of_ble_eq_true rfl) ?_
  intro p e s m args below meth c0 A ad X hN
  have hb_71 : ∀ (k3 : Nat → Nat → Int32 → Int32 → Option (Int32)) (hk3 : ∀ (x1 : Nat) (x2 : Nat) (x3 : Int32) (x4 : Int32), GG p l e { frames := 5, cells := 0, slots := 0, locals := 109 } s m args below meth c0 K A ((qTX c), (qLX c), (qPX c), M) ad false 6 (fun res => MQ below (q_Qc K false ad ((qTX c), (qLX c), (qPX c), M) ((fun (res : Int32) => some (.int res)) res) ((fun (_ : Int32) => ((qTX c), (qLX c), (qPX c), M)) res) A) args s 0 0 A) (k3 x1 x2 x3 x4) 3 [(0, .ref 2), (1, .ref x1), (2, .ref x2), (3, .int x3), (4, .int x4)] [] ((qTX c), (qLX c), (qPX c), M) 0 0) (x1 : Nat) (x2 : Nat) (x3 : Int32) (x4 : Int32), GG p l e { frames := 5, cells := 0, slots := 0, locals := 109 } s m args below meth c0 K A ((qTX c), (qLX c), (qPX c), M) ad false 6 (fun res => MQ below (q_Qc K false ad ((qTX c), (qLX c), (qPX c), M) ((fun (res : Int32) => some (.int res)) res) ((fun (_ : Int32) => ((qTX c), (qLX c), (qPX c), M)) res) A) args s 0 0 A) (b_X2_meetsFoe_71 c M k3 x1 x2 x3 x4) 71 [(0, .ref 2), (1, .ref x1), (2, .ref x2), (3, .int x3), (4, .int x4)] [] ((qTX c), (qLX c), (qPX c), M) 0 0 := by
    intro k3 hk3 x1 x2 x3 x4
    unfold b_X2_meetsFoe_71
    refine g_iinc (v := 1) X [(4, .int (x4 + 1)), (0, .ref 2), (1, .ref x1), (2, .ref x2), (3, .int x3)] 4 dX2_meetsFoe_71 rfl (by decide) (by decide) rfl ?_
    refine g_goto X 3 dX2_meetsFoe_74 rfl ?_
    exact g_sub [1, 2, 3, 4, 0] rfl (hk3 x1 x2 x3 (x4 + 1))
  have hb_51 : ∀ (k3 : Nat → Nat → Int32 → Int32 → Option (Int32)) (hk3 : ∀ (x1 : Nat) (x2 : Nat) (x3 : Int32) (x4 : Int32), GG p l e { frames := 5, cells := 0, slots := 0, locals := 109 } s m args below meth c0 K A ((qTX c), (qLX c), (qPX c), M) ad false 6 (fun res => MQ below (q_Qc K false ad ((qTX c), (qLX c), (qPX c), M) ((fun (res : Int32) => some (.int res)) res) ((fun (_ : Int32) => ((qTX c), (qLX c), (qPX c), M)) res) A) args s 0 0 A) (k3 x1 x2 x3 x4) 3 [(0, .ref 2), (1, .ref x1), (2, .ref x2), (3, .int x3), (4, .int x4)] [] ((qTX c), (qLX c), (qPX c), M) 0 0) (x1 : Nat) (x2 : Nat) (x3 : Int32) (x4 : Int32) (s0 : Int32), GG p l e { frames := 5, cells := 0, slots := 0, locals := 109 } s m args below meth c0 K A ((qTX c), (qLX c), (qPX c), M) ad false 6 (fun res => MQ below (q_Qc K false ad ((qTX c), (qLX c), (qPX c), M) ((fun (res : Int32) => some (.int res)) res) ((fun (_ : Int32) => ((qTX c), (qLX c), (qPX c), M)) res) A) args s 0 0 A) (b_X2_meetsFoe_51 c M k3 x1 x2 x3 x4 s0) 51 [(0, .ref 2), (1, .ref x1), (2, .ref x2), (3, .int x3), (4, .int x4)] [.int s0] ((qTX c), (qLX c), (qPX c), M) 0 0 := by
    intro k3 hk3 x1 x2 x3 x4 s0
    unfold b_X2_meetsFoe_51
    refine g_istore X [(5, .int s0), (0, .ref 2), (1, .ref x1), (2, .ref x2), (3, .int x3), (4, .int x4)] dX2_meetsFoe_51 (by decide) rfl ?_
    refine g_iload X dX2_meetsFoe_53 0 rfl ?_
    refine g_if_eq X 71 dX2_meetsFoe_55 rfl (fun h1 => ?_) (fun h1 => ?_)
    · exact g_sub [1, 2, 3, 4, 5] rfl (hb_71 k3 hk3 x1 x2 x3 x4)
    · refine g_aload_n X dX2_meetsFoe_58 rfl 1 rfl ?_
      refine g_aload_n X dX2_meetsFoe_59 rfl 2 rfl ?_
      refine g_iload X dX2_meetsFoe_60 5 rfl ?_
      refine g_iload_n X dX2_meetsFoe_62 rfl 4 rfl ?_
      refine g_bVi (As := [.ref x1, .int x4, .int x3]) (rest := []) X (c_X2_isIn l K c M x1 x4 x3) lk_X2_134 rfl rfl rfl (Nat.le_of_ble_eq_true rfl) ⟨Nat.le_of_ble_eq_true rfl, Nat.le_of_ble_eq_true rfl⟩ ⟨Nat.zero_le _, Nat.zero_le _⟩ dX2_meetsFoe_63 (fun r2 => ?_)
      refine g_if_eq X 71 dX2_meetsFoe_66 rfl (fun h3 => ?_) (fun h3 => ?_)
      · exact g_sub [1, 2, 3, 4, 5] rfl (hb_71 k3 hk3 x1 x2 x3 x4)
      · refine g_iconst (v := 1) X dX2_meetsFoe_69 (by decide) ?_
        exact g_zret X rfl rfl rfl dX2_meetsFoe_70
  have hb_46 : ∀ (k3 : Nat → Nat → Int32 → Int32 → Option (Int32)) (hk3 : ∀ (x1 : Nat) (x2 : Nat) (x3 : Int32) (x4 : Int32), GG p l e { frames := 5, cells := 0, slots := 0, locals := 109 } s m args below meth c0 K A ((qTX c), (qLX c), (qPX c), M) ad false 6 (fun res => MQ below (q_Qc K false ad ((qTX c), (qLX c), (qPX c), M) ((fun (res : Int32) => some (.int res)) res) ((fun (_ : Int32) => ((qTX c), (qLX c), (qPX c), M)) res) A) args s 0 0 A) (k3 x1 x2 x3 x4) 3 [(0, .ref 2), (1, .ref x1), (2, .ref x2), (3, .int x3), (4, .int x4)] [] ((qTX c), (qLX c), (qPX c), M) 0 0) (x1 : Nat) (x2 : Nat) (x3 : Int32) (x4 : Int32), GG p l e { frames := 5, cells := 0, slots := 0, locals := 109 } s m args below meth c0 K A ((qTX c), (qLX c), (qPX c), M) ad false 6 (fun res => MQ below (q_Qc K false ad ((qTX c), (qLX c), (qPX c), M) ((fun (res : Int32) => some (.int res)) res) ((fun (_ : Int32) => ((qTX c), (qLX c), (qPX c), M)) res) A) args s 0 0 A) (b_X2_meetsFoe_46 c M k3 x1 x2 x3 x4) 46 [(0, .ref 2), (1, .ref x1), (2, .ref x2), (3, .int x3), (4, .int x4)] [] ((qTX c), (qLX c), (qPX c), M) 0 0 := by
    intro k3 hk3 x1 x2 x3 x4
    unfold b_X2_meetsFoe_46
    refine g_iconst (v := 1) X dX2_meetsFoe_46 (by decide) ?_
    refine g_goto X 51 dX2_meetsFoe_47 rfl ?_
    exact g_sub [0, 1, 2, 3, 4] rfl (hb_51 k3 hk3 x1 x2 x3 x4 1)
  have hb_3 : ∀ (nf : Nat) (x1 : Nat) (x2 : Nat) (x3 : Int32) (x4 : Int32), GG p l e { frames := 5, cells := 0, slots := 0, locals := 109 } s m args below meth c0 K A ((qTX c), (qLX c), (qPX c), M) ad false 6 (fun res => MQ below (q_Qc K false ad ((qTX c), (qLX c), (qPX c), M) ((fun (res : Int32) => some (.int res)) res) ((fun (_ : Int32) => ((qTX c), (qLX c), (qPX c), M)) res) A) args s 0 0 A) (b_X2_meetsFoe_3 c M nf x1 x2 x3 x4) 3 [(0, .ref 2), (1, .ref x1), (2, .ref x2), (3, .int x3), (4, .int x4)] [] ((qTX c), (qLX c), (qPX c), M) 0 0 := by
    intro  nf
    induction nf with
    | zero => intros; exact g_stop
    | succ nf ih =>
      intro x1 x2 x3 x4
      rw [b_X2_meetsFoe_3]
      refine g_iload X dX2_meetsFoe_3 4 rfl ?_
      refine g_aload_n X dX2_meetsFoe_5 rfl 0 rfl ?_
      refine g_getr X fa_X2_21 rfl rfl dX2_meetsFoe_6 ?_
      refine g_bVi (As := []) (rest := [.int x4]) X (c_Jx4a65c_size_8abf5 l K (qTX c) (qLX c) (qPX c) M 15) lk_X2_54 rfl rfl rfl (Nat.le_of_ble_eq_true rfl) ⟨Nat.le_of_ble_eq_true rfl, Nat.le_of_ble_eq_true rfl⟩ ⟨Nat.zero_le _, Nat.zero_le _⟩ dX2_meetsFoe_9 (fun r4 => ?_)
      refine g_icmp_ge X 77 dX2_meetsFoe_12 rfl (fun h5 => ?_) (fun h5 => ?_)
      · refine g_iconst (v := 0) X dX2_meetsFoe_77 (by decide) ?_
        exact g_zret X rfl rfl rfl dX2_meetsFoe_78
      · refine g_aload_n X dX2_meetsFoe_15 rfl 2 rfl ?_
        refine g_ck (fun hT6 => ?_)
        refine g_geti X fa_X2_131 hT6 dX2_meetsFoe_16 ?_
        refine g_iload X dX2_meetsFoe_19 4 rfl ?_
        refine g_icmp_eq X 46 dX2_meetsFoe_21 rfl (fun h7 => ?_) (fun h7 => ?_)
        · exact g_sub [0, 1, 2, 3, 4] rfl (hb_46 (b_X2_meetsFoe_3 c M nf) ih x1 x2 x3 x4)
        · refine g_aload_n X dX2_meetsFoe_24 rfl 0 rfl ?_
          refine g_getr X fa_X2_21 rfl rfl dX2_meetsFoe_25 ?_
          refine g_iload X dX2_meetsFoe_28 4 rfl ?_
          refine g_bVr (As := [.int x4]) (rest := []) X (c_Jx4a65c_get_915e3 l K (qTX c) (qLX c) (qPX c) M 15 x4) lk_X2_58 rfl rfl rfl (Nat.le_of_ble_eq_true rfl) ⟨Nat.le_of_ble_eq_true rfl, Nat.le_of_ble_eq_true rfl⟩ ⟨Nat.zero_le _, Nat.zero_le _⟩ dX2_meetsFoe_30 (fun r8 => ?_)
          refine g_ck (fun hT9 => ?_)
          refine g_cast X (ci := 5) rfl wl_X2_64 hT9 dX2_meetsFoe_33 ?_
          refine g_geti X fa_X2_131 hT9 dX2_meetsFoe_36 ?_
          refine g_aload_n X dX2_meetsFoe_39 rfl 2 rfl ?_
          refine g_geti X fa_X2_73 hT6 dX2_meetsFoe_40 ?_
          refine g_icmp_ne X 50 dX2_meetsFoe_43 rfl (fun h10 => ?_) (fun h10 => ?_)
          · exact g_sub [0, 1, 2, 3, 4] rfl (hb_46 (b_X2_meetsFoe_3 c M nf) ih x1 x2 x3 x4)
          · refine g_iconst (v := 0) X dX2_meetsFoe_50 (by decide) ?_
            exact g_sub [0, 1, 2, 3, 4] rfl (hb_51 (b_X2_meetsFoe_3 c M nf) ih x1 x2 x3 x4 0)
  refine g_sub (lv' := [(0, .ref 2), (1, .ref a1), (2, .ref a2), (3, .int a3)]) [0, 1, 2, 3] rfl ?_
  unfold f_X2_meetsFoe
  refine g_iconst (v := 0) X dX2_meetsFoe_0 (by decide) ?_
  refine g_istore X [(4, .int 0), (0, .ref 2), (1, .ref a1), (2, .ref a2), (3, .int a3)] dX2_meetsFoe_1 (by decide) rfl ?_
  exact g_sub [1, 2, 3, 4, 0] rfl (hb_3 q_fu a1 a2 a3 0)
set_option maxHeartbeats 4000000 in
set_option maxRecDepth 100000 in
theorem c_X2_othersIn (l : Launch) (K : q_KK) (c : Nat → Nat) (M : q_MM) (a1 : Nat) (a2 : Nat) (a3 : Int32) : ∀ res, f_X2_othersIn c M a1 a2 a3 = some res → Mt l yX2_othersIn cX2_othersIn 7 (some FieldType.int) 4 85 0 0 false K [.ref 2, .ref a1, .ref a2, .int a3] ((qTX c), (qLX c), (qPX c), M) (some (.int res)) (((qTX c), (qLX c), (qPX c), M)) := by
  refine Mt.of (fun (res : Int32) => some (.int res)) (fun (_ : Int32) => ((qTX c), (qLX c), (qPX c), M)) (by decide) (Nat.le_of_ble_eq_true rfl) ?_
  intro p e s m args below meth c0 A ad X hN
  have hb_60 : ∀ (k6 : Nat → Nat → Int32 → Int32 → Int32 → Option (Int32)) (hk6 : ∀ (x1 : Nat) (x2 : Nat) (x3 : Int32) (x4 : Int32) (x5 : Int32), GG p l e { frames := 4, cells := 0, slots := 0, locals := 85 } s m args below meth c0 K A ((qTX c), (qLX c), (qPX c), M) ad false 7 (fun res => MQ below (q_Qc K false ad ((qTX c), (qLX c), (qPX c), M) ((fun (res : Int32) => some (.int res)) res) ((fun (_ : Int32) => ((qTX c), (qLX c), (qPX c), M)) res) A) args s 0 0 A) (k6 x1 x2 x3 x4 x5) 6 [(0, .ref 2), (1, .ref x1), (2, .ref x2), (3, .int x3), (4, .int x4), (5, .int x5)] [] ((qTX c), (qLX c), (qPX c), M) 0 0) (x1 : Nat) (x2 : Nat) (x3 : Int32) (x5 : Int32) (s0 : Int32) (s1 : Int32), GG p l e { frames := 4, cells := 0, slots := 0, locals := 85 } s m args below meth c0 K A ((qTX c), (qLX c), (qPX c), M) ad false 7 (fun res => MQ below (q_Qc K false ad ((qTX c), (qLX c), (qPX c), M) ((fun (res : Int32) => some (.int res)) res) ((fun (_ : Int32) => ((qTX c), (qLX c), (qPX c), M)) res) A) args s 0 0 A) (b_X2_othersIn_60 c M k6 x1 x2 x3 x5 s0 s1) 60 [(0, .ref 2), (1, .ref x1), (2, .ref x2), (3, .int x3), (5, .int x5)] [.int s0, .int s1] ((qTX c), (qLX c), (qPX c), M) 0 0 := by
    intro k6 hk6 x1 x2 x3 x5 s0 s1
    unfold b_X2_othersIn_60
    refine g_iadd X dX2_othersIn_60 ?_
    refine g_is X (fun v1 => [(4, .int v1), (0, .ref 2), (1, .ref x1), (2, .ref x2), (3, .int x3), (5, .int x5)]) dX2_othersIn_61 (by decide) (fun _ => rfl) (fun v1 => ?_)
    refine g_iinc (v := 1) X [(5, .int (x5 + 1)), (4, .int v1), (0, .ref 2), (1, .ref x1), (2, .ref x2), (3, .int x3)] 5 dX2_othersIn_63 rfl (by decide) (by decide) rfl ?_
    refine g_goto X 6 dX2_othersIn_66 rfl ?_
    exact g_sub [2, 3, 4, 5, 1, 0] rfl (hk6 x1 x2 x3 v1 (x5 + 1))
  have hb_59 : ∀ (k6 : Nat → Nat → Int32 → Int32 → Int32 → Option (Int32)) (hk6 : ∀ (x1 : Nat) (x2 : Nat) (x3 : Int32) (x4 : Int32) (x5 : Int32), GG p l e { frames := 4, cells := 0, slots := 0, locals := 85 } s m args below meth c0 K A ((qTX c), (qLX c), (qPX c), M) ad false 7 (fun res => MQ below (q_Qc K false ad ((qTX c), (qLX c), (qPX c), M) ((fun (res : Int32) => some (.int res)) res) ((fun (_ : Int32) => ((qTX c), (qLX c), (qPX c), M)) res) A) args s 0 0 A) (k6 x1 x2 x3 x4 x5) 6 [(0, .ref 2), (1, .ref x1), (2, .ref x2), (3, .int x3), (4, .int x4), (5, .int x5)] [] ((qTX c), (qLX c), (qPX c), M) 0 0) (x1 : Nat) (x2 : Nat) (x3 : Int32) (x5 : Int32) (s0 : Int32), GG p l e { frames := 4, cells := 0, slots := 0, locals := 85 } s m args below meth c0 K A ((qTX c), (qLX c), (qPX c), M) ad false 7 (fun res => MQ below (q_Qc K false ad ((qTX c), (qLX c), (qPX c), M) ((fun (res : Int32) => some (.int res)) res) ((fun (_ : Int32) => ((qTX c), (qLX c), (qPX c), M)) res) A) args s 0 0 A) (b_X2_othersIn_59 c M k6 x1 x2 x3 x5 s0) 59 [(0, .ref 2), (1, .ref x1), (2, .ref x2), (3, .int x3), (5, .int x5)] [.int s0] ((qTX c), (qLX c), (qPX c), M) 0 0 := by
    intro k6 hk6 x1 x2 x3 x5 s0
    unfold b_X2_othersIn_59
    refine g_iconst (v := 0) X dX2_othersIn_59 (by decide) ?_
    exact g_sub [0, 1, 2, 3, 4] rfl (hb_60 k6 hk6 x1 x2 x3 x5 0 s0)
  have hb_6 : ∀ (nf : Nat) (x1 : Nat) (x2 : Nat) (x3 : Int32) (x4 : Int32) (x5 : Int32), GG p l e { frames := 4, cells := 0, slots := 0, locals := 85 } s m args below meth c0 K A ((qTX c), (qLX c), (qPX c), M) ad false 7 (fun res => MQ below (q_Qc K false ad ((qTX c), (qLX c), (qPX c), M) ((fun (res : Int32) => some (.int res)) res) ((fun (_ : Int32) => ((qTX c), (qLX c), (qPX c), M)) res) A) args s 0 0 A) (b_X2_othersIn_6 c M nf x1 x2 x3 x4 x5) 6 [(0, .ref 2), (1, .ref x1), (2, .ref x2), (3, .int x3), (4, .int x4), (5, .int x5)] [] ((qTX c), (qLX c), (qPX c), M) 0 0 := by
    intro  nf
    induction nf with
    | zero => intros; exact g_stop
    | succ nf ih =>
      intro x1 x2 x3 x4 x5
      rw [b_X2_othersIn_6]
      refine g_iload X dX2_othersIn_6 5 rfl ?_
      refine g_aload_n X dX2_othersIn_8 rfl 0 rfl ?_
      refine g_getr X fa_X2_21 rfl rfl dX2_othersIn_9 ?_
      refine g_bVi (As := []) (rest := [.int x5]) X (c_Jx4a65c_size_8abf5 l K (qTX c) (qLX c) (qPX c) M 15) lk_X2_54 rfl rfl rfl (Nat.le_of_ble_eq_true rfl) ⟨Nat.le_of_ble_eq_true rfl, Nat.le_of_ble_eq_true rfl⟩ ⟨Nat.zero_le _, Nat.zero_le _⟩ dX2_othersIn_12 (fun r2 => ?_)
      refine g_icmp_ge X 69 dX2_othersIn_15 rfl (fun h3 => ?_) (fun h3 => ?_)
      · refine g_iload X dX2_othersIn_69 4 rfl ?_
        exact g_iret X rfl rfl rfl dX2_othersIn_71
      · refine g_aload_n X dX2_othersIn_18 rfl 0 rfl ?_
        refine g_aload_n X dX2_othersIn_19 rfl 1 rfl ?_
        refine g_iload X dX2_othersIn_20 5 rfl ?_
        refine g_ck (fun hT4 => ?_)
        refine g_bVi (As := [.int x5]) (rest := [.ref 2]) X (c_X1_wallUnder l K c M x1 x5) lk_X2_76 hT4 rfl rfl (Nat.le_of_ble_eq_true rfl) ⟨Nat.le_of_ble_eq_true rfl, Nat.le_of_ble_eq_true rfl⟩ ⟨Nat.zero_le _, Nat.zero_le _⟩ dX2_othersIn_22 (fun r5 => ?_)
        refine g_bVr (As := [.int r5]) (rest := []) X (c_X2_wallAt l K c M r5) lk_X2_80 rfl rfl rfl (Nat.le_of_ble_eq_true rfl) ⟨Nat.le_of_ble_eq_true rfl, Nat.le_of_ble_eq_true rfl⟩ ⟨Nat.zero_le _, Nat.zero_le _⟩ dX2_othersIn_25 (fun r6 => ?_)
        refine g_astore X [(6, .ref r6), (0, .ref 2), (1, .ref x1), (2, .ref x2), (3, .int x3), (4, .int x4), (5, .int x5)] dX2_othersIn_28 (by decide) rfl ?_
        refine g_iload X dX2_othersIn_30 5 rfl ?_
        refine g_iload X dX2_othersIn_32 6 rfl ?_
        refine g_aload_n X dX2_othersIn_34 rfl 3 rfl ?_
        refine g_ck (fun hT7 => ?_)
        refine g_geti X fa_X2_73 hT7 dX2_othersIn_35 ?_
        refine g_icmp_eq X 59 dX2_othersIn_38 rfl (fun h8 => ?_) (fun h8 => ?_)
        · exact g_sub [1, 2, 3, 4, 6] rfl (hb_59 (b_X2_othersIn_6 c M nf) ih x1 x2 x3 x5 x4)
        · refine g_aload X dX2_othersIn_41 0 rfl ?_
          refine g_ifnull X 59 dX2_othersIn_43 rfl (fun h9 => ?_) (fun h9 => ?_)
          · exact g_sub [1, 2, 3, 4, 6] rfl (hb_59 (b_X2_othersIn_6 c M nf) ih x1 x2 x3 x5 x4)
          · refine g_aload X dX2_othersIn_46 0 rfl ?_
            refine g_ck (fun hT10 => ?_)
            refine g_geti X fa_X2_128 hT10 dX2_othersIn_48 ?_
            refine g_iload_n X dX2_othersIn_51 rfl 4 rfl ?_
            refine g_icmp_ne X 59 dX2_othersIn_52 rfl (fun h11 => ?_) (fun h11 => ?_)
            · refine g_iconst (v := 1) X dX2_othersIn_55 (by decide) ?_
              refine g_goto X 60 dX2_othersIn_56 rfl ?_
              exact g_sub [1, 2, 3, 4, 6] rfl (hb_60 (b_X2_othersIn_6 c M nf) ih x1 x2 x3 x5 1 x4)
            · exact g_sub [1, 2, 3, 4, 6] rfl (hb_59 (b_X2_othersIn_6 c M nf) ih x1 x2 x3 x5 x4)
  refine g_sub (lv' := [(0, .ref 2), (1, .ref a1), (2, .ref a2), (3, .int a3)]) [0, 1, 2, 3] rfl ?_
  unfold f_X2_othersIn
  refine g_iconst (v := 0) X dX2_othersIn_0 (by decide) ?_
  refine g_istore X [(4, .int 0), (0, .ref 2), (1, .ref a1), (2, .ref a2), (3, .int a3)] dX2_othersIn_1 (by decide) rfl ?_
  refine g_iconst (v := 0) X dX2_othersIn_3 (by decide) ?_
  refine g_istore X [(5, .int 0), (4, .int 0), (0, .ref 2), (1, .ref a1), (2, .ref a2), (3, .int a3)] dX2_othersIn_4 (by decide) rfl ?_
  exact g_sub [2, 3, 4, 5, 1, 0] rfl (hb_6 q_fu a1 a2 a3 0 0)
set_option maxHeartbeats 4000000 in
set_option maxRecDepth 100000 in
theorem c_X2_likingOf (l : Launch) (K : q_KK) (c : Nat → Nat) (M : q_MM) (a1 : Nat) (a2 : Nat) : ∀ res, f_X2_likingOf c M a1 a2 = some res → Mt l yX2_likingOf cX2_likingOf 3 (some FieldType.int) 0 0 0 0 false K [.ref 2, .ref a1, .ref a2] ((qTX c), (qLX c), (qPX c), M) (some (.int res)) (((qTX c), (qLX c), (qPX c), M)) := by
  refine Mt.of (fun (res : Int32) => some (.int res)) (fun (_ : Int32) => ((qTX c), (qLX c), (qPX c), M)) (by decide) (Nat.le_of_ble_eq_true rfl) ?_
  intro p e s m args below meth c0 A ad X hN
  refine g_sub (lv' := [(0, .ref 2), (1, .ref a1), (2, .ref a2)]) [0, 1, 2] rfl ?_
  unfold f_X2_likingOf
  refine g_aload_n X dX2_likingOf_0 rfl 0 rfl ?_
  refine g_getr X fa_X2_28 rfl rfl dX2_likingOf_1 ?_
  refine g_aload_n X dX2_likingOf_4 rfl 1 rfl ?_
  refine g_ck (fun hT1 => ?_)
  refine g_geti X fa_X2_138 hT1 dX2_likingOf_5 ?_
  refine g_bipush (v := 8) X dX2_likingOf_8 (by decide) ?_
  refine g_imul X dX2_likingOf_10 ?_
  refine g_aload_n X dX2_likingOf_11 rfl 2 rfl ?_
  refine g_ck (fun hT2 => ?_)
  refine g_geti X fa_X2_138 hT2 dX2_likingOf_12 ?_
  refine g_iadd X dX2_likingOf_15 ?_
  refine g_ild X rfl rfl dX2_likingOf_16 (fun v3 => ?_)
  exact g_iret X rfl rfl rfl dX2_likingOf_17
set_option maxHeartbeats 4000000 in
set_option maxRecDepth 100000 in
theorem c_X2_likedAt (l : Launch) (K : q_KK) (c : Nat → Nat) (M : q_MM) (a1 : Nat) (a2 : Nat) (a3 : Nat) (a4 : Int32) : ∀ res, f_X2_likedAt c M a1 a2 a3 a4 = some res → Mt l yX2_likedAt cX2_likedAt 7 (some FieldType.int) 4 85 0 0 false K [.ref 2, .ref a1, .ref a2, .ref a3, .int a4] ((qTX c), (qLX c), (qPX c), M) (some (.int res)) (((qTX c), (qLX c), (qPX c), M)) := by
  refine Mt.of (fun (res : Int32) => some (.int res)) (fun (_ : Int32) => ((qTX c), (qLX c), (qPX c), M)) (by decide) (Nat.le_of_ble_eq_true rfl) ?_
  intro p e s m args below meth c0 A ad X hN
  have hb_72 : ∀ (s0 : Int32) (s1 : Int32), GG p l e { frames := 4, cells := 0, slots := 0, locals := 85 } s m args below meth c0 K A ((qTX c), (qLX c), (qPX c), M) ad false 7 (fun res => MQ below (q_Qc K false ad ((qTX c), (qLX c), (qPX c), M) ((fun (res : Int32) => some (.int res)) res) ((fun (_ : Int32) => ((qTX c), (qLX c), (qPX c), M)) res) A) args s 0 0 A) (b_X2_likedAt_72 c M s0 s1) 72 [] [.int s0, .int s1] ((qTX c), (qLX c), (qPX c), M) 0 0 := by
    intro s0 s1
    unfold b_X2_likedAt_72
    refine g_iadd X dX2_likedAt_72 ?_
    exact g_iret X rfl rfl rfl dX2_likedAt_73
  have hb_56 : ∀ (x2 : Nat) (x6 : Nat) (s0 : Int32), GG p l e { frames := 4, cells := 0, slots := 0, locals := 85 } s m args below meth c0 K A ((qTX c), (qLX c), (qPX c), M) ad false 7 (fun res => MQ below (q_Qc K false ad ((qTX c), (qLX c), (qPX c), M) ((fun (res : Int32) => some (.int res)) res) ((fun (_ : Int32) => ((qTX c), (qLX c), (qPX c), M)) res) A) args s 0 0 A) (b_X2_likedAt_56 c M x2 x6 s0) 56 [(0, .ref 2), (2, .ref x2), (6, .ref x6)] [.int s0] ((qTX c), (qLX c), (qPX c), M) 0 0 := by
    intro x2 x6 s0
    unfold b_X2_likedAt_56
    refine g_aload X dX2_likedAt_56 2 rfl ?_
    refine g_ifnonnull X 65 dX2_likedAt_58 rfl (fun h1 => ?_) (fun h1 => ?_)
    · refine g_iconst (v := 0) X dX2_likedAt_61 (by decide) ?_
      refine g_goto X 72 dX2_likedAt_62 rfl ?_
      exact g_sub [] rfl (hb_72 0 s0)
    · refine g_aload_n X dX2_likedAt_65 rfl 0 rfl ?_
      refine g_aload_n X dX2_likedAt_66 rfl 1 rfl ?_
      refine g_aload X dX2_likedAt_67 2 rfl ?_
      refine g_bVi (As := [.ref x2, .ref x6]) (rest := [.int s0]) X (c_X2_likingOf l K c M x2 x6) lk_X2_148 rfl rfl rfl (Nat.le_of_ble_eq_true rfl) ⟨Nat.le_of_ble_eq_true rfl, Nat.le_of_ble_eq_true rfl⟩ ⟨Nat.zero_le _, Nat.zero_le _⟩ dX2_likedAt_69 (fun r2 => ?_)
      exact g_sub [] rfl (hb_72 r2 s0)
  refine g_sub (lv' := [(0, .ref 2), (1, .ref a1), (2, .ref a2), (3, .ref a3), (4, .int a4)]) [0, 1, 2, 3, 4] rfl ?_
  unfold f_X2_likedAt
  refine g_aload_n X dX2_likedAt_0 rfl 0 rfl ?_
  refine g_aload_n X dX2_likedAt_1 rfl 1 rfl ?_
  refine g_aload_n X dX2_likedAt_2 rfl 2 rfl ?_
  refine g_ck (fun hT3 => ?_)
  refine g_geti X fa_X2_73 hT3 dX2_likedAt_3 ?_
  refine g_aload_n X dX2_likedAt_6 rfl 3 rfl ?_
  refine g_ck (fun hT4 => ?_)
  refine g_geti X fa_X2_104 hT4 dX2_likedAt_7 ?_
  refine g_iload X dX2_likedAt_10 4 rfl ?_
  refine g_ck (fun hT5 => ?_)
  refine g_bVi (As := [.int (M a2 0), .int (M a3 0), .int a4]) (rest := [.ref 2]) X (c_X1_leftOf l K c M a1 (M a2 0) (M a3 0) a4) lk_X2_141 hT5 rfl rfl (Nat.le_of_ble_eq_true rfl) ⟨Nat.le_of_ble_eq_true rfl, Nat.le_of_ble_eq_true rfl⟩ ⟨Nat.zero_le _, Nat.zero_le _⟩ dX2_likedAt_12 (fun r6 => ?_)
  refine g_bVr (As := [.int r6]) (rest := []) X (c_X2_pictureAt l K c M r6) lk_X2_66 rfl rfl rfl (Nat.le_of_ble_eq_true rfl) ⟨Nat.le_of_ble_eq_true rfl, Nat.le_of_ble_eq_true rfl⟩ ⟨Nat.zero_le _, Nat.zero_le _⟩ dX2_likedAt_15 (fun r7 => ?_)
  refine g_astore X [(5, .ref r7), (0, .ref 2), (1, .ref a1), (2, .ref a2), (3, .ref a3), (4, .int a4)] dX2_likedAt_18 (by decide) rfl ?_
  refine g_aload_n X dX2_likedAt_20 rfl 1 rfl ?_
  refine g_aload_n X dX2_likedAt_21 rfl 2 rfl ?_
  refine g_aload_n X dX2_likedAt_22 rfl 3 rfl ?_
  refine g_geti X fa_X2_73 hT3 dX2_likedAt_23 ?_
  refine g_aload_n X dX2_likedAt_26 rfl 4 rfl ?_
  refine g_geti X fa_X2_104 hT4 dX2_likedAt_27 ?_
  refine g_iload X dX2_likedAt_30 5 rfl ?_
  refine g_bVi (As := [.int (M a2 0), .int (M a3 0), .int a4]) (rest := [.ref 2]) X (c_X1_rightOf l K c M a1 (M a2 0) (M a3 0) a4) lk_X2_145 hT5 rfl rfl (Nat.le_of_ble_eq_true rfl) ⟨Nat.le_of_ble_eq_true rfl, Nat.le_of_ble_eq_true rfl⟩ ⟨Nat.zero_le _, Nat.zero_le _⟩ dX2_likedAt_32 (fun r8 => ?_)
  refine g_bVr (As := [.int r8]) (rest := []) X (c_X2_pictureAt l K c M r8) lk_X2_66 rfl rfl rfl (Nat.le_of_ble_eq_true rfl) ⟨Nat.le_of_ble_eq_true rfl, Nat.le_of_ble_eq_true rfl⟩ ⟨Nat.zero_le _, Nat.zero_le _⟩ dX2_likedAt_35 (fun r9 => ?_)
  refine g_astore X [(6, .ref r9), (5, .ref r7), (0, .ref 2), (1, .ref a1), (2, .ref a2), (3, .ref a3), (4, .int a4)] dX2_likedAt_38 (by decide) rfl ?_
  refine g_aload X dX2_likedAt_40 1 rfl ?_
  refine g_ifnonnull X 49 dX2_likedAt_42 rfl (fun h10 => ?_) (fun h10 => ?_)
  · refine g_iconst (v := 0) X dX2_likedAt_45 (by decide) ?_
    refine g_goto X 56 dX2_likedAt_46 rfl ?_
    exact g_sub [2, 4, 0] rfl (hb_56 a2 r9 0)
  · refine g_aload_n X dX2_likedAt_49 rfl 2 rfl ?_
    refine g_aload_n X dX2_likedAt_50 rfl 4 rfl ?_
    refine g_aload X dX2_likedAt_51 1 rfl ?_
    refine g_bVi (As := [.ref a2, .ref r7]) (rest := []) X (c_X2_likingOf l K c M a2 r7) lk_X2_148 rfl rfl rfl (Nat.le_of_ble_eq_true rfl) ⟨Nat.le_of_ble_eq_true rfl, Nat.le_of_ble_eq_true rfl⟩ ⟨Nat.zero_le _, Nat.zero_le _⟩ dX2_likedAt_53 (fun r11 => ?_)
    exact g_sub [2, 4, 0] rfl (hb_56 a2 r9 r11)
set_option maxHeartbeats 4000000 in
set_option maxRecDepth 100000 in
theorem c_X2_pass (l : Launch) (K : q_KK) (c : Nat → Nat) (M0 : q_MM) : ∀ res, f_X2_pass c M0 = some res → Mt l yX2_pass cX2_pass 4 (none : Option FieldType) 5 106 0 0 false K [.ref 2] ((qTX c), (qLX c), (qPX c), M0) (none) (((qTX c), (qLX c), (qPX c), res)) := by
  refine Mt.of (fun (_ : q_MM) => none) (fun (res : q_MM) => ((qTX c), (qLX c), (qPX c), res)) (by decide) (Nat.le_of_ble_eq_true rfl) ?_
  intro p e s m args below meth c0 A ad X hN
  have hb_75 : ∀ (k13 : Int32 → q_MM → Option (q_MM)) (hk13 : ∀ (x1 : Int32) (M : q_MM), GG p l e { frames := 5, cells := 0, slots := 0, locals := 106 } s m args below meth c0 K A ((qTX c), (qLX c), (qPX c), M0) ad false 4 (fun res => MQ below (q_Qc K false ad ((qTX c), (qLX c), (qPX c), M0) ((fun (_ : q_MM) => none) res) ((fun (res : q_MM) => ((qTX c), (qLX c), (qPX c), res)) res) A) args s 0 0 A) (k13 x1 M) 13 [(0, .ref 2), (1, .int x1)] [] ((qTX c), (qLX c), (qPX c), M) 0 0) (x1 : Int32) (M : q_MM), GG p l e { frames := 5, cells := 0, slots := 0, locals := 106 } s m args below meth c0 K A ((qTX c), (qLX c), (qPX c), M0) ad false 4 (fun res => MQ below (q_Qc K false ad ((qTX c), (qLX c), (qPX c), M0) ((fun (_ : q_MM) => none) res) ((fun (res : q_MM) => ((qTX c), (qLX c), (qPX c), res)) res) A) args s 0 0 A) (b_X2_pass_75 c k13 x1 M) 75 [(0, .ref 2), (1, .int x1)] [] ((qTX c), (qLX c), (qPX c), M) 0 0 := by
    intro k13 hk13 x1 M
    unfold b_X2_pass_75
    refine g_iinc (v := 1) X [(1, .int (x1 + 1)), (0, .ref 2)] 1 dX2_pass_75 rfl (by decide) (by decide) rfl ?_
    refine g_goto X 13 dX2_pass_78 rfl ?_
    exact g_sub [1, 0] rfl (hk13 (x1 + 1) M)
  have hb_140 : ∀ (k93 : Int32 → q_MM → Option (q_MM)) (hk93 : ∀ (x1 : Int32) (M : q_MM), GG p l e { frames := 5, cells := 0, slots := 0, locals := 106 } s m args below meth c0 K A ((qTX c), (qLX c), (qPX c), M0) ad false 4 (fun res => MQ below (q_Qc K false ad ((qTX c), (qLX c), (qPX c), M0) ((fun (_ : q_MM) => none) res) ((fun (res : q_MM) => ((qTX c), (qLX c), (qPX c), res)) res) A) args s 0 0 A) (k93 x1 M) 93 [(0, .ref 2), (1, .int x1)] [] ((qTX c), (qLX c), (qPX c), M) 0 0) (x1 : Int32) (M : q_MM), GG p l e { frames := 5, cells := 0, slots := 0, locals := 106 } s m args below meth c0 K A ((qTX c), (qLX c), (qPX c), M0) ad false 4 (fun res => MQ below (q_Qc K false ad ((qTX c), (qLX c), (qPX c), M0) ((fun (_ : q_MM) => none) res) ((fun (res : q_MM) => ((qTX c), (qLX c), (qPX c), res)) res) A) args s 0 0 A) (b_X2_pass_140 c k93 x1 M) 140 [(0, .ref 2), (1, .int x1)] [] ((qTX c), (qLX c), (qPX c), M) 0 0 := by
    intro k93 hk93 x1 M
    unfold b_X2_pass_140
    refine g_iinc (v := 1) X [(1, .int (x1 + 1)), (0, .ref 2)] 1 dX2_pass_140 rfl (by decide) (by decide) rfl ?_
    refine g_goto X 93 dX2_pass_143 rfl ?_
    exact g_sub [1, 0] rfl (hk93 (x1 + 1) M)
  have hb_93 : ∀ (nf : Nat) (x1 : Int32) (M : q_MM), GG p l e { frames := 5, cells := 0, slots := 0, locals := 106 } s m args below meth c0 K A ((qTX c), (qLX c), (qPX c), M0) ad false 4 (fun res => MQ below (q_Qc K false ad ((qTX c), (qLX c), (qPX c), M0) ((fun (_ : q_MM) => none) res) ((fun (res : q_MM) => ((qTX c), (qLX c), (qPX c), res)) res) A) args s 0 0 A) (b_X2_pass_93 c nf x1 M) 93 [(0, .ref 2), (1, .int x1)] [] ((qTX c), (qLX c), (qPX c), M) 0 0 := by
    intro  nf
    induction nf with
    | zero => intros; exact g_stop
    | succ nf ih =>
      intro x1 M
      rw [b_X2_pass_93]
      refine g_iload_n X dX2_pass_93 rfl 1 rfl ?_
      refine g_aload_n X dX2_pass_94 rfl 0 rfl ?_
      refine g_getr X fa_X2_21 rfl rfl dX2_pass_95 ?_
      refine g_bVi (As := []) (rest := [.int x1]) X (c_Jx4a65c_size_8abf5 l K (qTX c) (qLX c) (qPX c) M 15) lk_X2_54 rfl rfl rfl (Nat.le_of_ble_eq_true rfl) ⟨Nat.le_of_ble_eq_true rfl, Nat.le_of_ble_eq_true rfl⟩ ⟨Nat.zero_le _, Nat.zero_le _⟩ dX2_pass_98 (fun r1 => ?_)
      refine g_icmp_ge X 146 dX2_pass_101 rfl (fun h2 => ?_) (fun h2 => ?_)
      · exact g_vret X rfl rfl rfl dX2_pass_146
      · refine g_aload_n X dX2_pass_104 rfl 0 rfl ?_
        refine g_getr X fa_X2_21 rfl rfl dX2_pass_105 ?_
        refine g_iload_n X dX2_pass_108 rfl 1 rfl ?_
        refine g_bVr (As := [.int x1]) (rest := []) X (c_Jx4a65c_get_915e3 l K (qTX c) (qLX c) (qPX c) M 15 x1) lk_X2_58 rfl rfl rfl (Nat.le_of_ble_eq_true rfl) ⟨Nat.le_of_ble_eq_true rfl, Nat.le_of_ble_eq_true rfl⟩ ⟨Nat.zero_le _, Nat.zero_le _⟩ dX2_pass_109 (fun r3 => ?_)
        refine g_ck (fun hT4 => ?_)
        refine g_cast X (ci := 5) rfl wl_X2_64 hT4 dX2_pass_112 ?_
        refine g_astore_n X [(2, .ref r3), (0, .ref 2), (1, .int x1)] dX2_pass_115 rfl (by decide) rfl ?_
        refine g_aload_n X dX2_pass_116 rfl 0 rfl ?_
        refine g_geti X fa_X2_166 hT4 dX2_pass_117 ?_
        refine g_aload_n X dX2_pass_120 rfl 1 rfl ?_
        refine g_geti X fa_X2_152 rfl dX2_pass_121 ?_
        refine g_icmp_gt X 140 dX2_pass_124 rfl (fun h5 => ?_) (fun h5 => ?_)
        · exact g_sub [1, 2] rfl (hb_140 (b_X2_pass_93 c nf) ih x1 M)
        · refine g_aload_n X dX2_pass_127 rfl 0 rfl ?_
          refine g_iconst (v := 3) X dX2_pass_128 (by decide) ?_
          refine g_pfi X fa_X2_70 rfl (by decide +kernel) hT4 dX2_pass_129 (fun M6 => ?_)
          refine g_aload_n X dX2_pass_132 rfl 1 rfl ?_
          refine g_getr X fa_X2_43 rfl rfl dX2_pass_133 ?_
          refine g_iload_n X dX2_pass_136 rfl 2 rfl ?_
          refine g_bVv (As := [.int x1]) (rest := []) X (c_X1_take l K c M6 21 x1) lk_X2_169 rfl rfl rfl (Nat.le_of_ble_eq_true rfl) ⟨Nat.le_of_ble_eq_true rfl, Nat.le_of_ble_eq_true rfl⟩ ⟨Nat.zero_le _, Nat.zero_le _⟩ dX2_pass_137 (fun r7 => ?_)
          exact g_sub [1, 2] rfl (hb_140 (b_X2_pass_93 c nf) ih x1 r7)
  have hb_13 : ∀ (nf : Nat) (x1 : Int32) (M : q_MM), GG p l e { frames := 5, cells := 0, slots := 0, locals := 106 } s m args below meth c0 K A ((qTX c), (qLX c), (qPX c), M0) ad false 4 (fun res => MQ below (q_Qc K false ad ((qTX c), (qLX c), (qPX c), M0) ((fun (_ : q_MM) => none) res) ((fun (res : q_MM) => ((qTX c), (qLX c), (qPX c), res)) res) A) args s 0 0 A) (b_X2_pass_13 c nf x1 M) 13 [(0, .ref 2), (1, .int x1)] [] ((qTX c), (qLX c), (qPX c), M) 0 0 := by
    intro  nf
    induction nf with
    | zero => intros; exact g_stop
    | succ nf ih =>
      intro x1 M
      rw [b_X2_pass_13]
      refine g_iload_n X dX2_pass_13 rfl 1 rfl ?_
      refine g_aload_n X dX2_pass_14 rfl 0 rfl ?_
      refine g_getr X fa_X2_21 rfl rfl dX2_pass_15 ?_
      refine g_bVi (As := []) (rest := [.int x1]) X (c_Jx4a65c_size_8abf5 l K (qTX c) (qLX c) (qPX c) M 15) lk_X2_54 rfl rfl rfl (Nat.le_of_ble_eq_true rfl) ⟨Nat.le_of_ble_eq_true rfl, Nat.le_of_ble_eq_true rfl⟩ ⟨Nat.zero_le _, Nat.zero_le _⟩ dX2_pass_18 (fun r8 => ?_)
      refine g_icmp_ge X 81 dX2_pass_21 rfl (fun h9 => ?_) (fun h9 => ?_)
      · refine g_aload_n X dX2_pass_81 rfl 0 rfl ?_
        refine g_dup X dX2_pass_82 rfl ?_
        refine g_geti X fa_X2_152 rfl dX2_pass_83 ?_
        refine g_iconst (v := 1) X dX2_pass_86 (by decide) ?_
        refine g_iadd X dX2_pass_87 ?_
        refine g_pfi X fa_X2_152 rfl (by decide +kernel) rfl dX2_pass_88 (fun M10 => ?_)
        refine g_iconst (v := 0) X dX2_pass_91 (by decide) ?_
        refine g_istore_n X [(1, .int 0), (0, .ref 2)] dX2_pass_92 rfl (by decide) rfl ?_
        exact g_sub [1, 0] rfl (hb_93 q_fu 0 M10)
      · refine g_aload_n X dX2_pass_24 rfl 0 rfl ?_
        refine g_getr X fa_X2_21 rfl rfl dX2_pass_25 ?_
        refine g_iload_n X dX2_pass_28 rfl 1 rfl ?_
        refine g_bVr (As := [.int x1]) (rest := []) X (c_Jx4a65c_get_915e3 l K (qTX c) (qLX c) (qPX c) M 15 x1) lk_X2_58 rfl rfl rfl (Nat.le_of_ble_eq_true rfl) ⟨Nat.le_of_ble_eq_true rfl, Nat.le_of_ble_eq_true rfl⟩ ⟨Nat.zero_le _, Nat.zero_le _⟩ dX2_pass_29 (fun r11 => ?_)
        refine g_ck (fun hT12 => ?_)
        refine g_cast X (ci := 5) rfl wl_X2_64 hT12 dX2_pass_32 ?_
        refine g_astore_n X [(2, .ref r11), (0, .ref 2), (1, .int x1)] dX2_pass_35 rfl (by decide) rfl ?_
        refine g_aload_n X dX2_pass_36 rfl 1 rfl ?_
        refine g_aload_n X dX2_pass_37 rfl 0 rfl ?_
        refine g_bVr (As := [.ref r11]) (rest := []) X (c_X2_wallOf l K c M r11) lk_X2_155 rfl rfl rfl (Nat.le_of_ble_eq_true rfl) ⟨Nat.le_of_ble_eq_true rfl, Nat.le_of_ble_eq_true rfl⟩ ⟨Nat.zero_le _, Nat.zero_le _⟩ dX2_pass_38 (fun r13 => ?_)
        refine g_astore_n X [(3, .ref r13), (2, .ref r11), (0, .ref 2), (1, .int x1)] dX2_pass_41 rfl (by decide) rfl ?_
        refine g_aload_n X dX2_pass_42 rfl 0 rfl ?_
        refine g_ifnull X 75 dX2_pass_43 rfl (fun h14 => ?_) (fun h14 => ?_)
        · exact g_sub [2, 3] rfl (hb_75 (b_X2_pass_13 c nf) ih x1 M)
        · refine g_aload_n X dX2_pass_46 rfl 1 rfl ?_
          refine g_dup X dX2_pass_47 rfl ?_
          refine g_geti X fa_X2_159 hT12 dX2_pass_48 ?_
          refine g_aload_n X dX2_pass_51 rfl 2 rfl ?_
          refine g_aload_n X dX2_pass_52 rfl 0 rfl ?_
          refine g_bVi (As := [.ref r13]) (rest := [.int (M r11 13), .ref r11]) X (c_X2_daylight l K c M r13) lk_X2_162 rfl rfl rfl (Nat.le_of_ble_eq_true rfl) ⟨Nat.le_of_ble_eq_true rfl, Nat.le_of_ble_eq_true rfl⟩ ⟨Nat.zero_le _, Nat.zero_le _⟩ dX2_pass_53 (fun r15 => ?_)
          refine g_iadd X dX2_pass_56 ?_
          refine g_pfi X fa_X2_159 rfl (by decide +kernel) hT12 dX2_pass_57 (fun M16 => ?_)
          refine g_aload_n X dX2_pass_60 rfl 2 rfl ?_
          refine g_getr X fa_X2_37 rfl rfl dX2_pass_61 ?_
          refine g_aload_n X dX2_pass_64 rfl 2 rfl ?_
          refine g_geti X fa_X2_152 rfl dX2_pass_65 ?_
          refine g_dup2 X dX2_pass_68 rfl rfl ?_
          refine g_ild X rfl rfl dX2_pass_69 (fun v17 => ?_)
          refine g_iconst (v := 1) X dX2_pass_70 (by decide) ?_
          refine g_iload_n X dX2_pass_71 rfl 3 rfl ?_
          refine g_ishl X dX2_pass_72 ?_
          refine g_ior X dX2_pass_73 ?_
          refine g_isv X rfl rfl dX2_pass_74 (fun M18 => ?_)
          exact g_sub [2, 3] rfl (hb_75 (b_X2_pass_13 c nf) ih x1 M18)
  refine g_sub (lv' := [(0, .ref 2)]) [0] rfl ?_
  unfold f_X2_pass
  refine g_aload_n X dX2_pass_0 rfl 0 rfl ?_
  refine g_geti X fa_X2_152 rfl dX2_pass_1 ?_
  refine g_sipush (v := 400) X dX2_pass_4 (by decide) ?_
  refine g_icmp_lt X 11 dX2_pass_7 rfl (fun h19 => ?_) (fun h19 => ?_)
  · refine g_iconst (v := 0) X dX2_pass_11 (by decide) ?_
    refine g_istore_n X [(1, .int 0), (0, .ref 2)] dX2_pass_12 rfl (by decide) rfl ?_
    exact g_sub [1, 0] rfl (hb_13 q_fu 0 M0)
  · exact g_vret X rfl rfl rfl dX2_pass_10
set_option maxHeartbeats 4000000 in
set_option maxRecDepth 100000 in
theorem c_X2_nightsShown (l : Launch) (K : q_KK) (c : Nat → Nat) (M : q_MM) (a1 : Int32) (a2 : Int32) (a3 : Int32) : ∀ res, f_X2_nightsShown c M a1 a2 a3 = some res → Mt l yX2_nightsShown cX2_nightsShown 6 (some FieldType.int) 1 21 0 0 false K [.ref 2, .int a1, .int a2, .int a3] ((qTX c), (qLX c), (qPX c), M) (some (.int res)) (((qTX c), (qLX c), (qPX c), M)) := by
  refine Mt.of (fun (res : Int32) => some (.int res)) (fun (_ : Int32) => ((qTX c), (qLX c), (qPX c), M)) (by decide) (Nat.le_of_ble_eq_true rfl) ?_
  intro p e s m args below meth c0 A ad X hN
  have hb_47 : ∀ (x4 : Int32), GG p l e { frames := 1, cells := 0, slots := 0, locals := 21 } s m args below meth c0 K A ((qTX c), (qLX c), (qPX c), M) ad false 6 (fun res => MQ below (q_Qc K false ad ((qTX c), (qLX c), (qPX c), M) ((fun (res : Int32) => some (.int res)) res) ((fun (_ : Int32) => ((qTX c), (qLX c), (qPX c), M)) res) A) args s 0 0 A) (b_X2_nightsShown_47 c M x4) 47 [(4, .int x4)] [] ((qTX c), (qLX c), (qPX c), M) 0 0 := by
    intro x4
    unfold b_X2_nightsShown_47
    refine g_iload X dX2_nightsShown_47 0 rfl ?_
    exact g_iret X rfl rfl rfl dX2_nightsShown_49
  have hb_10 : ∀ (nf : Nat) (x1 : Int32) (x3 : Int32) (x4 : Int32) (x5 : Int32), GG p l e { frames := 1, cells := 0, slots := 0, locals := 21 } s m args below meth c0 K A ((qTX c), (qLX c), (qPX c), M) ad false 6 (fun res => MQ below (q_Qc K false ad ((qTX c), (qLX c), (qPX c), M) ((fun (res : Int32) => some (.int res)) res) ((fun (_ : Int32) => ((qTX c), (qLX c), (qPX c), M)) res) A) args s 0 0 A) (b_X2_nightsShown_10 c M nf x1 x3 x4 x5) 10 [(0, .ref 2), (1, .int x1), (3, .int x3), (4, .int x4), (5, .int x5)] [] ((qTX c), (qLX c), (qPX c), M) 0 0 := by
    intro  nf
    induction nf with
    | zero => intros; exact g_stop
    | succ nf ih =>
      intro x1 x3 x4 x5
      rw [b_X2_nightsShown_10]
      refine g_iload X dX2_nightsShown_10 4 rfl ?_
      refine g_iload_n X dX2_nightsShown_12 rfl 2 rfl ?_
      refine g_icmp_ge X 47 dX2_nightsShown_13 rfl (fun h1 => ?_) (fun h1 => ?_)
      · exact g_sub [3] rfl (hb_47 x4)
      · refine g_iload X dX2_nightsShown_16 4 rfl ?_
        refine g_sipush (v := 400) X dX2_nightsShown_18 (by decide) ?_
        refine g_icmp_ge X 47 dX2_nightsShown_21 rfl (fun h2 => ?_) (fun h2 => ?_)
        · exact g_sub [3] rfl (hb_47 x4)
        · refine g_iload X dX2_nightsShown_24 3 rfl ?_
          refine g_aload_n X dX2_nightsShown_26 rfl 0 rfl ?_
          refine g_getr X fa_X2_37 rfl rfl dX2_nightsShown_27 ?_
          refine g_iload X dX2_nightsShown_30 4 rfl ?_
          refine g_ild X rfl rfl dX2_nightsShown_32 (fun v3 => ?_)
          refine g_iload_n X dX2_nightsShown_33 rfl 1 rfl ?_
          refine g_iand X dX2_nightsShown_34 ?_
          refine g_bSi (As := [.int (v3 &&& x1)]) (rest := [.int x4]) X (c_J6_bitCount_0f7a4 l K (qTX c) (qLX c) (qPX c) M (v3 &&& x1)) lk_X2_173 rfl rfl (Nat.le_of_ble_eq_true rfl) ⟨Nat.le_of_ble_eq_true rfl, Nat.le_of_ble_eq_true rfl⟩ ⟨Nat.zero_le _, Nat.zero_le _⟩ dX2_nightsShown_35 (fun r4 => ?_)
          refine g_iadd X dX2_nightsShown_38 ?_
          refine g_is X (fun v5 => [(4, .int v5), (0, .ref 2), (1, .int x1), (3, .int x3), (5, .int x5)]) dX2_nightsShown_39 (by decide) (fun _ => rfl) (fun v5 => ?_)
          refine g_iinc (v := 1) X [(5, .int (x5 + 1)), (4, .int v5), (0, .ref 2), (1, .int x1), (3, .int x3)] 4 dX2_nightsShown_41 rfl (by decide) (by decide) rfl ?_
          refine g_goto X 10 dX2_nightsShown_44 rfl ?_
          exact g_sub [2, 3, 4, 1, 0] rfl (ih x1 x3 v5 (x5 + 1))
  refine g_sub (lv' := [(0, .ref 2), (1, .int a1), (2, .int a2), (3, .int a3)]) [0, 1, 2, 3] rfl ?_
  unfold f_X2_nightsShown
  refine g_iconst (v := 0) X dX2_nightsShown_0 (by decide) ?_
  refine g_istore X [(4, .int 0), (0, .ref 2), (1, .int a1), (2, .int a2), (3, .int a3)] dX2_nightsShown_1 (by decide) rfl ?_
  refine g_iconst (v := 0) X dX2_nightsShown_3 (by decide) ?_
  refine g_iload_n X dX2_nightsShown_4 rfl 3 rfl ?_
  refine g_mmax X lk_X2_98 (Nat.le_of_ble_eq_true rfl) ⟨Nat.le_of_ble_eq_true rfl, Nat.le_of_ble_eq_true rfl⟩ ⟨Nat.zero_le _, Nat.zero_le _⟩ dX2_nightsShown_5 ?_
  refine g_is X (fun v6 => [(5, .int v6), (4, .int 0), (0, .ref 2), (1, .int a1), (2, .int a2), (3, .int a3)]) dX2_nightsShown_8 (by decide) (fun _ => rfl) (fun v6 => ?_)
  exact g_sub [2, 3, 5, 1, 0] rfl (hb_10 q_fu a1 a3 0 v6)
set_option maxHeartbeats 4000000 in
set_option maxRecDepth 100000 in
theorem c_X2_givenBy (l : Launch) (K : q_KK) (c : Nat → Nat) (M : q_MM) (a1 : Int32) : ∀ res, f_X2_givenBy c M a1 = some res → Mt l yX2_givenBy cX2_givenBy 4 (some FieldType.int) 3 64 0 0 false K [.ref 2, .int a1] ((qTX c), (qLX c), (qPX c), M) (some (.int res)) (((qTX c), (qLX c), (qPX c), M)) := by
  refine Mt.of (fun (res : Int32) => some (.int res)) (fun (_ : Int32) => ((qTX c), (qLX c), (qPX c), M)) (by decide) (Nat.le_of_ble_eq_true rfl) ?_
  intro p e s m args below meth c0 A ad X hN
  have hb_41 : ∀ (k4 : Int32 → Int32 → Int32 → Option (Int32)) (hk4 : ∀ (x1 : Int32) (x2 : Int32) (x3 : Int32), GG p l e { frames := 3, cells := 0, slots := 0, locals := 64 } s m args below meth c0 K A ((qTX c), (qLX c), (qPX c), M) ad false 4 (fun res => MQ below (q_Qc K false ad ((qTX c), (qLX c), (qPX c), M) ((fun (res : Int32) => some (.int res)) res) ((fun (_ : Int32) => ((qTX c), (qLX c), (qPX c), M)) res) A) args s 0 0 A) (k4 x1 x2 x3) 4 [(0, .ref 2), (1, .int x1), (2, .int x2), (3, .int x3)] [] ((qTX c), (qLX c), (qPX c), M) 0 0) (x1 : Int32) (x3 : Int32) (s0 : Int32) (s1 : Int32), GG p l e { frames := 3, cells := 0, slots := 0, locals := 64 } s m args below meth c0 K A ((qTX c), (qLX c), (qPX c), M) ad false 4 (fun res => MQ below (q_Qc K false ad ((qTX c), (qLX c), (qPX c), M) ((fun (res : Int32) => some (.int res)) res) ((fun (_ : Int32) => ((qTX c), (qLX c), (qPX c), M)) res) A) args s 0 0 A) (b_X2_givenBy_41 c M k4 x1 x3 s0 s1) 41 [(0, .ref 2), (1, .int x1), (3, .int x3)] [.int s0, .int s1] ((qTX c), (qLX c), (qPX c), M) 0 0 := by
    intro k4 hk4 x1 x3 s0 s1
    unfold b_X2_givenBy_41
    refine g_ior X dX2_givenBy_41 ?_
    refine g_isn X (fun v1 => [(2, .int v1), (0, .ref 2), (1, .int x1), (3, .int x3)]) dX2_givenBy_42 rfl (by decide) (fun _ => rfl) (fun v1 => ?_)
    refine g_iinc (v := 1) X [(3, .int (x3 + 1)), (2, .int v1), (0, .ref 2), (1, .int x1)] 3 dX2_givenBy_43 rfl (by decide) (by decide) rfl ?_
    refine g_goto X 4 dX2_givenBy_46 rfl ?_
    exact g_sub [2, 3, 1, 0] rfl (hk4 x1 v1 (x3 + 1))
  have hb_4 : ∀ (nf : Nat) (x1 : Int32) (x2 : Int32) (x3 : Int32), GG p l e { frames := 3, cells := 0, slots := 0, locals := 64 } s m args below meth c0 K A ((qTX c), (qLX c), (qPX c), M) ad false 4 (fun res => MQ below (q_Qc K false ad ((qTX c), (qLX c), (qPX c), M) ((fun (res : Int32) => some (.int res)) res) ((fun (_ : Int32) => ((qTX c), (qLX c), (qPX c), M)) res) A) args s 0 0 A) (b_X2_givenBy_4 c M nf x1 x2 x3) 4 [(0, .ref 2), (1, .int x1), (2, .int x2), (3, .int x3)] [] ((qTX c), (qLX c), (qPX c), M) 0 0 := by
    intro  nf
    induction nf with
    | zero => intros; exact g_stop
    | succ nf ih =>
      intro x1 x2 x3
      rw [b_X2_givenBy_4]
      refine g_iload_n X dX2_givenBy_4 rfl 3 rfl ?_
      refine g_aload_n X dX2_givenBy_5 rfl 0 rfl ?_
      refine g_getr X fa_X2_21 rfl rfl dX2_givenBy_6 ?_
      refine g_bVi (As := []) (rest := [.int x3]) X (c_Jx4a65c_size_8abf5 l K (qTX c) (qLX c) (qPX c) M 15) lk_X2_54 rfl rfl rfl (Nat.le_of_ble_eq_true rfl) ⟨Nat.le_of_ble_eq_true rfl, Nat.le_of_ble_eq_true rfl⟩ ⟨Nat.zero_le _, Nat.zero_le _⟩ dX2_givenBy_9 (fun r2 => ?_)
      refine g_icmp_ge X 49 dX2_givenBy_12 rfl (fun h3 => ?_) (fun h3 => ?_)
      · refine g_iload_n X dX2_givenBy_49 rfl 2 rfl ?_
        exact g_iret X rfl rfl rfl dX2_givenBy_50
      · refine g_iload_n X dX2_givenBy_15 rfl 2 rfl ?_
        refine g_aload_n X dX2_givenBy_16 rfl 0 rfl ?_
        refine g_getr X fa_X2_21 rfl rfl dX2_givenBy_17 ?_
        refine g_iload_n X dX2_givenBy_20 rfl 3 rfl ?_
        refine g_bVr (As := [.int x3]) (rest := [.int x2]) X (c_Jx4a65c_get_915e3 l K (qTX c) (qLX c) (qPX c) M 15 x3) lk_X2_58 rfl rfl rfl (Nat.le_of_ble_eq_true rfl) ⟨Nat.le_of_ble_eq_true rfl, Nat.le_of_ble_eq_true rfl⟩ ⟨Nat.zero_le _, Nat.zero_le _⟩ dX2_givenBy_21 (fun r4 => ?_)
        refine g_ck (fun hT5 => ?_)
        refine g_cast X (ci := 5) rfl wl_X2_64 hT5 dX2_givenBy_24 ?_
        refine g_geti X fa_X2_178 hT5 dX2_givenBy_27 ?_
        refine g_iload_n X dX2_givenBy_30 rfl 1 rfl ?_
        refine g_icmp_ne X 40 dX2_givenBy_31 rfl (fun h6 => ?_) (fun h6 => ?_)
        · refine g_iconst (v := 1) X dX2_givenBy_34 (by decide) ?_
          refine g_iload_n X dX2_givenBy_35 rfl 3 rfl ?_
          refine g_ishl X dX2_givenBy_36 ?_
          refine g_goto X 41 dX2_givenBy_37 rfl ?_
          exact g_sub [0, 1, 3] rfl (hb_41 (b_X2_givenBy_4 c M nf) ih x1 x3 ((1 : Int32) <<< (x3 &&& 31)) x2)
        · refine g_iconst (v := 0) X dX2_givenBy_40 (by decide) ?_
          exact g_sub [0, 1, 3] rfl (hb_41 (b_X2_givenBy_4 c M nf) ih x1 x3 0 x2)
  refine g_sub (lv' := [(0, .ref 2), (1, .int a1)]) [0, 1] rfl ?_
  unfold f_X2_givenBy
  refine g_iconst (v := 0) X dX2_givenBy_0 (by decide) ?_
  refine g_istore_n X [(2, .int 0), (0, .ref 2), (1, .int a1)] dX2_givenBy_1 rfl (by decide) rfl ?_
  refine g_iconst (v := 0) X dX2_givenBy_2 (by decide) ?_
  refine g_istore_n X [(3, .int 0), (2, .int 0), (0, .ref 2), (1, .int a1)] dX2_givenBy_3 rfl (by decide) rfl ?_
  exact g_sub [2, 3, 1, 0] rfl (hb_4 q_fu a1 0 0)
set_option maxHeartbeats 4000000 in
set_option maxRecDepth 100000 in
theorem c_X2_isShut (l : Launch) (K : q_KK) (c : Nat → Nat) (M : q_MM) (a1 : Int32) : ∀ res, f_X2_isShut c M a1 = some res → Mt l yX2_isShut cX2_isShut 2 (some FieldType.boolean) 0 0 0 0 false K [.ref 2, .int a1] ((qTX c), (qLX c), (qPX c), M) (some (.int res)) (((qTX c), (qLX c), (qPX c), M)) := by
  refine Mt.of (fun (res : Int32) => some (.int res)) (fun (_ : Int32) => ((qTX c), (qLX c), (qPX c), M)) (by decide) (Nat.le_of_ble_eq_true rfl) ?_
  intro p e s m args below meth c0 A ad X hN
  refine g_sub (lv' := [(0, .ref 2), (1, .int a1)]) [0, 1] rfl ?_
  unfold f_X2_isShut
  refine g_aload_n X dX2_isShut_0 rfl 0 rfl ?_
  refine g_geti X fa_X2_181 rfl dX2_isShut_1 ?_
  refine g_iload_n X dX2_isShut_4 rfl 1 rfl ?_
  refine g_ishr X dX2_isShut_5 ?_
  refine g_iconst (v := 1) X dX2_isShut_6 (by decide) ?_
  refine g_iand X dX2_isShut_7 ?_
  refine g_if_eq X 15 dX2_isShut_8 rfl (fun h1 => ?_) (fun h1 => ?_)
  · refine g_iconst (v := 0) X dX2_isShut_15 (by decide) ?_
    exact g_zret X rfl rfl rfl dX2_isShut_16
  · refine g_iconst (v := 1) X dX2_isShut_11 (by decide) ?_
    refine g_goto X 16 dX2_isShut_12 rfl ?_
    exact g_zret X rfl rfl rfl dX2_isShut_16
set_option maxHeartbeats 4000000 in
set_option maxRecDepth 100000 in
theorem c_X2_goesThrough (l : Launch) (K : q_KK) (c : Nat → Nat) (M : q_MM) (a1 : Nat) (a2 : Int32) (a3 : Int32) : ∀ res, f_X2_goesThrough c M a1 a2 a3 = some res → Mt l yX2_goesThrough cX2_goesThrough 5 (some FieldType.boolean) 3 64 0 0 false K [.ref 2, .ref a1, .int a2, .int a3] ((qTX c), (qLX c), (qPX c), M) (some (.int res)) (((qTX c), (qLX c), (qPX c), M)) := by
  refine Mt.of (fun (res : Int32) => some (.int res)) (fun (_ : Int32) => ((qTX c), (qLX c), (qPX c), M)) (by decide) (Nat.le_of_ble_eq_true rfl) ?_
  intro p e s m args below meth c0 A ad X hN
  have hb_55 : GG p l e { frames := 3, cells := 0, slots := 0, locals := 64 } s m args below meth c0 K A ((qTX c), (qLX c), (qPX c), M) ad false 5 (fun res => MQ below (q_Qc K false ad ((qTX c), (qLX c), (qPX c), M) ((fun (res : Int32) => some (.int res)) res) ((fun (_ : Int32) => ((qTX c), (qLX c), (qPX c), M)) res) A) args s 0 0 A) (b_X2_goesThrough_55 c M ) 55 [] [] ((qTX c), (qLX c), (qPX c), M) 0 0 := by
    unfold b_X2_goesThrough_55
    refine g_iconst (v := 1) X dX2_goesThrough_55 (by decide) ?_
    refine g_goto X 60 dX2_goesThrough_56 rfl ?_
    exact g_zret X rfl rfl rfl dX2_goesThrough_60
  refine g_sub (lv' := [(0, .ref 2), (1, .ref a1), (2, .int a2), (3, .int a3)]) [0, 1, 2, 3] rfl ?_
  unfold f_X2_goesThrough
  refine g_aload_n X dX2_goesThrough_0 rfl 0 rfl ?_
  refine g_getr X fa_X2_12 rfl rfl dX2_goesThrough_1 ?_
  refine g_iload_n X dX2_goesThrough_4 rfl 2 rfl ?_
  refine g_bVr (As := [.int a2]) (rest := []) X (c_Jx4a65c_get_915e3 l K (qTX c) (qLX c) (qPX c) M 13 a2) lk_X2_58 rfl rfl rfl (Nat.le_of_ble_eq_true rfl) ⟨Nat.le_of_ble_eq_true rfl, Nat.le_of_ble_eq_true rfl⟩ ⟨Nat.zero_le _, Nat.zero_le _⟩ dX2_goesThrough_5 (fun r1 => ?_)
  refine g_ck (fun hT2 => ?_)
  refine g_cast X (ci := 0) rfl wl_X2_184 hT2 dX2_goesThrough_8 ?_
  refine g_astore X [(4, .ref r1), (0, .ref 2), (1, .ref a1), (2, .int a2), (3, .int a3)] dX2_goesThrough_11 (by decide) rfl ?_
  refine g_aload_n X dX2_goesThrough_13 rfl 2 rfl ?_
  refine g_ifnull X 55 dX2_goesThrough_14 rfl (fun h3 => ?_) (fun h3 => ?_)
  · exact g_sub [] rfl (hb_55)
  · refine g_aload_n X dX2_goesThrough_17 rfl 1 rfl ?_
    refine g_aload X dX2_goesThrough_18 0 rfl ?_
    refine g_geti X fa_X2_186 hT2 dX2_goesThrough_20 ?_
    refine g_bVi (As := [.int (M r1 0)]) (rest := []) X (c_X2_isShut l K c M (M r1 0)) lk_X2_189 rfl rfl rfl (Nat.le_of_ble_eq_true rfl) ⟨Nat.le_of_ble_eq_true rfl, Nat.le_of_ble_eq_true rfl⟩ ⟨Nat.zero_le _, Nat.zero_le _⟩ dX2_goesThrough_23 (fun r4 => ?_)
    refine g_if_ne X 59 dX2_goesThrough_26 rfl (fun h5 => ?_) (fun h5 => ?_)
    · refine g_aload_n X dX2_goesThrough_29 rfl 1 rfl ?_
      refine g_aload X dX2_goesThrough_30 0 rfl ?_
      refine g_geti X fa_X2_192 hT2 dX2_goesThrough_32 ?_
      refine g_bVi (As := [.int (M r1 1)]) (rest := []) X (c_X2_isShut l K c M (M r1 1)) lk_X2_189 rfl rfl rfl (Nat.le_of_ble_eq_true rfl) ⟨Nat.le_of_ble_eq_true rfl, Nat.le_of_ble_eq_true rfl⟩ ⟨Nat.zero_le _, Nat.zero_le _⟩ dX2_goesThrough_35 (fun r6 => ?_)
      refine g_if_ne X 59 dX2_goesThrough_38 rfl (fun h7 => ?_) (fun h7 => ?_)
      · refine g_iload_n X dX2_goesThrough_41 rfl 3 rfl ?_
        refine g_iload_n X dX2_goesThrough_42 rfl 4 rfl ?_
        refine g_icmp_eq X 55 dX2_goesThrough_43 rfl (fun h8 => ?_) (fun h8 => ?_)
        · exact g_sub [] rfl (hb_55)
        · refine g_aload X dX2_goesThrough_46 0 rfl ?_
          refine g_aload_n X dX2_goesThrough_48 rfl 2 rfl ?_
          refine g_bVi (As := [.ref a1]) (rest := []) X (c_X0_lets l K c M r1 a1) lk_X2_195 hT2 rfl rfl (Nat.le_of_ble_eq_true rfl) ⟨Nat.le_of_ble_eq_true rfl, Nat.le_of_ble_eq_true rfl⟩ ⟨Nat.zero_le _, Nat.zero_le _⟩ dX2_goesThrough_49 (fun r9 => ?_)
          refine g_if_eq X 59 dX2_goesThrough_52 rfl (fun h10 => ?_) (fun h10 => ?_)
          · refine g_iconst (v := 0) X dX2_goesThrough_59 (by decide) ?_
            exact g_zret X rfl rfl rfl dX2_goesThrough_60
          · exact g_sub [] rfl (hb_55)
      · refine g_iconst (v := 0) X dX2_goesThrough_59 (by decide) ?_
        exact g_zret X rfl rfl rfl dX2_goesThrough_60
    · refine g_iconst (v := 0) X dX2_goesThrough_59 (by decide) ?_
      exact g_zret X rfl rfl rfl dX2_goesThrough_60
set_option maxHeartbeats 4000000 in
set_option maxRecDepth 100000 in
theorem c_X2_measure (l : Launch) (K : q_KK) (c : Nat → Nat) (M0 : q_MM) (a1 : Nat) (a2 : Int32) (a3 : Nat) (a4 : Int32) : ∀ res, f_X2_measure c M0 a1 a2 a3 a4 = some res → Mt l yX2_measure cX2_measure 8 (none : Option FieldType) 4 88 0 0 false K [.ref 2, .ref a1, .int a2, .ref a3, .int a4] ((qTX c), (qLX c), (qPX c), M0) (none) (((qTX c), (qLX c), (qPX c), res)) := by
  refine Mt.of (fun (_ : q_MM) => none) (fun (res : q_MM) => ((qTX c), (qLX c), (qPX c), res)) (by decide) (Nat.le_of_ble_eq_true rfl) ?_
  intro p e s m args below meth c0 A ad X hN
  have hb_25 : ∀ (k3 : Nat → Int32 → Nat → Int32 → Int32 → q_MM → Option (q_MM)) (hk3 : ∀ (x1 : Nat) (x2 : Int32) (x3 : Nat) (x4 : Int32) (x5 : Int32) (M : q_MM), GG p l e { frames := 4, cells := 0, slots := 0, locals := 88 } s m args below meth c0 K A ((qTX c), (qLX c), (qPX c), M0) ad false 8 (fun res => MQ below (q_Qc K false ad ((qTX c), (qLX c), (qPX c), M0) ((fun (_ : q_MM) => none) res) ((fun (res : q_MM) => ((qTX c), (qLX c), (qPX c), res)) res) A) args s 0 0 A) (k3 x1 x2 x3 x4 x5 M) 3 [(0, .ref 2), (1, .ref x1), (2, .int x2), (3, .ref x3), (4, .int x4), (5, .int x5)] [] ((qTX c), (qLX c), (qPX c), M) 0 0) (x1 : Nat) (x2 : Int32) (x3 : Nat) (x4 : Int32) (x5 : Int32) (s0 : Int32) (s1 : Int32) (s2 : Nat) (M : q_MM), GG p l e { frames := 4, cells := 0, slots := 0, locals := 88 } s m args below meth c0 K A ((qTX c), (qLX c), (qPX c), M0) ad false 8 (fun res => MQ below (q_Qc K false ad ((qTX c), (qLX c), (qPX c), M0) ((fun (_ : q_MM) => none) res) ((fun (res : q_MM) => ((qTX c), (qLX c), (qPX c), res)) res) A) args s 0 0 A) (b_X2_measure_25 c k3 x1 x2 x3 x4 x5 s0 s1 s2 M) 25 [(0, .ref 2), (1, .ref x1), (2, .int x2), (3, .ref x3), (4, .int x4), (5, .int x5)] [.int s0, .int s1, .ref s2] ((qTX c), (qLX c), (qPX c), M) 0 0 := by
    intro k3 hk3 x1 x2 x3 x4 x5 s0 s1 s2 M
    unfold b_X2_measure_25
    refine g_ck (fun hT1 => ?_)
    refine g_isv X hT1 rfl dX2_measure_25 (fun M2 => ?_)
    refine g_iinc (v := 1) X [(5, .int (x5 + 1)), (0, .ref 2), (1, .ref x1), (2, .int x2), (3, .ref x3), (4, .int x4)] 5 dX2_measure_26 rfl (by decide) (by decide) rfl ?_
    refine g_goto X 3 dX2_measure_29 rfl ?_
    exact g_sub [1, 2, 3, 4, 5, 0] rfl (hk3 x1 x2 x3 x4 (x5 + 1) M2)
  have hb_137 : ∀ (k47 : Nat → Nat → Int32 → Int32 → Int32 → q_MM → Option (q_MM)) (hk47 : ∀ (x1 : Nat) (x3 : Nat) (x4 : Int32) (x5 : Int32) (x6 : Int32) (M : q_MM), GG p l e { frames := 4, cells := 0, slots := 0, locals := 88 } s m args below meth c0 K A ((qTX c), (qLX c), (qPX c), M0) ad false 8 (fun res => MQ below (q_Qc K false ad ((qTX c), (qLX c), (qPX c), M0) ((fun (_ : q_MM) => none) res) ((fun (res : q_MM) => ((qTX c), (qLX c), (qPX c), res)) res) A) args s 0 0 A) (k47 x1 x3 x4 x5 x6 M) 47 [(0, .ref 2), (1, .ref x1), (3, .ref x3), (4, .int x4), (5, .int x5), (6, .int x6)] [] ((qTX c), (qLX c), (qPX c), M) 0 0) (x1 : Nat) (x3 : Nat) (x4 : Int32) (x5 : Int32) (x6 : Int32) (M : q_MM), GG p l e { frames := 4, cells := 0, slots := 0, locals := 88 } s m args below meth c0 K A ((qTX c), (qLX c), (qPX c), M0) ad false 8 (fun res => MQ below (q_Qc K false ad ((qTX c), (qLX c), (qPX c), M0) ((fun (_ : q_MM) => none) res) ((fun (res : q_MM) => ((qTX c), (qLX c), (qPX c), res)) res) A) args s 0 0 A) (b_X2_measure_137 c k47 x1 x3 x4 x5 x6 M) 137 [(0, .ref 2), (1, .ref x1), (3, .ref x3), (4, .int x4), (5, .int x5), (6, .int x6)] [] ((qTX c), (qLX c), (qPX c), M) 0 0 := by
    intro k47 hk47 x1 x3 x4 x5 x6 M
    unfold b_X2_measure_137
    refine g_iinc (v := 1) X [(6, .int (x6 + 1)), (0, .ref 2), (1, .ref x1), (3, .ref x3), (4, .int x4), (5, .int x5)] 5 dX2_measure_137 rfl (by decide) (by decide) rfl ?_
    refine g_goto X 47 dX2_measure_140 rfl ?_
    exact g_sub [1, 2, 3, 4, 5, 0] rfl (hk47 x1 x3 x4 x5 (x6 + 1) M)
  have hb_47 : ∀ (k35 : Nat → Nat → Int32 → Int32 → q_MM → Option (q_MM)) (hk35 : ∀ (x1 : Nat) (x3 : Nat) (x4 : Int32) (x5 : Int32) (M : q_MM), GG p l e { frames := 4, cells := 0, slots := 0, locals := 88 } s m args below meth c0 K A ((qTX c), (qLX c), (qPX c), M0) ad false 8 (fun res => MQ below (q_Qc K false ad ((qTX c), (qLX c), (qPX c), M0) ((fun (_ : q_MM) => none) res) ((fun (res : q_MM) => ((qTX c), (qLX c), (qPX c), res)) res) A) args s 0 0 A) (k35 x1 x3 x4 x5 M) 35 [(0, .ref 2), (1, .ref x1), (3, .ref x3), (4, .int x4), (5, .int x5)] [] ((qTX c), (qLX c), (qPX c), M) 0 0) (nf : Nat) (x1 : Nat) (x3 : Nat) (x4 : Int32) (x5 : Int32) (x6 : Int32) (M : q_MM), GG p l e { frames := 4, cells := 0, slots := 0, locals := 88 } s m args below meth c0 K A ((qTX c), (qLX c), (qPX c), M0) ad false 8 (fun res => MQ below (q_Qc K false ad ((qTX c), (qLX c), (qPX c), M0) ((fun (_ : q_MM) => none) res) ((fun (res : q_MM) => ((qTX c), (qLX c), (qPX c), res)) res) A) args s 0 0 A) (b_X2_measure_47 c k35 nf x1 x3 x4 x5 x6 M) 47 [(0, .ref 2), (1, .ref x1), (3, .ref x3), (4, .int x4), (5, .int x5), (6, .int x6)] [] ((qTX c), (qLX c), (qPX c), M) 0 0 := by
    intro k35 hk35 nf
    induction nf with
    | zero => intros; exact g_stop
    | succ nf ih =>
      intro x1 x3 x4 x5 x6 M
      rw [b_X2_measure_47]
      refine g_iload X dX2_measure_47 5 rfl ?_
      refine g_aload_n X dX2_measure_49 rfl 0 rfl ?_
      refine g_getr X fa_X2_12 rfl rfl dX2_measure_50 ?_
      refine g_bVi (As := []) (rest := [.int x6]) X (c_Jx4a65c_size_8abf5 l K (qTX c) (qLX c) (qPX c) M 13) lk_X2_54 rfl rfl rfl (Nat.le_of_ble_eq_true rfl) ⟨Nat.le_of_ble_eq_true rfl, Nat.le_of_ble_eq_true rfl⟩ ⟨Nat.zero_le _, Nat.zero_le _⟩ dX2_measure_53 (fun r3 => ?_)
      refine g_icmp_ge X 143 dX2_measure_56 rfl (fun h4 => ?_) (fun h4 => ?_)
      · refine g_iinc (v := 1) X [(5, .int (x5 + 1)), (0, .ref 2), (1, .ref x1), (3, .ref x3), (4, .int x4), (6, .int x6)] 4 dX2_measure_143 rfl (by decide) (by decide) rfl ?_
        refine g_goto X 35 dX2_measure_146 rfl ?_
        exact g_sub [1, 2, 3, 4, 0] rfl (hk35 x1 x3 x4 (x5 + 1) M)
      · refine g_aload_n X dX2_measure_59 rfl 0 rfl ?_
        refine g_aload_n X dX2_measure_60 rfl 2 rfl ?_
        refine g_iload X dX2_measure_61 5 rfl ?_
        refine g_iload X dX2_measure_63 3 rfl ?_
        refine g_bVi (As := [.ref x3, .int x6, .int x4]) (rest := []) X (c_X2_goesThrough l K c M x3 x6 x4) lk_X2_199 rfl rfl rfl (Nat.le_of_ble_eq_true rfl) ⟨Nat.le_of_ble_eq_true rfl, Nat.le_of_ble_eq_true rfl⟩ ⟨Nat.zero_le _, Nat.zero_le _⟩ dX2_measure_65 (fun r5 => ?_)
        refine g_if_eq X 137 dX2_measure_68 rfl (fun h6 => ?_) (fun h6 => ?_)
        · exact g_sub [0, 1, 2, 3, 4, 5] rfl (hb_137 (b_X2_measure_47 c k35 nf) ih x1 x3 x4 x5 x6 M)
        · refine g_aload_n X dX2_measure_71 rfl 0 rfl ?_
          refine g_getr X fa_X2_12 rfl rfl dX2_measure_72 ?_
          refine g_iload X dX2_measure_75 5 rfl ?_
          refine g_bVr (As := [.int x6]) (rest := []) X (c_Jx4a65c_get_915e3 l K (qTX c) (qLX c) (qPX c) M 13 x6) lk_X2_58 rfl rfl rfl (Nat.le_of_ble_eq_true rfl) ⟨Nat.le_of_ble_eq_true rfl, Nat.le_of_ble_eq_true rfl⟩ ⟨Nat.zero_le _, Nat.zero_le _⟩ dX2_measure_77 (fun r7 => ?_)
          refine g_ck (fun hT8 => ?_)
          refine g_cast X (ci := 0) rfl wl_X2_184 hT8 dX2_measure_80 ?_
          refine g_astore X [(7, .ref r7), (0, .ref 2), (1, .ref x1), (3, .ref x3), (4, .int x4), (5, .int x5), (6, .int x6)] dX2_measure_83 (by decide) rfl ?_
          refine g_aload_n X dX2_measure_85 rfl 2 rfl ?_
          refine g_aload X dX2_measure_86 0 rfl ?_
          refine g_geti X fa_X2_186 hT8 dX2_measure_88 ?_
          refine g_aload_n X dX2_measure_91 rfl 2 rfl ?_
          refine g_aload X dX2_measure_92 0 rfl ?_
          refine g_geti X fa_X2_186 hT8 dX2_measure_94 ?_
          refine g_ck (fun hT9 => ?_)
          refine g_ild X hT9 rfl dX2_measure_97 (fun v10 => ?_)
          refine g_aload_n X dX2_measure_98 rfl 2 rfl ?_
          refine g_aload X dX2_measure_99 0 rfl ?_
          refine g_geti X fa_X2_192 hT8 dX2_measure_101 ?_
          refine g_ild X hT9 rfl dX2_measure_104 (fun v11 => ?_)
          refine g_iconst (v := 1) X dX2_measure_105 (by decide) ?_
          refine g_iadd X dX2_measure_106 ?_
          refine g_mmin X lk_X2_203 (Nat.le_of_ble_eq_true rfl) ⟨Nat.le_of_ble_eq_true rfl, Nat.le_of_ble_eq_true rfl⟩ ⟨Nat.zero_le _, Nat.zero_le _⟩ dX2_measure_107 ?_
          refine g_isv X hT9 rfl dX2_measure_110 (fun M12 => ?_)
          refine g_aload_n X dX2_measure_111 rfl 2 rfl ?_
          refine g_aload X dX2_measure_112 0 rfl ?_
          refine g_geti X fa_X2_192 hT8 dX2_measure_114 ?_
          refine g_aload_n X dX2_measure_117 rfl 2 rfl ?_
          refine g_aload X dX2_measure_118 0 rfl ?_
          refine g_geti X fa_X2_192 hT8 dX2_measure_120 ?_
          refine g_ild X hT9 rfl dX2_measure_123 (fun v13 => ?_)
          refine g_aload_n X dX2_measure_124 rfl 2 rfl ?_
          refine g_aload X dX2_measure_125 0 rfl ?_
          refine g_geti X fa_X2_186 hT8 dX2_measure_127 ?_
          refine g_ild X hT9 rfl dX2_measure_130 (fun v14 => ?_)
          refine g_iconst (v := 1) X dX2_measure_131 (by decide) ?_
          refine g_iadd X dX2_measure_132 ?_
          refine g_mmin X lk_X2_203 (Nat.le_of_ble_eq_true rfl) ⟨Nat.le_of_ble_eq_true rfl, Nat.le_of_ble_eq_true rfl⟩ ⟨Nat.zero_le _, Nat.zero_le _⟩ dX2_measure_133 ?_
          refine g_isv X hT9 rfl dX2_measure_136 (fun M15 => ?_)
          exact g_sub [1, 2, 3, 4, 5, 6] rfl (hb_137 (b_X2_measure_47 c k35 nf) ih x1 x3 x4 x5 x6 M15)
  have hb_35 : ∀ (nf : Nat) (x1 : Nat) (x3 : Nat) (x4 : Int32) (x5 : Int32) (M : q_MM), GG p l e { frames := 4, cells := 0, slots := 0, locals := 88 } s m args below meth c0 K A ((qTX c), (qLX c), (qPX c), M0) ad false 8 (fun res => MQ below (q_Qc K false ad ((qTX c), (qLX c), (qPX c), M0) ((fun (_ : q_MM) => none) res) ((fun (res : q_MM) => ((qTX c), (qLX c), (qPX c), res)) res) A) args s 0 0 A) (b_X2_measure_35 c nf x1 x3 x4 x5 M) 35 [(0, .ref 2), (1, .ref x1), (3, .ref x3), (4, .int x4), (5, .int x5)] [] ((qTX c), (qLX c), (qPX c), M) 0 0 := by
    intro  nf
    induction nf with
    | zero => intros; exact g_stop
    | succ nf ih =>
      intro x1 x3 x4 x5 M
      rw [b_X2_measure_35]
      refine g_iload X dX2_measure_35 4 rfl ?_
      refine g_aload_n X dX2_measure_37 rfl 0 rfl ?_
      refine g_geti X fa_X2_50 rfl dX2_measure_38 ?_
      refine g_icmp_ge X 149 dX2_measure_41 rfl (fun h16 => ?_) (fun h16 => ?_)
      · exact g_vret X rfl rfl rfl dX2_measure_149
      · refine g_iconst (v := 0) X dX2_measure_44 (by decide) ?_
        refine g_istore X [(6, .int 0), (0, .ref 2), (1, .ref x1), (3, .ref x3), (4, .int x4), (5, .int x5)] dX2_measure_45 (by decide) rfl ?_
        exact g_sub [1, 2, 3, 4, 5, 0] rfl (hb_47 (b_X2_measure_35 c nf) ih q_fu x1 x3 x4 x5 0 M)
  have hb_3 : ∀ (nf : Nat) (x1 : Nat) (x2 : Int32) (x3 : Nat) (x4 : Int32) (x5 : Int32) (M : q_MM), GG p l e { frames := 4, cells := 0, slots := 0, locals := 88 } s m args below meth c0 K A ((qTX c), (qLX c), (qPX c), M0) ad false 8 (fun res => MQ below (q_Qc K false ad ((qTX c), (qLX c), (qPX c), M0) ((fun (_ : q_MM) => none) res) ((fun (res : q_MM) => ((qTX c), (qLX c), (qPX c), res)) res) A) args s 0 0 A) (b_X2_measure_3 c nf x1 x2 x3 x4 x5 M) 3 [(0, .ref 2), (1, .ref x1), (2, .int x2), (3, .ref x3), (4, .int x4), (5, .int x5)] [] ((qTX c), (qLX c), (qPX c), M) 0 0 := by
    intro  nf
    induction nf with
    | zero => intros; exact g_stop
    | succ nf ih =>
      intro x1 x2 x3 x4 x5 M
      rw [b_X2_measure_3]
      refine g_iload X dX2_measure_3 5 rfl ?_
      refine g_aload_n X dX2_measure_5 rfl 1 rfl ?_
      refine g_ck (fun hT17 => ?_)
      refine g_alen X (Or.inl hT17) rfl rfl dX2_measure_6 ?_
      refine g_icmp_ge X 32 dX2_measure_7 rfl (fun h18 => ?_) (fun h18 => ?_)
      · refine g_iconst (v := 1) X dX2_measure_32 (by decide) ?_
        refine g_istore X [(5, .int 1), (0, .ref 2), (1, .ref x1), (2, .int x2), (3, .ref x3), (4, .int x4)] dX2_measure_33 (by decide) rfl ?_
        exact g_sub [1, 2, 4, 5, 0] rfl (hb_35 q_fu x1 x3 x4 1 M)
      · refine g_aload_n X dX2_measure_10 rfl 1 rfl ?_
        refine g_iload X dX2_measure_11 5 rfl ?_
        refine g_iload X dX2_measure_13 5 rfl ?_
        refine g_iload_n X dX2_measure_15 rfl 2 rfl ?_
        refine g_icmp_ne X 23 dX2_measure_16 rfl (fun h19 => ?_) (fun h19 => ?_)
        · refine g_iconst (v := 0) X dX2_measure_19 (by decide) ?_
          refine g_goto X 25 dX2_measure_20 rfl ?_
          exact g_sub [0, 1, 2, 3, 4, 5] rfl (hb_25 (b_X2_measure_3 c nf) ih x1 x2 x3 x4 x5 0 x5 x1 M)
        · refine g_bipush (v := 99) X dX2_measure_23 (by decide) ?_
          exact g_sub [0, 1, 2, 3, 4, 5] rfl (hb_25 (b_X2_measure_3 c nf) ih x1 x2 x3 x4 x5 99 x5 x1 M)
  refine g_sub (lv' := [(0, .ref 2), (1, .ref a1), (2, .int a2), (3, .ref a3), (4, .int a4)]) [0, 1, 2, 3, 4] rfl ?_
  unfold f_X2_measure
  refine g_iconst (v := 0) X dX2_measure_0 (by decide) ?_
  refine g_istore X [(5, .int 0), (0, .ref 2), (1, .ref a1), (2, .int a2), (3, .ref a3), (4, .int a4)] dX2_measure_1 (by decide) rfl ?_
  exact g_sub [1, 2, 3, 4, 5, 0] rfl (hb_3 q_fu a1 a2 a3 a4 0 M0)
set_option maxHeartbeats 4000000 in
set_option maxRecDepth 100000 in
theorem c_X2_doorsBetween (l : Launch) (K : q_KK) (c : Nat → Nat) (M0 : q_MM) (a1 : Nat) (a2 : Int32) (a3 : Int32) (a4 : Int32) : ∀ res, f_X2_doorsBetween c M0 a1 a2 a3 a4 = some res → Mt l yX2_doorsBetween cX2_doorsBetween 5 (some FieldType.int) 5 115 0 0 false K [.ref 2, .ref a1, .int a2, .int a3, .int a4] ((qTX c), (qLX c), (qPX c), M0) (some (.int res.1)) (((qTX c), (qLX c), (qPX c), res.2)) := by
  refine Mt.of (fun (res : Int32 × q_MM) => some (.int res.1)) (fun (res : Int32 × q_MM) => ((qTX c), (qLX c), (qPX c), res.2)) (by decide) (Nat.le_of_ble_eq_true rfl) ?_
  intro p e s m args below meth c0 A ad X hN
  refine g_sub (lv' := [(0, .ref 2), (1, .ref a1), (2, .int a2), (3, .int a3), (4, .int a4)]) [0, 1, 2, 3, 4] rfl ?_
  unfold f_X2_doorsBetween
  refine g_aload_n X dX2_doorsBetween_0 rfl 0 rfl ?_
  refine g_iload_n X dX2_doorsBetween_1 rfl 2 rfl ?_
  refine g_bVi (As := [.int a2]) (rest := []) X (c_X2_hasRoom l K c M0 a2) lk_X2_206 rfl rfl rfl (Nat.le_of_ble_eq_true rfl) ⟨Nat.le_of_ble_eq_true rfl, Nat.le_of_ble_eq_true rfl⟩ ⟨Nat.zero_le _, Nat.zero_le _⟩ dX2_doorsBetween_2 (fun r1 => ?_)
  refine g_if_eq X 24 dX2_doorsBetween_5 rfl (fun h2 => ?_) (fun h2 => ?_)
  · refine g_bipush (v := 99) X dX2_doorsBetween_24 (by decide) ?_
    exact g_iret X rfl rfl rfl dX2_doorsBetween_26
  · refine g_aload_n X dX2_doorsBetween_8 rfl 0 rfl ?_
    refine g_iload_n X dX2_doorsBetween_9 rfl 2 rfl ?_
    refine g_bVi (As := [.int a2]) (rest := []) X (c_X2_isShut l K c M0 a2) lk_X2_189 rfl rfl rfl (Nat.le_of_ble_eq_true rfl) ⟨Nat.le_of_ble_eq_true rfl, Nat.le_of_ble_eq_true rfl⟩ ⟨Nat.zero_le _, Nat.zero_le _⟩ dX2_doorsBetween_10 (fun r3 => ?_)
    refine g_if_ne X 24 dX2_doorsBetween_13 rfl (fun h4 => ?_) (fun h4 => ?_)
    · refine g_aload_n X dX2_doorsBetween_16 rfl 0 rfl ?_
      refine g_iload_n X dX2_doorsBetween_17 rfl 3 rfl ?_
      refine g_bVi (As := [.int a3]) (rest := []) X (c_X2_isShut l K c M0 a3) lk_X2_189 rfl rfl rfl (Nat.le_of_ble_eq_true rfl) ⟨Nat.le_of_ble_eq_true rfl, Nat.le_of_ble_eq_true rfl⟩ ⟨Nat.zero_le _, Nat.zero_le _⟩ dX2_doorsBetween_18 (fun r5 => ?_)
      refine g_if_eq X 27 dX2_doorsBetween_21 rfl (fun h6 => ?_) (fun h6 => ?_)
      · refine g_aload_n X dX2_doorsBetween_27 rfl 0 rfl ?_
        refine g_aload_n X dX2_doorsBetween_28 rfl 0 rfl ?_
        refine g_getr X fa_X2_34 rfl rfl dX2_doorsBetween_29 ?_
        refine g_iload_n X dX2_doorsBetween_32 rfl 3 rfl ?_
        refine g_aload_n X dX2_doorsBetween_33 rfl 1 rfl ?_
        refine g_iload X dX2_doorsBetween_34 4 rfl ?_
        refine g_bVv (As := [.ref 19, .int a3, .ref a1, .int a4]) (rest := []) X (c_X2_measure l K c M0 19 a3 a1 a4) lk_X2_209 rfl rfl rfl (Nat.le_of_ble_eq_true rfl) ⟨Nat.le_of_ble_eq_true rfl, Nat.le_of_ble_eq_true rfl⟩ ⟨Nat.zero_le _, Nat.zero_le _⟩ dX2_doorsBetween_36 (fun r7 => ?_)
        refine g_aload_n X dX2_doorsBetween_39 rfl 0 rfl ?_
        refine g_getr X fa_X2_34 rfl rfl dX2_doorsBetween_40 ?_
        refine g_iload_n X dX2_doorsBetween_43 rfl 2 rfl ?_
        refine g_ild X rfl rfl dX2_doorsBetween_44 (fun v8 => ?_)
        exact g_iret X rfl rfl rfl dX2_doorsBetween_45
      · refine g_bipush (v := 99) X dX2_doorsBetween_24 (by decide) ?_
        exact g_iret X rfl rfl rfl dX2_doorsBetween_26
    · refine g_bipush (v := 99) X dX2_doorsBetween_24 (by decide) ?_
      exact g_iret X rfl rfl rfl dX2_doorsBetween_26
set_option maxHeartbeats 4000000 in
set_option maxRecDepth 100000 in
theorem c_X2_nextRoom (l : Launch) (K : q_KK) (c : Nat → Nat) (M : q_MM) (a1 : Nat) (a2 : Int32) (a3 : Int32) : ∀ res, f_X2_nextRoom c M a1 a2 a3 = some res → Mt l yX2_nextRoom cX2_nextRoom 9 (some FieldType.int) 4 88 0 0 false K [.ref 2, .ref a1, .int a2, .int a3] ((qTX c), (qLX c), (qPX c), M) (some (.int res)) (((qTX c), (qLX c), (qPX c), M)) := by
  refine Mt.of (fun (res : Int32) => some (.int res)) (fun (_ : Int32) => ((qTX c), (qLX c), (qPX c), M)) (by decide) (Nat.le_of_ble_eq_true rfl) ?_
  intro p e s m args below meth c0 A ad X hN
  have hb_126 : ∀ (k6 : Nat → Int32 → Int32 → Int32 → Int32 → Option (Int32)) (hk6 : ∀ (x1 : Nat) (x2 : Int32) (x3 : Int32) (x4 : Int32) (x5 : Int32), GG p l e { frames := 4, cells := 0, slots := 0, locals := 88 } s m args below meth c0 K A ((qTX c), (qLX c), (qPX c), M) ad false 9 (fun res => MQ below (q_Qc K false ad ((qTX c), (qLX c), (qPX c), M) ((fun (res : Int32) => some (.int res)) res) ((fun (_ : Int32) => ((qTX c), (qLX c), (qPX c), M)) res) A) args s 0 0 A) (k6 x1 x2 x3 x4 x5) 6 [(0, .ref 2), (1, .ref x1), (2, .int x2), (3, .int x3), (4, .int x4), (5, .int x5)] [] ((qTX c), (qLX c), (qPX c), M) 0 0) (x1 : Nat) (x2 : Int32) (x3 : Int32) (x4 : Int32) (x5 : Int32), GG p l e { frames := 4, cells := 0, slots := 0, locals := 88 } s m args below meth c0 K A ((qTX c), (qLX c), (qPX c), M) ad false 9 (fun res => MQ below (q_Qc K false ad ((qTX c), (qLX c), (qPX c), M) ((fun (res : Int32) => some (.int res)) res) ((fun (_ : Int32) => ((qTX c), (qLX c), (qPX c), M)) res) A) args s 0 0 A) (b_X2_nextRoom_126 c M k6 x1 x2 x3 x4 x5) 126 [(0, .ref 2), (1, .ref x1), (2, .int x2), (3, .int x3), (4, .int x4), (5, .int x5)] [] ((qTX c), (qLX c), (qPX c), M) 0 0 := by
    intro k6 hk6 x1 x2 x3 x4 x5
    unfold b_X2_nextRoom_126
    refine g_iinc (v := 1) X [(5, .int (x5 + 1)), (0, .ref 2), (1, .ref x1), (2, .int x2), (3, .int x3), (4, .int x4)] 5 dX2_nextRoom_126 rfl (by decide) (by decide) rfl ?_
    refine g_goto X 6 dX2_nextRoom_129 rfl ?_
    exact g_sub [1, 2, 3, 4, 5, 0] rfl (hk6 x1 x2 x3 x4 (x5 + 1))
  have hb_122 : ∀ (k6 : Nat → Int32 → Int32 → Int32 → Int32 → Option (Int32)) (hk6 : ∀ (x1 : Nat) (x2 : Int32) (x3 : Int32) (x4 : Int32) (x5 : Int32), GG p l e { frames := 4, cells := 0, slots := 0, locals := 88 } s m args below meth c0 K A ((qTX c), (qLX c), (qPX c), M) ad false 9 (fun res => MQ below (q_Qc K false ad ((qTX c), (qLX c), (qPX c), M) ((fun (res : Int32) => some (.int res)) res) ((fun (_ : Int32) => ((qTX c), (qLX c), (qPX c), M)) res) A) args s 0 0 A) (k6 x1 x2 x3 x4 x5) 6 [(0, .ref 2), (1, .ref x1), (2, .int x2), (3, .int x3), (4, .int x4), (5, .int x5)] [] ((qTX c), (qLX c), (qPX c), M) 0 0) (x1 : Nat) (x2 : Int32) (x3 : Int32) (x5 : Int32) (x7 : Int32), GG p l e { frames := 4, cells := 0, slots := 0, locals := 88 } s m args below meth c0 K A ((qTX c), (qLX c), (qPX c), M) ad false 9 (fun res => MQ below (q_Qc K false ad ((qTX c), (qLX c), (qPX c), M) ((fun (res : Int32) => some (.int res)) res) ((fun (_ : Int32) => ((qTX c), (qLX c), (qPX c), M)) res) A) args s 0 0 A) (b_X2_nextRoom_122 c M k6 x1 x2 x3 x5 x7) 122 [(0, .ref 2), (1, .ref x1), (2, .int x2), (3, .int x3), (5, .int x5), (7, .int x7)] [] ((qTX c), (qLX c), (qPX c), M) 0 0 := by
    intro k6 hk6 x1 x2 x3 x5 x7
    unfold b_X2_nextRoom_122
    refine g_iload X dX2_nextRoom_122 5 rfl ?_
    refine g_istore X [(4, .int x7), (0, .ref 2), (1, .ref x1), (2, .int x2), (3, .int x3), (5, .int x5), (7, .int x7)] dX2_nextRoom_124 (by decide) rfl ?_
    exact g_sub [1, 2, 3, 4, 0, 5] rfl (hb_126 k6 hk6 x1 x2 x3 x7 x5)
  have hb_102 : ∀ (k6 : Nat → Int32 → Int32 → Int32 → Int32 → Option (Int32)) (hk6 : ∀ (x1 : Nat) (x2 : Int32) (x3 : Int32) (x4 : Int32) (x5 : Int32), GG p l e { frames := 4, cells := 0, slots := 0, locals := 88 } s m args below meth c0 K A ((qTX c), (qLX c), (qPX c), M) ad false 9 (fun res => MQ below (q_Qc K false ad ((qTX c), (qLX c), (qPX c), M) ((fun (res : Int32) => some (.int res)) res) ((fun (_ : Int32) => ((qTX c), (qLX c), (qPX c), M)) res) A) args s 0 0 A) (k6 x1 x2 x3 x4 x5) 6 [(0, .ref 2), (1, .ref x1), (2, .int x2), (3, .int x3), (4, .int x4), (5, .int x5)] [] ((qTX c), (qLX c), (qPX c), M) 0 0) (x1 : Nat) (x2 : Int32) (x3 : Int32) (x4 : Int32) (x5 : Int32) (x7 : Int32) (s0 : Int32), GG p l e { frames := 4, cells := 0, slots := 0, locals := 88 } s m args below meth c0 K A ((qTX c), (qLX c), (qPX c), M) ad false 9 (fun res => MQ below (q_Qc K false ad ((qTX c), (qLX c), (qPX c), M) ((fun (res : Int32) => some (.int res)) res) ((fun (_ : Int32) => ((qTX c), (qLX c), (qPX c), M)) res) A) args s 0 0 A) (b_X2_nextRoom_102 c M k6 x1 x2 x3 x4 x5 x7 s0) 102 [(0, .ref 2), (1, .ref x1), (2, .int x2), (3, .int x3), (4, .int x4), (5, .int x5), (7, .int x7)] [.int s0] ((qTX c), (qLX c), (qPX c), M) 0 0 := by
    intro k6 hk6 x1 x2 x3 x4 x5 x7 s0
    unfold b_X2_nextRoom_102
    refine g_istore X [(8, .int s0), (0, .ref 2), (1, .ref x1), (2, .int x2), (3, .int x3), (4, .int x4), (5, .int x5), (7, .int x7)] dX2_nextRoom_102 (by decide) rfl ?_
    refine g_iload X dX2_nextRoom_104 0 rfl ?_
    refine g_if_eq X 126 dX2_nextRoom_106 rfl (fun h1 => ?_) (fun h1 => ?_)
    · exact g_sub [1, 2, 3, 4, 5, 6] rfl (hb_126 k6 hk6 x1 x2 x3 x4 x5)
    · refine g_iload X dX2_nextRoom_109 5 rfl ?_
      refine g_iconst (v := (-1)) X dX2_nextRoom_111 (by decide) ?_
      refine g_icmp_eq X 122 dX2_nextRoom_112 rfl (fun h2 => ?_) (fun h2 => ?_)
      · exact g_sub [1, 2, 3, 4, 6, 7] rfl (hb_122 k6 hk6 x1 x2 x3 x5 x7)
      · refine g_iload X dX2_nextRoom_115 7 rfl ?_
        refine g_iload X dX2_nextRoom_117 5 rfl ?_
        refine g_icmp_ge X 126 dX2_nextRoom_119 rfl (fun h3 => ?_) (fun h3 => ?_)
        · exact g_sub [1, 2, 3, 4, 5, 6] rfl (hb_126 k6 hk6 x1 x2 x3 x4 x5)
        · exact g_sub [1, 2, 3, 4, 6, 7] rfl (hb_122 k6 hk6 x1 x2 x3 x5 x7)
  have hb_101 : ∀ (k6 : Nat → Int32 → Int32 → Int32 → Int32 → Option (Int32)) (hk6 : ∀ (x1 : Nat) (x2 : Int32) (x3 : Int32) (x4 : Int32) (x5 : Int32), GG p l e { frames := 4, cells := 0, slots := 0, locals := 88 } s m args below meth c0 K A ((qTX c), (qLX c), (qPX c), M) ad false 9 (fun res => MQ below (q_Qc K false ad ((qTX c), (qLX c), (qPX c), M) ((fun (res : Int32) => some (.int res)) res) ((fun (_ : Int32) => ((qTX c), (qLX c), (qPX c), M)) res) A) args s 0 0 A) (k6 x1 x2 x3 x4 x5) 6 [(0, .ref 2), (1, .ref x1), (2, .int x2), (3, .int x3), (4, .int x4), (5, .int x5)] [] ((qTX c), (qLX c), (qPX c), M) 0 0) (x1 : Nat) (x2 : Int32) (x3 : Int32) (x4 : Int32) (x5 : Int32) (x7 : Int32), GG p l e { frames := 4, cells := 0, slots := 0, locals := 88 } s m args below meth c0 K A ((qTX c), (qLX c), (qPX c), M) ad false 9 (fun res => MQ below (q_Qc K false ad ((qTX c), (qLX c), (qPX c), M) ((fun (res : Int32) => some (.int res)) res) ((fun (_ : Int32) => ((qTX c), (qLX c), (qPX c), M)) res) A) args s 0 0 A) (b_X2_nextRoom_101 c M k6 x1 x2 x3 x4 x5 x7) 101 [(0, .ref 2), (1, .ref x1), (2, .int x2), (3, .int x3), (4, .int x4), (5, .int x5), (7, .int x7)] [] ((qTX c), (qLX c), (qPX c), M) 0 0 := by
    intro k6 hk6 x1 x2 x3 x4 x5 x7
    unfold b_X2_nextRoom_101
    refine g_iconst (v := 0) X dX2_nextRoom_101 (by decide) ?_
    exact g_sub [0, 1, 2, 3, 4, 5, 6] rfl (hb_102 k6 hk6 x1 x2 x3 x4 x5 x7 0)
  have hb_67 : ∀ (k6 : Nat → Int32 → Int32 → Int32 → Int32 → Option (Int32)) (hk6 : ∀ (x1 : Nat) (x2 : Int32) (x3 : Int32) (x4 : Int32) (x5 : Int32), GG p l e { frames := 4, cells := 0, slots := 0, locals := 88 } s m args below meth c0 K A ((qTX c), (qLX c), (qPX c), M) ad false 9 (fun res => MQ below (q_Qc K false ad ((qTX c), (qLX c), (qPX c), M) ((fun (res : Int32) => some (.int res)) res) ((fun (_ : Int32) => ((qTX c), (qLX c), (qPX c), M)) res) A) args s 0 0 A) (k6 x1 x2 x3 x4 x5) 6 [(0, .ref 2), (1, .ref x1), (2, .int x2), (3, .int x3), (4, .int x4), (5, .int x5)] [] ((qTX c), (qLX c), (qPX c), M) 0 0) (x1 : Nat) (x2 : Int32) (x3 : Int32) (x4 : Int32) (x5 : Int32) (s0 : Int32), GG p l e { frames := 4, cells := 0, slots := 0, locals := 88 } s m args below meth c0 K A ((qTX c), (qLX c), (qPX c), M) ad false 9 (fun res => MQ below (q_Qc K false ad ((qTX c), (qLX c), (qPX c), M) ((fun (res : Int32) => some (.int res)) res) ((fun (_ : Int32) => ((qTX c), (qLX c), (qPX c), M)) res) A) args s 0 0 A) (b_X2_nextRoom_67 c M k6 x1 x2 x3 x4 x5 s0) 67 [(0, .ref 2), (1, .ref x1), (2, .int x2), (3, .int x3), (4, .int x4), (5, .int x5)] [.int s0] ((qTX c), (qLX c), (qPX c), M) 0 0 := by
    intro k6 hk6 x1 x2 x3 x4 x5 s0
    unfold b_X2_nextRoom_67
    refine g_istore X [(7, .int s0), (0, .ref 2), (1, .ref x1), (2, .int x2), (3, .int x3), (4, .int x4), (5, .int x5)] dX2_nextRoom_67 (by decide) rfl ?_
    refine g_iload X dX2_nextRoom_69 0 rfl ?_
    refine g_iconst (v := (-1)) X dX2_nextRoom_71 (by decide) ?_
    refine g_icmp_eq X 101 dX2_nextRoom_72 rfl (fun h4 => ?_) (fun h4 => ?_)
    · exact g_sub [1, 2, 3, 4, 5, 6, 0] rfl (hb_101 k6 hk6 x1 x2 x3 x4 x5 s0)
    · refine g_aload_n X dX2_nextRoom_75 rfl 1 rfl ?_
      refine g_getr X fa_X2_34 rfl rfl dX2_nextRoom_76 ?_
      refine g_iload X dX2_nextRoom_79 0 rfl ?_
      refine g_ild X rfl rfl dX2_nextRoom_81 (fun v5 => ?_)
      refine g_iload_n X dX2_nextRoom_82 rfl 4 rfl ?_
      refine g_icmp_ne X 101 dX2_nextRoom_83 rfl (fun h6 => ?_) (fun h6 => ?_)
      · refine g_aload_n X dX2_nextRoom_86 rfl 1 rfl ?_
        refine g_aload_n X dX2_nextRoom_87 rfl 2 rfl ?_
        refine g_iload X dX2_nextRoom_88 6 rfl ?_
        refine g_iconst (v := (-1)) X dX2_nextRoom_90 (by decide) ?_
        refine g_bVi (As := [.ref x1, .int x5, .int (-1)]) (rest := []) X (c_X2_goesThrough l K c M x1 x5 (-1)) lk_X2_199 rfl rfl rfl (Nat.le_of_ble_eq_true rfl) ⟨Nat.le_of_ble_eq_true rfl, Nat.le_of_ble_eq_true rfl⟩ ⟨Nat.zero_le _, Nat.zero_le _⟩ dX2_nextRoom_91 (fun r7 => ?_)
        refine g_if_eq X 101 dX2_nextRoom_94 rfl (fun h8 => ?_) (fun h8 => ?_)
        · exact g_sub [1, 2, 3, 4, 5, 6, 0] rfl (hb_101 k6 hk6 x1 x2 x3 x4 x5 s0)
        · refine g_iconst (v := 1) X dX2_nextRoom_97 (by decide) ?_
          refine g_goto X 102 dX2_nextRoom_98 rfl ?_
          exact g_sub [1, 2, 3, 4, 5, 6, 0] rfl (hb_102 k6 hk6 x1 x2 x3 x4 x5 s0 1)
      · exact g_sub [1, 2, 3, 4, 5, 6, 0] rfl (hb_101 k6 hk6 x1 x2 x3 x4 x5 s0)
  have hb_6 : ∀ (nf : Nat) (x1 : Nat) (x2 : Int32) (x3 : Int32) (x4 : Int32) (x5 : Int32), GG p l e { frames := 4, cells := 0, slots := 0, locals := 88 } s m args below meth c0 K A ((qTX c), (qLX c), (qPX c), M) ad false 9 (fun res => MQ below (q_Qc K false ad ((qTX c), (qLX c), (qPX c), M) ((fun (res : Int32) => some (.int res)) res) ((fun (_ : Int32) => ((qTX c), (qLX c), (qPX c), M)) res) A) args s 0 0 A) (b_X2_nextRoom_6 c M nf x1 x2 x3 x4 x5) 6 [(0, .ref 2), (1, .ref x1), (2, .int x2), (3, .int x3), (4, .int x4), (5, .int x5)] [] ((qTX c), (qLX c), (qPX c), M) 0 0 := by
    intro  nf
    induction nf with
    | zero => intros; exact g_stop
    | succ nf ih =>
      intro x1 x2 x3 x4 x5
      rw [b_X2_nextRoom_6]
      refine g_iload X dX2_nextRoom_6 5 rfl ?_
      refine g_aload_n X dX2_nextRoom_8 rfl 0 rfl ?_
      refine g_getr X fa_X2_12 rfl rfl dX2_nextRoom_9 ?_
      refine g_bVi (As := []) (rest := [.int x5]) X (c_Jx4a65c_size_8abf5 l K (qTX c) (qLX c) (qPX c) M 13) lk_X2_54 rfl rfl rfl (Nat.le_of_ble_eq_true rfl) ⟨Nat.le_of_ble_eq_true rfl, Nat.le_of_ble_eq_true rfl⟩ ⟨Nat.zero_le _, Nat.zero_le _⟩ dX2_nextRoom_12 (fun r9 => ?_)
      refine g_icmp_ge X 132 dX2_nextRoom_15 rfl (fun h10 => ?_) (fun h10 => ?_)
      · refine g_iload X dX2_nextRoom_132 4 rfl ?_
        exact g_iret X rfl rfl rfl dX2_nextRoom_134
      · refine g_aload_n X dX2_nextRoom_18 rfl 0 rfl ?_
        refine g_getr X fa_X2_12 rfl rfl dX2_nextRoom_19 ?_
        refine g_iload X dX2_nextRoom_22 5 rfl ?_
        refine g_bVr (As := [.int x5]) (rest := []) X (c_Jx4a65c_get_915e3 l K (qTX c) (qLX c) (qPX c) M 13 x5) lk_X2_58 rfl rfl rfl (Nat.le_of_ble_eq_true rfl) ⟨Nat.le_of_ble_eq_true rfl, Nat.le_of_ble_eq_true rfl⟩ ⟨Nat.zero_le _, Nat.zero_le _⟩ dX2_nextRoom_24 (fun r11 => ?_)
        refine g_ck (fun hT12 => ?_)
        refine g_cast X (ci := 0) rfl wl_X2_184 hT12 dX2_nextRoom_27 ?_
        refine g_astore X [(6, .ref r11), (0, .ref 2), (1, .ref x1), (2, .int x2), (3, .int x3), (4, .int x4), (5, .int x5)] dX2_nextRoom_30 (by decide) rfl ?_
        refine g_aload X dX2_nextRoom_32 0 rfl ?_
        refine g_geti X fa_X2_186 hT12 dX2_nextRoom_34 ?_
        refine g_iload_n X dX2_nextRoom_37 rfl 3 rfl ?_
        refine g_icmp_ne X 49 dX2_nextRoom_38 rfl (fun h13 => ?_) (fun h13 => ?_)
        · refine g_aload X dX2_nextRoom_41 0 rfl ?_
          refine g_geti X fa_X2_192 hT12 dX2_nextRoom_43 ?_
          refine g_goto X 67 dX2_nextRoom_46 rfl ?_
          exact g_sub [1, 2, 3, 4, 5, 6] rfl (hb_67 (b_X2_nextRoom_6 c M nf) ih x1 x2 x3 x4 x5 (M r11 1))
        · refine g_aload X dX2_nextRoom_49 0 rfl ?_
          refine g_geti X fa_X2_192 hT12 dX2_nextRoom_51 ?_
          refine g_iload_n X dX2_nextRoom_54 rfl 3 rfl ?_
          refine g_icmp_ne X 66 dX2_nextRoom_55 rfl (fun h14 => ?_) (fun h14 => ?_)
          · refine g_aload X dX2_nextRoom_58 0 rfl ?_
            refine g_geti X fa_X2_186 hT12 dX2_nextRoom_60 ?_
            refine g_goto X 67 dX2_nextRoom_63 rfl ?_
            exact g_sub [1, 2, 3, 4, 5, 6] rfl (hb_67 (b_X2_nextRoom_6 c M nf) ih x1 x2 x3 x4 x5 (M r11 0))
          · refine g_iconst (v := (-1)) X dX2_nextRoom_66 (by decide) ?_
            exact g_sub [1, 2, 3, 4, 5, 6] rfl (hb_67 (b_X2_nextRoom_6 c M nf) ih x1 x2 x3 x4 x5 (-1))
  refine g_sub (lv' := [(0, .ref 2), (1, .ref a1), (2, .int a2), (3, .int a3)]) [0, 1, 2, 3] rfl ?_
  unfold f_X2_nextRoom
  refine g_iconst (v := (-1)) X dX2_nextRoom_0 (by decide) ?_
  refine g_istore X [(4, .int (-1)), (0, .ref 2), (1, .ref a1), (2, .int a2), (3, .int a3)] dX2_nextRoom_1 (by decide) rfl ?_
  refine g_iconst (v := 0) X dX2_nextRoom_3 (by decide) ?_
  refine g_istore X [(5, .int 0), (4, .int (-1)), (0, .ref 2), (1, .ref a1), (2, .int a2), (3, .int a3)] dX2_nextRoom_4 (by decide) rfl ?_
  exact g_sub [2, 3, 4, 5, 1, 0] rfl (hb_6 q_fu a1 a2 a3 (-1) 0)
set_option maxHeartbeats 4000000 in
set_option maxRecDepth 100000 in
theorem c_X2_wallsWith (l : Launch) (K : q_KK) (c : Nat → Nat) (M : q_MM) (a1 : Int32) : ∀ res, f_X2_wallsWith c M a1 = some res → Mt l yX2_wallsWith cX2_wallsWith 5 (some FieldType.int) 5 106 0 0 false K [.ref 2, .int a1] ((qTX c), (qLX c), (qPX c), M) (some (.int res)) (((qTX c), (qLX c), (qPX c), M)) := by
  refine Mt.of (fun (res : Int32) => some (.int res)) (fun (_ : Int32) => ((qTX c), (qLX c), (qPX c), M)) (by decide) (Nat.le_of_ble_eq_true rfl) ?_
  intro p e s m args below meth c0 A ad X hN
  have hb_65 : ∀ (k4 : Int32 → Int32 → Int32 → Option (Int32)) (hk4 : ∀ (x1 : Int32) (x2 : Int32) (x3 : Int32), GG p l e { frames := 5, cells := 0, slots := 0, locals := 106 } s m args below meth c0 K A ((qTX c), (qLX c), (qPX c), M) ad false 5 (fun res => MQ below (q_Qc K false ad ((qTX c), (qLX c), (qPX c), M) ((fun (res : Int32) => some (.int res)) res) ((fun (_ : Int32) => ((qTX c), (qLX c), (qPX c), M)) res) A) args s 0 0 A) (k4 x1 x2 x3) 4 [(0, .ref 2), (1, .int x1), (2, .int x2), (3, .int x3)] [] ((qTX c), (qLX c), (qPX c), M) 0 0) (x1 : Int32) (x2 : Int32) (x3 : Int32), GG p l e { frames := 5, cells := 0, slots := 0, locals := 106 } s m args below meth c0 K A ((qTX c), (qLX c), (qPX c), M) ad false 5 (fun res => MQ below (q_Qc K false ad ((qTX c), (qLX c), (qPX c), M) ((fun (res : Int32) => some (.int res)) res) ((fun (_ : Int32) => ((qTX c), (qLX c), (qPX c), M)) res) A) args s 0 0 A) (b_X2_wallsWith_65 c M k4 x1 x2 x3) 65 [(0, .ref 2), (1, .int x1), (2, .int x2), (3, .int x3)] [] ((qTX c), (qLX c), (qPX c), M) 0 0 := by
    intro k4 hk4 x1 x2 x3
    unfold b_X2_wallsWith_65
    refine g_iinc (v := 1) X [(3, .int (x3 + 1)), (0, .ref 2), (1, .int x1), (2, .int x2)] 3 dX2_wallsWith_65 rfl (by decide) (by decide) rfl ?_
    refine g_goto X 4 dX2_wallsWith_68 rfl ?_
    exact g_sub [1, 2, 3, 0] rfl (hk4 x1 x2 (x3 + 1))
  have hb_4 : ∀ (nf : Nat) (x1 : Int32) (x2 : Int32) (x3 : Int32), GG p l e { frames := 5, cells := 0, slots := 0, locals := 106 } s m args below meth c0 K A ((qTX c), (qLX c), (qPX c), M) ad false 5 (fun res => MQ below (q_Qc K false ad ((qTX c), (qLX c), (qPX c), M) ((fun (res : Int32) => some (.int res)) res) ((fun (_ : Int32) => ((qTX c), (qLX c), (qPX c), M)) res) A) args s 0 0 A) (b_X2_wallsWith_4 c M nf x1 x2 x3) 4 [(0, .ref 2), (1, .int x1), (2, .int x2), (3, .int x3)] [] ((qTX c), (qLX c), (qPX c), M) 0 0 := by
    intro  nf
    induction nf with
    | zero => intros; exact g_stop
    | succ nf ih =>
      intro x1 x2 x3
      rw [b_X2_wallsWith_4]
      refine g_iload_n X dX2_wallsWith_4 rfl 3 rfl ?_
      refine g_aload_n X dX2_wallsWith_5 rfl 0 rfl ?_
      refine g_getr X fa_X2_21 rfl rfl dX2_wallsWith_6 ?_
      refine g_bVi (As := []) (rest := [.int x3]) X (c_Jx4a65c_size_8abf5 l K (qTX c) (qLX c) (qPX c) M 15) lk_X2_54 rfl rfl rfl (Nat.le_of_ble_eq_true rfl) ⟨Nat.le_of_ble_eq_true rfl, Nat.le_of_ble_eq_true rfl⟩ ⟨Nat.zero_le _, Nat.zero_le _⟩ dX2_wallsWith_9 (fun r1 => ?_)
      refine g_icmp_ge X 71 dX2_wallsWith_12 rfl (fun h2 => ?_) (fun h2 => ?_)
      · refine g_iload_n X dX2_wallsWith_71 rfl 2 rfl ?_
        exact g_iret X rfl rfl rfl dX2_wallsWith_72
      · refine g_aload_n X dX2_wallsWith_15 rfl 0 rfl ?_
        refine g_aload_n X dX2_wallsWith_16 rfl 0 rfl ?_
        refine g_getr X fa_X2_21 rfl rfl dX2_wallsWith_17 ?_
        refine g_iload_n X dX2_wallsWith_20 rfl 3 rfl ?_
        refine g_bVr (As := [.int x3]) (rest := [.ref 2]) X (c_Jx4a65c_get_915e3 l K (qTX c) (qLX c) (qPX c) M 15 x3) lk_X2_58 rfl rfl rfl (Nat.le_of_ble_eq_true rfl) ⟨Nat.le_of_ble_eq_true rfl, Nat.le_of_ble_eq_true rfl⟩ ⟨Nat.zero_le _, Nat.zero_le _⟩ dX2_wallsWith_21 (fun r3 => ?_)
        refine g_ck (fun hT4 => ?_)
        refine g_cast X (ci := 5) rfl wl_X2_64 hT4 dX2_wallsWith_24 ?_
        refine g_bVr (As := [.ref r3]) (rest := []) X (c_X2_wallOf l K c M r3) lk_X2_155 rfl rfl rfl (Nat.le_of_ble_eq_true rfl) ⟨Nat.le_of_ble_eq_true rfl, Nat.le_of_ble_eq_true rfl⟩ ⟨Nat.zero_le _, Nat.zero_le _⟩ dX2_wallsWith_27 (fun r5 => ?_)
        refine g_astore X [(4, .ref r5), (0, .ref 2), (1, .int x1), (2, .int x2), (3, .int x3)] dX2_wallsWith_30 (by decide) rfl ?_
        refine g_aload X dX2_wallsWith_32 0 rfl ?_
        refine g_ifnull X 65 dX2_wallsWith_34 rfl (fun h6 => ?_) (fun h6 => ?_)
        · exact g_sub [1, 2, 3, 4] rfl (hb_65 (b_X2_wallsWith_4 c M nf) ih x1 x2 x3)
        · refine g_aload_n X dX2_wallsWith_37 rfl 1 rfl ?_
          refine g_getr X fa_X2_21 rfl rfl dX2_wallsWith_38 ?_
          refine g_iload_n X dX2_wallsWith_41 rfl 4 rfl ?_
          refine g_bVr (As := [.int x3]) (rest := []) X (c_Jx4a65c_get_915e3 l K (qTX c) (qLX c) (qPX c) M 15 x3) lk_X2_58 rfl rfl rfl (Nat.le_of_ble_eq_true rfl) ⟨Nat.le_of_ble_eq_true rfl, Nat.le_of_ble_eq_true rfl⟩ ⟨Nat.zero_le _, Nat.zero_le _⟩ dX2_wallsWith_42 (fun r7 => ?_)
          refine g_ck (fun hT8 => ?_)
          refine g_cast X (ci := 5) rfl wl_X2_64 hT8 dX2_wallsWith_45 ?_
          refine g_geti X fa_X2_213 hT8 dX2_wallsWith_48 ?_
          refine g_iload_n X dX2_wallsWith_51 rfl 2 rfl ?_
          refine g_icmp_lt X 65 dX2_wallsWith_52 rfl (fun h9 => ?_) (fun h9 => ?_)
          · exact g_sub [1, 2, 3, 4] rfl (hb_65 (b_X2_wallsWith_4 c M nf) ih x1 x2 x3)
          · refine g_iload_n X dX2_wallsWith_55 rfl 3 rfl ?_
            refine g_iconst (v := 1) X dX2_wallsWith_56 (by decide) ?_
            refine g_aload X dX2_wallsWith_57 0 rfl ?_
            refine g_ck (fun hT10 => ?_)
            refine g_geti X fa_X2_104 hT10 dX2_wallsWith_59 ?_
            refine g_ishl X dX2_wallsWith_62 ?_
            refine g_ior X dX2_wallsWith_63 ?_
            refine g_isn X (fun v11 => [(2, .int v11), (4, .ref r5), (0, .ref 2), (1, .int x1), (3, .int x3)]) dX2_wallsWith_64 rfl (by decide) (fun _ => rfl) (fun v11 => ?_)
            exact g_sub [2, 3, 0, 4] rfl (hb_65 (b_X2_wallsWith_4 c M nf) ih x1 v11 x3)
  refine g_sub (lv' := [(0, .ref 2), (1, .int a1)]) [0, 1] rfl ?_
  unfold f_X2_wallsWith
  refine g_iconst (v := 0) X dX2_wallsWith_0 (by decide) ?_
  refine g_istore_n X [(2, .int 0), (0, .ref 2), (1, .int a1)] dX2_wallsWith_1 rfl (by decide) rfl ?_
  refine g_iconst (v := 0) X dX2_wallsWith_2 (by decide) ?_
  refine g_istore_n X [(3, .int 0), (2, .int 0), (0, .ref 2), (1, .int a1)] dX2_wallsWith_3 rfl (by decide) rfl ?_
  exact g_sub [2, 3, 1, 0] rfl (hb_4 q_fu a1 0 0)
set_option maxHeartbeats 4000000 in
set_option maxRecDepth 100000 in
theorem c_X2_areSeen (l : Launch) (K : q_KK) (c : Nat → Nat) (M : q_MM) (a1 : Int32) (a2 : Int32) : ∀ res, f_X2_areSeen c M a1 a2 = some res → Mt l yX2_areSeen cX2_areSeen 4 (some FieldType.boolean) 3 64 0 0 false K [.ref 2, .int a1, .int a2] ((qTX c), (qLX c), (qPX c), M) (some (.int res)) (((qTX c), (qLX c), (qPX c), M)) := by
  refine Mt.of (fun (res : Int32) => some (.int res)) (fun (_ : Int32) => ((qTX c), (qLX c), (qPX c), M)) (by decide) (Nat.le_of_ble_eq_true rfl) ?_
  intro p e s m args below meth c0 A ad X hN
  have hb_42 : ∀ (k2 : Int32 → Int32 → Int32 → Option (Int32)) (hk2 : ∀ (x1 : Int32) (x2 : Int32) (x3 : Int32), GG p l e { frames := 3, cells := 0, slots := 0, locals := 64 } s m args below meth c0 K A ((qTX c), (qLX c), (qPX c), M) ad false 4 (fun res => MQ below (q_Qc K false ad ((qTX c), (qLX c), (qPX c), M) ((fun (res : Int32) => some (.int res)) res) ((fun (_ : Int32) => ((qTX c), (qLX c), (qPX c), M)) res) A) args s 0 0 A) (k2 x1 x2 x3) 2 [(0, .ref 2), (1, .int x1), (2, .int x2), (3, .int x3)] [] ((qTX c), (qLX c), (qPX c), M) 0 0) (x1 : Int32) (x2 : Int32) (x3 : Int32), GG p l e { frames := 3, cells := 0, slots := 0, locals := 64 } s m args below meth c0 K A ((qTX c), (qLX c), (qPX c), M) ad false 4 (fun res => MQ below (q_Qc K false ad ((qTX c), (qLX c), (qPX c), M) ((fun (res : Int32) => some (.int res)) res) ((fun (_ : Int32) => ((qTX c), (qLX c), (qPX c), M)) res) A) args s 0 0 A) (b_X2_areSeen_42 c M k2 x1 x2 x3) 42 [(0, .ref 2), (1, .int x1), (2, .int x2), (3, .int x3)] [] ((qTX c), (qLX c), (qPX c), M) 0 0 := by
    intro k2 hk2 x1 x2 x3
    unfold b_X2_areSeen_42
    refine g_iinc (v := 1) X [(3, .int (x3 + 1)), (0, .ref 2), (1, .int x1), (2, .int x2)] 3 dX2_areSeen_42 rfl (by decide) (by decide) rfl ?_
    refine g_goto X 2 dX2_areSeen_45 rfl ?_
    exact g_sub [1, 2, 3, 0] rfl (hk2 x1 x2 (x3 + 1))
  have hb_2 : ∀ (nf : Nat) (x1 : Int32) (x2 : Int32) (x3 : Int32), GG p l e { frames := 3, cells := 0, slots := 0, locals := 64 } s m args below meth c0 K A ((qTX c), (qLX c), (qPX c), M) ad false 4 (fun res => MQ below (q_Qc K false ad ((qTX c), (qLX c), (qPX c), M) ((fun (res : Int32) => some (.int res)) res) ((fun (_ : Int32) => ((qTX c), (qLX c), (qPX c), M)) res) A) args s 0 0 A) (b_X2_areSeen_2 c M nf x1 x2 x3) 2 [(0, .ref 2), (1, .int x1), (2, .int x2), (3, .int x3)] [] ((qTX c), (qLX c), (qPX c), M) 0 0 := by
    intro  nf
    induction nf with
    | zero => intros; exact g_stop
    | succ nf ih =>
      intro x1 x2 x3
      rw [b_X2_areSeen_2]
      refine g_iload_n X dX2_areSeen_2 rfl 3 rfl ?_
      refine g_aload_n X dX2_areSeen_3 rfl 0 rfl ?_
      refine g_getr X fa_X2_18 rfl rfl dX2_areSeen_4 ?_
      refine g_bVi (As := []) (rest := [.int x3]) X (c_Jx4a65c_size_8abf5 l K (qTX c) (qLX c) (qPX c) M 14) lk_X2_54 rfl rfl rfl (Nat.le_of_ble_eq_true rfl) ⟨Nat.le_of_ble_eq_true rfl, Nat.le_of_ble_eq_true rfl⟩ ⟨Nat.zero_le _, Nat.zero_le _⟩ dX2_areSeen_7 (fun r1 => ?_)
      refine g_icmp_ge X 48 dX2_areSeen_10 rfl (fun h2 => ?_) (fun h2 => ?_)
      · refine g_iconst (v := 1) X dX2_areSeen_48 (by decide) ?_
        exact g_zret X rfl rfl rfl dX2_areSeen_49
      · refine g_iload_n X dX2_areSeen_13 rfl 1 rfl ?_
        refine g_iload_n X dX2_areSeen_14 rfl 3 rfl ?_
        refine g_ishr X dX2_areSeen_15 ?_
        refine g_iconst (v := 1) X dX2_areSeen_16 (by decide) ?_
        refine g_iand X dX2_areSeen_17 ?_
        refine g_if_eq X 42 dX2_areSeen_18 rfl (fun h3 => ?_) (fun h3 => ?_)
        · exact g_sub [0, 1, 2, 3] rfl (hb_42 (b_X2_areSeen_2 c M nf) ih x1 x2 x3)
        · refine g_aload_n X dX2_areSeen_21 rfl 0 rfl ?_
          refine g_getr X fa_X2_18 rfl rfl dX2_areSeen_22 ?_
          refine g_iload_n X dX2_areSeen_25 rfl 3 rfl ?_
          refine g_bVr (As := [.int x3]) (rest := []) X (c_Jx4a65c_get_915e3 l K (qTX c) (qLX c) (qPX c) M 14 x3) lk_X2_58 rfl rfl rfl (Nat.le_of_ble_eq_true rfl) ⟨Nat.le_of_ble_eq_true rfl, Nat.le_of_ble_eq_true rfl⟩ ⟨Nat.zero_le _, Nat.zero_le _⟩ dX2_areSeen_26 (fun r4 => ?_)
          refine g_ck (fun hT5 => ?_)
          refine g_cast X (ci := 10) rfl wl_X2_62 hT5 dX2_areSeen_29 ?_
          refine g_geti X fa_X2_216 hT5 dX2_areSeen_32 ?_
          refine g_iload_n X dX2_areSeen_35 rfl 2 rfl ?_
          refine g_iand X dX2_areSeen_36 ?_
          refine g_if_ne X 42 dX2_areSeen_37 rfl (fun h6 => ?_) (fun h6 => ?_)
          · refine g_iconst (v := 0) X dX2_areSeen_40 (by decide) ?_
            exact g_zret X rfl rfl rfl dX2_areSeen_41
          · exact g_sub [0, 1, 2, 3] rfl (hb_42 (b_X2_areSeen_2 c M nf) ih x1 x2 x3)
  refine g_sub (lv' := [(0, .ref 2), (1, .int a1), (2, .int a2)]) [0, 1, 2] rfl ?_
  unfold f_X2_areSeen
  refine g_iconst (v := 0) X dX2_areSeen_0 (by decide) ?_
  refine g_istore_n X [(3, .int 0), (0, .ref 2), (1, .int a1), (2, .int a2)] dX2_areSeen_1 rfl (by decide) rfl ?_
  exact g_sub [1, 2, 3, 0] rfl (hb_2 q_fu a1 a2 0)
