set_option maxHeartbeats 4000000 in
set_option maxRecDepth 100000 in
theorem c_X6_lengthOfAll (l : Launch) (K : q_KK) (c : Nat → Nat) (M : q_MM) : ∀ res, f_X6_lengthOfAll c M = some res → Mt l yX6_lengthOfAll cX6_lengthOfAll 4 (some FieldType.int) 5 106 0 0 false K [.ref 4] ((qTX c), (qLX c), (qPX c), M) (some (.int res)) (((qTX c), (qLX c), (qPX c), M)) := by
  refine Mt.of (fun (res : Int32) => some (.int res)) (fun (_ : Int32) => ((qTX c), (qLX c), (qPX c), M)) (by decide) (Nat.le_of_ble_eq_true rfl) ?_
  intro p e s m args below meth c0 A ad X hN
  have hb_52 : ∀ (k22 : Int32 → Int32 → Option (Int32)) (hk22 : ∀ (x1 : Int32) (x2 : Int32), GG p l e { frames := 5, cells := 0, slots := 0, locals := 106 } s m args below meth c0 K A ((qTX c), (qLX c), (qPX c), M) ad false 4 (fun res => MQ below (q_Qc K false ad ((qTX c), (qLX c), (qPX c), M) ((fun (res : Int32) => some (.int res)) res) ((fun (_ : Int32) => ((qTX c), (qLX c), (qPX c), M)) res) A) args s 0 0 A) (k22 x1 x2) 22 [(0, .ref 4), (1, .int x1), (2, .int x2)] [] ((qTX c), (qLX c), (qPX c), M) 0 0) (x2 : Int32) (s0 : Int32) (s1 : Int32), GG p l e { frames := 5, cells := 0, slots := 0, locals := 106 } s m args below meth c0 K A ((qTX c), (qLX c), (qPX c), M) ad false 4 (fun res => MQ below (q_Qc K false ad ((qTX c), (qLX c), (qPX c), M) ((fun (res : Int32) => some (.int res)) res) ((fun (_ : Int32) => ((qTX c), (qLX c), (qPX c), M)) res) A) args s 0 0 A) (b_X6_lengthOfAll_52 c M k22 x2 s0 s1) 52 [(0, .ref 4), (2, .int x2)] [.int s0, .int s1] ((qTX c), (qLX c), (qPX c), M) 0 0 := by
    intro k22 hk22 x2 s0 s1
    unfold b_X6_lengthOfAll_52
    refine g_iadd X dX6_lengthOfAll_52 ?_
    refine g_isn X (fun v1 => [(1, .int v1), (0, .ref 4), (2, .int x2)]) dX6_lengthOfAll_53 rfl (by decide) (fun _ => rfl) (fun v1 => ?_)
    refine g_iinc (v := 1) X [(2, .int (x2 + 1)), (1, .int v1), (0, .ref 4)] 2 dX6_lengthOfAll_54 rfl (by decide) (by decide) rfl ?_
    refine g_goto X 22 dX6_lengthOfAll_57 rfl ?_
    exact g_sub [2, 1, 0] rfl (hk22 v1 (x2 + 1))
  have hb_22 : ∀ (nf : Nat) (x1 : Int32) (x2 : Int32), GG p l e { frames := 5, cells := 0, slots := 0, locals := 106 } s m args below meth c0 K A ((qTX c), (qLX c), (qPX c), M) ad false 4 (fun res => MQ below (q_Qc K false ad ((qTX c), (qLX c), (qPX c), M) ((fun (res : Int32) => some (.int res)) res) ((fun (_ : Int32) => ((qTX c), (qLX c), (qPX c), M)) res) A) args s 0 0 A) (b_X6_lengthOfAll_22 c M nf x1 x2) 22 [(0, .ref 4), (1, .int x1), (2, .int x2)] [] ((qTX c), (qLX c), (qPX c), M) 0 0 := by
    intro  nf
    induction nf with
    | zero => intros; exact g_stop
    | succ nf ih =>
      intro x1 x2
      rw [b_X6_lengthOfAll_22]
      refine g_iload_n X dX6_lengthOfAll_22 rfl 2 rfl ?_
      refine g_aload_n X dX6_lengthOfAll_23 rfl 0 rfl ?_
      refine g_getr X fa_X6_14 rfl rfl dX6_lengthOfAll_24 ?_
      refine g_geti X fa_X6_60 rfl dX6_lengthOfAll_27 ?_
      refine g_icmp_ge X 60 dX6_lengthOfAll_30 rfl (fun h2 => ?_) (fun h2 => ?_)
      · refine g_iload_n X dX6_lengthOfAll_60 rfl 1 rfl ?_
        exact g_iret X rfl rfl rfl dX6_lengthOfAll_61
      · refine g_aload_n X dX6_lengthOfAll_33 rfl 0 rfl ?_
        refine g_iload_n X dX6_lengthOfAll_34 rfl 2 rfl ?_
        refine g_bVr (As := [.int x2]) (rest := []) X (c_X6_chosenAt l K c M x2) lk_X6_78 rfl rfl rfl (Nat.le_of_ble_eq_true rfl) ⟨Nat.le_of_ble_eq_true rfl, Nat.le_of_ble_eq_true rfl⟩ ⟨Nat.zero_le _, Nat.zero_le _⟩ dX6_lengthOfAll_35 (fun r3 => ?_)
        refine g_astore_n X [(3, .ref r3), (0, .ref 4), (1, .int x1), (2, .int x2)] dX6_lengthOfAll_38 rfl (by decide) rfl ?_
        refine g_iload_n X dX6_lengthOfAll_39 rfl 2 rfl ?_
        refine g_aload_n X dX6_lengthOfAll_40 rfl 0 rfl ?_
        refine g_ifnonnull X 48 dX6_lengthOfAll_41 rfl (fun h4 => ?_) (fun h4 => ?_)
        · refine g_iconst (v := 0) X dX6_lengthOfAll_44 (by decide) ?_
          refine g_goto X 52 dX6_lengthOfAll_45 rfl ?_
          exact g_sub [1, 3] rfl (hb_52 (b_X6_lengthOfAll_22 c M nf) ih x2 0 x1)
        · refine g_aload_n X dX6_lengthOfAll_48 rfl 0 rfl ?_
          refine g_ck (fun hT5 => ?_)
          refine g_geti X fa_X6_81 hT5 dX6_lengthOfAll_49 ?_
          exact g_sub [1, 3] rfl (hb_52 (b_X6_lengthOfAll_22 c M nf) ih x2 (M r3 1) x1)
  refine g_sub (lv' := [(0, .ref 4)]) [0] rfl ?_
  unfold f_X6_lengthOfAll
  refine g_aload_n X dX6_lengthOfAll_0 rfl 0 rfl ?_
  refine g_getr X fa_X6_14 rfl rfl dX6_lengthOfAll_1 ?_
  refine g_geti X fa_X6_60 rfl dX6_lengthOfAll_4 ?_
  refine g_iconst (v := 1) X dX6_lengthOfAll_7 (by decide) ?_
  refine g_isub X dX6_lengthOfAll_8 ?_
  refine g_aload_n X dX6_lengthOfAll_9 rfl 0 rfl ?_
  refine g_getr X fa_X6_40 rfl rfl dX6_lengthOfAll_10 ?_
  refine g_getr X fa_X6_75 rfl rfl dX6_lengthOfAll_13 ?_
  refine g_iconst (v := 1) X dX6_lengthOfAll_16 (by decide) ?_
  refine g_ild X rfl rfl dX6_lengthOfAll_17 (fun v6 => ?_)
  refine g_imul X dX6_lengthOfAll_18 ?_
  refine g_isn X (fun v7 => [(1, .int v7), (0, .ref 4)]) dX6_lengthOfAll_19 rfl (by decide) (fun _ => rfl) (fun v7 => ?_)
  refine g_iconst (v := 0) X dX6_lengthOfAll_20 (by decide) ?_
  refine g_istore_n X [(2, .int 0), (1, .int v7), (0, .ref 4)] dX6_lengthOfAll_21 rfl (by decide) rfl ?_
  exact g_sub [2, 1, 0] rfl (hb_22 q_fu v7 0)
set_option maxHeartbeats 4000000 in
set_option maxRecDepth 100000 in
theorem c_X6_goOn (l : Launch) (K : q_KK) (c : Nat → Nat) (M : q_MM) (a1 : Nat) : ∀ res, f_X6_goOn c M a1 = some res → Mt l yX6_goOn cX6_goOn 5 (some FieldType.boolean) 6 129 0 0 false K [.ref 4, .ref a1] ((qTX c), (qLX c), (qPX c), M) (some (.int res)) (((qTX c), (qLX c), (qPX c), M)) := by
  refine Mt.of (fun (res : Int32) => some (.int res)) (fun (_ : Int32) => ((qTX c), (qLX c), (qPX c), M)) (by decide) (Nat.le_of_ble_eq_true rfl) ?_
  intro p e s m args below meth c0 A ad X hN
  have hb_4 : ∀ (nf : Nat) (x1 : Nat) (x2 : Int32) (x3 : Int32), GG p l e { frames := 6, cells := 0, slots := 0, locals := 129 } s m args below meth c0 K A ((qTX c), (qLX c), (qPX c), M) ad false 5 (fun res => MQ below (q_Qc K false ad ((qTX c), (qLX c), (qPX c), M) ((fun (res : Int32) => some (.int res)) res) ((fun (_ : Int32) => ((qTX c), (qLX c), (qPX c), M)) res) A) args s 0 0 A) (b_X6_goOn_4 c M nf x1 x2 x3) 4 [(0, .ref 4), (1, .ref x1), (2, .int x2), (3, .int x3)] [] ((qTX c), (qLX c), (qPX c), M) 0 0 := by
    intro  nf
    induction nf with
    | zero => intros; exact g_stop
    | succ nf ih =>
      intro x1 x2 x3
      rw [b_X6_goOn_4]
      refine g_iload_n X dX6_goOn_4 rfl 3 rfl ?_
      refine g_aload_n X dX6_goOn_5 rfl 0 rfl ?_
      refine g_getr X fa_X6_14 rfl rfl dX6_goOn_6 ?_
      refine g_geti X fa_X6_60 rfl dX6_goOn_9 ?_
      refine g_icmp_ge X 72 dX6_goOn_12 rfl (fun h1 => ?_) (fun h1 => ?_)
      · refine g_iload_n X dX6_goOn_72 rfl 2 rfl ?_
        refine g_aload_n X dX6_goOn_73 rfl 1 rfl ?_
        refine g_ck (fun hT2 => ?_)
        refine g_geti X fa_X6_99 hT2 dX6_goOn_74 ?_
        refine g_icmp_gt X 95 dX6_goOn_77 rfl (fun h3 => ?_) (fun h3 => ?_)
        · refine g_iconst (v := 0) X dX6_goOn_95 (by decide) ?_
          exact g_zret X rfl rfl rfl dX6_goOn_96
        · refine g_aload_n X dX6_goOn_80 rfl 0 rfl ?_
          refine g_bVi (As := []) (rest := []) X (c_X6_lengthOfAll l K c M) lk_X6_104 rfl rfl rfl (Nat.le_of_ble_eq_true rfl) ⟨Nat.le_of_ble_eq_true rfl, Nat.le_of_ble_eq_true rfl⟩ ⟨Nat.zero_le _, Nat.zero_le _⟩ dX6_goOn_81 (fun r4 => ?_)
          refine g_aload_n X dX6_goOn_84 rfl 1 rfl ?_
          refine g_geti X fa_X6_108 hT2 dX6_goOn_85 ?_
          refine g_icmp_gt X 95 dX6_goOn_88 rfl (fun h5 => ?_) (fun h5 => ?_)
          · refine g_iconst (v := 0) X dX6_goOn_95 (by decide) ?_
            exact g_zret X rfl rfl rfl dX6_goOn_96
          · refine g_iconst (v := 1) X dX6_goOn_91 (by decide) ?_
            refine g_goto X 96 dX6_goOn_92 rfl ?_
            exact g_zret X rfl rfl rfl dX6_goOn_96
      · refine g_aload_n X dX6_goOn_15 rfl 0 rfl ?_
        refine g_iload_n X dX6_goOn_16 rfl 3 rfl ?_
        refine g_bVr (As := [.int x3]) (rest := []) X (c_X6_chosenAt l K c M x3) lk_X6_78 rfl rfl rfl (Nat.le_of_ble_eq_true rfl) ⟨Nat.le_of_ble_eq_true rfl, Nat.le_of_ble_eq_true rfl⟩ ⟨Nat.zero_le _, Nat.zero_le _⟩ dX6_goOn_17 (fun r6 => ?_)
        refine g_astore X [(4, .ref r6), (0, .ref 4), (1, .ref x1), (2, .int x2), (3, .int x3)] dX6_goOn_20 (by decide) rfl ?_
        refine g_aload X dX6_goOn_22 0 rfl ?_
        refine g_ifnull X 56 dX6_goOn_24 rfl (fun h7 => ?_) (fun h7 => ?_)
        · refine g_iconst (v := 0) X dX6_goOn_56 (by decide) ?_
          exact g_zret X rfl rfl rfl dX6_goOn_57
        · refine g_aload_n X dX6_goOn_27 rfl 1 rfl ?_
          refine g_getr X fa_X6_40 rfl rfl dX6_goOn_28 ?_
          refine g_aload X dX6_goOn_31 0 rfl ?_
          refine g_aload_n X dX6_goOn_33 rfl 2 rfl ?_
          refine g_bVi (As := [.ref r6, .ref x1]) (rest := []) X (c_X2_tooHigh l K c M r6 x1) lk_X6_86 rfl rfl rfl (Nat.le_of_ble_eq_true rfl) ⟨Nat.le_of_ble_eq_true rfl, Nat.le_of_ble_eq_true rfl⟩ ⟨Nat.zero_le _, Nat.zero_le _⟩ dX6_goOn_34 (fun r8 => ?_)
          refine g_if_ne X 56 dX6_goOn_37 rfl (fun h9 => ?_) (fun h9 => ?_)
          · refine g_aload_n X dX6_goOn_40 rfl 1 rfl ?_
            refine g_getr X fa_X6_14 rfl rfl dX6_goOn_41 ?_
            refine g_aload X dX6_goOn_44 0 rfl ?_
            refine g_ck (fun hT10 => ?_)
            refine g_geti X fa_X6_90 hT10 dX6_goOn_46 ?_
            refine g_bVi (As := [.int (M r6 9)]) (rest := []) X (c_X4_find l K c M 33 (M r6 9)) lk_X6_93 rfl rfl rfl (Nat.le_of_ble_eq_true rfl) ⟨Nat.le_of_ble_eq_true rfl, Nat.le_of_ble_eq_true rfl⟩ ⟨Nat.zero_le _, Nat.zero_le _⟩ dX6_goOn_49 (fun r11 => ?_)
            refine g_iconst (v := (-1)) X dX6_goOn_52 (by decide) ?_
            refine g_icmp_eq X 58 dX6_goOn_53 rfl (fun h12 => ?_) (fun h12 => ?_)
            · refine g_iload_n X dX6_goOn_58 rfl 3 rfl ?_
              refine g_aload X dX6_goOn_59 0 rfl ?_
              refine g_geti X fa_X6_96 hT10 dX6_goOn_61 ?_
              refine g_iadd X dX6_goOn_64 ?_
              refine g_isn X (fun v13 => [(2, .int v13), (4, .ref r6), (0, .ref 4), (1, .ref x1), (3, .int x3)]) dX6_goOn_65 rfl (by decide) (fun _ => rfl) (fun v13 => ?_)
              refine g_iinc (v := 1) X [(3, .int (x3 + 1)), (2, .int v13), (4, .ref r6), (0, .ref 4), (1, .ref x1)] 4 dX6_goOn_66 rfl (by decide) (by decide) rfl ?_
              refine g_goto X 4 dX6_goOn_69 rfl ?_
              exact g_sub [3, 4, 1, 0] rfl (ih x1 v13 (x3 + 1))
            · refine g_iconst (v := 0) X dX6_goOn_56 (by decide) ?_
              exact g_zret X rfl rfl rfl dX6_goOn_57
          · refine g_iconst (v := 0) X dX6_goOn_56 (by decide) ?_
            exact g_zret X rfl rfl rfl dX6_goOn_57
  refine g_sub (lv' := [(0, .ref 4), (1, .ref a1)]) [0, 1] rfl ?_
  unfold f_X6_goOn
  refine g_iconst (v := 0) X dX6_goOn_0 (by decide) ?_
  refine g_istore_n X [(2, .int 0), (0, .ref 4), (1, .ref a1)] dX6_goOn_1 rfl (by decide) rfl ?_
  refine g_iconst (v := 0) X dX6_goOn_2 (by decide) ?_
  refine g_istore_n X [(3, .int 0), (2, .int 0), (0, .ref 4), (1, .ref a1)] dX6_goOn_3 rfl (by decide) rfl ?_
  exact g_sub [2, 3, 1, 0] rfl (hb_4 q_fu a1 0 0)
set_option maxHeartbeats 4000000 in
set_option maxRecDepth 100000 in
theorem c_X6_compare (l : Launch) (K : q_KK) (c : Nat → Nat) (M0 : q_MM) : ∀ res, f_X6_compare c M0 = some res → Mt l yX6_compare cX6_compare 5 (none : Option FieldType) 5 106 0 0 false K [.ref 4] ((qTX c), (qLX c), (qPX c), M0) (none) (((qTX c), (qLX c), (qPX c), res)) := by
  refine Mt.of (fun (_ : q_MM) => none) (fun (res : q_MM) => ((qTX c), (qLX c), (qPX c), res)) (by decide) (Nat.le_of_ble_eq_true rfl) ?_
  intro p e s m args below meth c0 A ad X hN
  have hb_97 : ∀ (k46 : Int32 → Nat → Int32 → q_MM → Option (q_MM)) (hk46 : ∀ (x1 : Int32) (x2 : Nat) (x3 : Int32) (M : q_MM), GG p l e { frames := 5, cells := 0, slots := 0, locals := 106 } s m args below meth c0 K A ((qTX c), (qLX c), (qPX c), M0) ad false 5 (fun res => MQ below (q_Qc K false ad ((qTX c), (qLX c), (qPX c), M0) ((fun (_ : q_MM) => none) res) ((fun (res : q_MM) => ((qTX c), (qLX c), (qPX c), res)) res) A) args s 0 0 A) (k46 x1 x2 x3 M) 46 [(0, .ref 4), (1, .int x1), (2, .ref x2), (3, .int x3)] [] ((qTX c), (qLX c), (qPX c), M) 0 0) (x1 : Int32) (x2 : Nat) (x3 : Int32) (s0 : Int32) (s1 : Int32) (s2 : Nat) (M : q_MM), GG p l e { frames := 5, cells := 0, slots := 0, locals := 106 } s m args below meth c0 K A ((qTX c), (qLX c), (qPX c), M0) ad false 5 (fun res => MQ below (q_Qc K false ad ((qTX c), (qLX c), (qPX c), M0) ((fun (_ : q_MM) => none) res) ((fun (res : q_MM) => ((qTX c), (qLX c), (qPX c), res)) res) A) args s 0 0 A) (b_X6_compare_97 c k46 x1 x2 x3 s0 s1 s2 M) 97 [(0, .ref 4), (1, .int x1), (2, .ref x2), (3, .int x3)] [.int s0, .int s1, .ref s2] ((qTX c), (qLX c), (qPX c), M) 0 0 := by
    intro k46 hk46 x1 x2 x3 s0 s1 s2 M
    unfold b_X6_compare_97
    refine g_ck (fun hT1 => ?_)
    refine g_isv X hT1 rfl dX6_compare_97 (fun M2 => ?_)
    refine g_iinc (v := 1) X [(3, .int (x3 + 1)), (0, .ref 4), (1, .int x1), (2, .ref x2)] 3 dX6_compare_98 rfl (by decide) (by decide) rfl ?_
    refine g_goto X 46 dX6_compare_101 rfl ?_
    exact g_sub [1, 2, 3, 0] rfl (hk46 x1 x2 (x3 + 1) M2)
  have hb_83 : ∀ (k46 : Int32 → Nat → Int32 → q_MM → Option (q_MM)) (hk46 : ∀ (x1 : Int32) (x2 : Nat) (x3 : Int32) (M : q_MM), GG p l e { frames := 5, cells := 0, slots := 0, locals := 106 } s m args below meth c0 K A ((qTX c), (qLX c), (qPX c), M0) ad false 5 (fun res => MQ below (q_Qc K false ad ((qTX c), (qLX c), (qPX c), M0) ((fun (_ : q_MM) => none) res) ((fun (res : q_MM) => ((qTX c), (qLX c), (qPX c), res)) res) A) args s 0 0 A) (k46 x1 x2 x3 M) 46 [(0, .ref 4), (1, .int x1), (2, .ref x2), (3, .int x3)] [] ((qTX c), (qLX c), (qPX c), M) 0 0) (x1 : Int32) (x2 : Nat) (x3 : Int32) (s0 : Int32) (s1 : Nat) (M : q_MM), GG p l e { frames := 5, cells := 0, slots := 0, locals := 106 } s m args below meth c0 K A ((qTX c), (qLX c), (qPX c), M0) ad false 5 (fun res => MQ below (q_Qc K false ad ((qTX c), (qLX c), (qPX c), M0) ((fun (_ : q_MM) => none) res) ((fun (res : q_MM) => ((qTX c), (qLX c), (qPX c), res)) res) A) args s 0 0 A) (b_X6_compare_83 c k46 x1 x2 x3 s0 s1 M) 83 [(0, .ref 4), (1, .int x1), (2, .ref x2), (3, .int x3)] [.int s0, .ref s1] ((qTX c), (qLX c), (qPX c), M) 0 0 := by
    intro k46 hk46 x1 x2 x3 s0 s1 M
    unfold b_X6_compare_83
    refine g_iconst (v := 0) X dX6_compare_83 (by decide) ?_
    refine g_goto X 97 dX6_compare_84 rfl ?_
    exact g_sub [0, 1, 2, 3] rfl (hb_97 k46 hk46 x1 x2 x3 0 s0 s1 M)
  have hb_46 : ∀ (k2 : Int32 → q_MM → Option (q_MM)) (hk2 : ∀ (x1 : Int32) (M : q_MM), GG p l e { frames := 5, cells := 0, slots := 0, locals := 106 } s m args below meth c0 K A ((qTX c), (qLX c), (qPX c), M0) ad false 5 (fun res => MQ below (q_Qc K false ad ((qTX c), (qLX c), (qPX c), M0) ((fun (_ : q_MM) => none) res) ((fun (res : q_MM) => ((qTX c), (qLX c), (qPX c), res)) res) A) args s 0 0 A) (k2 x1 M) 2 [(0, .ref 4), (1, .int x1)] [] ((qTX c), (qLX c), (qPX c), M) 0 0) (nf : Nat) (x1 : Int32) (x2 : Nat) (x3 : Int32) (M : q_MM), GG p l e { frames := 5, cells := 0, slots := 0, locals := 106 } s m args below meth c0 K A ((qTX c), (qLX c), (qPX c), M0) ad false 5 (fun res => MQ below (q_Qc K false ad ((qTX c), (qLX c), (qPX c), M0) ((fun (_ : q_MM) => none) res) ((fun (res : q_MM) => ((qTX c), (qLX c), (qPX c), res)) res) A) args s 0 0 A) (b_X6_compare_46 c k2 nf x1 x2 x3 M) 46 [(0, .ref 4), (1, .int x1), (2, .ref x2), (3, .int x3)] [] ((qTX c), (qLX c), (qPX c), M) 0 0 := by
    intro k2 hk2 nf
    induction nf with
    | zero => intros; exact g_stop
    | succ nf ih =>
      intro x1 x2 x3 M
      rw [b_X6_compare_46]
      refine g_iload_n X dX6_compare_46 rfl 3 rfl ?_
      refine g_aload_n X dX6_compare_47 rfl 0 rfl ?_
      refine g_getr X fa_X6_14 rfl rfl dX6_compare_48 ?_
      refine g_geti X fa_X6_60 rfl dX6_compare_51 ?_
      refine g_icmp_ge X 104 dX6_compare_54 rfl (fun h3 => ?_) (fun h3 => ?_)
      · refine g_iinc (v := 1) X [(1, .int (x1 + 1)), (0, .ref 4), (2, .ref x2), (3, .int x3)] 1 dX6_compare_104 rfl (by decide) (by decide) rfl ?_
        refine g_goto X 2 dX6_compare_107 rfl ?_
        exact g_sub [1, 0] rfl (hk2 (x1 + 1) M)
      · refine g_aload_n X dX6_compare_57 rfl 0 rfl ?_
        refine g_iload_n X dX6_compare_58 rfl 3 rfl ?_
        refine g_bVr (As := [.int x3]) (rest := []) X (c_X6_chosenAt l K c M x3) lk_X6_78 rfl rfl rfl (Nat.le_of_ble_eq_true rfl) ⟨Nat.le_of_ble_eq_true rfl, Nat.le_of_ble_eq_true rfl⟩ ⟨Nat.zero_le _, Nat.zero_le _⟩ dX6_compare_59 (fun r4 => ?_)
        refine g_astore X [(4, .ref r4), (0, .ref 4), (1, .int x1), (2, .ref x2), (3, .int x3)] dX6_compare_62 (by decide) rfl ?_
        refine g_aload_n X dX6_compare_64 rfl 1 rfl ?_
        refine g_getr X fa_X6_24 rfl rfl dX6_compare_65 ?_
        refine g_iload_n X dX6_compare_68 rfl 2 rfl ?_
        refine g_bipush (v := 7) X dX6_compare_69 (by decide) ?_
        refine g_imul X dX6_compare_71 ?_
        refine g_iload_n X dX6_compare_72 rfl 4 rfl ?_
        refine g_iadd X dX6_compare_73 ?_
        refine g_aload_n X dX6_compare_74 rfl 3 rfl ?_
        refine g_ifnull X 83 dX6_compare_75 rfl (fun h5 => ?_) (fun h5 => ?_)
        · exact g_sub [1, 2, 3, 4] rfl (hb_83 (b_X6_compare_46 c k2 nf) ih x1 x2 x3 ((x1 * 7) + x3) 35 M)
        · refine g_aload X dX6_compare_78 0 rfl ?_
          refine g_ifnonnull X 87 dX6_compare_80 rfl (fun h6 => ?_) (fun h6 => ?_)
          · exact g_sub [1, 2, 3, 4] rfl (hb_83 (b_X6_compare_46 c k2 nf) ih x1 x2 x3 ((x1 * 7) + x3) 35 M)
          · refine g_aload_n X dX6_compare_87 rfl 1 rfl ?_
            refine g_getr X fa_X6_40 rfl rfl dX6_compare_88 ?_
            refine g_aload_n X dX6_compare_91 rfl 3 rfl ?_
            refine g_aload X dX6_compare_92 0 rfl ?_
            refine g_bVi (As := [.ref x2, .ref r4]) (rest := [.int ((x1 * 7) + x3), .ref 35]) X (c_X2_likingOf l K c M x2 r4) lk_X6_130 rfl rfl rfl (Nat.le_of_ble_eq_true rfl) ⟨Nat.le_of_ble_eq_true rfl, Nat.le_of_ble_eq_true rfl⟩ ⟨Nat.zero_le _, Nat.zero_le _⟩ dX6_compare_94 (fun r7 => ?_)
            exact g_sub [1, 2, 3, 4] rfl (hb_97 (b_X6_compare_46 c k2 nf) ih x1 x2 x3 r7 ((x1 * 7) + x3) 35 M)
  have hb_43 : ∀ (k2 : Int32 → q_MM → Option (q_MM)) (hk2 : ∀ (x1 : Int32) (M : q_MM), GG p l e { frames := 5, cells := 0, slots := 0, locals := 106 } s m args below meth c0 K A ((qTX c), (qLX c), (qPX c), M0) ad false 5 (fun res => MQ below (q_Qc K false ad ((qTX c), (qLX c), (qPX c), M0) ((fun (_ : q_MM) => none) res) ((fun (res : q_MM) => ((qTX c), (qLX c), (qPX c), res)) res) A) args s 0 0 A) (k2 x1 M) 2 [(0, .ref 4), (1, .int x1)] [] ((qTX c), (qLX c), (qPX c), M) 0 0) (x1 : Int32) (x2 : Nat) (s0 : Int32) (s1 : Int32) (s2 : Nat) (M : q_MM), GG p l e { frames := 5, cells := 0, slots := 0, locals := 106 } s m args below meth c0 K A ((qTX c), (qLX c), (qPX c), M0) ad false 5 (fun res => MQ below (q_Qc K false ad ((qTX c), (qLX c), (qPX c), M0) ((fun (_ : q_MM) => none) res) ((fun (res : q_MM) => ((qTX c), (qLX c), (qPX c), res)) res) A) args s 0 0 A) (b_X6_compare_43 c k2 x1 x2 s0 s1 s2 M) 43 [(0, .ref 4), (1, .int x1), (2, .ref x2)] [.int s0, .int s1, .ref s2] ((qTX c), (qLX c), (qPX c), M) 0 0 := by
    intro k2 hk2 x1 x2 s0 s1 s2 M
    unfold b_X6_compare_43
    refine g_ck (fun hT8 => ?_)
    refine g_isv X hT8 rfl dX6_compare_43 (fun M9 => ?_)
    refine g_iconst (v := 0) X dX6_compare_44 (by decide) ?_
    refine g_istore_n X [(3, .int 0), (0, .ref 4), (1, .int x1), (2, .ref x2)] dX6_compare_45 rfl (by decide) rfl ?_
    exact g_sub [1, 2, 3, 0] rfl (hb_46 k2 hk2 q_fu x1 x2 0 M9)
  have hb_2 : ∀ (nf : Nat) (x1 : Int32) (M : q_MM), GG p l e { frames := 5, cells := 0, slots := 0, locals := 106 } s m args below meth c0 K A ((qTX c), (qLX c), (qPX c), M0) ad false 5 (fun res => MQ below (q_Qc K false ad ((qTX c), (qLX c), (qPX c), M0) ((fun (_ : q_MM) => none) res) ((fun (res : q_MM) => ((qTX c), (qLX c), (qPX c), res)) res) A) args s 0 0 A) (b_X6_compare_2 c nf x1 M) 2 [(0, .ref 4), (1, .int x1)] [] ((qTX c), (qLX c), (qPX c), M) 0 0 := by
    intro  nf
    induction nf with
    | zero => intros; exact g_stop
    | succ nf ih =>
      intro x1 M
      rw [b_X6_compare_2]
      refine g_iload_n X dX6_compare_2 rfl 1 rfl ?_
      refine g_aload_n X dX6_compare_3 rfl 0 rfl ?_
      refine g_getr X fa_X6_14 rfl rfl dX6_compare_4 ?_
      refine g_geti X fa_X6_60 rfl dX6_compare_7 ?_
      refine g_icmp_ge X 110 dX6_compare_10 rfl (fun h10 => ?_) (fun h10 => ?_)
      · exact g_vret X rfl rfl rfl dX6_compare_110
      · refine g_aload_n X dX6_compare_13 rfl 0 rfl ?_
        refine g_iload_n X dX6_compare_14 rfl 1 rfl ?_
        refine g_bVr (As := [.int x1]) (rest := []) X (c_X6_chosenAt l K c M x1) lk_X6_78 rfl rfl rfl (Nat.le_of_ble_eq_true rfl) ⟨Nat.le_of_ble_eq_true rfl, Nat.le_of_ble_eq_true rfl⟩ ⟨Nat.zero_le _, Nat.zero_le _⟩ dX6_compare_15 (fun r11 => ?_)
        refine g_astore_n X [(2, .ref r11), (0, .ref 4), (1, .int x1)] dX6_compare_18 rfl (by decide) rfl ?_
        refine g_aload_n X dX6_compare_19 rfl 1 rfl ?_
        refine g_getr X fa_X6_20 rfl rfl dX6_compare_20 ?_
        refine g_iload_n X dX6_compare_23 rfl 2 rfl ?_
        refine g_aload_n X dX6_compare_24 rfl 0 rfl ?_
        refine g_ifnonnull X 32 dX6_compare_25 rfl (fun h12 => ?_) (fun h12 => ?_)
        · refine g_iconst (v := (-1)) X dX6_compare_28 (by decide) ?_
          refine g_goto X 43 dX6_compare_29 rfl ?_
          exact g_sub [1, 2, 0] rfl (hb_43 (b_X6_compare_2 c nf) ih x1 r11 (-1) x1 34 M)
        · refine g_aload_n X dX6_compare_32 rfl 1 rfl ?_
          refine g_getr X fa_X6_14 rfl rfl dX6_compare_33 ?_
          refine g_aload_n X dX6_compare_36 rfl 0 rfl ?_
          refine g_ck (fun hT13 => ?_)
          refine g_geti X fa_X6_127 hT13 dX6_compare_37 ?_
          refine g_bVi (As := [.int (M r11 8)]) (rest := [.int x1, .ref 34]) X (c_X4_find l K c M 33 (M r11 8)) lk_X6_93 rfl rfl rfl (Nat.le_of_ble_eq_true rfl) ⟨Nat.le_of_ble_eq_true rfl, Nat.le_of_ble_eq_true rfl⟩ ⟨Nat.zero_le _, Nat.zero_le _⟩ dX6_compare_40 (fun r14 => ?_)
          exact g_sub [1, 2, 0] rfl (hb_43 (b_X6_compare_2 c nf) ih x1 r11 r14 x1 34 M)
  refine g_sub (lv' := [(0, .ref 4)]) [0] rfl ?_
  unfold f_X6_compare
  refine g_iconst (v := 0) X dX6_compare_0 (by decide) ?_
  refine g_istore_n X [(1, .int 0), (0, .ref 4)] dX6_compare_1 rfl (by decide) rfl ?_
  exact g_sub [1, 0] rfl (hb_2 q_fu 0 M0)
set_option maxHeartbeats 4000000 in
set_option maxRecDepth 100000 in
theorem c_X6_mayFollow (l : Launch) (K : q_KK) (c : Nat → Nat) (M : q_MM) (a1 : Int32) (a2 : Int32) (a3 : Int32) : ∀ res, f_X6_mayFollow c M a1 a2 a3 = some res → Mt l yX6_mayFollow cX6_mayFollow 6 (some FieldType.boolean) 0 0 0 0 false K [.ref 4, .int a1, .int a2, .int a3] ((qTX c), (qLX c), (qPX c), M) (some (.int res)) (((qTX c), (qLX c), (qPX c), M)) := by
  refine Mt.of (fun (res : Int32) => some (.int res)) (fun (_ : Int32) => ((qTX c), (qLX c), (qPX c), M)) (by decide) (Nat.le_of_ble_eq_true rfl) ?_
  intro p e s m args below meth c0 A ad X hN
  have hb_58 : GG p l e { frames := 0, cells := 0, slots := 0, locals := 0 } s m args below meth c0 K A ((qTX c), (qLX c), (qPX c), M) ad false 6 (fun res => MQ below (q_Qc K false ad ((qTX c), (qLX c), (qPX c), M) ((fun (res : Int32) => some (.int res)) res) ((fun (_ : Int32) => ((qTX c), (qLX c), (qPX c), M)) res) A) args s 0 0 A) (b_X6_mayFollow_58 c M ) 58 [] [] ((qTX c), (qLX c), (qPX c), M) 0 0 := by
    unfold b_X6_mayFollow_58
    refine g_iconst (v := 1) X dX6_mayFollow_58 (by decide) ?_
    refine g_goto X 63 dX6_mayFollow_59 rfl ?_
    exact g_zret X rfl rfl rfl dX6_mayFollow_63
  have hb_37 : ∀ (x1 : Int32) (x3 : Int32) (x4 : Int32) (s0 : Int32), GG p l e { frames := 0, cells := 0, slots := 0, locals := 0 } s m args below meth c0 K A ((qTX c), (qLX c), (qPX c), M) ad false 6 (fun res => MQ below (q_Qc K false ad ((qTX c), (qLX c), (qPX c), M) ((fun (res : Int32) => some (.int res)) res) ((fun (_ : Int32) => ((qTX c), (qLX c), (qPX c), M)) res) A) args s 0 0 A) (b_X6_mayFollow_37 c M x1 x3 x4 s0) 37 [(1, .int x1), (3, .int x3), (4, .int x4)] [.int s0] ((qTX c), (qLX c), (qPX c), M) 0 0 := by
    intro x1 x3 x4 s0
    unfold b_X6_mayFollow_37
    refine g_istore X [(5, .int s0), (1, .int x1), (3, .int x3), (4, .int x4)] dX6_mayFollow_37 (by decide) rfl ?_
    refine g_iload_n X dX6_mayFollow_39 rfl 1 rfl ?_
    refine g_iload_n X dX6_mayFollow_40 rfl 2 rfl ?_
    refine g_ishr X dX6_mayFollow_41 ?_
    refine g_iconst (v := 1) X dX6_mayFollow_42 (by decide) ?_
    refine g_iand X dX6_mayFollow_43 ?_
    refine g_if_ne X 62 dX6_mayFollow_44 rfl (fun h1 => ?_) (fun h1 => ?_)
    · refine g_iload X dX6_mayFollow_47 0 rfl ?_
      refine g_if_ne X 58 dX6_mayFollow_49 rfl (fun h2 => ?_) (fun h2 => ?_)
      · refine g_iload X dX6_mayFollow_52 3 rfl ?_
        refine g_iload_n X dX6_mayFollow_54 rfl 2 rfl ?_
        refine g_icmp_ne X 62 dX6_mayFollow_55 rfl (fun h3 => ?_) (fun h3 => ?_)
        · exact g_sub [] rfl (hb_58)
        · refine g_iconst (v := 0) X dX6_mayFollow_62 (by decide) ?_
          exact g_zret X rfl rfl rfl dX6_mayFollow_63
      · exact g_sub [] rfl (hb_58)
    · refine g_iconst (v := 0) X dX6_mayFollow_62 (by decide) ?_
      exact g_zret X rfl rfl rfl dX6_mayFollow_63
  have hb_32 : ∀ (x1 : Int32) (x3 : Int32) (x4 : Int32), GG p l e { frames := 0, cells := 0, slots := 0, locals := 0 } s m args below meth c0 K A ((qTX c), (qLX c), (qPX c), M) ad false 6 (fun res => MQ below (q_Qc K false ad ((qTX c), (qLX c), (qPX c), M) ((fun (res : Int32) => some (.int res)) res) ((fun (_ : Int32) => ((qTX c), (qLX c), (qPX c), M)) res) A) args s 0 0 A) (b_X6_mayFollow_32 c M x1 x3 x4) 32 [(1, .int x1), (3, .int x3), (4, .int x4)] [] ((qTX c), (qLX c), (qPX c), M) 0 0 := by
    intro x1 x3 x4
    unfold b_X6_mayFollow_32
    refine g_iconst (v := 1) X dX6_mayFollow_32 (by decide) ?_
    refine g_goto X 37 dX6_mayFollow_33 rfl ?_
    exact g_sub [0, 1, 2] rfl (hb_37 x1 x3 x4 1)
  have hb_15 : ∀ (x1 : Int32) (x3 : Int32) (s0 : Int32), GG p l e { frames := 0, cells := 0, slots := 0, locals := 0 } s m args below meth c0 K A ((qTX c), (qLX c), (qPX c), M) ad false 6 (fun res => MQ below (q_Qc K false ad ((qTX c), (qLX c), (qPX c), M) ((fun (res : Int32) => some (.int res)) res) ((fun (_ : Int32) => ((qTX c), (qLX c), (qPX c), M)) res) A) args s 0 0 A) (b_X6_mayFollow_15 c M x1 x3 s0) 15 [(1, .int x1), (3, .int x3)] [.int s0] ((qTX c), (qLX c), (qPX c), M) 0 0 := by
    intro x1 x3 s0
    unfold b_X6_mayFollow_15
    refine g_istore X [(4, .int s0), (1, .int x1), (3, .int x3)] dX6_mayFollow_15 (by decide) rfl ?_
    refine g_iload X dX6_mayFollow_17 0 rfl ?_
    refine g_iconst (v := (-1)) X dX6_mayFollow_19 (by decide) ?_
    refine g_icmp_eq X 32 dX6_mayFollow_20 rfl (fun h4 => ?_) (fun h4 => ?_)
    · exact g_sub [1, 2, 0] rfl (hb_32 x1 x3 s0)
    · refine g_iload_n X dX6_mayFollow_23 rfl 1 rfl ?_
      refine g_iload X dX6_mayFollow_24 0 rfl ?_
      refine g_ishr X dX6_mayFollow_26 ?_
      refine g_iconst (v := 1) X dX6_mayFollow_27 (by decide) ?_
      refine g_iand X dX6_mayFollow_28 ?_
      refine g_if_eq X 36 dX6_mayFollow_29 rfl (fun h5 => ?_) (fun h5 => ?_)
      · refine g_iconst (v := 0) X dX6_mayFollow_36 (by decide) ?_
        exact g_sub [1, 2, 0] rfl (hb_37 x1 x3 s0 0)
      · exact g_sub [1, 2, 0] rfl (hb_32 x1 x3 s0)
  refine g_sub (lv' := [(0, .ref 4), (1, .int a1), (2, .int a2), (3, .int a3)]) [0, 1, 2, 3] rfl ?_
  unfold f_X6_mayFollow
  refine g_iload_n X dX6_mayFollow_0 rfl 2 rfl ?_
  refine g_iconst (v := (-1)) X dX6_mayFollow_1 (by decide) ?_
  refine g_icmp_ne X 9 dX6_mayFollow_2 rfl (fun h6 => ?_) (fun h6 => ?_)
  · refine g_iconst (v := (-1)) X dX6_mayFollow_5 (by decide) ?_
    refine g_goto X 15 dX6_mayFollow_6 rfl ?_
    exact g_sub [1, 3] rfl (hb_15 a1 a3 (-1))
  · refine g_aload_n X dX6_mayFollow_9 rfl 0 rfl ?_
    refine g_getr X fa_X6_20 rfl rfl dX6_mayFollow_10 ?_
    refine g_iload_n X dX6_mayFollow_13 rfl 2 rfl ?_
    refine g_ild X rfl rfl dX6_mayFollow_14 (fun v7 => ?_)
    exact g_sub [1, 3] rfl (hb_15 a1 a3 v7)
set_option maxHeartbeats 4000000 in
set_option maxRecDepth 100000 in
theorem c_X6_likingBehind (l : Launch) (K : q_KK) (c : Nat → Nat) (M : q_MM) (a1 : Int32) (a2 : Int32) : ∀ res, f_X6_likingBehind c M a1 a2 = some res → Mt l yX6_likingBehind cX6_likingBehind 3 (some FieldType.int) 0 0 0 0 false K [.ref 4, .int a1, .int a2] ((qTX c), (qLX c), (qPX c), M) (some (.int res)) (((qTX c), (qLX c), (qPX c), M)) := by
  refine Mt.of (fun (res : Int32) => some (.int res)) (fun (_ : Int32) => ((qTX c), (qLX c), (qPX c), M)) (by decide) (Nat.le_of_ble_eq_true rfl) ?_
  intro p e s m args below meth c0 A ad X hN
  have hb_10 : GG p l e { frames := 0, cells := 0, slots := 0, locals := 0 } s m args below meth c0 K A ((qTX c), (qLX c), (qPX c), M) ad false 3 (fun res => MQ below (q_Qc K false ad ((qTX c), (qLX c), (qPX c), M) ((fun (res : Int32) => some (.int res)) res) ((fun (_ : Int32) => ((qTX c), (qLX c), (qPX c), M)) res) A) args s 0 0 A) (b_X6_likingBehind_10 c M ) 10 [] [] ((qTX c), (qLX c), (qPX c), M) 0 0 := by
    unfold b_X6_likingBehind_10
    refine g_iconst (v := 0) X dX6_likingBehind_10 (by decide) ?_
    refine g_goto X 25 dX6_likingBehind_11 rfl ?_
    exact g_iret X rfl rfl rfl dX6_likingBehind_25
  refine g_sub (lv' := [(0, .ref 4), (1, .int a1), (2, .int a2)]) [0, 1, 2] rfl ?_
  unfold f_X6_likingBehind
  refine g_iload_n X dX6_likingBehind_0 rfl 1 rfl ?_
  refine g_iconst (v := (-1)) X dX6_likingBehind_1 (by decide) ?_
  refine g_icmp_eq X 10 dX6_likingBehind_2 rfl (fun h1 => ?_) (fun h1 => ?_)
  · exact g_sub [] rfl (hb_10)
  · refine g_iload_n X dX6_likingBehind_5 rfl 2 rfl ?_
    refine g_iconst (v := (-1)) X dX6_likingBehind_6 (by decide) ?_
    refine g_icmp_ne X 14 dX6_likingBehind_7 rfl (fun h2 => ?_) (fun h2 => ?_)
    · exact g_sub [] rfl (hb_10)
    · refine g_aload_n X dX6_likingBehind_14 rfl 0 rfl ?_
      refine g_getr X fa_X6_24 rfl rfl dX6_likingBehind_15 ?_
      refine g_iload_n X dX6_likingBehind_18 rfl 1 rfl ?_
      refine g_bipush (v := 7) X dX6_likingBehind_19 (by decide) ?_
      refine g_imul X dX6_likingBehind_21 ?_
      refine g_iload_n X dX6_likingBehind_22 rfl 2 rfl ?_
      refine g_iadd X dX6_likingBehind_23 ?_
      refine g_ild X rfl rfl dX6_likingBehind_24 (fun v3 => ?_)
      exact g_iret X rfl rfl rfl dX6_likingBehind_25
set_option maxHeartbeats 4000000 in
set_option maxRecDepth 100000 in
theorem c_X6_worthWith (l : Launch) (K : q_KK) (c : Nat → Nat) (M : q_MM) (a1 : Int32) (a2 : Int32) (a3 : Int32) : ∀ res, f_X6_worthWith c M a1 a2 a3 = some res → Mt l yX6_worthWith cX6_worthWith 4 (some FieldType.int) 1 22 0 0 false K [.ref 4, .int a1, .int a2, .int a3] ((qTX c), (qLX c), (qPX c), M) (some (.int res)) (((qTX c), (qLX c), (qPX c), M)) := by
  refine Mt.of (fun (res : Int32) => some (.int res)) (fun (_ : Int32) => ((qTX c), (qLX c), (qPX c), M)) (by decide) (Nat.le_of_ble_eq_true rfl) ?_
  intro p e s m args below meth c0 A ad X hN
  refine g_sub (lv' := [(0, .ref 4), (1, .int a1), (2, .int a2), (3, .int a3)]) [0, 1, 2, 3] rfl ?_
  unfold f_X6_worthWith
  refine g_aload_n X dX6_worthWith_0 rfl 0 rfl ?_
  refine g_iload_n X dX6_worthWith_1 rfl 2 rfl ?_
  refine g_iload_n X dX6_worthWith_2 rfl 3 rfl ?_
  refine g_bVi (As := [.int a2, .int a3]) (rest := []) X (c_X6_likingBehind l K c M a2 a3) lk_X6_124 rfl rfl rfl (Nat.le_of_ble_eq_true rfl) ⟨Nat.le_of_ble_eq_true rfl, Nat.le_of_ble_eq_true rfl⟩ ⟨Nat.zero_le _, Nat.zero_le _⟩ dX6_worthWith_3 (fun r1 => ?_)
  refine g_aload_n X dX6_worthWith_6 rfl 0 rfl ?_
  refine g_getr X fa_X6_27 rfl rfl dX6_worthWith_7 ?_
  refine g_iload_n X dX6_worthWith_10 rfl 1 rfl ?_
  refine g_iconst (v := 1) X dX6_worthWith_11 (by decide) ?_
  refine g_iload_n X dX6_worthWith_12 rfl 3 rfl ?_
  refine g_ishl X dX6_worthWith_13 ?_
  refine g_ior X dX6_worthWith_14 ?_
  refine g_bipush (v := 7) X dX6_worthWith_15 (by decide) ?_
  refine g_imul X dX6_worthWith_17 ?_
  refine g_iload_n X dX6_worthWith_18 rfl 3 rfl ?_
  refine g_iadd X dX6_worthWith_19 ?_
  refine g_ild X rfl rfl dX6_worthWith_20 (fun v2 => ?_)
  refine g_iadd X dX6_worthWith_21 ?_
  exact g_iret X rfl rfl rfl dX6_worthWith_22
set_option maxHeartbeats 4000000 in
set_option maxRecDepth 100000 in
theorem c_X6_bestNext (l : Launch) (K : q_KK) (c : Nat → Nat) (M : q_MM) (a1 : Int32) (a2 : Int32) : ∀ res, f_X6_bestNext c M a1 a2 = some res → Mt l yX6_bestNext cX6_bestNext 7 (some FieldType.int) 2 45 0 0 false K [.ref 4, .int a1, .int a2] ((qTX c), (qLX c), (qPX c), M) (some (.int res)) (((qTX c), (qLX c), (qPX c), M)) := by
  refine Mt.of (fun (res : Int32) => some (.int res)) (fun (_ : Int32) => ((qTX c), (qLX c), (qPX c), M)) (by decide) (Nat.le_of_ble_eq_true rfl) ?_
  intro p e s m args below meth c0 A ad X hN
  have hb_60 : ∀ (k8 : Int32 → Int32 → Int32 → Int32 → Int32 → Option (Int32)) (hk8 : ∀ (x1 : Int32) (x2 : Int32) (x3 : Int32) (x4 : Int32) (x5 : Int32), GG p l e { frames := 2, cells := 0, slots := 0, locals := 45 } s m args below meth c0 K A ((qTX c), (qLX c), (qPX c), M) ad false 7 (fun res => MQ below (q_Qc K false ad ((qTX c), (qLX c), (qPX c), M) ((fun (res : Int32) => some (.int res)) res) ((fun (_ : Int32) => ((qTX c), (qLX c), (qPX c), M)) res) A) args s 0 0 A) (k8 x1 x2 x3 x4 x5) 8 [(0, .ref 4), (1, .int x1), (2, .int x2), (3, .int x3), (4, .int x4), (5, .int x5)] [] ((qTX c), (qLX c), (qPX c), M) 0 0) (x1 : Int32) (x2 : Int32) (x3 : Int32) (x4 : Int32) (x5 : Int32), GG p l e { frames := 2, cells := 0, slots := 0, locals := 45 } s m args below meth c0 K A ((qTX c), (qLX c), (qPX c), M) ad false 7 (fun res => MQ below (q_Qc K false ad ((qTX c), (qLX c), (qPX c), M) ((fun (res : Int32) => some (.int res)) res) ((fun (_ : Int32) => ((qTX c), (qLX c), (qPX c), M)) res) A) args s 0 0 A) (b_X6_bestNext_60 c M k8 x1 x2 x3 x4 x5) 60 [(0, .ref 4), (1, .int x1), (2, .int x2), (3, .int x3), (4, .int x4), (5, .int x5)] [] ((qTX c), (qLX c), (qPX c), M) 0 0 := by
    intro k8 hk8 x1 x2 x3 x4 x5
    unfold b_X6_bestNext_60
    refine g_iinc (v := 1) X [(5, .int (x5 + 1)), (0, .ref 4), (1, .int x1), (2, .int x2), (3, .int x3), (4, .int x4)] 5 dX6_bestNext_60 rfl (by decide) (by decide) rfl ?_
    refine g_goto X 8 dX6_bestNext_63 rfl ?_
    exact g_sub [1, 2, 3, 4, 5, 0] rfl (hk8 x1 x2 x3 x4 (x5 + 1))
  have hb_53 : ∀ (k8 : Int32 → Int32 → Int32 → Int32 → Int32 → Option (Int32)) (hk8 : ∀ (x1 : Int32) (x2 : Int32) (x3 : Int32) (x4 : Int32) (x5 : Int32), GG p l e { frames := 2, cells := 0, slots := 0, locals := 45 } s m args below meth c0 K A ((qTX c), (qLX c), (qPX c), M) ad false 7 (fun res => MQ below (q_Qc K false ad ((qTX c), (qLX c), (qPX c), M) ((fun (res : Int32) => some (.int res)) res) ((fun (_ : Int32) => ((qTX c), (qLX c), (qPX c), M)) res) A) args s 0 0 A) (k8 x1 x2 x3 x4 x5) 8 [(0, .ref 4), (1, .int x1), (2, .int x2), (3, .int x3), (4, .int x4), (5, .int x5)] [] ((qTX c), (qLX c), (qPX c), M) 0 0) (x1 : Int32) (x2 : Int32) (x5 : Int32) (x6 : Int32), GG p l e { frames := 2, cells := 0, slots := 0, locals := 45 } s m args below meth c0 K A ((qTX c), (qLX c), (qPX c), M) ad false 7 (fun res => MQ below (q_Qc K false ad ((qTX c), (qLX c), (qPX c), M) ((fun (res : Int32) => some (.int res)) res) ((fun (_ : Int32) => ((qTX c), (qLX c), (qPX c), M)) res) A) args s 0 0 A) (b_X6_bestNext_53 c M k8 x1 x2 x5 x6) 53 [(0, .ref 4), (1, .int x1), (2, .int x2), (5, .int x5), (6, .int x6)] [] ((qTX c), (qLX c), (qPX c), M) 0 0 := by
    intro k8 hk8 x1 x2 x5 x6
    unfold b_X6_bestNext_53
    refine g_iload X dX6_bestNext_53 3 rfl ?_
    refine g_istore_n X [(3, .int x5), (0, .ref 4), (1, .int x1), (2, .int x2), (5, .int x5), (6, .int x6)] dX6_bestNext_55 rfl (by decide) rfl ?_
    refine g_iload X dX6_bestNext_56 5 rfl ?_
    refine g_istore X [(4, .int x6), (3, .int x5), (0, .ref 4), (1, .int x1), (2, .int x2), (5, .int x5), (6, .int x6)] dX6_bestNext_58 (by decide) rfl ?_
    exact g_sub [2, 3, 4, 1, 0, 5] rfl (hb_60 k8 hk8 x1 x2 x5 x6 x5)
  have hb_8 : ∀ (nf : Nat) (x1 : Int32) (x2 : Int32) (x3 : Int32) (x4 : Int32) (x5 : Int32), GG p l e { frames := 2, cells := 0, slots := 0, locals := 45 } s m args below meth c0 K A ((qTX c), (qLX c), (qPX c), M) ad false 7 (fun res => MQ below (q_Qc K false ad ((qTX c), (qLX c), (qPX c), M) ((fun (res : Int32) => some (.int res)) res) ((fun (_ : Int32) => ((qTX c), (qLX c), (qPX c), M)) res) A) args s 0 0 A) (b_X6_bestNext_8 c M nf x1 x2 x3 x4 x5) 8 [(0, .ref 4), (1, .int x1), (2, .int x2), (3, .int x3), (4, .int x4), (5, .int x5)] [] ((qTX c), (qLX c), (qPX c), M) 0 0 := by
    intro  nf
    induction nf with
    | zero => intros; exact g_stop
    | succ nf ih =>
      intro x1 x2 x3 x4 x5
      rw [b_X6_bestNext_8]
      refine g_iload X dX6_bestNext_8 5 rfl ?_
      refine g_aload_n X dX6_bestNext_10 rfl 0 rfl ?_
      refine g_getr X fa_X6_14 rfl rfl dX6_bestNext_11 ?_
      refine g_geti X fa_X6_60 rfl dX6_bestNext_14 ?_
      refine g_icmp_ge X 66 dX6_bestNext_17 rfl (fun h1 => ?_) (fun h1 => ?_)
      · refine g_iload_n X dX6_bestNext_66 rfl 3 rfl ?_
        exact g_iret X rfl rfl rfl dX6_bestNext_67
      · refine g_aload_n X dX6_bestNext_20 rfl 0 rfl ?_
        refine g_iload_n X dX6_bestNext_21 rfl 1 rfl ?_
        refine g_iload_n X dX6_bestNext_22 rfl 2 rfl ?_
        refine g_iload X dX6_bestNext_23 5 rfl ?_
        refine g_bVi (As := [.int x1, .int x2, .int x5]) (rest := []) X (c_X6_mayFollow l K c M x1 x2 x5) lk_X6_138 rfl rfl rfl (Nat.le_of_ble_eq_true rfl) ⟨Nat.le_of_ble_eq_true rfl, Nat.le_of_ble_eq_true rfl⟩ ⟨Nat.zero_le _, Nat.zero_le _⟩ dX6_bestNext_25 (fun r2 => ?_)
        refine g_if_eq X 60 dX6_bestNext_28 rfl (fun h3 => ?_) (fun h3 => ?_)
        · exact g_sub [0, 1, 2, 3, 4, 5] rfl (hb_60 (b_X6_bestNext_8 c M nf) ih x1 x2 x3 x4 x5)
        · refine g_aload_n X dX6_bestNext_31 rfl 0 rfl ?_
          refine g_iload_n X dX6_bestNext_32 rfl 1 rfl ?_
          refine g_iload_n X dX6_bestNext_33 rfl 2 rfl ?_
          refine g_iload X dX6_bestNext_34 5 rfl ?_
          refine g_bVi (As := [.int x1, .int x2, .int x5]) (rest := []) X (c_X6_worthWith l K c M x1 x2 x5) lk_X6_134 rfl rfl rfl (Nat.le_of_ble_eq_true rfl) ⟨Nat.le_of_ble_eq_true rfl, Nat.le_of_ble_eq_true rfl⟩ ⟨Nat.zero_le _, Nat.zero_le _⟩ dX6_bestNext_36 (fun r4 => ?_)
          refine g_istore X [(6, .int r4), (0, .ref 4), (1, .int x1), (2, .int x2), (3, .int x3), (4, .int x4), (5, .int x5)] dX6_bestNext_39 (by decide) rfl ?_
          refine g_iload_n X dX6_bestNext_41 rfl 4 rfl ?_
          refine g_iconst (v := (-1)) X dX6_bestNext_42 (by decide) ?_
          refine g_icmp_eq X 53 dX6_bestNext_43 rfl (fun h5 => ?_) (fun h5 => ?_)
          · exact g_sub [1, 2, 3, 6, 0] rfl (hb_53 (b_X6_bestNext_8 c M nf) ih x1 x2 x5 r4)
          · refine g_iload X dX6_bestNext_46 0 rfl ?_
            refine g_iload X dX6_bestNext_48 5 rfl ?_
            refine g_icmp_le X 60 dX6_bestNext_50 rfl (fun h6 => ?_) (fun h6 => ?_)
            · exact g_sub [1, 2, 3, 4, 5, 6] rfl (hb_60 (b_X6_bestNext_8 c M nf) ih x1 x2 x3 x4 x5)
            · exact g_sub [1, 2, 3, 6, 0] rfl (hb_53 (b_X6_bestNext_8 c M nf) ih x1 x2 x5 r4)
  refine g_sub (lv' := [(0, .ref 4), (1, .int a1), (2, .int a2)]) [0, 1, 2] rfl ?_
  unfold f_X6_bestNext
  refine g_iconst (v := (-1)) X dX6_bestNext_0 (by decide) ?_
  refine g_istore_n X [(3, .int (-1)), (0, .ref 4), (1, .int a1), (2, .int a2)] dX6_bestNext_1 rfl (by decide) rfl ?_
  refine g_iconst (v := 0) X dX6_bestNext_2 (by decide) ?_
  refine g_istore X [(4, .int 0), (3, .int (-1)), (0, .ref 4), (1, .int a1), (2, .int a2)] dX6_bestNext_3 (by decide) rfl ?_
  refine g_iconst (v := 0) X dX6_bestNext_5 (by decide) ?_
  refine g_istore X [(5, .int 0), (4, .int 0), (3, .int (-1)), (0, .ref 4), (1, .int a1), (2, .int a2)] dX6_bestNext_6 (by decide) rfl ?_
  exact g_sub [3, 4, 5, 2, 1, 0] rfl (hb_8 q_fu a1 a2 (-1) 0 0)
set_option maxHeartbeats 4000000 in
set_option maxRecDepth 100000 in
theorem c_X6_weigh (l : Launch) (K : q_KK) (c : Nat → Nat) (M0 : q_MM) : ∀ res, f_X6_weigh c M0 = some res → Mt l yX6_weigh cX6_weigh 5 (none : Option FieldType) 3 71 0 0 false K [.ref 4] ((qTX c), (qLX c), (qPX c), M0) (none) (((qTX c), (qLX c), (qPX c), res)) := by
  refine Mt.of (fun (_ : q_MM) => none) (fun (res : q_MM) => ((qTX c), (qLX c), (qPX c), res)) (by decide) (Nat.le_of_ble_eq_true rfl) ?_
  intro p e s m args below meth c0 A ad X hN
  have hb_79 : ∀ (k20 : Int32 → Int32 → q_MM → Option (q_MM)) (hk20 : ∀ (x2 : Int32) (x3 : Int32) (M : q_MM), GG p l e { frames := 3, cells := 0, slots := 0, locals := 71 } s m args below meth c0 K A ((qTX c), (qLX c), (qPX c), M0) ad false 5 (fun res => MQ below (q_Qc K false ad ((qTX c), (qLX c), (qPX c), M0) ((fun (_ : q_MM) => none) res) ((fun (res : q_MM) => ((qTX c), (qLX c), (qPX c), res)) res) A) args s 0 0 A) (k20 x2 x3 M) 20 [(0, .ref 4), (2, .int x2), (3, .int x3)] [] ((qTX c), (qLX c), (qPX c), M) 0 0) (x2 : Int32) (x3 : Int32) (s0 : Int32) (s1 : Int32) (s2 : Nat) (M : q_MM), GG p l e { frames := 3, cells := 0, slots := 0, locals := 71 } s m args below meth c0 K A ((qTX c), (qLX c), (qPX c), M0) ad false 5 (fun res => MQ below (q_Qc K false ad ((qTX c), (qLX c), (qPX c), M0) ((fun (_ : q_MM) => none) res) ((fun (res : q_MM) => ((qTX c), (qLX c), (qPX c), res)) res) A) args s 0 0 A) (b_X6_weigh_79 c k20 x2 x3 s0 s1 s2 M) 79 [(0, .ref 4), (2, .int x2), (3, .int x3)] [.int s0, .int s1, .ref s2] ((qTX c), (qLX c), (qPX c), M) 0 0 := by
    intro k20 hk20 x2 x3 s0 s1 s2 M
    unfold b_X6_weigh_79
    refine g_ck (fun hT1 => ?_)
    refine g_isv X hT1 rfl dX6_weigh_79 (fun M2 => ?_)
    refine g_iinc (v := 1) X [(3, .int (x3 + 1)), (0, .ref 4), (2, .int x2)] 2 dX6_weigh_80 rfl (by decide) (by decide) rfl ?_
    refine g_goto X 20 dX6_weigh_83 rfl ?_
    exact g_sub [1, 2, 0] rfl (hk20 x2 (x3 + 1) M2)
  have hb_49 : ∀ (k20 : Int32 → Int32 → q_MM → Option (q_MM)) (hk20 : ∀ (x2 : Int32) (x3 : Int32) (M : q_MM), GG p l e { frames := 3, cells := 0, slots := 0, locals := 71 } s m args below meth c0 K A ((qTX c), (qLX c), (qPX c), M0) ad false 5 (fun res => MQ below (q_Qc K false ad ((qTX c), (qLX c), (qPX c), M0) ((fun (_ : q_MM) => none) res) ((fun (res : q_MM) => ((qTX c), (qLX c), (qPX c), res)) res) A) args s 0 0 A) (k20 x2 x3 M) 20 [(0, .ref 4), (2, .int x2), (3, .int x3)] [] ((qTX c), (qLX c), (qPX c), M) 0 0) (x2 : Int32) (x3 : Int32) (s0 : Int32) (M : q_MM), GG p l e { frames := 3, cells := 0, slots := 0, locals := 71 } s m args below meth c0 K A ((qTX c), (qLX c), (qPX c), M0) ad false 5 (fun res => MQ below (q_Qc K false ad ((qTX c), (qLX c), (qPX c), M0) ((fun (_ : q_MM) => none) res) ((fun (res : q_MM) => ((qTX c), (qLX c), (qPX c), res)) res) A) args s 0 0 A) (b_X6_weigh_49 c k20 x2 x3 s0 M) 49 [(0, .ref 4), (2, .int x2), (3, .int x3)] [.int s0] ((qTX c), (qLX c), (qPX c), M) 0 0 := by
    intro k20 hk20 x2 x3 s0 M
    unfold b_X6_weigh_49
    refine g_istore X [(4, .int s0), (0, .ref 4), (2, .int x2), (3, .int x3)] dX6_weigh_49 (by decide) rfl ?_
    refine g_aload_n X dX6_weigh_51 rfl 1 rfl ?_
    refine g_getr X fa_X6_27 rfl rfl dX6_weigh_52 ?_
    refine g_iload_n X dX6_weigh_55 rfl 2 rfl ?_
    refine g_bipush (v := 7) X dX6_weigh_56 (by decide) ?_
    refine g_imul X dX6_weigh_58 ?_
    refine g_iload_n X dX6_weigh_59 rfl 3 rfl ?_
    refine g_iadd X dX6_weigh_60 ?_
    refine g_iload X dX6_weigh_61 0 rfl ?_
    refine g_iconst (v := (-1)) X dX6_weigh_63 (by decide) ?_
    refine g_icmp_ne X 71 dX6_weigh_64 rfl (fun h3 => ?_) (fun h3 => ?_)
    · refine g_iconst (v := 0) X dX6_weigh_67 (by decide) ?_
      refine g_goto X 79 dX6_weigh_68 rfl ?_
      exact g_sub [1, 2, 3] rfl (hb_79 k20 hk20 x2 x3 0 ((x2 * 7) + x3) 36 M)
    · refine g_aload_n X dX6_weigh_71 rfl 1 rfl ?_
      refine g_iload_n X dX6_weigh_72 rfl 2 rfl ?_
      refine g_iload_n X dX6_weigh_73 rfl 3 rfl ?_
      refine g_iload X dX6_weigh_74 0 rfl ?_
      refine g_bVi (As := [.int x2, .int x3, .int s0]) (rest := [.int ((x2 * 7) + x3), .ref 36]) X (c_X6_worthWith l K c M x2 x3 s0) lk_X6_134 rfl rfl rfl (Nat.le_of_ble_eq_true rfl) ⟨Nat.le_of_ble_eq_true rfl, Nat.le_of_ble_eq_true rfl⟩ ⟨Nat.zero_le _, Nat.zero_le _⟩ dX6_weigh_76 (fun r4 => ?_)
      exact g_sub [1, 2, 3] rfl (hb_79 k20 hk20 x2 x3 r4 ((x2 * 7) + x3) 36 M)
  have hb_20 : ∀ (k14 : Int32 → q_MM → Option (q_MM)) (hk14 : ∀ (x2 : Int32) (M : q_MM), GG p l e { frames := 3, cells := 0, slots := 0, locals := 71 } s m args below meth c0 K A ((qTX c), (qLX c), (qPX c), M0) ad false 5 (fun res => MQ below (q_Qc K false ad ((qTX c), (qLX c), (qPX c), M0) ((fun (_ : q_MM) => none) res) ((fun (res : q_MM) => ((qTX c), (qLX c), (qPX c), res)) res) A) args s 0 0 A) (k14 x2 M) 14 [(0, .ref 4), (2, .int x2)] [] ((qTX c), (qLX c), (qPX c), M) 0 0) (nf : Nat) (x2 : Int32) (x3 : Int32) (M : q_MM), GG p l e { frames := 3, cells := 0, slots := 0, locals := 71 } s m args below meth c0 K A ((qTX c), (qLX c), (qPX c), M0) ad false 5 (fun res => MQ below (q_Qc K false ad ((qTX c), (qLX c), (qPX c), M0) ((fun (_ : q_MM) => none) res) ((fun (res : q_MM) => ((qTX c), (qLX c), (qPX c), res)) res) A) args s 0 0 A) (b_X6_weigh_20 c k14 nf x2 x3 M) 20 [(0, .ref 4), (2, .int x2), (3, .int x3)] [] ((qTX c), (qLX c), (qPX c), M) 0 0 := by
    intro k14 hk14 nf
    induction nf with
    | zero => intros; exact g_stop
    | succ nf ih =>
      intro x2 x3 M
      rw [b_X6_weigh_20]
      refine g_iload_n X dX6_weigh_20 rfl 2 rfl ?_
      refine g_aload_n X dX6_weigh_21 rfl 0 rfl ?_
      refine g_getr X fa_X6_14 rfl rfl dX6_weigh_22 ?_
      refine g_geti X fa_X6_60 rfl dX6_weigh_25 ?_
      refine g_icmp_ge X 86 dX6_weigh_28 rfl (fun h5 => ?_) (fun h5 => ?_)
      · refine g_iinc (v := (-1)) X [(2, .int (x2 + (-1))), (0, .ref 4), (3, .int x3)] 1 dX6_weigh_86 rfl (by decide) (by decide) rfl ?_
        refine g_goto X 14 dX6_weigh_89 rfl ?_
        exact g_sub [1, 0] rfl (hk14 (x2 + (-1)) M)
      · refine g_iload_n X dX6_weigh_31 rfl 1 rfl ?_
        refine g_iload_n X dX6_weigh_32 rfl 2 rfl ?_
        refine g_ishr X dX6_weigh_33 ?_
        refine g_iconst (v := 1) X dX6_weigh_34 (by decide) ?_
        refine g_iand X dX6_weigh_35 ?_
        refine g_if_ne X 43 dX6_weigh_36 rfl (fun h6 => ?_) (fun h6 => ?_)
        · refine g_iconst (v := (-1)) X dX6_weigh_39 (by decide) ?_
          refine g_goto X 49 dX6_weigh_40 rfl ?_
          exact g_sub [0, 1, 2] rfl (hb_49 (b_X6_weigh_20 c k14 nf) ih x2 x3 (-1) M)
        · refine g_aload_n X dX6_weigh_43 rfl 0 rfl ?_
          refine g_iload_n X dX6_weigh_44 rfl 1 rfl ?_
          refine g_iload_n X dX6_weigh_45 rfl 2 rfl ?_
          refine g_bVi (As := [.int x2, .int x3]) (rest := []) X (c_X6_bestNext l K c M x2 x3) lk_X6_120 rfl rfl rfl (Nat.le_of_ble_eq_true rfl) ⟨Nat.le_of_ble_eq_true rfl, Nat.le_of_ble_eq_true rfl⟩ ⟨Nat.zero_le _, Nat.zero_le _⟩ dX6_weigh_46 (fun r7 => ?_)
          exact g_sub [0, 1, 2] rfl (hb_49 (b_X6_weigh_20 c k14 nf) ih x2 x3 r7 M)
  have hb_14 : ∀ (nf : Nat) (x2 : Int32) (M : q_MM), GG p l e { frames := 3, cells := 0, slots := 0, locals := 71 } s m args below meth c0 K A ((qTX c), (qLX c), (qPX c), M0) ad false 5 (fun res => MQ below (q_Qc K false ad ((qTX c), (qLX c), (qPX c), M0) ((fun (_ : q_MM) => none) res) ((fun (res : q_MM) => ((qTX c), (qLX c), (qPX c), res)) res) A) args s 0 0 A) (b_X6_weigh_14 c nf x2 M) 14 [(0, .ref 4), (2, .int x2)] [] ((qTX c), (qLX c), (qPX c), M) 0 0 := by
    intro  nf
    induction nf with
    | zero => intros; exact g_stop
    | succ nf ih =>
      intro x2 M
      rw [b_X6_weigh_14]
      refine g_iload_n X dX6_weigh_14 rfl 1 rfl ?_
      refine g_if_le X 92 dX6_weigh_15 rfl (fun h8 => ?_) (fun h8 => ?_)
      · exact g_vret X rfl rfl rfl dX6_weigh_92
      · refine g_iconst (v := 0) X dX6_weigh_18 (by decide) ?_
        refine g_istore_n X [(3, .int 0), (0, .ref 4), (2, .int x2)] dX6_weigh_19 rfl (by decide) rfl ?_
        exact g_sub [1, 2, 0] rfl (hb_20 (b_X6_weigh_14 c nf) ih q_fu x2 0 M)
  refine g_sub (lv' := [(0, .ref 4)]) [0] rfl ?_
  unfold f_X6_weigh
  refine g_iconst (v := 1) X dX6_weigh_0 (by decide) ?_
  refine g_aload_n X dX6_weigh_1 rfl 0 rfl ?_
  refine g_getr X fa_X6_14 rfl rfl dX6_weigh_2 ?_
  refine g_geti X fa_X6_60 rfl dX6_weigh_5 ?_
  refine g_ishl X dX6_weigh_8 ?_
  refine g_iconst (v := 1) X dX6_weigh_9 (by decide) ?_
  refine g_isub X dX6_weigh_10 ?_
  refine g_isn X (fun v9 => [(1, .int v9), (0, .ref 4)]) dX6_weigh_11 rfl (by decide) (fun _ => rfl) (fun v9 => ?_)
  refine g_iload_n X dX6_weigh_12 rfl 0 rfl ?_
  refine g_istore_n X [(2, .int v9), (1, .int v9), (0, .ref 4)] dX6_weigh_13 rfl (by decide) rfl ?_
  exact g_sub [2, 0] rfl (hb_14 q_fu v9 M0)
set_option maxHeartbeats 4000000 in
set_option maxRecDepth 100000 in
theorem c_X6_find (l : Launch) (K : q_KK) (c : Nat → Nat) (M0 : q_MM) (a1 : Nat) : ∀ res, f_X6_find c M0 a1 = some res → Mt l yX6_find cX6_find 9 (some FieldType.int) 6 130 0 0 false K [.ref 4, .ref a1] ((qTX c), (qLX c), (qPX c), M0) (some (.int res.1)) (((qTX c), (qLX c), (qPX c), res.2)) := by
  refine Mt.of (fun (res : Int32 × q_MM) => some (.int res.1)) (fun (res : Int32 × q_MM) => ((qTX c), (qLX c), (qPX c), res.2)) (by decide) (Nat.le_of_ble_eq_true rfl) ?_
  intro p e s m args below meth c0 A ad X hN
  have hb_134 : ∀ (k53 : Int32 → Int32 → Int32 → Int32 → Int32 → q_MM → Option (Int32 × q_MM)) (hk53 : ∀ (x2 : Int32) (x3 : Int32) (x4 : Int32) (x5 : Int32) (x6 : Int32) (M : q_MM), GG p l e { frames := 6, cells := 0, slots := 0, locals := 130 } s m args below meth c0 K A ((qTX c), (qLX c), (qPX c), M0) ad false 9 (fun res => MQ below (q_Qc K false ad ((qTX c), (qLX c), (qPX c), M0) ((fun (res : Int32 × q_MM) => some (.int res.1)) res) ((fun (res : Int32 × q_MM) => ((qTX c), (qLX c), (qPX c), res.2)) res) A) args s 0 0 A) (k53 x2 x3 x4 x5 x6 M) 53 [(0, .ref 4), (2, .int x2), (3, .int x3), (4, .int x4), (5, .int x5), (6, .int x6)] [] ((qTX c), (qLX c), (qPX c), M) 0 0) (x3 : Int32) (x5 : Int32) (x6 : Int32) (x7 : Int32) (s0 : Int32) (s1 : Int32) (M : q_MM), GG p l e { frames := 6, cells := 0, slots := 0, locals := 130 } s m args below meth c0 K A ((qTX c), (qLX c), (qPX c), M0) ad false 9 (fun res => MQ below (q_Qc K false ad ((qTX c), (qLX c), (qPX c), M0) ((fun (res : Int32 × q_MM) => some (.int res.1)) res) ((fun (res : Int32 × q_MM) => ((qTX c), (qLX c), (qPX c), res.2)) res) A) args s 0 0 A) (b_X6_find_134 c k53 x3 x5 x6 x7 s0 s1 M) 134 [(0, .ref 4), (3, .int x3), (5, .int x5), (6, .int x6), (7, .int x7)] [.int s0, .int s1] ((qTX c), (qLX c), (qPX c), M) 0 0 := by
    intro k53 hk53 x3 x5 x6 x7 s0 s1 M
    unfold b_X6_find_134
    refine g_aload_n X dX6_find_134 rfl 0 rfl ?_
    refine g_getr X fa_X6_40 rfl rfl dX6_find_135 ?_
    refine g_getr X fa_X6_75 rfl rfl dX6_find_138 ?_
    refine g_iconst (v := 1) X dX6_find_141 (by decide) ?_
    refine g_ild X rfl rfl dX6_find_142 (fun v1 => ?_)
    refine g_iadd X dX6_find_143 ?_
    refine g_iadd X dX6_find_144 ?_
    refine g_isn X (fun v2 => [(2, .int v2), (0, .ref 4), (3, .int x3), (5, .int x5), (6, .int x6), (7, .int x7)]) dX6_find_145 rfl (by decide) (fun _ => rfl) (fun v2 => ?_)
    refine g_iload_n X dX6_find_146 rfl 2 rfl ?_
    refine g_iconst (v := 1) X dX6_find_147 (by decide) ?_
    refine g_iload X dX6_find_148 5 rfl ?_
    refine g_ishl X dX6_find_150 ?_
    refine g_ior X dX6_find_151 ?_
    refine g_isn X (fun v3 => [(3, .int v3), (2, .int v2), (0, .ref 4), (5, .int x5), (6, .int x6), (7, .int x7)]) dX6_find_152 rfl (by decide) (fun _ => rfl) (fun v3 => ?_)
    refine g_iload X dX6_find_153 5 rfl ?_
    refine g_istore X [(4, .int x7), (3, .int v3), (2, .int v2), (0, .ref 4), (5, .int x5), (6, .int x6), (7, .int x7)] dX6_find_155 (by decide) rfl ?_
    refine g_iinc (v := 1) X [(6, .int (x6 + 1)), (4, .int x7), (3, .int v3), (2, .int v2), (0, .ref 4), (5, .int x5), (7, .int x7)] 5 dX6_find_157 rfl (by decide) (by decide) rfl ?_
    refine g_goto X 53 dX6_find_160 rfl ?_
    exact g_sub [4, 3, 2, 1, 5, 0] rfl (hk53 v2 v3 x7 x5 (x6 + 1) M)
  have hb_53 : ∀ (nf : Nat) (x2 : Int32) (x3 : Int32) (x4 : Int32) (x5 : Int32) (x6 : Int32) (M : q_MM), GG p l e { frames := 6, cells := 0, slots := 0, locals := 130 } s m args below meth c0 K A ((qTX c), (qLX c), (qPX c), M0) ad false 9 (fun res => MQ below (q_Qc K false ad ((qTX c), (qLX c), (qPX c), M0) ((fun (res : Int32 × q_MM) => some (.int res.1)) res) ((fun (res : Int32 × q_MM) => ((qTX c), (qLX c), (qPX c), res.2)) res) A) args s 0 0 A) (b_X6_find_53 c nf x2 x3 x4 x5 x6 M) 53 [(0, .ref 4), (2, .int x2), (3, .int x3), (4, .int x4), (5, .int x5), (6, .int x6)] [] ((qTX c), (qLX c), (qPX c), M) 0 0 := by
    intro  nf
    induction nf with
    | zero => intros; exact g_stop
    | succ nf ih =>
      intro x2 x3 x4 x5 x6 M
      rw [b_X6_find_53]
      refine g_iload X dX6_find_53 5 rfl ?_
      refine g_aload_n X dX6_find_55 rfl 0 rfl ?_
      refine g_getr X fa_X6_14 rfl rfl dX6_find_56 ?_
      refine g_geti X fa_X6_60 rfl dX6_find_59 ?_
      refine g_icmp_ge X 163 dX6_find_62 rfl (fun h4 => ?_) (fun h4 => ?_)
      · refine g_iload X dX6_find_163 4 rfl ?_
        exact g_iret X rfl rfl rfl dX6_find_165
      · refine g_aload_n X dX6_find_65 rfl 0 rfl ?_
        refine g_iload_n X dX6_find_66 rfl 2 rfl ?_
        refine g_iload X dX6_find_67 3 rfl ?_
        refine g_bVi (As := [.int x3, .int x4]) (rest := []) X (c_X6_bestNext l K c M x3 x4) lk_X6_120 rfl rfl rfl (Nat.le_of_ble_eq_true rfl) ⟨Nat.le_of_ble_eq_true rfl, Nat.le_of_ble_eq_true rfl⟩ ⟨Nat.zero_le _, Nat.zero_le _⟩ dX6_find_69 (fun r5 => ?_)
        refine g_istore X [(7, .int r5), (0, .ref 4), (2, .int x2), (3, .int x3), (4, .int x4), (5, .int x5), (6, .int x6)] dX6_find_72 (by decide) rfl ?_
        refine g_iload X dX6_find_74 5 rfl ?_
        refine g_aload_n X dX6_find_76 rfl 1 rfl ?_
        refine g_iload X dX6_find_77 4 rfl ?_
        refine g_iload X dX6_find_79 0 rfl ?_
        refine g_bVi (As := [.int x4, .int r5]) (rest := [.int x5]) X (c_X6_likingBehind l K c M x4 r5) lk_X6_124 rfl rfl rfl (Nat.le_of_ble_eq_true rfl) ⟨Nat.le_of_ble_eq_true rfl, Nat.le_of_ble_eq_true rfl⟩ ⟨Nat.zero_le _, Nat.zero_le _⟩ dX6_find_81 (fun r6 => ?_)
        refine g_iadd X dX6_find_84 ?_
        refine g_is X (fun v7 => [(5, .int v7), (7, .int r5), (0, .ref 4), (2, .int x2), (3, .int x3), (4, .int x4), (6, .int x6)]) dX6_find_85 (by decide) (fun _ => rfl) (fun v7 => ?_)
        refine g_aload_n X dX6_find_87 rfl 2 rfl ?_
        refine g_iload X dX6_find_88 1 rfl ?_
        refine g_bVr (As := [.int r5]) (rest := []) X (c_X6_chosenAt l K c M r5) lk_X6_78 rfl rfl rfl (Nat.le_of_ble_eq_true rfl) ⟨Nat.le_of_ble_eq_true rfl, Nat.le_of_ble_eq_true rfl⟩ ⟨Nat.zero_le _, Nat.zero_le _⟩ dX6_find_90 (fun r8 => ?_)
        refine g_astore X [(8, .ref r8), (5, .int v7), (7, .int r5), (0, .ref 4), (2, .int x2), (3, .int x3), (4, .int x4), (6, .int x6)] dX6_find_93 (by decide) rfl ?_
        refine g_aload_n X dX6_find_95 rfl 3 rfl ?_
        refine g_getr X fa_X6_30 rfl rfl dX6_find_96 ?_
        refine g_aload_n X dX6_find_99 rfl 3 rfl ?_
        refine g_getr X fa_X6_14 rfl rfl dX6_find_100 ?_
        refine g_iload X dX6_find_103 2 rfl ?_
        refine g_bVi (As := [.int r5]) (rest := [.ref 37]) X (c_X4_get l K c M 33 r5) lk_X6_63 rfl rfl rfl (Nat.le_of_ble_eq_true rfl) ⟨Nat.le_of_ble_eq_true rfl, Nat.le_of_ble_eq_true rfl⟩ ⟨Nat.zero_le _, Nat.zero_le _⟩ dX6_find_105 (fun r9 => ?_)
        refine g_bVv (As := [.int r9]) (rest := []) X (c_X4_add l K c M 37 r9) lk_X6_53 rfl rfl rfl (Nat.le_of_ble_eq_true rfl) ⟨Nat.le_of_ble_eq_true rfl, Nat.le_of_ble_eq_true rfl⟩ ⟨Nat.zero_le _, Nat.zero_le _⟩ dX6_find_108 (fun r10 => ?_)
        refine g_aload_n X dX6_find_111 rfl 3 rfl ?_
        refine g_getr X fa_X6_33 rfl rfl dX6_find_112 ?_
        refine g_iload_n X dX6_find_115 rfl 4 rfl ?_
        refine g_bVv (As := [.int x2]) (rest := []) X (c_X4_add l K c r10 38 x2) lk_X6_53 rfl rfl rfl (Nat.le_of_ble_eq_true rfl) ⟨Nat.le_of_ble_eq_true rfl, Nat.le_of_ble_eq_true rfl⟩ ⟨Nat.zero_le _, Nat.zero_le _⟩ dX6_find_116 (fun r11 => ?_)
        refine g_iload_n X dX6_find_119 rfl 4 rfl ?_
        refine g_aload X dX6_find_120 0 rfl ?_
        refine g_ifnonnull X 129 dX6_find_122 rfl (fun h12 => ?_) (fun h12 => ?_)
        · refine g_iconst (v := 0) X dX6_find_125 (by decide) ?_
          refine g_goto X 134 dX6_find_126 rfl ?_
          exact g_sub [3, 5, 1, 7, 2] rfl (hb_134 (b_X6_find_53 c nf) ih x3 v7 x6 r5 0 x2 r11)
        · refine g_aload X dX6_find_129 0 rfl ?_
          refine g_ck (fun hT13 => ?_)
          refine g_geti X fa_X6_81 hT13 dX6_find_131 ?_
          exact g_sub [3, 5, 1, 7, 2] rfl (hb_134 (b_X6_find_53 c nf) ih x3 v7 x6 r5 (r11 r8 1) x2 r11)
  refine g_sub (lv' := [(0, .ref 4), (1, .ref a1)]) [0, 1] rfl ?_
  unfold f_X6_find
  refine g_aload_n X dX6_find_0 rfl 0 rfl ?_
  refine g_bVv (As := []) (rest := []) X (c_X6_compare l K c M0) lk_X6_111 rfl rfl rfl (Nat.le_of_ble_eq_true rfl) ⟨Nat.le_of_ble_eq_true rfl, Nat.le_of_ble_eq_true rfl⟩ ⟨Nat.zero_le _, Nat.zero_le _⟩ dX6_find_1 (fun r14 => ?_)
  refine g_aload_n X dX6_find_4 rfl 0 rfl ?_
  refine g_bVv (As := []) (rest := []) X (c_X6_weigh l K c r14) lk_X6_114 rfl rfl rfl (Nat.le_of_ble_eq_true rfl) ⟨Nat.le_of_ble_eq_true rfl, Nat.le_of_ble_eq_true rfl⟩ ⟨Nat.zero_le _, Nat.zero_le _⟩ dX6_find_5 (fun r15 => ?_)
  refine g_aload_n X dX6_find_8 rfl 0 rfl ?_
  refine g_aload_n X dX6_find_9 rfl 1 rfl ?_
  refine g_ck (fun hT16 => ?_)
  refine g_geti X fa_X6_117 hT16 dX6_find_10 ?_
  refine g_pfi X fa_X6_36 rfl (by decide +kernel) rfl dX6_find_13 (fun M17 => ?_)
  refine g_aload_n X dX6_find_16 rfl 0 rfl ?_
  refine g_getr X fa_X6_30 rfl rfl dX6_find_17 ?_
  refine g_bVv (As := []) (rest := []) X (c_X4_clear l K c M17 37) lk_X6_50 rfl rfl rfl (Nat.le_of_ble_eq_true rfl) ⟨Nat.le_of_ble_eq_true rfl, Nat.le_of_ble_eq_true rfl⟩ ⟨Nat.zero_le _, Nat.zero_le _⟩ dX6_find_20 (fun r18 => ?_)
  refine g_aload_n X dX6_find_23 rfl 0 rfl ?_
  refine g_getr X fa_X6_33 rfl rfl dX6_find_24 ?_
  refine g_bVv (As := []) (rest := []) X (c_X4_clear l K c r18 38) lk_X6_50 rfl rfl rfl (Nat.le_of_ble_eq_true rfl) ⟨Nat.le_of_ble_eq_true rfl, Nat.le_of_ble_eq_true rfl⟩ ⟨Nat.zero_le _, Nat.zero_le _⟩ dX6_find_27 (fun r19 => ?_)
  refine g_aload_n X dX6_find_30 rfl 1 rfl ?_
  refine g_geti X fa_X6_108 hT16 dX6_find_31 ?_
  refine g_aload_n X dX6_find_34 rfl 0 rfl ?_
  refine g_bVi (As := []) (rest := [.int (r19 a1 2)]) X (c_X6_lengthOfAll l K c r19) lk_X6_104 rfl rfl rfl (Nat.le_of_ble_eq_true rfl) ⟨Nat.le_of_ble_eq_true rfl, Nat.le_of_ble_eq_true rfl⟩ ⟨Nat.zero_le _, Nat.zero_le _⟩ dX6_find_35 (fun r20 => ?_)
  refine g_isub X dX6_find_38 ?_
  refine g_iconst (v := 2) X dX6_find_39 (by decide) ?_
  refine g_idiv X dX6_find_40 ?_
  refine g_isn X (fun v21 => [(2, .int v21), (0, .ref 4), (1, .ref a1)]) dX6_find_41 rfl (by decide) (fun _ => rfl) (fun v21 => ?_)
  refine g_iconst (v := 0) X dX6_find_42 (by decide) ?_
  refine g_istore_n X [(3, .int 0), (2, .int v21), (0, .ref 4), (1, .ref a1)] dX6_find_43 rfl (by decide) rfl ?_
  refine g_iconst (v := (-1)) X dX6_find_44 (by decide) ?_
  refine g_istore X [(4, .int (-1)), (3, .int 0), (2, .int v21), (0, .ref 4), (1, .ref a1)] dX6_find_45 (by decide) rfl ?_
  refine g_iconst (v := 0) X dX6_find_47 (by decide) ?_
  refine g_istore X [(5, .int 0), (4, .int (-1)), (3, .int 0), (2, .int v21), (0, .ref 4), (1, .ref a1)] dX6_find_48 (by decide) rfl ?_
  refine g_iconst (v := 0) X dX6_find_50 (by decide) ?_
  refine g_istore X [(6, .int 0), (5, .int 0), (4, .int (-1)), (3, .int 0), (2, .int v21), (0, .ref 4), (1, .ref a1)] dX6_find_51 (by decide) rfl ?_
  exact g_sub [5, 4, 3, 2, 1, 0] rfl (hb_53 q_fu v21 0 (-1) 0 0 r19)
set_option maxHeartbeats 4000000 in
set_option maxRecDepth 100000 in
theorem c_X6_putUp (l : Launch) (K : q_KK) (c : Nat → Nat) (M0 : q_MM) : ∀ res, f_X6_putUp c M0 = some res → Mt l yX6_putUp cX6_putUp 2 (none : Option FieldType) 2 44 0 0 false K [.ref 4] ((qTX c), (qLX c), (qPX c), M0) (none) (((qTX c), (qLX c), (qPX c), res)) := by
  refine Mt.of (fun (_ : q_MM) => none) (fun (res : q_MM) => ((qTX c), (qLX c), (qPX c), res)) (by decide) (Nat.le_of_ble_eq_true rfl) ?_
  intro p e s m args below meth c0 A ad X hN
  have hb_37 : ∀ (k2 : Int32 → q_MM → Option (q_MM)) (hk2 : ∀ (x1 : Int32) (M : q_MM), GG p l e { frames := 2, cells := 0, slots := 0, locals := 44 } s m args below meth c0 K A ((qTX c), (qLX c), (qPX c), M0) ad false 2 (fun res => MQ below (q_Qc K false ad ((qTX c), (qLX c), (qPX c), M0) ((fun (_ : q_MM) => none) res) ((fun (res : q_MM) => ((qTX c), (qLX c), (qPX c), res)) res) A) args s 0 0 A) (k2 x1 M) 2 [(0, .ref 4), (1, .int x1)] [] ((qTX c), (qLX c), (qPX c), M) 0 0) (x1 : Int32) (M : q_MM), GG p l e { frames := 2, cells := 0, slots := 0, locals := 44 } s m args below meth c0 K A ((qTX c), (qLX c), (qPX c), M0) ad false 2 (fun res => MQ below (q_Qc K false ad ((qTX c), (qLX c), (qPX c), M0) ((fun (_ : q_MM) => none) res) ((fun (res : q_MM) => ((qTX c), (qLX c), (qPX c), res)) res) A) args s 0 0 A) (b_X6_putUp_37 c k2 x1 M) 37 [(0, .ref 4), (1, .int x1)] [] ((qTX c), (qLX c), (qPX c), M) 0 0 := by
    intro k2 hk2 x1 M
    unfold b_X6_putUp_37
    refine g_iinc (v := 1) X [(1, .int (x1 + 1)), (0, .ref 4)] 1 dX6_putUp_37 rfl (by decide) (by decide) rfl ?_
    refine g_goto X 2 dX6_putUp_40 rfl ?_
    exact g_sub [1, 0] rfl (hk2 (x1 + 1) M)
  have hb_45 : ∀ (nf : Nat) (x1 : Int32) (M : q_MM), GG p l e { frames := 2, cells := 0, slots := 0, locals := 44 } s m args below meth c0 K A ((qTX c), (qLX c), (qPX c), M0) ad false 2 (fun res => MQ below (q_Qc K false ad ((qTX c), (qLX c), (qPX c), M0) ((fun (_ : q_MM) => none) res) ((fun (res : q_MM) => ((qTX c), (qLX c), (qPX c), res)) res) A) args s 0 0 A) (b_X6_putUp_45 c nf x1 M) 45 [(0, .ref 4), (1, .int x1)] [] ((qTX c), (qLX c), (qPX c), M) 0 0 := by
    intro  nf
    induction nf with
    | zero => intros; exact g_stop
    | succ nf ih =>
      intro x1 M
      rw [b_X6_putUp_45]
      refine g_iload_n X dX6_putUp_45 rfl 1 rfl ?_
      refine g_aload_n X dX6_putUp_46 rfl 0 rfl ?_
      refine g_getr X fa_X6_30 rfl rfl dX6_putUp_47 ?_
      refine g_geti X fa_X6_60 rfl dX6_putUp_50 ?_
      refine g_icmp_ge X 92 dX6_putUp_53 rfl (fun h1 => ?_) (fun h1 => ?_)
      · refine g_aload_n X dX6_putUp_92 rfl 0 rfl ?_
        refine g_getr X fa_X6_30 rfl rfl dX6_putUp_93 ?_
        refine g_bVv (As := []) (rest := []) X (c_X4_clear l K c M 37) lk_X6_50 rfl rfl rfl (Nat.le_of_ble_eq_true rfl) ⟨Nat.le_of_ble_eq_true rfl, Nat.le_of_ble_eq_true rfl⟩ ⟨Nat.zero_le _, Nat.zero_le _⟩ dX6_putUp_96 (fun r2 => ?_)
        exact g_vret X rfl rfl rfl dX6_putUp_99
      · refine g_aload_n X dX6_putUp_56 rfl 0 rfl ?_
        refine g_getr X fa_X6_40 rfl rfl dX6_putUp_57 ?_
        refine g_getr X fa_X6_142 rfl rfl dX6_putUp_60 ?_
        refine g_aload_n X dX6_putUp_63 rfl 0 rfl ?_
        refine g_getr X fa_X6_30 rfl rfl dX6_putUp_64 ?_
        refine g_iload_n X dX6_putUp_67 rfl 1 rfl ?_
        refine g_bVi (As := [.int x1]) (rest := [.ref 21]) X (c_X4_get l K c M 37 x1) lk_X6_63 rfl rfl rfl (Nat.le_of_ble_eq_true rfl) ⟨Nat.le_of_ble_eq_true rfl, Nat.le_of_ble_eq_true rfl⟩ ⟨Nat.zero_le _, Nat.zero_le _⟩ dX6_putUp_68 (fun r3 => ?_)
        refine g_aload_n X dX6_putUp_71 rfl 0 rfl ?_
        refine g_geti X fa_X6_36 rfl dX6_putUp_72 ?_
        refine g_aload_n X dX6_putUp_75 rfl 0 rfl ?_
        refine g_getr X fa_X6_33 rfl rfl dX6_putUp_76 ?_
        refine g_iload_n X dX6_putUp_79 rfl 1 rfl ?_
        refine g_bVi (As := [.int x1]) (rest := [.int (M 4 7), .int r3, .ref 21]) X (c_X4_get l K c M 38 x1) lk_X6_63 rfl rfl rfl (Nat.le_of_ble_eq_true rfl) ⟨Nat.le_of_ble_eq_true rfl, Nat.le_of_ble_eq_true rfl⟩ ⟨Nat.zero_le _, Nat.zero_le _⟩ dX6_putUp_80 (fun r4 => ?_)
        refine g_bVv (As := [.int r3, .int (M 4 7), .int r4]) (rest := []) X (c_X1_put l K c M 21 r3 (M 4 7) r4) lk_X6_154 rfl rfl rfl (Nat.le_of_ble_eq_true rfl) ⟨Nat.le_of_ble_eq_true rfl, Nat.le_of_ble_eq_true rfl⟩ ⟨Nat.zero_le _, Nat.zero_le _⟩ dX6_putUp_83 (fun r5 => ?_)
        refine g_iinc (v := 1) X [(1, .int (x1 + 1)), (0, .ref 4)] 1 dX6_putUp_86 rfl (by decide) (by decide) rfl ?_
        refine g_goto X 45 dX6_putUp_89 rfl ?_
        exact g_sub [1, 0] rfl (ih (x1 + 1) r5)
  have hb_2 : ∀ (nf : Nat) (x1 : Int32) (M : q_MM), GG p l e { frames := 2, cells := 0, slots := 0, locals := 44 } s m args below meth c0 K A ((qTX c), (qLX c), (qPX c), M0) ad false 2 (fun res => MQ below (q_Qc K false ad ((qTX c), (qLX c), (qPX c), M0) ((fun (_ : q_MM) => none) res) ((fun (res : q_MM) => ((qTX c), (qLX c), (qPX c), res)) res) A) args s 0 0 A) (b_X6_putUp_2 c nf x1 M) 2 [(0, .ref 4), (1, .int x1)] [] ((qTX c), (qLX c), (qPX c), M) 0 0 := by
    intro  nf
    induction nf with
    | zero => intros; exact g_stop
    | succ nf ih =>
      intro x1 M
      rw [b_X6_putUp_2]
      refine g_iload_n X dX6_putUp_2 rfl 1 rfl ?_
      refine g_bipush (v := 24) X dX6_putUp_3 (by decide) ?_
      refine g_icmp_ge X 43 dX6_putUp_5 rfl (fun h6 => ?_) (fun h6 => ?_)
      · refine g_iconst (v := 0) X dX6_putUp_43 (by decide) ?_
        refine g_istore_n X [(1, .int 0), (0, .ref 4)] dX6_putUp_44 rfl (by decide) rfl ?_
        exact g_sub [1, 0] rfl (hb_45 q_fu 0 M)
      · refine g_aload_n X dX6_putUp_8 rfl 0 rfl ?_
        refine g_getr X fa_X6_40 rfl rfl dX6_putUp_9 ?_
        refine g_getr X fa_X6_142 rfl rfl dX6_putUp_12 ?_
        refine g_iload_n X dX6_putUp_15 rfl 1 rfl ?_
        refine g_bVi (As := [.int x1]) (rest := []) X (c_X1_wallUnder l K c M 21 x1) lk_X6_146 rfl rfl rfl (Nat.le_of_ble_eq_true rfl) ⟨Nat.le_of_ble_eq_true rfl, Nat.le_of_ble_eq_true rfl⟩ ⟨Nat.zero_le _, Nat.zero_le _⟩ dX6_putUp_16 (fun r7 => ?_)
        refine g_aload_n X dX6_putUp_19 rfl 0 rfl ?_
        refine g_geti X fa_X6_36 rfl dX6_putUp_20 ?_
        refine g_icmp_ne X 37 dX6_putUp_23 rfl (fun h8 => ?_) (fun h8 => ?_)
        · refine g_aload_n X dX6_putUp_26 rfl 0 rfl ?_
          refine g_getr X fa_X6_40 rfl rfl dX6_putUp_27 ?_
          refine g_getr X fa_X6_142 rfl rfl dX6_putUp_30 ?_
          refine g_iload_n X dX6_putUp_33 rfl 1 rfl ?_
          refine g_bVv (As := [.int x1]) (rest := []) X (c_X1_take l K c M 21 x1) lk_X6_151 rfl rfl rfl (Nat.le_of_ble_eq_true rfl) ⟨Nat.le_of_ble_eq_true rfl, Nat.le_of_ble_eq_true rfl⟩ ⟨Nat.zero_le _, Nat.zero_le _⟩ dX6_putUp_34 (fun r9 => ?_)
          exact g_sub [0, 1] rfl (hb_37 (b_X6_putUp_2 c nf) ih x1 r9)
        · exact g_sub [0, 1] rfl (hb_37 (b_X6_putUp_2 c nf) ih x1 M)
  refine g_sub (lv' := [(0, .ref 4)]) [0] rfl ?_
  unfold f_X6_putUp
  refine g_iconst (v := 0) X dX6_putUp_0 (by decide) ?_
  refine g_istore_n X [(1, .int 0), (0, .ref 4)] dX6_putUp_1 rfl (by decide) rfl ?_
  exact g_sub [1, 0] rfl (hb_2 q_fu 0 M0)
set_option maxHeartbeats 4000000 in
set_option maxRecDepth 100000 in
theorem c_X8_isDigit (l : Launch) (K : q_KK) (c : Nat → Nat) (M : q_MM) (a1 : Int32) : ∀ res, f_X8_isDigit c M a1 = some res → Mt l yX8_isDigit cX8_isDigit 1 (some FieldType.boolean) 0 0 0 0 false K [.int a1] ((qTX c), (qLX c), (qPX c), M) (some (.int res)) (((qTX c), (qLX c), (qPX c), M)) := by
  refine Mt.of (fun (res : Int32) => some (.int res)) (fun (_ : Int32) => ((qTX c), (qLX c), (qPX c), M)) (by decide) (Nat.le_of_ble_eq_true rfl) ?_
  intro p e s m args below meth c0 A ad X hN
  refine g_sub (lv' := [(0, .int a1)]) [0] rfl ?_
  unfold f_X8_isDigit
  refine g_iload_n X dX8_isDigit_0 rfl 0 rfl ?_
  refine g_bipush (v := 48) X dX8_isDigit_1 (by decide) ?_
  refine g_icmp_lt X 16 dX8_isDigit_3 rfl (fun h1 => ?_) (fun h1 => ?_)
  · refine g_iconst (v := 0) X dX8_isDigit_16 (by decide) ?_
    exact g_zret X rfl rfl rfl dX8_isDigit_17
  · refine g_iload_n X dX8_isDigit_6 rfl 0 rfl ?_
    refine g_bipush (v := 57) X dX8_isDigit_7 (by decide) ?_
    refine g_icmp_gt X 16 dX8_isDigit_9 rfl (fun h2 => ?_) (fun h2 => ?_)
    · refine g_iconst (v := 0) X dX8_isDigit_16 (by decide) ?_
      exact g_zret X rfl rfl rfl dX8_isDigit_17
    · refine g_iconst (v := 1) X dX8_isDigit_12 (by decide) ?_
      refine g_goto X 17 dX8_isDigit_13 rfl ?_
      exact g_zret X rfl rfl rfl dX8_isDigit_17
set_option maxHeartbeats 4000000 in
set_option maxRecDepth 100000 in
theorem c_X8_beginsThing (l : Launch) (K : q_KK) (c : Nat → Nat) (M0 : q_MM) (a1 : Int32) : ∀ res, f_X8_beginsThing c M0 a1 = some res → Mt l yX8_beginsThing cX8_beginsThing 3 (some FieldType.boolean) 4 91 0 0 false K [.ref 28, .int a1] ((qTX c), (qLX c), (qPX c), M0) (some (.int res.1)) (((qTX c), (qLX c), (qPX c), res.2)) := by
  refine Mt.of (fun (res : Int32 × q_MM) => some (.int res.1)) (fun (res : Int32 × q_MM) => ((qTX c), (qLX c), (qPX c), res.2)) (by decide) (Nat.le_of_ble_eq_true rfl) ?_
  intro p e s m args below meth c0 A ad X hN
  have hb_63 : ∀ (s0 : Int32) (s1 : Nat) (M : q_MM), GG p l e { frames := 4, cells := 0, slots := 0, locals := 91 } s m args below meth c0 K A ((qTX c), (qLX c), (qPX c), M0) ad false 3 (fun res => MQ below (q_Qc K false ad ((qTX c), (qLX c), (qPX c), M0) ((fun (res : Int32 × q_MM) => some (.int res.1)) res) ((fun (res : Int32 × q_MM) => ((qTX c), (qLX c), (qPX c), res.2)) res) A) args s 0 0 A) (b_X8_beginsThing_63 c s0 s1 M) 63 [] [.int s0, .ref s1] ((qTX c), (qLX c), (qPX c), M) 0 0 := by
    intro s0 s1 M
    unfold b_X8_beginsThing_63
    refine g_ck (fun hT1 => ?_)
    refine g_bVv (As := [.int s0]) (rest := []) X (c_X4_add l K c M s1 s0) lk_X8_74 hT1 rfl rfl (Nat.le_of_ble_eq_true rfl) ⟨Nat.le_of_ble_eq_true rfl, Nat.le_of_ble_eq_true rfl⟩ ⟨Nat.zero_le _, Nat.zero_le _⟩ dX8_beginsThing_63 (fun r2 => ?_)
    refine g_goto X 126 dX8_beginsThing_66 rfl ?_
    refine g_iconst (v := 1) X dX8_beginsThing_126 (by decide) ?_
    exact g_zret X rfl rfl rfl dX8_beginsThing_127
  have hb_47 : ∀ (x1 : Int32) (M : q_MM), GG p l e { frames := 4, cells := 0, slots := 0, locals := 91 } s m args below meth c0 K A ((qTX c), (qLX c), (qPX c), M0) ad false 3 (fun res => MQ below (q_Qc K false ad ((qTX c), (qLX c), (qPX c), M0) ((fun (res : Int32 × q_MM) => some (.int res.1)) res) ((fun (res : Int32 × q_MM) => ((qTX c), (qLX c), (qPX c), res.2)) res) A) args s 0 0 A) (b_X8_beginsThing_47 c x1 M) 47 [(0, .ref 28), (1, .int x1)] [] ((qTX c), (qLX c), (qPX c), M) 0 0 := by
    intro x1 M
    unfold b_X8_beginsThing_47
    refine g_aload_n X dX8_beginsThing_47 rfl 0 rfl ?_
    refine g_getr X fa_X8_20 rfl rfl dX8_beginsThing_48 ?_
    refine g_iload_n X dX8_beginsThing_51 rfl 1 rfl ?_
    refine g_bipush (v := 45) X dX8_beginsThing_52 (by decide) ?_
    refine g_icmp_ne X 62 dX8_beginsThing_54 rfl (fun h3 => ?_) (fun h3 => ?_)
    · refine g_bipush (v := 126) X dX8_beginsThing_57 (by decide) ?_
      refine g_goto X 63 dX8_beginsThing_59 rfl ?_
      exact g_sub [] rfl (hb_63 126 32 M)
    · refine g_iload_n X dX8_beginsThing_62 rfl 1 rfl ?_
      exact g_sub [] rfl (hb_63 x1 32 M)
  refine g_sub (lv' := [(0, .ref 28), (1, .int a1)]) [0, 1] rfl ?_
  unfold f_X8_beginsThing
  refine g_ldcs (i := 0) (tx := "rwplnsbkftya") X (by decide +kernel) rfl dX8_beginsThing_0 ?_
  refine g_iload_n X dX8_beginsThing_2 rfl 1 rfl ?_
  refine g_i2c X dX8_beginsThing_3 ?_
  refine g_bXi (As := [.int (Int32.toUInt32 a1 % 65536).toInt32]) (rest := []) X (c_J0_indexOf_0f7a4 l K (qTX c) (qLX c) (qPX c) M0 900 (Int32.toUInt32 a1 % 65536).toInt32) lk_X8_69 (by decide) rfl rfl (Nat.le_of_ble_eq_true rfl) ⟨Nat.le_of_ble_eq_true rfl, Nat.le_of_ble_eq_true rfl⟩ ⟨Nat.zero_le _, Nat.zero_le _⟩ dX8_beginsThing_4 (fun r4 => ?_)
  refine g_istore_n X [(2, .int r4), (0, .ref 28), (1, .int a1)] dX8_beginsThing_7 rfl (by decide) rfl ?_
  refine g_iload_n X dX8_beginsThing_8 rfl 2 rfl ?_
  refine g_bipush (v := 40) X dX8_beginsThing_9 (by decide) ?_
  refine g_icmp_ne X 35 dX8_beginsThing_11 rfl (fun h5 => ?_) (fun h5 => ?_)
  · refine g_aload_n X dX8_beginsThing_14 rfl 1 rfl ?_
    refine g_dup X dX8_beginsThing_15 rfl ?_
    refine g_geti X fa_X8_34 rfl dX8_beginsThing_16 ?_
    refine g_iconst (v := 1) X dX8_beginsThing_19 (by decide) ?_
    refine g_iadd X dX8_beginsThing_20 ?_
    refine g_pfi X fa_X8_34 rfl (by decide +kernel) rfl dX8_beginsThing_21 (fun M6 => ?_)
    refine g_aload_n X dX8_beginsThing_24 rfl 1 rfl ?_
    refine g_getr X fa_X8_20 rfl rfl dX8_beginsThing_25 ?_
    refine g_iload_n X dX8_beginsThing_28 rfl 2 rfl ?_
    refine g_bVv (As := [.int a1]) (rest := []) X (c_X4_add l K c M6 32 a1) lk_X8_74 rfl rfl rfl (Nat.le_of_ble_eq_true rfl) ⟨Nat.le_of_ble_eq_true rfl, Nat.le_of_ble_eq_true rfl⟩ ⟨Nat.zero_le _, Nat.zero_le _⟩ dX8_beginsThing_29 (fun r7 => ?_)
    refine g_goto X 126 dX8_beginsThing_32 rfl ?_
    refine g_iconst (v := 1) X dX8_beginsThing_126 (by decide) ?_
    exact g_zret X rfl rfl rfl dX8_beginsThing_127
  · refine g_iload_n X dX8_beginsThing_35 rfl 2 rfl ?_
    refine g_bipush (v := 33) X dX8_beginsThing_36 (by decide) ?_
    refine g_icmp_eq X 47 dX8_beginsThing_38 rfl (fun h8 => ?_) (fun h8 => ?_)
    · exact g_sub [1, 2] rfl (hb_47 a1 M0)
    · refine g_iload_n X dX8_beginsThing_41 rfl 2 rfl ?_
      refine g_bipush (v := 45) X dX8_beginsThing_42 (by decide) ?_
      refine g_icmp_ne X 69 dX8_beginsThing_44 rfl (fun h9 => ?_) (fun h9 => ?_)
      · exact g_sub [1, 2] rfl (hb_47 a1 M0)
      · refine g_iload_n X dX8_beginsThing_69 rfl 2 rfl ?_
        refine g_bSi (As := [.int a1]) (rest := []) X (c_X8_isDigit l K c M0 a1) lk_X8_54 rfl rfl (Nat.le_of_ble_eq_true rfl) ⟨Nat.le_of_ble_eq_true rfl, Nat.le_of_ble_eq_true rfl⟩ ⟨Nat.zero_le _, Nat.zero_le _⟩ dX8_beginsThing_70 (fun r10 => ?_)
        refine g_if_eq X 100 dX8_beginsThing_73 rfl (fun h11 => ?_) (fun h11 => ?_)
        · refine g_iload_n X dX8_beginsThing_100 rfl 0 rfl ?_
          refine g_if_lt X 124 dX8_beginsThing_101 rfl (fun h12 => ?_) (fun h12 => ?_)
          · refine g_iconst (v := 0) X dX8_beginsThing_124 (by decide) ?_
            exact g_zret X rfl rfl rfl dX8_beginsThing_125
          · refine g_aload_n X dX8_beginsThing_104 rfl 1 rfl ?_
            refine g_getr X fa_X8_14 rfl rfl dX8_beginsThing_105 ?_
            refine g_sipush (v := 10000) X dX8_beginsThing_108 (by decide) ?_
            refine g_iload_n X dX8_beginsThing_111 rfl 0 rfl ?_
            refine g_iadd X dX8_beginsThing_112 ?_
            refine g_bVv (As := [.int ((10000 : Int32) + r4)]) (rest := []) X (c_X4_add l K c M0 31 ((10000 : Int32) + r4)) lk_X8_74 rfl rfl rfl (Nat.le_of_ble_eq_true rfl) ⟨Nat.le_of_ble_eq_true rfl, Nat.le_of_ble_eq_true rfl⟩ ⟨Nat.zero_le _, Nat.zero_le _⟩ dX8_beginsThing_113 (fun r13 => ?_)
            refine g_aload_n X dX8_beginsThing_116 rfl 1 rfl ?_
            refine g_iconst (v := 0) X dX8_beginsThing_117 (by decide) ?_
            refine g_pfz X fa_X8_26 rfl (by decide +kernel) rfl dX8_beginsThing_118 (fun M14 => ?_)
            refine g_goto X 126 dX8_beginsThing_121 rfl ?_
            refine g_iconst (v := 1) X dX8_beginsThing_126 (by decide) ?_
            exact g_zret X rfl rfl rfl dX8_beginsThing_127
        · refine g_aload_n X dX8_beginsThing_76 rfl 1 rfl ?_
          refine g_iconst (v := 1) X dX8_beginsThing_77 (by decide) ?_
          refine g_pfi X fa_X8_30 rfl (by decide +kernel) rfl dX8_beginsThing_78 (fun M15 => ?_)
          refine g_aload_n X dX8_beginsThing_81 rfl 1 rfl ?_
          refine g_getr X fa_X8_14 rfl rfl dX8_beginsThing_82 ?_
          refine g_iload_n X dX8_beginsThing_85 rfl 2 rfl ?_
          refine g_bipush (v := 48) X dX8_beginsThing_86 (by decide) ?_
          refine g_isub X dX8_beginsThing_88 ?_
          refine g_bVv (As := [.int (a1 - 48)]) (rest := []) X (c_X4_add l K c M15 31 (a1 - 48)) lk_X8_74 rfl rfl rfl (Nat.le_of_ble_eq_true rfl) ⟨Nat.le_of_ble_eq_true rfl, Nat.le_of_ble_eq_true rfl⟩ ⟨Nat.zero_le _, Nat.zero_le _⟩ dX8_beginsThing_89 (fun r16 => ?_)
          refine g_aload_n X dX8_beginsThing_92 rfl 1 rfl ?_
          refine g_iconst (v := 0) X dX8_beginsThing_93 (by decide) ?_
          refine g_pfz X fa_X8_26 rfl (by decide +kernel) rfl dX8_beginsThing_94 (fun M17 => ?_)
          refine g_goto X 126 dX8_beginsThing_97 rfl ?_
          refine g_iconst (v := 1) X dX8_beginsThing_126 (by decide) ?_
          exact g_zret X rfl rfl rfl dX8_beginsThing_127
set_option maxHeartbeats 4000000 in
set_option maxRecDepth 100000 in
theorem c_X8_takesDigit (l : Launch) (K : q_KK) (c : Nat → Nat) (M0 : q_MM) (a1 : Int32) : ∀ res, f_X8_takesDigit c M0 a1 = some res → Mt l yX8_takesDigit cX8_takesDigit 2 (some FieldType.boolean) 1 21 0 0 false K [.ref 28, .int a1] ((qTX c), (qLX c), (qPX c), M0) (some (.int res.1)) (((qTX c), (qLX c), (qPX c), res.2)) := by
  refine Mt.of (fun (res : Int32 × q_MM) => some (.int res.1)) (fun (res : Int32 × q_MM) => ((qTX c), (qLX c), (qPX c), res.2)) (by decide) (Nat.le_of_ble_eq_true rfl) ?_
  intro p e s m args below meth c0 A ad X hN
  refine g_sub (lv' := [(0, .ref 28), (1, .int a1)]) [0, 1] rfl ?_
  unfold f_X8_takesDigit
  refine g_aload_n X dX8_takesDigit_0 rfl 0 rfl ?_
  refine g_geti X fa_X8_30 rfl dX8_takesDigit_1 ?_
  refine g_iconst (v := 1) X dX8_takesDigit_4 (by decide) ?_
  refine g_icmp_lt X 16 dX8_takesDigit_5 rfl (fun h1 => ?_) (fun h1 => ?_)
  · refine g_iconst (v := 0) X dX8_takesDigit_16 (by decide) ?_
    exact g_zret X rfl rfl rfl dX8_takesDigit_17
  · refine g_aload_n X dX8_takesDigit_8 rfl 0 rfl ?_
    refine g_geti X fa_X8_30 rfl dX8_takesDigit_9 ?_
    refine g_iconst (v := 3) X dX8_takesDigit_12 (by decide) ?_
    refine g_icmp_le X 18 dX8_takesDigit_13 rfl (fun h2 => ?_) (fun h2 => ?_)
    · refine g_aload_n X dX8_takesDigit_18 rfl 0 rfl ?_
      refine g_getr X fa_X8_14 rfl rfl dX8_takesDigit_19 ?_
      refine g_aload_n X dX8_takesDigit_22 rfl 0 rfl ?_
      refine g_getr X fa_X8_14 rfl rfl dX8_takesDigit_23 ?_
      refine g_bVi (As := []) (rest := [.ref 31]) X (c_X4_take l K c M0 31) lk_X8_77 rfl rfl rfl (Nat.le_of_ble_eq_true rfl) ⟨Nat.le_of_ble_eq_true rfl, Nat.le_of_ble_eq_true rfl⟩ ⟨Nat.zero_le _, Nat.zero_le _⟩ dX8_takesDigit_26 (fun r3 => ?_)
      refine g_bipush (v := 10) X dX8_takesDigit_29 (by decide) ?_
      refine g_imul X dX8_takesDigit_31 ?_
      refine g_iload_n X dX8_takesDigit_32 rfl 1 rfl ?_
      refine g_iadd X dX8_takesDigit_33 ?_
      refine g_bipush (v := 48) X dX8_takesDigit_34 (by decide) ?_
      refine g_isub X dX8_takesDigit_36 ?_
      refine g_bVv (As := [.int (((r3.1 * 10) + a1) - 48)]) (rest := []) X (c_X4_add l K c r3.2 31 (((r3.1 * 10) + a1) - 48)) lk_X8_74 rfl rfl rfl (Nat.le_of_ble_eq_true rfl) ⟨Nat.le_of_ble_eq_true rfl, Nat.le_of_ble_eq_true rfl⟩ ⟨Nat.zero_le _, Nat.zero_le _⟩ dX8_takesDigit_37 (fun r4 => ?_)
      refine g_aload_n X dX8_takesDigit_40 rfl 0 rfl ?_
      refine g_dup X dX8_takesDigit_41 rfl ?_
      refine g_geti X fa_X8_30 rfl dX8_takesDigit_42 ?_
      refine g_iconst (v := 1) X dX8_takesDigit_45 (by decide) ?_
      refine g_iadd X dX8_takesDigit_46 ?_
      refine g_pfi X fa_X8_30 rfl (by decide +kernel) rfl dX8_takesDigit_47 (fun M5 => ?_)
      refine g_iconst (v := 1) X dX8_takesDigit_50 (by decide) ?_
      exact g_zret X rfl rfl rfl dX8_takesDigit_51
    · refine g_iconst (v := 0) X dX8_takesDigit_16 (by decide) ?_
      exact g_zret X rfl rfl rfl dX8_takesDigit_17
set_option maxHeartbeats 4000000 in
set_option maxRecDepth 100000 in
theorem c_X8_levelOf (l : Launch) (K : q_KK) (c : Nat → Nat) (M : q_MM) (a1 : Int32) : ∀ res, f_X8_levelOf c M a1 = some res → Mt l yX8_levelOf cX8_levelOf 1 (some FieldType.int) 0 0 0 0 false K [.int a1] ((qTX c), (qLX c), (qPX c), M) (some (.int res)) (((qTX c), (qLX c), (qPX c), M)) := by
  refine Mt.of (fun (res : Int32) => some (.int res)) (fun (_ : Int32) => ((qTX c), (qLX c), (qPX c), M)) (by decide) (Nat.le_of_ble_eq_true rfl) ?_
  intro p e s m args below meth c0 A ad X hN
  refine g_sub (lv' := [(0, .int a1)]) [0] rfl ?_
  unfold f_X8_levelOf
  refine g_iload_n X dX8_levelOf_0 rfl 0 rfl ?_
  refine g_case (fun h1 => ?_) (fun h1 => ?_)
  · refine g_lin (off := 117) X 118 h1 dX8_levelOf_1 (by decide) (by decide) rfl ?_
    refine g_bipush (v := 6) X dX8_levelOf_118 (by decide) ?_
    exact g_iret X rfl rfl rfl dX8_levelOf_120
  · refine g_case (fun h2 => ?_) (fun h2 => ?_)
    · refine g_lin (off := 115) X 116 h2 dX8_levelOf_1 (by decide) (by decide) rfl ?_
      refine g_iconst (v := 5) X dX8_levelOf_116 (by decide) ?_
      exact g_iret X rfl rfl rfl dX8_levelOf_117
    · refine g_case (fun h3 => ?_) (fun h3 => ?_)
      · refine g_lin (off := 109) X 110 h3 dX8_levelOf_1 (by decide) (by decide) rfl ?_
        refine g_iconst (v := 2) X dX8_levelOf_110 (by decide) ?_
        exact g_iret X rfl rfl rfl dX8_levelOf_111
      · refine g_case (fun h4 => ?_) (fun h4 => ?_)
        · refine g_lin (off := 115) X 116 h4 dX8_levelOf_1 (by decide) (by decide) rfl ?_
          refine g_iconst (v := 5) X dX8_levelOf_116 (by decide) ?_
          exact g_iret X rfl rfl rfl dX8_levelOf_117
        · refine g_case (fun h5 => ?_) (fun h5 => ?_)
          · refine g_lin (off := 113) X 114 h5 dX8_levelOf_1 (by decide) (by decide) rfl ?_
            refine g_iconst (v := 4) X dX8_levelOf_114 (by decide) ?_
            exact g_iret X rfl rfl rfl dX8_levelOf_115
          · refine g_case (fun h6 => ?_) (fun h6 => ?_)
            · refine g_lin (off := 113) X 114 h6 dX8_levelOf_1 (by decide) (by decide) rfl ?_
              refine g_iconst (v := 4) X dX8_levelOf_114 (by decide) ?_
              exact g_iret X rfl rfl rfl dX8_levelOf_115
            · refine g_case (fun h7 => ?_) (fun h7 => ?_)
              · refine g_lin (off := 115) X 116 h7 dX8_levelOf_1 (by decide) (by decide) rfl ?_
                refine g_iconst (v := 5) X dX8_levelOf_116 (by decide) ?_
                exact g_iret X rfl rfl rfl dX8_levelOf_117
              · refine g_case (fun h8 => ?_) (fun h8 => ?_)
                · refine g_lin (off := 111) X 112 h8 dX8_levelOf_1 (by decide) (by decide) rfl ?_
                  refine g_iconst (v := 3) X dX8_levelOf_112 (by decide) ?_
                  exact g_iret X rfl rfl rfl dX8_levelOf_113
                · refine g_case (fun h9 => ?_) (fun h9 => ?_)
                  · refine g_lin (off := 111) X 112 h9 dX8_levelOf_1 (by decide) (by decide) rfl ?_
                    refine g_iconst (v := 3) X dX8_levelOf_112 (by decide) ?_
                    exact g_iret X rfl rfl rfl dX8_levelOf_113
                  · refine g_case (fun h10 => ?_) (fun h10 => ?_)
                    · refine g_lin (off := 111) X 112 h10 dX8_levelOf_1 (by decide) (by decide) rfl ?_
                      refine g_iconst (v := 3) X dX8_levelOf_112 (by decide) ?_
                      exact g_iret X rfl rfl rfl dX8_levelOf_113
                    · refine g_case (fun h11 => ?_) (fun h11 => ?_)
                      · refine g_lin (off := 107) X 108 h11 dX8_levelOf_1 (by decide) (by decide) rfl ?_
                        refine g_iconst (v := 1) X dX8_levelOf_108 (by decide) ?_
                        exact g_iret X rfl rfl rfl dX8_levelOf_109
                      · refine g_case (fun h12 => ?_) (fun h12 => ?_)
                        · refine g_lin (off := 117) X 118 h12 dX8_levelOf_1 (by decide) (by decide) rfl ?_
                          refine g_bipush (v := 6) X dX8_levelOf_118 (by decide) ?_
                          exact g_iret X rfl rfl rfl dX8_levelOf_120
                        · refine g_ldef X [33, 37, 38, 42, 43, 45, 47, 60, 61, 62, 124, 126] 121 (List.forall_mem_cons.mpr ⟨h1, (List.forall_mem_cons.mpr ⟨h2, (List.forall_mem_cons.mpr ⟨h3, (List.forall_mem_cons.mpr ⟨h4, (List.forall_mem_cons.mpr ⟨h5, (List.forall_mem_cons.mpr ⟨h6, (List.forall_mem_cons.mpr ⟨h7, (List.forall_mem_cons.mpr ⟨h8, (List.forall_mem_cons.mpr ⟨h9, (List.forall_mem_cons.mpr ⟨h10, (List.forall_mem_cons.mpr ⟨h11, (List.forall_mem_cons.mpr ⟨h12, (fun _ z => nomatch z)⟩)⟩)⟩)⟩)⟩)⟩)⟩)⟩)⟩)⟩)⟩)⟩) dX8_levelOf_1 (by decide) (by decide) rfl ?_
                          refine g_iconst (v := 0) X dX8_levelOf_121 (by decide) ?_
                          exact g_iret X rfl rfl rfl dX8_levelOf_122
set_option maxHeartbeats 4000000 in
set_option maxRecDepth 100000 in
theorem c_X8_unload (l : Launch) (K : q_KK) (c : Nat → Nat) (M0 : q_MM) (a1 : Int32) : ∀ res, f_X8_unload c M0 a1 = some res → Mt l yX8_unload cX8_unload 3 (none : Option FieldType) 1 21 0 0 false K [.ref 28, .int a1] ((qTX c), (qLX c), (qPX c), M0) (none) (((qTX c), (qLX c), (qPX c), res)) := by
  refine Mt.of (fun (_ : q_MM) => none) (fun (res : q_MM) => ((qTX c), (qLX c), (qPX c), res)) (by decide) (Nat.le_of_ble_eq_true rfl) ?_
  intro p e s m args below meth c0 A ad X hN
  have hb_10 : ∀ (nf : Nat) (x1 : Int32) (x2 : Int32) (M : q_MM), GG p l e { frames := 1, cells := 0, slots := 0, locals := 21 } s m args below meth c0 K A ((qTX c), (qLX c), (qPX c), M0) ad false 3 (fun res => MQ below (q_Qc K false ad ((qTX c), (qLX c), (qPX c), M0) ((fun (_ : q_MM) => none) res) ((fun (res : q_MM) => ((qTX c), (qLX c), (qPX c), res)) res) A) args s 0 0 A) (b_X8_unload_10 c nf x1 x2 M) 10 [(0, .ref 28), (1, .int x1), (2, .int x2)] [] ((qTX c), (qLX c), (qPX c), M) 0 0 := by
    intro  nf
    induction nf with
    | zero => intros; exact g_stop
    | succ nf ih =>
      intro x1 x2 M
      rw [b_X8_unload_10]
      refine g_iload_n X dX8_unload_10 rfl 2 rfl ?_
      refine g_if_lt X 50 dX8_unload_11 rfl (fun h1 => ?_) (fun h1 => ?_)
      · exact g_vret X rfl rfl rfl dX8_unload_50
      · refine g_aload_n X dX8_unload_14 rfl 0 rfl ?_
        refine g_getr X fa_X8_20 rfl rfl dX8_unload_15 ?_
        refine g_iload_n X dX8_unload_18 rfl 2 rfl ?_
        refine g_bVi (As := [.int x2]) (rest := []) X (c_X4_get l K c M 32 x2) lk_X8_40 rfl rfl rfl (Nat.le_of_ble_eq_true rfl) ⟨Nat.le_of_ble_eq_true rfl, Nat.le_of_ble_eq_true rfl⟩ ⟨Nat.zero_le _, Nat.zero_le _⟩ dX8_unload_19 (fun r2 => ?_)
        refine g_bSi (As := [.int r2]) (rest := []) X (c_X8_levelOf l K c M r2) lk_X8_84 rfl rfl (Nat.le_of_ble_eq_true rfl) ⟨Nat.le_of_ble_eq_true rfl, Nat.le_of_ble_eq_true rfl⟩ ⟨Nat.zero_le _, Nat.zero_le _⟩ dX8_unload_22 (fun r3 => ?_)
        refine g_iload_n X dX8_unload_25 rfl 1 rfl ?_
        refine g_icmp_lt X 50 dX8_unload_26 rfl (fun h4 => ?_) (fun h4 => ?_)
        · exact g_vret X rfl rfl rfl dX8_unload_50
        · refine g_aload_n X dX8_unload_29 rfl 0 rfl ?_
          refine g_getr X fa_X8_14 rfl rfl dX8_unload_30 ?_
          refine g_aload_n X dX8_unload_33 rfl 0 rfl ?_
          refine g_getr X fa_X8_20 rfl rfl dX8_unload_34 ?_
          refine g_bVi (As := []) (rest := [.ref 31]) X (c_X4_take l K c M 32) lk_X8_77 rfl rfl rfl (Nat.le_of_ble_eq_true rfl) ⟨Nat.le_of_ble_eq_true rfl, Nat.le_of_ble_eq_true rfl⟩ ⟨Nat.zero_le _, Nat.zero_le _⟩ dX8_unload_37 (fun r5 => ?_)
          refine g_ineg X dX8_unload_40 ?_
          refine g_bVv (As := [.int (-r5.1)]) (rest := []) X (c_X4_add l K c r5.2 31 (-r5.1)) lk_X8_74 rfl rfl rfl (Nat.le_of_ble_eq_true rfl) ⟨Nat.le_of_ble_eq_true rfl, Nat.le_of_ble_eq_true rfl⟩ ⟨Nat.zero_le _, Nat.zero_le _⟩ dX8_unload_41 (fun r6 => ?_)
          refine g_iinc (v := (-1)) X [(2, .int (x2 + (-1))), (0, .ref 28), (1, .int x1)] 2 dX8_unload_44 rfl (by decide) (by decide) rfl ?_
          refine g_goto X 10 dX8_unload_47 rfl ?_
          exact g_sub [1, 2, 0] rfl (ih x1 (x2 + (-1)) r6)
  refine g_sub (lv' := [(0, .ref 28), (1, .int a1)]) [0, 1] rfl ?_
  unfold f_X8_unload
  refine g_aload_n X dX8_unload_0 rfl 0 rfl ?_
  refine g_getr X fa_X8_20 rfl rfl dX8_unload_1 ?_
  refine g_geti X fa_X8_37 rfl dX8_unload_4 ?_
  refine g_iconst (v := 1) X dX8_unload_7 (by decide) ?_
  refine g_isub X dX8_unload_8 ?_
  refine g_isn X (fun v7 => [(2, .int v7), (0, .ref 28), (1, .int a1)]) dX8_unload_9 rfl (by decide) (fun _ => rfl) (fun v7 => ?_)
  exact g_sub [1, 2, 0] rfl (hb_10 q_fu a1 v7 M0)
set_option maxHeartbeats 4000000 in
set_option maxRecDepth 100000 in
theorem c_X8_closes (l : Launch) (K : q_KK) (c : Nat → Nat) (M0 : q_MM) : ∀ res, f_X8_closes c M0 = some res → Mt l yX8_closes cX8_closes 1 (some FieldType.boolean) 2 43 0 0 false K [.ref 28] ((qTX c), (qLX c), (qPX c), M0) (some (.int res.1)) (((qTX c), (qLX c), (qPX c), res.2)) := by
  refine Mt.of (fun (res : Int32 × q_MM) => some (.int res.1)) (fun (res : Int32 × q_MM) => ((qTX c), (qLX c), (qPX c), res.2)) (by decide) (Nat.le_of_ble_eq_true rfl) ?_
  intro p e s m args below meth c0 A ad X hN
  refine g_sub (lv' := [(0, .ref 28)]) [0] rfl ?_
  unfold f_X8_closes
  refine g_aload_n X dX8_closes_0 rfl 0 rfl ?_
  refine g_geti X fa_X8_34 rfl dX8_closes_1 ?_
  refine g_if_gt X 9 dX8_closes_4 rfl (fun h1 => ?_) (fun h1 => ?_)
  · refine g_aload_n X dX8_closes_9 rfl 0 rfl ?_
    refine g_iconst (v := 1) X dX8_closes_10 (by decide) ?_
    refine g_bVv (As := [.int 1]) (rest := []) X (c_X8_unload l K c M0 1) lk_X8_81 rfl rfl rfl (Nat.le_of_ble_eq_true rfl) ⟨Nat.le_of_ble_eq_true rfl, Nat.le_of_ble_eq_true rfl⟩ ⟨Nat.zero_le _, Nat.zero_le _⟩ dX8_closes_11 (fun r2 => ?_)
    refine g_aload_n X dX8_closes_14 rfl 0 rfl ?_
    refine g_getr X fa_X8_20 rfl rfl dX8_closes_15 ?_
    refine g_bVi (As := []) (rest := []) X (c_X4_take l K c r2 32) lk_X8_77 rfl rfl rfl (Nat.le_of_ble_eq_true rfl) ⟨Nat.le_of_ble_eq_true rfl, Nat.le_of_ble_eq_true rfl⟩ ⟨Nat.zero_le _, Nat.zero_le _⟩ dX8_closes_18 (fun r3 => ?_)
    refine g_pop X dX8_closes_21 rfl ?_
    refine g_aload_n X dX8_closes_22 rfl 0 rfl ?_
    refine g_dup X dX8_closes_23 rfl ?_
    refine g_geti X fa_X8_34 rfl dX8_closes_24 ?_
    refine g_iconst (v := 1) X dX8_closes_27 (by decide) ?_
    refine g_isub X dX8_closes_28 ?_
    refine g_pfi X fa_X8_34 rfl (by decide +kernel) rfl dX8_closes_29 (fun M4 => ?_)
    refine g_iconst (v := 1) X dX8_closes_32 (by decide) ?_
    exact g_zret X rfl rfl rfl dX8_closes_33
  · refine g_iconst (v := 0) X dX8_closes_7 (by decide) ?_
    exact g_zret X rfl rfl rfl dX8_closes_8
set_option maxHeartbeats 4000000 in
set_option maxRecDepth 100000 in
theorem c_X8_endExpression (l : Launch) (K : q_KK) (c : Nat → Nat) (M0 : q_MM) : ∀ res, f_X8_endExpression c M0 = some res → Mt l yX8_endExpression cX8_endExpression 1 (none : Option FieldType) 2 43 0 0 false K [.ref 28] ((qTX c), (qLX c), (qPX c), M0) (none) (((qTX c), (qLX c), (qPX c), res)) := by
  refine Mt.of (fun (_ : q_MM) => none) (fun (res : q_MM) => ((qTX c), (qLX c), (qPX c), res)) (by decide) (Nat.le_of_ble_eq_true rfl) ?_
  intro p e s m args below meth c0 A ad X hN
  refine g_sub (lv' := [(0, .ref 28)]) [0] rfl ?_
  unfold f_X8_endExpression
  refine g_aload_n X dX8_endExpression_0 rfl 0 rfl ?_
  refine g_iconst (v := 1) X dX8_endExpression_1 (by decide) ?_
  refine g_bVv (As := [.int 1]) (rest := []) X (c_X8_unload l K c M0 1) lk_X8_81 rfl rfl rfl (Nat.le_of_ble_eq_true rfl) ⟨Nat.le_of_ble_eq_true rfl, Nat.le_of_ble_eq_true rfl⟩ ⟨Nat.zero_le _, Nat.zero_le _⟩ dX8_endExpression_2 (fun r1 => ?_)
  refine g_aload_n X dX8_endExpression_5 rfl 0 rfl ?_
  refine g_getr X fa_X8_14 rfl rfl dX8_endExpression_6 ?_
  refine g_bipush (v := (-59)) X dX8_endExpression_9 (by decide) ?_
  refine g_bVv (As := [.int (-59)]) (rest := []) X (c_X4_add l K c r1 31 (-59)) lk_X8_74 rfl rfl rfl (Nat.le_of_ble_eq_true rfl) ⟨Nat.le_of_ble_eq_true rfl, Nat.le_of_ble_eq_true rfl⟩ ⟨Nat.zero_le _, Nat.zero_le _⟩ dX8_endExpression_11 (fun r2 => ?_)
  exact g_vret X rfl rfl rfl dX8_endExpression_14
