set_option maxHeartbeats 4000000 in
set_option maxRecDepth 100000 in
theorem c_X8_takesOperator (l : Launch) (K : q_KK) (c : Nat → Nat) (M0 : q_MM) (a1 : Int32) : ∀ res, f_X8_takesOperator c M0 a1 = some res → Mt l yX8_takesOperator cX8_takesOperator 3 (some FieldType.boolean) 2 43 0 0 false K [.ref 28, .int a1] ((qTX c), (qLX c), (qPX c), M0) (some (.int res.1)) (((qTX c), (qLX c), (qPX c), res.2)) := by
  refine Mt.of (fun (res : Int32 × q_MM) => some (.int res.1)) (fun (res : Int32 × q_MM) => ((qTX c), (qLX c), (qPX c), res.2)) (by decide) (Nat.le_of_ble_eq_true rfl) ?_
  intro p e s m args below meth c0 A ad X hN
  have hb_54 : ∀ (x1 : Int32) (x2 : Int32) (M : q_MM), GG p l e { frames := 2, cells := 0, slots := 0, locals := 43 } s m args below meth c0 K A ((qTX c), (qLX c), (qPX c), M0) ad false 3 (fun res => MQ below (q_Qc K false ad ((qTX c), (qLX c), (qPX c), M0) ((fun (res : Int32 × q_MM) => some (.int res.1)) res) ((fun (res : Int32 × q_MM) => ((qTX c), (qLX c), (qPX c), res.2)) res) A) args s 0 0 A) (b_X8_takesOperator_54 c x1 x2 M) 54 [(0, .ref 28), (1, .int x1), (2, .int x2)] [] ((qTX c), (qLX c), (qPX c), M) 0 0 := by
    intro x1 x2 M
    unfold b_X8_takesOperator_54
    refine g_aload_n X dX8_takesOperator_54 rfl 0 rfl ?_
    refine g_iload_n X dX8_takesOperator_55 rfl 2 rfl ?_
    refine g_bVv (As := [.int x2]) (rest := []) X (c_X8_unload l K c M x2) lk_X8_81 rfl rfl rfl (Nat.le_of_ble_eq_true rfl) ⟨Nat.le_of_ble_eq_true rfl, Nat.le_of_ble_eq_true rfl⟩ ⟨Nat.zero_le _, Nat.zero_le _⟩ dX8_takesOperator_56 (fun r1 => ?_)
    refine g_aload_n X dX8_takesOperator_59 rfl 0 rfl ?_
    refine g_getr X fa_X8_20 rfl rfl dX8_takesOperator_60 ?_
    refine g_iload_n X dX8_takesOperator_63 rfl 1 rfl ?_
    refine g_bVv (As := [.int x1]) (rest := []) X (c_X4_add l K c r1 32 x1) lk_X8_74 rfl rfl rfl (Nat.le_of_ble_eq_true rfl) ⟨Nat.le_of_ble_eq_true rfl, Nat.le_of_ble_eq_true rfl⟩ ⟨Nat.zero_le _, Nat.zero_le _⟩ dX8_takesOperator_64 (fun r2 => ?_)
    refine g_aload_n X dX8_takesOperator_67 rfl 0 rfl ?_
    refine g_iconst (v := 1) X dX8_takesOperator_68 (by decide) ?_
    refine g_pfz X fa_X8_26 rfl (by decide +kernel) rfl dX8_takesOperator_69 (fun M3 => ?_)
    refine g_iconst (v := 1) X dX8_takesOperator_72 (by decide) ?_
    exact g_zret X rfl rfl rfl dX8_takesOperator_73
  refine g_sub (lv' := [(0, .ref 28), (1, .int a1)]) [0, 1] rfl ?_
  unfold f_X8_takesOperator
  refine g_iload_n X dX8_takesOperator_0 rfl 1 rfl ?_
  refine g_bSi (As := [.int a1]) (rest := []) X (c_X8_levelOf l K c M0 a1) lk_X8_84 rfl rfl (Nat.le_of_ble_eq_true rfl) ⟨Nat.le_of_ble_eq_true rfl, Nat.le_of_ble_eq_true rfl⟩ ⟨Nat.zero_le _, Nat.zero_le _⟩ dX8_takesOperator_1 (fun r4 => ?_)
  refine g_istore_n X [(2, .int r4), (0, .ref 28), (1, .int a1)] dX8_takesOperator_4 rfl (by decide) rfl ?_
  refine g_iload_n X dX8_takesOperator_5 rfl 0 rfl ?_
  refine g_iconst (v := 1) X dX8_takesOperator_6 (by decide) ?_
  refine g_icmp_lt X 15 dX8_takesOperator_7 rfl (fun h5 => ?_) (fun h5 => ?_)
  · refine g_iconst (v := 0) X dX8_takesOperator_15 (by decide) ?_
    exact g_zret X rfl rfl rfl dX8_takesOperator_16
  · refine g_iload_n X dX8_takesOperator_10 rfl 0 rfl ?_
    refine g_iconst (v := 5) X dX8_takesOperator_11 (by decide) ?_
    refine g_icmp_le X 17 dX8_takesOperator_12 rfl (fun h6 => ?_) (fun h6 => ?_)
    · refine g_aload_n X dX8_takesOperator_17 rfl 1 rfl ?_
      refine g_iload_n X dX8_takesOperator_18 rfl 0 rfl ?_
      refine g_iconst (v := 1) X dX8_takesOperator_19 (by decide) ?_
      refine g_iadd X dX8_takesOperator_20 ?_
      refine g_bVv (As := [.int (r4 + 1)]) (rest := []) X (c_X8_unload l K c M0 (r4 + 1)) lk_X8_81 rfl rfl rfl (Nat.le_of_ble_eq_true rfl) ⟨Nat.le_of_ble_eq_true rfl, Nat.le_of_ble_eq_true rfl⟩ ⟨Nat.zero_le _, Nat.zero_le _⟩ dX8_takesOperator_21 (fun r7 => ?_)
      refine g_iload_n X dX8_takesOperator_24 rfl 0 rfl ?_
      refine g_iconst (v := 3) X dX8_takesOperator_25 (by decide) ?_
      refine g_icmp_ne X 54 dX8_takesOperator_26 rfl (fun h8 => ?_) (fun h8 => ?_)
      · refine g_aload_n X dX8_takesOperator_29 rfl 1 rfl ?_
        refine g_getr X fa_X8_20 rfl rfl dX8_takesOperator_30 ?_
        refine g_aload_n X dX8_takesOperator_33 rfl 1 rfl ?_
        refine g_getr X fa_X8_20 rfl rfl dX8_takesOperator_34 ?_
        refine g_geti X fa_X8_37 rfl dX8_takesOperator_37 ?_
        refine g_iconst (v := 1) X dX8_takesOperator_40 (by decide) ?_
        refine g_isub X dX8_takesOperator_41 ?_
        refine g_bVi (As := [.int ((r7 32 1) - 1)]) (rest := []) X (c_X4_get l K c r7 32 ((r7 32 1) - 1)) lk_X8_40 rfl rfl rfl (Nat.le_of_ble_eq_true rfl) ⟨Nat.le_of_ble_eq_true rfl, Nat.le_of_ble_eq_true rfl⟩ ⟨Nat.zero_le _, Nat.zero_le _⟩ dX8_takesOperator_42 (fun r9 => ?_)
        refine g_bSi (As := [.int r9]) (rest := []) X (c_X8_levelOf l K c r7 r9) lk_X8_84 rfl rfl (Nat.le_of_ble_eq_true rfl) ⟨Nat.le_of_ble_eq_true rfl, Nat.le_of_ble_eq_true rfl⟩ ⟨Nat.zero_le _, Nat.zero_le _⟩ dX8_takesOperator_45 (fun r10 => ?_)
        refine g_iconst (v := 3) X dX8_takesOperator_48 (by decide) ?_
        refine g_icmp_ne X 54 dX8_takesOperator_49 rfl (fun h11 => ?_) (fun h11 => ?_)
        · refine g_iconst (v := 0) X dX8_takesOperator_52 (by decide) ?_
          exact g_zret X rfl rfl rfl dX8_takesOperator_53
        · exact g_sub [1, 2, 0] rfl (hb_54 a1 r4 r7)
      · exact g_sub [1, 2, 0] rfl (hb_54 a1 r4 r7)
    · refine g_iconst (v := 0) X dX8_takesOperator_15 (by decide) ?_
      exact g_zret X rfl rfl rfl dX8_takesOperator_16
set_option maxHeartbeats 4000000 in
set_option maxRecDepth 100000 in
theorem c_X8_takes (l : Launch) (K : q_KK) (c : Nat → Nat) (M0 : q_MM) (a1 : Int32) : ∀ res, f_X8_takes c M0 a1 = some res → Mt l yX8_takes cX8_takes 2 (some FieldType.boolean) 5 113 0 0 false K [.ref 28, .int a1] ((qTX c), (qLX c), (qPX c), M0) (some (.int res.1)) (((qTX c), (qLX c), (qPX c), res.2)) := by
  refine Mt.of (fun (res : Int32 × q_MM) => some (.int res.1)) (fun (res : Int32 × q_MM) => ((qTX c), (qLX c), (qPX c), res.2)) (by decide) (Nat.le_of_ble_eq_true rfl) ?_
  intro p e s m args below meth c0 A ad X hN
  have hb_61 : ∀ (s0 : Int32) (M : q_MM), GG p l e { frames := 5, cells := 0, slots := 0, locals := 113 } s m args below meth c0 K A ((qTX c), (qLX c), (qPX c), M0) ad false 2 (fun res => MQ below (q_Qc K false ad ((qTX c), (qLX c), (qPX c), M0) ((fun (res : Int32 × q_MM) => some (.int res.1)) res) ((fun (res : Int32 × q_MM) => ((qTX c), (qLX c), (qPX c), res.2)) res) A) args s 0 0 A) (b_X8_takes_61 c s0 M) 61 [(0, .ref 28)] [.int s0, .ref 28] ((qTX c), (qLX c), (qPX c), M) 0 0 := by
    intro s0 M
    unfold b_X8_takes_61
    refine g_pfz X fa_X8_26 rfl (by decide +kernel) rfl dX8_takes_61 (fun M1 => ?_)
    refine g_aload_n X dX8_takes_64 rfl 0 rfl ?_
    refine g_bVv (As := []) (rest := []) X (c_X8_endExpression l K c M1) lk_X8_48 rfl rfl rfl (Nat.le_of_ble_eq_true rfl) ⟨Nat.le_of_ble_eq_true rfl, Nat.le_of_ble_eq_true rfl⟩ ⟨Nat.zero_le _, Nat.zero_le _⟩ dX8_takes_65 (fun r2 => ?_)
    refine g_aload_n X dX8_takes_68 rfl 0 rfl ?_
    refine g_geti X fa_X8_34 rfl dX8_takes_69 ?_
    refine g_if_ne X 79 dX8_takes_72 rfl (fun h3 => ?_) (fun h3 => ?_)
    · refine g_iconst (v := 1) X dX8_takes_75 (by decide) ?_
      refine g_goto X 80 dX8_takes_76 rfl ?_
      exact g_zret X rfl rfl rfl dX8_takes_80
    · refine g_iconst (v := 0) X dX8_takes_79 (by decide) ?_
      exact g_zret X rfl rfl rfl dX8_takes_80
  refine g_sub (lv' := [(0, .ref 28), (1, .int a1)]) [0, 1] rfl ?_
  unfold f_X8_takes
  refine g_aload_n X dX8_takes_0 rfl 0 rfl ?_
  refine g_geti X fa_X8_26 rfl dX8_takes_1 ?_
  refine g_if_eq X 13 dX8_takes_4 rfl (fun h4 => ?_) (fun h4 => ?_)
  · refine g_iload_n X dX8_takes_13 rfl 1 rfl ?_
    refine g_bSi (As := [.int a1]) (rest := []) X (c_X8_isDigit l K c M0 a1) lk_X8_54 rfl rfl (Nat.le_of_ble_eq_true rfl) ⟨Nat.le_of_ble_eq_true rfl, Nat.le_of_ble_eq_true rfl⟩ ⟨Nat.zero_le _, Nat.zero_le _⟩ dX8_takes_14 (fun r5 => ?_)
    refine g_if_eq X 26 dX8_takes_17 rfl (fun h6 => ?_) (fun h6 => ?_)
    · refine g_aload_n X dX8_takes_26 rfl 0 rfl ?_
      refine g_iconst (v := 0) X dX8_takes_27 (by decide) ?_
      refine g_pfi X fa_X8_30 rfl (by decide +kernel) rfl dX8_takes_28 (fun M7 => ?_)
      refine g_iload_n X dX8_takes_31 rfl 1 rfl ?_
      refine g_bipush (v := 41) X dX8_takes_32 (by decide) ?_
      refine g_icmp_ne X 42 dX8_takes_34 rfl (fun h8 => ?_) (fun h8 => ?_)
      · refine g_aload_n X dX8_takes_37 rfl 0 rfl ?_
        refine g_bVi (As := []) (rest := []) X (c_X8_closes l K c M7) lk_X8_60 rfl rfl rfl (Nat.le_of_ble_eq_true rfl) ⟨Nat.le_of_ble_eq_true rfl, Nat.le_of_ble_eq_true rfl⟩ ⟨Nat.zero_le _, Nat.zero_le _⟩ dX8_takes_38 (fun r9 => ?_)
        exact g_zret X rfl rfl rfl dX8_takes_41
      · refine g_iload_n X dX8_takes_42 rfl 1 rfl ?_
        refine g_bipush (v := 59) X dX8_takes_43 (by decide) ?_
        refine g_icmp_ne X 81 dX8_takes_45 rfl (fun h10 => ?_) (fun h10 => ?_)
        · refine g_aload_n X dX8_takes_48 rfl 0 rfl ?_
          refine g_aload_n X dX8_takes_49 rfl 0 rfl ?_
          refine g_geti X fa_X8_34 rfl dX8_takes_50 ?_
          refine g_if_ne X 60 dX8_takes_53 rfl (fun h11 => ?_) (fun h11 => ?_)
          · refine g_iconst (v := 1) X dX8_takes_56 (by decide) ?_
            refine g_goto X 61 dX8_takes_57 rfl ?_
            exact g_sub [0] rfl (hb_61 1 M7)
          · refine g_iconst (v := 0) X dX8_takes_60 (by decide) ?_
            exact g_sub [0] rfl (hb_61 0 M7)
        · refine g_aload_n X dX8_takes_81 rfl 0 rfl ?_
          refine g_iload_n X dX8_takes_82 rfl 1 rfl ?_
          refine g_bVi (As := [.int a1]) (rest := []) X (c_X8_takesOperator l K c M7 a1) lk_X8_64 rfl rfl rfl (Nat.le_of_ble_eq_true rfl) ⟨Nat.le_of_ble_eq_true rfl, Nat.le_of_ble_eq_true rfl⟩ ⟨Nat.zero_le _, Nat.zero_le _⟩ dX8_takes_83 (fun r12 => ?_)
          exact g_zret X rfl rfl rfl dX8_takes_86
    · refine g_aload_n X dX8_takes_20 rfl 0 rfl ?_
      refine g_iload_n X dX8_takes_21 rfl 1 rfl ?_
      refine g_bVi (As := [.int a1]) (rest := []) X (c_X8_takesDigit l K c M0 a1) lk_X8_57 rfl rfl rfl (Nat.le_of_ble_eq_true rfl) ⟨Nat.le_of_ble_eq_true rfl, Nat.le_of_ble_eq_true rfl⟩ ⟨Nat.zero_le _, Nat.zero_le _⟩ dX8_takes_22 (fun r13 => ?_)
      exact g_zret X rfl rfl rfl dX8_takes_25
  · refine g_aload_n X dX8_takes_7 rfl 0 rfl ?_
    refine g_iload_n X dX8_takes_8 rfl 1 rfl ?_
    refine g_bVi (As := [.int a1]) (rest := []) X (c_X8_beginsThing l K c M0 a1) lk_X8_51 rfl rfl rfl (Nat.le_of_ble_eq_true rfl) ⟨Nat.le_of_ble_eq_true rfl, Nat.le_of_ble_eq_true rfl⟩ ⟨Nat.zero_le _, Nat.zero_le _⟩ dX8_takes_9 (fun r14 => ?_)
    exact g_zret X rfl rfl rfl dX8_takes_12
set_option maxHeartbeats 4000000 in
set_option maxRecDepth 100000 in
theorem c_X8_firstWrong (l : Launch) (K : q_KK) (c : Nat → Nat) (M0 : q_MM) (a1 : Nat) : ∀ res, f_X8_firstWrong c M0 a1 = some res → Mt l yX8_firstWrong cX8_firstWrong 3 (some FieldType.int) 6 134 0 0 false K [.ref 28, .ref a1] ((qTX c), (qLX c), (qPX c), M0) (some (.int res.1)) (((qTX c), (qLX c), (qPX c), res.2)) := by
  refine Mt.of (fun (res : Int32 × q_MM) => some (.int res.1)) (fun (res : Int32 × q_MM) => ((qTX c), (qLX c), (qPX c), res.2)) (by decide) (Nat.le_of_ble_eq_true rfl) ?_
  intro p e s m args below meth c0 A ad X hN
  have hb_57 : ∀ (x2 : Int32) (M : q_MM), GG p l e { frames := 6, cells := 0, slots := 0, locals := 134 } s m args below meth c0 K A ((qTX c), (qLX c), (qPX c), M0) ad false 3 (fun res => MQ below (q_Qc K false ad ((qTX c), (qLX c), (qPX c), M0) ((fun (res : Int32 × q_MM) => some (.int res.1)) res) ((fun (res : Int32 × q_MM) => ((qTX c), (qLX c), (qPX c), res.2)) res) A) args s 0 0 A) (b_X8_firstWrong_57 c x2 M) 57 [(2, .int x2)] [] ((qTX c), (qLX c), (qPX c), M) 0 0 := by
    intro x2 M
    unfold b_X8_firstWrong_57
    refine g_iload_n X dX8_firstWrong_57 rfl 0 rfl ?_
    exact g_iret X rfl rfl rfl dX8_firstWrong_58
  have hb_79 : ∀ (x1 : Nat) (M : q_MM), GG p l e { frames := 6, cells := 0, slots := 0, locals := 134 } s m args below meth c0 K A ((qTX c), (qLX c), (qPX c), M0) ad false 3 (fun res => MQ below (q_Qc K false ad ((qTX c), (qLX c), (qPX c), M0) ((fun (res : Int32 × q_MM) => some (.int res.1)) res) ((fun (res : Int32 × q_MM) => ((qTX c), (qLX c), (qPX c), res.2)) res) A) args s 0 0 A) (b_X8_firstWrong_79 c x1 M) 79 [(1, .ref x1)] [] ((qTX c), (qLX c), (qPX c), M) 0 0 := by
    intro x1 M
    unfold b_X8_firstWrong_79
    refine g_aload_n X dX8_firstWrong_79 rfl 0 rfl ?_
    refine g_ck (fun hT1 => ?_)
    refine g_geti X fa_X8_37 hT1 dX8_firstWrong_80 ?_
    exact g_iret X rfl rfl rfl dX8_firstWrong_83
  have hb_31 : ∀ (nf : Nat) (x1 : Nat) (x2 : Int32) (M : q_MM), GG p l e { frames := 6, cells := 0, slots := 0, locals := 134 } s m args below meth c0 K A ((qTX c), (qLX c), (qPX c), M0) ad false 3 (fun res => MQ below (q_Qc K false ad ((qTX c), (qLX c), (qPX c), M0) ((fun (res : Int32 × q_MM) => some (.int res.1)) res) ((fun (res : Int32 × q_MM) => ((qTX c), (qLX c), (qPX c), res.2)) res) A) args s 0 0 A) (b_X8_firstWrong_31 c nf x1 x2 M) 31 [(0, .ref 28), (1, .ref x1), (2, .int x2)] [] ((qTX c), (qLX c), (qPX c), M) 0 0 := by
    intro  nf
    induction nf with
    | zero => intros; exact g_stop
    | succ nf ih =>
      intro x1 x2 M
      rw [b_X8_firstWrong_31]
      refine g_iload_n X dX8_firstWrong_31 rfl 2 rfl ?_
      refine g_aload_n X dX8_firstWrong_32 rfl 1 rfl ?_
      refine g_ck (fun hT2 => ?_)
      refine g_geti X fa_X8_37 hT2 dX8_firstWrong_33 ?_
      refine g_icmp_ge X 65 dX8_firstWrong_36 rfl (fun h3 => ?_) (fun h3 => ?_)
      · refine g_aload_n X dX8_firstWrong_65 rfl 0 rfl ?_
        refine g_geti X fa_X8_26 rfl dX8_firstWrong_66 ?_
        refine g_if_ne X 79 dX8_firstWrong_69 rfl (fun h4 => ?_) (fun h4 => ?_)
        · refine g_aload_n X dX8_firstWrong_72 rfl 0 rfl ?_
          refine g_geti X fa_X8_34 rfl dX8_firstWrong_73 ?_
          refine g_if_le X 84 dX8_firstWrong_76 rfl (fun h5 => ?_) (fun h5 => ?_)
          · refine g_aload_n X dX8_firstWrong_84 rfl 0 rfl ?_
            refine g_bVv (As := []) (rest := []) X (c_X8_endExpression l K c M) lk_X8_48 rfl rfl rfl (Nat.le_of_ble_eq_true rfl) ⟨Nat.le_of_ble_eq_true rfl, Nat.le_of_ble_eq_true rfl⟩ ⟨Nat.zero_le _, Nat.zero_le _⟩ dX8_firstWrong_85 (fun r6 => ?_)
            refine g_iconst (v := (-1)) X dX8_firstWrong_88 (by decide) ?_
            exact g_iret X rfl rfl rfl dX8_firstWrong_89
          · exact g_sub [1] rfl (hb_79 x1 M)
        · exact g_sub [1] rfl (hb_79 x1 M)
      · refine g_iload_n X dX8_firstWrong_39 rfl 2 rfl ?_
        refine g_bipush (v := 60) X dX8_firstWrong_40 (by decide) ?_
        refine g_icmp_ge X 57 dX8_firstWrong_42 rfl (fun h7 => ?_) (fun h7 => ?_)
        · exact g_sub [2] rfl (hb_57 x2 M)
        · refine g_aload_n X dX8_firstWrong_45 rfl 0 rfl ?_
          refine g_aload_n X dX8_firstWrong_46 rfl 1 rfl ?_
          refine g_iload_n X dX8_firstWrong_47 rfl 2 rfl ?_
          refine g_bVi (As := [.int x2]) (rest := [.ref 28]) X (c_X4_get l K c M x1 x2) lk_X8_40 hT2 rfl rfl (Nat.le_of_ble_eq_true rfl) ⟨Nat.le_of_ble_eq_true rfl, Nat.le_of_ble_eq_true rfl⟩ ⟨Nat.zero_le _, Nat.zero_le _⟩ dX8_firstWrong_48 (fun r8 => ?_)
          refine g_bVi (As := [.int r8]) (rest := []) X (c_X8_takes l K c M r8) lk_X8_44 rfl rfl rfl (Nat.le_of_ble_eq_true rfl) ⟨Nat.le_of_ble_eq_true rfl, Nat.le_of_ble_eq_true rfl⟩ ⟨Nat.zero_le _, Nat.zero_le _⟩ dX8_firstWrong_51 (fun r9 => ?_)
          refine g_if_ne X 59 dX8_firstWrong_54 rfl (fun h10 => ?_) (fun h10 => ?_)
          · exact g_sub [2] rfl (hb_57 x2 r9.2)
          · refine g_iinc (v := 1) X [(2, .int (x2 + 1)), (0, .ref 28), (1, .ref x1)] 2 dX8_firstWrong_59 rfl (by decide) (by decide) rfl ?_
            refine g_goto X 31 dX8_firstWrong_62 rfl ?_
            exact g_sub [1, 2, 0] rfl (ih x1 (x2 + 1) r9.2)
  refine g_sub (lv' := [(0, .ref 28), (1, .ref a1)]) [0, 1] rfl ?_
  unfold f_X8_firstWrong
  refine g_aload_n X dX8_firstWrong_0 rfl 0 rfl ?_
  refine g_getr X fa_X8_14 rfl rfl dX8_firstWrong_1 ?_
  refine g_bVv (As := []) (rest := []) X (c_X4_clear l K c M0 31) lk_X8_23 rfl rfl rfl (Nat.le_of_ble_eq_true rfl) ⟨Nat.le_of_ble_eq_true rfl, Nat.le_of_ble_eq_true rfl⟩ ⟨Nat.zero_le _, Nat.zero_le _⟩ dX8_firstWrong_4 (fun r11 => ?_)
  refine g_aload_n X dX8_firstWrong_7 rfl 0 rfl ?_
  refine g_getr X fa_X8_20 rfl rfl dX8_firstWrong_8 ?_
  refine g_bVv (As := []) (rest := []) X (c_X4_clear l K c r11 32) lk_X8_23 rfl rfl rfl (Nat.le_of_ble_eq_true rfl) ⟨Nat.le_of_ble_eq_true rfl, Nat.le_of_ble_eq_true rfl⟩ ⟨Nat.zero_le _, Nat.zero_le _⟩ dX8_firstWrong_11 (fun r12 => ?_)
  refine g_aload_n X dX8_firstWrong_14 rfl 0 rfl ?_
  refine g_iconst (v := 1) X dX8_firstWrong_15 (by decide) ?_
  refine g_pfz X fa_X8_26 rfl (by decide +kernel) rfl dX8_firstWrong_16 (fun M13 => ?_)
  refine g_aload_n X dX8_firstWrong_19 rfl 0 rfl ?_
  refine g_iconst (v := 0) X dX8_firstWrong_20 (by decide) ?_
  refine g_pfi X fa_X8_30 rfl (by decide +kernel) rfl dX8_firstWrong_21 (fun M14 => ?_)
  refine g_aload_n X dX8_firstWrong_24 rfl 0 rfl ?_
  refine g_iconst (v := 0) X dX8_firstWrong_25 (by decide) ?_
  refine g_pfi X fa_X8_34 rfl (by decide +kernel) rfl dX8_firstWrong_26 (fun M15 => ?_)
  refine g_iconst (v := 0) X dX8_firstWrong_29 (by decide) ?_
  refine g_istore_n X [(2, .int 0), (0, .ref 28), (1, .ref a1)] dX8_firstWrong_30 rfl (by decide) rfl ?_
  exact g_sub [1, 2, 0] rfl (hb_31 q_fu a1 0 M15)
set_option maxHeartbeats 4000000 in
set_option maxRecDepth 100000 in
theorem c_X9_inForce (l : Launch) (K : q_KK) (c : Nat → Nat) (M : q_MM) (a1 : Int32) : ∀ res, f_X9_inForce c M a1 = some res → Mt l yX9_inForce cX9_inForce 6 (some FieldType.int) 3 64 0 0 false K [.ref 3, .int a1] ((qTX c), (qLX c), (qPX c), M) (some (.int res)) (((qTX c), (qLX c), (qPX c), M)) := by
  refine Mt.of (fun (res : Int32) => some (.int res)) (fun (_ : Int32) => ((qTX c), (qLX c), (qPX c), M)) (by decide) (Nat.le_of_ble_eq_true rfl) ?_
  intro p e s m args below meth c0 A ad X hN
  have hb_75 : ∀ (k7 : Int32 → Int32 → Int32 → Int32 → Option (Int32)) (hk7 : ∀ (x1 : Int32) (x2 : Int32) (x3 : Int32) (x4 : Int32), GG p l e { frames := 3, cells := 0, slots := 0, locals := 64 } s m args below meth c0 K A ((qTX c), (qLX c), (qPX c), M) ad false 6 (fun res => MQ below (q_Qc K false ad ((qTX c), (qLX c), (qPX c), M) ((fun (res : Int32) => some (.int res)) res) ((fun (_ : Int32) => ((qTX c), (qLX c), (qPX c), M)) res) A) args s 0 0 A) (k7 x1 x2 x3 x4) 7 [(0, .ref 3), (1, .int x1), (2, .int x2), (3, .int x3), (4, .int x4)] [] ((qTX c), (qLX c), (qPX c), M) 0 0) (x1 : Int32) (x2 : Int32) (x3 : Int32) (x4 : Int32), GG p l e { frames := 3, cells := 0, slots := 0, locals := 64 } s m args below meth c0 K A ((qTX c), (qLX c), (qPX c), M) ad false 6 (fun res => MQ below (q_Qc K false ad ((qTX c), (qLX c), (qPX c), M) ((fun (res : Int32) => some (.int res)) res) ((fun (_ : Int32) => ((qTX c), (qLX c), (qPX c), M)) res) A) args s 0 0 A) (b_X9_inForce_75 c M k7 x1 x2 x3 x4) 75 [(0, .ref 3), (1, .int x1), (2, .int x2), (3, .int x3), (4, .int x4)] [] ((qTX c), (qLX c), (qPX c), M) 0 0 := by
    intro k7 hk7 x1 x2 x3 x4
    unfold b_X9_inForce_75
    refine g_iinc (v := 1) X [(4, .int (x4 + 1)), (0, .ref 3), (1, .int x1), (2, .int x2), (3, .int x3)] 4 dX9_inForce_75 rfl (by decide) (by decide) rfl ?_
    refine g_goto X 7 dX9_inForce_78 rfl ?_
    exact g_sub [1, 2, 3, 4, 0] rfl (hk7 x1 x2 x3 (x4 + 1))
  have hb_7 : ∀ (nf : Nat) (x1 : Int32) (x2 : Int32) (x3 : Int32) (x4 : Int32), GG p l e { frames := 3, cells := 0, slots := 0, locals := 64 } s m args below meth c0 K A ((qTX c), (qLX c), (qPX c), M) ad false 6 (fun res => MQ below (q_Qc K false ad ((qTX c), (qLX c), (qPX c), M) ((fun (res : Int32) => some (.int res)) res) ((fun (_ : Int32) => ((qTX c), (qLX c), (qPX c), M)) res) A) args s 0 0 A) (b_X9_inForce_7 c M nf x1 x2 x3 x4) 7 [(0, .ref 3), (1, .int x1), (2, .int x2), (3, .int x3), (4, .int x4)] [] ((qTX c), (qLX c), (qPX c), M) 0 0 := by
    intro  nf
    induction nf with
    | zero => intros; exact g_stop
    | succ nf ih =>
      intro x1 x2 x3 x4
      rw [b_X9_inForce_7]
      refine g_iload X dX9_inForce_7 4 rfl ?_
      refine g_aload_n X dX9_inForce_9 rfl 0 rfl ?_
      refine g_getr X fa_X9_12 rfl rfl dX9_inForce_10 ?_
      refine g_bVi (As := []) (rest := [.int x4]) X (c_Jx4a65c_size_8abf5 l K (qTX c) (qLX c) (qPX c) M 27) lk_X9_79 rfl rfl rfl (Nat.le_of_ble_eq_true rfl) ⟨Nat.le_of_ble_eq_true rfl, Nat.le_of_ble_eq_true rfl⟩ ⟨Nat.zero_le _, Nat.zero_le _⟩ dX9_inForce_13 (fun r1 => ?_)
      refine g_icmp_ge X 81 dX9_inForce_16 rfl (fun h2 => ?_) (fun h2 => ?_)
      · refine g_iload_n X dX9_inForce_81 rfl 2 rfl ?_
        exact g_iret X rfl rfl rfl dX9_inForce_82
      · refine g_aload_n X dX9_inForce_19 rfl 0 rfl ?_
        refine g_getr X fa_X9_12 rfl rfl dX9_inForce_20 ?_
        refine g_iload X dX9_inForce_23 4 rfl ?_
        refine g_bVr (As := [.int x4]) (rest := []) X (c_Jx4a65c_get_915e3 l K (qTX c) (qLX c) (qPX c) M 27 x4) lk_X9_81 rfl rfl rfl (Nat.le_of_ble_eq_true rfl) ⟨Nat.le_of_ble_eq_true rfl, Nat.le_of_ble_eq_true rfl⟩ ⟨Nat.zero_le _, Nat.zero_le _⟩ dX9_inForce_25 (fun r3 => ?_)
        refine g_ck (fun hT4 => ?_)
        refine g_cast X (ci := 7) rfl wl_X9_70 hT4 dX9_inForce_28 ?_
        refine g_astore X [(5, .ref r3), (0, .ref 3), (1, .int x1), (2, .int x2), (3, .int x3), (4, .int x4)] dX9_inForce_31 (by decide) rfl ?_
        refine g_aload X dX9_inForce_33 0 rfl ?_
        refine g_geti X fa_X9_85 hT4 dX9_inForce_35 ?_
        refine g_iload_n X dX9_inForce_38 rfl 2 rfl ?_
        refine g_icmp_ne X 75 dX9_inForce_39 rfl (fun h5 => ?_) (fun h5 => ?_)
        · refine g_aload X dX9_inForce_42 0 rfl ?_
          refine g_geti X fa_X9_88 hT4 dX9_inForce_44 ?_
          refine g_aload_n X dX9_inForce_47 rfl 1 rfl ?_
          refine g_getr X fa_X9_46 rfl rfl dX9_inForce_48 ?_
          refine g_geti X fa_X9_91 rfl dX9_inForce_51 ?_
          refine g_icmp_gt X 75 dX9_inForce_54 rfl (fun h6 => ?_) (fun h6 => ?_)
          · exact g_sub [1, 2, 3, 4, 5] rfl (hb_75 (b_X9_inForce_7 c M nf) ih x1 x2 x3 x4)
          · refine g_aload X dX9_inForce_57 0 rfl ?_
            refine g_geti X fa_X9_88 hT4 dX9_inForce_59 ?_
            refine g_iload_n X dX9_inForce_62 rfl 4 rfl ?_
            refine g_icmp_lt X 75 dX9_inForce_63 rfl (fun h7 => ?_) (fun h7 => ?_)
            · exact g_sub [1, 2, 3, 4, 5] rfl (hb_75 (b_X9_inForce_7 c M nf) ih x1 x2 x3 x4)
            · refine g_iload X dX9_inForce_66 5 rfl ?_
              refine g_istore_n X [(2, .int x4), (5, .ref r3), (0, .ref 3), (1, .int x1), (3, .int x3), (4, .int x4)] dX9_inForce_68 rfl (by decide) rfl ?_
              refine g_aload X dX9_inForce_69 1 rfl ?_
              refine g_geti X fa_X9_88 hT4 dX9_inForce_71 ?_
              refine g_isn X (fun v8 => [(3, .int v8), (2, .int x4), (5, .ref r3), (0, .ref 3), (1, .int x1), (4, .int x4)]) dX9_inForce_74 rfl (by decide) (fun _ => rfl) (fun v8 => ?_)
              exact g_sub [3, 4, 1, 0, 5] rfl (hb_75 (b_X9_inForce_7 c M nf) ih x1 x4 v8 x4)
        · exact g_sub [1, 2, 3, 4, 5] rfl (hb_75 (b_X9_inForce_7 c M nf) ih x1 x2 x3 x4)
  refine g_sub (lv' := [(0, .ref 3), (1, .int a1)]) [0, 1] rfl ?_
  unfold f_X9_inForce
  refine g_iconst (v := (-1)) X dX9_inForce_0 (by decide) ?_
  refine g_istore_n X [(2, .int (-1)), (0, .ref 3), (1, .int a1)] dX9_inForce_1 rfl (by decide) rfl ?_
  refine g_iconst (v := (-1)) X dX9_inForce_2 (by decide) ?_
  refine g_istore_n X [(3, .int (-1)), (2, .int (-1)), (0, .ref 3), (1, .int a1)] dX9_inForce_3 rfl (by decide) rfl ?_
  refine g_iconst (v := 0) X dX9_inForce_4 (by decide) ?_
  refine g_istore X [(4, .int 0), (3, .int (-1)), (2, .int (-1)), (0, .ref 3), (1, .int a1)] dX9_inForce_5 (by decide) rfl ?_
  exact g_sub [3, 4, 2, 1, 0] rfl (hb_7 q_fu a1 (-1) (-1) 0)
set_option maxHeartbeats 4000000 in
set_option maxRecDepth 100000 in
theorem c_X9_readLetters (l : Launch) (K : q_KK) (c : Nat → Nat) (M0 : q_MM) (a1 : Nat) (a2 : Nat) (a3 : Nat) (a4 : Int32) : ∀ res, f_X9_readLetters c M0 a1 a2 a3 a4 = some res → Mt l yX9_readLetters cX9_readLetters 7 (none : Option FieldType) 5 111 0 0 false K [.ref 3, .ref a1, .ref a2, .ref a3, .int a4] ((qTX c), (qLX c), (qPX c), M0) (none) (((qTX c), (qLX c), (qPX c), res)) := by
  refine Mt.of (fun (_ : q_MM) => none) (fun (res : q_MM) => ((qTX c), (qLX c), (qPX c), res)) (by decide) (Nat.le_of_ble_eq_true rfl) ?_
  intro p e s m args below meth c0 A ad X hN
  have hb_217 : ∀ (x1 : Nat) (x2 : Nat) (x3 : Nat) (s0 : Int32) (s1 : Int32) (s2 : Nat) (M : q_MM), GG p l e { frames := 5, cells := 0, slots := 0, locals := 111 } s m args below meth c0 K A ((qTX c), (qLX c), (qPX c), M0) ad false 7 (fun res => MQ below (q_Qc K false ad ((qTX c), (qLX c), (qPX c), M0) ((fun (_ : q_MM) => none) res) ((fun (res : q_MM) => ((qTX c), (qLX c), (qPX c), res)) res) A) args s 0 0 A) (b_X9_readLetters_217 c x1 x2 x3 s0 s1 s2 M) 217 [(0, .ref 3), (1, .ref x1), (2, .ref x2), (3, .ref x3)] [.int s0, .int s1, .ref s2] ((qTX c), (qLX c), (qPX c), M) 0 0 := by
    intro x1 x2 x3 s0 s1 s2 M
    unfold b_X9_readLetters_217
    refine g_ck (fun hT1 => ?_)
    refine g_isv X hT1 rfl dX9_readLetters_217 (fun M2 => ?_)
    refine g_aload_n X dX9_readLetters_218 rfl 0 rfl ?_
    refine g_getr X fa_X9_33 rfl rfl dX9_readLetters_219 ?_
    refine g_bipush (v := 7) X dX9_readLetters_222 (by decide) ?_
    refine g_aload_n X dX9_readLetters_224 rfl 0 rfl ?_
    refine g_getr X fa_X9_46 rfl rfl dX9_readLetters_225 ?_
    refine g_aload_n X dX9_readLetters_228 rfl 1 rfl ?_
    refine g_aload_n X dX9_readLetters_229 rfl 2 rfl ?_
    refine g_aload_n X dX9_readLetters_230 rfl 3 rfl ?_
    refine g_ck (fun hT3 => ?_)
    refine g_geti X fa_X9_100 hT3 dX9_readLetters_231 ?_
    refine g_bVi (As := [.ref x1, .ref x2, .int (M2 x3 1)]) (rest := [.int 7, .ref 29]) X (c_X2_othersIn l K c M2 x1 x2 (M2 x3 1)) lk_X9_163 rfl rfl rfl (Nat.le_of_ble_eq_true rfl) ⟨Nat.le_of_ble_eq_true rfl, Nat.le_of_ble_eq_true rfl⟩ ⟨Nat.zero_le _, Nat.zero_le _⟩ dX9_readLetters_234 (fun r4 => ?_)
    refine g_isv X rfl rfl dX9_readLetters_237 (fun M5 => ?_)
    refine g_aload_n X dX9_readLetters_238 rfl 0 rfl ?_
    refine g_getr X fa_X9_33 rfl rfl dX9_readLetters_239 ?_
    refine g_bipush (v := 8) X dX9_readLetters_242 (by decide) ?_
    refine g_aload_n X dX9_readLetters_244 rfl 2 rfl ?_
    refine g_ck (fun hT6 => ?_)
    refine g_geti X fa_X9_167 hT6 dX9_readLetters_245 ?_
    refine g_aload_n X dX9_readLetters_248 rfl 2 rfl ?_
    refine g_geti X fa_X9_170 hT6 dX9_readLetters_249 ?_
    refine g_isub X dX9_readLetters_252 ?_
    refine g_isv X rfl rfl dX9_readLetters_253 (fun M7 => ?_)
    refine g_aload_n X dX9_readLetters_254 rfl 0 rfl ?_
    refine g_getr X fa_X9_33 rfl rfl dX9_readLetters_255 ?_
    refine g_bipush (v := 9) X dX9_readLetters_258 (by decide) ?_
    refine g_aload_n X dX9_readLetters_260 rfl 0 rfl ?_
    refine g_getr X fa_X9_46 rfl rfl dX9_readLetters_261 ?_
    refine g_geti X fa_X9_91 rfl dX9_readLetters_264 ?_
    refine g_isv X rfl rfl dX9_readLetters_267 (fun M8 => ?_)
    refine g_aload_n X dX9_readLetters_268 rfl 0 rfl ?_
    refine g_getr X fa_X9_33 rfl rfl dX9_readLetters_269 ?_
    refine g_bipush (v := 10) X dX9_readLetters_272 (by decide) ?_
    refine g_aload_n X dX9_readLetters_274 rfl 2 rfl ?_
    refine g_geti X fa_X9_173 hT6 dX9_readLetters_275 ?_
    refine g_isv X rfl rfl dX9_readLetters_278 (fun M9 => ?_)
    refine g_aload_n X dX9_readLetters_279 rfl 0 rfl ?_
    refine g_getr X fa_X9_33 rfl rfl dX9_readLetters_280 ?_
    refine g_bipush (v := 11) X dX9_readLetters_283 (by decide) ?_
    refine g_aload_n X dX9_readLetters_285 rfl 0 rfl ?_
    refine g_getr X fa_X9_46 rfl rfl dX9_readLetters_286 ?_
    refine g_getr X fa_X9_176 rfl rfl dX9_readLetters_289 ?_
    refine g_aload_n X dX9_readLetters_292 rfl 3 rfl ?_
    refine g_geti X fa_X9_100 hT3 dX9_readLetters_293 ?_
    refine g_ild X rfl rfl dX9_readLetters_296 (fun v10 => ?_)
    refine g_isv X rfl rfl dX9_readLetters_297 (fun M11 => ?_)
    exact g_vret X rfl rfl rfl dX9_readLetters_298
  have hb_216 : ∀ (x1 : Nat) (x2 : Nat) (x3 : Nat) (s0 : Int32) (s1 : Nat) (M : q_MM), GG p l e { frames := 5, cells := 0, slots := 0, locals := 111 } s m args below meth c0 K A ((qTX c), (qLX c), (qPX c), M0) ad false 7 (fun res => MQ below (q_Qc K false ad ((qTX c), (qLX c), (qPX c), M0) ((fun (_ : q_MM) => none) res) ((fun (res : q_MM) => ((qTX c), (qLX c), (qPX c), res)) res) A) args s 0 0 A) (b_X9_readLetters_216 c x1 x2 x3 s0 s1 M) 216 [(0, .ref 3), (1, .ref x1), (2, .ref x2), (3, .ref x3)] [.int s0, .ref s1] ((qTX c), (qLX c), (qPX c), M) 0 0 := by
    intro x1 x2 x3 s0 s1 M
    unfold b_X9_readLetters_216
    refine g_iconst (v := 0) X dX9_readLetters_216 (by decide) ?_
    exact g_sub [0, 1, 2, 3] rfl (hb_217 x1 x2 x3 0 s0 s1 M)
  have hb_212 : ∀ (x1 : Nat) (x2 : Nat) (x3 : Nat) (s0 : Int32) (s1 : Nat) (M : q_MM), GG p l e { frames := 5, cells := 0, slots := 0, locals := 111 } s m args below meth c0 K A ((qTX c), (qLX c), (qPX c), M0) ad false 7 (fun res => MQ below (q_Qc K false ad ((qTX c), (qLX c), (qPX c), M0) ((fun (_ : q_MM) => none) res) ((fun (res : q_MM) => ((qTX c), (qLX c), (qPX c), res)) res) A) args s 0 0 A) (b_X9_readLetters_212 c x1 x2 x3 s0 s1 M) 212 [(0, .ref 3), (1, .ref x1), (2, .ref x2), (3, .ref x3)] [.int s0, .ref s1] ((qTX c), (qLX c), (qPX c), M) 0 0 := by
    intro x1 x2 x3 s0 s1 M
    unfold b_X9_readLetters_212
    refine g_iconst (v := 1) X dX9_readLetters_212 (by decide) ?_
    refine g_goto X 217 dX9_readLetters_213 rfl ?_
    exact g_sub [0, 1, 2, 3] rfl (hb_217 x1 x2 x3 1 s0 s1 M)
  have hb_195 : ∀ (x1 : Nat) (x2 : Nat) (x3 : Nat) (x6 : Nat) (s0 : Int32) (s1 : Nat) (M : q_MM), GG p l e { frames := 5, cells := 0, slots := 0, locals := 111 } s m args below meth c0 K A ((qTX c), (qLX c), (qPX c), M0) ad false 7 (fun res => MQ below (q_Qc K false ad ((qTX c), (qLX c), (qPX c), M0) ((fun (_ : q_MM) => none) res) ((fun (res : q_MM) => ((qTX c), (qLX c), (qPX c), res)) res) A) args s 0 0 A) (b_X9_readLetters_195 c x1 x2 x3 x6 s0 s1 M) 195 [(0, .ref 3), (1, .ref x1), (2, .ref x2), (3, .ref x3), (6, .ref x6)] [.int s0, .ref s1] ((qTX c), (qLX c), (qPX c), M) 0 0 := by
    intro x1 x2 x3 x6 s0 s1 M
    unfold b_X9_readLetters_195
    refine g_aload X dX9_readLetters_195 4 rfl ?_
    refine g_ifnull X 216 dX9_readLetters_197 rfl (fun h12 => ?_) (fun h12 => ?_)
    · exact g_sub [0, 1, 2, 3] rfl (hb_216 x1 x2 x3 s0 s1 M)
    · refine g_aload X dX9_readLetters_200 4 rfl ?_
      refine g_ck (fun hT13 => ?_)
      refine g_geti X fa_X9_112 hT13 dX9_readLetters_202 ?_
      refine g_aload_n X dX9_readLetters_205 rfl 2 rfl ?_
      refine g_ck (fun hT14 => ?_)
      refine g_geti X fa_X9_160 hT14 dX9_readLetters_206 ?_
      refine g_icmp_ne X 216 dX9_readLetters_209 rfl (fun h15 => ?_) (fun h15 => ?_)
      · exact g_sub [0, 1, 2, 3] rfl (hb_212 x1 x2 x3 s0 s1 M)
      · exact g_sub [0, 1, 2, 3] rfl (hb_216 x1 x2 x3 s0 s1 M)
  have hb_170 : ∀ (x1 : Nat) (x2 : Nat) (x3 : Nat) (x5 : Nat) (x6 : Nat) (s0 : Int32) (s1 : Int32) (s2 : Int32) (s3 : Nat) (M : q_MM), GG p l e { frames := 5, cells := 0, slots := 0, locals := 111 } s m args below meth c0 K A ((qTX c), (qLX c), (qPX c), M0) ad false 7 (fun res => MQ below (q_Qc K false ad ((qTX c), (qLX c), (qPX c), M0) ((fun (_ : q_MM) => none) res) ((fun (res : q_MM) => ((qTX c), (qLX c), (qPX c), res)) res) A) args s 0 0 A) (b_X9_readLetters_170 c x1 x2 x3 x5 x6 s0 s1 s2 s3 M) 170 [(0, .ref 3), (1, .ref x1), (2, .ref x2), (3, .ref x3), (5, .ref x5), (6, .ref x6)] [.int s0, .int s1, .int s2, .ref s3] ((qTX c), (qLX c), (qPX c), M) 0 0 := by
    intro x1 x2 x3 x5 x6 s0 s1 s2 s3 M
    unfold b_X9_readLetters_170
    refine g_iadd X dX9_readLetters_170 ?_
    refine g_ck (fun hT16 => ?_)
    refine g_isv X hT16 rfl dX9_readLetters_171 (fun M17 => ?_)
    refine g_aload_n X dX9_readLetters_172 rfl 0 rfl ?_
    refine g_getr X fa_X9_33 rfl rfl dX9_readLetters_173 ?_
    refine g_bipush (v := 6) X dX9_readLetters_176 (by decide) ?_
    refine g_aload X dX9_readLetters_178 4 rfl ?_
    refine g_ifnull X 195 dX9_readLetters_180 rfl (fun h18 => ?_) (fun h18 => ?_)
    · exact g_sub [0, 1, 2, 3, 5] rfl (hb_195 x1 x2 x3 x6 6 29 M17)
    · refine g_aload X dX9_readLetters_183 4 rfl ?_
      refine g_ck (fun hT19 => ?_)
      refine g_geti X fa_X9_112 hT19 dX9_readLetters_185 ?_
      refine g_aload_n X dX9_readLetters_188 rfl 2 rfl ?_
      refine g_ck (fun hT20 => ?_)
      refine g_geti X fa_X9_160 hT20 dX9_readLetters_189 ?_
      refine g_icmp_eq X 212 dX9_readLetters_192 rfl (fun h21 => ?_) (fun h21 => ?_)
      · exact g_sub [0, 1, 2, 3] rfl (hb_212 x1 x2 x3 6 29 M17)
      · exact g_sub [0, 1, 2, 3, 5] rfl (hb_195 x1 x2 x3 x6 6 29 M17)
  have hb_169 : ∀ (x1 : Nat) (x2 : Nat) (x3 : Nat) (x5 : Nat) (x6 : Nat) (s0 : Int32) (s1 : Int32) (s2 : Nat) (M : q_MM), GG p l e { frames := 5, cells := 0, slots := 0, locals := 111 } s m args below meth c0 K A ((qTX c), (qLX c), (qPX c), M0) ad false 7 (fun res => MQ below (q_Qc K false ad ((qTX c), (qLX c), (qPX c), M0) ((fun (_ : q_MM) => none) res) ((fun (res : q_MM) => ((qTX c), (qLX c), (qPX c), res)) res) A) args s 0 0 A) (b_X9_readLetters_169 c x1 x2 x3 x5 x6 s0 s1 s2 M) 169 [(0, .ref 3), (1, .ref x1), (2, .ref x2), (3, .ref x3), (5, .ref x5), (6, .ref x6)] [.int s0, .int s1, .ref s2] ((qTX c), (qLX c), (qPX c), M) 0 0 := by
    intro x1 x2 x3 x5 x6 s0 s1 s2 M
    unfold b_X9_readLetters_169
    refine g_iconst (v := 0) X dX9_readLetters_169 (by decide) ?_
    exact g_sub [0, 1, 2, 3, 4, 5] rfl (hb_170 x1 x2 x3 x5 x6 0 s0 s1 s2 M)
  have hb_148 : ∀ (x1 : Nat) (x2 : Nat) (x3 : Nat) (x5 : Nat) (x6 : Nat) (s0 : Int32) (s1 : Int32) (s2 : Nat) (M : q_MM), GG p l e { frames := 5, cells := 0, slots := 0, locals := 111 } s m args below meth c0 K A ((qTX c), (qLX c), (qPX c), M0) ad false 7 (fun res => MQ below (q_Qc K false ad ((qTX c), (qLX c), (qPX c), M0) ((fun (_ : q_MM) => none) res) ((fun (res : q_MM) => ((qTX c), (qLX c), (qPX c), res)) res) A) args s 0 0 A) (b_X9_readLetters_148 c x1 x2 x3 x5 x6 s0 s1 s2 M) 148 [(0, .ref 3), (1, .ref x1), (2, .ref x2), (3, .ref x3), (5, .ref x5), (6, .ref x6)] [.int s0, .int s1, .ref s2] ((qTX c), (qLX c), (qPX c), M) 0 0 := by
    intro x1 x2 x3 x5 x6 s0 s1 s2 M
    unfold b_X9_readLetters_148
    refine g_aload X dX9_readLetters_148 5 rfl ?_
    refine g_ifnull X 169 dX9_readLetters_150 rfl (fun h22 => ?_) (fun h22 => ?_)
    · exact g_sub [0, 1, 2, 3, 4, 5] rfl (hb_169 x1 x2 x3 x5 x6 s0 s1 s2 M)
    · refine g_aload X dX9_readLetters_153 5 rfl ?_
      refine g_ck (fun hT23 => ?_)
      refine g_geti X fa_X9_157 hT23 dX9_readLetters_155 ?_
      refine g_aload_n X dX9_readLetters_158 rfl 2 rfl ?_
      refine g_ck (fun hT24 => ?_)
      refine g_geti X fa_X9_157 hT24 dX9_readLetters_159 ?_
      refine g_icmp_ne X 169 dX9_readLetters_162 rfl (fun h25 => ?_) (fun h25 => ?_)
      · refine g_iconst (v := 1) X dX9_readLetters_165 (by decide) ?_
        refine g_goto X 170 dX9_readLetters_166 rfl ?_
        exact g_sub [0, 1, 2, 3, 4, 5] rfl (hb_170 x1 x2 x3 x5 x6 1 s0 s1 s2 M)
      · exact g_sub [0, 1, 2, 3, 4, 5] rfl (hb_169 x1 x2 x3 x5 x6 s0 s1 s2 M)
  have hb_147 : ∀ (x1 : Nat) (x2 : Nat) (x3 : Nat) (x5 : Nat) (x6 : Nat) (s0 : Int32) (s1 : Nat) (M : q_MM), GG p l e { frames := 5, cells := 0, slots := 0, locals := 111 } s m args below meth c0 K A ((qTX c), (qLX c), (qPX c), M0) ad false 7 (fun res => MQ below (q_Qc K false ad ((qTX c), (qLX c), (qPX c), M0) ((fun (_ : q_MM) => none) res) ((fun (res : q_MM) => ((qTX c), (qLX c), (qPX c), res)) res) A) args s 0 0 A) (b_X9_readLetters_147 c x1 x2 x3 x5 x6 s0 s1 M) 147 [(0, .ref 3), (1, .ref x1), (2, .ref x2), (3, .ref x3), (5, .ref x5), (6, .ref x6)] [.int s0, .ref s1] ((qTX c), (qLX c), (qPX c), M) 0 0 := by
    intro x1 x2 x3 x5 x6 s0 s1 M
    unfold b_X9_readLetters_147
    refine g_iconst (v := 0) X dX9_readLetters_147 (by decide) ?_
    exact g_sub [0, 1, 2, 3, 4, 5] rfl (hb_148 x1 x2 x3 x5 x6 0 s0 s1 M)
  have hb_119 : ∀ (x1 : Nat) (x2 : Nat) (x3 : Nat) (x5 : Nat) (x6 : Nat) (s0 : Int32) (s1 : Int32) (s2 : Int32) (s3 : Nat) (M : q_MM), GG p l e { frames := 5, cells := 0, slots := 0, locals := 111 } s m args below meth c0 K A ((qTX c), (qLX c), (qPX c), M0) ad false 7 (fun res => MQ below (q_Qc K false ad ((qTX c), (qLX c), (qPX c), M0) ((fun (_ : q_MM) => none) res) ((fun (res : q_MM) => ((qTX c), (qLX c), (qPX c), res)) res) A) args s 0 0 A) (b_X9_readLetters_119 c x1 x2 x3 x5 x6 s0 s1 s2 s3 M) 119 [(0, .ref 3), (1, .ref x1), (2, .ref x2), (3, .ref x3), (5, .ref x5), (6, .ref x6)] [.int s0, .int s1, .int s2, .ref s3] ((qTX c), (qLX c), (qPX c), M) 0 0 := by
    intro x1 x2 x3 x5 x6 s0 s1 s2 s3 M
    unfold b_X9_readLetters_119
    refine g_iadd X dX9_readLetters_119 ?_
    refine g_ck (fun hT26 => ?_)
    refine g_isv X hT26 rfl dX9_readLetters_120 (fun M27 => ?_)
    refine g_aload_n X dX9_readLetters_121 rfl 0 rfl ?_
    refine g_getr X fa_X9_33 rfl rfl dX9_readLetters_122 ?_
    refine g_iconst (v := 5) X dX9_readLetters_125 (by decide) ?_
    refine g_aload X dX9_readLetters_126 4 rfl ?_
    refine g_ifnull X 147 dX9_readLetters_128 rfl (fun h28 => ?_) (fun h28 => ?_)
    · exact g_sub [0, 1, 2, 3, 4, 5] rfl (hb_147 x1 x2 x3 x5 x6 5 29 M27)
    · refine g_aload X dX9_readLetters_131 4 rfl ?_
      refine g_ck (fun hT29 => ?_)
      refine g_geti X fa_X9_157 hT29 dX9_readLetters_133 ?_
      refine g_aload_n X dX9_readLetters_136 rfl 2 rfl ?_
      refine g_ck (fun hT30 => ?_)
      refine g_geti X fa_X9_157 hT30 dX9_readLetters_137 ?_
      refine g_icmp_ne X 147 dX9_readLetters_140 rfl (fun h31 => ?_) (fun h31 => ?_)
      · refine g_iconst (v := 1) X dX9_readLetters_143 (by decide) ?_
        refine g_goto X 148 dX9_readLetters_144 rfl ?_
        exact g_sub [0, 1, 2, 3, 4, 5] rfl (hb_148 x1 x2 x3 x5 x6 1 5 29 M27)
      · exact g_sub [0, 1, 2, 3, 4, 5] rfl (hb_147 x1 x2 x3 x5 x6 5 29 M27)
  have hb_109 : ∀ (x1 : Nat) (x2 : Nat) (x3 : Nat) (x5 : Nat) (x6 : Nat) (s0 : Int32) (s1 : Int32) (s2 : Nat) (M : q_MM), GG p l e { frames := 5, cells := 0, slots := 0, locals := 111 } s m args below meth c0 K A ((qTX c), (qLX c), (qPX c), M0) ad false 7 (fun res => MQ below (q_Qc K false ad ((qTX c), (qLX c), (qPX c), M0) ((fun (_ : q_MM) => none) res) ((fun (res : q_MM) => ((qTX c), (qLX c), (qPX c), res)) res) A) args s 0 0 A) (b_X9_readLetters_109 c x1 x2 x3 x5 x6 s0 s1 s2 M) 109 [(0, .ref 3), (1, .ref x1), (2, .ref x2), (3, .ref x3), (5, .ref x5), (6, .ref x6)] [.int s0, .int s1, .ref s2] ((qTX c), (qLX c), (qPX c), M) 0 0 := by
    intro x1 x2 x3 x5 x6 s0 s1 s2 M
    unfold b_X9_readLetters_109
    refine g_aload X dX9_readLetters_109 5 rfl ?_
    refine g_ifnonnull X 118 dX9_readLetters_111 rfl (fun h32 => ?_) (fun h32 => ?_)
    · refine g_iconst (v := 0) X dX9_readLetters_114 (by decide) ?_
      refine g_goto X 119 dX9_readLetters_115 rfl ?_
      exact g_sub [0, 1, 2, 3, 4, 5] rfl (hb_119 x1 x2 x3 x5 x6 0 s0 s1 s2 M)
    · refine g_iconst (v := 1) X dX9_readLetters_118 (by decide) ?_
      exact g_sub [0, 1, 2, 3, 4, 5] rfl (hb_119 x1 x2 x3 x5 x6 1 s0 s1 s2 M)
  refine g_sub (lv' := [(0, .ref 3), (1, .ref a1), (2, .ref a2), (3, .ref a3), (4, .int a4)]) [0, 1, 2, 3, 4] rfl ?_
  unfold f_X9_readLetters
  refine g_aload_n X dX9_readLetters_0 rfl 0 rfl ?_
  refine g_getr X fa_X9_46 rfl rfl dX9_readLetters_1 ?_
  refine g_aload_n X dX9_readLetters_4 rfl 1 rfl ?_
  refine g_aload_n X dX9_readLetters_5 rfl 2 rfl ?_
  refine g_ck (fun hT33 => ?_)
  refine g_geti X fa_X9_112 hT33 dX9_readLetters_6 ?_
  refine g_aload_n X dX9_readLetters_9 rfl 3 rfl ?_
  refine g_ck (fun hT34 => ?_)
  refine g_geti X fa_X9_136 hT34 dX9_readLetters_10 ?_
  refine g_iload X dX9_readLetters_13 4 rfl ?_
  refine g_ck (fun hT35 => ?_)
  refine g_bVi (As := [.int (M0 a2 0), .int (M0 a3 0), .int a4]) (rest := [.ref 2]) X (c_X1_leftOf l K c M0 a1 (M0 a2 0) (M0 a3 0) a4) lk_X9_137 hT35 rfl rfl (Nat.le_of_ble_eq_true rfl) ⟨Nat.le_of_ble_eq_true rfl, Nat.le_of_ble_eq_true rfl⟩ ⟨Nat.zero_le _, Nat.zero_le _⟩ dX9_readLetters_15 (fun r36 => ?_)
  refine g_bVr (As := [.int r36]) (rest := []) X (c_X2_pictureAt l K c M0 r36) lk_X9_143 rfl rfl rfl (Nat.le_of_ble_eq_true rfl) ⟨Nat.le_of_ble_eq_true rfl, Nat.le_of_ble_eq_true rfl⟩ ⟨Nat.zero_le _, Nat.zero_le _⟩ dX9_readLetters_18 (fun r37 => ?_)
  refine g_astore X [(5, .ref r37), (0, .ref 3), (1, .ref a1), (2, .ref a2), (3, .ref a3), (4, .int a4)] dX9_readLetters_21 (by decide) rfl ?_
  refine g_aload_n X dX9_readLetters_23 rfl 1 rfl ?_
  refine g_getr X fa_X9_46 rfl rfl dX9_readLetters_24 ?_
  refine g_aload_n X dX9_readLetters_27 rfl 2 rfl ?_
  refine g_aload_n X dX9_readLetters_28 rfl 3 rfl ?_
  refine g_geti X fa_X9_112 hT33 dX9_readLetters_29 ?_
  refine g_aload_n X dX9_readLetters_32 rfl 4 rfl ?_
  refine g_geti X fa_X9_136 hT34 dX9_readLetters_33 ?_
  refine g_iload X dX9_readLetters_36 5 rfl ?_
  refine g_bVi (As := [.int (M0 a2 0), .int (M0 a3 0), .int a4]) (rest := [.ref 2]) X (c_X1_rightOf l K c M0 a1 (M0 a2 0) (M0 a3 0) a4) lk_X9_147 hT35 rfl rfl (Nat.le_of_ble_eq_true rfl) ⟨Nat.le_of_ble_eq_true rfl, Nat.le_of_ble_eq_true rfl⟩ ⟨Nat.zero_le _, Nat.zero_le _⟩ dX9_readLetters_38 (fun r38 => ?_)
  refine g_bVr (As := [.int r38]) (rest := []) X (c_X2_pictureAt l K c M0 r38) lk_X9_143 rfl rfl rfl (Nat.le_of_ble_eq_true rfl) ⟨Nat.le_of_ble_eq_true rfl, Nat.le_of_ble_eq_true rfl⟩ ⟨Nat.zero_le _, Nat.zero_le _⟩ dX9_readLetters_41 (fun r39 => ?_)
  refine g_astore X [(6, .ref r39), (5, .ref r37), (0, .ref 3), (1, .ref a1), (2, .ref a2), (3, .ref a3), (4, .int a4)] dX9_readLetters_44 (by decide) rfl ?_
  refine g_aload_n X dX9_readLetters_46 rfl 2 rfl ?_
  refine g_getr X fa_X9_33 rfl rfl dX9_readLetters_47 ?_
  refine g_iconst (v := 0) X dX9_readLetters_50 (by decide) ?_
  refine g_aload_n X dX9_readLetters_51 rfl 5 rfl ?_
  refine g_geti X fa_X9_100 hT34 dX9_readLetters_52 ?_
  refine g_isv X rfl rfl dX9_readLetters_55 (fun M40 => ?_)
  refine g_aload_n X dX9_readLetters_56 rfl 2 rfl ?_
  refine g_getr X fa_X9_33 rfl rfl dX9_readLetters_57 ?_
  refine g_iconst (v := 1) X dX9_readLetters_60 (by decide) ?_
  refine g_aload_n X dX9_readLetters_61 rfl 5 rfl ?_
  refine g_geti X fa_X9_136 hT34 dX9_readLetters_62 ?_
  refine g_isv X rfl rfl dX9_readLetters_65 (fun M41 => ?_)
  refine g_aload_n X dX9_readLetters_66 rfl 2 rfl ?_
  refine g_getr X fa_X9_33 rfl rfl dX9_readLetters_67 ?_
  refine g_iconst (v := 2) X dX9_readLetters_70 (by decide) ?_
  refine g_aload_n X dX9_readLetters_71 rfl 2 rfl ?_
  refine g_getr X fa_X9_46 rfl rfl dX9_readLetters_72 ?_
  refine g_aload_n X dX9_readLetters_75 rfl 5 rfl ?_
  refine g_bVi (As := [.ref a3]) (rest := [.int 2, .ref 29]) X (c_X2_peak l K c M41 a3) lk_X9_150 rfl rfl rfl (Nat.le_of_ble_eq_true rfl) ⟨Nat.le_of_ble_eq_true rfl, Nat.le_of_ble_eq_true rfl⟩ ⟨Nat.zero_le _, Nat.zero_le _⟩ dX9_readLetters_76 (fun r42 => ?_)
  refine g_isv X rfl rfl dX9_readLetters_79 (fun M43 => ?_)
  refine g_aload_n X dX9_readLetters_80 rfl 2 rfl ?_
  refine g_getr X fa_X9_33 rfl rfl dX9_readLetters_81 ?_
  refine g_iconst (v := 3) X dX9_readLetters_84 (by decide) ?_
  refine g_aload_n X dX9_readLetters_85 rfl 2 rfl ?_
  refine g_getr X fa_X9_46 rfl rfl dX9_readLetters_86 ?_
  refine g_aload_n X dX9_readLetters_89 rfl 5 rfl ?_
  refine g_bVi (As := [.ref a3]) (rest := [.int 3, .ref 29]) X (c_X2_daylight l K c M43 a3) lk_X9_154 rfl rfl rfl (Nat.le_of_ble_eq_true rfl) ⟨Nat.le_of_ble_eq_true rfl, Nat.le_of_ble_eq_true rfl⟩ ⟨Nat.zero_le _, Nat.zero_le _⟩ dX9_readLetters_90 (fun r44 => ?_)
  refine g_isv X rfl rfl dX9_readLetters_93 (fun M45 => ?_)
  refine g_aload_n X dX9_readLetters_94 rfl 2 rfl ?_
  refine g_getr X fa_X9_33 rfl rfl dX9_readLetters_95 ?_
  refine g_iconst (v := 4) X dX9_readLetters_98 (by decide) ?_
  refine g_aload X dX9_readLetters_99 1 rfl ?_
  refine g_ifnonnull X 108 dX9_readLetters_101 rfl (fun h46 => ?_) (fun h46 => ?_)
  · refine g_iconst (v := 0) X dX9_readLetters_104 (by decide) ?_
    refine g_goto X 109 dX9_readLetters_105 rfl ?_
    exact g_sub [2, 3, 4, 5, 1, 0] rfl (hb_109 a1 a2 a3 r37 r39 0 4 29 M45)
  · refine g_iconst (v := 1) X dX9_readLetters_108 (by decide) ?_
    exact g_sub [2, 3, 4, 5, 1, 0] rfl (hb_109 a1 a2 a3 r37 r39 1 4 29 M45)
set_option maxHeartbeats 4000000 in
set_option maxRecDepth 100000 in
theorem c_X9_joined (l : Launch) (K : q_KK) (c : Nat → Nat) (M : q_MM) (a1 : Int32) (a2 : Int32) (a3 : Int32) : ∀ res, f_X9_joined c M a1 a2 a3 = some res → Mt l yX9_joined cX9_joined 3 (some FieldType.int) 0 0 0 0 false K [.int a1, .int a2, .int a3] ((qTX c), (qLX c), (qPX c), M) (some (.int res)) (((qTX c), (qLX c), (qPX c), M)) := by
  refine Mt.of (fun (res : Int32) => some (.int res)) (fun (_ : Int32) => ((qTX c), (qLX c), (qPX c), M)) (by decide) (Nat.le_of_ble_eq_true rfl) ?_
  intro p e s m args below meth c0 A ad X hN
  have hb_92 : GG p l e { frames := 0, cells := 0, slots := 0, locals := 0 } s m args below meth c0 K A ((qTX c), (qLX c), (qPX c), M) ad false 3 (fun res => MQ below (q_Qc K false ad ((qTX c), (qLX c), (qPX c), M) ((fun (res : Int32) => some (.int res)) res) ((fun (_ : Int32) => ((qTX c), (qLX c), (qPX c), M)) res) A) args s 0 0 A) (b_X9_joined_92 c M ) 92 [] [] ((qTX c), (qLX c), (qPX c), M) 0 0 := by
    unfold b_X9_joined_92
    refine g_iconst (v := 1) X dX9_joined_92 (by decide) ?_
    refine g_goto X 97 dX9_joined_93 rfl ?_
    exact g_iret X rfl rfl rfl dX9_joined_97
  refine g_sub (lv' := [(0, .int a1), (1, .int a2), (2, .int a3)]) [0, 1, 2] rfl ?_
  unfold f_X9_joined
  refine g_iload_n X dX9_joined_0 rfl 0 rfl ?_
  refine g_case (fun h1 => ?_) (fun h1 => ?_)
  · refine g_lin (off := 97) X 98 h1 dX9_joined_1 (by decide) (by decide) rfl ?_
    refine g_iload_n X dX9_joined_98 rfl 1 rfl ?_
    refine g_if_eq X 110 dX9_joined_99 rfl (fun h2 => ?_) (fun h2 => ?_)
    · refine g_iconst (v := 0) X dX9_joined_110 (by decide) ?_
      exact g_iret X rfl rfl rfl dX9_joined_111
    · refine g_iload_n X dX9_joined_102 rfl 2 rfl ?_
      refine g_if_eq X 110 dX9_joined_103 rfl (fun h3 => ?_) (fun h3 => ?_)
      · refine g_iconst (v := 0) X dX9_joined_110 (by decide) ?_
        exact g_iret X rfl rfl rfl dX9_joined_111
      · refine g_iconst (v := 1) X dX9_joined_106 (by decide) ?_
        refine g_goto X 111 dX9_joined_107 rfl ?_
        exact g_iret X rfl rfl rfl dX9_joined_111
  · refine g_case (fun h4 => ?_) (fun h4 => ?_)
    · refine g_lin (off := 152) X 153 h4 dX9_joined_1 (by decide) (by decide) rfl ?_
      refine g_iload_n X dX9_joined_153 rfl 1 rfl ?_
      refine g_iload_n X dX9_joined_154 rfl 2 rfl ?_
      refine g_imul X dX9_joined_155 ?_
      exact g_iret X rfl rfl rfl dX9_joined_156
    · refine g_case (fun h5 => ?_) (fun h5 => ?_)
      · refine g_lin (off := 144) X 145 h5 dX9_joined_1 (by decide) (by decide) rfl ?_
        refine g_iload_n X dX9_joined_145 rfl 1 rfl ?_
        refine g_iload_n X dX9_joined_146 rfl 2 rfl ?_
        refine g_iadd X dX9_joined_147 ?_
        exact g_iret X rfl rfl rfl dX9_joined_148
      · refine g_case (fun h6 => ?_) (fun h6 => ?_)
        · refine g_lin (off := 148) X 149 h6 dX9_joined_1 (by decide) (by decide) rfl ?_
          refine g_iload_n X dX9_joined_149 rfl 1 rfl ?_
          refine g_iload_n X dX9_joined_150 rfl 2 rfl ?_
          refine g_isub X dX9_joined_151 ?_
          exact g_iret X rfl rfl rfl dX9_joined_152
        · refine g_case (fun h7 => ?_) (fun h7 => ?_)
          · refine g_lin (off := 156) X 157 h7 dX9_joined_1 (by decide) (by decide) rfl ?_
            refine g_iload_n X dX9_joined_157 rfl 2 rfl ?_
            refine g_if_ne X 165 dX9_joined_158 rfl (fun h8 => ?_) (fun h8 => ?_)
            · refine g_iconst (v := 0) X dX9_joined_161 (by decide) ?_
              refine g_goto X 168 dX9_joined_162 rfl ?_
              exact g_iret X rfl rfl rfl dX9_joined_168
            · refine g_iload_n X dX9_joined_165 rfl 1 rfl ?_
              refine g_iload_n X dX9_joined_166 rfl 2 rfl ?_
              refine g_idiv X dX9_joined_167 ?_
              exact g_iret X rfl rfl rfl dX9_joined_168
          · refine g_case (fun h9 => ?_) (fun h9 => ?_)
            · refine g_lin (off := 111) X 112 h9 dX9_joined_1 (by decide) (by decide) rfl ?_
              refine g_iload_n X dX9_joined_112 rfl 1 rfl ?_
              refine g_iload_n X dX9_joined_113 rfl 2 rfl ?_
              refine g_icmp_ge X 121 dX9_joined_114 rfl (fun h10 => ?_) (fun h10 => ?_)
              · refine g_iconst (v := 0) X dX9_joined_121 (by decide) ?_
                exact g_iret X rfl rfl rfl dX9_joined_122
              · refine g_iconst (v := 1) X dX9_joined_117 (by decide) ?_
                refine g_goto X 122 dX9_joined_118 rfl ?_
                exact g_iret X rfl rfl rfl dX9_joined_122
            · refine g_case (fun h11 => ?_) (fun h11 => ?_)
              · refine g_lin (off := 133) X 134 h11 dX9_joined_1 (by decide) (by decide) rfl ?_
                refine g_iload_n X dX9_joined_134 rfl 1 rfl ?_
                refine g_iload_n X dX9_joined_135 rfl 2 rfl ?_
                refine g_icmp_ne X 143 dX9_joined_136 rfl (fun h12 => ?_) (fun h12 => ?_)
                · refine g_iconst (v := 1) X dX9_joined_139 (by decide) ?_
                  refine g_goto X 144 dX9_joined_140 rfl ?_
                  exact g_iret X rfl rfl rfl dX9_joined_144
                · refine g_iconst (v := 0) X dX9_joined_143 (by decide) ?_
                  exact g_iret X rfl rfl rfl dX9_joined_144
              · refine g_case (fun h13 => ?_) (fun h13 => ?_)
                · refine g_lin (off := 122) X 123 h13 dX9_joined_1 (by decide) (by decide) rfl ?_
                  refine g_iload_n X dX9_joined_123 rfl 1 rfl ?_
                  refine g_iload_n X dX9_joined_124 rfl 2 rfl ?_
                  refine g_icmp_le X 132 dX9_joined_125 rfl (fun h14 => ?_) (fun h14 => ?_)
                  · refine g_iconst (v := 0) X dX9_joined_132 (by decide) ?_
                    exact g_iret X rfl rfl rfl dX9_joined_133
                  · refine g_iconst (v := 1) X dX9_joined_128 (by decide) ?_
                    refine g_goto X 133 dX9_joined_129 rfl ?_
                    exact g_iret X rfl rfl rfl dX9_joined_133
                · refine g_case (fun h15 => ?_) (fun h15 => ?_)
                  · refine g_lin (off := 83) X 84 h15 dX9_joined_1 (by decide) (by decide) rfl ?_
                    refine g_iload_n X dX9_joined_84 rfl 1 rfl ?_
                    refine g_if_ne X 92 dX9_joined_85 rfl (fun h16 => ?_) (fun h16 => ?_)
                    · refine g_iload_n X dX9_joined_88 rfl 2 rfl ?_
                      refine g_if_eq X 96 dX9_joined_89 rfl (fun h17 => ?_) (fun h17 => ?_)
                      · refine g_iconst (v := 0) X dX9_joined_96 (by decide) ?_
                        exact g_iret X rfl rfl rfl dX9_joined_97
                      · exact g_sub [] rfl (hb_92)
                    · exact g_sub [] rfl (hb_92)
                  · refine g_ldef X [38, 42, 43, 45, 47, 60, 61, 62, 124] 169 (List.forall_mem_cons.mpr ⟨h1, (List.forall_mem_cons.mpr ⟨h4, (List.forall_mem_cons.mpr ⟨h5, (List.forall_mem_cons.mpr ⟨h6, (List.forall_mem_cons.mpr ⟨h7, (List.forall_mem_cons.mpr ⟨h9, (List.forall_mem_cons.mpr ⟨h11, (List.forall_mem_cons.mpr ⟨h13, (List.forall_mem_cons.mpr ⟨h15, (fun _ z => nomatch z)⟩)⟩)⟩)⟩)⟩)⟩)⟩)⟩)⟩) dX9_joined_1 (by decide) (by decide) rfl ?_
                    refine g_iload_n X dX9_joined_169 rfl 2 rfl ?_
                    refine g_if_ne X 177 dX9_joined_170 rfl (fun h18 => ?_) (fun h18 => ?_)
                    · refine g_iconst (v := 0) X dX9_joined_173 (by decide) ?_
                      refine g_goto X 180 dX9_joined_174 rfl ?_
                      exact g_iret X rfl rfl rfl dX9_joined_180
                    · refine g_iload_n X dX9_joined_177 rfl 1 rfl ?_
                      refine g_iload_n X dX9_joined_178 rfl 2 rfl ?_
                      refine g_irem X dX9_joined_179 ?_
                      exact g_iret X rfl rfl rfl dX9_joined_180
set_option maxHeartbeats 4000000 in
set_option maxRecDepth 100000 in
theorem c_X9_work (l : Launch) (K : q_KK) (c : Nat → Nat) (M0 : q_MM) (a1 : Int32) : ∀ res, f_X9_work c M0 a1 = some res → Mt l yX9_work cX9_work 3 (none : Option FieldType) 1 22 0 0 false K [.ref 3, .int a1] ((qTX c), (qLX c), (qPX c), M0) (none) (((qTX c), (qLX c), (qPX c), res)) := by
  refine Mt.of (fun (_ : q_MM) => none) (fun (res : q_MM) => ((qTX c), (qLX c), (qPX c), res)) (by decide) (Nat.le_of_ble_eq_true rfl) ?_
  intro p e s m args below meth c0 A ad X hN
  have hb_38 : ∀ (s0 : Int32) (s1 : Nat) (M : q_MM), GG p l e { frames := 1, cells := 0, slots := 0, locals := 22 } s m args below meth c0 K A ((qTX c), (qLX c), (qPX c), M0) ad false 3 (fun res => MQ below (q_Qc K false ad ((qTX c), (qLX c), (qPX c), M0) ((fun (_ : q_MM) => none) res) ((fun (res : q_MM) => ((qTX c), (qLX c), (qPX c), res)) res) A) args s 0 0 A) (b_X9_work_38 c s0 s1 M) 38 [] [.int s0, .ref s1] ((qTX c), (qLX c), (qPX c), M) 0 0 := by
    intro s0 s1 M
    unfold b_X9_work_38
    refine g_ck (fun hT1 => ?_)
    refine g_bVv (As := [.int s0]) (rest := []) X (c_X4_add l K c M s1 s0) lk_X9_179 hT1 rfl rfl (Nat.le_of_ble_eq_true rfl) ⟨Nat.le_of_ble_eq_true rfl, Nat.le_of_ble_eq_true rfl⟩ ⟨Nat.zero_le _, Nat.zero_le _⟩ dX9_work_38 (fun r2 => ?_)
    refine g_goto X 142 dX9_work_41 rfl ?_
    exact g_vret X rfl rfl rfl dX9_work_142
  have hb_84 : ∀ (s0 : Int32) (s1 : Nat) (M : q_MM), GG p l e { frames := 1, cells := 0, slots := 0, locals := 22 } s m args below meth c0 K A ((qTX c), (qLX c), (qPX c), M0) ad false 3 (fun res => MQ below (q_Qc K false ad ((qTX c), (qLX c), (qPX c), M0) ((fun (_ : q_MM) => none) res) ((fun (res : q_MM) => ((qTX c), (qLX c), (qPX c), res)) res) A) args s 0 0 A) (b_X9_work_84 c s0 s1 M) 84 [] [.int s0, .ref s1] ((qTX c), (qLX c), (qPX c), M) 0 0 := by
    intro s0 s1 M
    unfold b_X9_work_84
    refine g_ck (fun hT3 => ?_)
    refine g_bVv (As := [.int s0]) (rest := []) X (c_X4_add l K c M s1 s0) lk_X9_179 hT3 rfl rfl (Nat.le_of_ble_eq_true rfl) ⟨Nat.le_of_ble_eq_true rfl, Nat.le_of_ble_eq_true rfl⟩ ⟨Nat.zero_le _, Nat.zero_le _⟩ dX9_work_84 (fun r4 => ?_)
    refine g_goto X 142 dX9_work_87 rfl ?_
    exact g_vret X rfl rfl rfl dX9_work_142
  refine g_sub (lv' := [(0, .ref 3), (1, .int a1)]) [0, 1] rfl ?_
  unfold f_X9_work
  refine g_iload_n X dX9_work_0 rfl 1 rfl ?_
  refine g_sipush (v := 10000) X dX9_work_1 (by decide) ?_
  refine g_icmp_lt X 44 dX9_work_4 rfl (fun h5 => ?_) (fun h5 => ?_)
  · refine g_iload_n X dX9_work_44 rfl 1 rfl ?_
    refine g_if_lt X 59 dX9_work_45 rfl (fun h6 => ?_) (fun h6 => ?_)
    · refine g_iload_n X dX9_work_59 rfl 1 rfl ?_
      refine g_bipush (v := (-33)) X dX9_work_60 (by decide) ?_
      refine g_icmp_ne X 90 dX9_work_62 rfl (fun h7 => ?_) (fun h7 => ?_)
      · refine g_aload_n X dX9_work_65 rfl 0 rfl ?_
        refine g_getr X fa_X9_42 rfl rfl dX9_work_66 ?_
        refine g_aload_n X dX9_work_69 rfl 0 rfl ?_
        refine g_getr X fa_X9_42 rfl rfl dX9_work_70 ?_
        refine g_bVi (As := []) (rest := [.ref 30]) X (c_X4_take l K c M0 30) lk_X9_133 rfl rfl rfl (Nat.le_of_ble_eq_true rfl) ⟨Nat.le_of_ble_eq_true rfl, Nat.le_of_ble_eq_true rfl⟩ ⟨Nat.zero_le _, Nat.zero_le _⟩ dX9_work_73 (fun r8 => ?_)
        refine g_if_ne X 83 dX9_work_76 rfl (fun h9 => ?_) (fun h9 => ?_)
        · refine g_iconst (v := 1) X dX9_work_79 (by decide) ?_
          refine g_goto X 84 dX9_work_80 rfl ?_
          exact g_sub [] rfl (hb_84 1 30 r8.2)
        · refine g_iconst (v := 0) X dX9_work_83 (by decide) ?_
          exact g_sub [] rfl (hb_84 0 30 r8.2)
      · refine g_iload_n X dX9_work_90 rfl 1 rfl ?_
        refine g_bipush (v := (-126)) X dX9_work_91 (by decide) ?_
        refine g_icmp_ne X 114 dX9_work_93 rfl (fun h10 => ?_) (fun h10 => ?_)
        · refine g_aload_n X dX9_work_96 rfl 0 rfl ?_
          refine g_getr X fa_X9_42 rfl rfl dX9_work_97 ?_
          refine g_aload_n X dX9_work_100 rfl 0 rfl ?_
          refine g_getr X fa_X9_42 rfl rfl dX9_work_101 ?_
          refine g_bVi (As := []) (rest := [.ref 30]) X (c_X4_take l K c M0 30) lk_X9_133 rfl rfl rfl (Nat.le_of_ble_eq_true rfl) ⟨Nat.le_of_ble_eq_true rfl, Nat.le_of_ble_eq_true rfl⟩ ⟨Nat.zero_le _, Nat.zero_le _⟩ dX9_work_104 (fun r11 => ?_)
          refine g_ineg X dX9_work_107 ?_
          refine g_bVv (As := [.int (-r11.1)]) (rest := []) X (c_X4_add l K c r11.2 30 (-r11.1)) lk_X9_179 rfl rfl rfl (Nat.le_of_ble_eq_true rfl) ⟨Nat.le_of_ble_eq_true rfl, Nat.le_of_ble_eq_true rfl⟩ ⟨Nat.zero_le _, Nat.zero_le _⟩ dX9_work_108 (fun r12 => ?_)
          refine g_goto X 142 dX9_work_111 rfl ?_
          exact g_vret X rfl rfl rfl dX9_work_142
        · refine g_aload_n X dX9_work_114 rfl 0 rfl ?_
          refine g_getr X fa_X9_42 rfl rfl dX9_work_115 ?_
          refine g_bVi (As := []) (rest := []) X (c_X4_take l K c M0 30) lk_X9_133 rfl rfl rfl (Nat.le_of_ble_eq_true rfl) ⟨Nat.le_of_ble_eq_true rfl, Nat.le_of_ble_eq_true rfl⟩ ⟨Nat.zero_le _, Nat.zero_le _⟩ dX9_work_118 (fun r13 => ?_)
          refine g_isn X (fun v14 => [(2, .int v14), (0, .ref 3), (1, .int a1)]) dX9_work_121 rfl (by decide) (fun _ => rfl) (fun v14 => ?_)
          refine g_aload_n X dX9_work_122 rfl 1 rfl ?_
          refine g_getr X fa_X9_42 rfl rfl dX9_work_123 ?_
          refine g_iload_n X dX9_work_126 rfl 2 rfl ?_
          refine g_ineg X dX9_work_127 ?_
          refine g_aload_n X dX9_work_128 rfl 1 rfl ?_
          refine g_getr X fa_X9_42 rfl rfl dX9_work_129 ?_
          refine g_bVi (As := []) (rest := [.int (-a1), .ref 30]) X (c_X4_take l K c r13.2 30) lk_X9_133 rfl rfl rfl (Nat.le_of_ble_eq_true rfl) ⟨Nat.le_of_ble_eq_true rfl, Nat.le_of_ble_eq_true rfl⟩ ⟨Nat.zero_le _, Nat.zero_le _⟩ dX9_work_132 (fun r15 => ?_)
          refine g_iload_n X dX9_work_135 rfl 0 rfl ?_
          refine g_bSi (As := [.int (-a1), .int r15.1, .int v14]) (rest := [.ref 30]) X (c_X9_joined l K c r15.2 (-a1) r15.1 v14) lk_X9_181 rfl rfl (Nat.le_of_ble_eq_true rfl) ⟨Nat.le_of_ble_eq_true rfl, Nat.le_of_ble_eq_true rfl⟩ ⟨Nat.zero_le _, Nat.zero_le _⟩ dX9_work_136 (fun r16 => ?_)
          refine g_bVv (As := [.int r16]) (rest := []) X (c_X4_add l K c r15.2 30 r16) lk_X9_179 rfl rfl rfl (Nat.le_of_ble_eq_true rfl) ⟨Nat.le_of_ble_eq_true rfl, Nat.le_of_ble_eq_true rfl⟩ ⟨Nat.zero_le _, Nat.zero_le _⟩ dX9_work_139 (fun r17 => ?_)
          exact g_vret X rfl rfl rfl dX9_work_142
    · refine g_aload_n X dX9_work_48 rfl 0 rfl ?_
      refine g_getr X fa_X9_42 rfl rfl dX9_work_49 ?_
      refine g_iload_n X dX9_work_52 rfl 1 rfl ?_
      refine g_bVv (As := [.int a1]) (rest := []) X (c_X4_add l K c M0 30 a1) lk_X9_179 rfl rfl rfl (Nat.le_of_ble_eq_true rfl) ⟨Nat.le_of_ble_eq_true rfl, Nat.le_of_ble_eq_true rfl⟩ ⟨Nat.zero_le _, Nat.zero_le _⟩ dX9_work_53 (fun r18 => ?_)
      refine g_goto X 142 dX9_work_56 rfl ?_
      exact g_vret X rfl rfl rfl dX9_work_142
  · refine g_aload_n X dX9_work_7 rfl 0 rfl ?_
    refine g_getr X fa_X9_42 rfl rfl dX9_work_8 ?_
    refine g_iload_n X dX9_work_11 rfl 1 rfl ?_
    refine g_sipush (v := 10000) X dX9_work_12 (by decide) ?_
    refine g_isub X dX9_work_15 ?_
    refine g_aload_n X dX9_work_16 rfl 0 rfl ?_
    refine g_getr X fa_X9_33 rfl rfl dX9_work_17 ?_
    refine g_alen (n := 12) (v := 12) X (Or.inl rfl) rfl (by decide) dX9_work_20 ?_
    refine g_icmp_ge X 37 dX9_work_21 rfl (fun h19 => ?_) (fun h19 => ?_)
    · refine g_iconst (v := 0) X dX9_work_37 (by decide) ?_
      exact g_sub [] rfl (hb_38 0 30 M0)
    · refine g_aload_n X dX9_work_24 rfl 0 rfl ?_
      refine g_getr X fa_X9_33 rfl rfl dX9_work_25 ?_
      refine g_iload_n X dX9_work_28 rfl 1 rfl ?_
      refine g_sipush (v := 10000) X dX9_work_29 (by decide) ?_
      refine g_isub X dX9_work_32 ?_
      refine g_ild X rfl rfl dX9_work_33 (fun v20 => ?_)
      refine g_goto X 38 dX9_work_34 rfl ?_
      exact g_sub [] rfl (hb_38 v20 30 M0)
set_option maxHeartbeats 4000000 in
set_option maxRecDepth 100000 in
theorem c_X9_firstBroken (l : Launch) (K : q_KK) (c : Nat → Nat) (M0 : q_MM) (a1 : Nat) (a2 : Nat) (a3 : Nat) (a4 : Int32) : ∀ res, f_X9_firstBroken c M0 a1 a2 a3 a4 = some res → Mt l yX9_firstBroken cX9_firstBroken 9 (some FieldType.int) 6 137 0 0 false K [.ref 3, .ref a1, .ref a2, .ref a3, .int a4] ((qTX c), (qLX c), (qPX c), M0) (some (.int res.1)) (((qTX c), (qLX c), (qPX c), res.2)) := by
  refine Mt.of (fun (res : Int32 × q_MM) => some (.int res.1)) (fun (res : Int32 × q_MM) => ((qTX c), (qLX c), (qPX c), res.2)) (by decide) (Nat.le_of_ble_eq_true rfl) ?_
  intro p e s m args below meth c0 A ad X hN
  have hb_115 : ∀ (k69 : Nat → Int32 → Int32 → q_MM → Option (Int32 × q_MM)) (hk69 : ∀ (x6 : Nat) (x7 : Int32) (x8 : Int32) (M : q_MM), GG p l e { frames := 6, cells := 0, slots := 0, locals := 137 } s m args below meth c0 K A ((qTX c), (qLX c), (qPX c), M0) ad false 9 (fun res => MQ below (q_Qc K false ad ((qTX c), (qLX c), (qPX c), M0) ((fun (res : Int32 × q_MM) => some (.int res.1)) res) ((fun (res : Int32 × q_MM) => ((qTX c), (qLX c), (qPX c), res.2)) res) A) args s 0 0 A) (k69 x6 x7 x8 M) 69 [(0, .ref 3), (6, .ref x6), (7, .int x7), (8, .int x8)] [] ((qTX c), (qLX c), (qPX c), M) 0 0) (x6 : Nat) (x7 : Int32) (x8 : Int32) (M : q_MM), GG p l e { frames := 6, cells := 0, slots := 0, locals := 137 } s m args below meth c0 K A ((qTX c), (qLX c), (qPX c), M0) ad false 9 (fun res => MQ below (q_Qc K false ad ((qTX c), (qLX c), (qPX c), M0) ((fun (res : Int32 × q_MM) => some (.int res.1)) res) ((fun (res : Int32 × q_MM) => ((qTX c), (qLX c), (qPX c), res.2)) res) A) args s 0 0 A) (b_X9_firstBroken_115 c k69 x6 x7 x8 M) 115 [(0, .ref 3), (6, .ref x6), (7, .int x7), (8, .int x8)] [] ((qTX c), (qLX c), (qPX c), M) 0 0 := by
    intro k69 hk69 x6 x7 x8 M
    unfold b_X9_firstBroken_115
    refine g_iinc (v := 1) X [(8, .int (x8 + 1)), (0, .ref 3), (6, .ref x6), (7, .int x7)] 3 dX9_firstBroken_115 rfl (by decide) (by decide) rfl ?_
    refine g_goto X 69 dX9_firstBroken_118 rfl ?_
    exact g_sub [1, 2, 3, 0] rfl (hk69 x6 x7 (x8 + 1) M)
  have hb_69 : ∀ (nf : Nat) (x6 : Nat) (x7 : Int32) (x8 : Int32) (M : q_MM), GG p l e { frames := 6, cells := 0, slots := 0, locals := 137 } s m args below meth c0 K A ((qTX c), (qLX c), (qPX c), M0) ad false 9 (fun res => MQ below (q_Qc K false ad ((qTX c), (qLX c), (qPX c), M0) ((fun (res : Int32 × q_MM) => some (.int res.1)) res) ((fun (res : Int32 × q_MM) => ((qTX c), (qLX c), (qPX c), res.2)) res) A) args s 0 0 A) (b_X9_firstBroken_69 c nf x6 x7 x8 M) 69 [(0, .ref 3), (6, .ref x6), (7, .int x7), (8, .int x8)] [] ((qTX c), (qLX c), (qPX c), M) 0 0 := by
    intro  nf
    induction nf with
    | zero => intros; exact g_stop
    | succ nf ih =>
      intro x6 x7 x8 M
      rw [b_X9_firstBroken_69]
      refine g_iload X dX9_firstBroken_69 3 rfl ?_
      refine g_aload X dX9_firstBroken_71 1 rfl ?_
      refine g_ck (fun hT1 => ?_)
      refine g_alen X (Or.inl hT1) rfl rfl dX9_firstBroken_73 ?_
      refine g_icmp_ge X 121 dX9_firstBroken_74 rfl (fun h2 => ?_) (fun h2 => ?_)
      · refine g_bipush (v := (-2)) X dX9_firstBroken_121 (by decide) ?_
        exact g_iret X rfl rfl rfl dX9_firstBroken_123
      · refine g_aload X dX9_firstBroken_77 1 rfl ?_
        refine g_iload X dX9_firstBroken_79 3 rfl ?_
        refine g_ild X hT1 rfl dX9_firstBroken_81 (fun v3 => ?_)
        refine g_bipush (v := (-59)) X dX9_firstBroken_82 (by decide) ?_
        refine g_icmp_eq X 99 dX9_firstBroken_84 rfl (fun h4 => ?_) (fun h4 => ?_)
        · refine g_aload_n X dX9_firstBroken_99 rfl 0 rfl ?_
          refine g_getr X fa_X9_42 rfl rfl dX9_firstBroken_100 ?_
          refine g_bVi (As := []) (rest := []) X (c_X4_take l K c M 30) lk_X9_133 rfl rfl rfl (Nat.le_of_ble_eq_true rfl) ⟨Nat.le_of_ble_eq_true rfl, Nat.le_of_ble_eq_true rfl⟩ ⟨Nat.zero_le _, Nat.zero_le _⟩ dX9_firstBroken_103 (fun r5 => ?_)
          refine g_if_ne X 112 dX9_firstBroken_106 rfl (fun h6 => ?_) (fun h6 => ?_)
          · refine g_iload X dX9_firstBroken_109 2 rfl ?_
            exact g_iret X rfl rfl rfl dX9_firstBroken_111
          · refine g_iinc (v := 1) X [(7, .int (x7 + 1)), (0, .ref 3), (6, .ref x6), (8, .int x8)] 2 dX9_firstBroken_112 rfl (by decide) (by decide) rfl ?_
            exact g_sub [1, 2, 0, 3] rfl (hb_115 (b_X9_firstBroken_69 c nf) ih x6 (x7 + 1) x8 r5.2)
        · refine g_aload_n X dX9_firstBroken_87 rfl 0 rfl ?_
          refine g_aload X dX9_firstBroken_88 1 rfl ?_
          refine g_iload X dX9_firstBroken_90 3 rfl ?_
          refine g_ild X hT1 rfl dX9_firstBroken_92 (fun v7 => ?_)
          refine g_bVv (As := [.int v7]) (rest := []) X (c_X9_work l K c M v7) lk_X9_130 rfl rfl rfl (Nat.le_of_ble_eq_true rfl) ⟨Nat.le_of_ble_eq_true rfl, Nat.le_of_ble_eq_true rfl⟩ ⟨Nat.zero_le _, Nat.zero_le _⟩ dX9_firstBroken_93 (fun r8 => ?_)
          refine g_goto X 115 dX9_firstBroken_96 rfl ?_
          exact g_sub [0, 1, 2, 3] rfl (hb_115 (b_X9_firstBroken_69 c nf) ih x6 x7 x8 r8)
  refine g_sub (lv' := [(0, .ref 3), (1, .ref a1), (2, .ref a2), (3, .ref a3), (4, .int a4)]) [0, 1, 2, 3, 4] rfl ?_
  unfold f_X9_firstBroken
  refine g_aload_n X dX9_firstBroken_0 rfl 0 rfl ?_
  refine g_aload_n X dX9_firstBroken_1 rfl 2 rfl ?_
  refine g_ck (fun hT9 => ?_)
  refine g_geti X fa_X9_112 hT9 dX9_firstBroken_2 ?_
  refine g_bVi (As := [.int (M0 a2 0)]) (rest := []) X (c_X9_inForce l K c M0 (M0 a2 0)) lk_X9_117 rfl rfl rfl (Nat.le_of_ble_eq_true rfl) ⟨Nat.le_of_ble_eq_true rfl, Nat.le_of_ble_eq_true rfl⟩ ⟨Nat.zero_le _, Nat.zero_le _⟩ dX9_firstBroken_5 (fun r10 => ?_)
  refine g_istore X [(5, .int r10), (0, .ref 3), (1, .ref a1), (2, .ref a2), (3, .ref a3), (4, .int a4)] dX9_firstBroken_8 (by decide) rfl ?_
  refine g_iload X dX9_firstBroken_10 0 rfl ?_
  refine g_if_lt X 27 dX9_firstBroken_12 rfl (fun h11 => ?_) (fun h11 => ?_)
  · refine g_bipush (v := (-2)) X dX9_firstBroken_27 (by decide) ?_
    exact g_iret X rfl rfl rfl dX9_firstBroken_29
  · refine g_iload X dX9_firstBroken_15 0 rfl ?_
    refine g_aload_n X dX9_firstBroken_17 rfl 1 rfl ?_
    refine g_getr X fa_X9_12 rfl rfl dX9_firstBroken_18 ?_
    refine g_bVi (As := []) (rest := [.int r10]) X (c_Jx4a65c_size_8abf5 l K (qTX c) (qLX c) (qPX c) M0 27) lk_X9_79 rfl rfl rfl (Nat.le_of_ble_eq_true rfl) ⟨Nat.le_of_ble_eq_true rfl, Nat.le_of_ble_eq_true rfl⟩ ⟨Nat.zero_le _, Nat.zero_le _⟩ dX9_firstBroken_21 (fun r12 => ?_)
    refine g_icmp_lt X 30 dX9_firstBroken_24 rfl (fun h13 => ?_) (fun h13 => ?_)
    · refine g_aload_n X dX9_firstBroken_30 rfl 1 rfl ?_
      refine g_aload_n X dX9_firstBroken_31 rfl 2 rfl ?_
      refine g_aload_n X dX9_firstBroken_32 rfl 3 rfl ?_
      refine g_aload_n X dX9_firstBroken_33 rfl 4 rfl ?_
      refine g_iload X dX9_firstBroken_34 5 rfl ?_
      refine g_bVv (As := [.ref a1, .ref a2, .ref a3, .int a4]) (rest := []) X (c_X9_readLetters l K c M0 a1 a2 a3 a4) lk_X9_121 rfl rfl rfl (Nat.le_of_ble_eq_true rfl) ⟨Nat.le_of_ble_eq_true rfl, Nat.le_of_ble_eq_true rfl⟩ ⟨Nat.zero_le _, Nat.zero_le _⟩ dX9_firstBroken_36 (fun r14 => ?_)
      refine g_aload_n X dX9_firstBroken_39 rfl 1 rfl ?_
      refine g_getr X fa_X9_12 rfl rfl dX9_firstBroken_40 ?_
      refine g_iload X dX9_firstBroken_43 0 rfl ?_
      refine g_bVr (As := [.int r10]) (rest := []) X (c_Jx4a65c_get_915e3 l K (qTX c) (qLX c) (qPX c) r14 27 r10) lk_X9_81 rfl rfl rfl (Nat.le_of_ble_eq_true rfl) ⟨Nat.le_of_ble_eq_true rfl, Nat.le_of_ble_eq_true rfl⟩ ⟨Nat.zero_le _, Nat.zero_le _⟩ dX9_firstBroken_45 (fun r15 => ?_)
      refine g_ck (fun hT16 => ?_)
      refine g_cast X (ci := 7) rfl wl_X9_70 hT16 dX9_firstBroken_48 ?_
      refine g_getr X fa_X9_125 hT16 rfl dX9_firstBroken_51 ?_
      refine g_astore X [(6, .ref ((qPX c) r15 2)), (5, .int r10), (0, .ref 3), (1, .ref a1), (2, .ref a2), (3, .ref a3), (4, .int a4)] dX9_firstBroken_54 (by decide) rfl ?_
      refine g_iconst (v := 0) X dX9_firstBroken_56 (by decide) ?_
      refine g_istore X [(7, .int 0), (6, .ref ((qPX c) r15 2)), (5, .int r10), (0, .ref 3), (1, .ref a1), (2, .ref a2), (3, .ref a3), (4, .int a4)] dX9_firstBroken_57 (by decide) rfl ?_
      refine g_aload_n X dX9_firstBroken_59 rfl 3 rfl ?_
      refine g_getr X fa_X9_42 rfl rfl dX9_firstBroken_60 ?_
      refine g_bVv (As := []) (rest := []) X (c_X4_clear l K c r14 30) lk_X9_127 rfl rfl rfl (Nat.le_of_ble_eq_true rfl) ⟨Nat.le_of_ble_eq_true rfl, Nat.le_of_ble_eq_true rfl⟩ ⟨Nat.zero_le _, Nat.zero_le _⟩ dX9_firstBroken_63 (fun r17 => ?_)
      refine g_iconst (v := 0) X dX9_firstBroken_66 (by decide) ?_
      refine g_istore X [(8, .int 0), (7, .int 0), (6, .ref ((qPX c) r15 2)), (5, .int r10), (0, .ref 3), (1, .ref a1), (2, .ref a2), (3, .ref a3), (4, .int a4)] dX9_firstBroken_67 (by decide) rfl ?_
      exact g_sub [4, 2, 1, 0] rfl (hb_69 q_fu ((qPX c) r15 2) 0 0 r17)
    · refine g_bipush (v := (-2)) X dX9_firstBroken_27 (by decide) ?_
      exact g_iret X rfl rfl rfl dX9_firstBroken_29
set_option maxHeartbeats 4000000 in
set_option maxRecDepth 100000 in
theorem c_X9_unfit (l : Launch) (K : q_KK) (c : Nat → Nat) (M0 : q_MM) (a1 : Nat) (a2 : Nat) (a3 : Nat) (a4 : Int32) : ∀ res, f_X9_unfit c M0 a1 a2 a3 a4 = some res → Mt l yX9_unfit cX9_unfit 6 (some FieldType.int) 7 165 0 0 false K [.ref 3, .ref a1, .ref a2, .ref a3, .int a4] ((qTX c), (qLX c), (qPX c), M0) (some (.int res.1)) (((qTX c), (qLX c), (qPX c), res.2)) := by
  refine Mt.of (fun (res : Int32 × q_MM) => some (.int res.1)) (fun (res : Int32 × q_MM) => ((qTX c), (qLX c), (qPX c), res.2)) (by decide) (Nat.le_of_ble_eq_true rfl) ?_
  intro p e s m args below meth c0 A ad X hN
  refine g_sub (lv' := [(0, .ref 3), (1, .ref a1), (2, .ref a2), (3, .ref a3), (4, .int a4)]) [0, 1, 2, 3, 4] rfl ?_
  unfold f_X9_unfit
  refine g_aload_n X dX9_unfit_0 rfl 0 rfl ?_
  refine g_getr X fa_X9_46 rfl rfl dX9_unfit_1 ?_
  refine g_aload_n X dX9_unfit_4 rfl 1 rfl ?_
  refine g_aload_n X dX9_unfit_5 rfl 2 rfl ?_
  refine g_aload_n X dX9_unfit_6 rfl 3 rfl ?_
  refine g_iload X dX9_unfit_7 4 rfl ?_
  refine g_bVi (As := [.ref a1, .ref a2, .ref a3, .int a4]) (rest := []) X (c_X2_hindrance l K c M0 a1 a2 a3 a4) lk_X9_96 rfl rfl rfl (Nat.le_of_ble_eq_true rfl) ⟨Nat.le_of_ble_eq_true rfl, Nat.le_of_ble_eq_true rfl⟩ ⟨Nat.zero_le _, Nat.zero_le _⟩ dX9_unfit_9 (fun r1 => ?_)
  refine g_istore X [(5, .int r1), (0, .ref 3), (1, .ref a1), (2, .ref a2), (3, .ref a3), (4, .int a4)] dX9_unfit_12 (by decide) rfl ?_
  refine g_iload X dX9_unfit_14 0 rfl ?_
  refine g_if_eq X 22 dX9_unfit_16 rfl (fun h2 => ?_) (fun h2 => ?_)
  · refine g_aload_n X dX9_unfit_22 rfl 1 rfl ?_
    refine g_getr X fa_X9_46 rfl rfl dX9_unfit_23 ?_
    refine g_aload_n X dX9_unfit_26 rfl 2 rfl ?_
    refine g_aload_n X dX9_unfit_27 rfl 3 rfl ?_
    refine g_aload_n X dX9_unfit_28 rfl 4 rfl ?_
    refine g_ck (fun hT3 => ?_)
    refine g_geti X fa_X9_100 hT3 dX9_unfit_29 ?_
    refine g_bVi (As := [.ref a1, .ref a2, .int (M0 a3 1)]) (rest := []) X (c_X2_meetsFoe l K c M0 a1 a2 (M0 a3 1)) lk_X9_105 rfl rfl rfl (Nat.le_of_ble_eq_true rfl) ⟨Nat.le_of_ble_eq_true rfl, Nat.le_of_ble_eq_true rfl⟩ ⟨Nat.zero_le _, Nat.zero_le _⟩ dX9_unfit_32 (fun r4 => ?_)
    refine g_if_eq X 40 dX9_unfit_35 rfl (fun h5 => ?_) (fun h5 => ?_)
    · refine g_aload_n X dX9_unfit_40 rfl 1 rfl ?_
      refine g_aload_n X dX9_unfit_41 rfl 2 rfl ?_
      refine g_aload_n X dX9_unfit_42 rfl 3 rfl ?_
      refine g_aload_n X dX9_unfit_43 rfl 4 rfl ?_
      refine g_iload X dX9_unfit_44 5 rfl ?_
      refine g_bVi (As := [.ref a1, .ref a2, .ref a3, .int a4]) (rest := []) X (c_X9_firstBroken l K c M0 a1 a2 a3 a4) lk_X9_109 rfl rfl rfl (Nat.le_of_ble_eq_true rfl) ⟨Nat.le_of_ble_eq_true rfl, Nat.le_of_ble_eq_true rfl⟩ ⟨Nat.zero_le _, Nat.zero_le _⟩ dX9_unfit_46 (fun r6 => ?_)
      refine g_bipush (v := (-2)) X dX9_unfit_49 (by decide) ?_
      refine g_icmp_ne X 58 dX9_unfit_51 rfl (fun h7 => ?_) (fun h7 => ?_)
      · refine g_iconst (v := 0) X dX9_unfit_54 (by decide) ?_
        refine g_goto X 60 dX9_unfit_55 rfl ?_
        exact g_iret X rfl rfl rfl dX9_unfit_60
      · refine g_bipush (v := 6) X dX9_unfit_58 (by decide) ?_
        exact g_iret X rfl rfl rfl dX9_unfit_60
    · refine g_iconst (v := 5) X dX9_unfit_38 (by decide) ?_
      exact g_iret X rfl rfl rfl dX9_unfit_39
  · refine g_iload X dX9_unfit_19 0 rfl ?_
    exact g_iret X rfl rfl rfl dX9_unfit_21
set_option maxHeartbeats 4000000 in
set_option maxRecDepth 100000 in
theorem c_X10_brightness (l : Launch) (K : q_KK) (c : Nat → Nat) (M : q_MM) (a1 : Int32) (a2 : Int32) : ∀ res, f_X10_brightness c M a1 a2 = some res → Mt l yX10_brightness cX10_brightness 3 (some FieldType.int) 1 21 0 0 false K [.int a1, .int a2] ((qTX c), (qLX c), (qPX c), M) (some (.int res)) (((qTX c), (qLX c), (qPX c), M)) := by
  refine Mt.of (fun (res : Int32) => some (.int res)) (fun (_ : Int32) => ((qTX c), (qLX c), (qPX c), M)) (by decide) (Nat.le_of_ble_eq_true rfl) ?_
  intro p e s m args below meth c0 A ad X hN
  have hb_20 : ∀ (s0 : Int32), GG p l e { frames := 1, cells := 0, slots := 0, locals := 21 } s m args below meth c0 K A ((qTX c), (qLX c), (qPX c), M) ad false 3 (fun res => MQ below (q_Qc K false ad ((qTX c), (qLX c), (qPX c), M) ((fun (res : Int32) => some (.int res)) res) ((fun (_ : Int32) => ((qTX c), (qLX c), (qPX c), M)) res) A) args s 0 0 A) (b_X10_brightness_20 c M s0) 20 [] [.int s0] ((qTX c), (qLX c), (qPX c), M) 0 0 := by
    intro s0
    unfold b_X10_brightness_20
    refine g_istore_n X [(2, .int s0)] dX10_brightness_20 rfl (by decide) rfl ?_
    refine g_iconst (v := 0) X dX10_brightness_21 (by decide) ?_
    refine g_sipush (v := 9999) X dX10_brightness_22 (by decide) ?_
    refine g_iload_n X dX10_brightness_25 rfl 0 rfl ?_
    refine g_mmin X lk_X10_35 (Nat.le_of_ble_eq_true rfl) ⟨Nat.le_of_ble_eq_true rfl, Nat.le_of_ble_eq_true rfl⟩ ⟨Nat.zero_le _, Nat.zero_le _⟩ dX10_brightness_26 ?_
    refine g_mmax X lk_X10_40 (Nat.le_of_ble_eq_true rfl) ⟨Nat.le_of_ble_eq_true rfl, Nat.le_of_ble_eq_true rfl⟩ ⟨Nat.zero_le _, Nat.zero_le _⟩ dX10_brightness_29 ?_
    exact g_iret X rfl rfl rfl dX10_brightness_32
  refine g_sub (lv' := [(0, .int a1), (1, .int a2)]) [0, 1] rfl ?_
  unfold f_X10_brightness
  refine g_iload_n X dX10_brightness_0 rfl 0 rfl ?_
  refine g_if_ne X 9 dX10_brightness_1 rfl (fun h1 => ?_) (fun h1 => ?_)
  · refine g_iload_n X dX10_brightness_4 rfl 1 rfl ?_
    refine g_i2b X dX10_brightness_5 ?_
    refine g_goto X 20 dX10_brightness_6 rfl ?_
    exact g_sub [] rfl (hb_20 (Int32.toInt8 a2).toInt32)
  · refine g_iload_n X dX10_brightness_9 rfl 0 rfl ?_
    refine g_iconst (v := 1) X dX10_brightness_10 (by decide) ?_
    refine g_icmp_ne X 19 dX10_brightness_11 rfl (fun h2 => ?_) (fun h2 => ?_)
    · refine g_iload_n X dX10_brightness_14 rfl 1 rfl ?_
      refine g_i2s X dX10_brightness_15 ?_
      refine g_goto X 20 dX10_brightness_16 rfl ?_
      exact g_sub [] rfl (hb_20 (Int32.toInt16 a2).toInt32)
    · refine g_iload_n X dX10_brightness_19 rfl 1 rfl ?_
      exact g_sub [] rfl (hb_20 a2)
set_option maxHeartbeats 4000000 in
set_option maxRecDepth 100000 in
theorem c_X10_readSheet (l : Launch) (K : q_KK) (c : Nat → Nat) (M0 : q_MM) (o0 : Nat) (a1 : Int32) (a2 : Int32) (a3 : Int32) (a4 : Int32) : ∀ res, f_X10_readSheet c M0 o0 a1 a2 a3 a4 = some res → Mt l yX10_readSheet cX10_readSheet 7 (none : Option FieldType) 2 43 0 0 false K [.ref o0, .int a1, .int a2, .int a3, .int a4] ((qTX c), (qLX c), (qPX c), M0) (none) (((qTX c), (qLX c), (qPX c), res)) := by
  refine Mt.of (fun (_ : q_MM) => none) (fun (res : q_MM) => ((qTX c), (qLX c), (qPX c), res)) (by decide) (Nat.le_of_ble_eq_true rfl) ?_
  intro p e s m args below meth c0 A ad X hN
  have hb_35 : ∀ (k6 : Nat → Int32 → Int32 → Int32 → Int32 → Int32 → q_MM → Option (q_MM)) (hk6 : ∀ (x0 : Nat) (x1 : Int32) (x2 : Int32) (x4 : Int32) (x5 : Int32) (x6 : Int32) (M : q_MM), GG p l e { frames := 2, cells := 0, slots := 0, locals := 43 } s m args below meth c0 K A ((qTX c), (qLX c), (qPX c), M0) ad false 7 (fun res => MQ below (q_Qc K false ad ((qTX c), (qLX c), (qPX c), M0) ((fun (_ : q_MM) => none) res) ((fun (res : q_MM) => ((qTX c), (qLX c), (qPX c), res)) res) A) args s 0 0 A) (k6 x0 x1 x2 x4 x5 x6 M) 6 [(0, .ref x0), (1, .int x1), (2, .int x2), (4, .int x4), (5, .int x5), (6, .int x6)] [] ((qTX c), (qLX c), (qPX c), M) 0 0) (x0 : Nat) (x1 : Int32) (x2 : Int32) (x4 : Int32) (x5 : Int32) (x6 : Int32) (s0 : Int32) (s1 : Int32) (s2 : Nat) (M : q_MM), GG p l e { frames := 2, cells := 0, slots := 0, locals := 43 } s m args below meth c0 K A ((qTX c), (qLX c), (qPX c), M0) ad false 7 (fun res => MQ below (q_Qc K false ad ((qTX c), (qLX c), (qPX c), M0) ((fun (_ : q_MM) => none) res) ((fun (res : q_MM) => ((qTX c), (qLX c), (qPX c), res)) res) A) args s 0 0 A) (b_X10_readSheet_35 c k6 x0 x1 x2 x4 x5 x6 s0 s1 s2 M) 35 [(0, .ref x0), (1, .int x1), (2, .int x2), (4, .int x4), (5, .int x5), (6, .int x6)] [.int s0, .int s1, .ref s2] ((qTX c), (qLX c), (qPX c), M) 0 0 := by
    intro k6 hk6 x0 x1 x2 x4 x5 x6 s0 s1 s2 M
    unfold b_X10_readSheet_35
    refine g_ck (fun hT1 => ?_)
    refine g_isv X hT1 rfl dX10_readSheet_35 (fun M2 => ?_)
    refine g_iload X dX10_readSheet_36 4 rfl ?_
    refine g_iload X dX10_readSheet_38 3 rfl ?_
    refine g_iadd X dX10_readSheet_40 ?_
    refine g_is X (fun v3 => [(5, .int v3), (0, .ref x0), (1, .int x1), (2, .int x2), (4, .int x4), (6, .int x6)]) dX10_readSheet_41 (by decide) (fun _ => rfl) (fun v3 => ?_)
    refine g_iinc (v := 1) X [(6, .int (x6 + 1)), (5, .int v3), (0, .ref x0), (1, .int x1), (2, .int x2), (4, .int x4)] 5 dX10_readSheet_43 rfl (by decide) (by decide) rfl ?_
    refine g_goto X 6 dX10_readSheet_46 rfl ?_
    exact g_sub [2, 3, 4, 5, 1, 0] rfl (hk6 x0 x1 x2 x4 v3 (x6 + 1) M2)
  have hb_6 : ∀ (nf : Nat) (x0 : Nat) (x1 : Int32) (x2 : Int32) (x4 : Int32) (x5 : Int32) (x6 : Int32) (M : q_MM), GG p l e { frames := 2, cells := 0, slots := 0, locals := 43 } s m args below meth c0 K A ((qTX c), (qLX c), (qPX c), M0) ad false 7 (fun res => MQ below (q_Qc K false ad ((qTX c), (qLX c), (qPX c), M0) ((fun (_ : q_MM) => none) res) ((fun (res : q_MM) => ((qTX c), (qLX c), (qPX c), res)) res) A) args s 0 0 A) (b_X10_readSheet_6 c nf x0 x1 x2 x4 x5 x6 M) 6 [(0, .ref x0), (1, .int x1), (2, .int x2), (4, .int x4), (5, .int x5), (6, .int x6)] [] ((qTX c), (qLX c), (qPX c), M) 0 0 := by
    intro  nf
    induction nf with
    | zero => intros; exact g_stop
    | succ nf ih =>
      intro x0 x1 x2 x4 x5 x6 M
      rw [b_X10_readSheet_6]
      refine g_iload X dX10_readSheet_6 5 rfl ?_
      refine g_bipush (v := 24) X dX10_readSheet_8 (by decide) ?_
      refine g_icmp_ge X 49 dX10_readSheet_10 rfl (fun h4 => ?_) (fun h4 => ?_)
      · exact g_vret X rfl rfl rfl dX10_readSheet_49
      · refine g_aload_n X dX10_readSheet_13 rfl 0 rfl ?_
        refine g_ck (fun hT5 => ?_)
        refine g_getr X fa_X10_9 hT5 rfl dX10_readSheet_14 ?_
        refine g_iload X dX10_readSheet_17 5 rfl ?_
        refine g_iload X dX10_readSheet_19 5 rfl ?_
        refine g_iload_n X dX10_readSheet_21 rfl 2 rfl ?_
        refine g_icmp_ge X 34 dX10_readSheet_22 rfl (fun h6 => ?_) (fun h6 => ?_)
        · refine g_iconst (v := 0) X dX10_readSheet_34 (by decide) ?_
          exact g_sub [0, 1, 2, 3, 4, 5] rfl (hb_35 (b_X10_readSheet_6 c nf) ih x0 x1 x2 x4 x5 x6 0 x6 ((qPX c) x0 5) M)
        · refine g_iload_n X dX10_readSheet_25 rfl 1 rfl ?_
          refine g_iload X dX10_readSheet_26 4 rfl ?_
          refine g_bSi (As := [.int x1, .int x5]) (rest := [.int x6, .ref ((qPX c) x0 5)]) X (c_X10_brightness l K c M x1 x5) lk_X10_31 rfl rfl (Nat.le_of_ble_eq_true rfl) ⟨Nat.le_of_ble_eq_true rfl, Nat.le_of_ble_eq_true rfl⟩ ⟨Nat.zero_le _, Nat.zero_le _⟩ dX10_readSheet_28 (fun r7 => ?_)
          refine g_goto X 35 dX10_readSheet_31 rfl ?_
          exact g_sub [0, 1, 2, 3, 4, 5] rfl (hb_35 (b_X10_readSheet_6 c nf) ih x0 x1 x2 x4 x5 x6 r7 x6 ((qPX c) x0 5) M)
  refine g_sub (lv' := [(0, .ref o0), (1, .int a1), (2, .int a2), (3, .int a3), (4, .int a4)]) [0, 1, 2, 3, 4] rfl ?_
  unfold f_X10_readSheet
  refine g_iload_n X dX10_readSheet_0 rfl 3 rfl ?_
  refine g_istore X [(5, .int a3), (0, .ref o0), (1, .int a1), (2, .int a2), (3, .int a3), (4, .int a4)] dX10_readSheet_1 (by decide) rfl ?_
  refine g_iconst (v := 0) X dX10_readSheet_3 (by decide) ?_
  refine g_istore X [(6, .int 0), (5, .int a3), (0, .ref o0), (1, .int a1), (2, .int a2), (3, .int a3), (4, .int a4)] dX10_readSheet_4 (by decide) rfl ?_
  exact g_sub [2, 3, 4, 6, 1, 0] rfl (hb_6 q_fu o0 a1 a2 a4 a3 0 M0)
set_option maxHeartbeats 4000000 in
set_option maxRecDepth 100000 in
theorem c_X11_room (l : Launch) (K : q_KK) (c : Nat → Nat) (M0 : q_MM) : ∀ res, f_X11_room c M0 = some res → Mt l yX11_room cX11_room 1 (some FieldType.int) 5 115 0 0 false K [.ref 1] ((qTX c), (qLX c), (qPX c), M0) (some (.int res.1)) (((qTX c), (qLX c), (qPX c), res.2)) := by
  refine Mt.of (fun (res : Int32 × q_MM) => some (.int res.1)) (fun (res : Int32 × q_MM) => ((qTX c), (qLX c), (qPX c), res.2)) (by decide) (Nat.le_of_ble_eq_true rfl) ?_
  intro p e s m args below meth c0 A ad X hN
  refine g_sub (lv' := [(0, .ref 1)]) [0] rfl ?_
  unfold f_X11_room
  refine g_aload_n X dX11_room_0 rfl 0 rfl ?_
  refine g_getr X fa_X11_10 rfl rfl dX11_room_1 ?_
  refine g_geti X fa_X11_67 rfl dX11_room_4 ?_
  refine g_bipush (v := 10) X dX11_room_7 (by decide) ?_
  refine g_icmp_lt X 14 dX11_room_9 rfl (fun h1 => ?_) (fun h1 => ?_)
  · refine g_aload_n X dX11_room_14 rfl 0 rfl ?_
    refine g_getr X fa_X11_10 rfl rfl dX11_room_15 ?_
    refine g_dup X dX11_room_18 rfl ?_
    refine g_geti X fa_X11_67 rfl dX11_room_19 ?_
    refine g_iconst (v := 1) X dX11_room_22 (by decide) ?_
    refine g_iadd X dX11_room_23 ?_
    refine g_pfi X fa_X11_67 rfl (by decide +kernel) rfl dX11_room_24 (fun M2 => ?_)
    refine g_aload_n X dX11_room_27 rfl 0 rfl ?_
    refine g_getr X fa_X11_10 rfl rfl dX11_room_28 ?_
    refine g_aload_n X dX11_room_31 rfl 0 rfl ?_
    refine g_getr X fa_X11_10 rfl rfl dX11_room_32 ?_
    refine g_getr X fa_X11_71 rfl rfl dX11_room_35 ?_
    refine g_iconst (v := 0) X dX11_room_38 (by decide) ?_
    refine g_null X dX11_room_39 ?_
    refine g_iconst (v := (-1)) X dX11_room_40 (by decide) ?_
    refine g_bVv (As := [.ref 18, .int 0, .ref 0, .int (-1)]) (rest := []) X (c_X2_measure l K c M2 18 0 0 (-1)) lk_X11_74 rfl rfl rfl (Nat.le_of_ble_eq_true rfl) ⟨Nat.le_of_ble_eq_true rfl, Nat.le_of_ble_eq_true rfl⟩ ⟨Nat.zero_le _, Nat.zero_le _⟩ dX11_room_41 (fun r3 => ?_)
    refine g_aload_n X dX11_room_44 rfl 0 rfl ?_
    refine g_getr X fa_X11_10 rfl rfl dX11_room_45 ?_
    refine g_geti X fa_X11_67 rfl dX11_room_48 ?_
    refine g_iconst (v := 1) X dX11_room_51 (by decide) ?_
    refine g_isub X dX11_room_52 ?_
    exact g_iret X rfl rfl rfl dX11_room_53
  · refine g_iconst (v := (-1)) X dX11_room_12 (by decide) ?_
    exact g_iret X rfl rfl rfl dX11_room_13
set_option maxHeartbeats 4000000 in
set_option maxRecDepth 100000 in
theorem c_X11_within (l : Launch) (K : q_KK) (c : Nat → Nat) (M : q_MM) (a1 : Int32) (a2 : Int32) (a3 : Int32) : ∀ res, f_X11_within c M a1 a2 a3 = some res → Mt l yX11_within cX11_within 3 (some FieldType.boolean) 0 0 0 0 false K [.int a1, .int a2, .int a3] ((qTX c), (qLX c), (qPX c), M) (some (.int res)) (((qTX c), (qLX c), (qPX c), M)) := by
  refine Mt.of (fun (res : Int32) => some (.int res)) (fun (_ : Int32) => ((qTX c), (qLX c), (qPX c), M)) (by decide) (Nat.le_of_ble_eq_true rfl) ?_
  intro p e s m args below meth c0 A ad X hN
  refine g_sub (lv' := [(0, .int a1), (1, .int a2), (2, .int a3)]) [0, 1, 2] rfl ?_
  unfold f_X11_within
  refine g_iload_n X dX11_within_0 rfl 0 rfl ?_
  refine g_iload_n X dX11_within_1 rfl 1 rfl ?_
  refine g_icmp_lt X 14 dX11_within_2 rfl (fun h1 => ?_) (fun h1 => ?_)
  · refine g_iconst (v := 0) X dX11_within_14 (by decide) ?_
    exact g_zret X rfl rfl rfl dX11_within_15
  · refine g_iload_n X dX11_within_5 rfl 0 rfl ?_
    refine g_iload_n X dX11_within_6 rfl 2 rfl ?_
    refine g_icmp_gt X 14 dX11_within_7 rfl (fun h2 => ?_) (fun h2 => ?_)
    · refine g_iconst (v := 0) X dX11_within_14 (by decide) ?_
      exact g_zret X rfl rfl rfl dX11_within_15
    · refine g_iconst (v := 1) X dX11_within_10 (by decide) ?_
      refine g_goto X 15 dX11_within_11 rfl ?_
      exact g_zret X rfl rfl rfl dX11_within_15
set_option maxHeartbeats 4000000 in
set_option maxRecDepth 100000 in
theorem c_X11_light (l : Launch) (K : q_KK) (c : Nat → Nat) (M0 : q_MM) (a1 : Int32) (a2 : Int32) (a3 : Int32) (a4 : Int32) (a5 : Int32) : ∀ res, f_X11_light c M0 a1 a2 a3 a4 a5 = some res → Mt l yX11_light cX11_light 7 (some FieldType.int) 4 85 0 0 false K [.ref 1, .int a1, .int a2, .int a3, .int a4, .int a5] ((qTX c), (qLX c), (qPX c), M0) (some (.int res.1)) (((qTX c), (qLX c), (qPX c), res.2)) := by
  refine Mt.of (fun (res : Int32 × q_MM) => some (.int res.1)) (fun (res : Int32 × q_MM) => ((qTX c), (qLX c), (qPX c), res.2)) (by decide) (Nat.le_of_ble_eq_true rfl) ?_
  intro p e s m args below meth c0 A ad X hN
  refine g_sub (lv' := [(0, .ref 1), (1, .int a1), (2, .int a2), (3, .int a3), (4, .int a4), (5, .int a5)]) [0, 1, 2, 3, 4, 5] rfl ?_
  unfold f_X11_light
  refine g_aload_n X dX11_light_0 rfl 0 rfl ?_
  refine g_getr X fa_X11_10 rfl rfl dX11_light_1 ?_
  refine g_iload_n X dX11_light_4 rfl 1 rfl ?_
  refine g_bVr (As := [.int a1]) (rest := []) X (c_X2_wallAt l K c M0 a1) lk_X11_125 rfl rfl rfl (Nat.le_of_ble_eq_true rfl) ⟨Nat.le_of_ble_eq_true rfl, Nat.le_of_ble_eq_true rfl⟩ ⟨Nat.zero_le _, Nat.zero_le _⟩ dX11_light_5 (fun r1 => ?_)
  refine g_astore X [(6, .ref r1), (0, .ref 1), (1, .int a1), (2, .int a2), (3, .int a3), (4, .int a4), (5, .int a5)] dX11_light_8 (by decide) rfl ?_
  refine g_aload X dX11_light_10 0 rfl ?_
  refine g_ifnull X 30 dX11_light_12 rfl (fun h2 => ?_) (fun h2 => ?_)
  · refine g_iconst (v := (-1)) X dX11_light_30 (by decide) ?_
    exact g_iret X rfl rfl rfl dX11_light_31
  · refine g_iload_n X dX11_light_15 rfl 3 rfl ?_
    refine g_iconst (v := 0) X dX11_light_16 (by decide) ?_
    refine g_iconst (v := 3) X dX11_light_17 (by decide) ?_
    refine g_bSi (As := [.int a2, .int 0, .int 3]) (rest := []) X (c_X11_within l K c M0 a2 0 3) lk_X11_82 rfl rfl (Nat.le_of_ble_eq_true rfl) ⟨Nat.le_of_ble_eq_true rfl, Nat.le_of_ble_eq_true rfl⟩ ⟨Nat.zero_le _, Nat.zero_le _⟩ dX11_light_18 (fun r3 => ?_)
    refine g_if_eq X 30 dX11_light_21 rfl (fun h4 => ?_) (fun h4 => ?_)
    · refine g_iconst (v := (-1)) X dX11_light_30 (by decide) ?_
      exact g_iret X rfl rfl rfl dX11_light_31
    · refine g_iload_n X dX11_light_24 rfl 4 rfl ?_
      refine g_bipush (v := 24) X dX11_light_25 (by decide) ?_
      refine g_icmp_le X 32 dX11_light_27 rfl (fun h5 => ?_) (fun h5 => ?_)
      · refine g_iload_n X dX11_light_32 rfl 3 rfl ?_
        refine g_iconst (v := 3) X dX11_light_33 (by decide) ?_
        refine g_icmp_ne X 49 dX11_light_34 rfl (fun h6 => ?_) (fun h6 => ?_)
        · refine g_aload X dX11_light_37 0 rfl ?_
          refine g_ck (fun hT7 => ?_)
          refine g_getr X fa_X11_129 hT7 rfl dX11_light_39 ?_
          refine g_iconst (v := 0) X dX11_light_42 (by decide) ?_
          refine g_bSv (As := [.ref ((qPX c) r1 5), .int 0]) (rest := []) X (c_J7_fill_53178 l K (qTX c) (qLX c) (qPX c) M0 ((qPX c) r1 5) 0) lk_X11_132 rfl rfl (Nat.le_of_ble_eq_true rfl) ⟨Nat.le_of_ble_eq_true rfl, Nat.le_of_ble_eq_true rfl⟩ ⟨Nat.zero_le _, Nat.zero_le _⟩ dX11_light_43 (fun r8 => ?_)
          refine g_bipush (v := (-3)) X dX11_light_46 (by decide) ?_
          exact g_iret X rfl rfl rfl dX11_light_48
        · refine g_iload_n X dX11_light_49 rfl 4 rfl ?_
          refine g_if_ge X 56 dX11_light_50 rfl (fun h9 => ?_) (fun h9 => ?_)
          · refine g_aload X dX11_light_56 0 rfl ?_
            refine g_iload_n X dX11_light_58 rfl 3 rfl ?_
            refine g_iload_n X dX11_light_59 rfl 4 rfl ?_
            refine g_iload X dX11_light_60 5 rfl ?_
            refine g_iload X dX11_light_62 6 rfl ?_
            refine g_ck (fun hT10 => ?_)
            refine g_bVv (As := [.int a2, .int a3, .int a4, .int a5]) (rest := []) X (c_X10_readSheet l K c M0 r1 a2 a3 a4 a5) lk_X11_138 hT10 rfl rfl (Nat.le_of_ble_eq_true rfl) ⟨Nat.le_of_ble_eq_true rfl, Nat.le_of_ble_eq_true rfl⟩ ⟨Nat.zero_le _, Nat.zero_le _⟩ dX11_light_64 (fun r11 => ?_)
            refine g_aload_n X dX11_light_67 rfl 1 rfl ?_
            refine g_getr X fa_X11_10 rfl rfl dX11_light_68 ?_
            refine g_aload X dX11_light_71 0 rfl ?_
            refine g_bVi (As := [.ref r1]) (rest := []) X (c_X2_daylight l K c r11 r1) lk_X11_141 rfl rfl rfl (Nat.le_of_ble_eq_true rfl) ⟨Nat.le_of_ble_eq_true rfl, Nat.le_of_ble_eq_true rfl⟩ ⟨Nat.zero_le _, Nat.zero_le _⟩ dX11_light_73 (fun r12 => ?_)
            exact g_iret X rfl rfl rfl dX11_light_76
          · refine g_bipush (v := (-2)) X dX11_light_53 (by decide) ?_
            exact g_iret X rfl rfl rfl dX11_light_55
      · refine g_iconst (v := (-1)) X dX11_light_30 (by decide) ?_
        exact g_iret X rfl rfl rfl dX11_light_31
set_option maxHeartbeats 4000000 in
set_option maxRecDepth 100000 in
theorem c_X11_blind (l : Launch) (K : q_KK) (c : Nat → Nat) (M0 : q_MM) (a1 : Int32) (a2 : Int32) (a3 : Int32) : ∀ res, f_X11_blind c M0 a1 a2 a3 = some res → Mt l yX11_blind cX11_blind 5 (some FieldType.boolean) 4 85 0 0 false K [.ref 1, .int a1, .int a2, .int a3] ((qTX c), (qLX c), (qPX c), M0) (some (.int res.1)) (((qTX c), (qLX c), (qPX c), res.2)) := by
  refine Mt.of (fun (res : Int32 × q_MM) => some (.int res.1)) (fun (res : Int32 × q_MM) => ((qTX c), (qLX c), (qPX c), res.2)) (by decide) (Nat.le_of_ble_eq_true rfl) ?_
  intro p e s m args below meth c0 A ad X hN
  refine g_sub (lv' := [(0, .ref 1), (1, .int a1), (2, .int a2), (3, .int a3)]) [0, 1, 2, 3] rfl ?_
  unfold f_X11_blind
  refine g_aload_n X dX11_blind_0 rfl 0 rfl ?_
  refine g_getr X fa_X11_10 rfl rfl dX11_blind_1 ?_
  refine g_iload_n X dX11_blind_4 rfl 1 rfl ?_
  refine g_bVr (As := [.int a1]) (rest := []) X (c_X2_wallAt l K c M0 a1) lk_X11_125 rfl rfl rfl (Nat.le_of_ble_eq_true rfl) ⟨Nat.le_of_ble_eq_true rfl, Nat.le_of_ble_eq_true rfl⟩ ⟨Nat.zero_le _, Nat.zero_le _⟩ dX11_blind_5 (fun r1 => ?_)
  refine g_astore X [(4, .ref r1), (0, .ref 1), (1, .int a1), (2, .int a2), (3, .int a3)] dX11_blind_8 (by decide) rfl ?_
  refine g_aload X dX11_blind_10 0 rfl ?_
  refine g_ifnull X 35 dX11_blind_12 rfl (fun h2 => ?_) (fun h2 => ?_)
  · refine g_iconst (v := 0) X dX11_blind_35 (by decide) ?_
    exact g_zret X rfl rfl rfl dX11_blind_36
  · refine g_iload_n X dX11_blind_15 rfl 3 rfl ?_
    refine g_iconst (v := 0) X dX11_blind_16 (by decide) ?_
    refine g_bipush (v := 23) X dX11_blind_17 (by decide) ?_
    refine g_bSi (As := [.int a2, .int 0, .int 23]) (rest := []) X (c_X11_within l K c M0 a2 0 23) lk_X11_82 rfl rfl (Nat.le_of_ble_eq_true rfl) ⟨Nat.le_of_ble_eq_true rfl, Nat.le_of_ble_eq_true rfl⟩ ⟨Nat.zero_le _, Nat.zero_le _⟩ dX11_blind_19 (fun r3 => ?_)
    refine g_if_eq X 35 dX11_blind_22 rfl (fun h4 => ?_) (fun h4 => ?_)
    · refine g_iconst (v := 0) X dX11_blind_35 (by decide) ?_
      exact g_zret X rfl rfl rfl dX11_blind_36
    · refine g_iload_n X dX11_blind_25 rfl 4 rfl ?_
      refine g_iconst (v := 0) X dX11_blind_26 (by decide) ?_
      refine g_bipush (v := 23) X dX11_blind_27 (by decide) ?_
      refine g_bSi (As := [.int a3, .int 0, .int 23]) (rest := []) X (c_X11_within l K c M0 a3 0 23) lk_X11_82 rfl rfl (Nat.le_of_ble_eq_true rfl) ⟨Nat.le_of_ble_eq_true rfl, Nat.le_of_ble_eq_true rfl⟩ ⟨Nat.zero_le _, Nat.zero_le _⟩ dX11_blind_29 (fun r5 => ?_)
      refine g_if_ne X 37 dX11_blind_32 rfl (fun h6 => ?_) (fun h6 => ?_)
      · refine g_iconst (v := 0) X dX11_blind_35 (by decide) ?_
        exact g_zret X rfl rfl rfl dX11_blind_36
      · refine g_aload X dX11_blind_37 0 rfl ?_
        refine g_iload_n X dX11_blind_39 rfl 3 rfl ?_
        refine g_ck (fun hT7 => ?_)
        refine g_pfi X fa_X11_145 rfl (by decide +kernel) hT7 dX11_blind_40 (fun M8 => ?_)
        refine g_aload X dX11_blind_43 0 rfl ?_
        refine g_iload_n X dX11_blind_45 rfl 4 rfl ?_
        refine g_pfi X fa_X11_148 rfl (by decide +kernel) hT7 dX11_blind_46 (fun M9 => ?_)
        refine g_iconst (v := 1) X dX11_blind_49 (by decide) ?_
        exact g_zret X rfl rfl rfl dX11_blind_50
