set_option maxHeartbeats 4000000 in
set_option maxRecDepth 100000 in
theorem c_X12_bars (l : Launch) (K : q_KK) (M0 : q_MM) (a1 : Int32) (a2 : Int32) (a3 : Int32) : ∀ res, f_X12_bars M0 a1 a2 a3 = some res → Mt l yX12_bars cX12_bars 5 (some FieldType.int) 2 50 0 0 false K [.ref 5001, .int a1, .int a2, .int a3] (qTM, qLM, qPM, M0) (some (.int res.1)) ((qTM, qLM, qPM, res.2)) := by
  refine Mt.of (fun (res : Int32 × q_MM) => some (.int res.1)) (fun (res : Int32 × q_MM) => (qTM, qLM, qPM, res.2)) (by decide) (Nat.le_of_ble_eq_true rfl) ?_
  intro p e s m args below meth c0 A ad X hN
  have hb_55 : ∀ (nf : Nat) (x1 : Int32) (x2 : Int32) (x3 : Int32) (x4 : Int32) (M : q_MM), GG p l e { frames := 2, cells := 0, slots := 0, locals := 50 } s m args below meth c0 K A (qTM, qLM, qPM, M0) ad false 5 (fun res => MQ below (q_Qc K false ad (qTM, qLM, qPM, M0) ((fun (res : Int32 × q_MM) => some (.int res.1)) res) ((fun (res : Int32 × q_MM) => (qTM, qLM, qPM, res.2)) res) A) args s 0 0 A) (b_X12_bars_55 nf x1 x2 x3 x4 M) 55 [(0, .ref 5001), (1, .int x1), (2, .int x2), (3, .int x3), (4, .int x4)] [] (qTM, qLM, qPM, M) 0 0 := by
    intro  nf
    induction nf with
    | zero => intros; exact g_stop
    | succ nf ih =>
      intro x1 x2 x3 x4 M
      rw [b_X12_bars_55]
      refine g_iload X dX12_bars_55 4 rfl ?_
      refine g_aload_n X dX12_bars_57 rfl 0 rfl ?_
      refine g_geti X fa_X12_36 rfl dX12_bars_58 ?_
      refine g_icmp_ge X 92 dX12_bars_61 rfl (fun h1 => ?_) (fun h1 => ?_)
      · refine g_iconst (v := (-1)) X dX12_bars_92 (by decide) ?_
        exact g_iret X rfl rfl rfl dX12_bars_93
      · refine g_aload_n X dX12_bars_64 rfl 0 rfl ?_
        refine g_iload_n X dX12_bars_65 rfl 1 rfl ?_
        refine g_iload_n X dX12_bars_66 rfl 2 rfl ?_
        refine g_iload X dX12_bars_67 4 rfl ?_
        refine g_bVv (As := [.int x1, .int x2, .int x4]) (rest := []) X (c_X12_spreads l K M x1 x2 x4) lk_X12_437 rfl rfl rfl (Nat.le_of_ble_eq_true rfl) ⟨Nat.le_of_ble_eq_true rfl, Nat.le_of_ble_eq_true rfl⟩ ⟨Nat.zero_le _, Nat.zero_le _⟩ dX12_bars_69 (fun r2 => ?_)
        refine g_aload_n X dX12_bars_72 rfl 0 rfl ?_
        refine g_getr X fa_X12_265 rfl rfl dX12_bars_73 ?_
        refine g_iload_n X dX12_bars_76 rfl 3 rfl ?_
        refine g_ild X rfl rfl dX12_bars_77 (fun v3 => ?_)
        refine g_bipush (v := 99) X dX12_bars_78 (by decide) ?_
        refine g_icmp_ge X 86 dX12_bars_80 rfl (fun h4 => ?_) (fun h4 => ?_)
        · refine g_iinc (v := 1) X [(4, .int (x4 + 1)), (0, .ref 5001), (1, .int x1), (2, .int x2), (3, .int x3)] 4 dX12_bars_86 rfl (by decide) (by decide) rfl ?_
          refine g_goto X 55 dX12_bars_89 rfl ?_
          exact g_sub [1, 2, 3, 4, 0] rfl (ih x1 x2 x3 (x4 + 1) r2)
        · refine g_iload X dX12_bars_83 4 rfl ?_
          exact g_iret X rfl rfl rfl dX12_bars_85
  refine g_sub (lv' := [(0, .ref 5001), (1, .int a1), (2, .int a2), (3, .int a3)]) [0, 1, 2, 3] rfl ?_
  unfold f_X12_bars
  refine g_aload_n X dX12_bars_0 rfl 0 rfl ?_
  refine g_iconst (v := 0) X dX12_bars_1 (by decide) ?_
  refine g_pfi X fa_X12_1 rfl (by decide +kernel) rfl dX12_bars_2 (fun M5 => ?_)
  refine g_aload_n X dX12_bars_5 rfl 0 rfl ?_
  refine g_iload_n X dX12_bars_6 rfl 1 rfl ?_
  refine g_bVi (As := [.int a1]) (rest := []) X (c_X12_isPicture l K M5 a1) lk_X12_161 rfl rfl rfl (Nat.le_of_ble_eq_true rfl) ⟨Nat.le_of_ble_eq_true rfl, Nat.le_of_ble_eq_true rfl⟩ ⟨Nat.zero_le _, Nat.zero_le _⟩ dX12_bars_7 (fun r6 => ?_)
  refine g_if_eq X 29 dX12_bars_10 rfl (fun h7 => ?_) (fun h7 => ?_)
  · refine g_iconst (v := (-1)) X dX12_bars_29 (by decide) ?_
    exact g_iret X rfl rfl rfl dX12_bars_30
  · refine g_aload_n X dX12_bars_13 rfl 0 rfl ?_
    refine g_iload_n X dX12_bars_14 rfl 2 rfl ?_
    refine g_bVi (As := [.int a2]) (rest := []) X (c_X12_isRoom l K M5 a2) lk_X12_24 rfl rfl rfl (Nat.le_of_ble_eq_true rfl) ⟨Nat.le_of_ble_eq_true rfl, Nat.le_of_ble_eq_true rfl⟩ ⟨Nat.zero_le _, Nat.zero_le _⟩ dX12_bars_15 (fun r8 => ?_)
    refine g_if_eq X 29 dX12_bars_18 rfl (fun h9 => ?_) (fun h9 => ?_)
    · refine g_iconst (v := (-1)) X dX12_bars_29 (by decide) ?_
      exact g_iret X rfl rfl rfl dX12_bars_30
    · refine g_aload_n X dX12_bars_21 rfl 0 rfl ?_
      refine g_iload_n X dX12_bars_22 rfl 3 rfl ?_
      refine g_bVi (As := [.int a3]) (rest := []) X (c_X12_isRoom l K M5 a3) lk_X12_24 rfl rfl rfl (Nat.le_of_ble_eq_true rfl) ⟨Nat.le_of_ble_eq_true rfl, Nat.le_of_ble_eq_true rfl⟩ ⟨Nat.zero_le _, Nat.zero_le _⟩ dX12_bars_23 (fun r10 => ?_)
      refine g_if_ne X 31 dX12_bars_26 rfl (fun h11 => ?_) (fun h11 => ?_)
      · refine g_iconst (v := (-1)) X dX12_bars_29 (by decide) ?_
        exact g_iret X rfl rfl rfl dX12_bars_30
      · refine g_aload_n X dX12_bars_31 rfl 0 rfl ?_
        refine g_iload_n X dX12_bars_32 rfl 1 rfl ?_
        refine g_iload_n X dX12_bars_33 rfl 2 rfl ?_
        refine g_iconst (v := (-1)) X dX12_bars_34 (by decide) ?_
        refine g_bVv (As := [.int a1, .int a2, .int (-1)]) (rest := []) X (c_X12_spreads l K M5 a1 a2 (-1)) lk_X12_437 rfl rfl rfl (Nat.le_of_ble_eq_true rfl) ⟨Nat.le_of_ble_eq_true rfl, Nat.le_of_ble_eq_true rfl⟩ ⟨Nat.zero_le _, Nat.zero_le _⟩ dX12_bars_35 (fun r12 => ?_)
        refine g_aload_n X dX12_bars_38 rfl 0 rfl ?_
        refine g_getr X fa_X12_265 rfl rfl dX12_bars_39 ?_
        refine g_iload_n X dX12_bars_42 rfl 3 rfl ?_
        refine g_ild X rfl rfl dX12_bars_43 (fun v13 => ?_)
        refine g_bipush (v := 99) X dX12_bars_44 (by decide) ?_
        refine g_icmp_ge X 52 dX12_bars_46 rfl (fun h14 => ?_) (fun h14 => ?_)
        · refine g_iconst (v := 0) X dX12_bars_52 (by decide) ?_
          refine g_istore X [(4, .int 0), (0, .ref 5001), (1, .int a1), (2, .int a2), (3, .int a3)] dX12_bars_53 (by decide) rfl ?_
          exact g_sub [1, 2, 3, 4, 0] rfl (hb_55 q_fu a1 a2 a3 0 r12)
        · refine g_bipush (v := (-2)) X dX12_bars_49 (by decide) ?_
          exact g_iret X rfl rfl rfl dX12_bars_51
set_option maxHeartbeats 4000000 in
set_option maxRecDepth 100000 in
theorem c_X12_move (l : Launch) (K : q_KK) (M0 : q_MM) (a1 : Int32) (a2 : Int32) (a3 : Int32) : ∀ res, f_X12_move M0 a1 a2 a3 = some res → Mt l yX12_move cX12_move 4 (some FieldType.int) 3 67 0 0 false K [.ref 5001, .int a1, .int a2, .int a3] (qTM, qLM, qPM, M0) (some (.int res.1)) ((qTM, qLM, qPM, res.2)) := by
  refine Mt.of (fun (res : Int32 × q_MM) => some (.int res.1)) (fun (res : Int32 × q_MM) => (qTM, qLM, qPM, res.2)) (by decide) (Nat.le_of_ble_eq_true rfl) ?_
  intro p e s m args below meth c0 A ad X hN
  refine g_sub (lv' := [(0, .ref 5001), (1, .int a1), (2, .int a2), (3, .int a3)]) [0, 1, 2, 3] rfl ?_
  unfold f_X12_move
  refine g_aload_n X dX12_move_0 rfl 0 rfl ?_
  refine g_iconst (v := 0) X dX12_move_1 (by decide) ?_
  refine g_pfi X fa_X12_1 rfl (by decide +kernel) rfl dX12_move_2 (fun M1 => ?_)
  refine g_aload_n X dX12_move_5 rfl 0 rfl ?_
  refine g_iload_n X dX12_move_6 rfl 1 rfl ?_
  refine g_bVi (As := [.int a1]) (rest := []) X (c_X12_isHere l K M1 a1) lk_X12_323 rfl rfl rfl (Nat.le_of_ble_eq_true rfl) ⟨Nat.le_of_ble_eq_true rfl, Nat.le_of_ble_eq_true rfl⟩ ⟨Nat.zero_le _, Nat.zero_le _⟩ dX12_move_7 (fun r2 => ?_)
  refine g_if_eq X 59 dX12_move_10 rfl (fun h3 => ?_) (fun h3 => ?_)
  · refine g_iconst (v := (-1)) X dX12_move_59 (by decide) ?_
    exact g_iret X rfl rfl rfl dX12_move_60
  · refine g_aload_n X dX12_move_13 rfl 0 rfl ?_
    refine g_iload_n X dX12_move_14 rfl 2 rfl ?_
    refine g_bVi (As := [.int a2]) (rest := []) X (c_X12_isWall l K M1 a2) lk_X12_90 rfl rfl rfl (Nat.le_of_ble_eq_true rfl) ⟨Nat.le_of_ble_eq_true rfl, Nat.le_of_ble_eq_true rfl⟩ ⟨Nat.zero_le _, Nat.zero_le _⟩ dX12_move_15 (fun r4 => ?_)
    refine g_if_eq X 59 dX12_move_18 rfl (fun h5 => ?_) (fun h5 => ?_)
    · refine g_iconst (v := (-1)) X dX12_move_59 (by decide) ?_
      exact g_iret X rfl rfl rfl dX12_move_60
    · refine g_aload_n X dX12_move_21 rfl 0 rfl ?_
      refine g_getr X fa_X12_443 rfl rfl dX12_move_22 ?_
      refine g_aload_n X dX12_move_25 rfl 0 rfl ?_
      refine g_geti X fa_X12_446 rfl dX12_move_26 ?_
      refine g_iload_n X dX12_move_29 rfl 1 rfl ?_
      refine g_bSi (As := [.ref 5077, .int (M1 5001 66), .int a1]) (rest := []) X (c_X12_isThere l K M1 5077 (M1 5001 66) a1) lk_X12_415 rfl rfl (Nat.le_of_ble_eq_true rfl) ⟨Nat.le_of_ble_eq_true rfl, Nat.le_of_ble_eq_true rfl⟩ ⟨Nat.zero_le _, Nat.zero_le _⟩ dX12_move_30 (fun r6 => ?_)
      refine g_if_ne X 59 dX12_move_33 rfl (fun h7 => ?_) (fun h7 => ?_)
      · refine g_iload_n X dX12_move_36 rfl 3 rfl ?_
        refine g_i2l X dX12_move_37 ?_
        refine g_ldc2 (v := (-1000)) X wc_X12_449 dX12_move_38 ?_
        refine g_ldc2 (v := 4000) X wc_X12_451 dX12_move_41 ?_
        refine g_bSi (As := [.long (Int32.toInt64 a3), .long (-1000), .long 4000]) (rest := []) X (c_X12_in l K M1 (Int32.toInt64 a3) (-1000) 4000) lk_X12_17 rfl rfl (Nat.le_of_ble_eq_true rfl) ⟨Nat.le_of_ble_eq_true rfl, Nat.le_of_ble_eq_true rfl⟩ ⟨Nat.zero_le _, Nat.zero_le _⟩ dX12_move_44 (fun r8 => ?_)
        refine g_if_eq X 59 dX12_move_47 rfl (fun h9 => ?_) (fun h9 => ?_)
        · refine g_iconst (v := (-1)) X dX12_move_59 (by decide) ?_
          exact g_iret X rfl rfl rfl dX12_move_60
        · refine g_aload_n X dX12_move_50 rfl 0 rfl ?_
          refine g_geti X fa_X12_446 rfl dX12_move_51 ?_
          refine g_bipush (v := 8) X dX12_move_54 (by decide) ?_
          refine g_icmp_ne X 61 dX12_move_56 rfl (fun h10 => ?_) (fun h10 => ?_)
          · refine g_iconst (v := (-1)) X dX12_move_59 (by decide) ?_
            exact g_iret X rfl rfl rfl dX12_move_60
          · refine g_aload_n X dX12_move_61 rfl 0 rfl ?_
            refine g_getr X fa_X12_443 rfl rfl dX12_move_62 ?_
            refine g_aload_n X dX12_move_65 rfl 0 rfl ?_
            refine g_geti X fa_X12_446 rfl dX12_move_66 ?_
            refine g_iload_n X dX12_move_69 rfl 1 rfl ?_
            refine g_isv X rfl rfl dX12_move_70 (fun M11 => ?_)
            refine g_aload_n X dX12_move_71 rfl 0 rfl ?_
            refine g_getr X fa_X12_453 rfl rfl dX12_move_72 ?_
            refine g_aload_n X dX12_move_75 rfl 0 rfl ?_
            refine g_geti X fa_X12_446 rfl dX12_move_76 ?_
            refine g_iload_n X dX12_move_79 rfl 2 rfl ?_
            refine g_isv X rfl rfl dX12_move_80 (fun M12 => ?_)
            refine g_aload_n X dX12_move_81 rfl 0 rfl ?_
            refine g_getr X fa_X12_456 rfl rfl dX12_move_82 ?_
            refine g_aload_n X dX12_move_85 rfl 0 rfl ?_
            refine g_geti X fa_X12_446 rfl dX12_move_86 ?_
            refine g_iload_n X dX12_move_89 rfl 3 rfl ?_
            refine g_isv X rfl rfl dX12_move_90 (fun M13 => ?_)
            refine g_aload_n X dX12_move_91 rfl 0 rfl ?_
            refine g_dup X dX12_move_92 rfl ?_
            refine g_geti X fa_X12_446 rfl dX12_move_93 ?_
            refine g_iconst (v := 1) X dX12_move_96 (by decide) ?_
            refine g_iadd X dX12_move_97 ?_
            refine g_pfi X fa_X12_446 rfl (by decide +kernel) rfl dX12_move_98 (fun M14 => ?_)
            refine g_aload_n X dX12_move_101 rfl 0 rfl ?_
            refine g_geti X fa_X12_446 rfl dX12_move_102 ?_
            refine g_iconst (v := 1) X dX12_move_105 (by decide) ?_
            refine g_isub X dX12_move_106 ?_
            exact g_iret X rfl rfl rfl dX12_move_107
      · refine g_iconst (v := (-1)) X dX12_move_59 (by decide) ?_
        exact g_iret X rfl rfl rfl dX12_move_60
set_option maxHeartbeats 4000000 in
set_option maxRecDepth 100000 in
theorem c_X12_keeps (l : Launch) (K : q_KK) (M0 : q_MM) : ∀ res, f_X12_keeps M0 = some res → Mt l yX12_keeps cX12_keeps 2 (none : Option FieldType) 0 0 0 0 false K [.ref 5001] (qTM, qLM, qPM, M0) (none) ((qTM, qLM, qPM, res)) := by
  refine Mt.of (fun (_ : q_MM) => none) (fun (res : q_MM) => (qTM, qLM, qPM, res)) (by decide) (Nat.le_of_ble_eq_true rfl) ?_
  intro p e s m args below meth c0 A ad X hN
  have hb_2 : ∀ (nf : Nat) (x1 : Int32) (M : q_MM), GG p l e { frames := 0, cells := 0, slots := 0, locals := 0 } s m args below meth c0 K A (qTM, qLM, qPM, M0) ad false 2 (fun res => MQ below (q_Qc K false ad (qTM, qLM, qPM, M0) ((fun (_ : q_MM) => none) res) ((fun (res : q_MM) => (qTM, qLM, qPM, res)) res) A) args s 0 0 A) (b_X12_keeps_2 nf x1 M) 2 [(0, .ref 5001), (1, .int x1)] [] (qTM, qLM, qPM, M) 0 0 := by
    intro  nf
    induction nf with
    | zero => intros; exact g_stop
    | succ nf ih =>
      intro x1 M
      rw [b_X12_keeps_2]
      refine g_iload_n X dX12_keeps_2 rfl 1 rfl ?_
      refine g_aload_n X dX12_keeps_3 rfl 0 rfl ?_
      refine g_geti X fa_X12_108 rfl dX12_keeps_4 ?_
      refine g_icmp_ge X 52 dX12_keeps_7 rfl (fun h1 => ?_) (fun h1 => ?_)
      · exact g_vret X rfl rfl rfl dX12_keeps_52
      · refine g_aload_n X dX12_keeps_10 rfl 0 rfl ?_
        refine g_getr X fa_X12_459 rfl rfl dX12_keeps_11 ?_
        refine g_iload_n X dX12_keeps_14 rfl 1 rfl ?_
        refine g_aload_n X dX12_keeps_15 rfl 0 rfl ?_
        refine g_getr X fa_X12_170 rfl rfl dX12_keeps_16 ?_
        refine g_iload_n X dX12_keeps_19 rfl 1 rfl ?_
        refine g_ild X rfl rfl dX12_keeps_20 (fun v2 => ?_)
        refine g_isv X rfl rfl dX12_keeps_21 (fun M3 => ?_)
        refine g_aload_n X dX12_keeps_22 rfl 0 rfl ?_
        refine g_getr X fa_X12_462 rfl rfl dX12_keeps_23 ?_
        refine g_iload_n X dX12_keeps_26 rfl 1 rfl ?_
        refine g_aload_n X dX12_keeps_27 rfl 0 rfl ?_
        refine g_getr X fa_X12_155 rfl rfl dX12_keeps_28 ?_
        refine g_iload_n X dX12_keeps_31 rfl 1 rfl ?_
        refine g_ild X rfl rfl dX12_keeps_32 (fun v4 => ?_)
        refine g_isv X rfl rfl dX12_keeps_33 (fun M5 => ?_)
        refine g_aload_n X dX12_keeps_34 rfl 0 rfl ?_
        refine g_getr X fa_X12_465 rfl rfl dX12_keeps_35 ?_
        refine g_iload_n X dX12_keeps_38 rfl 1 rfl ?_
        refine g_aload_n X dX12_keeps_39 rfl 0 rfl ?_
        refine g_getr X fa_X12_158 rfl rfl dX12_keeps_40 ?_
        refine g_iload_n X dX12_keeps_43 rfl 1 rfl ?_
        refine g_ild X rfl rfl dX12_keeps_44 (fun v6 => ?_)
        refine g_isv X rfl rfl dX12_keeps_45 (fun M7 => ?_)
        refine g_iinc (v := 1) X [(1, .int (x1 + 1)), (0, .ref 5001)] 1 dX12_keeps_46 rfl (by decide) (by decide) rfl ?_
        refine g_goto X 2 dX12_keeps_49 rfl ?_
        exact g_sub [1, 0] rfl (ih (x1 + 1) M7)
  refine g_sub (lv' := [(0, .ref 5001)]) [0] rfl ?_
  unfold f_X12_keeps
  refine g_iconst (v := 0) X dX12_keeps_0 (by decide) ?_
  refine g_istore_n X [(1, .int 0), (0, .ref 5001)] dX12_keeps_1 rfl (by decide) rfl ?_
  exact g_sub [1, 0] rfl (hb_2 q_fu 0 M0)
set_option maxHeartbeats 4000000 in
set_option maxRecDepth 100000 in
theorem c_X12_restores (l : Launch) (K : q_KK) (M0 : q_MM) : ∀ res, f_X12_restores M0 = some res → Mt l yX12_restores cX12_restores 2 (none : Option FieldType) 0 0 0 0 false K [.ref 5001] (qTM, qLM, qPM, M0) (none) ((qTM, qLM, qPM, res)) := by
  refine Mt.of (fun (_ : q_MM) => none) (fun (res : q_MM) => (qTM, qLM, qPM, res)) (by decide) (Nat.le_of_ble_eq_true rfl) ?_
  intro p e s m args below meth c0 A ad X hN
  have hb_2 : ∀ (nf : Nat) (x1 : Int32) (M : q_MM), GG p l e { frames := 0, cells := 0, slots := 0, locals := 0 } s m args below meth c0 K A (qTM, qLM, qPM, M0) ad false 2 (fun res => MQ below (q_Qc K false ad (qTM, qLM, qPM, M0) ((fun (_ : q_MM) => none) res) ((fun (res : q_MM) => (qTM, qLM, qPM, res)) res) A) args s 0 0 A) (b_X12_restores_2 nf x1 M) 2 [(0, .ref 5001), (1, .int x1)] [] (qTM, qLM, qPM, M) 0 0 := by
    intro  nf
    induction nf with
    | zero => intros; exact g_stop
    | succ nf ih =>
      intro x1 M
      rw [b_X12_restores_2]
      refine g_iload_n X dX12_restores_2 rfl 1 rfl ?_
      refine g_aload_n X dX12_restores_3 rfl 0 rfl ?_
      refine g_geti X fa_X12_108 rfl dX12_restores_4 ?_
      refine g_icmp_ge X 52 dX12_restores_7 rfl (fun h1 => ?_) (fun h1 => ?_)
      · exact g_vret X rfl rfl rfl dX12_restores_52
      · refine g_aload_n X dX12_restores_10 rfl 0 rfl ?_
        refine g_getr X fa_X12_170 rfl rfl dX12_restores_11 ?_
        refine g_iload_n X dX12_restores_14 rfl 1 rfl ?_
        refine g_aload_n X dX12_restores_15 rfl 0 rfl ?_
        refine g_getr X fa_X12_459 rfl rfl dX12_restores_16 ?_
        refine g_iload_n X dX12_restores_19 rfl 1 rfl ?_
        refine g_ild X rfl rfl dX12_restores_20 (fun v2 => ?_)
        refine g_isv X rfl rfl dX12_restores_21 (fun M3 => ?_)
        refine g_aload_n X dX12_restores_22 rfl 0 rfl ?_
        refine g_getr X fa_X12_155 rfl rfl dX12_restores_23 ?_
        refine g_iload_n X dX12_restores_26 rfl 1 rfl ?_
        refine g_aload_n X dX12_restores_27 rfl 0 rfl ?_
        refine g_getr X fa_X12_462 rfl rfl dX12_restores_28 ?_
        refine g_iload_n X dX12_restores_31 rfl 1 rfl ?_
        refine g_ild X rfl rfl dX12_restores_32 (fun v4 => ?_)
        refine g_isv X rfl rfl dX12_restores_33 (fun M5 => ?_)
        refine g_aload_n X dX12_restores_34 rfl 0 rfl ?_
        refine g_getr X fa_X12_158 rfl rfl dX12_restores_35 ?_
        refine g_iload_n X dX12_restores_38 rfl 1 rfl ?_
        refine g_aload_n X dX12_restores_39 rfl 0 rfl ?_
        refine g_getr X fa_X12_465 rfl rfl dX12_restores_40 ?_
        refine g_iload_n X dX12_restores_43 rfl 1 rfl ?_
        refine g_ild X rfl rfl dX12_restores_44 (fun v6 => ?_)
        refine g_isv X rfl rfl dX12_restores_45 (fun M7 => ?_)
        refine g_iinc (v := 1) X [(1, .int (x1 + 1)), (0, .ref 5001)] 1 dX12_restores_46 rfl (by decide) (by decide) rfl ?_
        refine g_goto X 2 dX12_restores_49 rfl ?_
        exact g_sub [1, 0] rfl (ih (x1 + 1) M7)
  refine g_sub (lv' := [(0, .ref 5001)]) [0] rfl ?_
  unfold f_X12_restores
  refine g_iconst (v := 0) X dX12_restores_0 (by decide) ?_
  refine g_istore_n X [(1, .int 0), (0, .ref 5001)] dX12_restores_1 rfl (by decide) rfl ?_
  exact g_sub [1, 0] rfl (hb_2 q_fu 0 M0)
set_option maxHeartbeats 4000000 in
set_option maxRecDepth 100000 in
theorem c_X12_does (l : Launch) (K : q_KK) (M0 : q_MM) (a1 : Int32) : ∀ res, f_X12_does M0 a1 = some res → Mt l yX12_does cX12_does 3 (none : Option FieldType) 1 23 0 0 false K [.ref 5001, .int a1] (qTM, qLM, qPM, M0) (none) ((qTM, qLM, qPM, res)) := by
  refine Mt.of (fun (_ : q_MM) => none) (fun (res : q_MM) => (qTM, qLM, qPM, res)) (by decide) (Nat.le_of_ble_eq_true rfl) ?_
  intro p e s m args below meth c0 A ad X hN
  have hb_45 : ∀ (k6 : Int32 → Int32 → q_MM → Option (q_MM)) (hk6 : ∀ (x1 : Int32) (x2 : Int32) (M : q_MM), GG p l e { frames := 1, cells := 0, slots := 0, locals := 23 } s m args below meth c0 K A (qTM, qLM, qPM, M0) ad false 3 (fun res => MQ below (q_Qc K false ad (qTM, qLM, qPM, M0) ((fun (_ : q_MM) => none) res) ((fun (res : q_MM) => (qTM, qLM, qPM, res)) res) A) args s 0 0 A) (k6 x1 x2 M) 6 [(0, .ref 5001), (1, .int x1), (2, .int x2)] [] (qTM, qLM, qPM, M) 0 0) (x1 : Int32) (x2 : Int32) (M : q_MM), GG p l e { frames := 1, cells := 0, slots := 0, locals := 23 } s m args below meth c0 K A (qTM, qLM, qPM, M0) ad false 3 (fun res => MQ below (q_Qc K false ad (qTM, qLM, qPM, M0) ((fun (_ : q_MM) => none) res) ((fun (res : q_MM) => (qTM, qLM, qPM, res)) res) A) args s 0 0 A) (b_X12_does_45 k6 x1 x2 M) 45 [(0, .ref 5001), (1, .int x1), (2, .int x2)] [] (qTM, qLM, qPM, M) 0 0 := by
    intro k6 hk6 x1 x2 M
    unfold b_X12_does_45
    refine g_iinc (v := 1) X [(2, .int (x2 + 1)), (0, .ref 5001), (1, .int x1)] 2 dX12_does_45 rfl (by decide) (by decide) rfl ?_
    refine g_goto X 6 dX12_does_48 rfl ?_
    exact g_sub [1, 2, 0] rfl (hk6 x1 (x2 + 1) M)
  have hb_6 : ∀ (nf : Nat) (x1 : Int32) (x2 : Int32) (M : q_MM), GG p l e { frames := 1, cells := 0, slots := 0, locals := 23 } s m args below meth c0 K A (qTM, qLM, qPM, M0) ad false 3 (fun res => MQ below (q_Qc K false ad (qTM, qLM, qPM, M0) ((fun (_ : q_MM) => none) res) ((fun (res : q_MM) => (qTM, qLM, qPM, res)) res) A) args s 0 0 A) (b_X12_does_6 nf x1 x2 M) 6 [(0, .ref 5001), (1, .int x1), (2, .int x2)] [] (qTM, qLM, qPM, M) 0 0 := by
    intro  nf
    induction nf with
    | zero => intros; exact g_stop
    | succ nf ih =>
      intro x1 x2 M
      rw [b_X12_does_6]
      refine g_iload_n X dX12_does_6 rfl 2 rfl ?_
      refine g_aload_n X dX12_does_7 rfl 0 rfl ?_
      refine g_geti X fa_X12_446 rfl dX12_does_8 ?_
      refine g_icmp_ge X 51 dX12_does_11 rfl (fun h1 => ?_) (fun h1 => ?_)
      · exact g_vret X rfl rfl rfl dX12_does_51
      · refine g_iload_n X dX12_does_14 rfl 1 rfl ?_
        refine g_iload_n X dX12_does_15 rfl 2 rfl ?_
        refine g_ishr X dX12_does_16 ?_
        refine g_iconst (v := 1) X dX12_does_17 (by decide) ?_
        refine g_iand X dX12_does_18 ?_
        refine g_iconst (v := 1) X dX12_does_19 (by decide) ?_
        refine g_icmp_ne X 45 dX12_does_20 rfl (fun h2 => ?_) (fun h2 => ?_)
        · refine g_aload_n X dX12_does_23 rfl 0 rfl ?_
          refine g_aload_n X dX12_does_24 rfl 0 rfl ?_
          refine g_getr X fa_X12_443 rfl rfl dX12_does_25 ?_
          refine g_iload_n X dX12_does_28 rfl 2 rfl ?_
          refine g_ild X rfl rfl dX12_does_29 (fun v3 => ?_)
          refine g_aload_n X dX12_does_30 rfl 0 rfl ?_
          refine g_getr X fa_X12_453 rfl rfl dX12_does_31 ?_
          refine g_iload_n X dX12_does_34 rfl 2 rfl ?_
          refine g_ild X rfl rfl dX12_does_35 (fun v4 => ?_)
          refine g_aload_n X dX12_does_36 rfl 0 rfl ?_
          refine g_getr X fa_X12_456 rfl rfl dX12_does_37 ?_
          refine g_iload_n X dX12_does_40 rfl 2 rfl ?_
          refine g_ild X rfl rfl dX12_does_41 (fun v5 => ?_)
          refine g_bVv (As := [.int v3, .int v4, .int v5]) (rest := []) X (c_X12_puts l K M v3 v4 v5) lk_X12_330 rfl rfl rfl (Nat.le_of_ble_eq_true rfl) ⟨Nat.le_of_ble_eq_true rfl, Nat.le_of_ble_eq_true rfl⟩ ⟨Nat.zero_le _, Nat.zero_le _⟩ dX12_does_42 (fun r6 => ?_)
          exact g_sub [0, 1, 2] rfl (hb_45 (b_X12_does_6 nf) ih x1 x2 r6)
        · exact g_sub [0, 1, 2] rfl (hb_45 (b_X12_does_6 nf) ih x1 x2 M)
  refine g_sub (lv' := [(0, .ref 5001), (1, .int a1)]) [0, 1] rfl ?_
  unfold f_X12_does
  refine g_aload_n X dX12_does_0 rfl 0 rfl ?_
  refine g_bVv (As := []) (rest := []) X (c_X12_restores l K M0) lk_X12_468 rfl rfl rfl (Nat.le_of_ble_eq_true rfl) ⟨Nat.le_of_ble_eq_true rfl, Nat.le_of_ble_eq_true rfl⟩ ⟨Nat.zero_le _, Nat.zero_le _⟩ dX12_does_1 (fun r7 => ?_)
  refine g_iconst (v := 0) X dX12_does_4 (by decide) ?_
  refine g_istore_n X [(2, .int 0), (0, .ref 5001), (1, .int a1)] dX12_does_5 rfl (by decide) rfl ?_
  exact g_sub [1, 2, 0] rfl (hb_6 q_fu a1 0 r7)
set_option maxHeartbeats 4000000 in
set_option maxRecDepth 100000 in
theorem c_X12_roomsTouched (l : Launch) (K : q_KK) (M : q_MM) (a1 : Int32) : ∀ res, f_X12_roomsTouched M a1 = some res → Mt l yX12_roomsTouched cX12_roomsTouched 4 (some FieldType.int) 1 20 0 0 false K [.ref 5001, .int a1] (qTM, qLM, qPM, M) (some (.int res)) ((qTM, qLM, qPM, M)) := by
  refine Mt.of (fun (res : Int32) => some (.int res)) (fun (_ : Int32) => (qTM, qLM, qPM, M)) (by decide) (Nat.le_of_ble_eq_true rfl) ?_
  intro p e s m args below meth c0 A ad X hN
  have hb_79 : ∀ (k4 : Int32 → Int32 → Int32 → Option (Int32)) (hk4 : ∀ (x1 : Int32) (x2 : Int32) (x3 : Int32), GG p l e { frames := 1, cells := 0, slots := 0, locals := 20 } s m args below meth c0 K A (qTM, qLM, qPM, M) ad false 4 (fun res => MQ below (q_Qc K false ad (qTM, qLM, qPM, M) ((fun (res : Int32) => some (.int res)) res) ((fun (_ : Int32) => (qTM, qLM, qPM, M)) res) A) args s 0 0 A) (k4 x1 x2 x3) 4 [(0, .ref 5001), (1, .int x1), (2, .int x2), (3, .int x3)] [] (qTM, qLM, qPM, M) 0 0) (x1 : Int32) (x2 : Int32) (x3 : Int32), GG p l e { frames := 1, cells := 0, slots := 0, locals := 20 } s m args below meth c0 K A (qTM, qLM, qPM, M) ad false 4 (fun res => MQ below (q_Qc K false ad (qTM, qLM, qPM, M) ((fun (res : Int32) => some (.int res)) res) ((fun (_ : Int32) => (qTM, qLM, qPM, M)) res) A) args s 0 0 A) (b_X12_roomsTouched_79 M k4 x1 x2 x3) 79 [(0, .ref 5001), (1, .int x1), (2, .int x2), (3, .int x3)] [] (qTM, qLM, qPM, M) 0 0 := by
    intro k4 hk4 x1 x2 x3
    unfold b_X12_roomsTouched_79
    refine g_iinc (v := 1) X [(3, .int (x3 + 1)), (0, .ref 5001), (1, .int x1), (2, .int x2)] 3 dX12_roomsTouched_79 rfl (by decide) (by decide) rfl ?_
    refine g_goto X 4 dX12_roomsTouched_82 rfl ?_
    exact g_sub [1, 2, 3, 0] rfl (hk4 x1 x2 (x3 + 1))
  have hb_77 : ∀ (k4 : Int32 → Int32 → Int32 → Option (Int32)) (hk4 : ∀ (x1 : Int32) (x2 : Int32) (x3 : Int32), GG p l e { frames := 1, cells := 0, slots := 0, locals := 20 } s m args below meth c0 K A (qTM, qLM, qPM, M) ad false 4 (fun res => MQ below (q_Qc K false ad (qTM, qLM, qPM, M) ((fun (res : Int32) => some (.int res)) res) ((fun (_ : Int32) => (qTM, qLM, qPM, M)) res) A) args s 0 0 A) (k4 x1 x2 x3) 4 [(0, .ref 5001), (1, .int x1), (2, .int x2), (3, .int x3)] [] (qTM, qLM, qPM, M) 0 0) (x1 : Int32) (x3 : Int32) (s0 : Int32) (s1 : Int32), GG p l e { frames := 1, cells := 0, slots := 0, locals := 20 } s m args below meth c0 K A (qTM, qLM, qPM, M) ad false 4 (fun res => MQ below (q_Qc K false ad (qTM, qLM, qPM, M) ((fun (res : Int32) => some (.int res)) res) ((fun (_ : Int32) => (qTM, qLM, qPM, M)) res) A) args s 0 0 A) (b_X12_roomsTouched_77 M k4 x1 x3 s0 s1) 77 [(0, .ref 5001), (1, .int x1), (3, .int x3)] [.int s0, .int s1] (qTM, qLM, qPM, M) 0 0 := by
    intro k4 hk4 x1 x3 s0 s1
    unfold b_X12_roomsTouched_77
    refine g_ior X dX12_roomsTouched_77 ?_
    refine g_isn X (fun v1 => [(2, .int v1), (0, .ref 5001), (1, .int x1), (3, .int x3)]) dX12_roomsTouched_78 rfl (by decide) (fun _ => rfl) (fun v1 => ?_)
    exact g_sub [1, 2, 0, 3] rfl (hb_79 k4 hk4 x1 v1 x3)
  have hb_4 : ∀ (nf : Nat) (x1 : Int32) (x2 : Int32) (x3 : Int32), GG p l e { frames := 1, cells := 0, slots := 0, locals := 20 } s m args below meth c0 K A (qTM, qLM, qPM, M) ad false 4 (fun res => MQ below (q_Qc K false ad (qTM, qLM, qPM, M) ((fun (res : Int32) => some (.int res)) res) ((fun (_ : Int32) => (qTM, qLM, qPM, M)) res) A) args s 0 0 A) (b_X12_roomsTouched_4 M nf x1 x2 x3) 4 [(0, .ref 5001), (1, .int x1), (2, .int x2), (3, .int x3)] [] (qTM, qLM, qPM, M) 0 0 := by
    intro  nf
    induction nf with
    | zero => intros; exact g_stop
    | succ nf ih =>
      intro x1 x2 x3
      rw [b_X12_roomsTouched_4]
      refine g_iload_n X dX12_roomsTouched_4 rfl 3 rfl ?_
      refine g_aload_n X dX12_roomsTouched_5 rfl 0 rfl ?_
      refine g_geti X fa_X12_446 rfl dX12_roomsTouched_6 ?_
      refine g_icmp_ge X 85 dX12_roomsTouched_9 rfl (fun h2 => ?_) (fun h2 => ?_)
      · refine g_iload_n X dX12_roomsTouched_85 rfl 2 rfl ?_
        refine g_bSi (As := [.int x2]) (rest := []) X (c_J6_bitCount_0f7a4 l K qTM qLM qPM M x2) lk_X12_386 rfl rfl (Nat.le_of_ble_eq_true rfl) ⟨Nat.le_of_ble_eq_true rfl, Nat.le_of_ble_eq_true rfl⟩ ⟨Nat.zero_le _, Nat.zero_le _⟩ dX12_roomsTouched_86 (fun r3 => ?_)
        exact g_iret X rfl rfl rfl dX12_roomsTouched_89
      · refine g_iload_n X dX12_roomsTouched_12 rfl 1 rfl ?_
        refine g_iload_n X dX12_roomsTouched_13 rfl 3 rfl ?_
        refine g_ishr X dX12_roomsTouched_14 ?_
        refine g_iconst (v := 1) X dX12_roomsTouched_15 (by decide) ?_
        refine g_iand X dX12_roomsTouched_16 ?_
        refine g_if_ne X 23 dX12_roomsTouched_17 rfl (fun h4 => ?_) (fun h4 => ?_)
        · refine g_goto X 79 dX12_roomsTouched_20 rfl ?_
          exact g_sub [0, 1, 2, 3] rfl (hb_79 (b_X12_roomsTouched_4 M nf) ih x1 x2 x3)
        · refine g_iload_n X dX12_roomsTouched_23 rfl 2 rfl ?_
          refine g_iconst (v := 1) X dX12_roomsTouched_24 (by decide) ?_
          refine g_aload_n X dX12_roomsTouched_25 rfl 0 rfl ?_
          refine g_getr X fa_X12_57 rfl rfl dX12_roomsTouched_26 ?_
          refine g_aload_n X dX12_roomsTouched_29 rfl 0 rfl ?_
          refine g_getr X fa_X12_453 rfl rfl dX12_roomsTouched_30 ?_
          refine g_iload_n X dX12_roomsTouched_33 rfl 3 rfl ?_
          refine g_ild X rfl rfl dX12_roomsTouched_34 (fun v5 => ?_)
          refine g_ild X rfl rfl dX12_roomsTouched_35 (fun v6 => ?_)
          refine g_ishl X dX12_roomsTouched_36 ?_
          refine g_ior X dX12_roomsTouched_37 ?_
          refine g_isn X (fun v7 => [(2, .int v7), (0, .ref 5001), (1, .int x1), (3, .int x3)]) dX12_roomsTouched_38 rfl (by decide) (fun _ => rfl) (fun v7 => ?_)
          refine g_iload_n X dX12_roomsTouched_39 rfl 0 rfl ?_
          refine g_aload_n X dX12_roomsTouched_40 rfl 1 rfl ?_
          refine g_getr X fa_X12_459 rfl rfl dX12_roomsTouched_41 ?_
          refine g_aload_n X dX12_roomsTouched_44 rfl 1 rfl ?_
          refine g_getr X fa_X12_443 rfl rfl dX12_roomsTouched_45 ?_
          refine g_iload_n X dX12_roomsTouched_48 rfl 3 rfl ?_
          refine g_ild X rfl rfl dX12_roomsTouched_49 (fun v8 => ?_)
          refine g_ild X rfl rfl dX12_roomsTouched_50 (fun v9 => ?_)
          refine g_iconst (v := 1) X dX12_roomsTouched_51 (by decide) ?_
          refine g_icmp_ne X 76 dX12_roomsTouched_52 rfl (fun h10 => ?_) (fun h10 => ?_)
          · refine g_iconst (v := 1) X dX12_roomsTouched_55 (by decide) ?_
            refine g_aload_n X dX12_roomsTouched_56 rfl 1 rfl ?_
            refine g_getr X fa_X12_57 rfl rfl dX12_roomsTouched_57 ?_
            refine g_aload_n X dX12_roomsTouched_60 rfl 1 rfl ?_
            refine g_getr X fa_X12_462 rfl rfl dX12_roomsTouched_61 ?_
            refine g_aload_n X dX12_roomsTouched_64 rfl 1 rfl ?_
            refine g_getr X fa_X12_443 rfl rfl dX12_roomsTouched_65 ?_
            refine g_iload_n X dX12_roomsTouched_68 rfl 3 rfl ?_
            refine g_ild X rfl rfl dX12_roomsTouched_69 (fun v11 => ?_)
            refine g_ild X rfl rfl dX12_roomsTouched_70 (fun v12 => ?_)
            refine g_ild X rfl rfl dX12_roomsTouched_71 (fun v13 => ?_)
            refine g_ishl X dX12_roomsTouched_72 ?_
            refine g_goto X 77 dX12_roomsTouched_73 rfl ?_
            exact g_sub [1, 2, 3] rfl (hb_77 (b_X12_roomsTouched_4 M nf) ih x1 x3 ((1 : Int32) <<< (v13 &&& 31)) v7)
          · refine g_iconst (v := 0) X dX12_roomsTouched_76 (by decide) ?_
            exact g_sub [1, 2, 3] rfl (hb_77 (b_X12_roomsTouched_4 M nf) ih x1 x3 0 v7)
  refine g_sub (lv' := [(0, .ref 5001), (1, .int a1)]) [0, 1] rfl ?_
  unfold f_X12_roomsTouched
  refine g_iconst (v := 0) X dX12_roomsTouched_0 (by decide) ?_
  refine g_istore_n X [(2, .int 0), (0, .ref 5001), (1, .int a1)] dX12_roomsTouched_1 rfl (by decide) rfl ?_
  refine g_iconst (v := 0) X dX12_roomsTouched_2 (by decide) ?_
  refine g_istore_n X [(3, .int 0), (2, .int 0), (0, .ref 5001), (1, .int a1)] dX12_roomsTouched_3 rfl (by decide) rfl ?_
  exact g_sub [2, 3, 1, 0] rfl (hb_4 q_fu a1 0 0)
set_option maxHeartbeats 4000000 in
set_option maxRecDepth 100000 in
theorem c_X12_reaches (l : Launch) (K : q_KK) (M0 : q_MM) (a1 : Int32) : ∀ res, f_X12_reaches M0 a1 = some res → Mt l yX12_reaches cX12_reaches 5 (none : Option FieldType) 0 0 0 0 false K [.ref 5001, .int a1] (qTM, qLM, qPM, M0) (none) ((qTM, qLM, qPM, res)) := by
  refine Mt.of (fun (_ : q_MM) => none) (fun (res : q_MM) => (qTM, qLM, qPM, res)) (by decide) (Nat.le_of_ble_eq_true rfl) ?_
  intro p e s m args below meth c0 A ad X hN
  have hb_29 : ∀ (k9 : Int32 → Int32 → Int32 → q_MM → Option (q_MM)) (hk9 : ∀ (x1 : Int32) (x2 : Int32) (x3 : Int32) (M : q_MM), GG p l e { frames := 0, cells := 0, slots := 0, locals := 0 } s m args below meth c0 K A (qTM, qLM, qPM, M0) ad false 5 (fun res => MQ below (q_Qc K false ad (qTM, qLM, qPM, M0) ((fun (_ : q_MM) => none) res) ((fun (res : q_MM) => (qTM, qLM, qPM, res)) res) A) args s 0 0 A) (k9 x1 x2 x3 M) 9 [(0, .ref 5001), (1, .int x1), (2, .int x2), (3, .int x3)] [] (qTM, qLM, qPM, M) 0 0) (x1 : Int32) (x2 : Int32) (x3 : Int32) (s0 : Int32) (s1 : Int32) (s2 : Nat) (M : q_MM), GG p l e { frames := 0, cells := 0, slots := 0, locals := 0 } s m args below meth c0 K A (qTM, qLM, qPM, M0) ad false 5 (fun res => MQ below (q_Qc K false ad (qTM, qLM, qPM, M0) ((fun (_ : q_MM) => none) res) ((fun (res : q_MM) => (qTM, qLM, qPM, res)) res) A) args s 0 0 A) (b_X12_reaches_29 k9 x1 x2 x3 s0 s1 s2 M) 29 [(0, .ref 5001), (1, .int x1), (2, .int x2), (3, .int x3)] [.int s0, .int s1, .ref s2] (qTM, qLM, qPM, M) 0 0 := by
    intro k9 hk9 x1 x2 x3 s0 s1 s2 M
    unfold b_X12_reaches_29
    refine g_ck (fun hT1 => ?_)
    refine g_bsv X hT1 rfl dX12_reaches_29 (fun M2 => ?_)
    refine g_iinc (v := 1) X [(3, .int (x3 + 1)), (0, .ref 5001), (1, .int x1), (2, .int x2)] 3 dX12_reaches_30 rfl (by decide) (by decide) rfl ?_
    refine g_goto X 9 dX12_reaches_33 rfl ?_
    exact g_sub [1, 2, 3, 0] rfl (hk9 x1 x2 (x3 + 1) M2)
  have hb_106 : ∀ (k38 : Int32 → Int32 → q_MM → Option (q_MM)) (hk38 : ∀ (x2 : Int32) (x3 : Int32) (M : q_MM), GG p l e { frames := 0, cells := 0, slots := 0, locals := 0 } s m args below meth c0 K A (qTM, qLM, qPM, M0) ad false 5 (fun res => MQ below (q_Qc K false ad (qTM, qLM, qPM, M0) ((fun (_ : q_MM) => none) res) ((fun (res : q_MM) => (qTM, qLM, qPM, res)) res) A) args s 0 0 A) (k38 x2 x3 M) 38 [(0, .ref 5001), (2, .int x2), (3, .int x3)] [] (qTM, qLM, qPM, M) 0 0) (x2 : Int32) (x3 : Int32) (M : q_MM), GG p l e { frames := 0, cells := 0, slots := 0, locals := 0 } s m args below meth c0 K A (qTM, qLM, qPM, M0) ad false 5 (fun res => MQ below (q_Qc K false ad (qTM, qLM, qPM, M0) ((fun (_ : q_MM) => none) res) ((fun (res : q_MM) => (qTM, qLM, qPM, res)) res) A) args s 0 0 A) (b_X12_reaches_106 k38 x2 x3 M) 106 [(0, .ref 5001), (2, .int x2), (3, .int x3)] [] (qTM, qLM, qPM, M) 0 0 := by
    intro k38 hk38 x2 x3 M
    unfold b_X12_reaches_106
    refine g_iinc (v := 1) X [(3, .int (x3 + 1)), (0, .ref 5001), (2, .int x2)] 2 dX12_reaches_106 rfl (by decide) (by decide) rfl ?_
    refine g_goto X 38 dX12_reaches_109 rfl ?_
    exact g_sub [1, 2, 0] rfl (hk38 x2 (x3 + 1) M)
  have hb_100 : ∀ (k46 : Int32 → Int32 → Int32 → q_MM → Option (q_MM)) (hk46 : ∀ (x2 : Int32) (x3 : Int32) (x4 : Int32) (M : q_MM), GG p l e { frames := 0, cells := 0, slots := 0, locals := 0 } s m args below meth c0 K A (qTM, qLM, qPM, M0) ad false 5 (fun res => MQ below (q_Qc K false ad (qTM, qLM, qPM, M0) ((fun (_ : q_MM) => none) res) ((fun (res : q_MM) => (qTM, qLM, qPM, res)) res) A) args s 0 0 A) (k46 x2 x3 x4 M) 46 [(0, .ref 5001), (2, .int x2), (3, .int x3), (4, .int x4)] [] (qTM, qLM, qPM, M) 0 0) (x2 : Int32) (x3 : Int32) (x4 : Int32) (M : q_MM), GG p l e { frames := 0, cells := 0, slots := 0, locals := 0 } s m args below meth c0 K A (qTM, qLM, qPM, M0) ad false 5 (fun res => MQ below (q_Qc K false ad (qTM, qLM, qPM, M0) ((fun (_ : q_MM) => none) res) ((fun (res : q_MM) => (qTM, qLM, qPM, res)) res) A) args s 0 0 A) (b_X12_reaches_100 k46 x2 x3 x4 M) 100 [(0, .ref 5001), (2, .int x2), (3, .int x3), (4, .int x4)] [] (qTM, qLM, qPM, M) 0 0 := by
    intro k46 hk46 x2 x3 x4 M
    unfold b_X12_reaches_100
    refine g_iinc (v := 1) X [(4, .int (x4 + 1)), (0, .ref 5001), (2, .int x2), (3, .int x3)] 3 dX12_reaches_100 rfl (by decide) (by decide) rfl ?_
    refine g_goto X 46 dX12_reaches_103 rfl ?_
    exact g_sub [1, 2, 3, 0] rfl (hk46 x2 x3 (x4 + 1) M)
  have hb_46 : ∀ (k38 : Int32 → Int32 → q_MM → Option (q_MM)) (hk38 : ∀ (x2 : Int32) (x3 : Int32) (M : q_MM), GG p l e { frames := 0, cells := 0, slots := 0, locals := 0 } s m args below meth c0 K A (qTM, qLM, qPM, M0) ad false 5 (fun res => MQ below (q_Qc K false ad (qTM, qLM, qPM, M0) ((fun (_ : q_MM) => none) res) ((fun (res : q_MM) => (qTM, qLM, qPM, res)) res) A) args s 0 0 A) (k38 x2 x3 M) 38 [(0, .ref 5001), (2, .int x2), (3, .int x3)] [] (qTM, qLM, qPM, M) 0 0) (nf : Nat) (x2 : Int32) (x3 : Int32) (x4 : Int32) (M : q_MM), GG p l e { frames := 0, cells := 0, slots := 0, locals := 0 } s m args below meth c0 K A (qTM, qLM, qPM, M0) ad false 5 (fun res => MQ below (q_Qc K false ad (qTM, qLM, qPM, M0) ((fun (_ : q_MM) => none) res) ((fun (res : q_MM) => (qTM, qLM, qPM, res)) res) A) args s 0 0 A) (b_X12_reaches_46 k38 nf x2 x3 x4 M) 46 [(0, .ref 5001), (2, .int x2), (3, .int x3), (4, .int x4)] [] (qTM, qLM, qPM, M) 0 0 := by
    intro k38 hk38 nf
    induction nf with
    | zero => intros; exact g_stop
    | succ nf ih =>
      intro x2 x3 x4 M
      rw [b_X12_reaches_46]
      refine g_iload X dX12_reaches_46 3 rfl ?_
      refine g_aload_n X dX12_reaches_48 rfl 0 rfl ?_
      refine g_geti X fa_X12_446 rfl dX12_reaches_49 ?_
      refine g_icmp_ge X 106 dX12_reaches_52 rfl (fun h3 => ?_) (fun h3 => ?_)
      · exact g_sub [0, 1, 2] rfl (hb_106 k38 hk38 x2 x3 M)
      · refine g_aload_n X dX12_reaches_55 rfl 0 rfl ?_
        refine g_getr X fa_X12_472 rfl rfl dX12_reaches_56 ?_
        refine g_iload_n X dX12_reaches_59 rfl 2 rfl ?_
        refine g_bld X rfl rfl dX12_reaches_60 (fun v4 => ?_)
        refine g_if_eq X 106 dX12_reaches_61 rfl (fun h5 => ?_) (fun h5 => ?_)
        · exact g_sub [0, 1, 2] rfl (hb_106 k38 hk38 x2 x3 M)
        · refine g_iload_n X dX12_reaches_64 rfl 2 rfl ?_
          refine g_iload X dX12_reaches_65 3 rfl ?_
          refine g_ishr X dX12_reaches_67 ?_
          refine g_iconst (v := 1) X dX12_reaches_68 (by decide) ?_
          refine g_iand X dX12_reaches_69 ?_
          refine g_if_ne X 100 dX12_reaches_70 rfl (fun h6 => ?_) (fun h6 => ?_)
          · refine g_aload_n X dX12_reaches_73 rfl 0 rfl ?_
            refine g_getr X fa_X12_475 rfl rfl dX12_reaches_74 ?_
            refine g_iload_n X dX12_reaches_77 rfl 2 rfl ?_
            refine g_ild X rfl rfl dX12_reaches_78 (fun v7 => ?_)
            refine g_iload X dX12_reaches_79 3 rfl ?_
            refine g_ishr X dX12_reaches_81 ?_
            refine g_iconst (v := 1) X dX12_reaches_82 (by decide) ?_
            refine g_iand X dX12_reaches_83 ?_
            refine g_iconst (v := 1) X dX12_reaches_84 (by decide) ?_
            refine g_icmp_ne X 100 dX12_reaches_85 rfl (fun h8 => ?_) (fun h8 => ?_)
            · refine g_aload_n X dX12_reaches_88 rfl 0 rfl ?_
              refine g_getr X fa_X12_472 rfl rfl dX12_reaches_89 ?_
              refine g_iload_n X dX12_reaches_92 rfl 2 rfl ?_
              refine g_iconst (v := 1) X dX12_reaches_93 (by decide) ?_
              refine g_iload X dX12_reaches_94 3 rfl ?_
              refine g_ishl X dX12_reaches_96 ?_
              refine g_ior X dX12_reaches_97 ?_
              refine g_iconst (v := 1) X dX12_reaches_98 (by decide) ?_
              refine g_bsv X rfl rfl dX12_reaches_99 (fun M9 => ?_)
              exact g_sub [0, 1, 2, 3] rfl (hb_100 (b_X12_reaches_46 k38 nf) ih x2 x3 x4 M9)
            · exact g_sub [0, 1, 2, 3] rfl (hb_100 (b_X12_reaches_46 k38 nf) ih x2 x3 x4 M)
          · exact g_sub [0, 1, 2, 3] rfl (hb_100 (b_X12_reaches_46 k38 nf) ih x2 x3 x4 M)
  have hb_38 : ∀ (nf : Nat) (x2 : Int32) (x3 : Int32) (M : q_MM), GG p l e { frames := 0, cells := 0, slots := 0, locals := 0 } s m args below meth c0 K A (qTM, qLM, qPM, M0) ad false 5 (fun res => MQ below (q_Qc K false ad (qTM, qLM, qPM, M0) ((fun (_ : q_MM) => none) res) ((fun (res : q_MM) => (qTM, qLM, qPM, res)) res) A) args s 0 0 A) (b_X12_reaches_38 nf x2 x3 M) 38 [(0, .ref 5001), (2, .int x2), (3, .int x3)] [] (qTM, qLM, qPM, M) 0 0 := by
    intro  nf
    induction nf with
    | zero => intros; exact g_stop
    | succ nf ih =>
      intro x2 x3 M
      rw [b_X12_reaches_38]
      refine g_iload_n X dX12_reaches_38 rfl 2 rfl ?_
      refine g_iload_n X dX12_reaches_39 rfl 1 rfl ?_
      refine g_icmp_ge X 112 dX12_reaches_40 rfl (fun h10 => ?_) (fun h10 => ?_)
      · exact g_vret X rfl rfl rfl dX12_reaches_112
      · refine g_iconst (v := 0) X dX12_reaches_43 (by decide) ?_
        refine g_istore X [(4, .int 0), (0, .ref 5001), (2, .int x2), (3, .int x3)] dX12_reaches_44 (by decide) rfl ?_
        exact g_sub [1, 2, 3, 0] rfl (hb_46 (b_X12_reaches_38 nf) ih q_fu x2 x3 0 M)
  have hb_9 : ∀ (nf : Nat) (x1 : Int32) (x2 : Int32) (x3 : Int32) (M : q_MM), GG p l e { frames := 0, cells := 0, slots := 0, locals := 0 } s m args below meth c0 K A (qTM, qLM, qPM, M0) ad false 5 (fun res => MQ below (q_Qc K false ad (qTM, qLM, qPM, M0) ((fun (_ : q_MM) => none) res) ((fun (res : q_MM) => (qTM, qLM, qPM, res)) res) A) args s 0 0 A) (b_X12_reaches_9 nf x1 x2 x3 M) 9 [(0, .ref 5001), (1, .int x1), (2, .int x2), (3, .int x3)] [] (qTM, qLM, qPM, M) 0 0 := by
    intro  nf
    induction nf with
    | zero => intros; exact g_stop
    | succ nf ih =>
      intro x1 x2 x3 M
      rw [b_X12_reaches_9]
      refine g_iload_n X dX12_reaches_9 rfl 3 rfl ?_
      refine g_iload_n X dX12_reaches_10 rfl 2 rfl ?_
      refine g_icmp_ge X 36 dX12_reaches_11 rfl (fun h11 => ?_) (fun h11 => ?_)
      · refine g_iload_n X dX12_reaches_36 rfl 1 rfl ?_
        refine g_istore_n X [(3, .int x1), (0, .ref 5001), (1, .int x1), (2, .int x2)] dX12_reaches_37 rfl (by decide) rfl ?_
        exact g_sub [1, 3, 0] rfl (hb_38 q_fu x2 x1 M)
      · refine g_aload_n X dX12_reaches_14 rfl 0 rfl ?_
        refine g_getr X fa_X12_472 rfl rfl dX12_reaches_15 ?_
        refine g_iload_n X dX12_reaches_18 rfl 3 rfl ?_
        refine g_iload_n X dX12_reaches_19 rfl 3 rfl ?_
        refine g_iload_n X dX12_reaches_20 rfl 1 rfl ?_
        refine g_icmp_ne X 28 dX12_reaches_21 rfl (fun h12 => ?_) (fun h12 => ?_)
        · refine g_iconst (v := 1) X dX12_reaches_24 (by decide) ?_
          refine g_goto X 29 dX12_reaches_25 rfl ?_
          exact g_sub [0, 1, 2, 3] rfl (hb_29 (b_X12_reaches_9 nf) ih x1 x2 x3 1 x3 5085 M)
        · refine g_iconst (v := 0) X dX12_reaches_28 (by decide) ?_
          exact g_sub [0, 1, 2, 3] rfl (hb_29 (b_X12_reaches_9 nf) ih x1 x2 x3 0 x3 5085 M)
  refine g_sub (lv' := [(0, .ref 5001), (1, .int a1)]) [0, 1] rfl ?_
  unfold f_X12_reaches
  refine g_iconst (v := 1) X dX12_reaches_0 (by decide) ?_
  refine g_aload_n X dX12_reaches_1 rfl 0 rfl ?_
  refine g_geti X fa_X12_446 rfl dX12_reaches_2 ?_
  refine g_ishl X dX12_reaches_5 ?_
  refine g_isn X (fun v13 => [(2, .int v13), (0, .ref 5001), (1, .int a1)]) dX12_reaches_6 rfl (by decide) (fun _ => rfl) (fun v13 => ?_)
  refine g_iconst (v := 0) X dX12_reaches_7 (by decide) ?_
  refine g_istore_n X [(3, .int 0), (2, .int v13), (0, .ref 5001), (1, .int a1)] dX12_reaches_8 rfl (by decide) rfl ?_
  exact g_sub [2, 3, 1, 0] rfl (hb_9 q_fu a1 v13 0 M0)
set_option maxHeartbeats 4000000 in
set_option maxRecDepth 100000 in
theorem c_X12_isNight (l : Launch) (K : q_KK) (M : q_MM) (a1 : Int32) (a2 : Int32) (a3 : Int32) (a4 : Int32) : ∀ res, f_X12_isNight M a1 a2 a3 a4 = some res → Mt l yX12_isNight cX12_isNight 5 (some FieldType.boolean) 2 43 0 0 false K [.ref 5001, .int a1, .int a2, .int a3, .int a4] (qTM, qLM, qPM, M) (some (.int res)) ((qTM, qLM, qPM, M)) := by
  refine Mt.of (fun (res : Int32) => some (.int res)) (fun (_ : Int32) => (qTM, qLM, qPM, M)) (by decide) (Nat.le_of_ble_eq_true rfl) ?_
  intro p e s m args below meth c0 A ad X hN
  refine g_sub (lv' := [(0, .ref 5001), (1, .int a1), (2, .int a2), (3, .int a3), (4, .int a4)]) [0, 1, 2, 3, 4] rfl ?_
  unfold f_X12_isNight
  refine g_iload_n X dX12_isNight_0 rfl 2 rfl ?_
  refine g_if_eq X 43 dX12_isNight_1 rfl (fun h1 => ?_) (fun h1 => ?_)
  · refine g_iconst (v := 0) X dX12_isNight_43 (by decide) ?_
    exact g_zret X rfl rfl rfl dX12_isNight_44
  · refine g_iload_n X dX12_isNight_4 rfl 1 rfl ?_
    refine g_iload_n X dX12_isNight_5 rfl 2 rfl ?_
    refine g_iand X dX12_isNight_6 ?_
    refine g_if_ne X 43 dX12_isNight_7 rfl (fun h2 => ?_) (fun h2 => ?_)
    · refine g_aload_n X dX12_isNight_10 rfl 0 rfl ?_
      refine g_getr X fa_X12_472 rfl rfl dX12_isNight_11 ?_
      refine g_iload_n X dX12_isNight_14 rfl 1 rfl ?_
      refine g_iload_n X dX12_isNight_15 rfl 2 rfl ?_
      refine g_ior X dX12_isNight_16 ?_
      refine g_bld X rfl rfl dX12_isNight_17 (fun v3 => ?_)
      refine g_if_eq X 43 dX12_isNight_18 rfl (fun h4 => ?_) (fun h4 => ?_)
      · refine g_iconst (v := 0) X dX12_isNight_43 (by decide) ?_
        exact g_zret X rfl rfl rfl dX12_isNight_44
      · refine g_iload_n X dX12_isNight_21 rfl 2 rfl ?_
        refine g_bSi (As := [.int a2]) (rest := []) X (c_J6_bitCount_0f7a4 l K qTM qLM qPM M a2) lk_X12_386 rfl rfl (Nat.le_of_ble_eq_true rfl) ⟨Nat.le_of_ble_eq_true rfl, Nat.le_of_ble_eq_true rfl⟩ ⟨Nat.zero_le _, Nat.zero_le _⟩ dX12_isNight_22 (fun r5 => ?_)
        refine g_iload_n X dX12_isNight_25 rfl 3 rfl ?_
        refine g_icmp_gt X 43 dX12_isNight_26 rfl (fun h6 => ?_) (fun h6 => ?_)
        · refine g_iconst (v := 0) X dX12_isNight_43 (by decide) ?_
          exact g_zret X rfl rfl rfl dX12_isNight_44
        · refine g_aload_n X dX12_isNight_29 rfl 0 rfl ?_
          refine g_iload_n X dX12_isNight_30 rfl 2 rfl ?_
          refine g_bVi (As := [.int a2]) (rest := []) X (c_X12_roomsTouched l K M a2) lk_X12_478 rfl rfl rfl (Nat.le_of_ble_eq_true rfl) ⟨Nat.le_of_ble_eq_true rfl, Nat.le_of_ble_eq_true rfl⟩ ⟨Nat.zero_le _, Nat.zero_le _⟩ dX12_isNight_31 (fun r7 => ?_)
          refine g_iload X dX12_isNight_34 4 rfl ?_
          refine g_icmp_gt X 43 dX12_isNight_36 rfl (fun h8 => ?_) (fun h8 => ?_)
          · refine g_iconst (v := 0) X dX12_isNight_43 (by decide) ?_
            exact g_zret X rfl rfl rfl dX12_isNight_44
          · refine g_iconst (v := 1) X dX12_isNight_39 (by decide) ?_
            refine g_goto X 44 dX12_isNight_40 rfl ?_
            exact g_zret X rfl rfl rfl dX12_isNight_44
    · refine g_iconst (v := 0) X dX12_isNight_43 (by decide) ?_
      exact g_zret X rfl rfl rfl dX12_isNight_44
set_option maxHeartbeats 4000000 in
set_option maxRecDepth 100000 in
theorem c_X12_nights (l : Launch) (K : q_KK) (M0 : q_MM) (a1 : Int32) (a2 : Int32) : ∀ res, f_X12_nights M0 a1 a2 = some res → Mt l yX12_nights cX12_nights 6 (some FieldType.int) 5 125 0 0 false K [.ref 5001, .int a1, .int a2] (qTM, qLM, qPM, M0) (some (.int res.1)) ((qTM, qLM, qPM, res.2)) := by
  refine Mt.of (fun (res : Int32 × q_MM) => some (.int res.1)) (fun (res : Int32 × q_MM) => (qTM, qLM, qPM, res.2)) (by decide) (Nat.le_of_ble_eq_true rfl) ?_
  intro p e s m args below meth c0 A ad X hN
  have hb_252 : ∀ (k204 : Int32 → Int32 → Int32 → Int32 → Int32 → q_MM → Option (Int32 × q_MM)) (hk204 : ∀ (x1 : Int32) (x2 : Int32) (x3 : Int32) (x4 : Int32) (x5 : Int32) (M : q_MM), GG p l e { frames := 5, cells := 0, slots := 0, locals := 125 } s m args below meth c0 K A (qTM, qLM, qPM, M0) ad false 6 (fun res => MQ below (q_Qc K false ad (qTM, qLM, qPM, M0) ((fun (res : Int32 × q_MM) => some (.int res.1)) res) ((fun (res : Int32 × q_MM) => (qTM, qLM, qPM, res.2)) res) A) args s 0 0 A) (k204 x1 x2 x3 x4 x5 M) 204 [(0, .ref 5001), (1, .int x1), (2, .int x2), (3, .int x3), (4, .int x4), (5, .int x5)] [] (qTM, qLM, qPM, M) 0 0) (x1 : Int32) (x2 : Int32) (x3 : Int32) (x4 : Int32) (x5 : Int32) (M : q_MM), GG p l e { frames := 5, cells := 0, slots := 0, locals := 125 } s m args below meth c0 K A (qTM, qLM, qPM, M0) ad false 6 (fun res => MQ below (q_Qc K false ad (qTM, qLM, qPM, M0) ((fun (res : Int32 × q_MM) => some (.int res.1)) res) ((fun (res : Int32 × q_MM) => (qTM, qLM, qPM, res.2)) res) A) args s 0 0 A) (b_X12_nights_252 k204 x1 x2 x3 x4 x5 M) 252 [(0, .ref 5001), (1, .int x1), (2, .int x2), (3, .int x3), (4, .int x4), (5, .int x5)] [] (qTM, qLM, qPM, M) 0 0 := by
    intro k204 hk204 x1 x2 x3 x4 x5 M
    unfold b_X12_nights_252
    refine g_iinc (v := 1) X [(5, .int (x5 + 1)), (0, .ref 5001), (1, .int x1), (2, .int x2), (3, .int x3), (4, .int x4)] 5 dX12_nights_252 rfl (by decide) (by decide) rfl ?_
    refine g_goto X 204 dX12_nights_255 rfl ?_
    exact g_sub [1, 2, 3, 4, 5, 0] rfl (hk204 x1 x2 x3 x4 (x5 + 1) M)
  have hb_204 : ∀ (k171 : Int32 → Int32 → Int32 → Int32 → q_MM → Option (Int32 × q_MM)) (hk171 : ∀ (x1 : Int32) (x2 : Int32) (x3 : Int32) (x4 : Int32) (M : q_MM), GG p l e { frames := 5, cells := 0, slots := 0, locals := 125 } s m args below meth c0 K A (qTM, qLM, qPM, M0) ad false 6 (fun res => MQ below (q_Qc K false ad (qTM, qLM, qPM, M0) ((fun (res : Int32 × q_MM) => some (.int res.1)) res) ((fun (res : Int32 × q_MM) => (qTM, qLM, qPM, res.2)) res) A) args s 0 0 A) (k171 x1 x2 x3 x4 M) 171 [(0, .ref 5001), (1, .int x1), (2, .int x2), (3, .int x3), (4, .int x4)] [] (qTM, qLM, qPM, M) 0 0) (nf : Nat) (x1 : Int32) (x2 : Int32) (x3 : Int32) (x4 : Int32) (x5 : Int32) (M : q_MM), GG p l e { frames := 5, cells := 0, slots := 0, locals := 125 } s m args below meth c0 K A (qTM, qLM, qPM, M0) ad false 6 (fun res => MQ below (q_Qc K false ad (qTM, qLM, qPM, M0) ((fun (res : Int32 × q_MM) => some (.int res.1)) res) ((fun (res : Int32 × q_MM) => (qTM, qLM, qPM, res.2)) res) A) args s 0 0 A) (b_X12_nights_204 k171 nf x1 x2 x3 x4 x5 M) 204 [(0, .ref 5001), (1, .int x1), (2, .int x2), (3, .int x3), (4, .int x4), (5, .int x5)] [] (qTM, qLM, qPM, M) 0 0 := by
    intro k171 hk171 nf
    induction nf with
    | zero => intros; exact g_stop
    | succ nf ih =>
      intro x1 x2 x3 x4 x5 M
      rw [b_X12_nights_204]
      refine g_iload X dX12_nights_204 5 rfl ?_
      refine g_iload_n X dX12_nights_206 rfl 3 rfl ?_
      refine g_icmp_gt X 258 dX12_nights_207 rfl (fun h1 => ?_) (fun h1 => ?_)
      · refine g_iinc (v := (-1)) X [(4, .int (x4 + (-1))), (0, .ref 5001), (1, .int x1), (2, .int x2), (3, .int x3), (5, .int x5)] 4 dX12_nights_258 rfl (by decide) (by decide) rfl ?_
        refine g_goto X 171 dX12_nights_261 rfl ?_
        exact g_sub [1, 2, 3, 4, 0] rfl (hk171 x1 x2 x3 (x4 + (-1)) M)
      · refine g_aload_n X dX12_nights_210 rfl 0 rfl ?_
        refine g_iload X dX12_nights_211 4 rfl ?_
        refine g_iload X dX12_nights_213 5 rfl ?_
        refine g_iload_n X dX12_nights_215 rfl 1 rfl ?_
        refine g_iload_n X dX12_nights_216 rfl 2 rfl ?_
        refine g_bVi (As := [.int x4, .int x5, .int x1, .int x2]) (rest := []) X (c_X12_isNight l K M x4 x5 x1 x2) lk_X12_495 rfl rfl rfl (Nat.le_of_ble_eq_true rfl) ⟨Nat.le_of_ble_eq_true rfl, Nat.le_of_ble_eq_true rfl⟩ ⟨Nat.zero_le _, Nat.zero_le _⟩ dX12_nights_217 (fun r2 => ?_)
        refine g_if_eq X 252 dX12_nights_220 rfl (fun h3 => ?_) (fun h3 => ?_)
        · exact g_sub [0, 1, 2, 3, 4, 5] rfl (hb_252 (b_X12_nights_204 k171 nf) ih x1 x2 x3 x4 x5 M)
        · refine g_aload_n X dX12_nights_223 rfl 0 rfl ?_
          refine g_getr X fa_X12_489 rfl rfl dX12_nights_224 ?_
          refine g_iload X dX12_nights_227 4 rfl ?_
          refine g_aload_n X dX12_nights_229 rfl 0 rfl ?_
          refine g_getr X fa_X12_489 rfl rfl dX12_nights_230 ?_
          refine g_iload X dX12_nights_233 4 rfl ?_
          refine g_ild X rfl rfl dX12_nights_235 (fun v4 => ?_)
          refine g_aload_n X dX12_nights_236 rfl 0 rfl ?_
          refine g_getr X fa_X12_489 rfl rfl dX12_nights_237 ?_
          refine g_iload X dX12_nights_240 4 rfl ?_
          refine g_iload X dX12_nights_242 5 rfl ?_
          refine g_ior X dX12_nights_244 ?_
          refine g_ild X rfl rfl dX12_nights_245 (fun v5 => ?_)
          refine g_iconst (v := 1) X dX12_nights_246 (by decide) ?_
          refine g_iadd X dX12_nights_247 ?_
          refine g_mmin X lk_X12_95 (Nat.le_of_ble_eq_true rfl) ⟨Nat.le_of_ble_eq_true rfl, Nat.le_of_ble_eq_true rfl⟩ ⟨Nat.zero_le _, Nat.zero_le _⟩ dX12_nights_248 ?_
          refine g_isv X rfl rfl dX12_nights_251 (fun M6 => ?_)
          exact g_sub [0, 1, 2, 3, 4, 5] rfl (hb_252 (b_X12_nights_204 k171 nf) ih x1 x2 x3 x4 x5 M6)
  have hb_194 : ∀ (k171 : Int32 → Int32 → Int32 → Int32 → q_MM → Option (Int32 × q_MM)) (hk171 : ∀ (x1 : Int32) (x2 : Int32) (x3 : Int32) (x4 : Int32) (M : q_MM), GG p l e { frames := 5, cells := 0, slots := 0, locals := 125 } s m args below meth c0 K A (qTM, qLM, qPM, M0) ad false 6 (fun res => MQ below (q_Qc K false ad (qTM, qLM, qPM, M0) ((fun (res : Int32 × q_MM) => some (.int res.1)) res) ((fun (res : Int32 × q_MM) => (qTM, qLM, qPM, res.2)) res) A) args s 0 0 A) (k171 x1 x2 x3 x4 M) 171 [(0, .ref 5001), (1, .int x1), (2, .int x2), (3, .int x3), (4, .int x4)] [] (qTM, qLM, qPM, M) 0 0) (x1 : Int32) (x2 : Int32) (x3 : Int32) (x4 : Int32) (s0 : Int32) (s1 : Int32) (s2 : Nat) (M : q_MM), GG p l e { frames := 5, cells := 0, slots := 0, locals := 125 } s m args below meth c0 K A (qTM, qLM, qPM, M0) ad false 6 (fun res => MQ below (q_Qc K false ad (qTM, qLM, qPM, M0) ((fun (res : Int32 × q_MM) => some (.int res.1)) res) ((fun (res : Int32 × q_MM) => (qTM, qLM, qPM, res.2)) res) A) args s 0 0 A) (b_X12_nights_194 k171 x1 x2 x3 x4 s0 s1 s2 M) 194 [(0, .ref 5001), (1, .int x1), (2, .int x2), (3, .int x3), (4, .int x4)] [.int s0, .int s1, .ref s2] (qTM, qLM, qPM, M) 0 0 := by
    intro k171 hk171 x1 x2 x3 x4 s0 s1 s2 M
    unfold b_X12_nights_194
    refine g_ck (fun hT7 => ?_)
    refine g_isv X hT7 rfl dX12_nights_194 (fun M8 => ?_)
    refine g_aload_n X dX12_nights_195 rfl 0 rfl ?_
    refine g_iload X dX12_nights_196 4 rfl ?_
    refine g_bVv (As := [.int x4]) (rest := []) X (c_X12_reaches l K M8 x4) lk_X12_492 rfl rfl rfl (Nat.le_of_ble_eq_true rfl) ⟨Nat.le_of_ble_eq_true rfl, Nat.le_of_ble_eq_true rfl⟩ ⟨Nat.zero_le _, Nat.zero_le _⟩ dX12_nights_198 (fun r9 => ?_)
    refine g_iconst (v := 1) X dX12_nights_201 (by decide) ?_
    refine g_istore X [(5, .int 1), (0, .ref 5001), (1, .int x1), (2, .int x2), (3, .int x3), (4, .int x4)] dX12_nights_202 (by decide) rfl ?_
    exact g_sub [1, 2, 3, 4, 5, 0] rfl (hb_204 k171 hk171 q_fu x1 x2 x3 x4 1 r9)
  have hb_336 : ∀ (k301 : Int32 → Int32 → Int32 → Int32 → Int32 → q_MM → Option (Int32 × q_MM)) (hk301 : ∀ (x1 : Int32) (x2 : Int32) (x3 : Int32) (x4 : Int32) (x5 : Int32) (M : q_MM), GG p l e { frames := 5, cells := 0, slots := 0, locals := 125 } s m args below meth c0 K A (qTM, qLM, qPM, M0) ad false 6 (fun res => MQ below (q_Qc K false ad (qTM, qLM, qPM, M0) ((fun (res : Int32 × q_MM) => some (.int res.1)) res) ((fun (res : Int32 × q_MM) => (qTM, qLM, qPM, res.2)) res) A) args s 0 0 A) (k301 x1 x2 x3 x4 x5 M) 301 [(0, .ref 5001), (1, .int x1), (2, .int x2), (3, .int x3), (4, .int x4), (5, .int x5)] [] (qTM, qLM, qPM, M) 0 0) (x1 : Int32) (x2 : Int32) (x3 : Int32) (x4 : Int32) (x5 : Int32) (M : q_MM), GG p l e { frames := 5, cells := 0, slots := 0, locals := 125 } s m args below meth c0 K A (qTM, qLM, qPM, M0) ad false 6 (fun res => MQ below (q_Qc K false ad (qTM, qLM, qPM, M0) ((fun (res : Int32 × q_MM) => some (.int res.1)) res) ((fun (res : Int32 × q_MM) => (qTM, qLM, qPM, res.2)) res) A) args s 0 0 A) (b_X12_nights_336 k301 x1 x2 x3 x4 x5 M) 336 [(0, .ref 5001), (1, .int x1), (2, .int x2), (3, .int x3), (4, .int x4), (5, .int x5)] [] (qTM, qLM, qPM, M) 0 0 := by
    intro k301 hk301 x1 x2 x3 x4 x5 M
    unfold b_X12_nights_336
    refine g_iinc (v := 1) X [(5, .int (x5 + 1)), (0, .ref 5001), (1, .int x1), (2, .int x2), (3, .int x3), (4, .int x4)] 5 dX12_nights_336 rfl (by decide) (by decide) rfl ?_
    refine g_goto X 301 dX12_nights_339 rfl ?_
    exact g_sub [1, 2, 3, 4, 5, 0] rfl (hk301 x1 x2 x3 x4 (x5 + 1) M)
  have hb_301 : ∀ (k286 : Int32 → Int32 → Int32 → Int32 → q_MM → Option (Int32 × q_MM)) (hk286 : ∀ (x1 : Int32) (x2 : Int32) (x3 : Int32) (x4 : Int32) (M : q_MM), GG p l e { frames := 5, cells := 0, slots := 0, locals := 125 } s m args below meth c0 K A (qTM, qLM, qPM, M0) ad false 6 (fun res => MQ below (q_Qc K false ad (qTM, qLM, qPM, M0) ((fun (res : Int32 × q_MM) => some (.int res.1)) res) ((fun (res : Int32 × q_MM) => (qTM, qLM, qPM, res.2)) res) A) args s 0 0 A) (k286 x1 x2 x3 x4 M) 286 [(0, .ref 5001), (1, .int x1), (2, .int x2), (3, .int x3), (4, .int x4)] [] (qTM, qLM, qPM, M) 0 0) (nf : Nat) (x1 : Int32) (x2 : Int32) (x3 : Int32) (x4 : Int32) (x5 : Int32) (M : q_MM), GG p l e { frames := 5, cells := 0, slots := 0, locals := 125 } s m args below meth c0 K A (qTM, qLM, qPM, M0) ad false 6 (fun res => MQ below (q_Qc K false ad (qTM, qLM, qPM, M0) ((fun (res : Int32 × q_MM) => some (.int res.1)) res) ((fun (res : Int32 × q_MM) => (qTM, qLM, qPM, res.2)) res) A) args s 0 0 A) (b_X12_nights_301 k286 nf x1 x2 x3 x4 x5 M) 301 [(0, .ref 5001), (1, .int x1), (2, .int x2), (3, .int x3), (4, .int x4), (5, .int x5)] [] (qTM, qLM, qPM, M) 0 0 := by
    intro k286 hk286 nf
    induction nf with
    | zero => intros; exact g_stop
    | succ nf ih =>
      intro x1 x2 x3 x4 x5 M
      rw [b_X12_nights_301]
      refine g_aload_n X dX12_nights_301 rfl 0 rfl ?_
      refine g_iload X dX12_nights_302 4 rfl ?_
      refine g_iload X dX12_nights_304 5 rfl ?_
      refine g_iload_n X dX12_nights_306 rfl 1 rfl ?_
      refine g_iload_n X dX12_nights_307 rfl 2 rfl ?_
      refine g_bVi (As := [.int x4, .int x5, .int x1, .int x2]) (rest := []) X (c_X12_isNight l K M x4 x5 x1 x2) lk_X12_495 rfl rfl rfl (Nat.le_of_ble_eq_true rfl) ⟨Nat.le_of_ble_eq_true rfl, Nat.le_of_ble_eq_true rfl⟩ ⟨Nat.zero_le _, Nat.zero_le _⟩ dX12_nights_308 (fun r10 => ?_)
      refine g_if_eq X 336 dX12_nights_311 rfl (fun h11 => ?_) (fun h11 => ?_)
      · exact g_sub [0, 1, 2, 3, 4, 5] rfl (hb_336 (b_X12_nights_301 k286 nf) ih x1 x2 x3 x4 x5 M)
      · refine g_aload_n X dX12_nights_314 rfl 0 rfl ?_
        refine g_getr X fa_X12_489 rfl rfl dX12_nights_315 ?_
        refine g_iload X dX12_nights_318 4 rfl ?_
        refine g_iload X dX12_nights_320 5 rfl ?_
        refine g_ior X dX12_nights_322 ?_
        refine g_ild X rfl rfl dX12_nights_323 (fun v12 => ?_)
        refine g_aload_n X dX12_nights_324 rfl 0 rfl ?_
        refine g_getr X fa_X12_489 rfl rfl dX12_nights_325 ?_
        refine g_iload X dX12_nights_328 4 rfl ?_
        refine g_ild X rfl rfl dX12_nights_330 (fun v13 => ?_)
        refine g_iconst (v := 1) X dX12_nights_331 (by decide) ?_
        refine g_isub X dX12_nights_332 ?_
        refine g_icmp_eq X 342 dX12_nights_333 rfl (fun h14 => ?_) (fun h14 => ?_)
        · refine g_aload_n X dX12_nights_342 rfl 0 rfl ?_
          refine g_iload X dX12_nights_343 5 rfl ?_
          refine g_bVv (As := [.int x5]) (rest := []) X (c_X12_enters l K M x5) lk_X12_345 rfl rfl rfl (Nat.le_of_ble_eq_true rfl) ⟨Nat.le_of_ble_eq_true rfl, Nat.le_of_ble_eq_true rfl⟩ ⟨Nat.zero_le _, Nat.zero_le _⟩ dX12_nights_345 (fun r15 => ?_)
          refine g_iload X dX12_nights_348 4 rfl ?_
          refine g_iload X dX12_nights_350 5 rfl ?_
          refine g_ior X dX12_nights_352 ?_
          refine g_is X (fun v16 => [(4, .int v16), (0, .ref 5001), (1, .int x1), (2, .int x2), (3, .int x3), (5, .int x5)]) dX12_nights_353 (by decide) (fun _ => rfl) (fun v16 => ?_)
          refine g_goto X 286 dX12_nights_355 rfl ?_
          exact g_sub [1, 2, 3, 4, 0] rfl (hk286 x1 x2 x3 v16 r15)
        · exact g_sub [0, 1, 2, 3, 4, 5] rfl (hb_336 (b_X12_nights_301 k286 nf) ih x1 x2 x3 x4 x5 M)
  have hb_286 : ∀ (nf : Nat) (x1 : Int32) (x2 : Int32) (x3 : Int32) (x4 : Int32) (M : q_MM), GG p l e { frames := 5, cells := 0, slots := 0, locals := 125 } s m args below meth c0 K A (qTM, qLM, qPM, M0) ad false 6 (fun res => MQ below (q_Qc K false ad (qTM, qLM, qPM, M0) ((fun (res : Int32 × q_MM) => some (.int res.1)) res) ((fun (res : Int32 × q_MM) => (qTM, qLM, qPM, res.2)) res) A) args s 0 0 A) (b_X12_nights_286 nf x1 x2 x3 x4 M) 286 [(0, .ref 5001), (1, .int x1), (2, .int x2), (3, .int x3), (4, .int x4)] [] (qTM, qLM, qPM, M) 0 0 := by
    intro  nf
    induction nf with
    | zero => intros; exact g_stop
    | succ nf ih =>
      intro x1 x2 x3 x4 M
      rw [b_X12_nights_286]
      refine g_iload X dX12_nights_286 4 rfl ?_
      refine g_iload_n X dX12_nights_288 rfl 3 rfl ?_
      refine g_icmp_eq X 358 dX12_nights_289 rfl (fun h17 => ?_) (fun h17 => ?_)
      · refine g_aload_n X dX12_nights_358 rfl 0 rfl ?_
        refine g_getr X fa_X12_489 rfl rfl dX12_nights_359 ?_
        refine g_iconst (v := 0) X dX12_nights_362 (by decide) ?_
        refine g_ild X rfl rfl dX12_nights_363 (fun v18 => ?_)
        exact g_iret X rfl rfl rfl dX12_nights_364
      · refine g_aload_n X dX12_nights_292 rfl 0 rfl ?_
        refine g_iload X dX12_nights_293 4 rfl ?_
        refine g_bVv (As := [.int x4]) (rest := []) X (c_X12_reaches l K M x4) lk_X12_492 rfl rfl rfl (Nat.le_of_ble_eq_true rfl) ⟨Nat.le_of_ble_eq_true rfl, Nat.le_of_ble_eq_true rfl⟩ ⟨Nat.zero_le _, Nat.zero_le _⟩ dX12_nights_295 (fun r19 => ?_)
        refine g_iconst (v := 1) X dX12_nights_298 (by decide) ?_
        refine g_istore X [(5, .int 1), (0, .ref 5001), (1, .int x1), (2, .int x2), (3, .int x3), (4, .int x4)] dX12_nights_299 (by decide) rfl ?_
        exact g_sub [1, 2, 3, 4, 5, 0] rfl (hb_301 (b_X12_nights_286 nf) ih q_fu x1 x2 x3 x4 1 r19)
  have hb_171 : ∀ (nf : Nat) (x1 : Int32) (x2 : Int32) (x3 : Int32) (x4 : Int32) (M : q_MM), GG p l e { frames := 5, cells := 0, slots := 0, locals := 125 } s m args below meth c0 K A (qTM, qLM, qPM, M0) ad false 6 (fun res => MQ below (q_Qc K false ad (qTM, qLM, qPM, M0) ((fun (res : Int32 × q_MM) => some (.int res.1)) res) ((fun (res : Int32 × q_MM) => (qTM, qLM, qPM, res.2)) res) A) args s 0 0 A) (b_X12_nights_171 nf x1 x2 x3 x4 M) 171 [(0, .ref 5001), (1, .int x1), (2, .int x2), (3, .int x3), (4, .int x4)] [] (qTM, qLM, qPM, M) 0 0 := by
    intro  nf
    induction nf with
    | zero => intros; exact g_stop
    | succ nf ih =>
      intro x1 x2 x3 x4 M
      rw [b_X12_nights_171]
      refine g_iload X dX12_nights_171 4 rfl ?_
      refine g_if_lt X 264 dX12_nights_173 rfl (fun h20 => ?_) (fun h20 => ?_)
      · refine g_aload_n X dX12_nights_264 rfl 0 rfl ?_
        refine g_getr X fa_X12_489 rfl rfl dX12_nights_265 ?_
        refine g_iconst (v := 0) X dX12_nights_268 (by decide) ?_
        refine g_ild X rfl rfl dX12_nights_269 (fun v21 => ?_)
        refine g_bipush (v := 99) X dX12_nights_270 (by decide) ?_
        refine g_icmp_lt X 278 dX12_nights_272 rfl (fun h22 => ?_) (fun h22 => ?_)
        · refine g_aload_n X dX12_nights_278 rfl 0 rfl ?_
          refine g_iconst (v := 0) X dX12_nights_279 (by decide) ?_
          refine g_pfi X fa_X12_11 rfl (by decide +kernel) rfl dX12_nights_280 (fun M23 => ?_)
          refine g_iconst (v := 0) X dX12_nights_283 (by decide) ?_
          refine g_istore X [(4, .int 0), (0, .ref 5001), (1, .int x1), (2, .int x2), (3, .int x3)] dX12_nights_284 (by decide) rfl ?_
          exact g_sub [1, 2, 3, 4, 0] rfl (hb_286 q_fu x1 x2 x3 0 M23)
        · refine g_bipush (v := (-2)) X dX12_nights_275 (by decide) ?_
          exact g_iret X rfl rfl rfl dX12_nights_277
      · refine g_aload_n X dX12_nights_176 rfl 0 rfl ?_
        refine g_getr X fa_X12_489 rfl rfl dX12_nights_177 ?_
        refine g_iload X dX12_nights_180 4 rfl ?_
        refine g_iload X dX12_nights_182 4 rfl ?_
        refine g_iload_n X dX12_nights_184 rfl 3 rfl ?_
        refine g_icmp_ne X 192 dX12_nights_185 rfl (fun h24 => ?_) (fun h24 => ?_)
        · refine g_iconst (v := 0) X dX12_nights_188 (by decide) ?_
          refine g_goto X 194 dX12_nights_189 rfl ?_
          exact g_sub [0, 1, 2, 3, 4] rfl (hb_194 (b_X12_nights_171 nf) ih x1 x2 x3 x4 0 x4 5084 M)
        · refine g_bipush (v := 99) X dX12_nights_192 (by decide) ?_
          exact g_sub [0, 1, 2, 3, 4] rfl (hb_194 (b_X12_nights_171 nf) ih x1 x2 x3 x4 99 x4 5084 M)
  have hb_150 : ∀ (k70 : Int32 → Int32 → Int32 → Int32 → Int32 → q_MM → Option (Int32 × q_MM)) (hk70 : ∀ (x1 : Int32) (x2 : Int32) (x3 : Int32) (x4 : Int32) (x5 : Int32) (M : q_MM), GG p l e { frames := 5, cells := 0, slots := 0, locals := 125 } s m args below meth c0 K A (qTM, qLM, qPM, M0) ad false 6 (fun res => MQ below (q_Qc K false ad (qTM, qLM, qPM, M0) ((fun (res : Int32 × q_MM) => some (.int res.1)) res) ((fun (res : Int32 × q_MM) => (qTM, qLM, qPM, res.2)) res) A) args s 0 0 A) (k70 x1 x2 x3 x4 x5 M) 70 [(0, .ref 5001), (1, .int x1), (2, .int x2), (3, .int x3), (4, .int x4), (5, .int x5)] [] (qTM, qLM, qPM, M) 0 0) (x1 : Int32) (x2 : Int32) (x3 : Int32) (x4 : Int32) (x5 : Int32) (s0 : Int32) (s1 : Int32) (s2 : Int32) (s3 : Nat) (M : q_MM), GG p l e { frames := 5, cells := 0, slots := 0, locals := 125 } s m args below meth c0 K A (qTM, qLM, qPM, M0) ad false 6 (fun res => MQ below (q_Qc K false ad (qTM, qLM, qPM, M0) ((fun (res : Int32 × q_MM) => some (.int res.1)) res) ((fun (res : Int32 × q_MM) => (qTM, qLM, qPM, res.2)) res) A) args s 0 0 A) (b_X12_nights_150 k70 x1 x2 x3 x4 x5 s0 s1 s2 s3 M) 150 [(0, .ref 5001), (1, .int x1), (2, .int x2), (3, .int x3), (4, .int x4), (5, .int x5)] [.int s0, .int s1, .int s2, .ref s3] (qTM, qLM, qPM, M) 0 0 := by
    intro k70 hk70 x1 x2 x3 x4 x5 s0 s1 s2 s3 M
    unfold b_X12_nights_150
    refine g_ior X dX12_nights_150 ?_
    refine g_ck (fun hT25 => ?_)
    refine g_isv X hT25 rfl dX12_nights_151 (fun M26 => ?_)
    refine g_iinc (v := 1) X [(5, .int (x5 + 1)), (0, .ref 5001), (1, .int x1), (2, .int x2), (3, .int x3), (4, .int x4)] 5 dX12_nights_152 rfl (by decide) (by decide) rfl ?_
    refine g_goto X 70 dX12_nights_155 rfl ?_
    exact g_sub [1, 2, 3, 4, 5, 0] rfl (hk70 x1 x2 x3 x4 (x5 + 1) M26)
  have hb_149 : ∀ (k70 : Int32 → Int32 → Int32 → Int32 → Int32 → q_MM → Option (Int32 × q_MM)) (hk70 : ∀ (x1 : Int32) (x2 : Int32) (x3 : Int32) (x4 : Int32) (x5 : Int32) (M : q_MM), GG p l e { frames := 5, cells := 0, slots := 0, locals := 125 } s m args below meth c0 K A (qTM, qLM, qPM, M0) ad false 6 (fun res => MQ below (q_Qc K false ad (qTM, qLM, qPM, M0) ((fun (res : Int32 × q_MM) => some (.int res.1)) res) ((fun (res : Int32 × q_MM) => (qTM, qLM, qPM, res.2)) res) A) args s 0 0 A) (k70 x1 x2 x3 x4 x5 M) 70 [(0, .ref 5001), (1, .int x1), (2, .int x2), (3, .int x3), (4, .int x4), (5, .int x5)] [] (qTM, qLM, qPM, M) 0 0) (x1 : Int32) (x2 : Int32) (x3 : Int32) (x4 : Int32) (x5 : Int32) (s0 : Int32) (s1 : Int32) (s2 : Nat) (M : q_MM), GG p l e { frames := 5, cells := 0, slots := 0, locals := 125 } s m args below meth c0 K A (qTM, qLM, qPM, M0) ad false 6 (fun res => MQ below (q_Qc K false ad (qTM, qLM, qPM, M0) ((fun (res : Int32 × q_MM) => some (.int res.1)) res) ((fun (res : Int32 × q_MM) => (qTM, qLM, qPM, res.2)) res) A) args s 0 0 A) (b_X12_nights_149 k70 x1 x2 x3 x4 x5 s0 s1 s2 M) 149 [(0, .ref 5001), (1, .int x1), (2, .int x2), (3, .int x3), (4, .int x4), (5, .int x5)] [.int s0, .int s1, .ref s2] (qTM, qLM, qPM, M) 0 0 := by
    intro k70 hk70 x1 x2 x3 x4 x5 s0 s1 s2 M
    unfold b_X12_nights_149
    refine g_iconst (v := 0) X dX12_nights_149 (by decide) ?_
    exact g_sub [0, 1, 2, 3, 4, 5] rfl (hb_150 k70 hk70 x1 x2 x3 x4 x5 0 s0 s1 s2 M)
  have hb_70 : ∀ (k47 : Int32 → Int32 → Int32 → Int32 → q_MM → Option (Int32 × q_MM)) (hk47 : ∀ (x1 : Int32) (x2 : Int32) (x3 : Int32) (x4 : Int32) (M : q_MM), GG p l e { frames := 5, cells := 0, slots := 0, locals := 125 } s m args below meth c0 K A (qTM, qLM, qPM, M0) ad false 6 (fun res => MQ below (q_Qc K false ad (qTM, qLM, qPM, M0) ((fun (res : Int32 × q_MM) => some (.int res.1)) res) ((fun (res : Int32 × q_MM) => (qTM, qLM, qPM, res.2)) res) A) args s 0 0 A) (k47 x1 x2 x3 x4 M) 47 [(0, .ref 5001), (1, .int x1), (2, .int x2), (3, .int x3), (4, .int x4)] [] (qTM, qLM, qPM, M) 0 0) (nf : Nat) (x1 : Int32) (x2 : Int32) (x3 : Int32) (x4 : Int32) (x5 : Int32) (M : q_MM), GG p l e { frames := 5, cells := 0, slots := 0, locals := 125 } s m args below meth c0 K A (qTM, qLM, qPM, M0) ad false 6 (fun res => MQ below (q_Qc K false ad (qTM, qLM, qPM, M0) ((fun (res : Int32 × q_MM) => some (.int res.1)) res) ((fun (res : Int32 × q_MM) => (qTM, qLM, qPM, res.2)) res) A) args s 0 0 A) (b_X12_nights_70 k47 nf x1 x2 x3 x4 x5 M) 70 [(0, .ref 5001), (1, .int x1), (2, .int x2), (3, .int x3), (4, .int x4), (5, .int x5)] [] (qTM, qLM, qPM, M) 0 0 := by
    intro k47 hk47 nf
    induction nf with
    | zero => intros; exact g_stop
    | succ nf ih =>
      intro x1 x2 x3 x4 x5 M
      rw [b_X12_nights_70]
      refine g_iload X dX12_nights_70 5 rfl ?_
      refine g_aload_n X dX12_nights_72 rfl 0 rfl ?_
      refine g_geti X fa_X12_446 rfl dX12_nights_73 ?_
      refine g_icmp_ge X 158 dX12_nights_76 rfl (fun h27 => ?_) (fun h27 => ?_)
      · refine g_iinc (v := 1) X [(4, .int (x4 + 1)), (0, .ref 5001), (1, .int x1), (2, .int x2), (3, .int x3), (5, .int x5)] 4 dX12_nights_158 rfl (by decide) (by decide) rfl ?_
        refine g_goto X 47 dX12_nights_161 rfl ?_
        exact g_sub [1, 2, 3, 4, 0] rfl (hk47 x1 x2 x3 (x4 + 1) M)
      · refine g_aload_n X dX12_nights_79 rfl 0 rfl ?_
        refine g_getr X fa_X12_475 rfl rfl dX12_nights_80 ?_
        refine g_iload X dX12_nights_83 4 rfl ?_
        refine g_dup2 X dX12_nights_85 rfl rfl ?_
        refine g_ild X rfl rfl dX12_nights_86 (fun v28 => ?_)
        refine g_iload X dX12_nights_87 4 rfl ?_
        refine g_iload X dX12_nights_89 5 rfl ?_
        refine g_ishr X dX12_nights_91 ?_
        refine g_iconst (v := 1) X dX12_nights_92 (by decide) ?_
        refine g_iand X dX12_nights_93 ?_
        refine g_if_ne X 149 dX12_nights_94 rfl (fun h29 => ?_) (fun h29 => ?_)
        · refine g_aload_n X dX12_nights_97 rfl 0 rfl ?_
          refine g_getr X fa_X12_459 rfl rfl dX12_nights_98 ?_
          refine g_aload_n X dX12_nights_101 rfl 0 rfl ?_
          refine g_getr X fa_X12_443 rfl rfl dX12_nights_102 ?_
          refine g_iload X dX12_nights_105 5 rfl ?_
          refine g_ild X rfl rfl dX12_nights_107 (fun v30 => ?_)
          refine g_ild X rfl rfl dX12_nights_108 (fun v31 => ?_)
          refine g_iconst (v := 2) X dX12_nights_109 (by decide) ?_
          refine g_icmp_ge X 149 dX12_nights_110 rfl (fun h32 => ?_) (fun h32 => ?_)
          · exact g_sub [0, 1, 2, 3, 4, 5] rfl (hb_149 (b_X12_nights_70 k47 nf) ih x1 x2 x3 x4 x5 v28 x4 5083 M)
          · refine g_aload_n X dX12_nights_113 rfl 0 rfl ?_
            refine g_aload_n X dX12_nights_114 rfl 0 rfl ?_
            refine g_getr X fa_X12_443 rfl rfl dX12_nights_115 ?_
            refine g_iload X dX12_nights_118 5 rfl ?_
            refine g_ild X rfl rfl dX12_nights_120 (fun v33 => ?_)
            refine g_aload_n X dX12_nights_121 rfl 0 rfl ?_
            refine g_getr X fa_X12_453 rfl rfl dX12_nights_122 ?_
            refine g_iload X dX12_nights_125 5 rfl ?_
            refine g_ild X rfl rfl dX12_nights_127 (fun v34 => ?_)
            refine g_aload_n X dX12_nights_128 rfl 0 rfl ?_
            refine g_getr X fa_X12_456 rfl rfl dX12_nights_129 ?_
            refine g_iload X dX12_nights_132 5 rfl ?_
            refine g_ild X rfl rfl dX12_nights_134 (fun v35 => ?_)
            refine g_iconst (v := 4) X dX12_nights_135 (by decide) ?_
            refine g_bVi (As := [.int v33, .int v34, .int v35, .int 4]) (rest := [.int v28, .int x4, .ref 5083]) X (c_X12_wrong l K M v33 v34 v35 4) lk_X12_326 rfl rfl rfl (Nat.le_of_ble_eq_true rfl) ⟨Nat.le_of_ble_eq_true rfl, Nat.le_of_ble_eq_true rfl⟩ ⟨Nat.zero_le _, Nat.zero_le _⟩ dX12_nights_136 (fun r36 => ?_)
            refine g_if_ne X 149 dX12_nights_139 rfl (fun h37 => ?_) (fun h37 => ?_)
            · refine g_iconst (v := 1) X dX12_nights_142 (by decide) ?_
              refine g_iload X dX12_nights_143 5 rfl ?_
              refine g_ishl X dX12_nights_145 ?_
              refine g_goto X 150 dX12_nights_146 rfl ?_
              exact g_sub [0, 1, 2, 3, 4, 5] rfl (hb_150 (b_X12_nights_70 k47 nf) ih x1 x2 x3 x4 x5 ((1 : Int32) <<< (x5 &&& 31)) v28 x4 5083 r36.2)
            · exact g_sub [0, 1, 2, 3, 4, 5] rfl (hb_149 (b_X12_nights_70 k47 nf) ih x1 x2 x3 x4 x5 v28 x4 5083 r36.2)
        · exact g_sub [0, 1, 2, 3, 4, 5] rfl (hb_149 (b_X12_nights_70 k47 nf) ih x1 x2 x3 x4 x5 v28 x4 5083 M)
  have hb_47 : ∀ (nf : Nat) (x1 : Int32) (x2 : Int32) (x3 : Int32) (x4 : Int32) (M : q_MM), GG p l e { frames := 5, cells := 0, slots := 0, locals := 125 } s m args below meth c0 K A (qTM, qLM, qPM, M0) ad false 6 (fun res => MQ below (q_Qc K false ad (qTM, qLM, qPM, M0) ((fun (res : Int32 × q_MM) => some (.int res.1)) res) ((fun (res : Int32 × q_MM) => (qTM, qLM, qPM, res.2)) res) A) args s 0 0 A) (b_X12_nights_47 nf x1 x2 x3 x4 M) 47 [(0, .ref 5001), (1, .int x1), (2, .int x2), (3, .int x3), (4, .int x4)] [] (qTM, qLM, qPM, M) 0 0 := by
    intro  nf
    induction nf with
    | zero => intros; exact g_stop
    | succ nf ih =>
      intro x1 x2 x3 x4 M
      rw [b_X12_nights_47]
      refine g_iload X dX12_nights_47 4 rfl ?_
      refine g_iload_n X dX12_nights_49 rfl 3 rfl ?_
      refine g_icmp_gt X 164 dX12_nights_50 rfl (fun h38 => ?_) (fun h38 => ?_)
      · refine g_aload_n X dX12_nights_164 rfl 0 rfl ?_
        refine g_bVv (As := []) (rest := []) X (c_X12_restores l K M) lk_X12_468 rfl rfl rfl (Nat.le_of_ble_eq_true rfl) ⟨Nat.le_of_ble_eq_true rfl, Nat.le_of_ble_eq_true rfl⟩ ⟨Nat.zero_le _, Nat.zero_le _⟩ dX12_nights_165 (fun r39 => ?_)
        refine g_iload_n X dX12_nights_168 rfl 3 rfl ?_
        refine g_istore X [(4, .int x3), (0, .ref 5001), (1, .int x1), (2, .int x2), (3, .int x3)] dX12_nights_169 (by decide) rfl ?_
        exact g_sub [1, 2, 3, 4, 0] rfl (hb_171 q_fu x1 x2 x3 x3 r39)
      · refine g_aload_n X dX12_nights_53 rfl 0 rfl ?_
        refine g_iload X dX12_nights_54 4 rfl ?_
        refine g_bVv (As := [.int x4]) (rest := []) X (c_X12_does l K M x4) lk_X12_486 rfl rfl rfl (Nat.le_of_ble_eq_true rfl) ⟨Nat.le_of_ble_eq_true rfl, Nat.le_of_ble_eq_true rfl⟩ ⟨Nat.zero_le _, Nat.zero_le _⟩ dX12_nights_56 (fun r40 => ?_)
        refine g_aload_n X dX12_nights_59 rfl 0 rfl ?_
        refine g_getr X fa_X12_475 rfl rfl dX12_nights_60 ?_
        refine g_iload X dX12_nights_63 4 rfl ?_
        refine g_iconst (v := 0) X dX12_nights_65 (by decide) ?_
        refine g_isv X rfl rfl dX12_nights_66 (fun M41 => ?_)
        refine g_iconst (v := 0) X dX12_nights_67 (by decide) ?_
        refine g_istore X [(5, .int 0), (0, .ref 5001), (1, .int x1), (2, .int x2), (3, .int x3), (4, .int x4)] dX12_nights_68 (by decide) rfl ?_
        exact g_sub [1, 2, 3, 4, 5, 0] rfl (hb_70 (b_X12_nights_47 nf) ih q_fu x1 x2 x3 x4 0 M41)
  refine g_sub (lv' := [(0, .ref 5001), (1, .int a1), (2, .int a2)]) [0, 1, 2] rfl ?_
  unfold f_X12_nights
  refine g_aload_n X dX12_nights_0 rfl 0 rfl ?_
  refine g_iconst (v := 0) X dX12_nights_1 (by decide) ?_
  refine g_pfi X fa_X12_1 rfl (by decide +kernel) rfl dX12_nights_2 (fun M42 => ?_)
  refine g_iload_n X dX12_nights_5 rfl 1 rfl ?_
  refine g_i2l X dX12_nights_6 ?_
  refine g_lconst (v := 1) X dX12_nights_7 (by decide) ?_
  refine g_ldc2 (v := 8) X wc_X12_481 dX12_nights_8 ?_
  refine g_bSi (As := [.long (Int32.toInt64 a1), .long 1, .long 8]) (rest := []) X (c_X12_in l K M42 (Int32.toInt64 a1) 1 8) lk_X12_17 rfl rfl (Nat.le_of_ble_eq_true rfl) ⟨Nat.le_of_ble_eq_true rfl, Nat.le_of_ble_eq_true rfl⟩ ⟨Nat.zero_le _, Nat.zero_le _⟩ dX12_nights_11 (fun r43 => ?_)
  refine g_if_eq X 29 dX12_nights_14 rfl (fun h44 => ?_) (fun h44 => ?_)
  · refine g_iconst (v := (-1)) X dX12_nights_29 (by decide) ?_
    exact g_iret X rfl rfl rfl dX12_nights_30
  · refine g_iload_n X dX12_nights_17 rfl 2 rfl ?_
    refine g_i2l X dX12_nights_18 ?_
    refine g_lconst (v := 1) X dX12_nights_19 (by decide) ?_
    refine g_ldc2 (v := 8) X wc_X12_481 dX12_nights_20 ?_
    refine g_bSi (As := [.long (Int32.toInt64 a2), .long 1, .long 8]) (rest := []) X (c_X12_in l K M42 (Int32.toInt64 a2) 1 8) lk_X12_17 rfl rfl (Nat.le_of_ble_eq_true rfl) ⟨Nat.le_of_ble_eq_true rfl, Nat.le_of_ble_eq_true rfl⟩ ⟨Nat.zero_le _, Nat.zero_le _⟩ dX12_nights_23 (fun r45 => ?_)
    refine g_if_ne X 31 dX12_nights_26 rfl (fun h46 => ?_) (fun h46 => ?_)
    · refine g_iconst (v := (-1)) X dX12_nights_29 (by decide) ?_
      exact g_iret X rfl rfl rfl dX12_nights_30
    · refine g_iconst (v := 1) X dX12_nights_31 (by decide) ?_
      refine g_aload_n X dX12_nights_32 rfl 0 rfl ?_
      refine g_geti X fa_X12_446 rfl dX12_nights_33 ?_
      refine g_ishl X dX12_nights_36 ?_
      refine g_iconst (v := 1) X dX12_nights_37 (by decide) ?_
      refine g_isub X dX12_nights_38 ?_
      refine g_isn X (fun v47 => [(3, .int v47), (0, .ref 5001), (1, .int a1), (2, .int a2)]) dX12_nights_39 rfl (by decide) (fun _ => rfl) (fun v47 => ?_)
      refine g_aload_n X dX12_nights_40 rfl 1 rfl ?_
      refine g_bVv (As := []) (rest := []) X (c_X12_keeps l K M42) lk_X12_483 rfl rfl rfl (Nat.le_of_ble_eq_true rfl) ⟨Nat.le_of_ble_eq_true rfl, Nat.le_of_ble_eq_true rfl⟩ ⟨Nat.zero_le _, Nat.zero_le _⟩ dX12_nights_41 (fun r48 => ?_)
      refine g_iconst (v := 0) X dX12_nights_44 (by decide) ?_
      refine g_istore X [(4, .int 0), (3, .int v47), (0, .ref 5001), (1, .int a1), (2, .int a2)] dX12_nights_45 (by decide) rfl ?_
      exact g_sub [2, 3, 4, 1, 0] rfl (hb_47 q_fu a1 a2 v47 0 r48)
set_option maxHeartbeats 4000000 in
set_option maxRecDepth 100000 in
theorem c_X12_done (l : Launch) (K : q_KK) (M0 : q_MM) : ∀ res, f_X12_done M0 = some res → Mt l yX12_done cX12_done 3 (some FieldType.int) 5 125 0 0 false K [.ref 5001] (qTM, qLM, qPM, M0) (some (.int res.1)) ((qTM, qLM, qPM, res.2)) := by
  refine Mt.of (fun (res : Int32 × q_MM) => some (.int res.1)) (fun (res : Int32 × q_MM) => (qTM, qLM, qPM, res.2)) (by decide) (Nat.le_of_ble_eq_true rfl) ?_
  intro p e s m args below meth c0 A ad X hN
  have hb_74 : ∀ (M : q_MM), GG p l e { frames := 5, cells := 0, slots := 0, locals := 125 } s m args below meth c0 K A (qTM, qLM, qPM, M0) ad false 3 (fun res => MQ below (q_Qc K false ad (qTM, qLM, qPM, M0) ((fun (res : Int32 × q_MM) => some (.int res.1)) res) ((fun (res : Int32 × q_MM) => (qTM, qLM, qPM, res.2)) res) A) args s 0 0 A) (b_X12_done_74 M) 74 [(0, .ref 5001)] [] (qTM, qLM, qPM, M) 0 0 := by
    intro M
    unfold b_X12_done_74
    refine g_aload_n X dX12_done_74 rfl 0 rfl ?_
    refine g_bVv (As := []) (rest := []) X (c_X12_restores l K M) lk_X12_468 rfl rfl rfl (Nat.le_of_ble_eq_true rfl) ⟨Nat.le_of_ble_eq_true rfl, Nat.le_of_ble_eq_true rfl⟩ ⟨Nat.zero_le _, Nat.zero_le _⟩ dX12_done_75 (fun r1 => ?_)
    refine g_bipush (v := (-2)) X dX12_done_78 (by decide) ?_
    exact g_iret X rfl rfl rfl dX12_done_80
  have hb_25 : ∀ (nf : Nat) (x2 : Int32) (M : q_MM), GG p l e { frames := 5, cells := 0, slots := 0, locals := 125 } s m args below meth c0 K A (qTM, qLM, qPM, M0) ad false 3 (fun res => MQ below (q_Qc K false ad (qTM, qLM, qPM, M0) ((fun (res : Int32 × q_MM) => some (.int res.1)) res) ((fun (res : Int32 × q_MM) => (qTM, qLM, qPM, res.2)) res) A) args s 0 0 A) (b_X12_done_25 nf x2 M) 25 [(0, .ref 5001), (2, .int x2)] [] (qTM, qLM, qPM, M) 0 0 := by
    intro  nf
    induction nf with
    | zero => intros; exact g_stop
    | succ nf ih =>
      intro x2 M
      rw [b_X12_done_25]
      refine g_iload_n X dX12_done_25 rfl 1 rfl ?_
      refine g_aload_n X dX12_done_26 rfl 0 rfl ?_
      refine g_geti X fa_X12_446 rfl dX12_done_27 ?_
      refine g_icmp_ge X 87 dX12_done_30 rfl (fun h2 => ?_) (fun h2 => ?_)
      · refine g_aload_n X dX12_done_87 rfl 0 rfl ?_
        refine g_geti X fa_X12_446 rfl dX12_done_88 ?_
        refine g_isn X (fun v3 => [(2, .int v3), (0, .ref 5001)]) dX12_done_91 rfl (by decide) (fun _ => rfl) (fun v3 => ?_)
        refine g_aload_n X dX12_done_92 rfl 1 rfl ?_
        refine g_iconst (v := 0) X dX12_done_93 (by decide) ?_
        refine g_pfi X fa_X12_446 rfl (by decide +kernel) rfl dX12_done_94 (fun M4 => ?_)
        refine g_iload_n X dX12_done_97 rfl 0 rfl ?_
        exact g_iret X rfl rfl rfl dX12_done_98
      · refine g_aload_n X dX12_done_33 rfl 0 rfl ?_
        refine g_getr X fa_X12_459 rfl rfl dX12_done_34 ?_
        refine g_aload_n X dX12_done_37 rfl 0 rfl ?_
        refine g_getr X fa_X12_443 rfl rfl dX12_done_38 ?_
        refine g_iload_n X dX12_done_41 rfl 1 rfl ?_
        refine g_ild X rfl rfl dX12_done_42 (fun v5 => ?_)
        refine g_ild X rfl rfl dX12_done_43 (fun v6 => ?_)
        refine g_iconst (v := 2) X dX12_done_44 (by decide) ?_
        refine g_icmp_ge X 74 dX12_done_45 rfl (fun h7 => ?_) (fun h7 => ?_)
        · exact g_sub [0] rfl (hb_74 M)
        · refine g_aload_n X dX12_done_48 rfl 0 rfl ?_
          refine g_aload_n X dX12_done_49 rfl 0 rfl ?_
          refine g_getr X fa_X12_443 rfl rfl dX12_done_50 ?_
          refine g_iload_n X dX12_done_53 rfl 1 rfl ?_
          refine g_ild X rfl rfl dX12_done_54 (fun v8 => ?_)
          refine g_aload_n X dX12_done_55 rfl 0 rfl ?_
          refine g_getr X fa_X12_453 rfl rfl dX12_done_56 ?_
          refine g_iload_n X dX12_done_59 rfl 1 rfl ?_
          refine g_ild X rfl rfl dX12_done_60 (fun v9 => ?_)
          refine g_aload_n X dX12_done_61 rfl 0 rfl ?_
          refine g_getr X fa_X12_456 rfl rfl dX12_done_62 ?_
          refine g_iload_n X dX12_done_65 rfl 1 rfl ?_
          refine g_ild X rfl rfl dX12_done_66 (fun v10 => ?_)
          refine g_iconst (v := 4) X dX12_done_67 (by decide) ?_
          refine g_bVi (As := [.int v8, .int v9, .int v10, .int 4]) (rest := []) X (c_X12_wrong l K M v8 v9 v10 4) lk_X12_326 rfl rfl rfl (Nat.le_of_ble_eq_true rfl) ⟨Nat.le_of_ble_eq_true rfl, Nat.le_of_ble_eq_true rfl⟩ ⟨Nat.zero_le _, Nat.zero_le _⟩ dX12_done_68 (fun r11 => ?_)
          refine g_if_eq X 81 dX12_done_71 rfl (fun h12 => ?_) (fun h12 => ?_)
          · refine g_iinc (v := 1) X [(2, .int (x2 + 1)), (0, .ref 5001)] 1 dX12_done_81 rfl (by decide) (by decide) rfl ?_
            refine g_goto X 25 dX12_done_84 rfl ?_
            exact g_sub [1, 0] rfl (ih (x2 + 1) r11.2)
          · exact g_sub [0] rfl (hb_74 r11.2)
  refine g_sub (lv' := [(0, .ref 5001)]) [0] rfl ?_
  unfold f_X12_done
  refine g_aload_n X dX12_done_0 rfl 0 rfl ?_
  refine g_iconst (v := 0) X dX12_done_1 (by decide) ?_
  refine g_pfi X fa_X12_1 rfl (by decide +kernel) rfl dX12_done_2 (fun M13 => ?_)
  refine g_iconst (v := 1) X dX12_done_5 (by decide) ?_
  refine g_aload_n X dX12_done_6 rfl 0 rfl ?_
  refine g_geti X fa_X12_446 rfl dX12_done_7 ?_
  refine g_ishl X dX12_done_10 ?_
  refine g_iconst (v := 1) X dX12_done_11 (by decide) ?_
  refine g_isub X dX12_done_12 ?_
  refine g_isn X (fun v14 => [(1, .int v14), (0, .ref 5001)]) dX12_done_13 rfl (by decide) (fun _ => rfl) (fun v14 => ?_)
  refine g_aload_n X dX12_done_14 rfl 1 rfl ?_
  refine g_bVv (As := []) (rest := []) X (c_X12_keeps l K M13) lk_X12_483 rfl rfl rfl (Nat.le_of_ble_eq_true rfl) ⟨Nat.le_of_ble_eq_true rfl, Nat.le_of_ble_eq_true rfl⟩ ⟨Nat.zero_le _, Nat.zero_le _⟩ dX12_done_15 (fun r15 => ?_)
  refine g_aload_n X dX12_done_18 rfl 1 rfl ?_
  refine g_iload_n X dX12_done_19 rfl 0 rfl ?_
  refine g_bVv (As := [.int v14]) (rest := []) X (c_X12_does l K r15 v14) lk_X12_486 rfl rfl rfl (Nat.le_of_ble_eq_true rfl) ⟨Nat.le_of_ble_eq_true rfl, Nat.le_of_ble_eq_true rfl⟩ ⟨Nat.zero_le _, Nat.zero_le _⟩ dX12_done_20 (fun r16 => ?_)
  refine g_iconst (v := 0) X dX12_done_23 (by decide) ?_
  refine g_istore_n X [(2, .int 0), (1, .int v14), (0, .ref 5001)] dX12_done_24 rfl (by decide) rfl ?_
  exact g_sub [2, 0] rfl (hb_25 q_fu 0 r16)
set_option maxHeartbeats 4000000 in
set_option maxRecDepth 100000 in
theorem c_X12_sumOf (l : Launch) (K : q_KK) (M : q_MM) (a1 : Int32) (a2 : Int32) (a3 : Int32) : ∀ res, f_X12_sumOf M a1 a2 a3 = some res → Mt l yX12_sumOf cX12_sumOf 4 (some FieldType.int) 1 22 0 0 false K [.ref 5001, .int a1, .int a2, .int a3] (qTM, qLM, qPM, M) (some (.int res)) ((qTM, qLM, qPM, M)) := by
  refine Mt.of (fun (res : Int32) => some (.int res)) (fun (_ : Int32) => (qTM, qLM, qPM, M)) (by decide) (Nat.le_of_ble_eq_true rfl) ?_
  intro p e s m args below meth c0 A ad X hN
  have hb_28 : ∀ (s0 : Int32) (s1 : Int32), GG p l e { frames := 1, cells := 0, slots := 0, locals := 22 } s m args below meth c0 K A (qTM, qLM, qPM, M) ad false 4 (fun res => MQ below (q_Qc K false ad (qTM, qLM, qPM, M) ((fun (res : Int32) => some (.int res)) res) ((fun (_ : Int32) => (qTM, qLM, qPM, M)) res) A) args s 0 0 A) (b_X12_sumOf_28 M s0 s1) 28 [] [.int s0, .int s1] (qTM, qLM, qPM, M) 0 0 := by
    intro s0 s1
    unfold b_X12_sumOf_28
    refine g_iadd X dX12_sumOf_28 ?_
    exact g_iret X rfl rfl rfl dX12_sumOf_29
  have hb_14 : ∀ (x1 : Int32) (x3 : Int32) (s0 : Int32), GG p l e { frames := 1, cells := 0, slots := 0, locals := 22 } s m args below meth c0 K A (qTM, qLM, qPM, M) ad false 4 (fun res => MQ below (q_Qc K false ad (qTM, qLM, qPM, M) ((fun (res : Int32) => some (.int res)) res) ((fun (_ : Int32) => (qTM, qLM, qPM, M)) res) A) args s 0 0 A) (b_X12_sumOf_14 M x1 x3 s0) 14 [(0, .ref 5001), (1, .int x1), (3, .int x3)] [.int s0] (qTM, qLM, qPM, M) 0 0 := by
    intro x1 x3 s0
    unfold b_X12_sumOf_14
    refine g_iload_n X dX12_sumOf_14 rfl 2 rfl ?_
    refine g_if_ge X 22 dX12_sumOf_15 rfl (fun h1 => ?_) (fun h1 => ?_)
    · refine g_aload_n X dX12_sumOf_22 rfl 0 rfl ?_
      refine g_iload_n X dX12_sumOf_23 rfl 1 rfl ?_
      refine g_iload_n X dX12_sumOf_24 rfl 2 rfl ?_
      refine g_bVi (As := [.int x1, .int x3]) (rest := [.int s0]) X (c_X12_likes l K M x1 x3) lk_X12_366 rfl rfl rfl (Nat.le_of_ble_eq_true rfl) ⟨Nat.le_of_ble_eq_true rfl, Nat.le_of_ble_eq_true rfl⟩ ⟨Nat.zero_le _, Nat.zero_le _⟩ dX12_sumOf_25 (fun r2 => ?_)
      exact g_sub [] rfl (hb_28 r2 s0)
    · refine g_iconst (v := 0) X dX12_sumOf_18 (by decide) ?_
      refine g_goto X 28 dX12_sumOf_19 rfl ?_
      exact g_sub [] rfl (hb_28 0 s0)
  refine g_sub (lv' := [(0, .ref 5001), (1, .int a1), (2, .int a2), (3, .int a3)]) [0, 1, 2, 3] rfl ?_
  unfold f_X12_sumOf
  refine g_iload_n X dX12_sumOf_0 rfl 2 rfl ?_
  refine g_if_ge X 8 dX12_sumOf_1 rfl (fun h3 => ?_) (fun h3 => ?_)
  · refine g_aload_n X dX12_sumOf_8 rfl 0 rfl ?_
    refine g_iload_n X dX12_sumOf_9 rfl 1 rfl ?_
    refine g_iload_n X dX12_sumOf_10 rfl 2 rfl ?_
    refine g_bVi (As := [.int a1, .int a2]) (rest := []) X (c_X12_likes l K M a1 a2) lk_X12_366 rfl rfl rfl (Nat.le_of_ble_eq_true rfl) ⟨Nat.le_of_ble_eq_true rfl, Nat.le_of_ble_eq_true rfl⟩ ⟨Nat.zero_le _, Nat.zero_le _⟩ dX12_sumOf_11 (fun r4 => ?_)
    exact g_sub [0, 1, 3] rfl (hb_14 a1 a3 r4)
  · refine g_iconst (v := 0) X dX12_sumOf_4 (by decide) ?_
    refine g_goto X 14 dX12_sumOf_5 rfl ?_
    exact g_sub [0, 1, 3] rfl (hb_14 a1 a3 0)
set_option maxHeartbeats 4000000 in
set_option maxRecDepth 100000 in
theorem c_X12_stand (l : Launch) (K : q_KK) (M0 : q_MM) (a1 : Int32) : ∀ res, f_X12_stand M0 a1 = some res → Mt l yX12_stand cX12_stand 9 (some FieldType.int) 5 125 0 0 false K [.ref 5001, .int a1] (qTM, qLM, qPM, M0) (some (.int res.1)) ((qTM, qLM, qPM, res.2)) := by
  refine Mt.of (fun (res : Int32 × q_MM) => some (.int res.1)) (fun (res : Int32 × q_MM) => (qTM, qLM, qPM, res.2)) (by decide) (Nat.le_of_ble_eq_true rfl) ?_
  intro p e s m args below meth c0 A ad X hN
  have hb_200 : ∀ (k73 : Int32 → Int32 → Int32 → Int32 → Int32 → Int32 → q_MM → Option (Int32 × q_MM)) (hk73 : ∀ (x1 : Int32) (x2 : Int32) (x3 : Int32) (x4 : Int32) (x5 : Int32) (x6 : Int32) (M : q_MM), GG p l e { frames := 5, cells := 0, slots := 0, locals := 125 } s m args below meth c0 K A (qTM, qLM, qPM, M0) ad false 9 (fun res => MQ below (q_Qc K false ad (qTM, qLM, qPM, M0) ((fun (res : Int32 × q_MM) => some (.int res.1)) res) ((fun (res : Int32 × q_MM) => (qTM, qLM, qPM, res.2)) res) A) args s 0 0 A) (k73 x1 x2 x3 x4 x5 x6 M) 73 [(0, .ref 5001), (1, .int x1), (2, .int x2), (3, .int x3), (4, .int x4), (5, .int x5), (6, .int x6)] [] (qTM, qLM, qPM, M) 0 0) (x1 : Int32) (x2 : Int32) (x3 : Int32) (x4 : Int32) (x5 : Int32) (x6 : Int32) (M : q_MM), GG p l e { frames := 5, cells := 0, slots := 0, locals := 125 } s m args below meth c0 K A (qTM, qLM, qPM, M0) ad false 9 (fun res => MQ below (q_Qc K false ad (qTM, qLM, qPM, M0) ((fun (res : Int32 × q_MM) => some (.int res.1)) res) ((fun (res : Int32 × q_MM) => (qTM, qLM, qPM, res.2)) res) A) args s 0 0 A) (b_X12_stand_200 k73 x1 x2 x3 x4 x5 x6 M) 200 [(0, .ref 5001), (1, .int x1), (2, .int x2), (3, .int x3), (4, .int x4), (5, .int x5), (6, .int x6)] [] (qTM, qLM, qPM, M) 0 0 := by
    intro k73 hk73 x1 x2 x3 x4 x5 x6 M
    unfold b_X12_stand_200
    refine g_iinc (v := 1) X [(6, .int (x6 + 1)), (0, .ref 5001), (1, .int x1), (2, .int x2), (3, .int x3), (4, .int x4), (5, .int x5)] 6 dX12_stand_200 rfl (by decide) (by decide) rfl ?_
    refine g_goto X 73 dX12_stand_203 rfl ?_
    exact g_sub [1, 2, 3, 4, 5, 6, 0] rfl (hk73 x1 x2 x3 x4 x5 (x6 + 1) M)
  have hb_181 : ∀ (k73 : Int32 → Int32 → Int32 → Int32 → Int32 → Int32 → q_MM → Option (Int32 × q_MM)) (hk73 : ∀ (x1 : Int32) (x2 : Int32) (x3 : Int32) (x4 : Int32) (x5 : Int32) (x6 : Int32) (M : q_MM), GG p l e { frames := 5, cells := 0, slots := 0, locals := 125 } s m args below meth c0 K A (qTM, qLM, qPM, M0) ad false 9 (fun res => MQ below (q_Qc K false ad (qTM, qLM, qPM, M0) ((fun (res : Int32 × q_MM) => some (.int res.1)) res) ((fun (res : Int32 × q_MM) => (qTM, qLM, qPM, res.2)) res) A) args s 0 0 A) (k73 x1 x2 x3 x4 x5 x6 M) 73 [(0, .ref 5001), (1, .int x1), (2, .int x2), (3, .int x3), (4, .int x4), (5, .int x5), (6, .int x6)] [] (qTM, qLM, qPM, M) 0 0) (x1 : Int32) (x2 : Int32) (x3 : Int32) (x4 : Int32) (x5 : Int32) (x6 : Int32) (x8 : Int32) (M : q_MM), GG p l e { frames := 5, cells := 0, slots := 0, locals := 125 } s m args below meth c0 K A (qTM, qLM, qPM, M0) ad false 9 (fun res => MQ below (q_Qc K false ad (qTM, qLM, qPM, M0) ((fun (res : Int32 × q_MM) => some (.int res.1)) res) ((fun (res : Int32 × q_MM) => (qTM, qLM, qPM, res.2)) res) A) args s 0 0 A) (b_X12_stand_181 k73 x1 x2 x3 x4 x5 x6 x8 M) 181 [(0, .ref 5001), (1, .int x1), (2, .int x2), (3, .int x3), (4, .int x4), (5, .int x5), (6, .int x6), (8, .int x8)] [] (qTM, qLM, qPM, M) 0 0 := by
    intro k73 hk73 x1 x2 x3 x4 x5 x6 x8 M
    unfold b_X12_stand_181
    refine g_aload_n X dX12_stand_181 rfl 0 rfl ?_
    refine g_getr X fa_X12_7 rfl rfl dX12_stand_182 ?_
    refine g_iload X dX12_stand_185 7 rfl ?_
    refine g_iload X dX12_stand_187 6 rfl ?_
    refine g_isv X rfl rfl dX12_stand_189 (fun M1 => ?_)
    refine g_aload_n X dX12_stand_190 rfl 0 rfl ?_
    refine g_dup X dX12_stand_191 rfl ?_
    refine g_geti X fa_X12_11 rfl dX12_stand_192 ?_
    refine g_iconst (v := 1) X dX12_stand_195 (by decide) ?_
    refine g_iadd X dX12_stand_196 ?_
    refine g_pfi X fa_X12_11 rfl (by decide +kernel) rfl dX12_stand_197 (fun M2 => ?_)
    exact g_sub [0, 1, 2, 3, 4, 5, 6] rfl (hb_200 k73 hk73 x1 x2 x3 x4 x5 x6 M2)
  have hb_132 : ∀ (k73 : Int32 → Int32 → Int32 → Int32 → Int32 → Int32 → q_MM → Option (Int32 × q_MM)) (hk73 : ∀ (x1 : Int32) (x2 : Int32) (x3 : Int32) (x4 : Int32) (x5 : Int32) (x6 : Int32) (M : q_MM), GG p l e { frames := 5, cells := 0, slots := 0, locals := 125 } s m args below meth c0 K A (qTM, qLM, qPM, M0) ad false 9 (fun res => MQ below (q_Qc K false ad (qTM, qLM, qPM, M0) ((fun (res : Int32 × q_MM) => some (.int res.1)) res) ((fun (res : Int32 × q_MM) => (qTM, qLM, qPM, res.2)) res) A) args s 0 0 A) (k73 x1 x2 x3 x4 x5 x6 M) 73 [(0, .ref 5001), (1, .int x1), (2, .int x2), (3, .int x3), (4, .int x4), (5, .int x5), (6, .int x6)] [] (qTM, qLM, qPM, M) 0 0) (nf : Nat) (x1 : Int32) (x2 : Int32) (x3 : Int32) (x4 : Int32) (x5 : Int32) (x6 : Int32) (x7 : Int32) (x8 : Int32) (M : q_MM), GG p l e { frames := 5, cells := 0, slots := 0, locals := 125 } s m args below meth c0 K A (qTM, qLM, qPM, M0) ad false 9 (fun res => MQ below (q_Qc K false ad (qTM, qLM, qPM, M0) ((fun (res : Int32 × q_MM) => some (.int res.1)) res) ((fun (res : Int32 × q_MM) => (qTM, qLM, qPM, res.2)) res) A) args s 0 0 A) (b_X12_stand_132 k73 nf x1 x2 x3 x4 x5 x6 x7 x8 M) 132 [(0, .ref 5001), (1, .int x1), (2, .int x2), (3, .int x3), (4, .int x4), (5, .int x5), (6, .int x6), (7, .int x7), (8, .int x8)] [] (qTM, qLM, qPM, M) 0 0 := by
    intro k73 hk73 nf
    induction nf with
    | zero => intros; exact g_stop
    | succ nf ih =>
      intro x1 x2 x3 x4 x5 x6 x7 x8 M
      rw [b_X12_stand_132]
      refine g_iload X dX12_stand_132 8 rfl ?_
      refine g_if_le X 181 dX12_stand_134 rfl (fun h3 => ?_) (fun h3 => ?_)
      · exact g_sub [0, 1, 2, 3, 4, 5, 6, 8] rfl (hb_181 k73 hk73 x1 x2 x3 x4 x5 x6 x8 M)
      · refine g_aload_n X dX12_stand_137 rfl 0 rfl ?_
        refine g_aload_n X dX12_stand_138 rfl 0 rfl ?_
        refine g_getr X fa_X12_7 rfl rfl dX12_stand_139 ?_
        refine g_iload X dX12_stand_142 8 rfl ?_
        refine g_iconst (v := 1) X dX12_stand_144 (by decide) ?_
        refine g_isub X dX12_stand_145 ?_
        refine g_ild X rfl rfl dX12_stand_146 (fun v4 => ?_)
        refine g_iload X dX12_stand_147 4 rfl ?_
        refine g_iload X dX12_stand_149 5 rfl ?_
        refine g_bVi (As := [.int v4, .int x4, .int x5]) (rest := []) X (c_X12_sumOf l K M v4 x4 x5) lk_X12_499 rfl rfl rfl (Nat.le_of_ble_eq_true rfl) ⟨Nat.le_of_ble_eq_true rfl, Nat.le_of_ble_eq_true rfl⟩ ⟨Nat.zero_le _, Nat.zero_le _⟩ dX12_stand_151 (fun r5 => ?_)
        refine g_iload X dX12_stand_154 7 rfl ?_
        refine g_icmp_ge X 181 dX12_stand_156 rfl (fun h6 => ?_) (fun h6 => ?_)
        · exact g_sub [0, 1, 2, 3, 4, 5, 6, 8] rfl (hb_181 k73 hk73 x1 x2 x3 x4 x5 x6 x8 M)
        · refine g_aload_n X dX12_stand_159 rfl 0 rfl ?_
          refine g_getr X fa_X12_7 rfl rfl dX12_stand_160 ?_
          refine g_iload X dX12_stand_163 8 rfl ?_
          refine g_aload_n X dX12_stand_165 rfl 0 rfl ?_
          refine g_getr X fa_X12_7 rfl rfl dX12_stand_166 ?_
          refine g_iload X dX12_stand_169 8 rfl ?_
          refine g_iconst (v := 1) X dX12_stand_171 (by decide) ?_
          refine g_isub X dX12_stand_172 ?_
          refine g_ild X rfl rfl dX12_stand_173 (fun v7 => ?_)
          refine g_isv X rfl rfl dX12_stand_174 (fun M8 => ?_)
          refine g_iinc (v := (-1)) X [(8, .int (x8 + (-1))), (0, .ref 5001), (1, .int x1), (2, .int x2), (3, .int x3), (4, .int x4), (5, .int x5), (6, .int x6), (7, .int x7)] 8 dX12_stand_175 rfl (by decide) (by decide) rfl ?_
          refine g_goto X 132 dX12_stand_178 rfl ?_
          exact g_sub [1, 2, 3, 4, 5, 6, 7, 8, 0] rfl (ih x1 x2 x3 x4 x5 x6 x7 (x8 + (-1)) M8)
  have hb_73 : ∀ (nf : Nat) (x1 : Int32) (x2 : Int32) (x3 : Int32) (x4 : Int32) (x5 : Int32) (x6 : Int32) (M : q_MM), GG p l e { frames := 5, cells := 0, slots := 0, locals := 125 } s m args below meth c0 K A (qTM, qLM, qPM, M0) ad false 9 (fun res => MQ below (q_Qc K false ad (qTM, qLM, qPM, M0) ((fun (res : Int32 × q_MM) => some (.int res.1)) res) ((fun (res : Int32 × q_MM) => (qTM, qLM, qPM, res.2)) res) A) args s 0 0 A) (b_X12_stand_73 nf x1 x2 x3 x4 x5 x6 M) 73 [(0, .ref 5001), (1, .int x1), (2, .int x2), (3, .int x3), (4, .int x4), (5, .int x5), (6, .int x6)] [] (qTM, qLM, qPM, M) 0 0 := by
    intro  nf
    induction nf with
    | zero => intros; exact g_stop
    | succ nf ih =>
      intro x1 x2 x3 x4 x5 x6 M
      rw [b_X12_stand_73]
      refine g_iload X dX12_stand_73 6 rfl ?_
      refine g_aload_n X dX12_stand_75 rfl 0 rfl ?_
      refine g_geti X fa_X12_108 rfl dX12_stand_76 ?_
      refine g_icmp_ge X 206 dX12_stand_79 rfl (fun h9 => ?_) (fun h9 => ?_)
      · refine g_aload_n X dX12_stand_206 rfl 0 rfl ?_
        refine g_iload_n X dX12_stand_207 rfl 1 rfl ?_
        refine g_iload_n X dX12_stand_208 rfl 2 rfl ?_
        refine g_iload_n X dX12_stand_209 rfl 3 rfl ?_
        refine g_bVv (As := [.int x1, .int x2, .int x3]) (rest := []) X (c_X12_puts l K M x1 x2 x3) lk_X12_330 rfl rfl rfl (Nat.le_of_ble_eq_true rfl) ⟨Nat.le_of_ble_eq_true rfl, Nat.le_of_ble_eq_true rfl⟩ ⟨Nat.zero_le _, Nat.zero_le _⟩ dX12_stand_210 (fun r10 => ?_)
        refine g_aload_n X dX12_stand_213 rfl 0 rfl ?_
        refine g_geti X fa_X12_11 rfl dX12_stand_214 ?_
        exact g_iret X rfl rfl rfl dX12_stand_217
      · refine g_iload X dX12_stand_82 6 rfl ?_
        refine g_iload_n X dX12_stand_84 rfl 1 rfl ?_
        refine g_icmp_eq X 200 dX12_stand_85 rfl (fun h11 => ?_) (fun h11 => ?_)
        · exact g_sub [0, 1, 2, 3, 4, 5, 6] rfl (hb_200 (b_X12_stand_73 nf) ih x1 x2 x3 x4 x5 x6 M)
        · refine g_aload_n X dX12_stand_88 rfl 0 rfl ?_
          refine g_getr X fa_X12_170 rfl rfl dX12_stand_89 ?_
          refine g_iload X dX12_stand_92 6 rfl ?_
          refine g_ild X rfl rfl dX12_stand_94 (fun v12 => ?_)
          refine g_if_ne X 200 dX12_stand_95 rfl (fun h13 => ?_) (fun h13 => ?_)
          · refine g_aload_n X dX12_stand_98 rfl 0 rfl ?_
            refine g_iload X dX12_stand_99 6 rfl ?_
            refine g_iload_n X dX12_stand_101 rfl 2 rfl ?_
            refine g_iload_n X dX12_stand_102 rfl 3 rfl ?_
            refine g_bipush (v := 6) X dX12_stand_103 (by decide) ?_
            refine g_bVi (As := [.int x6, .int x2, .int x3, .int 6]) (rest := []) X (c_X12_wrong l K M x6 x2 x3 6) lk_X12_326 rfl rfl rfl (Nat.le_of_ble_eq_true rfl) ⟨Nat.le_of_ble_eq_true rfl, Nat.le_of_ble_eq_true rfl⟩ ⟨Nat.zero_le _, Nat.zero_le _⟩ dX12_stand_105 (fun r14 => ?_)
            refine g_if_eq X 114 dX12_stand_108 rfl (fun h15 => ?_) (fun h15 => ?_)
            · refine g_aload_n X dX12_stand_114 rfl 0 rfl ?_
              refine g_iload X dX12_stand_115 6 rfl ?_
              refine g_iload X dX12_stand_117 4 rfl ?_
              refine g_iload X dX12_stand_119 5 rfl ?_
              refine g_bVi (As := [.int x6, .int x4, .int x5]) (rest := []) X (c_X12_sumOf l K r14.2 x6 x4 x5) lk_X12_499 rfl rfl rfl (Nat.le_of_ble_eq_true rfl) ⟨Nat.le_of_ble_eq_true rfl, Nat.le_of_ble_eq_true rfl⟩ ⟨Nat.zero_le _, Nat.zero_le _⟩ dX12_stand_121 (fun r16 => ?_)
              refine g_istore X [(7, .int r16), (0, .ref 5001), (1, .int x1), (2, .int x2), (3, .int x3), (4, .int x4), (5, .int x5), (6, .int x6)] dX12_stand_124 (by decide) rfl ?_
              refine g_aload_n X dX12_stand_126 rfl 1 rfl ?_
              refine g_geti X fa_X12_11 rfl dX12_stand_127 ?_
              refine g_is X (fun v17 => [(8, .int v17), (7, .int r16), (0, .ref 5001), (1, .int x1), (2, .int x2), (3, .int x3), (4, .int x4), (5, .int x5), (6, .int x6)]) dX12_stand_130 (by decide) (fun _ => rfl) (fun v17 => ?_)
              exact g_sub [2, 3, 4, 5, 6, 7, 8, 1, 0] rfl (hb_132 (b_X12_stand_73 nf) ih q_fu x1 x2 x3 x4 x5 x6 r16 v17 r14.2)
            · refine g_goto X 200 dX12_stand_111 rfl ?_
              exact g_sub [0, 1, 2, 3, 4, 5, 6] rfl (hb_200 (b_X12_stand_73 nf) ih x1 x2 x3 x4 x5 x6 r14.2)
          · exact g_sub [0, 1, 2, 3, 4, 5, 6] rfl (hb_200 (b_X12_stand_73 nf) ih x1 x2 x3 x4 x5 x6 M)
  refine g_sub (lv' := [(0, .ref 5001), (1, .int a1)]) [0, 1] rfl ?_
  unfold f_X12_stand
  refine g_aload_n X dX12_stand_0 rfl 0 rfl ?_
  refine g_iconst (v := 0) X dX12_stand_1 (by decide) ?_
  refine g_pfi X fa_X12_1 rfl (by decide +kernel) rfl dX12_stand_2 (fun M18 => ?_)
  refine g_aload_n X dX12_stand_5 rfl 0 rfl ?_
  refine g_iload_n X dX12_stand_6 rfl 1 rfl ?_
  refine g_bVi (As := [.int a1]) (rest := []) X (c_X12_isPicture l K M18 a1) lk_X12_161 rfl rfl rfl (Nat.le_of_ble_eq_true rfl) ⟨Nat.le_of_ble_eq_true rfl, Nat.le_of_ble_eq_true rfl⟩ ⟨Nat.zero_le _, Nat.zero_le _⟩ dX12_stand_7 (fun r19 => ?_)
  refine g_if_eq X 23 dX12_stand_10 rfl (fun h20 => ?_) (fun h20 => ?_)
  · refine g_iconst (v := (-1)) X dX12_stand_23 (by decide) ?_
    exact g_iret X rfl rfl rfl dX12_stand_24
  · refine g_aload_n X dX12_stand_13 rfl 0 rfl ?_
    refine g_getr X fa_X12_170 rfl rfl dX12_stand_14 ?_
    refine g_iload_n X dX12_stand_17 rfl 1 rfl ?_
    refine g_ild X rfl rfl dX12_stand_18 (fun v21 => ?_)
    refine g_iconst (v := 1) X dX12_stand_19 (by decide) ?_
    refine g_icmp_eq X 25 dX12_stand_20 rfl (fun h22 => ?_) (fun h22 => ?_)
    · refine g_aload_n X dX12_stand_25 rfl 0 rfl ?_
      refine g_getr X fa_X12_155 rfl rfl dX12_stand_26 ?_
      refine g_iload_n X dX12_stand_29 rfl 1 rfl ?_
      refine g_ild X rfl rfl dX12_stand_30 (fun v23 => ?_)
      refine g_istore_n X [(2, .int v23), (0, .ref 5001), (1, .int a1)] dX12_stand_31 rfl (by decide) rfl ?_
      refine g_aload_n X dX12_stand_32 rfl 1 rfl ?_
      refine g_getr X fa_X12_158 rfl rfl dX12_stand_33 ?_
      refine g_iload_n X dX12_stand_36 rfl 2 rfl ?_
      refine g_ild X rfl rfl dX12_stand_37 (fun v24 => ?_)
      refine g_istore_n X [(3, .int v24), (2, .int v23), (0, .ref 5001), (1, .int a1)] dX12_stand_38 rfl (by decide) rfl ?_
      refine g_aload_n X dX12_stand_39 rfl 2 rfl ?_
      refine g_iload_n X dX12_stand_40 rfl 3 rfl ?_
      refine g_iconst (v := 0) X dX12_stand_41 (by decide) ?_
      refine g_bVv (As := [.int a1, .int 0]) (rest := []) X (c_X12_takes l K M18 a1 0) lk_X12_334 rfl rfl rfl (Nat.le_of_ble_eq_true rfl) ⟨Nat.le_of_ble_eq_true rfl, Nat.le_of_ble_eq_true rfl⟩ ⟨Nat.zero_le _, Nat.zero_le _⟩ dX12_stand_42 (fun r25 => ?_)
      refine g_aload_n X dX12_stand_45 rfl 2 rfl ?_
      refine g_iload_n X dX12_stand_46 rfl 1 rfl ?_
      refine g_iload_n X dX12_stand_47 rfl 0 rfl ?_
      refine g_iconst (v := (-1)) X dX12_stand_48 (by decide) ?_
      refine g_iconst (v := 1) X dX12_stand_49 (by decide) ?_
      refine g_bVi (As := [.int v23, .int v24, .int (-1), .int 1]) (rest := []) X (c_X12_beside l K r25 v23 v24 (-1) 1) lk_X12_288 rfl rfl rfl (Nat.le_of_ble_eq_true rfl) ⟨Nat.le_of_ble_eq_true rfl, Nat.le_of_ble_eq_true rfl⟩ ⟨Nat.zero_le _, Nat.zero_le _⟩ dX12_stand_50 (fun r26 => ?_)
      refine g_istore X [(4, .int r26), (3, .int v24), (2, .int v23), (0, .ref 5001), (1, .int a1)] dX12_stand_53 (by decide) rfl ?_
      refine g_aload_n X dX12_stand_55 rfl 3 rfl ?_
      refine g_iload_n X dX12_stand_56 rfl 2 rfl ?_
      refine g_iload_n X dX12_stand_57 rfl 1 rfl ?_
      refine g_iconst (v := (-1)) X dX12_stand_58 (by decide) ?_
      refine g_iconst (v := 0) X dX12_stand_59 (by decide) ?_
      refine g_bVi (As := [.int v23, .int v24, .int (-1), .int 0]) (rest := []) X (c_X12_beside l K r25 v23 v24 (-1) 0) lk_X12_288 rfl rfl rfl (Nat.le_of_ble_eq_true rfl) ⟨Nat.le_of_ble_eq_true rfl, Nat.le_of_ble_eq_true rfl⟩ ⟨Nat.zero_le _, Nat.zero_le _⟩ dX12_stand_60 (fun r27 => ?_)
      refine g_istore X [(5, .int r27), (4, .int r26), (3, .int v24), (2, .int v23), (0, .ref 5001), (1, .int a1)] dX12_stand_63 (by decide) rfl ?_
      refine g_aload_n X dX12_stand_65 rfl 4 rfl ?_
      refine g_iconst (v := 0) X dX12_stand_66 (by decide) ?_
      refine g_pfi X fa_X12_11 rfl (by decide +kernel) rfl dX12_stand_67 (fun M28 => ?_)
      refine g_iconst (v := 0) X dX12_stand_70 (by decide) ?_
      refine g_istore X [(6, .int 0), (5, .int r27), (4, .int r26), (3, .int v24), (2, .int v23), (0, .ref 5001), (1, .int a1)] dX12_stand_71 (by decide) rfl ?_
      exact g_sub [5, 6, 4, 3, 2, 1, 0] rfl (hb_73 q_fu a1 v23 v24 r26 r27 0 M28)
    · refine g_iconst (v := (-1)) X dX12_stand_23 (by decide) ?_
      exact g_iret X rfl rfl rfl dX12_stand_24
