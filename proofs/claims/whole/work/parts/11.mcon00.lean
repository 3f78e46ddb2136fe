set_option maxHeartbeats 4000000 in
set_option maxRecDepth 100000 in
theorem c_X12_thrown (l : Launch) (K : q_KK) (M : q_MM) : ∀ res, f_X12_thrown M = some res → Mt l yX12_thrown cX12_thrown 1 (some FieldType.int) 0 0 0 0 false K [.ref 5001] (qTM, qLM, qPM, M) (some (.int res)) ((qTM, qLM, qPM, M)) := by
  refine Mt.of (fun (res : Int32) => some (.int res)) (fun (_ : Int32) => (qTM, qLM, qPM, M)) (by decide) (Nat.le_of_ble_eq_true rfl) ?_
  intro p e s m args below meth c0 A ad X hN
  refine g_sub (lv' := [(0, .ref 5001)]) [0] rfl ?_
  unfold f_X12_thrown
  refine g_aload_n X dX12_thrown_0 rfl 0 rfl ?_
  refine g_geti X fa_X12_1 rfl dX12_thrown_1 ?_
  exact g_iret X rfl rfl rfl dX12_thrown_4
set_option maxHeartbeats 4000000 in
set_option maxRecDepth 100000 in
theorem c_X12_in (l : Launch) (K : q_KK) (M : q_MM) (a1 : Int64) (a2 : Int64) (a3 : Int64) : ∀ res, f_X12_in M a1 a2 a3 = some res → Mt l yX12_in cX12_in 6 (some FieldType.boolean) 0 0 0 0 false K [.long a1, .long a2, .long a3] (qTM, qLM, qPM, M) (some (.int res)) ((qTM, qLM, qPM, M)) := by
  refine Mt.of (fun (res : Int32) => some (.int res)) (fun (_ : Int32) => (qTM, qLM, qPM, M)) (by decide) (Nat.le_of_ble_eq_true rfl) ?_
  intro p e s m args below meth c0 A ad X hN
  refine g_sub (lv' := [(0, .long a1), (2, .long a2), (4, .long a3)]) [0, 1, 2] rfl ?_
  unfold f_X12_in
  refine g_lload_n X dX12_in_0 rfl 0 rfl ?_
  refine g_lload_n X dX12_in_1 rfl 1 rfl ?_
  refine g_lcmp X dX12_in_2 ?_
  refine g_if_lt X 17 dX12_in_3 rfl (fun h1 => ?_) (fun h1 => ?_)
  · refine g_iconst (v := 0) X dX12_in_17 (by decide) ?_
    exact g_zret X rfl rfl rfl dX12_in_18
  · refine g_lload_n X dX12_in_6 rfl 0 rfl ?_
    refine g_lload X dX12_in_7 2 rfl ?_
    refine g_lcmp X dX12_in_9 ?_
    refine g_if_gt X 17 dX12_in_10 rfl (fun h2 => ?_) (fun h2 => ?_)
    · refine g_iconst (v := 0) X dX12_in_17 (by decide) ?_
      exact g_zret X rfl rfl rfl dX12_in_18
    · refine g_iconst (v := 1) X dX12_in_13 (by decide) ?_
      refine g_goto X 18 dX12_in_14 rfl ?_
      exact g_zret X rfl rfl rfl dX12_in_18
set_option maxHeartbeats 4000000 in
set_option maxRecDepth 100000 in
theorem c_X12_refuse (l : Launch) (K : q_KK) (M0 : q_MM) : ∀ res, f_X12_refuse M0 = some res → Mt l yX12_refuse cX12_refuse 1 (some FieldType.int) 0 0 0 0 false K [.ref 5001] (qTM, qLM, qPM, M0) (some (.int res.1)) ((qTM, qLM, qPM, res.2)) := by
  refine Mt.of (fun (res : Int32 × q_MM) => some (.int res.1)) (fun (res : Int32 × q_MM) => (qTM, qLM, qPM, res.2)) (by decide) (Nat.le_of_ble_eq_true rfl) ?_
  intro p e s m args below meth c0 A ad X hN
  refine g_sub (lv' := [(0, .ref 5001)]) [0] rfl ?_
  unfold f_X12_refuse
  refine g_aload_n X dX12_refuse_0 rfl 0 rfl ?_
  refine g_iconst (v := 1) X dX12_refuse_1 (by decide) ?_
  refine g_pfi X fa_X12_1 rfl (by decide +kernel) rfl dX12_refuse_2 (fun M1 => ?_)
  refine g_iconst (v := 0) X dX12_refuse_5 (by decide) ?_
  exact g_iret X rfl rfl rfl dX12_refuse_6
set_option maxHeartbeats 4000000 in
set_option maxRecDepth 100000 in
theorem c_X12_truth (l : Launch) (K : q_KK) (M : q_MM) (a1 : Int32) : ∀ res, f_X12_truth M a1 = some res → Mt l yX12_truth cX12_truth 1 (some FieldType.int) 0 0 0 0 false K [.int a1] (qTM, qLM, qPM, M) (some (.int res)) ((qTM, qLM, qPM, M)) := by
  refine Mt.of (fun (res : Int32) => some (.int res)) (fun (_ : Int32) => (qTM, qLM, qPM, M)) (by decide) (Nat.le_of_ble_eq_true rfl) ?_
  intro p e s m args below meth c0 A ad X hN
  refine g_sub (lv' := [(0, .int a1)]) [0] rfl ?_
  unfold f_X12_truth
  refine g_iload_n X dX12_truth_0 rfl 0 rfl ?_
  refine g_if_eq X 8 dX12_truth_1 rfl (fun h1 => ?_) (fun h1 => ?_)
  · refine g_iconst (v := 0) X dX12_truth_8 (by decide) ?_
    exact g_iret X rfl rfl rfl dX12_truth_9
  · refine g_iconst (v := 1) X dX12_truth_4 (by decide) ?_
    refine g_goto X 9 dX12_truth_5 rfl ?_
    exact g_iret X rfl rfl rfl dX12_truth_9
set_option maxHeartbeats 4000000 in
set_option maxRecDepth 100000 in
theorem c_X12_enters (l : Launch) (K : q_KK) (M0 : q_MM) (a1 : Int32) : ∀ res, f_X12_enters M0 a1 = some res → Mt l yX12_enters cX12_enters 2 (none : Option FieldType) 0 0 0 0 false K [.ref 5001, .int a1] (qTM, qLM, qPM, M0) (none) ((qTM, qLM, qPM, res)) := by
  refine Mt.of (fun (_ : q_MM) => none) (fun (res : q_MM) => (qTM, qLM, qPM, res)) (by decide) (Nat.le_of_ble_eq_true rfl) ?_
  intro p e s m args below meth c0 A ad X hN
  refine g_sub (lv' := [(0, .ref 5001), (1, .int a1)]) [0, 1] rfl ?_
  unfold f_X12_enters
  refine g_aload_n X dX12_enters_0 rfl 0 rfl ?_
  refine g_getr X fa_X12_7 rfl rfl dX12_enters_1 ?_
  refine g_aload_n X dX12_enters_4 rfl 0 rfl ?_
  refine g_geti X fa_X12_11 rfl dX12_enters_5 ?_
  refine g_iload_n X dX12_enters_8 rfl 1 rfl ?_
  refine g_isv X rfl rfl dX12_enters_9 (fun M1 => ?_)
  refine g_aload_n X dX12_enters_10 rfl 0 rfl ?_
  refine g_dup X dX12_enters_11 rfl ?_
  refine g_geti X fa_X12_11 rfl dX12_enters_12 ?_
  refine g_iconst (v := 1) X dX12_enters_15 (by decide) ?_
  refine g_iadd X dX12_enters_16 ?_
  refine g_pfi X fa_X12_11 rfl (by decide +kernel) rfl dX12_enters_17 (fun M2 => ?_)
  exact g_vret X rfl rfl rfl dX12_enters_20
set_option maxHeartbeats 4000000 in
set_option maxRecDepth 100000 in
theorem c_X12_isRoom (l : Launch) (K : q_KK) (M : q_MM) (a1 : Int32) : ∀ res, f_X12_isRoom M a1 = some res → Mt l yX12_isRoom cX12_isRoom 2 (some FieldType.boolean) 1 25 0 0 false K [.ref 5001, .int a1] (qTM, qLM, qPM, M) (some (.int res)) ((qTM, qLM, qPM, M)) := by
  refine Mt.of (fun (res : Int32) => some (.int res)) (fun (_ : Int32) => (qTM, qLM, qPM, M)) (by decide) (Nat.le_of_ble_eq_true rfl) ?_
  intro p e s m args below meth c0 A ad X hN
  refine g_sub (lv' := [(0, .ref 5001), (1, .int a1)]) [0, 1] rfl ?_
  unfold f_X12_isRoom
  refine g_iload_n X dX12_isRoom_0 rfl 1 rfl ?_
  refine g_i2l X dX12_isRoom_1 ?_
  refine g_lconst (v := 0) X dX12_isRoom_2 (by decide) ?_
  refine g_aload_n X dX12_isRoom_3 rfl 0 rfl ?_
  refine g_geti X fa_X12_14 rfl dX12_isRoom_4 ?_
  refine g_iconst (v := 1) X dX12_isRoom_7 (by decide) ?_
  refine g_isub X dX12_isRoom_8 ?_
  refine g_i2l X dX12_isRoom_9 ?_
  refine g_bSi (As := [.long (Int32.toInt64 a1), .long 0, .long (Int32.toInt64 ((M 5001 3) - 1))]) (rest := []) X (c_X12_in l K M (Int32.toInt64 a1) 0 (Int32.toInt64 ((M 5001 3) - 1))) lk_X12_17 rfl rfl (Nat.le_of_ble_eq_true rfl) ⟨Nat.le_of_ble_eq_true rfl, Nat.le_of_ble_eq_true rfl⟩ ⟨Nat.zero_le _, Nat.zero_le _⟩ dX12_isRoom_10 (fun r1 => ?_)
  exact g_zret X rfl rfl rfl dX12_isRoom_13
set_option maxHeartbeats 4000000 in
set_option maxRecDepth 100000 in
theorem c_X12_isWall (l : Launch) (K : q_KK) (M : q_MM) (a1 : Int32) : ∀ res, f_X12_isWall M a1 = some res → Mt l yX12_isWall cX12_isWall 2 (some FieldType.boolean) 1 25 0 0 false K [.ref 5001, .int a1] (qTM, qLM, qPM, M) (some (.int res)) ((qTM, qLM, qPM, M)) := by
  refine Mt.of (fun (res : Int32) => some (.int res)) (fun (_ : Int32) => (qTM, qLM, qPM, M)) (by decide) (Nat.le_of_ble_eq_true rfl) ?_
  intro p e s m args below meth c0 A ad X hN
  refine g_sub (lv' := [(0, .ref 5001), (1, .int a1)]) [0, 1] rfl ?_
  unfold f_X12_isWall
  refine g_iload_n X dX12_isWall_0 rfl 1 rfl ?_
  refine g_i2l X dX12_isWall_1 ?_
  refine g_lconst (v := 0) X dX12_isWall_2 (by decide) ?_
  refine g_aload_n X dX12_isWall_3 rfl 0 rfl ?_
  refine g_geti X fa_X12_21 rfl dX12_isWall_4 ?_
  refine g_iconst (v := 1) X dX12_isWall_7 (by decide) ?_
  refine g_isub X dX12_isWall_8 ?_
  refine g_i2l X dX12_isWall_9 ?_
  refine g_bSi (As := [.long (Int32.toInt64 a1), .long 0, .long (Int32.toInt64 ((M 5001 9) - 1))]) (rest := []) X (c_X12_in l K M (Int32.toInt64 a1) 0 (Int32.toInt64 ((M 5001 9) - 1))) lk_X12_17 rfl rfl (Nat.le_of_ble_eq_true rfl) ⟨Nat.le_of_ble_eq_true rfl, Nat.le_of_ble_eq_true rfl⟩ ⟨Nat.zero_le _, Nat.zero_le _⟩ dX12_isWall_10 (fun r1 => ?_)
  exact g_zret X rfl rfl rfl dX12_isWall_13
set_option maxHeartbeats 4000000 in
set_option maxRecDepth 100000 in
theorem c_X12_room (l : Launch) (K : q_KK) (M0 : q_MM) : ∀ res, f_X12_room M0 = some res → Mt l yX12_room cX12_room 1 (some FieldType.int) 0 0 0 0 false K [.ref 5001] (qTM, qLM, qPM, M0) (some (.int res.1)) ((qTM, qLM, qPM, res.2)) := by
  refine Mt.of (fun (res : Int32 × q_MM) => some (.int res.1)) (fun (res : Int32 × q_MM) => (qTM, qLM, qPM, res.2)) (by decide) (Nat.le_of_ble_eq_true rfl) ?_
  intro p e s m args below meth c0 A ad X hN
  refine g_sub (lv' := [(0, .ref 5001)]) [0] rfl ?_
  unfold f_X12_room
  refine g_aload_n X dX12_room_0 rfl 0 rfl ?_
  refine g_iconst (v := 0) X dX12_room_1 (by decide) ?_
  refine g_pfi X fa_X12_1 rfl (by decide +kernel) rfl dX12_room_2 (fun M1 => ?_)
  refine g_aload_n X dX12_room_5 rfl 0 rfl ?_
  refine g_geti X fa_X12_14 rfl dX12_room_6 ?_
  refine g_bipush (v := 10) X dX12_room_9 (by decide) ?_
  refine g_icmp_ne X 16 dX12_room_11 rfl (fun h2 => ?_) (fun h2 => ?_)
  · refine g_iconst (v := (-1)) X dX12_room_14 (by decide) ?_
    exact g_iret X rfl rfl rfl dX12_room_15
  · refine g_aload_n X dX12_room_16 rfl 0 rfl ?_
    refine g_dup X dX12_room_17 rfl ?_
    refine g_geti X fa_X12_14 rfl dX12_room_18 ?_
    refine g_iconst (v := 1) X dX12_room_21 (by decide) ?_
    refine g_iadd X dX12_room_22 ?_
    refine g_pfi X fa_X12_14 rfl (by decide +kernel) rfl dX12_room_23 (fun M3 => ?_)
    refine g_aload_n X dX12_room_26 rfl 0 rfl ?_
    refine g_geti X fa_X12_14 rfl dX12_room_27 ?_
    refine g_iconst (v := 1) X dX12_room_30 (by decide) ?_
    refine g_isub X dX12_room_31 ?_
    exact g_iret X rfl rfl rfl dX12_room_32
set_option maxHeartbeats 4000000 in
set_option maxRecDepth 100000 in
theorem c_X12_door (l : Launch) (K : q_KK) (M0 : q_MM) (a1 : Int32) (a2 : Int32) (a3 : Int32) (a4 : Int32) : ∀ res, f_X12_door M0 a1 a2 a3 a4 = some res → Mt l yX12_door cX12_door 5 (some FieldType.int) 2 46 0 0 false K [.ref 5001, .int a1, .int a2, .int a3, .int a4] (qTM, qLM, qPM, M0) (some (.int res.1)) ((qTM, qLM, qPM, res.2)) := by
  refine Mt.of (fun (res : Int32 × q_MM) => some (.int res.1)) (fun (res : Int32 × q_MM) => (qTM, qLM, qPM, res.2)) (by decide) (Nat.le_of_ble_eq_true rfl) ?_
  intro p e s m args below meth c0 A ad X hN
  refine g_sub (lv' := [(0, .ref 5001), (1, .int a1), (2, .int a2), (3, .int a3), (4, .int a4)]) [0, 1, 2, 3, 4] rfl ?_
  unfold f_X12_door
  refine g_aload_n X dX12_door_0 rfl 0 rfl ?_
  refine g_iconst (v := 0) X dX12_door_1 (by decide) ?_
  refine g_pfi X fa_X12_1 rfl (by decide +kernel) rfl dX12_door_2 (fun M1 => ?_)
  refine g_aload_n X dX12_door_5 rfl 0 rfl ?_
  refine g_iload_n X dX12_door_6 rfl 1 rfl ?_
  refine g_bVi (As := [.int a1]) (rest := []) X (c_X12_isRoom l K M1 a1) lk_X12_24 rfl rfl rfl (Nat.le_of_ble_eq_true rfl) ⟨Nat.le_of_ble_eq_true rfl, Nat.le_of_ble_eq_true rfl⟩ ⟨Nat.zero_le _, Nat.zero_le _⟩ dX12_door_7 (fun r2 => ?_)
  refine g_if_eq X 64 dX12_door_10 rfl (fun h3 => ?_) (fun h3 => ?_)
  · refine g_iconst (v := (-1)) X dX12_door_64 (by decide) ?_
    exact g_iret X rfl rfl rfl dX12_door_65
  · refine g_aload_n X dX12_door_13 rfl 0 rfl ?_
    refine g_iload_n X dX12_door_14 rfl 2 rfl ?_
    refine g_bVi (As := [.int a2]) (rest := []) X (c_X12_isRoom l K M1 a2) lk_X12_24 rfl rfl rfl (Nat.le_of_ble_eq_true rfl) ⟨Nat.le_of_ble_eq_true rfl, Nat.le_of_ble_eq_true rfl⟩ ⟨Nat.zero_le _, Nat.zero_le _⟩ dX12_door_15 (fun r4 => ?_)
    refine g_if_eq X 64 dX12_door_18 rfl (fun h5 => ?_) (fun h5 => ?_)
    · refine g_iconst (v := (-1)) X dX12_door_64 (by decide) ?_
      exact g_iret X rfl rfl rfl dX12_door_65
    · refine g_iload_n X dX12_door_21 rfl 1 rfl ?_
      refine g_iload_n X dX12_door_22 rfl 2 rfl ?_
      refine g_icmp_eq X 64 dX12_door_23 rfl (fun h6 => ?_) (fun h6 => ?_)
      · refine g_iconst (v := (-1)) X dX12_door_64 (by decide) ?_
        exact g_iret X rfl rfl rfl dX12_door_65
      · refine g_iload_n X dX12_door_26 rfl 3 rfl ?_
        refine g_i2l X dX12_door_27 ?_
        refine g_ldc2 (v := 50) X wc_X12_28 dX12_door_28 ?_
        refine g_ldc2 (v := 400) X wc_X12_30 dX12_door_31 ?_
        refine g_bSi (As := [.long (Int32.toInt64 a3), .long 50, .long 400]) (rest := []) X (c_X12_in l K M1 (Int32.toInt64 a3) 50 400) lk_X12_17 rfl rfl (Nat.le_of_ble_eq_true rfl) ⟨Nat.le_of_ble_eq_true rfl, Nat.le_of_ble_eq_true rfl⟩ ⟨Nat.zero_le _, Nat.zero_le _⟩ dX12_door_34 (fun r7 => ?_)
        refine g_if_eq X 64 dX12_door_37 rfl (fun h8 => ?_) (fun h8 => ?_)
        · refine g_iconst (v := (-1)) X dX12_door_64 (by decide) ?_
          exact g_iret X rfl rfl rfl dX12_door_65
        · refine g_iload X dX12_door_40 4 rfl ?_
          refine g_i2l X dX12_door_42 ?_
          refine g_ldc2 (v := 100) X wc_X12_32 dX12_door_43 ?_
          refine g_ldc2 (v := 600) X wc_X12_34 dX12_door_46 ?_
          refine g_bSi (As := [.long (Int32.toInt64 a4), .long 100, .long 600]) (rest := []) X (c_X12_in l K M1 (Int32.toInt64 a4) 100 600) lk_X12_17 rfl rfl (Nat.le_of_ble_eq_true rfl) ⟨Nat.le_of_ble_eq_true rfl, Nat.le_of_ble_eq_true rfl⟩ ⟨Nat.zero_le _, Nat.zero_le _⟩ dX12_door_49 (fun r9 => ?_)
          refine g_if_eq X 64 dX12_door_52 rfl (fun h10 => ?_) (fun h10 => ?_)
          · refine g_iconst (v := (-1)) X dX12_door_64 (by decide) ?_
            exact g_iret X rfl rfl rfl dX12_door_65
          · refine g_aload_n X dX12_door_55 rfl 0 rfl ?_
            refine g_geti X fa_X12_36 rfl dX12_door_56 ?_
            refine g_bipush (v := 20) X dX12_door_59 (by decide) ?_
            refine g_icmp_ne X 66 dX12_door_61 rfl (fun h11 => ?_) (fun h11 => ?_)
            · refine g_iconst (v := (-1)) X dX12_door_64 (by decide) ?_
              exact g_iret X rfl rfl rfl dX12_door_65
            · refine g_aload_n X dX12_door_66 rfl 0 rfl ?_
              refine g_getr X fa_X12_39 rfl rfl dX12_door_67 ?_
              refine g_aload_n X dX12_door_70 rfl 0 rfl ?_
              refine g_geti X fa_X12_36 rfl dX12_door_71 ?_
              refine g_iload_n X dX12_door_74 rfl 1 rfl ?_
              refine g_isv X rfl rfl dX12_door_75 (fun M12 => ?_)
              refine g_aload_n X dX12_door_76 rfl 0 rfl ?_
              refine g_getr X fa_X12_42 rfl rfl dX12_door_77 ?_
              refine g_aload_n X dX12_door_80 rfl 0 rfl ?_
              refine g_geti X fa_X12_36 rfl dX12_door_81 ?_
              refine g_iload_n X dX12_door_84 rfl 2 rfl ?_
              refine g_isv X rfl rfl dX12_door_85 (fun M13 => ?_)
              refine g_aload_n X dX12_door_86 rfl 0 rfl ?_
              refine g_getr X fa_X12_45 rfl rfl dX12_door_87 ?_
              refine g_aload_n X dX12_door_90 rfl 0 rfl ?_
              refine g_geti X fa_X12_36 rfl dX12_door_91 ?_
              refine g_iload_n X dX12_door_94 rfl 3 rfl ?_
              refine g_isv X rfl rfl dX12_door_95 (fun M14 => ?_)
              refine g_aload_n X dX12_door_96 rfl 0 rfl ?_
              refine g_getr X fa_X12_48 rfl rfl dX12_door_97 ?_
              refine g_aload_n X dX12_door_100 rfl 0 rfl ?_
              refine g_geti X fa_X12_36 rfl dX12_door_101 ?_
              refine g_iload X dX12_door_104 4 rfl ?_
              refine g_isv X rfl rfl dX12_door_106 (fun M15 => ?_)
              refine g_aload_n X dX12_door_107 rfl 0 rfl ?_
              refine g_dup X dX12_door_108 rfl ?_
              refine g_geti X fa_X12_36 rfl dX12_door_109 ?_
              refine g_iconst (v := 1) X dX12_door_112 (by decide) ?_
              refine g_iadd X dX12_door_113 ?_
              refine g_pfi X fa_X12_36 rfl (by decide +kernel) rfl dX12_door_114 (fun M16 => ?_)
              refine g_aload_n X dX12_door_117 rfl 0 rfl ?_
              refine g_geti X fa_X12_36 rfl dX12_door_118 ?_
              refine g_iconst (v := 1) X dX12_door_121 (by decide) ?_
              refine g_isub X dX12_door_122 ?_
              exact g_iret X rfl rfl rfl dX12_door_123
set_option maxHeartbeats 4000000 in
set_option maxRecDepth 100000 in
theorem c_X12_wall (l : Launch) (K : q_KK) (M0 : q_MM) (a1 : Int32) (a2 : Int32) (a3 : Int32) (a4 : Int32) : ∀ res, f_X12_wall M0 a1 a2 a3 a4 = some res → Mt l yX12_wall cX12_wall 5 (some FieldType.int) 2 46 0 0 false K [.ref 5001, .int a1, .int a2, .int a3, .int a4] (qTM, qLM, qPM, M0) (some (.int res.1)) ((qTM, qLM, qPM, res.2)) := by
  refine Mt.of (fun (res : Int32 × q_MM) => some (.int res.1)) (fun (res : Int32 × q_MM) => (qTM, qLM, qPM, res.2)) (by decide) (Nat.le_of_ble_eq_true rfl) ?_
  intro p e s m args below meth c0 A ad X hN
  refine g_sub (lv' := [(0, .ref 5001), (1, .int a1), (2, .int a2), (3, .int a3), (4, .int a4)]) [0, 1, 2, 3, 4] rfl ?_
  unfold f_X12_wall
  refine g_aload_n X dX12_wall_0 rfl 0 rfl ?_
  refine g_iconst (v := 0) X dX12_wall_1 (by decide) ?_
  refine g_pfi X fa_X12_1 rfl (by decide +kernel) rfl dX12_wall_2 (fun M1 => ?_)
  refine g_aload_n X dX12_wall_5 rfl 0 rfl ?_
  refine g_iload_n X dX12_wall_6 rfl 1 rfl ?_
  refine g_bVi (As := [.int a1]) (rest := []) X (c_X12_isRoom l K M1 a1) lk_X12_24 rfl rfl rfl (Nat.le_of_ble_eq_true rfl) ⟨Nat.le_of_ble_eq_true rfl, Nat.le_of_ble_eq_true rfl⟩ ⟨Nat.zero_le _, Nat.zero_le _⟩ dX12_wall_7 (fun r2 => ?_)
  refine g_if_eq X 63 dX12_wall_10 rfl (fun h3 => ?_) (fun h3 => ?_)
  · refine g_iconst (v := (-1)) X dX12_wall_63 (by decide) ?_
    exact g_iret X rfl rfl rfl dX12_wall_64
  · refine g_iload_n X dX12_wall_13 rfl 2 rfl ?_
    refine g_i2l X dX12_wall_14 ?_
    refine g_ldc2 (v := 50) X wc_X12_28 dX12_wall_15 ?_
    refine g_ldc2 (v := 3000) X wc_X12_51 dX12_wall_18 ?_
    refine g_bSi (As := [.long (Int32.toInt64 a2), .long 50, .long 3000]) (rest := []) X (c_X12_in l K M1 (Int32.toInt64 a2) 50 3000) lk_X12_17 rfl rfl (Nat.le_of_ble_eq_true rfl) ⟨Nat.le_of_ble_eq_true rfl, Nat.le_of_ble_eq_true rfl⟩ ⟨Nat.zero_le _, Nat.zero_le _⟩ dX12_wall_21 (fun r4 => ?_)
    refine g_if_eq X 63 dX12_wall_24 rfl (fun h5 => ?_) (fun h5 => ?_)
    · refine g_iconst (v := (-1)) X dX12_wall_63 (by decide) ?_
      exact g_iret X rfl rfl rfl dX12_wall_64
    · refine g_iload_n X dX12_wall_27 rfl 3 rfl ?_
      refine g_i2l X dX12_wall_28 ?_
      refine g_ldc2 (v := 100) X wc_X12_32 dX12_wall_29 ?_
      refine g_ldc2 (v := 900) X wc_X12_53 dX12_wall_32 ?_
      refine g_bSi (As := [.long (Int32.toInt64 a3), .long 100, .long 900]) (rest := []) X (c_X12_in l K M1 (Int32.toInt64 a3) 100 900) lk_X12_17 rfl rfl (Nat.le_of_ble_eq_true rfl) ⟨Nat.le_of_ble_eq_true rfl, Nat.le_of_ble_eq_true rfl⟩ ⟨Nat.zero_le _, Nat.zero_le _⟩ dX12_wall_35 (fun r6 => ?_)
      refine g_if_eq X 63 dX12_wall_38 rfl (fun h7 => ?_) (fun h7 => ?_)
      · refine g_iconst (v := (-1)) X dX12_wall_63 (by decide) ?_
        exact g_iret X rfl rfl rfl dX12_wall_64
      · refine g_iload X dX12_wall_41 4 rfl ?_
        refine g_i2l X dX12_wall_43 ?_
        refine g_lconst (v := 1) X dX12_wall_44 (by decide) ?_
        refine g_ldc2 (v := 9999) X wc_X12_55 dX12_wall_45 ?_
        refine g_bSi (As := [.long (Int32.toInt64 a4), .long 1, .long 9999]) (rest := []) X (c_X12_in l K M1 (Int32.toInt64 a4) 1 9999) lk_X12_17 rfl rfl (Nat.le_of_ble_eq_true rfl) ⟨Nat.le_of_ble_eq_true rfl, Nat.le_of_ble_eq_true rfl⟩ ⟨Nat.zero_le _, Nat.zero_le _⟩ dX12_wall_48 (fun r8 => ?_)
        refine g_if_eq X 63 dX12_wall_51 rfl (fun h9 => ?_) (fun h9 => ?_)
        · refine g_iconst (v := (-1)) X dX12_wall_63 (by decide) ?_
          exact g_iret X rfl rfl rfl dX12_wall_64
        · refine g_aload_n X dX12_wall_54 rfl 0 rfl ?_
          refine g_geti X fa_X12_21 rfl dX12_wall_55 ?_
          refine g_bipush (v := 16) X dX12_wall_58 (by decide) ?_
          refine g_icmp_ne X 65 dX12_wall_60 rfl (fun h10 => ?_) (fun h10 => ?_)
          · refine g_iconst (v := (-1)) X dX12_wall_63 (by decide) ?_
            exact g_iret X rfl rfl rfl dX12_wall_64
          · refine g_aload_n X dX12_wall_65 rfl 0 rfl ?_
            refine g_getr X fa_X12_57 rfl rfl dX12_wall_66 ?_
            refine g_aload_n X dX12_wall_69 rfl 0 rfl ?_
            refine g_geti X fa_X12_21 rfl dX12_wall_70 ?_
            refine g_iload_n X dX12_wall_73 rfl 1 rfl ?_
            refine g_isv X rfl rfl dX12_wall_74 (fun M11 => ?_)
            refine g_aload_n X dX12_wall_75 rfl 0 rfl ?_
            refine g_getr X fa_X12_60 rfl rfl dX12_wall_76 ?_
            refine g_aload_n X dX12_wall_79 rfl 0 rfl ?_
            refine g_geti X fa_X12_21 rfl dX12_wall_80 ?_
            refine g_iload_n X dX12_wall_83 rfl 2 rfl ?_
            refine g_isv X rfl rfl dX12_wall_84 (fun M12 => ?_)
            refine g_aload_n X dX12_wall_85 rfl 0 rfl ?_
            refine g_getr X fa_X12_63 rfl rfl dX12_wall_86 ?_
            refine g_aload_n X dX12_wall_89 rfl 0 rfl ?_
            refine g_geti X fa_X12_21 rfl dX12_wall_90 ?_
            refine g_iload_n X dX12_wall_93 rfl 3 rfl ?_
            refine g_isv X rfl rfl dX12_wall_94 (fun M13 => ?_)
            refine g_aload_n X dX12_wall_95 rfl 0 rfl ?_
            refine g_getr X fa_X12_66 rfl rfl dX12_wall_96 ?_
            refine g_aload_n X dX12_wall_99 rfl 0 rfl ?_
            refine g_geti X fa_X12_21 rfl dX12_wall_100 ?_
            refine g_iload X dX12_wall_103 4 rfl ?_
            refine g_isv X rfl rfl dX12_wall_105 (fun M14 => ?_)
            refine g_aload_n X dX12_wall_106 rfl 0 rfl ?_
            refine g_getr X fa_X12_69 rfl rfl dX12_wall_107 ?_
            refine g_aload_n X dX12_wall_110 rfl 0 rfl ?_
            refine g_geti X fa_X12_21 rfl dX12_wall_111 ?_
            refine g_iconst (v := 1) X dX12_wall_114 (by decide) ?_
            refine g_isv X rfl rfl dX12_wall_115 (fun M15 => ?_)
            refine g_aload_n X dX12_wall_116 rfl 0 rfl ?_
            refine g_getr X fa_X12_72 rfl rfl dX12_wall_117 ?_
            refine g_aload_n X dX12_wall_120 rfl 0 rfl ?_
            refine g_geti X fa_X12_21 rfl dX12_wall_121 ?_
            refine g_iconst (v := 0) X dX12_wall_124 (by decide) ?_
            refine g_isv X rfl rfl dX12_wall_125 (fun M16 => ?_)
            refine g_aload_n X dX12_wall_126 rfl 0 rfl ?_
            refine g_dup X dX12_wall_127 rfl ?_
            refine g_geti X fa_X12_21 rfl dX12_wall_128 ?_
            refine g_iconst (v := 1) X dX12_wall_131 (by decide) ?_
            refine g_iadd X dX12_wall_132 ?_
            refine g_pfi X fa_X12_21 rfl (by decide +kernel) rfl dX12_wall_133 (fun M17 => ?_)
            refine g_aload_n X dX12_wall_136 rfl 0 rfl ?_
            refine g_geti X fa_X12_21 rfl dX12_wall_137 ?_
            refine g_iconst (v := 1) X dX12_wall_140 (by decide) ?_
            refine g_isub X dX12_wall_141 ?_
            exact g_iret X rfl rfl rfl dX12_wall_142
set_option maxHeartbeats 4000000 in
set_option maxRecDepth 100000 in
theorem c_X12_lit (l : Launch) (K : q_KK) (M : q_MM) (a1 : Int32) (a2 : Int32) : ∀ res, f_X12_lit M a1 a2 = some res → Mt l yX12_lit cX12_lit 4 (some FieldType.int) 1 25 0 0 false K [.ref 5001, .int a1, .int a2] (qTM, qLM, qPM, M) (some (.int res)) ((qTM, qLM, qPM, M)) := by
  refine Mt.of (fun (res : Int32) => some (.int res)) (fun (_ : Int32) => (qTM, qLM, qPM, M)) (by decide) (Nat.le_of_ble_eq_true rfl) ?_
  intro p e s m args below meth c0 A ad X hN
  refine g_sub (lv' := [(0, .ref 5001), (1, .int a1), (2, .int a2)]) [0, 1, 2] rfl ?_
  unfold f_X12_lit
  refine g_iload_n X dX12_lit_0 rfl 2 rfl ?_
  refine g_i2l X dX12_lit_1 ?_
  refine g_aload_n X dX12_lit_2 rfl 0 rfl ?_
  refine g_getr X fa_X12_75 rfl rfl dX12_lit_3 ?_
  refine g_iconst (v := 2) X dX12_lit_6 (by decide) ?_
  refine g_ild X rfl rfl dX12_lit_7 (fun v1 => ?_)
  refine g_i2l X dX12_lit_8 ?_
  refine g_aload_n X dX12_lit_9 rfl 0 rfl ?_
  refine g_getr X fa_X12_75 rfl rfl dX12_lit_10 ?_
  refine g_iconst (v := 3) X dX12_lit_13 (by decide) ?_
  refine g_ild X rfl rfl dX12_lit_14 (fun v2 => ?_)
  refine g_i2l X dX12_lit_15 ?_
  refine g_bSi (As := [.long (Int32.toInt64 a2), .long (Int32.toInt64 v1), .long (Int32.toInt64 v2)]) (rest := []) X (c_X12_in l K M (Int32.toInt64 a2) (Int32.toInt64 v1) (Int32.toInt64 v2)) lk_X12_17 rfl rfl (Nat.le_of_ble_eq_true rfl) ⟨Nat.le_of_ble_eq_true rfl, Nat.le_of_ble_eq_true rfl⟩ ⟨Nat.zero_le _, Nat.zero_le _⟩ dX12_lit_16 (fun r3 => ?_)
  refine g_istore_n X [(3, .int r3), (0, .ref 5001), (1, .int a1), (2, .int a2)] dX12_lit_19 rfl (by decide) rfl ?_
  refine g_iload_n X dX12_lit_20 rfl 0 rfl ?_
  refine g_if_eq X 60 dX12_lit_21 rfl (fun h4 => ?_) (fun h4 => ?_)
  · refine g_iconst (v := 0) X dX12_lit_60 (by decide) ?_
    exact g_iret X rfl rfl rfl dX12_lit_61
  · refine g_iload_n X dX12_lit_24 rfl 3 rfl ?_
    refine g_i2l X dX12_lit_25 ?_
    refine g_aload_n X dX12_lit_26 rfl 1 rfl ?_
    refine g_getr X fa_X12_69 rfl rfl dX12_lit_27 ?_
    refine g_iload_n X dX12_lit_30 rfl 2 rfl ?_
    refine g_ild X rfl rfl dX12_lit_31 (fun v5 => ?_)
    refine g_i2l X dX12_lit_32 ?_
    refine g_aload_n X dX12_lit_33 rfl 1 rfl ?_
    refine g_getr X fa_X12_72 rfl rfl dX12_lit_34 ?_
    refine g_iload_n X dX12_lit_37 rfl 2 rfl ?_
    refine g_ild X rfl rfl dX12_lit_38 (fun v6 => ?_)
    refine g_i2l X dX12_lit_39 ?_
    refine g_bSi (As := [.long (Int32.toInt64 a2), .long (Int32.toInt64 v5), .long (Int32.toInt64 v6)]) (rest := []) X (c_X12_in l K M (Int32.toInt64 a2) (Int32.toInt64 v5) (Int32.toInt64 v6)) lk_X12_17 rfl rfl (Nat.le_of_ble_eq_true rfl) ⟨Nat.le_of_ble_eq_true rfl, Nat.le_of_ble_eq_true rfl⟩ ⟨Nat.zero_le _, Nat.zero_le _⟩ dX12_lit_40 (fun r7 => ?_)
    refine g_if_ne X 60 dX12_lit_43 rfl (fun h8 => ?_) (fun h8 => ?_)
    · refine g_aload_n X dX12_lit_46 rfl 1 rfl ?_
      refine g_getr X fa_X12_78 rfl rfl dX12_lit_47 ?_
      refine g_bipush (v := 24) X dX12_lit_50 (by decide) ?_
      refine g_iload_n X dX12_lit_52 rfl 2 rfl ?_
      refine g_imul X dX12_lit_53 ?_
      refine g_iload_n X dX12_lit_54 rfl 3 rfl ?_
      refine g_iadd X dX12_lit_55 ?_
      refine g_ild X rfl rfl dX12_lit_56 (fun v9 => ?_)
      refine g_goto X 61 dX12_lit_57 rfl ?_
      exact g_iret X rfl rfl rfl dX12_lit_61
    · refine g_iconst (v := 0) X dX12_lit_60 (by decide) ?_
      exact g_iret X rfl rfl rfl dX12_lit_61
set_option maxHeartbeats 4000000 in
set_option maxRecDepth 100000 in
theorem c_X12_daylight (l : Launch) (K : q_KK) (M : q_MM) (a1 : Int32) : ∀ res, f_X12_daylight M a1 = some res → Mt l yX12_daylight cX12_daylight 4 (some FieldType.int) 2 48 0 0 false K [.ref 5001, .int a1] (qTM, qLM, qPM, M) (some (.int res)) ((qTM, qLM, qPM, M)) := by
  refine Mt.of (fun (res : Int32) => some (.int res)) (fun (_ : Int32) => (qTM, qLM, qPM, M)) (by decide) (Nat.le_of_ble_eq_true rfl) ?_
  intro p e s m args below meth c0 A ad X hN
  have hb_4 : ∀ (nf : Nat) (x1 : Int32) (x2 : Int32) (x3 : Int32), GG p l e { frames := 2, cells := 0, slots := 0, locals := 48 } s m args below meth c0 K A (qTM, qLM, qPM, M) ad false 4 (fun res => MQ below (q_Qc K false ad (qTM, qLM, qPM, M) ((fun (res : Int32) => some (.int res)) res) ((fun (_ : Int32) => (qTM, qLM, qPM, M)) res) A) args s 0 0 A) (b_X12_daylight_4 M nf x1 x2 x3) 4 [(0, .ref 5001), (1, .int x1), (2, .int x2), (3, .int x3)] [] (qTM, qLM, qPM, M) 0 0 := by
    intro  nf
    induction nf with
    | zero => intros; exact g_stop
    | succ nf ih =>
      intro x1 x2 x3
      rw [b_X12_daylight_4]
      refine g_iload_n X dX12_daylight_4 rfl 3 rfl ?_
      refine g_bipush (v := 24) X dX12_daylight_5 (by decide) ?_
      refine g_icmp_ge X 25 dX12_daylight_7 rfl (fun h1 => ?_) (fun h1 => ?_)
      · refine g_iload_n X dX12_daylight_25 rfl 2 rfl ?_
        exact g_iret X rfl rfl rfl dX12_daylight_26
      · refine g_iload_n X dX12_daylight_10 rfl 2 rfl ?_
        refine g_aload_n X dX12_daylight_11 rfl 0 rfl ?_
        refine g_iload_n X dX12_daylight_12 rfl 1 rfl ?_
        refine g_iload_n X dX12_daylight_13 rfl 3 rfl ?_
        refine g_bVi (As := [.int x1, .int x3]) (rest := [.int x2]) X (c_X12_lit l K M x1 x3) lk_X12_81 rfl rfl rfl (Nat.le_of_ble_eq_true rfl) ⟨Nat.le_of_ble_eq_true rfl, Nat.le_of_ble_eq_true rfl⟩ ⟨Nat.zero_le _, Nat.zero_le _⟩ dX12_daylight_14 (fun r2 => ?_)
        refine g_iadd X dX12_daylight_17 ?_
        refine g_isn X (fun v3 => [(2, .int v3), (0, .ref 5001), (1, .int x1), (3, .int x3)]) dX12_daylight_18 rfl (by decide) (fun _ => rfl) (fun v3 => ?_)
        refine g_iinc (v := 1) X [(3, .int (x3 + 1)), (2, .int v3), (0, .ref 5001), (1, .int x1)] 3 dX12_daylight_19 rfl (by decide) (by decide) rfl ?_
        refine g_goto X 4 dX12_daylight_22 rfl ?_
        exact g_sub [2, 3, 1, 0] rfl (ih x1 v3 (x3 + 1))
  refine g_sub (lv' := [(0, .ref 5001), (1, .int a1)]) [0, 1] rfl ?_
  unfold f_X12_daylight
  refine g_iconst (v := 0) X dX12_daylight_0 (by decide) ?_
  refine g_istore_n X [(2, .int 0), (0, .ref 5001), (1, .int a1)] dX12_daylight_1 rfl (by decide) rfl ?_
  refine g_iconst (v := 0) X dX12_daylight_2 (by decide) ?_
  refine g_istore_n X [(3, .int 0), (2, .int 0), (0, .ref 5001), (1, .int a1)] dX12_daylight_3 rfl (by decide) rfl ?_
  exact g_sub [2, 3, 1, 0] rfl (hb_4 q_fu a1 0 0)
set_option maxHeartbeats 4000000 in
set_option maxRecDepth 100000 in
theorem c_X12_peak (l : Launch) (K : q_KK) (M : q_MM) (a1 : Int32) : ∀ res, f_X12_peak M a1 = some res → Mt l yX12_peak cX12_peak 4 (some FieldType.int) 2 48 0 0 false K [.ref 5001, .int a1] (qTM, qLM, qPM, M) (some (.int res)) ((qTM, qLM, qPM, M)) := by
  refine Mt.of (fun (res : Int32) => some (.int res)) (fun (_ : Int32) => (qTM, qLM, qPM, M)) (by decide) (Nat.le_of_ble_eq_true rfl) ?_
  intro p e s m args below meth c0 A ad X hN
  have hb_4 : ∀ (nf : Nat) (x1 : Int32) (x2 : Int32) (x3 : Int32), GG p l e { frames := 2, cells := 0, slots := 0, locals := 48 } s m args below meth c0 K A (qTM, qLM, qPM, M) ad false 4 (fun res => MQ below (q_Qc K false ad (qTM, qLM, qPM, M) ((fun (res : Int32) => some (.int res)) res) ((fun (_ : Int32) => (qTM, qLM, qPM, M)) res) A) args s 0 0 A) (b_X12_peak_4 M nf x1 x2 x3) 4 [(0, .ref 5001), (1, .int x1), (2, .int x2), (3, .int x3)] [] (qTM, qLM, qPM, M) 0 0 := by
    intro  nf
    induction nf with
    | zero => intros; exact g_stop
    | succ nf ih =>
      intro x1 x2 x3
      rw [b_X12_peak_4]
      refine g_iload_n X dX12_peak_4 rfl 3 rfl ?_
      refine g_bipush (v := 24) X dX12_peak_5 (by decide) ?_
      refine g_icmp_ge X 27 dX12_peak_7 rfl (fun h1 => ?_) (fun h1 => ?_)
      · refine g_iload_n X dX12_peak_27 rfl 2 rfl ?_
        exact g_iret X rfl rfl rfl dX12_peak_28
      · refine g_iload_n X dX12_peak_10 rfl 2 rfl ?_
        refine g_aload_n X dX12_peak_11 rfl 0 rfl ?_
        refine g_iload_n X dX12_peak_12 rfl 1 rfl ?_
        refine g_iload_n X dX12_peak_13 rfl 3 rfl ?_
        refine g_bVi (As := [.int x1, .int x3]) (rest := [.int x2]) X (c_X12_lit l K M x1 x3) lk_X12_81 rfl rfl rfl (Nat.le_of_ble_eq_true rfl) ⟨Nat.le_of_ble_eq_true rfl, Nat.le_of_ble_eq_true rfl⟩ ⟨Nat.zero_le _, Nat.zero_le _⟩ dX12_peak_14 (fun r2 => ?_)
        refine g_mmax X lk_X12_85 (Nat.le_of_ble_eq_true rfl) ⟨Nat.le_of_ble_eq_true rfl, Nat.le_of_ble_eq_true rfl⟩ ⟨Nat.zero_le _, Nat.zero_le _⟩ dX12_peak_17 ?_
        refine g_isn X (fun v3 => [(2, .int v3), (0, .ref 5001), (1, .int x1), (3, .int x3)]) dX12_peak_20 rfl (by decide) (fun _ => rfl) (fun v3 => ?_)
        refine g_iinc (v := 1) X [(3, .int (x3 + 1)), (2, .int v3), (0, .ref 5001), (1, .int x1)] 3 dX12_peak_21 rfl (by decide) (by decide) rfl ?_
        refine g_goto X 4 dX12_peak_24 rfl ?_
        exact g_sub [2, 3, 1, 0] rfl (ih x1 v3 (x3 + 1))
  refine g_sub (lv' := [(0, .ref 5001), (1, .int a1)]) [0, 1] rfl ?_
  unfold f_X12_peak
  refine g_iconst (v := 0) X dX12_peak_0 (by decide) ?_
  refine g_istore_n X [(2, .int 0), (0, .ref 5001), (1, .int a1)] dX12_peak_1 rfl (by decide) rfl ?_
  refine g_iconst (v := 0) X dX12_peak_2 (by decide) ?_
  refine g_istore_n X [(3, .int 0), (2, .int 0), (0, .ref 5001), (1, .int a1)] dX12_peak_3 rfl (by decide) rfl ?_
  exact g_sub [2, 3, 1, 0] rfl (hb_4 q_fu a1 0 0)
set_option maxHeartbeats 4000000 in
set_option maxRecDepth 100000 in
theorem c_X12_light (l : Launch) (K : q_KK) (M0 : q_MM) (a1 : Int32) (a2 : Int32) (a3 : Int32) (a4 : Int32) (a5 : Int32) : ∀ res, f_X12_light M0 a1 a2 a3 a4 a5 = some res → Mt l yX12_light cX12_light 9 (some FieldType.int) 3 71 0 0 false K [.ref 5001, .int a1, .int a2, .int a3, .int a4, .int a5] (qTM, qLM, qPM, M0) (some (.int res.1)) ((qTM, qLM, qPM, res.2)) := by
  refine Mt.of (fun (res : Int32 × q_MM) => some (.int res.1)) (fun (res : Int32 × q_MM) => (qTM, qLM, qPM, res.2)) (by decide) (Nat.le_of_ble_eq_true rfl) ?_
  intro p e s m args below meth c0 A ad X hN
  have hb_122 : ∀ (k52 : Int32 → Int32 → Int32 → Int32 → Int32 → Int32 → q_MM → Option (Int32 × q_MM)) (hk52 : ∀ (x1 : Int32) (x2 : Int32) (x3 : Int32) (x5 : Int32) (x6 : Int32) (x7 : Int32) (M : q_MM), GG p l e { frames := 3, cells := 0, slots := 0, locals := 71 } s m args below meth c0 K A (qTM, qLM, qPM, M0) ad false 9 (fun res => MQ below (q_Qc K false ad (qTM, qLM, qPM, M0) ((fun (res : Int32 × q_MM) => some (.int res.1)) res) ((fun (res : Int32 × q_MM) => (qTM, qLM, qPM, res.2)) res) A) args s 0 0 A) (k52 x1 x2 x3 x5 x6 x7 M) 52 [(0, .ref 5001), (1, .int x1), (2, .int x2), (3, .int x3), (5, .int x5), (6, .int x6), (7, .int x7)] [] (qTM, qLM, qPM, M) 0 0) (x1 : Int32) (x2 : Int32) (x3 : Int32) (x5 : Int32) (x6 : Int32) (x7 : Int32) (s0 : Int32) (s1 : Int32) (s2 : Nat) (M : q_MM), GG p l e { frames := 3, cells := 0, slots := 0, locals := 71 } s m args below meth c0 K A (qTM, qLM, qPM, M0) ad false 9 (fun res => MQ below (q_Qc K false ad (qTM, qLM, qPM, M0) ((fun (res : Int32 × q_MM) => some (.int res.1)) res) ((fun (res : Int32 × q_MM) => (qTM, qLM, qPM, res.2)) res) A) args s 0 0 A) (b_X12_light_122 k52 x1 x2 x3 x5 x6 x7 s0 s1 s2 M) 122 [(0, .ref 5001), (1, .int x1), (2, .int x2), (3, .int x3), (5, .int x5), (6, .int x6), (7, .int x7)] [.int s0, .int s1, .ref s2] (qTM, qLM, qPM, M) 0 0 := by
    intro k52 hk52 x1 x2 x3 x5 x6 x7 s0 s1 s2 M
    unfold b_X12_light_122
    refine g_ck (fun hT1 => ?_)
    refine g_isv X hT1 rfl dX12_light_122 (fun M2 => ?_)
    refine g_iload X dX12_light_123 5 rfl ?_
    refine g_iload X dX12_light_125 4 rfl ?_
    refine g_iadd X dX12_light_127 ?_
    refine g_is X (fun v3 => [(6, .int v3), (0, .ref 5001), (1, .int x1), (2, .int x2), (3, .int x3), (5, .int x5), (7, .int x7)]) dX12_light_128 (by decide) (fun _ => rfl) (fun v3 => ?_)
    refine g_iinc (v := 1) X [(7, .int (x7 + 1)), (6, .int v3), (0, .ref 5001), (1, .int x1), (2, .int x2), (3, .int x3), (5, .int x5)] 6 dX12_light_130 rfl (by decide) (by decide) rfl ?_
    refine g_goto X 52 dX12_light_133 rfl ?_
    exact g_sub [2, 3, 4, 5, 6, 1, 0] rfl (hk52 x1 x2 x3 x5 v3 (x7 + 1) M2)
  have hb_106 : ∀ (k52 : Int32 → Int32 → Int32 → Int32 → Int32 → Int32 → q_MM → Option (Int32 × q_MM)) (hk52 : ∀ (x1 : Int32) (x2 : Int32) (x3 : Int32) (x5 : Int32) (x6 : Int32) (x7 : Int32) (M : q_MM), GG p l e { frames := 3, cells := 0, slots := 0, locals := 71 } s m args below meth c0 K A (qTM, qLM, qPM, M0) ad false 9 (fun res => MQ below (q_Qc K false ad (qTM, qLM, qPM, M0) ((fun (res : Int32 × q_MM) => some (.int res.1)) res) ((fun (res : Int32 × q_MM) => (qTM, qLM, qPM, res.2)) res) A) args s 0 0 A) (k52 x1 x2 x3 x5 x6 x7 M) 52 [(0, .ref 5001), (1, .int x1), (2, .int x2), (3, .int x3), (5, .int x5), (6, .int x6), (7, .int x7)] [] (qTM, qLM, qPM, M) 0 0) (x1 : Int32) (x2 : Int32) (x3 : Int32) (x5 : Int32) (x6 : Int32) (x7 : Int32) (s0 : Int32) (s1 : Nat) (M : q_MM), GG p l e { frames := 3, cells := 0, slots := 0, locals := 71 } s m args below meth c0 K A (qTM, qLM, qPM, M0) ad false 9 (fun res => MQ below (q_Qc K false ad (qTM, qLM, qPM, M0) ((fun (res : Int32 × q_MM) => some (.int res.1)) res) ((fun (res : Int32 × q_MM) => (qTM, qLM, qPM, res.2)) res) A) args s 0 0 A) (b_X12_light_106 k52 x1 x2 x3 x5 x6 x7 s0 s1 M) 106 [(0, .ref 5001), (1, .int x1), (2, .int x2), (3, .int x3), (5, .int x5), (6, .int x6), (7, .int x7)] [.int s0, .ref s1] (qTM, qLM, qPM, M) 0 0 := by
    intro k52 hk52 x1 x2 x3 x5 x6 x7 s0 s1 M
    unfold b_X12_light_106
    refine g_iconst (v := 0) X dX12_light_106 (by decide) ?_
    refine g_goto X 122 dX12_light_107 rfl ?_
    exact g_sub [0, 1, 2, 3, 4, 5, 6] rfl (hb_122 k52 hk52 x1 x2 x3 x5 x6 x7 0 s0 s1 M)
  have hb_82 : ∀ (k52 : Int32 → Int32 → Int32 → Int32 → Int32 → Int32 → q_MM → Option (Int32 × q_MM)) (hk52 : ∀ (x1 : Int32) (x2 : Int32) (x3 : Int32) (x5 : Int32) (x6 : Int32) (x7 : Int32) (M : q_MM), GG p l e { frames := 3, cells := 0, slots := 0, locals := 71 } s m args below meth c0 K A (qTM, qLM, qPM, M0) ad false 9 (fun res => MQ below (q_Qc K false ad (qTM, qLM, qPM, M0) ((fun (res : Int32 × q_MM) => some (.int res.1)) res) ((fun (res : Int32 × q_MM) => (qTM, qLM, qPM, res.2)) res) A) args s 0 0 A) (k52 x1 x2 x3 x5 x6 x7 M) 52 [(0, .ref 5001), (1, .int x1), (2, .int x2), (3, .int x3), (5, .int x5), (6, .int x6), (7, .int x7)] [] (qTM, qLM, qPM, M) 0 0) (x1 : Int32) (x2 : Int32) (x3 : Int32) (x5 : Int32) (x6 : Int32) (x7 : Int32) (s0 : Int32) (M : q_MM), GG p l e { frames := 3, cells := 0, slots := 0, locals := 71 } s m args below meth c0 K A (qTM, qLM, qPM, M0) ad false 9 (fun res => MQ below (q_Qc K false ad (qTM, qLM, qPM, M0) ((fun (res : Int32 × q_MM) => some (.int res.1)) res) ((fun (res : Int32 × q_MM) => (qTM, qLM, qPM, res.2)) res) A) args s 0 0 A) (b_X12_light_82 k52 x1 x2 x3 x5 x6 x7 s0 M) 82 [(0, .ref 5001), (1, .int x1), (2, .int x2), (3, .int x3), (5, .int x5), (6, .int x6), (7, .int x7)] [.int s0] (qTM, qLM, qPM, M) 0 0 := by
    intro k52 hk52 x1 x2 x3 x5 x6 x7 s0 M
    unfold b_X12_light_82
    refine g_istore X [(8, .int s0), (0, .ref 5001), (1, .int x1), (2, .int x2), (3, .int x3), (5, .int x5), (6, .int x6), (7, .int x7)] dX12_light_82 (by decide) rfl ?_
    refine g_aload_n X dX12_light_84 rfl 1 rfl ?_
    refine g_getr X fa_X12_78 rfl rfl dX12_light_85 ?_
    refine g_bipush (v := 24) X dX12_light_88 (by decide) ?_
    refine g_iload_n X dX12_light_90 rfl 2 rfl ?_
    refine g_imul X dX12_light_91 ?_
    refine g_iload X dX12_light_92 7 rfl ?_
    refine g_iadd X dX12_light_94 ?_
    refine g_iload_n X dX12_light_95 rfl 3 rfl ?_
    refine g_iconst (v := 3) X dX12_light_96 (by decide) ?_
    refine g_icmp_eq X 106 dX12_light_97 rfl (fun h4 => ?_) (fun h4 => ?_)
    · exact g_sub [1, 2, 3, 4, 5, 6, 7] rfl (hb_106 k52 hk52 x1 x2 x3 x5 x6 x7 (((24 : Int32) * x1) + x7) 5024 M)
    · refine g_iload X dX12_light_100 7 rfl ?_
      refine g_iload_n X dX12_light_102 rfl 4 rfl ?_
      refine g_icmp_lt X 110 dX12_light_103 rfl (fun h5 => ?_) (fun h5 => ?_)
      · refine g_iconst (v := 0) X dX12_light_110 (by decide) ?_
        refine g_sipush (v := 9999) X dX12_light_111 (by decide) ?_
        refine g_iload X dX12_light_114 0 rfl ?_
        refine g_mmin X lk_X12_95 (Nat.le_of_ble_eq_true rfl) ⟨Nat.le_of_ble_eq_true rfl, Nat.le_of_ble_eq_true rfl⟩ ⟨Nat.zero_le _, Nat.zero_le _⟩ dX12_light_116 ?_
        refine g_mmax X lk_X12_85 (Nat.le_of_ble_eq_true rfl) ⟨Nat.le_of_ble_eq_true rfl, Nat.le_of_ble_eq_true rfl⟩ ⟨Nat.zero_le _, Nat.zero_le _⟩ dX12_light_119 ?_
        exact g_sub [1, 2, 3, 4, 5, 6, 7] rfl (hb_122 k52 hk52 x1 x2 x3 x5 x6 x7 (if 0 < (if s0 < 9999 then s0 else 9999) then (if s0 < 9999 then s0 else 9999) else 0) (((24 : Int32) * x1) + x7) 5024 M)
      · exact g_sub [1, 2, 3, 4, 5, 6, 7] rfl (hb_106 k52 hk52 x1 x2 x3 x5 x6 x7 (((24 : Int32) * x1) + x7) 5024 M)
  have hb_52 : ∀ (nf : Nat) (x1 : Int32) (x2 : Int32) (x3 : Int32) (x5 : Int32) (x6 : Int32) (x7 : Int32) (M : q_MM), GG p l e { frames := 3, cells := 0, slots := 0, locals := 71 } s m args below meth c0 K A (qTM, qLM, qPM, M0) ad false 9 (fun res => MQ below (q_Qc K false ad (qTM, qLM, qPM, M0) ((fun (res : Int32 × q_MM) => some (.int res.1)) res) ((fun (res : Int32 × q_MM) => (qTM, qLM, qPM, res.2)) res) A) args s 0 0 A) (b_X12_light_52 nf x1 x2 x3 x5 x6 x7 M) 52 [(0, .ref 5001), (1, .int x1), (2, .int x2), (3, .int x3), (5, .int x5), (6, .int x6), (7, .int x7)] [] (qTM, qLM, qPM, M) 0 0 := by
    intro  nf
    induction nf with
    | zero => intros; exact g_stop
    | succ nf ih =>
      intro x1 x2 x3 x5 x6 x7 M
      rw [b_X12_light_52]
      refine g_iload X dX12_light_52 6 rfl ?_
      refine g_bipush (v := 24) X dX12_light_54 (by decide) ?_
      refine g_icmp_ge X 136 dX12_light_56 rfl (fun h6 => ?_) (fun h6 => ?_)
      · refine g_iload_n X dX12_light_136 rfl 2 rfl ?_
        refine g_iconst (v := 3) X dX12_light_137 (by decide) ?_
        refine g_icmp_ne X 146 dX12_light_138 rfl (fun h7 => ?_) (fun h7 => ?_)
        · refine g_bipush (v := (-3)) X dX12_light_141 (by decide) ?_
          refine g_goto X 151 dX12_light_143 rfl ?_
          exact g_iret X rfl rfl rfl dX12_light_151
        · refine g_aload_n X dX12_light_146 rfl 0 rfl ?_
          refine g_iload_n X dX12_light_147 rfl 1 rfl ?_
          refine g_bVi (As := [.int x1]) (rest := []) X (c_X12_daylight l K M x1) lk_X12_98 rfl rfl rfl (Nat.le_of_ble_eq_true rfl) ⟨Nat.le_of_ble_eq_true rfl, Nat.le_of_ble_eq_true rfl⟩ ⟨Nat.zero_le _, Nat.zero_le _⟩ dX12_light_148 (fun r8 => ?_)
          exact g_iret X rfl rfl rfl dX12_light_151
      · refine g_iload_n X dX12_light_59 rfl 2 rfl ?_
        refine g_if_ne X 69 dX12_light_60 rfl (fun h9 => ?_) (fun h9 => ?_)
        · refine g_iload X dX12_light_63 5 rfl ?_
          refine g_i2b X dX12_light_65 ?_
          refine g_goto X 82 dX12_light_66 rfl ?_
          exact g_sub [0, 1, 2, 3, 4, 5, 6] rfl (hb_82 (b_X12_light_52 nf) ih x1 x2 x3 x5 x6 x7 (Int32.toInt8 x6).toInt32 M)
        · refine g_iload_n X dX12_light_69 rfl 2 rfl ?_
          refine g_iconst (v := 1) X dX12_light_70 (by decide) ?_
          refine g_icmp_ne X 80 dX12_light_71 rfl (fun h10 => ?_) (fun h10 => ?_)
          · refine g_iload X dX12_light_74 5 rfl ?_
            refine g_i2s X dX12_light_76 ?_
            refine g_goto X 82 dX12_light_77 rfl ?_
            exact g_sub [0, 1, 2, 3, 4, 5, 6] rfl (hb_82 (b_X12_light_52 nf) ih x1 x2 x3 x5 x6 x7 (Int32.toInt16 x6).toInt32 M)
          · refine g_iload X dX12_light_80 5 rfl ?_
            exact g_sub [0, 1, 2, 3, 4, 5, 6] rfl (hb_82 (b_X12_light_52 nf) ih x1 x2 x3 x5 x6 x7 x6 M)
  have hb_45 : ∀ (x1 : Int32) (x2 : Int32) (x3 : Int32) (x4 : Int32) (x5 : Int32) (M : q_MM), GG p l e { frames := 3, cells := 0, slots := 0, locals := 71 } s m args below meth c0 K A (qTM, qLM, qPM, M0) ad false 9 (fun res => MQ below (q_Qc K false ad (qTM, qLM, qPM, M0) ((fun (res : Int32 × q_MM) => some (.int res.1)) res) ((fun (res : Int32 × q_MM) => (qTM, qLM, qPM, res.2)) res) A) args s 0 0 A) (b_X12_light_45 x1 x2 x3 x4 x5 M) 45 [(0, .ref 5001), (1, .int x1), (2, .int x2), (3, .int x3), (4, .int x4), (5, .int x5)] [] (qTM, qLM, qPM, M) 0 0 := by
    intro x1 x2 x3 x4 x5 M
    unfold b_X12_light_45
    refine g_iload X dX12_light_45 4 rfl ?_
    refine g_istore X [(6, .int x4), (0, .ref 5001), (1, .int x1), (2, .int x2), (3, .int x3), (4, .int x4), (5, .int x5)] dX12_light_47 (by decide) rfl ?_
    refine g_iconst (v := 0) X dX12_light_49 (by decide) ?_
    refine g_istore X [(7, .int 0), (6, .int x4), (0, .ref 5001), (1, .int x1), (2, .int x2), (3, .int x3), (4, .int x4), (5, .int x5)] dX12_light_50 (by decide) rfl ?_
    exact g_sub [2, 3, 4, 5, 7, 1, 0] rfl (hb_52 q_fu x1 x2 x3 x5 x4 0 M)
  refine g_sub (lv' := [(0, .ref 5001), (1, .int a1), (2, .int a2), (3, .int a3), (4, .int a4), (5, .int a5)]) [0, 1, 2, 3, 4, 5] rfl ?_
  unfold f_X12_light
  refine g_aload_n X dX12_light_0 rfl 0 rfl ?_
  refine g_iconst (v := 0) X dX12_light_1 (by decide) ?_
  refine g_pfi X fa_X12_1 rfl (by decide +kernel) rfl dX12_light_2 (fun M11 => ?_)
  refine g_aload_n X dX12_light_5 rfl 0 rfl ?_
  refine g_iload_n X dX12_light_6 rfl 1 rfl ?_
  refine g_bVi (As := [.int a1]) (rest := []) X (c_X12_isWall l K M11 a1) lk_X12_90 rfl rfl rfl (Nat.le_of_ble_eq_true rfl) ⟨Nat.le_of_ble_eq_true rfl, Nat.le_of_ble_eq_true rfl⟩ ⟨Nat.zero_le _, Nat.zero_le _⟩ dX12_light_7 (fun r12 => ?_)
  refine g_if_eq X 31 dX12_light_10 rfl (fun h13 => ?_) (fun h13 => ?_)
  · refine g_iconst (v := (-1)) X dX12_light_31 (by decide) ?_
    exact g_iret X rfl rfl rfl dX12_light_32
  · refine g_iload_n X dX12_light_13 rfl 2 rfl ?_
    refine g_i2l X dX12_light_14 ?_
    refine g_lconst (v := 0) X dX12_light_15 (by decide) ?_
    refine g_ldc2 (v := 3) X wc_X12_93 dX12_light_16 ?_
    refine g_bSi (As := [.long (Int32.toInt64 a2), .long 0, .long 3]) (rest := []) X (c_X12_in l K M11 (Int32.toInt64 a2) 0 3) lk_X12_17 rfl rfl (Nat.le_of_ble_eq_true rfl) ⟨Nat.le_of_ble_eq_true rfl, Nat.le_of_ble_eq_true rfl⟩ ⟨Nat.zero_le _, Nat.zero_le _⟩ dX12_light_19 (fun r14 => ?_)
    refine g_if_eq X 31 dX12_light_22 rfl (fun h15 => ?_) (fun h15 => ?_)
    · refine g_iconst (v := (-1)) X dX12_light_31 (by decide) ?_
      exact g_iret X rfl rfl rfl dX12_light_32
    · refine g_iload_n X dX12_light_25 rfl 3 rfl ?_
      refine g_bipush (v := 24) X dX12_light_26 (by decide) ?_
      refine g_icmp_le X 33 dX12_light_28 rfl (fun h16 => ?_) (fun h16 => ?_)
      · refine g_iload_n X dX12_light_33 rfl 2 rfl ?_
        refine g_iconst (v := 3) X dX12_light_34 (by decide) ?_
        refine g_icmp_eq X 45 dX12_light_35 rfl (fun h17 => ?_) (fun h17 => ?_)
        · exact g_sub [0, 1, 2, 3, 4, 5] rfl (hb_45 a1 a2 a3 a4 a5 M11)
        · refine g_iload_n X dX12_light_38 rfl 3 rfl ?_
          refine g_if_ge X 45 dX12_light_39 rfl (fun h18 => ?_) (fun h18 => ?_)
          · exact g_sub [0, 1, 2, 3, 4, 5] rfl (hb_45 a1 a2 a3 a4 a5 M11)
          · refine g_bipush (v := (-2)) X dX12_light_42 (by decide) ?_
            exact g_iret X rfl rfl rfl dX12_light_44
      · refine g_iconst (v := (-1)) X dX12_light_31 (by decide) ?_
        exact g_iret X rfl rfl rfl dX12_light_32
set_option maxHeartbeats 4000000 in
set_option maxRecDepth 100000 in
theorem c_X12_blind (l : Launch) (K : q_KK) (M0 : q_MM) (a1 : Int32) (a2 : Int32) (a3 : Int32) : ∀ res, f_X12_blind M0 a1 a2 a3 = some res → Mt l yX12_blind cX12_blind 4 (some FieldType.boolean) 2 46 0 0 false K [.ref 5001, .int a1, .int a2, .int a3] (qTM, qLM, qPM, M0) (some (.int res.1)) ((qTM, qLM, qPM, res.2)) := by
  refine Mt.of (fun (res : Int32 × q_MM) => some (.int res.1)) (fun (res : Int32 × q_MM) => (qTM, qLM, qPM, res.2)) (by decide) (Nat.le_of_ble_eq_true rfl) ?_
  intro p e s m args below meth c0 A ad X hN
  refine g_sub (lv' := [(0, .ref 5001), (1, .int a1), (2, .int a2), (3, .int a3)]) [0, 1, 2, 3] rfl ?_
  unfold f_X12_blind
  refine g_aload_n X dX12_blind_0 rfl 0 rfl ?_
  refine g_iconst (v := 0) X dX12_blind_1 (by decide) ?_
  refine g_pfi X fa_X12_1 rfl (by decide +kernel) rfl dX12_blind_2 (fun M1 => ?_)
  refine g_aload_n X dX12_blind_5 rfl 0 rfl ?_
  refine g_iload_n X dX12_blind_6 rfl 1 rfl ?_
  refine g_bVi (As := [.int a1]) (rest := []) X (c_X12_isWall l K M1 a1) lk_X12_90 rfl rfl rfl (Nat.le_of_ble_eq_true rfl) ⟨Nat.le_of_ble_eq_true rfl, Nat.le_of_ble_eq_true rfl⟩ ⟨Nat.zero_le _, Nat.zero_le _⟩ dX12_blind_7 (fun r2 => ?_)
  refine g_if_eq X 37 dX12_blind_10 rfl (fun h3 => ?_) (fun h3 => ?_)
  · refine g_iconst (v := 0) X dX12_blind_37 (by decide) ?_
    exact g_zret X rfl rfl rfl dX12_blind_38
  · refine g_iload_n X dX12_blind_13 rfl 2 rfl ?_
    refine g_i2l X dX12_blind_14 ?_
    refine g_lconst (v := 0) X dX12_blind_15 (by decide) ?_
    refine g_ldc2 (v := 23) X wc_X12_102 dX12_blind_16 ?_
    refine g_bSi (As := [.long (Int32.toInt64 a2), .long 0, .long 23]) (rest := []) X (c_X12_in l K M1 (Int32.toInt64 a2) 0 23) lk_X12_17 rfl rfl (Nat.le_of_ble_eq_true rfl) ⟨Nat.le_of_ble_eq_true rfl, Nat.le_of_ble_eq_true rfl⟩ ⟨Nat.zero_le _, Nat.zero_le _⟩ dX12_blind_19 (fun r4 => ?_)
    refine g_if_eq X 37 dX12_blind_22 rfl (fun h5 => ?_) (fun h5 => ?_)
    · refine g_iconst (v := 0) X dX12_blind_37 (by decide) ?_
      exact g_zret X rfl rfl rfl dX12_blind_38
    · refine g_iload_n X dX12_blind_25 rfl 3 rfl ?_
      refine g_i2l X dX12_blind_26 ?_
      refine g_lconst (v := 0) X dX12_blind_27 (by decide) ?_
      refine g_ldc2 (v := 23) X wc_X12_102 dX12_blind_28 ?_
      refine g_bSi (As := [.long (Int32.toInt64 a3), .long 0, .long 23]) (rest := []) X (c_X12_in l K M1 (Int32.toInt64 a3) 0 23) lk_X12_17 rfl rfl (Nat.le_of_ble_eq_true rfl) ⟨Nat.le_of_ble_eq_true rfl, Nat.le_of_ble_eq_true rfl⟩ ⟨Nat.zero_le _, Nat.zero_le _⟩ dX12_blind_31 (fun r6 => ?_)
      refine g_if_ne X 39 dX12_blind_34 rfl (fun h7 => ?_) (fun h7 => ?_)
      · refine g_iconst (v := 0) X dX12_blind_37 (by decide) ?_
        exact g_zret X rfl rfl rfl dX12_blind_38
      · refine g_aload_n X dX12_blind_39 rfl 0 rfl ?_
        refine g_getr X fa_X12_69 rfl rfl dX12_blind_40 ?_
        refine g_iload_n X dX12_blind_43 rfl 1 rfl ?_
        refine g_iload_n X dX12_blind_44 rfl 2 rfl ?_
        refine g_isv X rfl rfl dX12_blind_45 (fun M8 => ?_)
        refine g_aload_n X dX12_blind_46 rfl 0 rfl ?_
        refine g_getr X fa_X12_72 rfl rfl dX12_blind_47 ?_
        refine g_iload_n X dX12_blind_50 rfl 1 rfl ?_
        refine g_iload_n X dX12_blind_51 rfl 3 rfl ?_
        refine g_isv X rfl rfl dX12_blind_52 (fun M9 => ?_)
        refine g_iconst (v := 1) X dX12_blind_53 (by decide) ?_
        exact g_zret X rfl rfl rfl dX12_blind_54
set_option maxHeartbeats 4000000 in
set_option maxRecDepth 100000 in
theorem c_X12_set (l : Launch) (K : q_KK) (M0 : q_MM) (a1 : Int32) (a2 : Int32) : ∀ res, f_X12_set M0 a1 a2 = some res → Mt l yX12_set cX12_set 5 (some FieldType.int) 1 25 0 0 false K [.ref 5001, .int a1, .int a2] (qTM, qLM, qPM, M0) (some (.int res.1)) ((qTM, qLM, qPM, res.2)) := by
  refine Mt.of (fun (res : Int32 × q_MM) => some (.int res.1)) (fun (res : Int32 × q_MM) => (qTM, qLM, qPM, res.2)) (by decide) (Nat.le_of_ble_eq_true rfl) ?_
  intro p e s m args below meth c0 A ad X hN
  have hb_89 : ∀ (x1 : Int32) (x2 : Int32) (s0 : Int32) (M : q_MM), GG p l e { frames := 1, cells := 0, slots := 0, locals := 25 } s m args below meth c0 K A (qTM, qLM, qPM, M0) ad false 5 (fun res => MQ below (q_Qc K false ad (qTM, qLM, qPM, M0) ((fun (res : Int32 × q_MM) => some (.int res.1)) res) ((fun (res : Int32 × q_MM) => (qTM, qLM, qPM, res.2)) res) A) args s 0 0 A) (b_X12_set_89 x1 x2 s0 M) 89 [(0, .ref 5001), (1, .int x1), (2, .int x2)] [.int s0] (qTM, qLM, qPM, M) 0 0 := by
    intro x1 x2 s0 M
    unfold b_X12_set_89
    refine g_istore_n X [(3, .int s0), (0, .ref 5001), (1, .int x1), (2, .int x2)] dX12_set_89 rfl (by decide) rfl ?_
    refine g_iload_n X dX12_set_90 rfl 0 rfl ?_
    refine g_if_ne X 96 dX12_set_91 rfl (fun h1 => ?_) (fun h1 => ?_)
    · refine g_iconst (v := (-1)) X dX12_set_94 (by decide) ?_
      exact g_iret X rfl rfl rfl dX12_set_95
    · refine g_aload_n X dX12_set_96 rfl 1 rfl ?_
      refine g_getr X fa_X12_75 rfl rfl dX12_set_97 ?_
      refine g_iload_n X dX12_set_100 rfl 2 rfl ?_
      refine g_ild X rfl rfl dX12_set_101 (fun v2 => ?_)
      refine g_istore X [(4, .int v2), (3, .int s0), (0, .ref 5001), (1, .int x1), (2, .int x2)] dX12_set_102 (by decide) rfl ?_
      refine g_aload_n X dX12_set_104 rfl 2 rfl ?_
      refine g_getr X fa_X12_75 rfl rfl dX12_set_105 ?_
      refine g_iload_n X dX12_set_108 rfl 3 rfl ?_
      refine g_iload_n X dX12_set_109 rfl 4 rfl ?_
      refine g_isv X rfl rfl dX12_set_110 (fun M3 => ?_)
      refine g_iload X dX12_set_111 0 rfl ?_
      exact g_iret X rfl rfl rfl dX12_set_113
  have hb_88 : ∀ (x1 : Int32) (x2 : Int32) (M : q_MM), GG p l e { frames := 1, cells := 0, slots := 0, locals := 25 } s m args below meth c0 K A (qTM, qLM, qPM, M0) ad false 5 (fun res => MQ below (q_Qc K false ad (qTM, qLM, qPM, M0) ((fun (res : Int32 × q_MM) => some (.int res.1)) res) ((fun (res : Int32 × q_MM) => (qTM, qLM, qPM, res.2)) res) A) args s 0 0 A) (b_X12_set_88 x1 x2 M) 88 [(0, .ref 5001), (1, .int x1), (2, .int x2)] [] (qTM, qLM, qPM, M) 0 0 := by
    intro x1 x2 M
    unfold b_X12_set_88
    refine g_iconst (v := 0) X dX12_set_88 (by decide) ?_
    exact g_sub [0, 1, 2] rfl (hb_89 x1 x2 0 M)
  refine g_sub (lv' := [(0, .ref 5001), (1, .int a1), (2, .int a2)]) [0, 1, 2] rfl ?_
  unfold f_X12_set
  refine g_aload_n X dX12_set_0 rfl 0 rfl ?_
  refine g_iconst (v := 0) X dX12_set_1 (by decide) ?_
  refine g_pfi X fa_X12_1 rfl (by decide +kernel) rfl dX12_set_2 (fun M4 => ?_)
  refine g_iload_n X dX12_set_5 rfl 1 rfl ?_
  refine g_if_ne X 23 dX12_set_6 rfl (fun h5 => ?_) (fun h5 => ?_)
  · refine g_iload_n X dX12_set_9 rfl 2 rfl ?_
    refine g_i2l X dX12_set_10 ?_
    refine g_ldc2 (v := 100) X wc_X12_32 dX12_set_11 ?_
    refine g_ldc2 (v := 200) X wc_X12_104 dX12_set_14 ?_
    refine g_bSi (As := [.long (Int32.toInt64 a2), .long 100, .long 200]) (rest := []) X (c_X12_in l K M4 (Int32.toInt64 a2) 100 200) lk_X12_17 rfl rfl (Nat.le_of_ble_eq_true rfl) ⟨Nat.le_of_ble_eq_true rfl, Nat.le_of_ble_eq_true rfl⟩ ⟨Nat.zero_le _, Nat.zero_le _⟩ dX12_set_17 (fun r6 => ?_)
    refine g_goto X 89 dX12_set_20 rfl ?_
    exact g_sub [0, 1, 2] rfl (hb_89 a1 a2 r6 M4)
  · refine g_iload_n X dX12_set_23 rfl 1 rfl ?_
    refine g_iconst (v := 1) X dX12_set_24 (by decide) ?_
    refine g_icmp_ne X 40 dX12_set_25 rfl (fun h7 => ?_) (fun h7 => ?_)
    · refine g_iload_n X dX12_set_28 rfl 2 rfl ?_
      refine g_i2l X dX12_set_29 ?_
      refine g_lconst (v := 0) X dX12_set_30 (by decide) ?_
      refine g_ldc2 (v := 99) X wc_X12_106 dX12_set_31 ?_
      refine g_bSi (As := [.long (Int32.toInt64 a2), .long 0, .long 99]) (rest := []) X (c_X12_in l K M4 (Int32.toInt64 a2) 0 99) lk_X12_17 rfl rfl (Nat.le_of_ble_eq_true rfl) ⟨Nat.le_of_ble_eq_true rfl, Nat.le_of_ble_eq_true rfl⟩ ⟨Nat.zero_le _, Nat.zero_le _⟩ dX12_set_34 (fun r8 => ?_)
      refine g_goto X 89 dX12_set_37 rfl ?_
      exact g_sub [0, 1, 2] rfl (hb_89 a1 a2 r8 M4)
    · refine g_iload_n X dX12_set_40 rfl 1 rfl ?_
      refine g_iconst (v := 2) X dX12_set_41 (by decide) ?_
      refine g_icmp_ne X 61 dX12_set_42 rfl (fun h9 => ?_) (fun h9 => ?_)
      · refine g_iload_n X dX12_set_45 rfl 2 rfl ?_
        refine g_i2l X dX12_set_46 ?_
        refine g_lconst (v := 0) X dX12_set_47 (by decide) ?_
        refine g_aload_n X dX12_set_48 rfl 0 rfl ?_
        refine g_getr X fa_X12_75 rfl rfl dX12_set_49 ?_
        refine g_iconst (v := 3) X dX12_set_52 (by decide) ?_
        refine g_ild X rfl rfl dX12_set_53 (fun v10 => ?_)
        refine g_i2l X dX12_set_54 ?_
        refine g_bSi (As := [.long (Int32.toInt64 a2), .long 0, .long (Int32.toInt64 v10)]) (rest := []) X (c_X12_in l K M4 (Int32.toInt64 a2) 0 (Int32.toInt64 v10)) lk_X12_17 rfl rfl (Nat.le_of_ble_eq_true rfl) ⟨Nat.le_of_ble_eq_true rfl, Nat.le_of_ble_eq_true rfl⟩ ⟨Nat.zero_le _, Nat.zero_le _⟩ dX12_set_55 (fun r11 => ?_)
        refine g_goto X 89 dX12_set_58 rfl ?_
        exact g_sub [0, 1, 2] rfl (hb_89 a1 a2 r11 M4)
      · refine g_iload_n X dX12_set_61 rfl 1 rfl ?_
        refine g_iconst (v := 3) X dX12_set_62 (by decide) ?_
        refine g_icmp_ne X 88 dX12_set_63 rfl (fun h12 => ?_) (fun h12 => ?_)
        · refine g_iload_n X dX12_set_66 rfl 2 rfl ?_
          refine g_i2l X dX12_set_67 ?_
          refine g_aload_n X dX12_set_68 rfl 0 rfl ?_
          refine g_getr X fa_X12_75 rfl rfl dX12_set_69 ?_
          refine g_iconst (v := 2) X dX12_set_72 (by decide) ?_
          refine g_ild X rfl rfl dX12_set_73 (fun v13 => ?_)
          refine g_i2l X dX12_set_74 ?_
          refine g_ldc2 (v := 23) X wc_X12_102 dX12_set_75 ?_
          refine g_bSi (As := [.long (Int32.toInt64 a2), .long (Int32.toInt64 v13), .long 23]) (rest := []) X (c_X12_in l K M4 (Int32.toInt64 a2) (Int32.toInt64 v13) 23) lk_X12_17 rfl rfl (Nat.le_of_ble_eq_true rfl) ⟨Nat.le_of_ble_eq_true rfl, Nat.le_of_ble_eq_true rfl⟩ ⟨Nat.zero_le _, Nat.zero_le _⟩ dX12_set_78 (fun r14 => ?_)
          refine g_if_eq X 88 dX12_set_81 rfl (fun h15 => ?_) (fun h15 => ?_)
          · exact g_sub [0, 1, 2] rfl (hb_88 a1 a2 M4)
          · refine g_iconst (v := 1) X dX12_set_84 (by decide) ?_
            refine g_goto X 89 dX12_set_85 rfl ?_
            exact g_sub [0, 1, 2] rfl (hb_89 a1 a2 1 M4)
        · exact g_sub [0, 1, 2] rfl (hb_88 a1 a2 M4)
set_option maxHeartbeats 4000000 in
set_option maxRecDepth 100000 in
theorem c_X12_isPicture (l : Launch) (K : q_KK) (M : q_MM) (a1 : Int32) : ∀ res, f_X12_isPicture M a1 = some res → Mt l yX12_isPicture cX12_isPicture 2 (some FieldType.boolean) 1 25 0 0 false K [.ref 5001, .int a1] (qTM, qLM, qPM, M) (some (.int res)) ((qTM, qLM, qPM, M)) := by
  refine Mt.of (fun (res : Int32) => some (.int res)) (fun (_ : Int32) => (qTM, qLM, qPM, M)) (by decide) (Nat.le_of_ble_eq_true rfl) ?_
  intro p e s m args below meth c0 A ad X hN
  refine g_sub (lv' := [(0, .ref 5001), (1, .int a1)]) [0, 1] rfl ?_
  unfold f_X12_isPicture
  refine g_iload_n X dX12_isPicture_0 rfl 1 rfl ?_
  refine g_i2l X dX12_isPicture_1 ?_
  refine g_lconst (v := 0) X dX12_isPicture_2 (by decide) ?_
  refine g_aload_n X dX12_isPicture_3 rfl 0 rfl ?_
  refine g_geti X fa_X12_108 rfl dX12_isPicture_4 ?_
  refine g_iconst (v := 1) X dX12_isPicture_7 (by decide) ?_
  refine g_isub X dX12_isPicture_8 ?_
  refine g_i2l X dX12_isPicture_9 ?_
  refine g_bSi (As := [.long (Int32.toInt64 a1), .long 0, .long (Int32.toInt64 ((M 5001 18) - 1))]) (rest := []) X (c_X12_in l K M (Int32.toInt64 a1) 0 (Int32.toInt64 ((M 5001 18) - 1))) lk_X12_17 rfl rfl (Nat.le_of_ble_eq_true rfl) ⟨Nat.le_of_ble_eq_true rfl, Nat.le_of_ble_eq_true rfl⟩ ⟨Nat.zero_le _, Nat.zero_le _⟩ dX12_isPicture_10 (fun r1 => ?_)
  exact g_zret X rfl rfl rfl dX12_isPicture_13
set_option maxHeartbeats 4000000 in
set_option maxRecDepth 100000 in
theorem c_X12_picture (l : Launch) (K : q_KK) (M0 : q_MM) (a1 : Int32) (a2 : Int32) (a3 : Int32) (a4 : Int32) (a5 : Int32) (a6 : Int32) (a7 : Int32) : ∀ res, f_X12_picture M0 a1 a2 a3 a4 a5 a6 a7 = some res → Mt l yX12_picture cX12_picture 10 (some FieldType.int) 1 25 0 0 false K [.ref 5001, .int a1, .int a2, .int a3, .int a4, .int a5, .int a6, .int a7] (qTM, qLM, qPM, M0) (some (.int res.1)) ((qTM, qLM, qPM, res.2)) := by
  refine Mt.of (fun (res : Int32 × q_MM) => some (.int res.1)) (fun (res : Int32 × q_MM) => (qTM, qLM, qPM, res.2)) (by decide) (Nat.le_of_ble_eq_true rfl) ?_
  intro p e s m args below meth c0 A ad X hN
  have hb_102 : ∀ (x1 : Int32) (x2 : Int32) (x3 : Int32) (x4 : Int32) (x5 : Int32) (x6 : Int32) (x7 : Int32) (s0 : Int32) (M : q_MM), GG p l e { frames := 1, cells := 0, slots := 0, locals := 25 } s m args below meth c0 K A (qTM, qLM, qPM, M0) ad false 10 (fun res => MQ below (q_Qc K false ad (qTM, qLM, qPM, M0) ((fun (res : Int32 × q_MM) => some (.int res.1)) res) ((fun (res : Int32 × q_MM) => (qTM, qLM, qPM, res.2)) res) A) args s 0 0 A) (b_X12_picture_102 x1 x2 x3 x4 x5 x6 x7 s0 M) 102 [(0, .ref 5001), (1, .int x1), (2, .int x2), (3, .int x3), (4, .int x4), (5, .int x5), (6, .int x6), (7, .int x7)] [.int s0] (qTM, qLM, qPM, M) 0 0 := by
    intro x1 x2 x3 x4 x5 x6 x7 s0 M
    unfold b_X12_picture_102
    refine g_istore X [(8, .int s0), (0, .ref 5001), (1, .int x1), (2, .int x2), (3, .int x3), (4, .int x4), (5, .int x5), (6, .int x6), (7, .int x7)] dX12_picture_102 (by decide) rfl ?_
    refine g_iload X dX12_picture_104 0 rfl ?_
    refine g_if_eq X 118 dX12_picture_106 rfl (fun h1 => ?_) (fun h1 => ?_)
    · refine g_iconst (v := (-1)) X dX12_picture_118 (by decide) ?_
      exact g_iret X rfl rfl rfl dX12_picture_119
    · refine g_aload_n X dX12_picture_109 rfl 1 rfl ?_
      refine g_geti X fa_X12_108 rfl dX12_picture_110 ?_
      refine g_bipush (v := 24) X dX12_picture_113 (by decide) ?_
      refine g_icmp_ne X 120 dX12_picture_115 rfl (fun h2 => ?_) (fun h2 => ?_)
      · refine g_iconst (v := (-1)) X dX12_picture_118 (by decide) ?_
        exact g_iret X rfl rfl rfl dX12_picture_119
      · refine g_aload_n X dX12_picture_120 rfl 1 rfl ?_
        refine g_geti X fa_X12_108 rfl dX12_picture_121 ?_
        refine g_is X (fun v3 => [(9, .int v3), (8, .int s0), (0, .ref 5001), (1, .int x1), (2, .int x2), (3, .int x3), (4, .int x4), (5, .int x5), (6, .int x6), (7, .int x7)]) dX12_picture_124 (by decide) (fun _ => rfl) (fun v3 => ?_)
        refine g_aload_n X dX12_picture_126 rfl 2 rfl ?_
        refine g_getr X fa_X12_121 rfl rfl dX12_picture_127 ?_
        refine g_iload X dX12_picture_130 0 rfl ?_
        refine g_iload_n X dX12_picture_132 rfl 3 rfl ?_
        refine g_isv X rfl rfl dX12_picture_133 (fun M4 => ?_)
        refine g_aload_n X dX12_picture_134 rfl 2 rfl ?_
        refine g_getr X fa_X12_124 rfl rfl dX12_picture_135 ?_
        refine g_iload X dX12_picture_138 0 rfl ?_
        refine g_iload_n X dX12_picture_140 rfl 4 rfl ?_
        refine g_isv X rfl rfl dX12_picture_141 (fun M5 => ?_)
        refine g_aload_n X dX12_picture_142 rfl 2 rfl ?_
        refine g_getr X fa_X12_127 rfl rfl dX12_picture_143 ?_
        refine g_iload X dX12_picture_146 0 rfl ?_
        refine g_iload_n X dX12_picture_148 rfl 5 rfl ?_
        refine g_isv X rfl rfl dX12_picture_149 (fun M6 => ?_)
        refine g_aload_n X dX12_picture_150 rfl 2 rfl ?_
        refine g_getr X fa_X12_130 rfl rfl dX12_picture_151 ?_
        refine g_iload X dX12_picture_154 0 rfl ?_
        refine g_iload X dX12_picture_156 6 rfl ?_
        refine g_isv X rfl rfl dX12_picture_158 (fun M7 => ?_)
        refine g_aload_n X dX12_picture_159 rfl 2 rfl ?_
        refine g_getr X fa_X12_133 rfl rfl dX12_picture_160 ?_
        refine g_iload X dX12_picture_163 0 rfl ?_
        refine g_iload X dX12_picture_165 7 rfl ?_
        refine g_isv X rfl rfl dX12_picture_167 (fun M8 => ?_)
        refine g_aload_n X dX12_picture_168 rfl 2 rfl ?_
        refine g_getr X fa_X12_136 rfl rfl dX12_picture_169 ?_
        refine g_iload X dX12_picture_172 0 rfl ?_
        refine g_iload X dX12_picture_174 8 rfl ?_
        refine g_isv X rfl rfl dX12_picture_176 (fun M9 => ?_)
        refine g_aload_n X dX12_picture_177 rfl 2 rfl ?_
        refine g_getr X fa_X12_139 rfl rfl dX12_picture_178 ?_
        refine g_iload X dX12_picture_181 0 rfl ?_
        refine g_iload X dX12_picture_183 9 rfl ?_
        refine g_isv X rfl rfl dX12_picture_185 (fun M10 => ?_)
        refine g_aload_n X dX12_picture_186 rfl 2 rfl ?_
        refine g_getr X fa_X12_142 rfl rfl dX12_picture_187 ?_
        refine g_iload X dX12_picture_190 0 rfl ?_
        refine g_iconst (v := (-1)) X dX12_picture_192 (by decide) ?_
        refine g_isv X rfl rfl dX12_picture_193 (fun M11 => ?_)
        refine g_aload_n X dX12_picture_194 rfl 2 rfl ?_
        refine g_getr X fa_X12_145 rfl rfl dX12_picture_195 ?_
        refine g_iload X dX12_picture_198 0 rfl ?_
        refine g_iconst (v := (-1)) X dX12_picture_200 (by decide) ?_
        refine g_isv X rfl rfl dX12_picture_201 (fun M12 => ?_)
        refine g_aload_n X dX12_picture_202 rfl 2 rfl ?_
        refine g_getr X fa_X12_148 rfl rfl dX12_picture_203 ?_
        refine g_iload X dX12_picture_206 0 rfl ?_
        refine g_ldc (v := 1000000) X wc_X12_151 dX12_picture_208 ?_
        refine g_isv X rfl rfl dX12_picture_210 (fun M13 => ?_)
        refine g_aload_n X dX12_picture_211 rfl 2 rfl ?_
        refine g_getr X fa_X12_152 rfl rfl dX12_picture_212 ?_
        refine g_iload X dX12_picture_215 0 rfl ?_
        refine g_sipush (v := 400) X dX12_picture_217 (by decide) ?_
        refine g_isv X rfl rfl dX12_picture_220 (fun M14 => ?_)
        refine g_aload_n X dX12_picture_221 rfl 2 rfl ?_
        refine g_getr X fa_X12_155 rfl rfl dX12_picture_222 ?_
        refine g_iload X dX12_picture_225 0 rfl ?_
        refine g_iconst (v := (-1)) X dX12_picture_227 (by decide) ?_
        refine g_isv X rfl rfl dX12_picture_228 (fun M15 => ?_)
        refine g_aload_n X dX12_picture_229 rfl 2 rfl ?_
        refine g_getr X fa_X12_158 rfl rfl dX12_picture_230 ?_
        refine g_iload X dX12_picture_233 0 rfl ?_
        refine g_iconst (v := (-1)) X dX12_picture_235 (by decide) ?_
        refine g_isv X rfl rfl dX12_picture_236 (fun M16 => ?_)
        refine g_aload_n X dX12_picture_237 rfl 2 rfl ?_
        refine g_dup X dX12_picture_238 rfl ?_
        refine g_geti X fa_X12_108 rfl dX12_picture_239 ?_
        refine g_iconst (v := 1) X dX12_picture_242 (by decide) ?_
        refine g_iadd X dX12_picture_243 ?_
        refine g_pfi X fa_X12_108 rfl (by decide +kernel) rfl dX12_picture_244 (fun M17 => ?_)
        refine g_iload X dX12_picture_247 0 rfl ?_
        exact g_iret X rfl rfl rfl dX12_picture_249
  have hb_101 : ∀ (x1 : Int32) (x2 : Int32) (x3 : Int32) (x4 : Int32) (x5 : Int32) (x6 : Int32) (x7 : Int32) (M : q_MM), GG p l e { frames := 1, cells := 0, slots := 0, locals := 25 } s m args below meth c0 K A (qTM, qLM, qPM, M0) ad false 10 (fun res => MQ below (q_Qc K false ad (qTM, qLM, qPM, M0) ((fun (res : Int32 × q_MM) => some (.int res.1)) res) ((fun (res : Int32 × q_MM) => (qTM, qLM, qPM, res.2)) res) A) args s 0 0 A) (b_X12_picture_101 x1 x2 x3 x4 x5 x6 x7 M) 101 [(0, .ref 5001), (1, .int x1), (2, .int x2), (3, .int x3), (4, .int x4), (5, .int x5), (6, .int x6), (7, .int x7)] [] (qTM, qLM, qPM, M) 0 0 := by
    intro x1 x2 x3 x4 x5 x6 x7 M
    unfold b_X12_picture_101
    refine g_iconst (v := 0) X dX12_picture_101 (by decide) ?_
    exact g_sub [0, 1, 2, 3, 4, 5, 6, 7] rfl (hb_102 x1 x2 x3 x4 x5 x6 x7 0 M)
  refine g_sub (lv' := [(0, .ref 5001), (1, .int a1), (2, .int a2), (3, .int a3), (4, .int a4), (5, .int a5), (6, .int a6), (7, .int a7)]) [0, 1, 2, 3, 4, 5, 6, 7] rfl ?_
  unfold f_X12_picture
  refine g_aload_n X dX12_picture_0 rfl 0 rfl ?_
  refine g_iconst (v := 0) X dX12_picture_1 (by decide) ?_
  refine g_pfi X fa_X12_1 rfl (by decide +kernel) rfl dX12_picture_2 (fun M18 => ?_)
  refine g_iload_n X dX12_picture_5 rfl 1 rfl ?_
  refine g_i2l X dX12_picture_6 ?_
  refine g_ldc2 (v := 10) X wc_X12_111 dX12_picture_7 ?_
  refine g_ldc2 (v := 800) X wc_X12_113 dX12_picture_10 ?_
  refine g_bSi (As := [.long (Int32.toInt64 a1), .long 10, .long 800]) (rest := []) X (c_X12_in l K M18 (Int32.toInt64 a1) 10 800) lk_X12_17 rfl rfl (Nat.le_of_ble_eq_true rfl) ⟨Nat.le_of_ble_eq_true rfl, Nat.le_of_ble_eq_true rfl⟩ ⟨Nat.zero_le _, Nat.zero_le _⟩ dX12_picture_13 (fun r19 => ?_)
  refine g_if_eq X 101 dX12_picture_16 rfl (fun h20 => ?_) (fun h20 => ?_)
  · exact g_sub [0, 1, 2, 3, 4, 5, 6, 7] rfl (hb_101 a1 a2 a3 a4 a5 a6 a7 M18)
  · refine g_iload_n X dX12_picture_19 rfl 2 rfl ?_
    refine g_i2l X dX12_picture_20 ?_
    refine g_ldc2 (v := 10) X wc_X12_111 dX12_picture_21 ?_
    refine g_ldc2 (v := 800) X wc_X12_113 dX12_picture_24 ?_
    refine g_bSi (As := [.long (Int32.toInt64 a2), .long 10, .long 800]) (rest := []) X (c_X12_in l K M18 (Int32.toInt64 a2) 10 800) lk_X12_17 rfl rfl (Nat.le_of_ble_eq_true rfl) ⟨Nat.le_of_ble_eq_true rfl, Nat.le_of_ble_eq_true rfl⟩ ⟨Nat.zero_le _, Nat.zero_le _⟩ dX12_picture_27 (fun r21 => ?_)
    refine g_if_eq X 101 dX12_picture_30 rfl (fun h22 => ?_) (fun h22 => ?_)
    · exact g_sub [0, 1, 2, 3, 4, 5, 6, 7] rfl (hb_101 a1 a2 a3 a4 a5 a6 a7 M18)
    · refine g_iload_n X dX12_picture_33 rfl 3 rfl ?_
      refine g_i2l X dX12_picture_34 ?_
      refine g_lconst (v := 1) X dX12_picture_35 (by decide) ?_
      refine g_ldc2 (v := 999) X wc_X12_115 dX12_picture_36 ?_
      refine g_bSi (As := [.long (Int32.toInt64 a3), .long 1, .long 999]) (rest := []) X (c_X12_in l K M18 (Int32.toInt64 a3) 1 999) lk_X12_17 rfl rfl (Nat.le_of_ble_eq_true rfl) ⟨Nat.le_of_ble_eq_true rfl, Nat.le_of_ble_eq_true rfl⟩ ⟨Nat.zero_le _, Nat.zero_le _⟩ dX12_picture_39 (fun r23 => ?_)
      refine g_if_eq X 101 dX12_picture_42 rfl (fun h24 => ?_) (fun h24 => ?_)
      · exact g_sub [0, 1, 2, 3, 4, 5, 6, 7] rfl (hb_101 a1 a2 a3 a4 a5 a6 a7 M18)
      · refine g_iload X dX12_picture_45 4 rfl ?_
        refine g_i2l X dX12_picture_47 ?_
        refine g_lconst (v := 0) X dX12_picture_48 (by decide) ?_
        refine g_ldc2 (v := 7) X wc_X12_117 dX12_picture_49 ?_
        refine g_bSi (As := [.long (Int32.toInt64 a4), .long 0, .long 7]) (rest := []) X (c_X12_in l K M18 (Int32.toInt64 a4) 0 7) lk_X12_17 rfl rfl (Nat.le_of_ble_eq_true rfl) ⟨Nat.le_of_ble_eq_true rfl, Nat.le_of_ble_eq_true rfl⟩ ⟨Nat.zero_le _, Nat.zero_le _⟩ dX12_picture_52 (fun r25 => ?_)
        refine g_if_eq X 101 dX12_picture_55 rfl (fun h26 => ?_) (fun h26 => ?_)
        · exact g_sub [0, 1, 2, 3, 4, 5, 6, 7] rfl (hb_101 a1 a2 a3 a4 a5 a6 a7 M18)
        · refine g_iload X dX12_picture_58 5 rfl ?_
          refine g_i2l X dX12_picture_60 ?_
          refine g_lconst (v := 0) X dX12_picture_61 (by decide) ?_
          refine g_ldc2 (v := 2999) X wc_X12_119 dX12_picture_62 ?_
          refine g_bSi (As := [.long (Int32.toInt64 a5), .long 0, .long 2999]) (rest := []) X (c_X12_in l K M18 (Int32.toInt64 a5) 0 2999) lk_X12_17 rfl rfl (Nat.le_of_ble_eq_true rfl) ⟨Nat.le_of_ble_eq_true rfl, Nat.le_of_ble_eq_true rfl⟩ ⟨Nat.zero_le _, Nat.zero_le _⟩ dX12_picture_65 (fun r27 => ?_)
          refine g_if_eq X 101 dX12_picture_68 rfl (fun h28 => ?_) (fun h28 => ?_)
          · exact g_sub [0, 1, 2, 3, 4, 5, 6, 7] rfl (hb_101 a1 a2 a3 a4 a5 a6 a7 M18)
          · refine g_iload X dX12_picture_71 6 rfl ?_
            refine g_i2l X dX12_picture_73 ?_
            refine g_lconst (v := 0) X dX12_picture_74 (by decide) ?_
            refine g_ldc2 (v := 999) X wc_X12_115 dX12_picture_75 ?_
            refine g_bSi (As := [.long (Int32.toInt64 a6), .long 0, .long 999]) (rest := []) X (c_X12_in l K M18 (Int32.toInt64 a6) 0 999) lk_X12_17 rfl rfl (Nat.le_of_ble_eq_true rfl) ⟨Nat.le_of_ble_eq_true rfl, Nat.le_of_ble_eq_true rfl⟩ ⟨Nat.zero_le _, Nat.zero_le _⟩ dX12_picture_78 (fun r29 => ?_)
            refine g_if_eq X 101 dX12_picture_81 rfl (fun h30 => ?_) (fun h30 => ?_)
            · exact g_sub [0, 1, 2, 3, 4, 5, 6, 7] rfl (hb_101 a1 a2 a3 a4 a5 a6 a7 M18)
            · refine g_iload X dX12_picture_84 7 rfl ?_
              refine g_i2l X dX12_picture_86 ?_
              refine g_lconst (v := 0) X dX12_picture_87 (by decide) ?_
              refine g_ldc2 (v := 7) X wc_X12_117 dX12_picture_88 ?_
              refine g_bSi (As := [.long (Int32.toInt64 a7), .long 0, .long 7]) (rest := []) X (c_X12_in l K M18 (Int32.toInt64 a7) 0 7) lk_X12_17 rfl rfl (Nat.le_of_ble_eq_true rfl) ⟨Nat.le_of_ble_eq_true rfl, Nat.le_of_ble_eq_true rfl⟩ ⟨Nat.zero_le _, Nat.zero_le _⟩ dX12_picture_91 (fun r31 => ?_)
              refine g_if_eq X 101 dX12_picture_94 rfl (fun h32 => ?_) (fun h32 => ?_)
              · exact g_sub [0, 1, 2, 3, 4, 5, 6, 7] rfl (hb_101 a1 a2 a3 a4 a5 a6 a7 M18)
              · refine g_iconst (v := 1) X dX12_picture_97 (by decide) ?_
                refine g_goto X 102 dX12_picture_98 rfl ?_
                exact g_sub [0, 1, 2, 3, 4, 5, 6, 7] rfl (hb_102 a1 a2 a3 a4 a5 a6 a7 1 M18)
set_option maxHeartbeats 4000000 in
set_option maxRecDepth 100000 in
theorem c_X12_parts (l : Launch) (K : q_KK) (M0 : q_MM) (a1 : Int32) : ∀ res, f_X12_parts M0 a1 = some res → Mt l yX12_parts cX12_parts 2 (none : Option FieldType) 0 0 0 0 false K [.ref 5001, .int a1] (qTM, qLM, qPM, M0) (none) ((qTM, qLM, qPM, res)) := by
  refine Mt.of (fun (_ : q_MM) => none) (fun (res : q_MM) => (qTM, qLM, qPM, res)) (by decide) (Nat.le_of_ble_eq_true rfl) ?_
  intro p e s m args below meth c0 A ad X hN
  have hb_21 : ∀ (x1 : Int32) (M : q_MM), GG p l e { frames := 0, cells := 0, slots := 0, locals := 0 } s m args below meth c0 K A (qTM, qLM, qPM, M0) ad false 2 (fun res => MQ below (q_Qc K false ad (qTM, qLM, qPM, M0) ((fun (_ : q_MM) => none) res) ((fun (res : q_MM) => (qTM, qLM, qPM, res)) res) A) args s 0 0 A) (b_X12_parts_21 x1 M) 21 [(0, .ref 5001), (1, .int x1)] [] (qTM, qLM, qPM, M) 0 0 := by
    intro x1 M
    unfold b_X12_parts_21
    refine g_aload_n X dX12_parts_21 rfl 0 rfl ?_
    refine g_getr X fa_X12_142 rfl rfl dX12_parts_22 ?_
    refine g_iload_n X dX12_parts_25 rfl 1 rfl ?_
    refine g_iconst (v := (-1)) X dX12_parts_26 (by decide) ?_
    refine g_isv X rfl rfl dX12_parts_27 (fun M1 => ?_)
    exact g_vret X rfl rfl rfl dX12_parts_28
  refine g_sub (lv' := [(0, .ref 5001), (1, .int a1)]) [0, 1] rfl ?_
  unfold f_X12_parts
  refine g_aload_n X dX12_parts_0 rfl 0 rfl ?_
  refine g_getr X fa_X12_142 rfl rfl dX12_parts_1 ?_
  refine g_iload_n X dX12_parts_4 rfl 1 rfl ?_
  refine g_ild X rfl rfl dX12_parts_5 (fun v2 => ?_)
  refine g_if_lt X 21 dX12_parts_6 rfl (fun h3 => ?_) (fun h3 => ?_)
  · exact g_sub [0, 1] rfl (hb_21 a1 M0)
  · refine g_aload_n X dX12_parts_9 rfl 0 rfl ?_
    refine g_getr X fa_X12_142 rfl rfl dX12_parts_10 ?_
    refine g_aload_n X dX12_parts_13 rfl 0 rfl ?_
    refine g_getr X fa_X12_142 rfl rfl dX12_parts_14 ?_
    refine g_iload_n X dX12_parts_17 rfl 1 rfl ?_
    refine g_ild X rfl rfl dX12_parts_18 (fun v4 => ?_)
    refine g_iconst (v := (-1)) X dX12_parts_19 (by decide) ?_
    refine g_isv X rfl rfl dX12_parts_20 (fun M5 => ?_)
    exact g_sub [0, 1] rfl (hb_21 a1 M5)
set_option maxHeartbeats 4000000 in
set_option maxRecDepth 100000 in
theorem c_X12_tell (l : Launch) (K : q_KK) (M0 : q_MM) (a1 : Int32) (a2 : Int32) (a3 : Int32) : ∀ res, f_X12_tell M0 a1 a2 a3 = some res → Mt l yX12_tell cX12_tell 6 (some FieldType.int) 2 46 0 0 false K [.ref 5001, .int a1, .int a2, .int a3] (qTM, qLM, qPM, M0) (some (.int res.1)) ((qTM, qLM, qPM, res.2)) := by
  refine Mt.of (fun (res : Int32 × q_MM) => some (.int res.1)) (fun (res : Int32 × q_MM) => (qTM, qLM, qPM, res.2)) (by decide) (Nat.le_of_ble_eq_true rfl) ?_
  intro p e s m args below meth c0 A ad X hN
  have hb_222 : ∀ (x5 : Int32) (M : q_MM), GG p l e { frames := 2, cells := 0, slots := 0, locals := 46 } s m args below meth c0 K A (qTM, qLM, qPM, M0) ad false 6 (fun res => MQ below (q_Qc K false ad (qTM, qLM, qPM, M0) ((fun (res : Int32 × q_MM) => some (.int res.1)) res) ((fun (res : Int32 × q_MM) => (qTM, qLM, qPM, res.2)) res) A) args s 0 0 A) (b_X12_tell_222 x5 M) 222 [(5, .int x5)] [] (qTM, qLM, qPM, M) 0 0 := by
    intro x5 M
    unfold b_X12_tell_222
    refine g_iload X dX12_tell_222 0 rfl ?_
    exact g_iret X rfl rfl rfl dX12_tell_224
  have hb_148 : ∀ (x1 : Int32) (x2 : Int32) (x3 : Int32) (s0 : Int32) (M : q_MM), GG p l e { frames := 2, cells := 0, slots := 0, locals := 46 } s m args below meth c0 K A (qTM, qLM, qPM, M0) ad false 6 (fun res => MQ below (q_Qc K false ad (qTM, qLM, qPM, M0) ((fun (res : Int32 × q_MM) => some (.int res.1)) res) ((fun (res : Int32 × q_MM) => (qTM, qLM, qPM, res.2)) res) A) args s 0 0 A) (b_X12_tell_148 x1 x2 x3 s0 M) 148 [(0, .ref 5001), (1, .int x1), (2, .int x2), (3, .int x3)] [.int s0] (qTM, qLM, qPM, M) 0 0 := by
    intro x1 x2 x3 s0 M
    unfold b_X12_tell_148
    refine g_istore X [(5, .int s0), (0, .ref 5001), (1, .int x1), (2, .int x2), (3, .int x3)] dX12_tell_148 (by decide) rfl ?_
    refine g_iload_n X dX12_tell_150 rfl 3 rfl ?_
    refine g_if_ne X 185 dX12_tell_151 rfl (fun h1 => ?_) (fun h1 => ?_)
    · refine g_aload_n X dX12_tell_154 rfl 1 rfl ?_
      refine g_iload_n X dX12_tell_155 rfl 2 rfl ?_
      refine g_bVv (As := [.int x1]) (rest := []) X (c_X12_parts l K M x1) lk_X12_166 rfl rfl rfl (Nat.le_of_ble_eq_true rfl) ⟨Nat.le_of_ble_eq_true rfl, Nat.le_of_ble_eq_true rfl⟩ ⟨Nat.zero_le _, Nat.zero_le _⟩ dX12_tell_156 (fun r2 => ?_)
      refine g_iload_n X dX12_tell_159 rfl 4 rfl ?_
      refine g_if_lt X 222 dX12_tell_160 rfl (fun h3 => ?_) (fun h3 => ?_)
      · exact g_sub [0] rfl (hb_222 s0 r2)
      · refine g_aload_n X dX12_tell_163 rfl 1 rfl ?_
        refine g_iload_n X dX12_tell_164 rfl 4 rfl ?_
        refine g_bVv (As := [.int x3]) (rest := []) X (c_X12_parts l K r2 x3) lk_X12_166 rfl rfl rfl (Nat.le_of_ble_eq_true rfl) ⟨Nat.le_of_ble_eq_true rfl, Nat.le_of_ble_eq_true rfl⟩ ⟨Nat.zero_le _, Nat.zero_le _⟩ dX12_tell_165 (fun r4 => ?_)
        refine g_aload_n X dX12_tell_168 rfl 1 rfl ?_
        refine g_getr X fa_X12_142 rfl rfl dX12_tell_169 ?_
        refine g_iload_n X dX12_tell_172 rfl 4 rfl ?_
        refine g_iload_n X dX12_tell_173 rfl 2 rfl ?_
        refine g_isv X rfl rfl dX12_tell_174 (fun M5 => ?_)
        refine g_aload_n X dX12_tell_175 rfl 1 rfl ?_
        refine g_getr X fa_X12_142 rfl rfl dX12_tell_176 ?_
        refine g_iload_n X dX12_tell_179 rfl 2 rfl ?_
        refine g_iload_n X dX12_tell_180 rfl 4 rfl ?_
        refine g_isv X rfl rfl dX12_tell_181 (fun M6 => ?_)
        refine g_goto X 222 dX12_tell_182 rfl ?_
        exact g_sub [0] rfl (hb_222 s0 M6)
    · refine g_iload_n X dX12_tell_185 rfl 3 rfl ?_
      refine g_iconst (v := 1) X dX12_tell_186 (by decide) ?_
      refine g_icmp_ne X 200 dX12_tell_187 rfl (fun h7 => ?_) (fun h7 => ?_)
      · refine g_aload_n X dX12_tell_190 rfl 1 rfl ?_
        refine g_getr X fa_X12_145 rfl rfl dX12_tell_191 ?_
        refine g_iload_n X dX12_tell_194 rfl 2 rfl ?_
        refine g_iload_n X dX12_tell_195 rfl 4 rfl ?_
        refine g_isv X rfl rfl dX12_tell_196 (fun M8 => ?_)
        refine g_goto X 222 dX12_tell_197 rfl ?_
        exact g_sub [0] rfl (hb_222 s0 M8)
      · refine g_iload_n X dX12_tell_200 rfl 3 rfl ?_
        refine g_iconst (v := 2) X dX12_tell_201 (by decide) ?_
        refine g_icmp_ne X 215 dX12_tell_202 rfl (fun h9 => ?_) (fun h9 => ?_)
        · refine g_aload_n X dX12_tell_205 rfl 1 rfl ?_
          refine g_getr X fa_X12_148 rfl rfl dX12_tell_206 ?_
          refine g_iload_n X dX12_tell_209 rfl 2 rfl ?_
          refine g_iload_n X dX12_tell_210 rfl 4 rfl ?_
          refine g_isv X rfl rfl dX12_tell_211 (fun M10 => ?_)
          refine g_goto X 222 dX12_tell_212 rfl ?_
          exact g_sub [0] rfl (hb_222 s0 M10)
        · refine g_aload_n X dX12_tell_215 rfl 1 rfl ?_
          refine g_getr X fa_X12_152 rfl rfl dX12_tell_216 ?_
          refine g_iload_n X dX12_tell_219 rfl 2 rfl ?_
          refine g_iload_n X dX12_tell_220 rfl 4 rfl ?_
          refine g_isv X rfl rfl dX12_tell_221 (fun M11 => ?_)
          exact g_sub [0] rfl (hb_222 s0 M11)
  have hb_91 : ∀ (x1 : Int32) (x2 : Int32) (x3 : Int32) (s0 : Int32) (M : q_MM), GG p l e { frames := 2, cells := 0, slots := 0, locals := 46 } s m args below meth c0 K A (qTM, qLM, qPM, M0) ad false 6 (fun res => MQ below (q_Qc K false ad (qTM, qLM, qPM, M0) ((fun (res : Int32 × q_MM) => some (.int res.1)) res) ((fun (res : Int32 × q_MM) => (qTM, qLM, qPM, res.2)) res) A) args s 0 0 A) (b_X12_tell_91 x1 x2 x3 s0 M) 91 [(0, .ref 5001), (1, .int x1), (2, .int x2), (3, .int x3)] [.int s0] (qTM, qLM, qPM, M) 0 0 := by
    intro x1 x2 x3 s0 M
    unfold b_X12_tell_91
    refine g_istore X [(4, .int s0), (0, .ref 5001), (1, .int x1), (2, .int x2), (3, .int x3)] dX12_tell_91 (by decide) rfl ?_
    refine g_iload X dX12_tell_93 0 rfl ?_
    refine g_if_ne X 101 dX12_tell_95 rfl (fun h12 => ?_) (fun h12 => ?_)
    · refine g_bipush (v := (-2)) X dX12_tell_98 (by decide) ?_
      exact g_iret X rfl rfl rfl dX12_tell_100
    · refine g_iload_n X dX12_tell_101 rfl 3 rfl ?_
      refine g_if_ne X 114 dX12_tell_102 rfl (fun h13 => ?_) (fun h13 => ?_)
      · refine g_aload_n X dX12_tell_105 rfl 1 rfl ?_
        refine g_getr X fa_X12_142 rfl rfl dX12_tell_106 ?_
        refine g_iload_n X dX12_tell_109 rfl 2 rfl ?_
        refine g_ild X rfl rfl dX12_tell_110 (fun v14 => ?_)
        refine g_goto X 148 dX12_tell_111 rfl ?_
        exact g_sub [1, 2, 3, 4] rfl (hb_148 x1 x2 x3 v14 M)
      · refine g_iload_n X dX12_tell_114 rfl 3 rfl ?_
        refine g_iconst (v := 1) X dX12_tell_115 (by decide) ?_
        refine g_icmp_ne X 128 dX12_tell_116 rfl (fun h15 => ?_) (fun h15 => ?_)
        · refine g_aload_n X dX12_tell_119 rfl 1 rfl ?_
          refine g_getr X fa_X12_145 rfl rfl dX12_tell_120 ?_
          refine g_iload_n X dX12_tell_123 rfl 2 rfl ?_
          refine g_ild X rfl rfl dX12_tell_124 (fun v16 => ?_)
          refine g_goto X 148 dX12_tell_125 rfl ?_
          exact g_sub [1, 2, 3, 4] rfl (hb_148 x1 x2 x3 v16 M)
        · refine g_iload_n X dX12_tell_128 rfl 3 rfl ?_
          refine g_iconst (v := 2) X dX12_tell_129 (by decide) ?_
          refine g_icmp_ne X 142 dX12_tell_130 rfl (fun h17 => ?_) (fun h17 => ?_)
          · refine g_aload_n X dX12_tell_133 rfl 1 rfl ?_
            refine g_getr X fa_X12_148 rfl rfl dX12_tell_134 ?_
            refine g_iload_n X dX12_tell_137 rfl 2 rfl ?_
            refine g_ild X rfl rfl dX12_tell_138 (fun v18 => ?_)
            refine g_goto X 148 dX12_tell_139 rfl ?_
            exact g_sub [1, 2, 3, 4] rfl (hb_148 x1 x2 x3 v18 M)
          · refine g_aload_n X dX12_tell_142 rfl 1 rfl ?_
            refine g_getr X fa_X12_152 rfl rfl dX12_tell_143 ?_
            refine g_iload_n X dX12_tell_146 rfl 2 rfl ?_
            refine g_ild X rfl rfl dX12_tell_147 (fun v19 => ?_)
            exact g_sub [1, 2, 3, 4] rfl (hb_148 x1 x2 x3 v19 M)
  have hb_90 : ∀ (x1 : Int32) (x2 : Int32) (x3 : Int32) (M : q_MM), GG p l e { frames := 2, cells := 0, slots := 0, locals := 46 } s m args below meth c0 K A (qTM, qLM, qPM, M0) ad false 6 (fun res => MQ below (q_Qc K false ad (qTM, qLM, qPM, M0) ((fun (res : Int32 × q_MM) => some (.int res.1)) res) ((fun (res : Int32 × q_MM) => (qTM, qLM, qPM, res.2)) res) A) args s 0 0 A) (b_X12_tell_90 x1 x2 x3 M) 90 [(0, .ref 5001), (1, .int x1), (2, .int x2), (3, .int x3)] [] (qTM, qLM, qPM, M) 0 0 := by
    intro x1 x2 x3 M
    unfold b_X12_tell_90
    refine g_iconst (v := 0) X dX12_tell_90 (by decide) ?_
    exact g_sub [0, 1, 2, 3] rfl (hb_91 x1 x2 x3 0 M)
  have hb_86 : ∀ (x1 : Int32) (x2 : Int32) (x3 : Int32) (M : q_MM), GG p l e { frames := 2, cells := 0, slots := 0, locals := 46 } s m args below meth c0 K A (qTM, qLM, qPM, M0) ad false 6 (fun res => MQ below (q_Qc K false ad (qTM, qLM, qPM, M0) ((fun (res : Int32 × q_MM) => some (.int res.1)) res) ((fun (res : Int32 × q_MM) => (qTM, qLM, qPM, res.2)) res) A) args s 0 0 A) (b_X12_tell_86 x1 x2 x3 M) 86 [(0, .ref 5001), (1, .int x1), (2, .int x2), (3, .int x3)] [] (qTM, qLM, qPM, M) 0 0 := by
    intro x1 x2 x3 M
    unfold b_X12_tell_86
    refine g_iconst (v := 1) X dX12_tell_86 (by decide) ?_
    refine g_goto X 91 dX12_tell_87 rfl ?_
    exact g_sub [0, 1, 2, 3] rfl (hb_91 x1 x2 x3 1 M)
  have hb_80 : ∀ (x1 : Int32) (x2 : Int32) (x3 : Int32) (s0 : Int64) (s1 : Int64) (s2 : Int64) (M : q_MM), GG p l e { frames := 2, cells := 0, slots := 0, locals := 46 } s m args below meth c0 K A (qTM, qLM, qPM, M0) ad false 6 (fun res => MQ below (q_Qc K false ad (qTM, qLM, qPM, M0) ((fun (res : Int32 × q_MM) => some (.int res.1)) res) ((fun (res : Int32 × q_MM) => (qTM, qLM, qPM, res.2)) res) A) args s 0 0 A) (b_X12_tell_80 x1 x2 x3 s0 s1 s2 M) 80 [(0, .ref 5001), (1, .int x1), (2, .int x2), (3, .int x3)] [.long s0, .long s1, .long s2] (qTM, qLM, qPM, M) 0 0 := by
    intro x1 x2 x3 s0 s1 s2 M
    unfold b_X12_tell_80
    refine g_bSi (As := [.long s2, .long s1, .long s0]) (rest := []) X (c_X12_in l K M s2 s1 s0) lk_X12_17 rfl rfl (Nat.le_of_ble_eq_true rfl) ⟨Nat.le_of_ble_eq_true rfl, Nat.le_of_ble_eq_true rfl⟩ ⟨Nat.zero_le _, Nat.zero_le _⟩ dX12_tell_80 (fun r20 => ?_)
    refine g_if_eq X 90 dX12_tell_83 rfl (fun h21 => ?_) (fun h21 => ?_)
    · exact g_sub [0, 1, 2, 3] rfl (hb_90 x1 x2 x3 M)
    · exact g_sub [0, 1, 2, 3] rfl (hb_86 x1 x2 x3 M)
  have hb_30 : ∀ (x1 : Int32) (x2 : Int32) (x3 : Int32) (s0 : Int32) (M : q_MM), GG p l e { frames := 2, cells := 0, slots := 0, locals := 46 } s m args below meth c0 K A (qTM, qLM, qPM, M0) ad false 6 (fun res => MQ below (q_Qc K false ad (qTM, qLM, qPM, M0) ((fun (res : Int32 × q_MM) => some (.int res.1)) res) ((fun (res : Int32 × q_MM) => (qTM, qLM, qPM, res.2)) res) A) args s 0 0 A) (b_X12_tell_30 x1 x2 x3 s0 M) 30 [(0, .ref 5001), (1, .int x1), (2, .int x2), (3, .int x3)] [.int s0] (qTM, qLM, qPM, M) 0 0 := by
    intro x1 x2 x3 s0 M
    unfold b_X12_tell_30
    refine g_istore X [(4, .int s0), (0, .ref 5001), (1, .int x1), (2, .int x2), (3, .int x3)] dX12_tell_30 (by decide) rfl ?_
    refine g_iload X dX12_tell_32 0 rfl ?_
    refine g_if_eq X 90 dX12_tell_34 rfl (fun h22 => ?_) (fun h22 => ?_)
    · exact g_sub [1, 2, 3, 4] rfl (hb_90 x1 x2 x3 M)
    · refine g_iload_n X dX12_tell_37 rfl 3 rfl ?_
      refine g_iconst (v := 2) X dX12_tell_38 (by decide) ?_
      refine g_icmp_ge X 63 dX12_tell_39 rfl (fun h23 => ?_) (fun h23 => ?_)
      · refine g_iload_n X dX12_tell_63 rfl 4 rfl ?_
        refine g_i2l X dX12_tell_64 ?_
        refine g_lconst (v := 0) X dX12_tell_65 (by decide) ?_
        refine g_iload_n X dX12_tell_66 rfl 3 rfl ?_
        refine g_iconst (v := 2) X dX12_tell_67 (by decide) ?_
        refine g_icmp_ne X 77 dX12_tell_68 rfl (fun h24 => ?_) (fun h24 => ?_)
        · refine g_ldc2 (v := 1000000) X wc_X12_164 dX12_tell_71 ?_
          refine g_goto X 80 dX12_tell_74 rfl ?_
          exact g_sub [1, 2, 3, 4] rfl (hb_80 x1 x2 x3 1000000 0 (Int32.toInt64 x3) M)
        · refine g_ldc2 (v := 400) X wc_X12_30 dX12_tell_77 ?_
          exact g_sub [1, 2, 3, 4] rfl (hb_80 x1 x2 x3 400 0 (Int32.toInt64 x3) M)
      · refine g_iload_n X dX12_tell_42 rfl 4 rfl ?_
        refine g_iconst (v := (-1)) X dX12_tell_43 (by decide) ?_
        refine g_icmp_eq X 86 dX12_tell_44 rfl (fun h25 => ?_) (fun h25 => ?_)
        · exact g_sub [1, 2, 3, 4] rfl (hb_86 x1 x2 x3 M)
        · refine g_aload_n X dX12_tell_47 rfl 1 rfl ?_
          refine g_iload_n X dX12_tell_48 rfl 4 rfl ?_
          refine g_bVi (As := [.int x3]) (rest := []) X (c_X12_isPicture l K M x3) lk_X12_161 rfl rfl rfl (Nat.le_of_ble_eq_true rfl) ⟨Nat.le_of_ble_eq_true rfl, Nat.le_of_ble_eq_true rfl⟩ ⟨Nat.zero_le _, Nat.zero_le _⟩ dX12_tell_49 (fun r26 => ?_)
          refine g_if_eq X 90 dX12_tell_52 rfl (fun h27 => ?_) (fun h27 => ?_)
          · exact g_sub [1, 2, 3, 4] rfl (hb_90 x1 x2 x3 M)
          · refine g_iload_n X dX12_tell_55 rfl 4 rfl ?_
            refine g_iload_n X dX12_tell_56 rfl 2 rfl ?_
            refine g_icmp_eq X 90 dX12_tell_57 rfl (fun h28 => ?_) (fun h28 => ?_)
            · exact g_sub [1, 2, 3, 4] rfl (hb_90 x1 x2 x3 M)
            · refine g_goto X 86 dX12_tell_60 rfl ?_
              exact g_sub [1, 2, 3, 4] rfl (hb_86 x1 x2 x3 M)
  have hb_29 : ∀ (x1 : Int32) (x2 : Int32) (x3 : Int32) (M : q_MM), GG p l e { frames := 2, cells := 0, slots := 0, locals := 46 } s m args below meth c0 K A (qTM, qLM, qPM, M0) ad false 6 (fun res => MQ below (q_Qc K false ad (qTM, qLM, qPM, M0) ((fun (res : Int32 × q_MM) => some (.int res.1)) res) ((fun (res : Int32 × q_MM) => (qTM, qLM, qPM, res.2)) res) A) args s 0 0 A) (b_X12_tell_29 x1 x2 x3 M) 29 [(0, .ref 5001), (1, .int x1), (2, .int x2), (3, .int x3)] [] (qTM, qLM, qPM, M) 0 0 := by
    intro x1 x2 x3 M
    unfold b_X12_tell_29
    refine g_iconst (v := 0) X dX12_tell_29 (by decide) ?_
    exact g_sub [0, 1, 2, 3] rfl (hb_30 x1 x2 x3 0 M)
  refine g_sub (lv' := [(0, .ref 5001), (1, .int a1), (2, .int a2), (3, .int a3)]) [0, 1, 2, 3] rfl ?_
  unfold f_X12_tell
  refine g_aload_n X dX12_tell_0 rfl 0 rfl ?_
  refine g_iconst (v := 0) X dX12_tell_1 (by decide) ?_
  refine g_pfi X fa_X12_1 rfl (by decide +kernel) rfl dX12_tell_2 (fun M29 => ?_)
  refine g_aload_n X dX12_tell_5 rfl 0 rfl ?_
  refine g_iload_n X dX12_tell_6 rfl 1 rfl ?_
  refine g_bVi (As := [.int a1]) (rest := []) X (c_X12_isPicture l K M29 a1) lk_X12_161 rfl rfl rfl (Nat.le_of_ble_eq_true rfl) ⟨Nat.le_of_ble_eq_true rfl, Nat.le_of_ble_eq_true rfl⟩ ⟨Nat.zero_le _, Nat.zero_le _⟩ dX12_tell_7 (fun r30 => ?_)
  refine g_if_eq X 29 dX12_tell_10 rfl (fun h31 => ?_) (fun h31 => ?_)
  · exact g_sub [0, 1, 2, 3] rfl (hb_29 a1 a2 a3 M29)
  · refine g_iload_n X dX12_tell_13 rfl 2 rfl ?_
    refine g_i2l X dX12_tell_14 ?_
    refine g_lconst (v := 0) X dX12_tell_15 (by decide) ?_
    refine g_ldc2 (v := 3) X wc_X12_93 dX12_tell_16 ?_
    refine g_bSi (As := [.long (Int32.toInt64 a2), .long 0, .long 3]) (rest := []) X (c_X12_in l K M29 (Int32.toInt64 a2) 0 3) lk_X12_17 rfl rfl (Nat.le_of_ble_eq_true rfl) ⟨Nat.le_of_ble_eq_true rfl, Nat.le_of_ble_eq_true rfl⟩ ⟨Nat.zero_le _, Nat.zero_le _⟩ dX12_tell_19 (fun r32 => ?_)
    refine g_if_eq X 29 dX12_tell_22 rfl (fun h33 => ?_) (fun h33 => ?_)
    · exact g_sub [0, 1, 2, 3] rfl (hb_29 a1 a2 a3 M29)
    · refine g_iconst (v := 1) X dX12_tell_25 (by decide) ?_
      refine g_goto X 30 dX12_tell_26 rfl ?_
      exact g_sub [0, 1, 2, 3] rfl (hb_30 a1 a2 a3 1 M29)
set_option maxHeartbeats 4000000 in
set_option maxRecDepth 100000 in
theorem c_X12_isOn (l : Launch) (K : q_KK) (M : q_MM) (a1 : Int32) (a2 : Int32) : ∀ res, f_X12_isOn M a1 a2 = some res → Mt l yX12_isOn cX12_isOn 3 (some FieldType.boolean) 0 0 0 0 false K [.ref 5001, .int a1, .int a2] (qTM, qLM, qPM, M) (some (.int res)) ((qTM, qLM, qPM, M)) := by
  refine Mt.of (fun (res : Int32) => some (.int res)) (fun (_ : Int32) => (qTM, qLM, qPM, M)) (by decide) (Nat.le_of_ble_eq_true rfl) ?_
  intro p e s m args below meth c0 A ad X hN
  refine g_sub (lv' := [(0, .ref 5001), (1, .int a1), (2, .int a2)]) [0, 1, 2] rfl ?_
  unfold f_X12_isOn
  refine g_aload_n X dX12_isOn_0 rfl 0 rfl ?_
  refine g_getr X fa_X12_170 rfl rfl dX12_isOn_1 ?_
  refine g_iload_n X dX12_isOn_4 rfl 1 rfl ?_
  refine g_ild X rfl rfl dX12_isOn_5 (fun v1 => ?_)
  refine g_iconst (v := 1) X dX12_isOn_6 (by decide) ?_
  refine g_icmp_ne X 24 dX12_isOn_7 rfl (fun h2 => ?_) (fun h2 => ?_)
  · refine g_aload_n X dX12_isOn_10 rfl 0 rfl ?_
    refine g_getr X fa_X12_155 rfl rfl dX12_isOn_11 ?_
    refine g_iload_n X dX12_isOn_14 rfl 1 rfl ?_
    refine g_ild X rfl rfl dX12_isOn_15 (fun v3 => ?_)
    refine g_iload_n X dX12_isOn_16 rfl 2 rfl ?_
    refine g_icmp_ne X 24 dX12_isOn_17 rfl (fun h4 => ?_) (fun h4 => ?_)
    · refine g_iconst (v := 1) X dX12_isOn_20 (by decide) ?_
      refine g_goto X 25 dX12_isOn_21 rfl ?_
      exact g_zret X rfl rfl rfl dX12_isOn_25
    · refine g_iconst (v := 0) X dX12_isOn_24 (by decide) ?_
      exact g_zret X rfl rfl rfl dX12_isOn_25
  · refine g_iconst (v := 0) X dX12_isOn_24 (by decide) ?_
    exact g_zret X rfl rfl rfl dX12_isOn_25
set_option maxHeartbeats 4000000 in
set_option maxRecDepth 100000 in
theorem c_X12_isIn (l : Launch) (K : q_KK) (M : q_MM) (a1 : Int32) (a2 : Int32) : ∀ res, f_X12_isIn M a1 a2 = some res → Mt l yX12_isIn cX12_isIn 3 (some FieldType.boolean) 0 0 0 0 false K [.ref 5001, .int a1, .int a2] (qTM, qLM, qPM, M) (some (.int res)) ((qTM, qLM, qPM, M)) := by
  refine Mt.of (fun (res : Int32) => some (.int res)) (fun (_ : Int32) => (qTM, qLM, qPM, M)) (by decide) (Nat.le_of_ble_eq_true rfl) ?_
  intro p e s m args below meth c0 A ad X hN
  refine g_sub (lv' := [(0, .ref 5001), (1, .int a1), (2, .int a2)]) [0, 1, 2] rfl ?_
  unfold f_X12_isIn
  refine g_aload_n X dX12_isIn_0 rfl 0 rfl ?_
  refine g_getr X fa_X12_170 rfl rfl dX12_isIn_1 ?_
  refine g_iload_n X dX12_isIn_4 rfl 1 rfl ?_
  refine g_ild X rfl rfl dX12_isIn_5 (fun v1 => ?_)
  refine g_iconst (v := 1) X dX12_isIn_6 (by decide) ?_
  refine g_icmp_ne X 29 dX12_isIn_7 rfl (fun h2 => ?_) (fun h2 => ?_)
  · refine g_aload_n X dX12_isIn_10 rfl 0 rfl ?_
    refine g_getr X fa_X12_57 rfl rfl dX12_isIn_11 ?_
    refine g_aload_n X dX12_isIn_14 rfl 0 rfl ?_
    refine g_getr X fa_X12_155 rfl rfl dX12_isIn_15 ?_
    refine g_iload_n X dX12_isIn_18 rfl 1 rfl ?_
    refine g_ild X rfl rfl dX12_isIn_19 (fun v3 => ?_)
    refine g_ild X rfl rfl dX12_isIn_20 (fun v4 => ?_)
    refine g_iload_n X dX12_isIn_21 rfl 2 rfl ?_
    refine g_icmp_ne X 29 dX12_isIn_22 rfl (fun h5 => ?_) (fun h5 => ?_)
    · refine g_iconst (v := 1) X dX12_isIn_25 (by decide) ?_
      refine g_goto X 30 dX12_isIn_26 rfl ?_
      exact g_zret X rfl rfl rfl dX12_isIn_30
    · refine g_iconst (v := 0) X dX12_isIn_29 (by decide) ?_
      exact g_zret X rfl rfl rfl dX12_isIn_30
  · refine g_iconst (v := 0) X dX12_isIn_29 (by decide) ?_
    exact g_zret X rfl rfl rfl dX12_isIn_30
