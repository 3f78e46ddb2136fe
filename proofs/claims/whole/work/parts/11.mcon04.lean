set_option maxHeartbeats 4000000 in
set_option maxRecDepth 100000 in
theorem c_X12_owed (l : Launch) (K : q_KK) (M0 : q_MM) (a1 : Int32) (a2 : Int32) : ∀ res, f_X12_owed M0 a1 a2 = some res → Mt l yX12_owed cX12_owed 6 (some FieldType.int) 1 25 0 0 false K [.ref 5001, .int a1, .int a2] (qTM, qLM, qPM, M0) (some (.int res.1)) ((qTM, qLM, qPM, res.2)) := by
  refine Mt.of (fun (res : Int32 × q_MM) => some (.int res.1)) (fun (res : Int32 × q_MM) => (qTM, qLM, qPM, res.2)) (by decide) (Nat.le_of_ble_eq_true rfl) ?_
  intro p e s m args below meth c0 A ad X hN
  have hb_98 : ∀ (k55 : Int32 → Int32 → Int32 → Int32 → Int32 → q_MM → Option (Int32 × q_MM)) (hk55 : ∀ (x1 : Int32) (x2 : Int32) (x3 : Int32) (x4 : Int32) (x5 : Int32) (M : q_MM), GG p l e { frames := 1, cells := 0, slots := 0, locals := 25 } s m args below meth c0 K A (qTM, qLM, qPM, M0) ad false 6 (fun res => MQ below (q_Qc K false ad (qTM, qLM, qPM, M0) ((fun (res : Int32 × q_MM) => some (.int res.1)) res) ((fun (res : Int32 × q_MM) => (qTM, qLM, qPM, res.2)) res) A) args s 0 0 A) (k55 x1 x2 x3 x4 x5 M) 55 [(0, .ref 5001), (1, .int x1), (2, .int x2), (3, .int x3), (4, .int x4), (5, .int x5)] [] (qTM, qLM, qPM, M) 0 0) (x1 : Int32) (x2 : Int32) (x4 : Int32) (x5 : Int32) (s0 : Int32) (s1 : Int32) (M : q_MM), GG p l e { frames := 1, cells := 0, slots := 0, locals := 25 } s m args below meth c0 K A (qTM, qLM, qPM, M0) ad false 6 (fun res => MQ below (q_Qc K false ad (qTM, qLM, qPM, M0) ((fun (res : Int32 × q_MM) => some (.int res.1)) res) ((fun (res : Int32 × q_MM) => (qTM, qLM, qPM, res.2)) res) A) args s 0 0 A) (b_X12_owed_98 k55 x1 x2 x4 x5 s0 s1 M) 98 [(0, .ref 5001), (1, .int x1), (2, .int x2), (4, .int x4), (5, .int x5)] [.int s0, .int s1] (qTM, qLM, qPM, M) 0 0 := by
    intro k55 hk55 x1 x2 x4 x5 s0 s1 M
    unfold b_X12_owed_98
    refine g_bSi (As := [.int s0]) (rest := [.int s1]) X (c_X12_truth l K M s0) lk_X12_268 rfl rfl (Nat.le_of_ble_eq_true rfl) ⟨Nat.le_of_ble_eq_true rfl, Nat.le_of_ble_eq_true rfl⟩ ⟨Nat.zero_le _, Nat.zero_le _⟩ dX12_owed_98 (fun r1 => ?_)
    refine g_iadd X dX12_owed_101 ?_
    refine g_isn X (fun v2 => [(3, .int v2), (0, .ref 5001), (1, .int x1), (2, .int x2), (4, .int x4), (5, .int x5)]) dX12_owed_102 rfl (by decide) (fun _ => rfl) (fun v2 => ?_)
    refine g_iinc (v := 1) X [(5, .int (x5 + 1)), (3, .int v2), (0, .ref 5001), (1, .int x1), (2, .int x2), (4, .int x4)] 5 dX12_owed_103 rfl (by decide) (by decide) rfl ?_
    refine g_goto X 55 dX12_owed_106 rfl ?_
    exact g_sub [2, 3, 4, 1, 5, 0] rfl (hk55 x1 x2 v2 x4 (x5 + 1) M)
  have hb_109 : ∀ (k38 : Int32 → Int32 → Int32 → Int32 → q_MM → Option (Int32 × q_MM)) (hk38 : ∀ (x1 : Int32) (x2 : Int32) (x3 : Int32) (x4 : Int32) (M : q_MM), GG p l e { frames := 1, cells := 0, slots := 0, locals := 25 } s m args below meth c0 K A (qTM, qLM, qPM, M0) ad false 6 (fun res => MQ below (q_Qc K false ad (qTM, qLM, qPM, M0) ((fun (res : Int32 × q_MM) => some (.int res.1)) res) ((fun (res : Int32 × q_MM) => (qTM, qLM, qPM, res.2)) res) A) args s 0 0 A) (k38 x1 x2 x3 x4 M) 38 [(0, .ref 5001), (1, .int x1), (2, .int x2), (3, .int x3), (4, .int x4)] [] (qTM, qLM, qPM, M) 0 0) (x1 : Int32) (x2 : Int32) (x3 : Int32) (x4 : Int32) (M : q_MM), GG p l e { frames := 1, cells := 0, slots := 0, locals := 25 } s m args below meth c0 K A (qTM, qLM, qPM, M0) ad false 6 (fun res => MQ below (q_Qc K false ad (qTM, qLM, qPM, M0) ((fun (res : Int32 × q_MM) => some (.int res.1)) res) ((fun (res : Int32 × q_MM) => (qTM, qLM, qPM, res.2)) res) A) args s 0 0 A) (b_X12_owed_109 k38 x1 x2 x3 x4 M) 109 [(0, .ref 5001), (1, .int x1), (2, .int x2), (3, .int x3), (4, .int x4)] [] (qTM, qLM, qPM, M) 0 0 := by
    intro k38 hk38 x1 x2 x3 x4 M
    unfold b_X12_owed_109
    refine g_iinc (v := 1) X [(4, .int (x4 + 1)), (0, .ref 5001), (1, .int x1), (2, .int x2), (3, .int x3)] 4 dX12_owed_109 rfl (by decide) (by decide) rfl ?_
    refine g_goto X 38 dX12_owed_112 rfl ?_
    exact g_sub [1, 2, 3, 4, 0] rfl (hk38 x1 x2 x3 (x4 + 1) M)
  have hb_55 : ∀ (k38 : Int32 → Int32 → Int32 → Int32 → q_MM → Option (Int32 × q_MM)) (hk38 : ∀ (x1 : Int32) (x2 : Int32) (x3 : Int32) (x4 : Int32) (M : q_MM), GG p l e { frames := 1, cells := 0, slots := 0, locals := 25 } s m args below meth c0 K A (qTM, qLM, qPM, M0) ad false 6 (fun res => MQ below (q_Qc K false ad (qTM, qLM, qPM, M0) ((fun (res : Int32 × q_MM) => some (.int res.1)) res) ((fun (res : Int32 × q_MM) => (qTM, qLM, qPM, res.2)) res) A) args s 0 0 A) (k38 x1 x2 x3 x4 M) 38 [(0, .ref 5001), (1, .int x1), (2, .int x2), (3, .int x3), (4, .int x4)] [] (qTM, qLM, qPM, M) 0 0) (nf : Nat) (x1 : Int32) (x2 : Int32) (x3 : Int32) (x4 : Int32) (x5 : Int32) (M : q_MM), GG p l e { frames := 1, cells := 0, slots := 0, locals := 25 } s m args below meth c0 K A (qTM, qLM, qPM, M0) ad false 6 (fun res => MQ below (q_Qc K false ad (qTM, qLM, qPM, M0) ((fun (res : Int32 × q_MM) => some (.int res.1)) res) ((fun (res : Int32 × q_MM) => (qTM, qLM, qPM, res.2)) res) A) args s 0 0 A) (b_X12_owed_55 k38 nf x1 x2 x3 x4 x5 M) 55 [(0, .ref 5001), (1, .int x1), (2, .int x2), (3, .int x3), (4, .int x4), (5, .int x5)] [] (qTM, qLM, qPM, M) 0 0 := by
    intro k38 hk38 nf
    induction nf with
    | zero => intros; exact g_stop
    | succ nf ih =>
      intro x1 x2 x3 x4 x5 M
      rw [b_X12_owed_55]
      refine g_iload X dX12_owed_55 5 rfl ?_
      refine g_aload_n X dX12_owed_57 rfl 0 rfl ?_
      refine g_geti X fa_X12_259 rfl dX12_owed_58 ?_
      refine g_icmp_ge X 109 dX12_owed_61 rfl (fun h3 => ?_) (fun h3 => ?_)
      · exact g_sub [0, 1, 2, 3, 4] rfl (hb_109 k38 hk38 x1 x2 x3 x4 M)
      · refine g_aload_n X dX12_owed_64 rfl 0 rfl ?_
        refine g_getr X fa_X12_139 rfl rfl dX12_owed_65 ?_
        refine g_iload X dX12_owed_68 4 rfl ?_
        refine g_ild X rfl rfl dX12_owed_70 (fun v4 => ?_)
        refine g_iload_n X dX12_owed_71 rfl 1 rfl ?_
        refine g_icmp_ne X 109 dX12_owed_72 rfl (fun h5 => ?_) (fun h5 => ?_)
        · refine g_iload_n X dX12_owed_75 rfl 3 rfl ?_
          refine g_aload_n X dX12_owed_76 rfl 0 rfl ?_
          refine g_getr X fa_X12_348 rfl rfl dX12_owed_77 ?_
          refine g_sipush (v := 400) X dX12_owed_80 (by decide) ?_
          refine g_iload X dX12_owed_83 4 rfl ?_
          refine g_imul X dX12_owed_85 ?_
          refine g_iload X dX12_owed_86 5 rfl ?_
          refine g_iadd X dX12_owed_88 ?_
          refine g_bld X rfl rfl dX12_owed_89 (fun v6 => ?_)
          refine g_if_ne X 97 dX12_owed_90 rfl (fun h7 => ?_) (fun h7 => ?_)
          · refine g_iconst (v := 1) X dX12_owed_93 (by decide) ?_
            refine g_goto X 98 dX12_owed_94 rfl ?_
            exact g_sub [0, 1, 2, 4, 5] rfl (hb_98 (b_X12_owed_55 k38 nf) ih x1 x2 x4 x5 1 x3 M)
          · refine g_iconst (v := 0) X dX12_owed_97 (by decide) ?_
            exact g_sub [0, 1, 2, 4, 5] rfl (hb_98 (b_X12_owed_55 k38 nf) ih x1 x2 x4 x5 0 x3 M)
        · exact g_sub [0, 1, 2, 3, 4] rfl (hb_109 k38 hk38 x1 x2 x3 x4 M)
  have hb_38 : ∀ (nf : Nat) (x1 : Int32) (x2 : Int32) (x3 : Int32) (x4 : Int32) (M : q_MM), GG p l e { frames := 1, cells := 0, slots := 0, locals := 25 } s m args below meth c0 K A (qTM, qLM, qPM, M0) ad false 6 (fun res => MQ below (q_Qc K false ad (qTM, qLM, qPM, M0) ((fun (res : Int32 × q_MM) => some (.int res.1)) res) ((fun (res : Int32 × q_MM) => (qTM, qLM, qPM, res.2)) res) A) args s 0 0 A) (b_X12_owed_38 nf x1 x2 x3 x4 M) 38 [(0, .ref 5001), (1, .int x1), (2, .int x2), (3, .int x3), (4, .int x4)] [] (qTM, qLM, qPM, M) 0 0 := by
    intro  nf
    induction nf with
    | zero => intros; exact g_stop
    | succ nf ih =>
      intro x1 x2 x3 x4 M
      rw [b_X12_owed_38]
      refine g_iload X dX12_owed_38 4 rfl ?_
      refine g_aload_n X dX12_owed_40 rfl 0 rfl ?_
      refine g_geti X fa_X12_108 rfl dX12_owed_41 ?_
      refine g_icmp_ge X 115 dX12_owed_44 rfl (fun h8 => ?_) (fun h8 => ?_)
      · refine g_iload_n X dX12_owed_115 rfl 3 rfl ?_
        exact g_iret X rfl rfl rfl dX12_owed_116
      · refine g_aload_n X dX12_owed_47 rfl 0 rfl ?_
        refine g_geti X fa_X12_259 rfl dX12_owed_48 ?_
        refine g_iload_n X dX12_owed_51 rfl 2 rfl ?_
        refine g_isub X dX12_owed_52 ?_
        refine g_is X (fun v9 => [(5, .int v9), (0, .ref 5001), (1, .int x1), (2, .int x2), (3, .int x3), (4, .int x4)]) dX12_owed_53 (by decide) (fun _ => rfl) (fun v9 => ?_)
        exact g_sub [1, 2, 3, 4, 5, 0] rfl (hb_55 (b_X12_owed_38 nf) ih q_fu x1 x2 x3 x4 v9 M)
  refine g_sub (lv' := [(0, .ref 5001), (1, .int a1), (2, .int a2)]) [0, 1, 2] rfl ?_
  unfold f_X12_owed
  refine g_aload_n X dX12_owed_0 rfl 0 rfl ?_
  refine g_iconst (v := 0) X dX12_owed_1 (by decide) ?_
  refine g_pfi X fa_X12_1 rfl (by decide +kernel) rfl dX12_owed_2 (fun M10 => ?_)
  refine g_iload_n X dX12_owed_5 rfl 1 rfl ?_
  refine g_i2l X dX12_owed_6 ?_
  refine g_lconst (v := 0) X dX12_owed_7 (by decide) ?_
  refine g_ldc2 (v := 7) X wc_X12_117 dX12_owed_8 ?_
  refine g_bSi (As := [.long (Int32.toInt64 a1), .long 0, .long 7]) (rest := []) X (c_X12_in l K M10 (Int32.toInt64 a1) 0 7) lk_X12_17 rfl rfl (Nat.le_of_ble_eq_true rfl) ⟨Nat.le_of_ble_eq_true rfl, Nat.le_of_ble_eq_true rfl⟩ ⟨Nat.zero_le _, Nat.zero_le _⟩ dX12_owed_11 (fun r11 => ?_)
  refine g_if_eq X 31 dX12_owed_14 rfl (fun h12 => ?_) (fun h12 => ?_)
  · refine g_iconst (v := (-1)) X dX12_owed_31 (by decide) ?_
    exact g_iret X rfl rfl rfl dX12_owed_32
  · refine g_iload_n X dX12_owed_17 rfl 2 rfl ?_
    refine g_i2l X dX12_owed_18 ?_
    refine g_lconst (v := 0) X dX12_owed_19 (by decide) ?_
    refine g_aload_n X dX12_owed_20 rfl 0 rfl ?_
    refine g_geti X fa_X12_259 rfl dX12_owed_21 ?_
    refine g_i2l X dX12_owed_24 ?_
    refine g_bSi (As := [.long (Int32.toInt64 a2), .long 0, .long (Int32.toInt64 (M10 5001 35))]) (rest := []) X (c_X12_in l K M10 (Int32.toInt64 a2) 0 (Int32.toInt64 (M10 5001 35))) lk_X12_17 rfl rfl (Nat.le_of_ble_eq_true rfl) ⟨Nat.le_of_ble_eq_true rfl, Nat.le_of_ble_eq_true rfl⟩ ⟨Nat.zero_le _, Nat.zero_le _⟩ dX12_owed_25 (fun r13 => ?_)
    refine g_if_ne X 33 dX12_owed_28 rfl (fun h14 => ?_) (fun h14 => ?_)
    · refine g_iconst (v := (-1)) X dX12_owed_31 (by decide) ?_
      exact g_iret X rfl rfl rfl dX12_owed_32
    · refine g_iconst (v := 0) X dX12_owed_33 (by decide) ?_
      refine g_istore_n X [(3, .int 0), (0, .ref 5001), (1, .int a1), (2, .int a2)] dX12_owed_34 rfl (by decide) rfl ?_
      refine g_iconst (v := 0) X dX12_owed_35 (by decide) ?_
      refine g_istore X [(4, .int 0), (3, .int 0), (0, .ref 5001), (1, .int a1), (2, .int a2)] dX12_owed_36 (by decide) rfl ?_
      exact g_sub [2, 3, 4, 1, 0] rfl (hb_38 q_fu a1 a2 0 0 M10)
set_option maxHeartbeats 4000000 in
set_option maxRecDepth 100000 in
theorem c_X12_like (l : Launch) (K : q_KK) (M0 : q_MM) (a1 : Int32) (a2 : Int32) (a3 : Int32) : ∀ res, f_X12_like M0 a1 a2 a3 = some res → Mt l yX12_like cX12_like 5 (some FieldType.int) 1 25 0 0 false K [.ref 5001, .int a1, .int a2, .int a3] (qTM, qLM, qPM, M0) (some (.int res.1)) ((qTM, qLM, qPM, res.2)) := by
  refine Mt.of (fun (res : Int32 × q_MM) => some (.int res.1)) (fun (res : Int32 × q_MM) => (qTM, qLM, qPM, res.2)) (by decide) (Nat.le_of_ble_eq_true rfl) ?_
  intro p e s m args below meth c0 A ad X hN
  have hb_43 : ∀ (M : q_MM), GG p l e { frames := 1, cells := 0, slots := 0, locals := 25 } s m args below meth c0 K A (qTM, qLM, qPM, M0) ad false 5 (fun res => MQ below (q_Qc K false ad (qTM, qLM, qPM, M0) ((fun (res : Int32 × q_MM) => some (.int res.1)) res) ((fun (res : Int32 × q_MM) => (qTM, qLM, qPM, res.2)) res) A) args s 0 0 A) (b_X12_like_43 M) 43 [(0, .ref 5001)] [] (qTM, qLM, qPM, M) 0 0 := by
    intro M
    unfold b_X12_like_43
    refine g_aload_n X dX12_like_43 rfl 0 rfl ?_
    refine g_bVi (As := []) (rest := []) X (c_X12_refuse l K M) lk_X12_338 rfl rfl rfl (Nat.le_of_ble_eq_true rfl) ⟨Nat.le_of_ble_eq_true rfl, Nat.le_of_ble_eq_true rfl⟩ ⟨Nat.zero_le _, Nat.zero_le _⟩ dX12_like_44 (fun r1 => ?_)
    exact g_iret X rfl rfl rfl dX12_like_47
  refine g_sub (lv' := [(0, .ref 5001), (1, .int a1), (2, .int a2), (3, .int a3)]) [0, 1, 2, 3] rfl ?_
  unfold f_X12_like
  refine g_aload_n X dX12_like_0 rfl 0 rfl ?_
  refine g_iconst (v := 0) X dX12_like_1 (by decide) ?_
  refine g_pfi X fa_X12_1 rfl (by decide +kernel) rfl dX12_like_2 (fun M2 => ?_)
  refine g_iload_n X dX12_like_5 rfl 1 rfl ?_
  refine g_i2l X dX12_like_6 ?_
  refine g_lconst (v := 0) X dX12_like_7 (by decide) ?_
  refine g_ldc2 (v := 7) X wc_X12_117 dX12_like_8 ?_
  refine g_bSi (As := [.long (Int32.toInt64 a1), .long 0, .long 7]) (rest := []) X (c_X12_in l K M2 (Int32.toInt64 a1) 0 7) lk_X12_17 rfl rfl (Nat.le_of_ble_eq_true rfl) ⟨Nat.le_of_ble_eq_true rfl, Nat.le_of_ble_eq_true rfl⟩ ⟨Nat.zero_le _, Nat.zero_le _⟩ dX12_like_11 (fun r3 => ?_)
  refine g_if_eq X 43 dX12_like_14 rfl (fun h4 => ?_) (fun h4 => ?_)
  · exact g_sub [0] rfl (hb_43 M2)
  · refine g_iload_n X dX12_like_17 rfl 2 rfl ?_
    refine g_i2l X dX12_like_18 ?_
    refine g_lconst (v := 0) X dX12_like_19 (by decide) ?_
    refine g_ldc2 (v := 7) X wc_X12_117 dX12_like_20 ?_
    refine g_bSi (As := [.long (Int32.toInt64 a2), .long 0, .long 7]) (rest := []) X (c_X12_in l K M2 (Int32.toInt64 a2) 0 7) lk_X12_17 rfl rfl (Nat.le_of_ble_eq_true rfl) ⟨Nat.le_of_ble_eq_true rfl, Nat.le_of_ble_eq_true rfl⟩ ⟨Nat.zero_le _, Nat.zero_le _⟩ dX12_like_23 (fun r5 => ?_)
    refine g_if_eq X 43 dX12_like_26 rfl (fun h6 => ?_) (fun h6 => ?_)
    · exact g_sub [0] rfl (hb_43 M2)
    · refine g_iload_n X dX12_like_29 rfl 3 rfl ?_
      refine g_i2l X dX12_like_30 ?_
      refine g_ldc2 (v := (-99)) X wc_X12_352 dX12_like_31 ?_
      refine g_ldc2 (v := 99) X wc_X12_106 dX12_like_34 ?_
      refine g_bSi (As := [.long (Int32.toInt64 a3), .long (-99), .long 99]) (rest := []) X (c_X12_in l K M2 (Int32.toInt64 a3) (-99) 99) lk_X12_17 rfl rfl (Nat.le_of_ble_eq_true rfl) ⟨Nat.le_of_ble_eq_true rfl, Nat.le_of_ble_eq_true rfl⟩ ⟨Nat.zero_le _, Nat.zero_le _⟩ dX12_like_37 (fun r7 => ?_)
      refine g_if_ne X 48 dX12_like_40 rfl (fun h8 => ?_) (fun h8 => ?_)
      · exact g_sub [0] rfl (hb_43 M2)
      · refine g_aload_n X dX12_like_48 rfl 0 rfl ?_
        refine g_getr X fa_X12_354 rfl rfl dX12_like_49 ?_
        refine g_bipush (v := 8) X dX12_like_52 (by decide) ?_
        refine g_iload_n X dX12_like_54 rfl 1 rfl ?_
        refine g_imul X dX12_like_55 ?_
        refine g_iload_n X dX12_like_56 rfl 2 rfl ?_
        refine g_iadd X dX12_like_57 ?_
        refine g_ild X rfl rfl dX12_like_58 (fun v9 => ?_)
        refine g_istore X [(4, .int v9), (0, .ref 5001), (1, .int a1), (2, .int a2), (3, .int a3)] dX12_like_59 (by decide) rfl ?_
        refine g_aload_n X dX12_like_61 rfl 1 rfl ?_
        refine g_getr X fa_X12_354 rfl rfl dX12_like_62 ?_
        refine g_bipush (v := 8) X dX12_like_65 (by decide) ?_
        refine g_iload_n X dX12_like_67 rfl 2 rfl ?_
        refine g_imul X dX12_like_68 ?_
        refine g_iload_n X dX12_like_69 rfl 3 rfl ?_
        refine g_iadd X dX12_like_70 ?_
        refine g_iload_n X dX12_like_71 rfl 4 rfl ?_
        refine g_isv X rfl rfl dX12_like_72 (fun M10 => ?_)
        refine g_aload_n X dX12_like_73 rfl 1 rfl ?_
        refine g_getr X fa_X12_354 rfl rfl dX12_like_74 ?_
        refine g_bipush (v := 8) X dX12_like_77 (by decide) ?_
        refine g_iload_n X dX12_like_79 rfl 3 rfl ?_
        refine g_imul X dX12_like_80 ?_
        refine g_iload_n X dX12_like_81 rfl 2 rfl ?_
        refine g_iadd X dX12_like_82 ?_
        refine g_iload_n X dX12_like_83 rfl 4 rfl ?_
        refine g_isv X rfl rfl dX12_like_84 (fun M11 => ?_)
        refine g_iload X dX12_like_85 0 rfl ?_
        exact g_iret X rfl rfl rfl dX12_like_87
set_option maxHeartbeats 4000000 in
set_option maxRecDepth 100000 in
theorem c_X12_likes (l : Launch) (K : q_KK) (M : q_MM) (a1 : Int32) (a2 : Int32) : ∀ res, f_X12_likes M a1 a2 = some res → Mt l yX12_likes cX12_likes 3 (some FieldType.int) 0 0 0 0 false K [.ref 5001, .int a1, .int a2] (qTM, qLM, qPM, M) (some (.int res)) ((qTM, qLM, qPM, M)) := by
  refine Mt.of (fun (res : Int32) => some (.int res)) (fun (_ : Int32) => (qTM, qLM, qPM, M)) (by decide) (Nat.le_of_ble_eq_true rfl) ?_
  intro p e s m args below meth c0 A ad X hN
  refine g_sub (lv' := [(0, .ref 5001), (1, .int a1), (2, .int a2)]) [0, 1, 2] rfl ?_
  unfold f_X12_likes
  refine g_aload_n X dX12_likes_0 rfl 0 rfl ?_
  refine g_getr X fa_X12_354 rfl rfl dX12_likes_1 ?_
  refine g_bipush (v := 8) X dX12_likes_4 (by decide) ?_
  refine g_aload_n X dX12_likes_6 rfl 0 rfl ?_
  refine g_getr X fa_X12_130 rfl rfl dX12_likes_7 ?_
  refine g_iload_n X dX12_likes_10 rfl 1 rfl ?_
  refine g_ild X rfl rfl dX12_likes_11 (fun v1 => ?_)
  refine g_imul X dX12_likes_12 ?_
  refine g_aload_n X dX12_likes_13 rfl 0 rfl ?_
  refine g_getr X fa_X12_130 rfl rfl dX12_likes_14 ?_
  refine g_iload_n X dX12_likes_17 rfl 2 rfl ?_
  refine g_ild X rfl rfl dX12_likes_18 (fun v2 => ?_)
  refine g_iadd X dX12_likes_19 ?_
  refine g_ild X rfl rfl dX12_likes_20 (fun v3 => ?_)
  exact g_iret X rfl rfl rfl dX12_likes_21
set_option maxHeartbeats 4000000 in
set_option maxRecDepth 100000 in
theorem c_X12_areBeside (l : Launch) (K : q_KK) (M : q_MM) : ∀ res, f_X12_areBeside M = some res → Mt l yX12_areBeside cX12_areBeside 4 (some FieldType.boolean) 1 21 0 0 false K [.ref 5001] (qTM, qLM, qPM, M) (some (.int res)) ((qTM, qLM, qPM, M)) := by
  refine Mt.of (fun (res : Int32) => some (.int res)) (fun (_ : Int32) => (qTM, qLM, qPM, M)) (by decide) (Nat.le_of_ble_eq_true rfl) ?_
  intro p e s m args below meth c0 A ad X hN
  have hb_61 : ∀ (k14 : Int32 → Int32 → Int32 → Option (Int32)) (hk14 : ∀ (x1 : Int32) (x2 : Int32) (x3 : Int32), GG p l e { frames := 1, cells := 0, slots := 0, locals := 21 } s m args below meth c0 K A (qTM, qLM, qPM, M) ad false 4 (fun res => MQ below (q_Qc K false ad (qTM, qLM, qPM, M) ((fun (res : Int32) => some (.int res)) res) ((fun (_ : Int32) => (qTM, qLM, qPM, M)) res) A) args s 0 0 A) (k14 x1 x2 x3) 14 [(0, .ref 5001), (1, .int x1), (2, .int x2), (3, .int x3)] [] (qTM, qLM, qPM, M) 0 0) (x2 : Int32) (x3 : Int32) (s0 : Int32), GG p l e { frames := 1, cells := 0, slots := 0, locals := 21 } s m args below meth c0 K A (qTM, qLM, qPM, M) ad false 4 (fun res => MQ below (q_Qc K false ad (qTM, qLM, qPM, M) ((fun (res : Int32) => some (.int res)) res) ((fun (_ : Int32) => (qTM, qLM, qPM, M)) res) A) args s 0 0 A) (b_X12_areBeside_61 M k14 x2 x3 s0) 61 [(0, .ref 5001), (2, .int x2), (3, .int x3)] [.int s0] (qTM, qLM, qPM, M) 0 0 := by
    intro k14 hk14 x2 x3 s0
    unfold b_X12_areBeside_61
    refine g_istore_n X [(1, .int s0), (0, .ref 5001), (2, .int x2), (3, .int x3)] dX12_areBeside_61 rfl (by decide) rfl ?_
    refine g_iinc (v := 1) X [(3, .int (x3 + 1)), (1, .int s0), (0, .ref 5001), (2, .int x2)] 3 dX12_areBeside_62 rfl (by decide) (by decide) rfl ?_
    refine g_goto X 14 dX12_areBeside_65 rfl ?_
    exact g_sub [2, 1, 3, 0] rfl (hk14 s0 x2 (x3 + 1))
  have hb_56 : ∀ (k14 : Int32 → Int32 → Int32 → Option (Int32)) (hk14 : ∀ (x1 : Int32) (x2 : Int32) (x3 : Int32), GG p l e { frames := 1, cells := 0, slots := 0, locals := 21 } s m args below meth c0 K A (qTM, qLM, qPM, M) ad false 4 (fun res => MQ below (q_Qc K false ad (qTM, qLM, qPM, M) ((fun (res : Int32) => some (.int res)) res) ((fun (_ : Int32) => (qTM, qLM, qPM, M)) res) A) args s 0 0 A) (k14 x1 x2 x3) 14 [(0, .ref 5001), (1, .int x1), (2, .int x2), (3, .int x3)] [] (qTM, qLM, qPM, M) 0 0) (x2 : Int32) (x3 : Int32), GG p l e { frames := 1, cells := 0, slots := 0, locals := 21 } s m args below meth c0 K A (qTM, qLM, qPM, M) ad false 4 (fun res => MQ below (q_Qc K false ad (qTM, qLM, qPM, M) ((fun (res : Int32) => some (.int res)) res) ((fun (_ : Int32) => (qTM, qLM, qPM, M)) res) A) args s 0 0 A) (b_X12_areBeside_56 M k14 x2 x3) 56 [(0, .ref 5001), (2, .int x2), (3, .int x3)] [] (qTM, qLM, qPM, M) 0 0 := by
    intro k14 hk14 x2 x3
    unfold b_X12_areBeside_56
    refine g_iconst (v := 1) X dX12_areBeside_56 (by decide) ?_
    refine g_goto X 61 dX12_areBeside_57 rfl ?_
    exact g_sub [0, 1, 2] rfl (hb_61 k14 hk14 x2 x3 1)
  have hb_60 : ∀ (k14 : Int32 → Int32 → Int32 → Option (Int32)) (hk14 : ∀ (x1 : Int32) (x2 : Int32) (x3 : Int32), GG p l e { frames := 1, cells := 0, slots := 0, locals := 21 } s m args below meth c0 K A (qTM, qLM, qPM, M) ad false 4 (fun res => MQ below (q_Qc K false ad (qTM, qLM, qPM, M) ((fun (res : Int32) => some (.int res)) res) ((fun (_ : Int32) => (qTM, qLM, qPM, M)) res) A) args s 0 0 A) (k14 x1 x2 x3) 14 [(0, .ref 5001), (1, .int x1), (2, .int x2), (3, .int x3)] [] (qTM, qLM, qPM, M) 0 0) (x2 : Int32) (x3 : Int32), GG p l e { frames := 1, cells := 0, slots := 0, locals := 21 } s m args below meth c0 K A (qTM, qLM, qPM, M) ad false 4 (fun res => MQ below (q_Qc K false ad (qTM, qLM, qPM, M) ((fun (res : Int32) => some (.int res)) res) ((fun (_ : Int32) => (qTM, qLM, qPM, M)) res) A) args s 0 0 A) (b_X12_areBeside_60 M k14 x2 x3) 60 [(0, .ref 5001), (2, .int x2), (3, .int x3)] [] (qTM, qLM, qPM, M) 0 0 := by
    intro k14 hk14 x2 x3
    unfold b_X12_areBeside_60
    refine g_iconst (v := 0) X dX12_areBeside_60 (by decide) ?_
    exact g_sub [0, 1, 2] rfl (hb_61 k14 hk14 x2 x3 0)
  have hb_14 : ∀ (k4 : Int32 → Int32 → Option (Int32)) (hk4 : ∀ (x1 : Int32) (x2 : Int32), GG p l e { frames := 1, cells := 0, slots := 0, locals := 21 } s m args below meth c0 K A (qTM, qLM, qPM, M) ad false 4 (fun res => MQ below (q_Qc K false ad (qTM, qLM, qPM, M) ((fun (res : Int32) => some (.int res)) res) ((fun (_ : Int32) => (qTM, qLM, qPM, M)) res) A) args s 0 0 A) (k4 x1 x2) 4 [(0, .ref 5001), (1, .int x1), (2, .int x2)] [] (qTM, qLM, qPM, M) 0 0) (nf : Nat) (x1 : Int32) (x2 : Int32) (x3 : Int32), GG p l e { frames := 1, cells := 0, slots := 0, locals := 21 } s m args below meth c0 K A (qTM, qLM, qPM, M) ad false 4 (fun res => MQ below (q_Qc K false ad (qTM, qLM, qPM, M) ((fun (res : Int32) => some (.int res)) res) ((fun (_ : Int32) => (qTM, qLM, qPM, M)) res) A) args s 0 0 A) (b_X12_areBeside_14 M k4 nf x1 x2 x3) 14 [(0, .ref 5001), (1, .int x1), (2, .int x2), (3, .int x3)] [] (qTM, qLM, qPM, M) 0 0 := by
    intro k4 hk4 nf
    induction nf with
    | zero => intros; exact g_stop
    | succ nf ih =>
      intro x1 x2 x3
      rw [b_X12_areBeside_14]
      refine g_iload_n X dX12_areBeside_14 rfl 3 rfl ?_
      refine g_aload_n X dX12_areBeside_15 rfl 0 rfl ?_
      refine g_geti X fa_X12_357 rfl dX12_areBeside_16 ?_
      refine g_icmp_ge X 68 dX12_areBeside_19 rfl (fun h1 => ?_) (fun h1 => ?_)
      · refine g_iinc (v := 1) X [(2, .int (x2 + 1)), (0, .ref 5001), (1, .int x1), (3, .int x3)] 2 dX12_areBeside_68 rfl (by decide) (by decide) rfl ?_
        refine g_goto X 4 dX12_areBeside_71 rfl ?_
        exact g_sub [1, 2, 0] rfl (hk4 x1 (x2 + 1))
      · refine g_iload_n X dX12_areBeside_22 rfl 1 rfl ?_
        refine g_if_eq X 60 dX12_areBeside_23 rfl (fun h2 => ?_) (fun h2 => ?_)
        · exact g_sub [0, 2, 3] rfl (hb_60 (b_X12_areBeside_14 M k4 nf) ih x2 x3)
        · refine g_aload_n X dX12_areBeside_26 rfl 0 rfl ?_
          refine g_getr X fa_X12_142 rfl rfl dX12_areBeside_27 ?_
          refine g_aload_n X dX12_areBeside_30 rfl 0 rfl ?_
          refine g_getr X fa_X12_360 rfl rfl dX12_areBeside_31 ?_
          refine g_iload_n X dX12_areBeside_34 rfl 2 rfl ?_
          refine g_ild X rfl rfl dX12_areBeside_35 (fun v3 => ?_)
          refine g_ild X rfl rfl dX12_areBeside_36 (fun v4 => ?_)
          refine g_aload_n X dX12_areBeside_37 rfl 0 rfl ?_
          refine g_getr X fa_X12_360 rfl rfl dX12_areBeside_38 ?_
          refine g_iload_n X dX12_areBeside_41 rfl 3 rfl ?_
          refine g_ild X rfl rfl dX12_areBeside_42 (fun v5 => ?_)
          refine g_icmp_ne X 56 dX12_areBeside_43 rfl (fun h6 => ?_) (fun h6 => ?_)
          · refine g_iload_n X dX12_areBeside_46 rfl 2 rfl ?_
            refine g_iload_n X dX12_areBeside_47 rfl 3 rfl ?_
            refine g_isub X dX12_areBeside_48 ?_
            refine g_mabs X lk_X12_363 (Nat.le_of_ble_eq_true rfl) ⟨Nat.le_of_ble_eq_true rfl, Nat.le_of_ble_eq_true rfl⟩ ⟨Nat.zero_le _, Nat.zero_le _⟩ dX12_areBeside_49 ?_
            refine g_iconst (v := 1) X dX12_areBeside_52 (by decide) ?_
            refine g_icmp_ne X 60 dX12_areBeside_53 rfl (fun h7 => ?_) (fun h7 => ?_)
            · exact g_sub [0, 2, 3] rfl (hb_56 (b_X12_areBeside_14 M k4 nf) ih x2 x3)
            · exact g_sub [0, 2, 3] rfl (hb_60 (b_X12_areBeside_14 M k4 nf) ih x2 x3)
          · exact g_sub [0, 2, 3] rfl (hb_56 (b_X12_areBeside_14 M k4 nf) ih x2 x3)
  have hb_4 : ∀ (nf : Nat) (x1 : Int32) (x2 : Int32), GG p l e { frames := 1, cells := 0, slots := 0, locals := 21 } s m args below meth c0 K A (qTM, qLM, qPM, M) ad false 4 (fun res => MQ below (q_Qc K false ad (qTM, qLM, qPM, M) ((fun (res : Int32) => some (.int res)) res) ((fun (_ : Int32) => (qTM, qLM, qPM, M)) res) A) args s 0 0 A) (b_X12_areBeside_4 M nf x1 x2) 4 [(0, .ref 5001), (1, .int x1), (2, .int x2)] [] (qTM, qLM, qPM, M) 0 0 := by
    intro  nf
    induction nf with
    | zero => intros; exact g_stop
    | succ nf ih =>
      intro x1 x2
      rw [b_X12_areBeside_4]
      refine g_iload_n X dX12_areBeside_4 rfl 2 rfl ?_
      refine g_aload_n X dX12_areBeside_5 rfl 0 rfl ?_
      refine g_geti X fa_X12_357 rfl dX12_areBeside_6 ?_
      refine g_icmp_ge X 74 dX12_areBeside_9 rfl (fun h8 => ?_) (fun h8 => ?_)
      · refine g_iload_n X dX12_areBeside_74 rfl 1 rfl ?_
        exact g_zret X rfl rfl rfl dX12_areBeside_75
      · refine g_iconst (v := 0) X dX12_areBeside_12 (by decide) ?_
        refine g_istore_n X [(3, .int 0), (0, .ref 5001), (1, .int x1), (2, .int x2)] dX12_areBeside_13 rfl (by decide) rfl ?_
        exact g_sub [1, 2, 3, 0] rfl (hb_14 (b_X12_areBeside_4 M nf) ih q_fu x1 x2 0)
  refine g_sub (lv' := [(0, .ref 5001)]) [0] rfl ?_
  unfold f_X12_areBeside
  refine g_iconst (v := 1) X dX12_areBeside_0 (by decide) ?_
  refine g_istore_n X [(1, .int 1), (0, .ref 5001)] dX12_areBeside_1 rfl (by decide) rfl ?_
  refine g_iconst (v := 0) X dX12_areBeside_2 (by decide) ?_
  refine g_istore_n X [(2, .int 0), (1, .int 1), (0, .ref 5001)] dX12_areBeside_3 rfl (by decide) rfl ?_
  exact g_sub [2, 1, 0] rfl (hb_4 q_fu 1 0)
set_option maxHeartbeats 4000000 in
set_option maxRecDepth 100000 in
theorem c_X12_permutes (l : Launch) (K : q_KK) (d : Nat) (pm : (q_MM → Int32 → Int32 → Option q_MM)) (hpm : ∀ (M : q_MM) (a1 : Int32) (a2 : Int32) (res : q_MM), pm M a1 a2 = some res → Mt l yX12_permutes cX12_permutes 5 none (d + 20) (60 * d + 600) 0 0 false K [.ref 5001, .int a1, .int a2] (qTM, qLM, qPM, M) (none) ((qTM, qLM, qPM, res))) (M0 : q_MM) (a1 : Int32) (a2 : Int32) : ∀ res, f_X12_permutes pm M0 a1 a2 = some res → Mt l yX12_permutes cX12_permutes 5 (none : Option FieldType) (d + 1 + 20) (60 * (d + 1) + 600) 0 0 false K [.ref 5001, .int a1, .int a2] (qTM, qLM, qPM, M0) (none) ((qTM, qLM, qPM, res)) := by
  refine Mt.of (fun (_ : q_MM) => none) (fun (res : q_MM) => (qTM, qLM, qPM, res)) (by decide) (Nat.le_of_ble_eq_true rfl) ?_
  intro p e s m args below meth c0 A ad X hN
  have hb_86 : ∀ (nf : Nat) (x4 : Int32) (M : q_MM), GG p l e { frames := (d + 1 + 20), cells := 0, slots := 0, locals := (60 * (d + 1) + 600) } s m args below meth c0 K A (qTM, qLM, qPM, M0) ad false 5 (fun res => MQ below (q_Qc K false ad (qTM, qLM, qPM, M0) ((fun (_ : q_MM) => none) res) ((fun (res : q_MM) => (qTM, qLM, qPM, res)) res) A) args s 0 0 A) (b_X12_permutes_86 pm nf x4 M) 86 [(0, .ref 5001), (4, .int x4)] [] (qTM, qLM, qPM, M) 0 0 := by
    intro  nf
    induction nf with
    | zero => intros; exact g_stop
    | succ nf ih =>
      intro x4 M
      rw [b_X12_permutes_86]
      refine g_iload X dX12_permutes_86 1 rfl ?_
      refine g_aload_n X dX12_permutes_88 rfl 0 rfl ?_
      refine g_geti X fa_X12_357 rfl dX12_permutes_89 ?_
      refine g_icmp_ge X 115 dX12_permutes_92 rfl (fun h1 => ?_) (fun h1 => ?_)
      · exact g_vret X rfl rfl rfl dX12_permutes_115
      · refine g_aload_n X dX12_permutes_95 rfl 0 rfl ?_
        refine g_getr X fa_X12_380 rfl rfl dX12_permutes_96 ?_
        refine g_iload X dX12_permutes_99 1 rfl ?_
        refine g_aload_n X dX12_permutes_101 rfl 0 rfl ?_
        refine g_getr X fa_X12_360 rfl rfl dX12_permutes_102 ?_
        refine g_iload X dX12_permutes_105 1 rfl ?_
        refine g_ild X rfl rfl dX12_permutes_107 (fun v2 => ?_)
        refine g_isv X rfl rfl dX12_permutes_108 (fun M3 => ?_)
        refine g_iinc (v := 1) X [(4, .int (x4 + 1)), (0, .ref 5001)] 1 dX12_permutes_109 rfl (by decide) (by decide) rfl ?_
        refine g_goto X 86 dX12_permutes_112 rfl ?_
        exact g_sub [1, 0] rfl (ih (x4 + 1) M3)
  have hb_73 : ∀ (x3 : Int32) (M : q_MM), GG p l e { frames := (d + 1 + 20), cells := 0, slots := 0, locals := (60 * (d + 1) + 600) } s m args below meth c0 K A (qTM, qLM, qPM, M0) ad false 5 (fun res => MQ below (q_Qc K false ad (qTM, qLM, qPM, M0) ((fun (_ : q_MM) => none) res) ((fun (res : q_MM) => (qTM, qLM, qPM, res)) res) A) args s 0 0 A) (b_X12_permutes_73 pm x3 M) 73 [(0, .ref 5001), (3, .int x3)] [] (qTM, qLM, qPM, M) 0 0 := by
    intro x3 M
    unfold b_X12_permutes_73
    refine g_aload_n X dX12_permutes_73 rfl 0 rfl ?_
    refine g_iconst (v := 1) X dX12_permutes_74 (by decide) ?_
    refine g_pfz X fa_X12_373 rfl (by decide +kernel) rfl dX12_permutes_75 (fun M4 => ?_)
    refine g_aload_n X dX12_permutes_78 rfl 0 rfl ?_
    refine g_iload_n X dX12_permutes_79 rfl 1 rfl ?_
    refine g_pfi X fa_X12_377 rfl (by decide +kernel) rfl dX12_permutes_80 (fun M5 => ?_)
    refine g_iconst (v := 0) X dX12_permutes_83 (by decide) ?_
    refine g_istore X [(4, .int 0), (0, .ref 5001), (3, .int x3)] dX12_permutes_84 (by decide) rfl ?_
    exact g_sub [1, 0] rfl (hb_86 q_fu 0 M5)
  have hb_13 : ∀ (nf : Nat) (x3 : Int32) (x4 : Int32) (M : q_MM), GG p l e { frames := (d + 1 + 20), cells := 0, slots := 0, locals := (60 * (d + 1) + 600) } s m args below meth c0 K A (qTM, qLM, qPM, M0) ad false 5 (fun res => MQ below (q_Qc K false ad (qTM, qLM, qPM, M0) ((fun (_ : q_MM) => none) res) ((fun (res : q_MM) => (qTM, qLM, qPM, res)) res) A) args s 0 0 A) (b_X12_permutes_13 pm nf x3 x4 M) 13 [(0, .ref 5001), (3, .int x3), (4, .int x4)] [] (qTM, qLM, qPM, M) 0 0 := by
    intro  nf
    induction nf with
    | zero => intros; exact g_stop
    | succ nf ih =>
      intro x3 x4 M
      rw [b_X12_permutes_13]
      refine g_iload X dX12_permutes_13 2 rfl ?_
      refine g_aload_n X dX12_permutes_15 rfl 0 rfl ?_
      refine g_geti X fa_X12_357 rfl dX12_permutes_16 ?_
      refine g_icmp_ge X 51 dX12_permutes_19 rfl (fun h6 => ?_) (fun h6 => ?_)
      · refine g_aload_n X dX12_permutes_51 rfl 0 rfl ?_
        refine g_bVi (As := []) (rest := []) X (c_X12_areBeside l K M) lk_X12_369 rfl rfl rfl (Nat.le_of_ble_eq_true rfl) ⟨by dsimp only; omega, by dsimp only; omega⟩ ⟨Nat.zero_le _, Nat.zero_le _⟩ dX12_permutes_52 (fun r7 => ?_)
        refine g_if_eq X 115 dX12_permutes_55 rfl (fun h8 => ?_) (fun h8 => ?_)
        · exact g_vret X rfl rfl rfl dX12_permutes_115
        · refine g_aload_n X dX12_permutes_58 rfl 0 rfl ?_
          refine g_geti X fa_X12_373 rfl dX12_permutes_59 ?_
          refine g_if_eq X 73 dX12_permutes_62 rfl (fun h9 => ?_) (fun h9 => ?_)
          · exact g_sub [0, 1] rfl (hb_73 x3 M)
          · refine g_iload_n X dX12_permutes_65 rfl 1 rfl ?_
            refine g_aload_n X dX12_permutes_66 rfl 0 rfl ?_
            refine g_geti X fa_X12_377 rfl dX12_permutes_67 ?_
            refine g_icmp_le X 115 dX12_permutes_70 rfl (fun h10 => ?_) (fun h10 => ?_)
            · exact g_vret X rfl rfl rfl dX12_permutes_115
            · exact g_sub [0, 1] rfl (hb_73 x3 M)
      · refine g_iload_n X dX12_permutes_22 rfl 1 rfl ?_
        refine g_aload_n X dX12_permutes_23 rfl 0 rfl ?_
        refine g_aload_n X dX12_permutes_24 rfl 0 rfl ?_
        refine g_getr X fa_X12_360 rfl rfl dX12_permutes_25 ?_
        refine g_iload X dX12_permutes_28 2 rfl ?_
        refine g_iconst (v := 1) X dX12_permutes_30 (by decide) ?_
        refine g_isub X dX12_permutes_31 ?_
        refine g_ild X rfl rfl dX12_permutes_32 (fun v11 => ?_)
        refine g_aload_n X dX12_permutes_33 rfl 0 rfl ?_
        refine g_getr X fa_X12_360 rfl rfl dX12_permutes_34 ?_
        refine g_iload X dX12_permutes_37 2 rfl ?_
        refine g_ild X rfl rfl dX12_permutes_39 (fun v12 => ?_)
        refine g_bVi (As := [.int v11, .int v12]) (rest := [.int x3]) X (c_X12_likes l K M v11 v12) lk_X12_366 rfl rfl rfl (Nat.le_of_ble_eq_true rfl) ⟨by dsimp only; omega, by dsimp only; omega⟩ ⟨Nat.zero_le _, Nat.zero_le _⟩ dX12_permutes_40 (fun r13 => ?_)
        refine g_iadd X dX12_permutes_43 ?_
        refine g_isn X (fun v14 => [(3, .int v14), (0, .ref 5001), (4, .int x4)]) dX12_permutes_44 rfl (by decide) (fun _ => rfl) (fun v14 => ?_)
        refine g_iinc (v := 1) X [(4, .int (x4 + 1)), (3, .int v14), (0, .ref 5001)] 2 dX12_permutes_45 rfl (by decide) (by decide) rfl ?_
        refine g_goto X 13 dX12_permutes_48 rfl ?_
        exact g_sub [2, 1, 0] rfl (ih v14 (x4 + 1) M)
  have hb_156 : ∀ (k118 : Int32 → Int32 → Int32 → q_MM → Option (q_MM)) (hk118 : ∀ (x1 : Int32) (x2 : Int32) (x3 : Int32) (M : q_MM), GG p l e { frames := (d + 1 + 20), cells := 0, slots := 0, locals := (60 * (d + 1) + 600) } s m args below meth c0 K A (qTM, qLM, qPM, M0) ad false 5 (fun res => MQ below (q_Qc K false ad (qTM, qLM, qPM, M0) ((fun (_ : q_MM) => none) res) ((fun (res : q_MM) => (qTM, qLM, qPM, res)) res) A) args s 0 0 A) (k118 x1 x2 x3 M) 118 [(0, .ref 5001), (1, .int x1), (2, .int x2), (3, .int x3)] [] (qTM, qLM, qPM, M) 0 0) (x1 : Int32) (x2 : Int32) (x3 : Int32) (M : q_MM), GG p l e { frames := (d + 1 + 20), cells := 0, slots := 0, locals := (60 * (d + 1) + 600) } s m args below meth c0 K A (qTM, qLM, qPM, M0) ad false 5 (fun res => MQ below (q_Qc K false ad (qTM, qLM, qPM, M0) ((fun (_ : q_MM) => none) res) ((fun (res : q_MM) => (qTM, qLM, qPM, res)) res) A) args s 0 0 A) (b_X12_permutes_156 pm k118 x1 x2 x3 M) 156 [(0, .ref 5001), (1, .int x1), (2, .int x2), (3, .int x3)] [] (qTM, qLM, qPM, M) 0 0 := by
    intro k118 hk118 x1 x2 x3 M
    unfold b_X12_permutes_156
    refine g_iinc (v := 1) X [(3, .int (x3 + 1)), (0, .ref 5001), (1, .int x1), (2, .int x2)] 3 dX12_permutes_156 rfl (by decide) (by decide) rfl ?_
    refine g_goto X 118 dX12_permutes_159 rfl ?_
    exact g_sub [1, 2, 3, 0] rfl (hk118 x1 x2 (x3 + 1) M)
  have hb_118 : ∀ (nf : Nat) (x1 : Int32) (x2 : Int32) (x3 : Int32) (M : q_MM), GG p l e { frames := (d + 1 + 20), cells := 0, slots := 0, locals := (60 * (d + 1) + 600) } s m args below meth c0 K A (qTM, qLM, qPM, M0) ad false 5 (fun res => MQ below (q_Qc K false ad (qTM, qLM, qPM, M0) ((fun (_ : q_MM) => none) res) ((fun (res : q_MM) => (qTM, qLM, qPM, res)) res) A) args s 0 0 A) (b_X12_permutes_118 pm nf x1 x2 x3 M) 118 [(0, .ref 5001), (1, .int x1), (2, .int x2), (3, .int x3)] [] (qTM, qLM, qPM, M) 0 0 := by
    intro  nf
    induction nf with
    | zero => intros; exact g_stop
    | succ nf ih =>
      intro x1 x2 x3 M
      rw [b_X12_permutes_118]
      refine g_iload_n X dX12_permutes_118 rfl 3 rfl ?_
      refine g_aload_n X dX12_permutes_119 rfl 0 rfl ?_
      refine g_geti X fa_X12_108 rfl dX12_permutes_120 ?_
      refine g_icmp_ge X 162 dX12_permutes_123 rfl (fun h15 => ?_) (fun h15 => ?_)
      · exact g_vret X rfl rfl rfl dX12_permutes_162
      · refine g_iload_n X dX12_permutes_126 rfl 2 rfl ?_
        refine g_iload_n X dX12_permutes_127 rfl 3 rfl ?_
        refine g_ishr X dX12_permutes_128 ?_
        refine g_iconst (v := 1) X dX12_permutes_129 (by decide) ?_
        refine g_iand X dX12_permutes_130 ?_
        refine g_iconst (v := 1) X dX12_permutes_131 (by decide) ?_
        refine g_icmp_ne X 156 dX12_permutes_132 rfl (fun h16 => ?_) (fun h16 => ?_)
        · refine g_aload_n X dX12_permutes_135 rfl 0 rfl ?_
          refine g_getr X fa_X12_360 rfl rfl dX12_permutes_136 ?_
          refine g_iload_n X dX12_permutes_139 rfl 1 rfl ?_
          refine g_iload_n X dX12_permutes_140 rfl 3 rfl ?_
          refine g_isv X rfl rfl dX12_permutes_141 (fun M17 => ?_)
          refine g_aload_n X dX12_permutes_142 rfl 0 rfl ?_
          refine g_iload_n X dX12_permutes_143 rfl 1 rfl ?_
          refine g_iconst (v := 1) X dX12_permutes_144 (by decide) ?_
          refine g_iadd X dX12_permutes_145 ?_
          refine g_iload_n X dX12_permutes_146 rfl 2 rfl ?_
          refine g_iconst (v := 1) X dX12_permutes_147 (by decide) ?_
          refine g_iload_n X dX12_permutes_148 rfl 3 rfl ?_
          refine g_ishl X dX12_permutes_149 ?_
          refine g_iconst (v := (-1)) X dX12_permutes_150 (by decide) ?_
          refine g_ixor X dX12_permutes_151 ?_
          refine g_iand X dX12_permutes_152 ?_
          refine g_bVv (As := [.int (x1 + 1), .int (x2 &&& (((1 : Int32) <<< (x3 &&& 31)) ^^^ (-1)))]) (rest := []) X (hpm M17 (x1 + 1) (x2 &&& (((1 : Int32) <<< (x3 &&& 31)) ^^^ (-1)))) lk_X12_383 rfl rfl rfl (Nat.le_of_ble_eq_true rfl) ⟨by dsimp only; omega, by dsimp only; omega⟩ ⟨Nat.zero_le _, Nat.zero_le _⟩ dX12_permutes_153 (fun r18 => ?_)
          exact g_sub [0, 1, 2, 3] rfl (hb_156 (b_X12_permutes_118 pm nf) ih x1 x2 x3 r18)
        · exact g_sub [0, 1, 2, 3] rfl (hb_156 (b_X12_permutes_118 pm nf) ih x1 x2 x3 M)
  refine g_sub (lv' := [(0, .ref 5001), (1, .int a1), (2, .int a2)]) [0, 1, 2] rfl ?_
  unfold f_X12_permutes
  refine g_iload_n X dX12_permutes_0 rfl 1 rfl ?_
  refine g_aload_n X dX12_permutes_1 rfl 0 rfl ?_
  refine g_geti X fa_X12_357 rfl dX12_permutes_2 ?_
  refine g_icmp_ne X 116 dX12_permutes_5 rfl (fun h19 => ?_) (fun h19 => ?_)
  · refine g_iconst (v := 0) X dX12_permutes_8 (by decide) ?_
    refine g_istore_n X [(3, .int 0), (0, .ref 5001), (1, .int a1), (2, .int a2)] dX12_permutes_9 rfl (by decide) rfl ?_
    refine g_iconst (v := 1) X dX12_permutes_10 (by decide) ?_
    refine g_istore X [(4, .int 1), (3, .int 0), (0, .ref 5001), (1, .int a1), (2, .int a2)] dX12_permutes_11 (by decide) rfl ?_
    exact g_sub [2, 1, 0] rfl (hb_13 q_fu 0 1 M0)
  · refine g_iconst (v := 0) X dX12_permutes_116 (by decide) ?_
    refine g_istore_n X [(3, .int 0), (0, .ref 5001), (1, .int a1), (2, .int a2)] dX12_permutes_117 rfl (by decide) rfl ?_
    exact g_sub [1, 2, 3, 0] rfl (hb_118 q_fu a1 a2 0 M0)
theorem c_q_perm (l : Launch) (K : q_KK) : ∀ (d : Nat) (M : q_MM) (a1 : Int32) (a2 : Int32) (res : q_MM), q_perm d M a1 a2 = some res → Mt l yX12_permutes cX12_permutes 5 none (d + 20) (60 * d + 600) 0 0 false K [.ref 5001, .int a1, .int a2] (qTM, qLM, qPM, M) (none) ((qTM, qLM, qPM, res))
  | 0 => fun _ _ _ _ h => (by cases h)
  | d + 1 => c_X12_permutes l K d (q_perm d) (c_q_perm l K d)
set_option maxHeartbeats 4000000 in
set_option maxRecDepth 100000 in
theorem c_X12_canBe (l : Launch) (K : q_KK) (M : q_MM) (a1 : Int32) (a2 : Int32) : ∀ res, f_X12_canBe M a1 a2 = some res → Mt l yX12_canBe cX12_canBe 8 (some FieldType.boolean) 1 22 0 0 false K [.ref 5001, .int a1, .int a2] (qTM, qLM, qPM, M) (some (.int res)) ((qTM, qLM, qPM, M)) := by
  refine Mt.of (fun (res : Int32) => some (.int res)) (fun (_ : Int32) => (qTM, qLM, qPM, M)) (by decide) (Nat.le_of_ble_eq_true rfl) ?_
  intro p e s m args below meth c0 A ad X hN
  have hb_136 : ∀ (k23 : Int32 → Int32 → Int32 → Int32 → Int32 → Int32 → Option (Int32)) (hk23 : ∀ (x1 : Int32) (x2 : Int32) (x3 : Int32) (x4 : Int32) (x5 : Int32) (x6 : Int32), GG p l e { frames := 1, cells := 0, slots := 0, locals := 22 } s m args below meth c0 K A (qTM, qLM, qPM, M) ad false 8 (fun res => MQ below (q_Qc K false ad (qTM, qLM, qPM, M) ((fun (res : Int32) => some (.int res)) res) ((fun (_ : Int32) => (qTM, qLM, qPM, M)) res) A) args s 0 0 A) (k23 x1 x2 x3 x4 x5 x6) 23 [(0, .ref 5001), (1, .int x1), (2, .int x2), (3, .int x3), (4, .int x4), (5, .int x5), (6, .int x6)] [] (qTM, qLM, qPM, M) 0 0) (x1 : Int32) (x2 : Int32) (x3 : Int32) (x4 : Int32) (x5 : Int32) (x6 : Int32), GG p l e { frames := 1, cells := 0, slots := 0, locals := 22 } s m args below meth c0 K A (qTM, qLM, qPM, M) ad false 8 (fun res => MQ below (q_Qc K false ad (qTM, qLM, qPM, M) ((fun (res : Int32) => some (.int res)) res) ((fun (_ : Int32) => (qTM, qLM, qPM, M)) res) A) args s 0 0 A) (b_X12_canBe_136 M k23 x1 x2 x3 x4 x5 x6) 136 [(0, .ref 5001), (1, .int x1), (2, .int x2), (3, .int x3), (4, .int x4), (5, .int x5), (6, .int x6)] [] (qTM, qLM, qPM, M) 0 0 := by
    intro k23 hk23 x1 x2 x3 x4 x5 x6
    unfold b_X12_canBe_136
    refine g_iinc (v := 1) X [(6, .int (x6 + 1)), (0, .ref 5001), (1, .int x1), (2, .int x2), (3, .int x3), (4, .int x4), (5, .int x5)] 6 dX12_canBe_136 rfl (by decide) (by decide) rfl ?_
    refine g_goto X 23 dX12_canBe_139 rfl ?_
    exact g_sub [1, 2, 3, 4, 5, 6, 0] rfl (hk23 x1 x2 x3 x4 x5 (x6 + 1))
  have hb_128 : ∀ (k91 : Int32 → Int32 → Int32 → Int32 → Int32 → Int32 → Int32 → Option (Int32)) (hk91 : ∀ (x1 : Int32) (x2 : Int32) (x3 : Int32) (x4 : Int32) (x5 : Int32) (x6 : Int32) (x7 : Int32), GG p l e { frames := 1, cells := 0, slots := 0, locals := 22 } s m args below meth c0 K A (qTM, qLM, qPM, M) ad false 8 (fun res => MQ below (q_Qc K false ad (qTM, qLM, qPM, M) ((fun (res : Int32) => some (.int res)) res) ((fun (_ : Int32) => (qTM, qLM, qPM, M)) res) A) args s 0 0 A) (k91 x1 x2 x3 x4 x5 x6 x7) 91 [(0, .ref 5001), (1, .int x1), (2, .int x2), (3, .int x3), (4, .int x4), (5, .int x5), (6, .int x6), (7, .int x7)] [] (qTM, qLM, qPM, M) 0 0) (x1 : Int32) (x2 : Int32) (x3 : Int32) (x4 : Int32) (x6 : Int32) (x7 : Int32) (s0 : Int32), GG p l e { frames := 1, cells := 0, slots := 0, locals := 22 } s m args below meth c0 K A (qTM, qLM, qPM, M) ad false 8 (fun res => MQ below (q_Qc K false ad (qTM, qLM, qPM, M) ((fun (res : Int32) => some (.int res)) res) ((fun (_ : Int32) => (qTM, qLM, qPM, M)) res) A) args s 0 0 A) (b_X12_canBe_128 M k91 x1 x2 x3 x4 x6 x7 s0) 128 [(0, .ref 5001), (1, .int x1), (2, .int x2), (3, .int x3), (4, .int x4), (6, .int x6), (7, .int x7)] [.int s0] (qTM, qLM, qPM, M) 0 0 := by
    intro k91 hk91 x1 x2 x3 x4 x6 x7 s0
    unfold b_X12_canBe_128
    refine g_istore X [(5, .int s0), (0, .ref 5001), (1, .int x1), (2, .int x2), (3, .int x3), (4, .int x4), (6, .int x6), (7, .int x7)] dX12_canBe_128 (by decide) rfl ?_
    refine g_iinc (v := 1) X [(7, .int (x7 + 1)), (5, .int s0), (0, .ref 5001), (1, .int x1), (2, .int x2), (3, .int x3), (4, .int x4), (6, .int x6)] 7 dX12_canBe_130 rfl (by decide) (by decide) rfl ?_
    refine g_goto X 91 dX12_canBe_133 rfl ?_
    exact g_sub [2, 3, 4, 5, 6, 1, 7, 0] rfl (hk91 x1 x2 x3 x4 s0 x6 (x7 + 1))
  have hb_123 : ∀ (k91 : Int32 → Int32 → Int32 → Int32 → Int32 → Int32 → Int32 → Option (Int32)) (hk91 : ∀ (x1 : Int32) (x2 : Int32) (x3 : Int32) (x4 : Int32) (x5 : Int32) (x6 : Int32) (x7 : Int32), GG p l e { frames := 1, cells := 0, slots := 0, locals := 22 } s m args below meth c0 K A (qTM, qLM, qPM, M) ad false 8 (fun res => MQ below (q_Qc K false ad (qTM, qLM, qPM, M) ((fun (res : Int32) => some (.int res)) res) ((fun (_ : Int32) => (qTM, qLM, qPM, M)) res) A) args s 0 0 A) (k91 x1 x2 x3 x4 x5 x6 x7) 91 [(0, .ref 5001), (1, .int x1), (2, .int x2), (3, .int x3), (4, .int x4), (5, .int x5), (6, .int x6), (7, .int x7)] [] (qTM, qLM, qPM, M) 0 0) (x1 : Int32) (x2 : Int32) (x3 : Int32) (x4 : Int32) (x6 : Int32) (x7 : Int32), GG p l e { frames := 1, cells := 0, slots := 0, locals := 22 } s m args below meth c0 K A (qTM, qLM, qPM, M) ad false 8 (fun res => MQ below (q_Qc K false ad (qTM, qLM, qPM, M) ((fun (res : Int32) => some (.int res)) res) ((fun (_ : Int32) => (qTM, qLM, qPM, M)) res) A) args s 0 0 A) (b_X12_canBe_123 M k91 x1 x2 x3 x4 x6 x7) 123 [(0, .ref 5001), (1, .int x1), (2, .int x2), (3, .int x3), (4, .int x4), (6, .int x6), (7, .int x7)] [] (qTM, qLM, qPM, M) 0 0 := by
    intro k91 hk91 x1 x2 x3 x4 x6 x7
    unfold b_X12_canBe_123
    refine g_iconst (v := 1) X dX12_canBe_123 (by decide) ?_
    refine g_goto X 128 dX12_canBe_124 rfl ?_
    exact g_sub [0, 1, 2, 3, 4, 5, 6] rfl (hb_128 k91 hk91 x1 x2 x3 x4 x6 x7 1)
  have hb_127 : ∀ (k91 : Int32 → Int32 → Int32 → Int32 → Int32 → Int32 → Int32 → Option (Int32)) (hk91 : ∀ (x1 : Int32) (x2 : Int32) (x3 : Int32) (x4 : Int32) (x5 : Int32) (x6 : Int32) (x7 : Int32), GG p l e { frames := 1, cells := 0, slots := 0, locals := 22 } s m args below meth c0 K A (qTM, qLM, qPM, M) ad false 8 (fun res => MQ below (q_Qc K false ad (qTM, qLM, qPM, M) ((fun (res : Int32) => some (.int res)) res) ((fun (_ : Int32) => (qTM, qLM, qPM, M)) res) A) args s 0 0 A) (k91 x1 x2 x3 x4 x5 x6 x7) 91 [(0, .ref 5001), (1, .int x1), (2, .int x2), (3, .int x3), (4, .int x4), (5, .int x5), (6, .int x6), (7, .int x7)] [] (qTM, qLM, qPM, M) 0 0) (x1 : Int32) (x2 : Int32) (x3 : Int32) (x4 : Int32) (x6 : Int32) (x7 : Int32), GG p l e { frames := 1, cells := 0, slots := 0, locals := 22 } s m args below meth c0 K A (qTM, qLM, qPM, M) ad false 8 (fun res => MQ below (q_Qc K false ad (qTM, qLM, qPM, M) ((fun (res : Int32) => some (.int res)) res) ((fun (_ : Int32) => (qTM, qLM, qPM, M)) res) A) args s 0 0 A) (b_X12_canBe_127 M k91 x1 x2 x3 x4 x6 x7) 127 [(0, .ref 5001), (1, .int x1), (2, .int x2), (3, .int x3), (4, .int x4), (6, .int x6), (7, .int x7)] [] (qTM, qLM, qPM, M) 0 0 := by
    intro k91 hk91 x1 x2 x3 x4 x6 x7
    unfold b_X12_canBe_127
    refine g_iconst (v := 0) X dX12_canBe_127 (by decide) ?_
    exact g_sub [0, 1, 2, 3, 4, 5, 6] rfl (hb_128 k91 hk91 x1 x2 x3 x4 x6 x7 0)
  have hb_91 : ∀ (k23 : Int32 → Int32 → Int32 → Int32 → Int32 → Int32 → Option (Int32)) (hk23 : ∀ (x1 : Int32) (x2 : Int32) (x3 : Int32) (x4 : Int32) (x5 : Int32) (x6 : Int32), GG p l e { frames := 1, cells := 0, slots := 0, locals := 22 } s m args below meth c0 K A (qTM, qLM, qPM, M) ad false 8 (fun res => MQ below (q_Qc K false ad (qTM, qLM, qPM, M) ((fun (res : Int32) => some (.int res)) res) ((fun (_ : Int32) => (qTM, qLM, qPM, M)) res) A) args s 0 0 A) (k23 x1 x2 x3 x4 x5 x6) 23 [(0, .ref 5001), (1, .int x1), (2, .int x2), (3, .int x3), (4, .int x4), (5, .int x5), (6, .int x6)] [] (qTM, qLM, qPM, M) 0 0) (nf : Nat) (x1 : Int32) (x2 : Int32) (x3 : Int32) (x4 : Int32) (x5 : Int32) (x6 : Int32) (x7 : Int32), GG p l e { frames := 1, cells := 0, slots := 0, locals := 22 } s m args below meth c0 K A (qTM, qLM, qPM, M) ad false 8 (fun res => MQ below (q_Qc K false ad (qTM, qLM, qPM, M) ((fun (res : Int32) => some (.int res)) res) ((fun (_ : Int32) => (qTM, qLM, qPM, M)) res) A) args s 0 0 A) (b_X12_canBe_91 M k23 nf x1 x2 x3 x4 x5 x6 x7) 91 [(0, .ref 5001), (1, .int x1), (2, .int x2), (3, .int x3), (4, .int x4), (5, .int x5), (6, .int x6), (7, .int x7)] [] (qTM, qLM, qPM, M) 0 0 := by
    intro k23 hk23 nf
    induction nf with
    | zero => intros; exact g_stop
    | succ nf ih =>
      intro x1 x2 x3 x4 x5 x6 x7
      rw [b_X12_canBe_91]
      refine g_iload X dX12_canBe_91 7 rfl ?_
      refine g_iload X dX12_canBe_93 6 rfl ?_
      refine g_icmp_ge X 136 dX12_canBe_95 rfl (fun h1 => ?_) (fun h1 => ?_)
      · exact g_sub [0, 1, 2, 3, 4, 5, 6] rfl (hb_136 k23 hk23 x1 x2 x3 x4 x5 x6)
      · refine g_iload X dX12_canBe_98 5 rfl ?_
        refine g_if_eq X 127 dX12_canBe_100 rfl (fun h2 => ?_) (fun h2 => ?_)
        · exact g_sub [0, 1, 2, 3, 4, 6, 7] rfl (hb_127 (b_X12_canBe_91 M k23 nf) ih x1 x2 x3 x4 x6 x7)
        · refine g_iload_n X dX12_canBe_103 rfl 2 rfl ?_
          refine g_iload X dX12_canBe_104 7 rfl ?_
          refine g_ishr X dX12_canBe_106 ?_
          refine g_iconst (v := 1) X dX12_canBe_107 (by decide) ?_
          refine g_iand X dX12_canBe_108 ?_
          refine g_if_eq X 123 dX12_canBe_109 rfl (fun h3 => ?_) (fun h3 => ?_)
          · exact g_sub [0, 1, 2, 3, 4, 6, 7] rfl (hb_123 (b_X12_canBe_91 M k23 nf) ih x1 x2 x3 x4 x6 x7)
          · refine g_aload_n X dX12_canBe_112 rfl 0 rfl ?_
            refine g_iload X dX12_canBe_113 7 rfl ?_
            refine g_iload X dX12_canBe_115 6 rfl ?_
            refine g_bVi (As := [.int x7, .int x6]) (rest := []) X (c_X12_areFoes l K M x7 x6) lk_X12_320 rfl rfl rfl (Nat.le_of_ble_eq_true rfl) ⟨Nat.le_of_ble_eq_true rfl, Nat.le_of_ble_eq_true rfl⟩ ⟨Nat.zero_le _, Nat.zero_le _⟩ dX12_canBe_117 (fun r4 => ?_)
            refine g_if_ne X 127 dX12_canBe_120 rfl (fun h5 => ?_) (fun h5 => ?_)
            · exact g_sub [0, 1, 2, 3, 4, 6, 7] rfl (hb_123 (b_X12_canBe_91 M k23 nf) ih x1 x2 x3 x4 x6 x7)
            · exact g_sub [0, 1, 2, 3, 4, 6, 7] rfl (hb_127 (b_X12_canBe_91 M k23 nf) ih x1 x2 x3 x4 x6 x7)
  have hb_86 : ∀ (k23 : Int32 → Int32 → Int32 → Int32 → Int32 → Int32 → Option (Int32)) (hk23 : ∀ (x1 : Int32) (x2 : Int32) (x3 : Int32) (x4 : Int32) (x5 : Int32) (x6 : Int32), GG p l e { frames := 1, cells := 0, slots := 0, locals := 22 } s m args below meth c0 K A (qTM, qLM, qPM, M) ad false 8 (fun res => MQ below (q_Qc K false ad (qTM, qLM, qPM, M) ((fun (res : Int32) => some (.int res)) res) ((fun (_ : Int32) => (qTM, qLM, qPM, M)) res) A) args s 0 0 A) (k23 x1 x2 x3 x4 x5 x6) 23 [(0, .ref 5001), (1, .int x1), (2, .int x2), (3, .int x3), (4, .int x4), (5, .int x5), (6, .int x6)] [] (qTM, qLM, qPM, M) 0 0) (x1 : Int32) (x2 : Int32) (x3 : Int32) (x4 : Int32) (x6 : Int32) (s0 : Int32), GG p l e { frames := 1, cells := 0, slots := 0, locals := 22 } s m args below meth c0 K A (qTM, qLM, qPM, M) ad false 8 (fun res => MQ below (q_Qc K false ad (qTM, qLM, qPM, M) ((fun (res : Int32) => some (.int res)) res) ((fun (_ : Int32) => (qTM, qLM, qPM, M)) res) A) args s 0 0 A) (b_X12_canBe_86 M k23 x1 x2 x3 x4 x6 s0) 86 [(0, .ref 5001), (1, .int x1), (2, .int x2), (3, .int x3), (4, .int x4), (6, .int x6)] [.int s0] (qTM, qLM, qPM, M) 0 0 := by
    intro k23 hk23 x1 x2 x3 x4 x6 s0
    unfold b_X12_canBe_86
    refine g_istore X [(5, .int s0), (0, .ref 5001), (1, .int x1), (2, .int x2), (3, .int x3), (4, .int x4), (6, .int x6)] dX12_canBe_86 (by decide) rfl ?_
    refine g_iconst (v := 0) X dX12_canBe_88 (by decide) ?_
    refine g_istore X [(7, .int 0), (5, .int s0), (0, .ref 5001), (1, .int x1), (2, .int x2), (3, .int x3), (4, .int x4), (6, .int x6)] dX12_canBe_89 (by decide) rfl ?_
    exact g_sub [2, 3, 4, 5, 6, 1, 7, 0] rfl (hb_91 k23 hk23 q_fu x1 x2 x3 x4 s0 x6 0)
  have hb_85 : ∀ (k23 : Int32 → Int32 → Int32 → Int32 → Int32 → Int32 → Option (Int32)) (hk23 : ∀ (x1 : Int32) (x2 : Int32) (x3 : Int32) (x4 : Int32) (x5 : Int32) (x6 : Int32), GG p l e { frames := 1, cells := 0, slots := 0, locals := 22 } s m args below meth c0 K A (qTM, qLM, qPM, M) ad false 8 (fun res => MQ below (q_Qc K false ad (qTM, qLM, qPM, M) ((fun (res : Int32) => some (.int res)) res) ((fun (_ : Int32) => (qTM, qLM, qPM, M)) res) A) args s 0 0 A) (k23 x1 x2 x3 x4 x5 x6) 23 [(0, .ref 5001), (1, .int x1), (2, .int x2), (3, .int x3), (4, .int x4), (5, .int x5), (6, .int x6)] [] (qTM, qLM, qPM, M) 0 0) (x1 : Int32) (x2 : Int32) (x3 : Int32) (x4 : Int32) (x6 : Int32), GG p l e { frames := 1, cells := 0, slots := 0, locals := 22 } s m args below meth c0 K A (qTM, qLM, qPM, M) ad false 8 (fun res => MQ below (q_Qc K false ad (qTM, qLM, qPM, M) ((fun (res : Int32) => some (.int res)) res) ((fun (_ : Int32) => (qTM, qLM, qPM, M)) res) A) args s 0 0 A) (b_X12_canBe_85 M k23 x1 x2 x3 x4 x6) 85 [(0, .ref 5001), (1, .int x1), (2, .int x2), (3, .int x3), (4, .int x4), (6, .int x6)] [] (qTM, qLM, qPM, M) 0 0 := by
    intro k23 hk23 x1 x2 x3 x4 x6
    unfold b_X12_canBe_85
    refine g_iconst (v := 0) X dX12_canBe_85 (by decide) ?_
    exact g_sub [0, 1, 2, 3, 4, 5] rfl (hb_86 k23 hk23 x1 x2 x3 x4 x6 0)
  have hb_23 : ∀ (nf : Nat) (x1 : Int32) (x2 : Int32) (x3 : Int32) (x4 : Int32) (x5 : Int32) (x6 : Int32), GG p l e { frames := 1, cells := 0, slots := 0, locals := 22 } s m args below meth c0 K A (qTM, qLM, qPM, M) ad false 8 (fun res => MQ below (q_Qc K false ad (qTM, qLM, qPM, M) ((fun (res : Int32) => some (.int res)) res) ((fun (_ : Int32) => (qTM, qLM, qPM, M)) res) A) args s 0 0 A) (b_X12_canBe_23 M nf x1 x2 x3 x4 x5 x6) 23 [(0, .ref 5001), (1, .int x1), (2, .int x2), (3, .int x3), (4, .int x4), (5, .int x5), (6, .int x6)] [] (qTM, qLM, qPM, M) 0 0 := by
    intro  nf
    induction nf with
    | zero => intros; exact g_stop
    | succ nf ih =>
      intro x1 x2 x3 x4 x5 x6
      rw [b_X12_canBe_23]
      refine g_iload X dX12_canBe_23 6 rfl ?_
      refine g_aload_n X dX12_canBe_25 rfl 0 rfl ?_
      refine g_geti X fa_X12_108 rfl dX12_canBe_26 ?_
      refine g_icmp_ge X 142 dX12_canBe_29 rfl (fun h6 => ?_) (fun h6 => ?_)
      · refine g_iload X dX12_canBe_142 5 rfl ?_
        refine g_if_eq X 172 dX12_canBe_144 rfl (fun h7 => ?_) (fun h7 => ?_)
        · refine g_iconst (v := 0) X dX12_canBe_172 (by decide) ?_
          exact g_zret X rfl rfl rfl dX12_canBe_173
        · refine g_iload_n X dX12_canBe_147 rfl 3 rfl ?_
          refine g_aload_n X dX12_canBe_148 rfl 0 rfl ?_
          refine g_getr X fa_X12_60 rfl rfl dX12_canBe_149 ?_
          refine g_iload_n X dX12_canBe_152 rfl 1 rfl ?_
          refine g_ild X rfl rfl dX12_canBe_153 (fun v8 => ?_)
          refine g_icmp_gt X 172 dX12_canBe_154 rfl (fun h9 => ?_) (fun h9 => ?_)
          · refine g_iconst (v := 0) X dX12_canBe_172 (by decide) ?_
            exact g_zret X rfl rfl rfl dX12_canBe_173
          · refine g_iload X dX12_canBe_157 4 rfl ?_
            refine g_aload_n X dX12_canBe_159 rfl 0 rfl ?_
            refine g_getr X fa_X12_66 rfl rfl dX12_canBe_160 ?_
            refine g_iload_n X dX12_canBe_163 rfl 1 rfl ?_
            refine g_ild X rfl rfl dX12_canBe_164 (fun v10 => ?_)
            refine g_icmp_gt X 172 dX12_canBe_165 rfl (fun h11 => ?_) (fun h11 => ?_)
            · refine g_iconst (v := 0) X dX12_canBe_172 (by decide) ?_
              exact g_zret X rfl rfl rfl dX12_canBe_173
            · refine g_iconst (v := 1) X dX12_canBe_168 (by decide) ?_
              refine g_goto X 173 dX12_canBe_169 rfl ?_
              exact g_zret X rfl rfl rfl dX12_canBe_173
      · refine g_iload_n X dX12_canBe_32 rfl 2 rfl ?_
        refine g_iload X dX12_canBe_33 6 rfl ?_
        refine g_ishr X dX12_canBe_35 ?_
        refine g_iconst (v := 1) X dX12_canBe_36 (by decide) ?_
        refine g_iand X dX12_canBe_37 ?_
        refine g_if_ne X 44 dX12_canBe_38 rfl (fun h12 => ?_) (fun h12 => ?_)
        · refine g_goto X 136 dX12_canBe_41 rfl ?_
          exact g_sub [0, 1, 2, 3, 4, 5, 6] rfl (hb_136 (b_X12_canBe_23 M nf) ih x1 x2 x3 x4 x5 x6)
        · refine g_iload_n X dX12_canBe_44 rfl 3 rfl ?_
          refine g_aload_n X dX12_canBe_45 rfl 0 rfl ?_
          refine g_getr X fa_X12_121 rfl rfl dX12_canBe_46 ?_
          refine g_iload X dX12_canBe_49 6 rfl ?_
          refine g_ild X rfl rfl dX12_canBe_51 (fun v13 => ?_)
          refine g_iadd X dX12_canBe_52 ?_
          refine g_isn X (fun v14 => [(3, .int v14), (0, .ref 5001), (1, .int x1), (2, .int x2), (4, .int x4), (5, .int x5), (6, .int x6)]) dX12_canBe_53 rfl (by decide) (fun _ => rfl) (fun v14 => ?_)
          refine g_iload X dX12_canBe_54 4 rfl ?_
          refine g_aload_n X dX12_canBe_56 rfl 1 rfl ?_
          refine g_getr X fa_X12_127 rfl rfl dX12_canBe_57 ?_
          refine g_iload X dX12_canBe_60 6 rfl ?_
          refine g_ild X rfl rfl dX12_canBe_62 (fun v15 => ?_)
          refine g_iadd X dX12_canBe_63 ?_
          refine g_is X (fun v16 => [(4, .int v16), (3, .int v14), (0, .ref 5001), (1, .int x1), (2, .int x2), (5, .int x5), (6, .int x6)]) dX12_canBe_64 (by decide) (fun _ => rfl) (fun v16 => ?_)
          refine g_iload X dX12_canBe_66 5 rfl ?_
          refine g_if_eq X 85 dX12_canBe_68 rfl (fun h17 => ?_) (fun h17 => ?_)
          · exact g_sub [2, 3, 4, 1, 0, 6] rfl (hb_85 (b_X12_canBe_23 M nf) ih x1 x2 v14 v16 x6)
          · refine g_aload_n X dX12_canBe_71 rfl 2 rfl ?_
            refine g_iload X dX12_canBe_72 6 rfl ?_
            refine g_iload_n X dX12_canBe_74 rfl 3 rfl ?_
            refine g_bVi (As := [.int x6, .int x1]) (rest := []) X (c_X12_isHigh l K M x6 x1) lk_X12_310 rfl rfl rfl (Nat.le_of_ble_eq_true rfl) ⟨Nat.le_of_ble_eq_true rfl, Nat.le_of_ble_eq_true rfl⟩ ⟨Nat.zero_le _, Nat.zero_le _⟩ dX12_canBe_75 (fun r18 => ?_)
            refine g_if_eq X 85 dX12_canBe_78 rfl (fun h19 => ?_) (fun h19 => ?_)
            · exact g_sub [2, 3, 4, 1, 0, 6] rfl (hb_85 (b_X12_canBe_23 M nf) ih x1 x2 v14 v16 x6)
            · refine g_iconst (v := 1) X dX12_canBe_81 (by decide) ?_
              refine g_goto X 86 dX12_canBe_82 rfl ?_
              exact g_sub [2, 3, 4, 1, 0, 6] rfl (hb_86 (b_X12_canBe_23 M nf) ih x1 x2 v14 v16 x6 1)
  refine g_sub (lv' := [(0, .ref 5001), (1, .int a1), (2, .int a2)]) [0, 1, 2] rfl ?_
  unfold f_X12_canBe
  refine g_aload_n X dX12_canBe_0 rfl 0 rfl ?_
  refine g_getr X fa_X12_75 rfl rfl dX12_canBe_1 ?_
  refine g_iconst (v := 1) X dX12_canBe_4 (by decide) ?_
  refine g_ild X rfl rfl dX12_canBe_5 (fun v20 => ?_)
  refine g_aload_n X dX12_canBe_6 rfl 0 rfl ?_
  refine g_geti X fa_X12_357 rfl dX12_canBe_7 ?_
  refine g_iconst (v := 1) X dX12_canBe_10 (by decide) ?_
  refine g_isub X dX12_canBe_11 ?_
  refine g_imul X dX12_canBe_12 ?_
  refine g_isn X (fun v21 => [(3, .int v21), (0, .ref 5001), (1, .int a1), (2, .int a2)]) dX12_canBe_13 rfl (by decide) (fun _ => rfl) (fun v21 => ?_)
  refine g_iconst (v := 0) X dX12_canBe_14 (by decide) ?_
  refine g_istore X [(4, .int 0), (3, .int v21), (0, .ref 5001), (1, .int a1), (2, .int a2)] dX12_canBe_15 (by decide) rfl ?_
  refine g_iconst (v := 1) X dX12_canBe_17 (by decide) ?_
  refine g_istore X [(5, .int 1), (4, .int 0), (3, .int v21), (0, .ref 5001), (1, .int a1), (2, .int a2)] dX12_canBe_18 (by decide) rfl ?_
  refine g_iconst (v := 0) X dX12_canBe_20 (by decide) ?_
  refine g_istore X [(6, .int 0), (5, .int 1), (4, .int 0), (3, .int v21), (0, .ref 5001), (1, .int a1), (2, .int a2)] dX12_canBe_21 (by decide) rfl ?_
  exact g_sub [4, 5, 6, 3, 2, 1, 0] rfl (hb_23 q_fu a1 a2 v21 0 1 0)
set_option maxHeartbeats 4000000 in
set_option maxRecDepth 100000 in
theorem c_X12_best (l : Launch) (K : q_KK) (M0 : q_MM) (a1 : Int32) (a2 : Int32) : ∀ res, f_X12_best M0 a1 a2 = some res → Mt l yX12_best cX12_best 6 (some FieldType.int) 31 1224 0 0 false K [.ref 5001, .int a1, .int a2] (qTM, qLM, qPM, M0) (some (.int res.1)) ((qTM, qLM, qPM, res.2)) := by
  refine Mt.of (fun (res : Int32 × q_MM) => some (.int res.1)) (fun (res : Int32 × q_MM) => (qTM, qLM, qPM, res.2)) (by decide) (Nat.le_of_ble_eq_true rfl) ?_
  intro p e s m args below meth c0 A ad X hN
  have hb_40 : ∀ (M : q_MM), GG p l e { frames := 31, cells := 0, slots := 0, locals := 1224 } s m args below meth c0 K A (qTM, qLM, qPM, M0) ad false 6 (fun res => MQ below (q_Qc K false ad (qTM, qLM, qPM, M0) ((fun (res : Int32 × q_MM) => some (.int res.1)) res) ((fun (res : Int32 × q_MM) => (qTM, qLM, qPM, res.2)) res) A) args s 0 0 A) (b_X12_best_40 M) 40 [(0, .ref 5001)] [] (qTM, qLM, qPM, M) 0 0 := by
    intro M
    unfold b_X12_best_40
    refine g_aload_n X dX12_best_40 rfl 0 rfl ?_
    refine g_bVi (As := []) (rest := []) X (c_X12_refuse l K M) lk_X12_338 rfl rfl rfl (Nat.le_of_ble_eq_true rfl) ⟨Nat.le_of_ble_eq_true rfl, Nat.le_of_ble_eq_true rfl⟩ ⟨Nat.zero_le _, Nat.zero_le _⟩ dX12_best_41 (fun r1 => ?_)
    exact g_iret X rfl rfl rfl dX12_best_44
  have hb_77 : ∀ (k47 : Int32 → Int32 → Int32 → q_MM → Option (Int32 × q_MM)) (hk47 : ∀ (x1 : Int32) (x2 : Int32) (x3 : Int32) (M : q_MM), GG p l e { frames := 31, cells := 0, slots := 0, locals := 1224 } s m args below meth c0 K A (qTM, qLM, qPM, M0) ad false 6 (fun res => MQ below (q_Qc K false ad (qTM, qLM, qPM, M0) ((fun (res : Int32 × q_MM) => some (.int res.1)) res) ((fun (res : Int32 × q_MM) => (qTM, qLM, qPM, res.2)) res) A) args s 0 0 A) (k47 x1 x2 x3 M) 47 [(0, .ref 5001), (1, .int x1), (2, .int x2), (3, .int x3)] [] (qTM, qLM, qPM, M) 0 0) (x1 : Int32) (x2 : Int32) (x3 : Int32) (M : q_MM), GG p l e { frames := 31, cells := 0, slots := 0, locals := 1224 } s m args below meth c0 K A (qTM, qLM, qPM, M0) ad false 6 (fun res => MQ below (q_Qc K false ad (qTM, qLM, qPM, M0) ((fun (res : Int32 × q_MM) => some (.int res.1)) res) ((fun (res : Int32 × q_MM) => (qTM, qLM, qPM, res.2)) res) A) args s 0 0 A) (b_X12_best_77 k47 x1 x2 x3 M) 77 [(0, .ref 5001), (1, .int x1), (2, .int x2), (3, .int x3)] [] (qTM, qLM, qPM, M) 0 0 := by
    intro k47 hk47 x1 x2 x3 M
    unfold b_X12_best_77
    refine g_iinc (v := 1) X [(3, .int (x3 + 1)), (0, .ref 5001), (1, .int x1), (2, .int x2)] 3 dX12_best_77 rfl (by decide) (by decide) rfl ?_
    refine g_goto X 47 dX12_best_80 rfl ?_
    exact g_sub [1, 2, 3, 0] rfl (hk47 x1 x2 (x3 + 1) M)
  have hb_208 : ∀ (nf : Nat) (x4 : Int32) (x5 : Int32) (M : q_MM), GG p l e { frames := 31, cells := 0, slots := 0, locals := 1224 } s m args below meth c0 K A (qTM, qLM, qPM, M0) ad false 6 (fun res => MQ below (q_Qc K false ad (qTM, qLM, qPM, M0) ((fun (res : Int32 × q_MM) => some (.int res.1)) res) ((fun (res : Int32 × q_MM) => (qTM, qLM, qPM, res.2)) res) A) args s 0 0 A) (b_X12_best_208 nf x4 x5 M) 208 [(0, .ref 5001), (4, .int x4), (5, .int x5)] [] (qTM, qLM, qPM, M) 0 0 := by
    intro  nf
    induction nf with
    | zero => intros; exact g_stop
    | succ nf ih =>
      intro x4 x5 M
      rw [b_X12_best_208]
      refine g_iload X dX12_best_208 2 rfl ?_
      refine g_aload_n X dX12_best_210 rfl 0 rfl ?_
      refine g_geti X fa_X12_357 rfl dX12_best_211 ?_
      refine g_icmp_ge X 281 dX12_best_214 rfl (fun h2 => ?_) (fun h2 => ?_)
      · refine g_aload_n X dX12_best_281 rfl 0 rfl ?_
        refine g_geti X fa_X12_377 rfl dX12_best_282 ?_
        exact g_iret X rfl rfl rfl dX12_best_285
      · refine g_aload_n X dX12_best_217 rfl 0 rfl ?_
        refine g_aload_n X dX12_best_218 rfl 0 rfl ?_
        refine g_getr X fa_X12_380 rfl rfl dX12_best_219 ?_
        refine g_iload X dX12_best_222 2 rfl ?_
        refine g_ild X rfl rfl dX12_best_224 (fun v3 => ?_)
        refine g_bVv (As := [.int v3]) (rest := []) X (c_X12_enters l K M v3) lk_X12_345 rfl rfl rfl (Nat.le_of_ble_eq_true rfl) ⟨Nat.le_of_ble_eq_true rfl, Nat.le_of_ble_eq_true rfl⟩ ⟨Nat.zero_le _, Nat.zero_le _⟩ dX12_best_225 (fun r4 => ?_)
        refine g_aload_n X dX12_best_228 rfl 0 rfl ?_
        refine g_getr X fa_X12_403 rfl rfl dX12_best_229 ?_
        refine g_iload X dX12_best_232 2 rfl ?_
        refine g_aload_n X dX12_best_234 rfl 0 rfl ?_
        refine g_getr X fa_X12_380 rfl rfl dX12_best_235 ?_
        refine g_iload X dX12_best_238 2 rfl ?_
        refine g_ild X rfl rfl dX12_best_240 (fun v5 => ?_)
        refine g_isv X rfl rfl dX12_best_241 (fun M6 => ?_)
        refine g_aload_n X dX12_best_242 rfl 0 rfl ?_
        refine g_getr X fa_X12_406 rfl rfl dX12_best_243 ?_
        refine g_iload X dX12_best_246 2 rfl ?_
        refine g_iload X dX12_best_248 1 rfl ?_
        refine g_isv X rfl rfl dX12_best_250 (fun M7 => ?_)
        refine g_iload X dX12_best_251 1 rfl ?_
        refine g_aload_n X dX12_best_253 rfl 0 rfl ?_
        refine g_getr X fa_X12_121 rfl rfl dX12_best_254 ?_
        refine g_aload_n X dX12_best_257 rfl 0 rfl ?_
        refine g_getr X fa_X12_380 rfl rfl dX12_best_258 ?_
        refine g_iload X dX12_best_261 2 rfl ?_
        refine g_ild X rfl rfl dX12_best_263 (fun v8 => ?_)
        refine g_ild X rfl rfl dX12_best_264 (fun v9 => ?_)
        refine g_aload_n X dX12_best_265 rfl 0 rfl ?_
        refine g_getr X fa_X12_75 rfl rfl dX12_best_266 ?_
        refine g_iconst (v := 1) X dX12_best_269 (by decide) ?_
        refine g_ild X rfl rfl dX12_best_270 (fun v10 => ?_)
        refine g_iadd X dX12_best_271 ?_
        refine g_iadd X dX12_best_272 ?_
        refine g_is X (fun v11 => [(4, .int v11), (0, .ref 5001), (5, .int x5)]) dX12_best_273 (by decide) (fun _ => rfl) (fun v11 => ?_)
        refine g_iinc (v := 1) X [(5, .int (x5 + 1)), (4, .int v11), (0, .ref 5001)] 2 dX12_best_275 rfl (by decide) (by decide) rfl ?_
        refine g_goto X 208 dX12_best_278 rfl ?_
        exact g_sub [2, 1, 0] rfl (ih v11 (x5 + 1) M7)
  have hb_140 : ∀ (nf : Nat) (x1 : Int32) (x3 : Int32) (x4 : Int32) (M : q_MM), GG p l e { frames := 31, cells := 0, slots := 0, locals := 1224 } s m args below meth c0 K A (qTM, qLM, qPM, M0) ad false 6 (fun res => MQ below (q_Qc K false ad (qTM, qLM, qPM, M0) ((fun (res : Int32 × q_MM) => some (.int res.1)) res) ((fun (res : Int32 × q_MM) => (qTM, qLM, qPM, res.2)) res) A) args s 0 0 A) (b_X12_best_140 nf x1 x3 x4 M) 140 [(0, .ref 5001), (1, .int x1), (3, .int x3), (4, .int x4)] [] (qTM, qLM, qPM, M) 0 0 := by
    intro  nf
    induction nf with
    | zero => intros; exact g_stop
    | succ nf ih =>
      intro x1 x3 x4 M
      rw [b_X12_best_140]
      refine g_iload X dX12_best_140 3 rfl ?_
      refine g_aload_n X dX12_best_142 rfl 0 rfl ?_
      refine g_geti X fa_X12_357 rfl dX12_best_143 ?_
      refine g_icmp_ge X 170 dX12_best_146 rfl (fun h12 => ?_) (fun h12 => ?_)
      · refine g_aload_n X dX12_best_170 rfl 0 rfl ?_
        refine g_getr X fa_X12_60 rfl rfl dX12_best_171 ?_
        refine g_iload_n X dX12_best_174 rfl 1 rfl ?_
        refine g_ild X rfl rfl dX12_best_175 (fun v13 => ?_)
        refine g_iload_n X dX12_best_176 rfl 2 rfl ?_
        refine g_isub X dX12_best_177 ?_
        refine g_iconst (v := 2) X dX12_best_178 (by decide) ?_
        refine g_idiv X dX12_best_179 ?_
        refine g_is X (fun v14 => [(4, .int v14), (0, .ref 5001), (1, .int x1), (3, .int x3)]) dX12_best_180 (by decide) (fun _ => rfl) (fun v14 => ?_)
        refine g_aload_n X dX12_best_182 rfl 1 rfl ?_
        refine g_iconst (v := 0) X dX12_best_183 (by decide) ?_
        refine g_pfi X fa_X12_11 rfl (by decide +kernel) rfl dX12_best_184 (fun M15 => ?_)
        refine g_aload_n X dX12_best_187 rfl 1 rfl ?_
        refine g_aload_n X dX12_best_188 rfl 1 rfl ?_
        refine g_geti X fa_X12_357 rfl dX12_best_189 ?_
        refine g_pfi X fa_X12_394 rfl (by decide +kernel) rfl dX12_best_192 (fun M16 => ?_)
        refine g_aload_n X dX12_best_195 rfl 1 rfl ?_
        refine g_iload_n X dX12_best_196 rfl 2 rfl ?_
        refine g_pfi X fa_X12_397 rfl (by decide +kernel) rfl dX12_best_197 (fun M17 => ?_)
        refine g_aload_n X dX12_best_200 rfl 1 rfl ?_
        refine g_iconst (v := 1) X dX12_best_201 (by decide) ?_
        refine g_pfz X fa_X12_400 rfl (by decide +kernel) rfl dX12_best_202 (fun M18 => ?_)
        refine g_iconst (v := 0) X dX12_best_205 (by decide) ?_
        refine g_istore X [(5, .int 0), (4, .int v14), (0, .ref 5001), (1, .int x1), (3, .int x3)] dX12_best_206 (by decide) rfl ?_
        exact g_sub [2, 1, 0] rfl (hb_208 q_fu v14 0 M18)
      · refine g_iload_n X dX12_best_149 rfl 2 rfl ?_
        refine g_aload_n X dX12_best_150 rfl 0 rfl ?_
        refine g_getr X fa_X12_121 rfl rfl dX12_best_151 ?_
        refine g_aload_n X dX12_best_154 rfl 0 rfl ?_
        refine g_getr X fa_X12_380 rfl rfl dX12_best_155 ?_
        refine g_iload X dX12_best_158 3 rfl ?_
        refine g_ild X rfl rfl dX12_best_160 (fun v19 => ?_)
        refine g_ild X rfl rfl dX12_best_161 (fun v20 => ?_)
        refine g_iadd X dX12_best_162 ?_
        refine g_isn X (fun v21 => [(3, .int v21), (0, .ref 5001), (1, .int x1), (4, .int x4)]) dX12_best_163 rfl (by decide) (fun _ => rfl) (fun v21 => ?_)
        refine g_iinc (v := 1) X [(4, .int (x4 + 1)), (3, .int v21), (0, .ref 5001), (1, .int x1)] 3 dX12_best_164 rfl (by decide) (by decide) rfl ?_
        refine g_goto X 140 dX12_best_167 rfl ?_
        exact g_sub [2, 3, 1, 0] rfl (ih x1 v21 (x4 + 1) M)
  have hb_111 : ∀ (x1 : Int32) (M : q_MM), GG p l e { frames := 31, cells := 0, slots := 0, locals := 1224 } s m args below meth c0 K A (qTM, qLM, qPM, M0) ad false 6 (fun res => MQ below (q_Qc K false ad (qTM, qLM, qPM, M0) ((fun (res : Int32 × q_MM) => some (.int res.1)) res) ((fun (res : Int32 × q_MM) => (qTM, qLM, qPM, res.2)) res) A) args s 0 0 A) (b_X12_best_111 x1 M) 111 [(0, .ref 5001), (1, .int x1)] [] (qTM, qLM, qPM, M) 0 0 := by
    intro x1 M
    unfold b_X12_best_111
    refine g_aload_n X dX12_best_111 rfl 0 rfl ?_
    refine g_geti X fa_X12_373 rfl dX12_best_112 ?_
    refine g_if_ne X 123 dX12_best_115 rfl (fun h22 => ?_) (fun h22 => ?_)
    · refine g_aload_n X dX12_best_118 rfl 0 rfl ?_
      refine g_bVi (As := []) (rest := []) X (c_X12_refuse l K M) lk_X12_338 rfl rfl rfl (Nat.le_of_ble_eq_true rfl) ⟨Nat.le_of_ble_eq_true rfl, Nat.le_of_ble_eq_true rfl⟩ ⟨Nat.zero_le _, Nat.zero_le _⟩ dX12_best_119 (fun r23 => ?_)
      exact g_iret X rfl rfl rfl dX12_best_122
    · refine g_aload_n X dX12_best_123 rfl 0 rfl ?_
      refine g_getr X fa_X12_75 rfl rfl dX12_best_124 ?_
      refine g_iconst (v := 1) X dX12_best_127 (by decide) ?_
      refine g_ild X rfl rfl dX12_best_128 (fun v24 => ?_)
      refine g_aload_n X dX12_best_129 rfl 0 rfl ?_
      refine g_geti X fa_X12_357 rfl dX12_best_130 ?_
      refine g_iconst (v := 1) X dX12_best_133 (by decide) ?_
      refine g_isub X dX12_best_134 ?_
      refine g_imul X dX12_best_135 ?_
      refine g_isn X (fun v25 => [(3, .int v25), (0, .ref 5001), (1, .int x1)]) dX12_best_136 rfl (by decide) (fun _ => rfl) (fun v25 => ?_)
      refine g_iconst (v := 0) X dX12_best_137 (by decide) ?_
      refine g_istore X [(4, .int 0), (3, .int v25), (0, .ref 5001), (1, .int x1)] dX12_best_138 (by decide) rfl ?_
      exact g_sub [2, 3, 1, 0] rfl (hb_140 q_fu x1 v25 0 M)
  have hb_47 : ∀ (nf : Nat) (x1 : Int32) (x2 : Int32) (x3 : Int32) (M : q_MM), GG p l e { frames := 31, cells := 0, slots := 0, locals := 1224 } s m args below meth c0 K A (qTM, qLM, qPM, M0) ad false 6 (fun res => MQ below (q_Qc K false ad (qTM, qLM, qPM, M0) ((fun (res : Int32 × q_MM) => some (.int res.1)) res) ((fun (res : Int32 × q_MM) => (qTM, qLM, qPM, res.2)) res) A) args s 0 0 A) (b_X12_best_47 nf x1 x2 x3 M) 47 [(0, .ref 5001), (1, .int x1), (2, .int x2), (3, .int x3)] [] (qTM, qLM, qPM, M) 0 0 := by
    intro  nf
    induction nf with
    | zero => intros; exact g_stop
    | succ nf ih =>
      intro x1 x2 x3 M
      rw [b_X12_best_47]
      refine g_iload_n X dX12_best_47 rfl 3 rfl ?_
      refine g_aload_n X dX12_best_48 rfl 0 rfl ?_
      refine g_geti X fa_X12_108 rfl dX12_best_49 ?_
      refine g_icmp_ge X 83 dX12_best_52 rfl (fun h26 => ?_) (fun h26 => ?_)
      · refine g_aload_n X dX12_best_83 rfl 0 rfl ?_
        refine g_iload_n X dX12_best_84 rfl 2 rfl ?_
        refine g_bSi (As := [.int x2]) (rest := [.ref 5001]) X (c_J6_bitCount_0f7a4 l K qTM qLM qPM M x2) lk_X12_386 rfl rfl (Nat.le_of_ble_eq_true rfl) ⟨Nat.le_of_ble_eq_true rfl, Nat.le_of_ble_eq_true rfl⟩ ⟨Nat.zero_le _, Nat.zero_le _⟩ dX12_best_85 (fun r27 => ?_)
        refine g_pfi X fa_X12_357 rfl (by decide +kernel) rfl dX12_best_88 (fun M28 => ?_)
        refine g_aload_n X dX12_best_91 rfl 0 rfl ?_
        refine g_iconst (v := 0) X dX12_best_92 (by decide) ?_
        refine g_pfz X fa_X12_373 rfl (by decide +kernel) rfl dX12_best_93 (fun M29 => ?_)
        refine g_aload_n X dX12_best_96 rfl 0 rfl ?_
        refine g_iload_n X dX12_best_97 rfl 1 rfl ?_
        refine g_iload_n X dX12_best_98 rfl 2 rfl ?_
        refine g_bVi (As := [.int x1, .int x2]) (rest := []) X (c_X12_canBe l K M29 x1 x2) lk_X12_391 rfl rfl rfl (Nat.le_of_ble_eq_true rfl) ⟨Nat.le_of_ble_eq_true rfl, Nat.le_of_ble_eq_true rfl⟩ ⟨Nat.zero_le _, Nat.zero_le _⟩ dX12_best_99 (fun r30 => ?_)
        refine g_if_eq X 111 dX12_best_102 rfl (fun h31 => ?_) (fun h31 => ?_)
        · exact g_sub [0, 1] rfl (hb_111 x1 M29)
        · refine g_aload_n X dX12_best_105 rfl 0 rfl ?_
          refine g_iconst (v := 0) X dX12_best_106 (by decide) ?_
          refine g_iload_n X dX12_best_107 rfl 2 rfl ?_
          refine g_bVv (As := [.int 0, .int x2]) (rest := []) X (c_q_perm l K 10 M29 0 x2) lk_X12_383 rfl rfl rfl (Nat.le_of_ble_eq_true rfl) ⟨Nat.le_of_ble_eq_true rfl, Nat.le_of_ble_eq_true rfl⟩ ⟨Nat.zero_le _, Nat.zero_le _⟩ dX12_best_108 (fun r32 => ?_)
          exact g_sub [0, 1] rfl (hb_111 x1 r32)
      · refine g_iload_n X dX12_best_55 rfl 2 rfl ?_
        refine g_iload_n X dX12_best_56 rfl 3 rfl ?_
        refine g_ishr X dX12_best_57 ?_
        refine g_iconst (v := 1) X dX12_best_58 (by decide) ?_
        refine g_iand X dX12_best_59 ?_
        refine g_iconst (v := 1) X dX12_best_60 (by decide) ?_
        refine g_icmp_ne X 77 dX12_best_61 rfl (fun h33 => ?_) (fun h33 => ?_)
        · refine g_aload_n X dX12_best_64 rfl 0 rfl ?_
          refine g_iload_n X dX12_best_65 rfl 3 rfl ?_
          refine g_bVi (As := [.int x3]) (rest := []) X (c_X12_isHere l K M x3) lk_X12_323 rfl rfl rfl (Nat.le_of_ble_eq_true rfl) ⟨Nat.le_of_ble_eq_true rfl, Nat.le_of_ble_eq_true rfl⟩ ⟨Nat.zero_le _, Nat.zero_le _⟩ dX12_best_66 (fun r34 => ?_)
          refine g_if_ne X 77 dX12_best_69 rfl (fun h35 => ?_) (fun h35 => ?_)
          · refine g_aload_n X dX12_best_72 rfl 0 rfl ?_
            refine g_bVi (As := []) (rest := []) X (c_X12_refuse l K M) lk_X12_338 rfl rfl rfl (Nat.le_of_ble_eq_true rfl) ⟨Nat.le_of_ble_eq_true rfl, Nat.le_of_ble_eq_true rfl⟩ ⟨Nat.zero_le _, Nat.zero_le _⟩ dX12_best_73 (fun r36 => ?_)
            exact g_iret X rfl rfl rfl dX12_best_76
          · exact g_sub [0, 1, 2, 3] rfl (hb_77 (b_X12_best_47 nf) ih x1 x2 x3 M)
        · exact g_sub [0, 1, 2, 3] rfl (hb_77 (b_X12_best_47 nf) ih x1 x2 x3 M)
  refine g_sub (lv' := [(0, .ref 5001), (1, .int a1), (2, .int a2)]) [0, 1, 2] rfl ?_
  unfold f_X12_best
  refine g_aload_n X dX12_best_0 rfl 0 rfl ?_
  refine g_iconst (v := 0) X dX12_best_1 (by decide) ?_
  refine g_pfi X fa_X12_1 rfl (by decide +kernel) rfl dX12_best_2 (fun M37 => ?_)
  refine g_aload_n X dX12_best_5 rfl 0 rfl ?_
  refine g_iload_n X dX12_best_6 rfl 1 rfl ?_
  refine g_bVi (As := [.int a1]) (rest := []) X (c_X12_isWall l K M37 a1) lk_X12_90 rfl rfl rfl (Nat.le_of_ble_eq_true rfl) ⟨Nat.le_of_ble_eq_true rfl, Nat.le_of_ble_eq_true rfl⟩ ⟨Nat.zero_le _, Nat.zero_le _⟩ dX12_best_7 (fun r38 => ?_)
  refine g_if_eq X 40 dX12_best_10 rfl (fun h39 => ?_) (fun h39 => ?_)
  · exact g_sub [0] rfl (hb_40 M37)
  · refine g_iload_n X dX12_best_13 rfl 2 rfl ?_
    refine g_i2l X dX12_best_14 ?_
    refine g_lconst (v := 1) X dX12_best_15 (by decide) ?_
    refine g_iconst (v := 1) X dX12_best_16 (by decide) ?_
    refine g_aload_n X dX12_best_17 rfl 0 rfl ?_
    refine g_geti X fa_X12_108 rfl dX12_best_18 ?_
    refine g_ishl X dX12_best_21 ?_
    refine g_iconst (v := 1) X dX12_best_22 (by decide) ?_
    refine g_isub X dX12_best_23 ?_
    refine g_i2l X dX12_best_24 ?_
    refine g_bSi (As := [.long (Int32.toInt64 a2), .long 1, .long (Int32.toInt64 (((1 : Int32) <<< ((M37 5001 18) &&& 31)) - 1))]) (rest := []) X (c_X12_in l K M37 (Int32.toInt64 a2) 1 (Int32.toInt64 (((1 : Int32) <<< ((M37 5001 18) &&& 31)) - 1))) lk_X12_17 rfl rfl (Nat.le_of_ble_eq_true rfl) ⟨Nat.le_of_ble_eq_true rfl, Nat.le_of_ble_eq_true rfl⟩ ⟨Nat.zero_le _, Nat.zero_le _⟩ dX12_best_25 (fun r40 => ?_)
    refine g_if_eq X 40 dX12_best_28 rfl (fun h41 => ?_) (fun h41 => ?_)
    · exact g_sub [0] rfl (hb_40 M37)
    · refine g_iload_n X dX12_best_31 rfl 2 rfl ?_
      refine g_bSi (As := [.int a2]) (rest := []) X (c_J6_bitCount_0f7a4 l K qTM qLM qPM M37 a2) lk_X12_386 rfl rfl (Nat.le_of_ble_eq_true rfl) ⟨Nat.le_of_ble_eq_true rfl, Nat.le_of_ble_eq_true rfl⟩ ⟨Nat.zero_le _, Nat.zero_le _⟩ dX12_best_32 (fun r42 => ?_)
      refine g_bipush (v := 7) X dX12_best_35 (by decide) ?_
      refine g_icmp_le X 45 dX12_best_37 rfl (fun h43 => ?_) (fun h43 => ?_)
      · refine g_iconst (v := 0) X dX12_best_45 (by decide) ?_
        refine g_istore_n X [(3, .int 0), (0, .ref 5001), (1, .int a1), (2, .int a2)] dX12_best_46 rfl (by decide) rfl ?_
        exact g_sub [1, 2, 3, 0] rfl (hb_47 q_fu a1 a2 0 M37)
      · exact g_sub [0] rfl (hb_40 M37)
set_option maxHeartbeats 4000000 in
set_option maxRecDepth 100000 in
theorem c_X12_lay (l : Launch) (K : q_KK) (M0 : q_MM) : ∀ res, f_X12_lay M0 = some res → Mt l yX12_lay cX12_lay 2 (some FieldType.int) 3 67 0 0 false K [.ref 5001] (qTM, qLM, qPM, M0) (some (.int res.1)) ((qTM, qLM, qPM, res.2)) := by
  refine Mt.of (fun (res : Int32 × q_MM) => some (.int res.1)) (fun (res : Int32 × q_MM) => (qTM, qLM, qPM, res.2)) (by decide) (Nat.le_of_ble_eq_true rfl) ?_
  intro p e s m args below meth c0 A ad X hN
  have hb_73 : ∀ (k47 : Int32 → q_MM → Option (Int32 × q_MM)) (hk47 : ∀ (x1 : Int32) (M : q_MM), GG p l e { frames := 3, cells := 0, slots := 0, locals := 67 } s m args below meth c0 K A (qTM, qLM, qPM, M0) ad false 2 (fun res => MQ below (q_Qc K false ad (qTM, qLM, qPM, M0) ((fun (res : Int32 × q_MM) => some (.int res.1)) res) ((fun (res : Int32 × q_MM) => (qTM, qLM, qPM, res.2)) res) A) args s 0 0 A) (k47 x1 M) 47 [(0, .ref 5001), (1, .int x1)] [] (qTM, qLM, qPM, M) 0 0) (x1 : Int32) (M : q_MM), GG p l e { frames := 3, cells := 0, slots := 0, locals := 67 } s m args below meth c0 K A (qTM, qLM, qPM, M0) ad false 2 (fun res => MQ below (q_Qc K false ad (qTM, qLM, qPM, M0) ((fun (res : Int32 × q_MM) => some (.int res.1)) res) ((fun (res : Int32 × q_MM) => (qTM, qLM, qPM, res.2)) res) A) args s 0 0 A) (b_X12_lay_73 k47 x1 M) 73 [(0, .ref 5001), (1, .int x1)] [] (qTM, qLM, qPM, M) 0 0 := by
    intro k47 hk47 x1 M
    unfold b_X12_lay_73
    refine g_iinc (v := 1) X [(1, .int (x1 + 1)), (0, .ref 5001)] 1 dX12_lay_73 rfl (by decide) (by decide) rfl ?_
    refine g_goto X 47 dX12_lay_76 rfl ?_
    exact g_sub [1, 0] rfl (hk47 (x1 + 1) M)
  have hb_81 : ∀ (nf : Nat) (x1 : Int32) (M : q_MM), GG p l e { frames := 3, cells := 0, slots := 0, locals := 67 } s m args below meth c0 K A (qTM, qLM, qPM, M0) ad false 2 (fun res => MQ below (q_Qc K false ad (qTM, qLM, qPM, M0) ((fun (res : Int32 × q_MM) => some (.int res.1)) res) ((fun (res : Int32 × q_MM) => (qTM, qLM, qPM, res.2)) res) A) args s 0 0 A) (b_X12_lay_81 nf x1 M) 81 [(0, .ref 5001), (1, .int x1)] [] (qTM, qLM, qPM, M) 0 0 := by
    intro  nf
    induction nf with
    | zero => intros; exact g_stop
    | succ nf ih =>
      intro x1 M
      rw [b_X12_lay_81]
      refine g_iload_n X dX12_lay_81 rfl 1 rfl ?_
      refine g_aload_n X dX12_lay_82 rfl 0 rfl ?_
      refine g_geti X fa_X12_394 rfl dX12_lay_83 ?_
      refine g_icmp_ge X 115 dX12_lay_86 rfl (fun h1 => ?_) (fun h1 => ?_)
      · refine g_aload_n X dX12_lay_115 rfl 0 rfl ?_
        refine g_iconst (v := 0) X dX12_lay_116 (by decide) ?_
        refine g_pfz X fa_X12_400 rfl (by decide +kernel) rfl dX12_lay_117 (fun M2 => ?_)
        refine g_aload_n X dX12_lay_120 rfl 0 rfl ?_
        refine g_geti X fa_X12_394 rfl dX12_lay_121 ?_
        exact g_iret X rfl rfl rfl dX12_lay_124
      · refine g_aload_n X dX12_lay_89 rfl 0 rfl ?_
        refine g_aload_n X dX12_lay_90 rfl 0 rfl ?_
        refine g_getr X fa_X12_403 rfl rfl dX12_lay_91 ?_
        refine g_iload_n X dX12_lay_94 rfl 1 rfl ?_
        refine g_ild X rfl rfl dX12_lay_95 (fun v3 => ?_)
        refine g_aload_n X dX12_lay_96 rfl 0 rfl ?_
        refine g_geti X fa_X12_397 rfl dX12_lay_97 ?_
        refine g_aload_n X dX12_lay_100 rfl 0 rfl ?_
        refine g_getr X fa_X12_406 rfl rfl dX12_lay_101 ?_
        refine g_iload_n X dX12_lay_104 rfl 1 rfl ?_
        refine g_ild X rfl rfl dX12_lay_105 (fun v4 => ?_)
        refine g_bVv (As := [.int v3, .int (M 5001 56), .int v4]) (rest := []) X (c_X12_puts l K M v3 (M 5001 56) v4) lk_X12_330 rfl rfl rfl (Nat.le_of_ble_eq_true rfl) ⟨Nat.le_of_ble_eq_true rfl, Nat.le_of_ble_eq_true rfl⟩ ⟨Nat.zero_le _, Nat.zero_le _⟩ dX12_lay_106 (fun r5 => ?_)
        refine g_iinc (v := 1) X [(1, .int (x1 + 1)), (0, .ref 5001)] 1 dX12_lay_109 rfl (by decide) (by decide) rfl ?_
        refine g_goto X 81 dX12_lay_112 rfl ?_
        exact g_sub [1, 0] rfl (ih (x1 + 1) r5)
  have hb_47 : ∀ (nf : Nat) (x1 : Int32) (M : q_MM), GG p l e { frames := 3, cells := 0, slots := 0, locals := 67 } s m args below meth c0 K A (qTM, qLM, qPM, M0) ad false 2 (fun res => MQ below (q_Qc K false ad (qTM, qLM, qPM, M0) ((fun (res : Int32 × q_MM) => some (.int res.1)) res) ((fun (res : Int32 × q_MM) => (qTM, qLM, qPM, res.2)) res) A) args s 0 0 A) (b_X12_lay_47 nf x1 M) 47 [(0, .ref 5001), (1, .int x1)] [] (qTM, qLM, qPM, M) 0 0 := by
    intro  nf
    induction nf with
    | zero => intros; exact g_stop
    | succ nf ih =>
      intro x1 M
      rw [b_X12_lay_47]
      refine g_iload_n X dX12_lay_47 rfl 1 rfl ?_
      refine g_aload_n X dX12_lay_48 rfl 0 rfl ?_
      refine g_geti X fa_X12_108 rfl dX12_lay_49 ?_
      refine g_icmp_ge X 79 dX12_lay_52 rfl (fun h6 => ?_) (fun h6 => ?_)
      · refine g_iconst (v := 0) X dX12_lay_79 (by decide) ?_
        refine g_istore_n X [(1, .int 0), (0, .ref 5001)] dX12_lay_80 rfl (by decide) rfl ?_
        exact g_sub [1, 0] rfl (hb_81 q_fu 0 M)
      · refine g_aload_n X dX12_lay_55 rfl 0 rfl ?_
        refine g_iload_n X dX12_lay_56 rfl 1 rfl ?_
        refine g_aload_n X dX12_lay_57 rfl 0 rfl ?_
        refine g_geti X fa_X12_397 rfl dX12_lay_58 ?_
        refine g_bVi (As := [.int x1, .int (M 5001 56)]) (rest := []) X (c_X12_isOn l K M x1 (M 5001 56)) lk_X12_173 rfl rfl rfl (Nat.le_of_ble_eq_true rfl) ⟨Nat.le_of_ble_eq_true rfl, Nat.le_of_ble_eq_true rfl⟩ ⟨Nat.zero_le _, Nat.zero_le _⟩ dX12_lay_61 (fun r7 => ?_)
        refine g_if_eq X 73 dX12_lay_64 rfl (fun h8 => ?_) (fun h8 => ?_)
        · exact g_sub [0, 1] rfl (hb_73 (b_X12_lay_47 nf) ih x1 M)
        · refine g_aload_n X dX12_lay_67 rfl 0 rfl ?_
          refine g_iload_n X dX12_lay_68 rfl 1 rfl ?_
          refine g_iconst (v := 0) X dX12_lay_69 (by decide) ?_
          refine g_bVv (As := [.int x1, .int 0]) (rest := []) X (c_X12_takes l K M x1 0) lk_X12_334 rfl rfl rfl (Nat.le_of_ble_eq_true rfl) ⟨Nat.le_of_ble_eq_true rfl, Nat.le_of_ble_eq_true rfl⟩ ⟨Nat.zero_le _, Nat.zero_le _⟩ dX12_lay_70 (fun r9 => ?_)
          exact g_sub [0, 1] rfl (hb_73 (b_X12_lay_47 nf) ih x1 r9)
  have hb_7 : ∀ (nf : Nat) (x1 : Int32) (M : q_MM), GG p l e { frames := 3, cells := 0, slots := 0, locals := 67 } s m args below meth c0 K A (qTM, qLM, qPM, M0) ad false 2 (fun res => MQ below (q_Qc K false ad (qTM, qLM, qPM, M0) ((fun (res : Int32 × q_MM) => some (.int res.1)) res) ((fun (res : Int32 × q_MM) => (qTM, qLM, qPM, res.2)) res) A) args s 0 0 A) (b_X12_lay_7 nf x1 M) 7 [(0, .ref 5001), (1, .int x1)] [] (qTM, qLM, qPM, M) 0 0 := by
    intro  nf
    induction nf with
    | zero => intros; exact g_stop
    | succ nf ih =>
      intro x1 M
      rw [b_X12_lay_7]
      refine g_iload_n X dX12_lay_7 rfl 1 rfl ?_
      refine g_aload_n X dX12_lay_8 rfl 0 rfl ?_
      refine g_geti X fa_X12_394 rfl dX12_lay_9 ?_
      refine g_icmp_ge X 36 dX12_lay_12 rfl (fun h10 => ?_) (fun h10 => ?_)
      · refine g_aload_n X dX12_lay_36 rfl 0 rfl ?_
        refine g_geti X fa_X12_400 rfl dX12_lay_37 ?_
        refine g_if_ne X 45 dX12_lay_40 rfl (fun h11 => ?_) (fun h11 => ?_)
        · refine g_iconst (v := (-1)) X dX12_lay_43 (by decide) ?_
          exact g_iret X rfl rfl rfl dX12_lay_44
        · refine g_iconst (v := 0) X dX12_lay_45 (by decide) ?_
          refine g_istore_n X [(1, .int 0), (0, .ref 5001)] dX12_lay_46 rfl (by decide) rfl ?_
          exact g_sub [1, 0] rfl (hb_47 q_fu 0 M)
      · refine g_aload_n X dX12_lay_15 rfl 0 rfl ?_
        refine g_aload_n X dX12_lay_16 rfl 0 rfl ?_
        refine g_getr X fa_X12_403 rfl rfl dX12_lay_17 ?_
        refine g_iload_n X dX12_lay_20 rfl 1 rfl ?_
        refine g_ild X rfl rfl dX12_lay_21 (fun v12 => ?_)
        refine g_bVi (As := [.int v12]) (rest := []) X (c_X12_isHere l K M v12) lk_X12_323 rfl rfl rfl (Nat.le_of_ble_eq_true rfl) ⟨Nat.le_of_ble_eq_true rfl, Nat.le_of_ble_eq_true rfl⟩ ⟨Nat.zero_le _, Nat.zero_le _⟩ dX12_lay_22 (fun r13 => ?_)
        refine g_if_ne X 30 dX12_lay_25 rfl (fun h14 => ?_) (fun h14 => ?_)
        · refine g_iconst (v := (-1)) X dX12_lay_28 (by decide) ?_
          exact g_iret X rfl rfl rfl dX12_lay_29
        · refine g_iinc (v := 1) X [(1, .int (x1 + 1)), (0, .ref 5001)] 1 dX12_lay_30 rfl (by decide) (by decide) rfl ?_
          refine g_goto X 7 dX12_lay_33 rfl ?_
          exact g_sub [1, 0] rfl (ih (x1 + 1) M)
  refine g_sub (lv' := [(0, .ref 5001)]) [0] rfl ?_
  unfold f_X12_lay
  refine g_aload_n X dX12_lay_0 rfl 0 rfl ?_
  refine g_iconst (v := 0) X dX12_lay_1 (by decide) ?_
  refine g_pfi X fa_X12_1 rfl (by decide +kernel) rfl dX12_lay_2 (fun M15 => ?_)
  refine g_iconst (v := 0) X dX12_lay_5 (by decide) ?_
  refine g_istore_n X [(1, .int 0), (0, .ref 5001)] dX12_lay_6 rfl (by decide) rfl ?_
  exact g_sub [1, 0] rfl (hb_7 q_fu 0 M15)
set_option maxHeartbeats 4000000 in
set_option maxRecDepth 100000 in
theorem c_X12_isThere (l : Launch) (K : q_KK) (M : q_MM) (a1 : Nat) (a2 : Int32) (a3 : Int32) : ∀ res, f_X12_isThere M a1 a2 a3 = some res → Mt l yX12_isThere cX12_isThere 5 (some FieldType.boolean) 0 0 0 0 false K [.ref a1, .int a2, .int a3] (qTM, qLM, qPM, M) (some (.int res)) ((qTM, qLM, qPM, M)) := by
  refine Mt.of (fun (res : Int32) => some (.int res)) (fun (_ : Int32) => (qTM, qLM, qPM, M)) (by decide) (Nat.le_of_ble_eq_true rfl) ?_
  intro p e s m args below meth c0 A ad X hN
  have hb_28 : ∀ (k5 : Nat → Int32 → Int32 → Int32 → Int32 → Option (Int32)) (hk5 : ∀ (x0 : Nat) (x1 : Int32) (x2 : Int32) (x3 : Int32) (x4 : Int32), GG p l e { frames := 0, cells := 0, slots := 0, locals := 0 } s m args below meth c0 K A (qTM, qLM, qPM, M) ad false 5 (fun res => MQ below (q_Qc K false ad (qTM, qLM, qPM, M) ((fun (res : Int32) => some (.int res)) res) ((fun (_ : Int32) => (qTM, qLM, qPM, M)) res) A) args s 0 0 A) (k5 x0 x1 x2 x3 x4) 5 [(0, .ref x0), (1, .int x1), (2, .int x2), (3, .int x3), (4, .int x4)] [] (qTM, qLM, qPM, M) 0 0) (x0 : Nat) (x1 : Int32) (x2 : Int32) (x4 : Int32) (s0 : Int32), GG p l e { frames := 0, cells := 0, slots := 0, locals := 0 } s m args below meth c0 K A (qTM, qLM, qPM, M) ad false 5 (fun res => MQ below (q_Qc K false ad (qTM, qLM, qPM, M) ((fun (res : Int32) => some (.int res)) res) ((fun (_ : Int32) => (qTM, qLM, qPM, M)) res) A) args s 0 0 A) (b_X12_isThere_28 M k5 x0 x1 x2 x4 s0) 28 [(0, .ref x0), (1, .int x1), (2, .int x2), (4, .int x4)] [.int s0] (qTM, qLM, qPM, M) 0 0 := by
    intro k5 hk5 x0 x1 x2 x4 s0
    unfold b_X12_isThere_28
    refine g_istore_n X [(3, .int s0), (0, .ref x0), (1, .int x1), (2, .int x2), (4, .int x4)] dX12_isThere_28 rfl (by decide) rfl ?_
    refine g_iinc (v := 1) X [(4, .int (x4 + 1)), (3, .int s0), (0, .ref x0), (1, .int x1), (2, .int x2)] 4 dX12_isThere_29 rfl (by decide) (by decide) rfl ?_
    refine g_goto X 5 dX12_isThere_32 rfl ?_
    exact g_sub [2, 3, 4, 1, 0] rfl (hk5 x0 x1 x2 s0 (x4 + 1))
  have hb_23 : ∀ (k5 : Nat → Int32 → Int32 → Int32 → Int32 → Option (Int32)) (hk5 : ∀ (x0 : Nat) (x1 : Int32) (x2 : Int32) (x3 : Int32) (x4 : Int32), GG p l e { frames := 0, cells := 0, slots := 0, locals := 0 } s m args below meth c0 K A (qTM, qLM, qPM, M) ad false 5 (fun res => MQ below (q_Qc K false ad (qTM, qLM, qPM, M) ((fun (res : Int32) => some (.int res)) res) ((fun (_ : Int32) => (qTM, qLM, qPM, M)) res) A) args s 0 0 A) (k5 x0 x1 x2 x3 x4) 5 [(0, .ref x0), (1, .int x1), (2, .int x2), (3, .int x3), (4, .int x4)] [] (qTM, qLM, qPM, M) 0 0) (x0 : Nat) (x1 : Int32) (x2 : Int32) (x4 : Int32), GG p l e { frames := 0, cells := 0, slots := 0, locals := 0 } s m args below meth c0 K A (qTM, qLM, qPM, M) ad false 5 (fun res => MQ below (q_Qc K false ad (qTM, qLM, qPM, M) ((fun (res : Int32) => some (.int res)) res) ((fun (_ : Int32) => (qTM, qLM, qPM, M)) res) A) args s 0 0 A) (b_X12_isThere_23 M k5 x0 x1 x2 x4) 23 [(0, .ref x0), (1, .int x1), (2, .int x2), (4, .int x4)] [] (qTM, qLM, qPM, M) 0 0 := by
    intro k5 hk5 x0 x1 x2 x4
    unfold b_X12_isThere_23
    refine g_iconst (v := 1) X dX12_isThere_23 (by decide) ?_
    refine g_goto X 28 dX12_isThere_24 rfl ?_
    exact g_sub [0, 1, 2, 3] rfl (hb_28 k5 hk5 x0 x1 x2 x4 1)
  have hb_5 : ∀ (nf : Nat) (x0 : Nat) (x1 : Int32) (x2 : Int32) (x3 : Int32) (x4 : Int32), GG p l e { frames := 0, cells := 0, slots := 0, locals := 0 } s m args below meth c0 K A (qTM, qLM, qPM, M) ad false 5 (fun res => MQ below (q_Qc K false ad (qTM, qLM, qPM, M) ((fun (res : Int32) => some (.int res)) res) ((fun (_ : Int32) => (qTM, qLM, qPM, M)) res) A) args s 0 0 A) (b_X12_isThere_5 M nf x0 x1 x2 x3 x4) 5 [(0, .ref x0), (1, .int x1), (2, .int x2), (3, .int x3), (4, .int x4)] [] (qTM, qLM, qPM, M) 0 0 := by
    intro  nf
    induction nf with
    | zero => intros; exact g_stop
    | succ nf ih =>
      intro x0 x1 x2 x3 x4
      rw [b_X12_isThere_5]
      refine g_iload X dX12_isThere_5 4 rfl ?_
      refine g_iload_n X dX12_isThere_7 rfl 1 rfl ?_
      refine g_icmp_ge X 35 dX12_isThere_8 rfl (fun h1 => ?_) (fun h1 => ?_)
      · refine g_iload_n X dX12_isThere_35 rfl 3 rfl ?_
        exact g_zret X rfl rfl rfl dX12_isThere_36
      · refine g_iload_n X dX12_isThere_11 rfl 3 rfl ?_
        refine g_if_ne X 23 dX12_isThere_12 rfl (fun h2 => ?_) (fun h2 => ?_)
        · refine g_aload_n X dX12_isThere_15 rfl 0 rfl ?_
          refine g_iload X dX12_isThere_16 4 rfl ?_
          refine g_ck (fun hT3 => ?_)
          refine g_ild X hT3 rfl dX12_isThere_18 (fun v4 => ?_)
          refine g_iload_n X dX12_isThere_19 rfl 2 rfl ?_
          refine g_icmp_ne X 27 dX12_isThere_20 rfl (fun h5 => ?_) (fun h5 => ?_)
          · exact g_sub [0, 1, 2, 4] rfl (hb_23 (b_X12_isThere_5 M nf) ih x0 x1 x2 x4)
          · refine g_iconst (v := 0) X dX12_isThere_27 (by decide) ?_
            exact g_sub [0, 1, 2, 4] rfl (hb_28 (b_X12_isThere_5 M nf) ih x0 x1 x2 x4 0)
        · exact g_sub [0, 1, 2, 4] rfl (hb_23 (b_X12_isThere_5 M nf) ih x0 x1 x2 x4)
  refine g_sub (lv' := [(0, .ref a1), (1, .int a2), (2, .int a3)]) [0, 1, 2] rfl ?_
  unfold f_X12_isThere
  refine g_iconst (v := 0) X dX12_isThere_0 (by decide) ?_
  refine g_istore_n X [(3, .int 0), (0, .ref a1), (1, .int a2), (2, .int a3)] dX12_isThere_1 rfl (by decide) rfl ?_
  refine g_iconst (v := 0) X dX12_isThere_2 (by decide) ?_
  refine g_istore X [(4, .int 0), (3, .int 0), (0, .ref a1), (1, .int a2), (2, .int a3)] dX12_isThere_3 (by decide) rfl ?_
  exact g_sub [2, 3, 4, 1, 0] rfl (hb_5 q_fu a1 a2 a3 0 0)
set_option maxHeartbeats 4000000 in
set_option maxRecDepth 100000 in
theorem c_X12_tale (l : Launch) (K : q_KK) (M0 : q_MM) (a1 : Int32) : ∀ res, f_X12_tale M0 a1 = some res → Mt l yX12_tale cX12_tale 2 (some FieldType.int) 2 46 0 0 false K [.ref 5001, .int a1] (qTM, qLM, qPM, M0) (some (.int res.1)) ((qTM, qLM, qPM, res.2)) := by
  refine Mt.of (fun (res : Int32 × q_MM) => some (.int res.1)) (fun (res : Int32 × q_MM) => (qTM, qLM, qPM, res.2)) (by decide) (Nat.le_of_ble_eq_true rfl) ?_
  intro p e s m args below meth c0 A ad X hN
  refine g_sub (lv' := [(0, .ref 5001), (1, .int a1)]) [0, 1] rfl ?_
  unfold f_X12_tale
  refine g_aload_n X dX12_tale_0 rfl 0 rfl ?_
  refine g_iconst (v := 0) X dX12_tale_1 (by decide) ?_
  refine g_pfi X fa_X12_1 rfl (by decide +kernel) rfl dX12_tale_2 (fun M1 => ?_)
  refine g_aload_n X dX12_tale_5 rfl 0 rfl ?_
  refine g_iload_n X dX12_tale_6 rfl 1 rfl ?_
  refine g_bVi (As := [.int a1]) (rest := []) X (c_X12_isPicture l K M1 a1) lk_X12_161 rfl rfl rfl (Nat.le_of_ble_eq_true rfl) ⟨Nat.le_of_ble_eq_true rfl, Nat.le_of_ble_eq_true rfl⟩ ⟨Nat.zero_le _, Nat.zero_le _⟩ dX12_tale_7 (fun r2 => ?_)
  refine g_if_eq X 37 dX12_tale_10 rfl (fun h3 => ?_) (fun h3 => ?_)
  · refine g_iconst (v := (-1)) X dX12_tale_37 (by decide) ?_
    exact g_iret X rfl rfl rfl dX12_tale_38
  · refine g_aload_n X dX12_tale_13 rfl 0 rfl ?_
    refine g_getr X fa_X12_409 rfl rfl dX12_tale_14 ?_
    refine g_aload_n X dX12_tale_17 rfl 0 rfl ?_
    refine g_geti X fa_X12_412 rfl dX12_tale_18 ?_
    refine g_iload_n X dX12_tale_21 rfl 1 rfl ?_
    refine g_bSi (As := [.ref 5071, .int (M1 5001 60), .int a1]) (rest := []) X (c_X12_isThere l K M1 5071 (M1 5001 60) a1) lk_X12_415 rfl rfl (Nat.le_of_ble_eq_true rfl) ⟨Nat.le_of_ble_eq_true rfl, Nat.le_of_ble_eq_true rfl⟩ ⟨Nat.zero_le _, Nat.zero_le _⟩ dX12_tale_22 (fun r4 => ?_)
    refine g_if_ne X 37 dX12_tale_25 rfl (fun h5 => ?_) (fun h5 => ?_)
    · refine g_aload_n X dX12_tale_28 rfl 0 rfl ?_
      refine g_geti X fa_X12_412 rfl dX12_tale_29 ?_
      refine g_bipush (v := 12) X dX12_tale_32 (by decide) ?_
      refine g_icmp_ne X 39 dX12_tale_34 rfl (fun h6 => ?_) (fun h6 => ?_)
      · refine g_iconst (v := (-1)) X dX12_tale_37 (by decide) ?_
        exact g_iret X rfl rfl rfl dX12_tale_38
      · refine g_aload_n X dX12_tale_39 rfl 0 rfl ?_
        refine g_getr X fa_X12_409 rfl rfl dX12_tale_40 ?_
        refine g_aload_n X dX12_tale_43 rfl 0 rfl ?_
        refine g_geti X fa_X12_412 rfl dX12_tale_44 ?_
        refine g_iload_n X dX12_tale_47 rfl 1 rfl ?_
        refine g_isv X rfl rfl dX12_tale_48 (fun M7 => ?_)
        refine g_aload_n X dX12_tale_49 rfl 0 rfl ?_
        refine g_dup X dX12_tale_50 rfl ?_
        refine g_geti X fa_X12_412 rfl dX12_tale_51 ?_
        refine g_iconst (v := 1) X dX12_tale_54 (by decide) ?_
        refine g_iadd X dX12_tale_55 ?_
        refine g_pfi X fa_X12_412 rfl (by decide +kernel) rfl dX12_tale_56 (fun M8 => ?_)
        refine g_aload_n X dX12_tale_59 rfl 0 rfl ?_
        refine g_geti X fa_X12_412 rfl dX12_tale_60 ?_
        exact g_iret X rfl rfl rfl dX12_tale_63
    · refine g_iconst (v := (-1)) X dX12_tale_37 (by decide) ?_
      exact g_iret X rfl rfl rfl dX12_tale_38
