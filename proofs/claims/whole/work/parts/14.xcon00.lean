set_option maxHeartbeats 4000000 in
set_option maxRecDepth 100000 in
theorem c_X0_lets (l : Launch) (K : q_KK) (c : Nat → Nat) (M : q_MM) (o0 : Nat) (a1 : Nat) : ∀ res, f_X0_lets c M o0 a1 = some res → Mt l yX0_lets cX0_lets 2 (some FieldType.boolean) 0 0 0 0 false K [.ref o0, .ref a1] ((qTX c), (qLX c), (qPX c), M) (some (.int res)) (((qTX c), (qLX c), (qPX c), M)) := by
  refine Mt.of (fun (res : Int32) => some (.int res)) (fun (_ : Int32) => ((qTX c), (qLX c), (qPX c), M)) (by decide) (Nat.le_of_ble_eq_true rfl) ?_
  intro p e s m args below meth c0 A ad X hN
  have hb_44 : GG p l e { frames := 0, cells := 0, slots := 0, locals := 0 } s m args below meth c0 K A ((qTX c), (qLX c), (qPX c), M) ad false 2 (fun res => MQ below (q_Qc K false ad ((qTX c), (qLX c), (qPX c), M) ((fun (res : Int32) => some (.int res)) res) ((fun (_ : Int32) => ((qTX c), (qLX c), (qPX c), M)) res) A) args s 0 0 A) (b_X0_lets_44 c M ) 44 [] [] ((qTX c), (qLX c), (qPX c), M) 0 0 := by
    unfold b_X0_lets_44
    refine g_iconst (v := 1) X dX0_lets_44 (by decide) ?_
    refine g_goto X 49 dX0_lets_45 rfl ?_
    exact g_zret X rfl rfl rfl dX0_lets_49
  have hb_22 : ∀ (x0 : Nat) (x1 : Nat), GG p l e { frames := 0, cells := 0, slots := 0, locals := 0 } s m args below meth c0 K A ((qTX c), (qLX c), (qPX c), M) ad false 2 (fun res => MQ below (q_Qc K false ad ((qTX c), (qLX c), (qPX c), M) ((fun (res : Int32) => some (.int res)) res) ((fun (_ : Int32) => ((qTX c), (qLX c), (qPX c), M)) res) A) args s 0 0 A) (b_X0_lets_22 c M x0 x1) 22 [(0, .ref x0), (1, .ref x1)] [] ((qTX c), (qLX c), (qPX c), M) 0 0 := by
    intro x0 x1
    unfold b_X0_lets_22
    refine g_aload_n X dX0_lets_22 rfl 1 rfl ?_
    refine g_ck (fun hT1 => ?_)
    refine g_geti X fa_X0_22 hT1 dX0_lets_23 ?_
    refine g_aload_n X dX0_lets_26 rfl 0 rfl ?_
    refine g_ck (fun hT2 => ?_)
    refine g_geti X fa_X0_19 hT2 dX0_lets_27 ?_
    refine g_icmp_gt X 48 dX0_lets_30 rfl (fun h3 => ?_) (fun h3 => ?_)
    · refine g_iconst (v := 0) X dX0_lets_48 (by decide) ?_
      exact g_zret X rfl rfl rfl dX0_lets_49
    · refine g_aload_n X dX0_lets_33 rfl 1 rfl ?_
      refine g_geti X fa_X0_25 hT1 dX0_lets_34 ?_
      refine g_aload_n X dX0_lets_37 rfl 0 rfl ?_
      refine g_geti X fa_X0_16 hT2 dX0_lets_38 ?_
      refine g_icmp_gt X 48 dX0_lets_41 rfl (fun h4 => ?_) (fun h4 => ?_)
      · refine g_iconst (v := 0) X dX0_lets_48 (by decide) ?_
        exact g_zret X rfl rfl rfl dX0_lets_49
      · exact g_sub [] rfl (hb_44)
  refine g_sub (lv' := [(0, .ref o0), (1, .ref a1)]) [0, 1] rfl ?_
  unfold f_X0_lets
  refine g_aload_n X dX0_lets_0 rfl 1 rfl ?_
  refine g_ck (fun hT5 => ?_)
  refine g_geti X fa_X0_22 hT5 dX0_lets_1 ?_
  refine g_aload_n X dX0_lets_4 rfl 0 rfl ?_
  refine g_ck (fun hT6 => ?_)
  refine g_geti X fa_X0_16 hT6 dX0_lets_5 ?_
  refine g_icmp_gt X 22 dX0_lets_8 rfl (fun h7 => ?_) (fun h7 => ?_)
  · exact g_sub [0, 1] rfl (hb_22 o0 a1)
  · refine g_aload_n X dX0_lets_11 rfl 1 rfl ?_
    refine g_geti X fa_X0_25 hT5 dX0_lets_12 ?_
    refine g_aload_n X dX0_lets_15 rfl 0 rfl ?_
    refine g_geti X fa_X0_19 hT6 dX0_lets_16 ?_
    refine g_icmp_le X 44 dX0_lets_19 rfl (fun h8 => ?_) (fun h8 => ?_)
    · exact g_sub [] rfl (hb_44)
    · exact g_sub [0, 1] rfl (hb_22 o0 a1)
set_option maxHeartbeats 4000000 in
set_option maxRecDepth 100000 in
theorem c_X1_put (l : Launch) (K : q_KK) (c : Nat → Nat) (M0 : q_MM) (o0 : Nat) (a1 : Int32) (a2 : Int32) (a3 : Int32) : ∀ res, f_X1_put c M0 o0 a1 a2 a3 = some res → Mt l yX1_put cX1_put 4 (none : Option FieldType) 0 0 0 0 false K [.ref o0, .int a1, .int a2, .int a3] ((qTX c), (qLX c), (qPX c), M0) (none) (((qTX c), (qLX c), (qPX c), res)) := by
  refine Mt.of (fun (_ : q_MM) => none) (fun (res : q_MM) => ((qTX c), (qLX c), (qPX c), res)) (by decide) (Nat.le_of_ble_eq_true rfl) ?_
  intro p e s m args below meth c0 A ad X hN
  refine g_sub (lv' := [(0, .ref o0), (1, .int a1), (2, .int a2), (3, .int a3)]) [0, 1, 2, 3] rfl ?_
  unfold f_X1_put
  refine g_iload_n X dX1_put_0 rfl 1 rfl ?_
  refine g_if_lt X 24 dX1_put_1 rfl (fun h1 => ?_) (fun h1 => ?_)
  · exact g_vret X rfl rfl rfl dX1_put_24
  · refine g_iload_n X dX1_put_4 rfl 1 rfl ?_
    refine g_bipush (v := 24) X dX1_put_5 (by decide) ?_
    refine g_icmp_ge X 24 dX1_put_7 rfl (fun h2 => ?_) (fun h2 => ?_)
    · exact g_vret X rfl rfl rfl dX1_put_24
    · refine g_aload_n X dX1_put_10 rfl 0 rfl ?_
      refine g_ck (fun hT3 => ?_)
      refine g_getr X fa_X1_9 hT3 rfl dX1_put_11 ?_
      refine g_iload_n X dX1_put_14 rfl 1 rfl ?_
      refine g_iload_n X dX1_put_15 rfl 2 rfl ?_
      refine g_ck (fun hT4 => ?_)
      refine g_isv X hT4 rfl dX1_put_16 (fun M5 => ?_)
      refine g_aload_n X dX1_put_17 rfl 0 rfl ?_
      refine g_getr X fa_X1_15 hT3 rfl dX1_put_18 ?_
      refine g_iload_n X dX1_put_21 rfl 1 rfl ?_
      refine g_iload_n X dX1_put_22 rfl 3 rfl ?_
      refine g_ck (fun hT6 => ?_)
      refine g_isv X hT6 rfl dX1_put_23 (fun M7 => ?_)
      exact g_vret X rfl rfl rfl dX1_put_24
set_option maxHeartbeats 4000000 in
set_option maxRecDepth 100000 in
theorem c_X1_take (l : Launch) (K : q_KK) (c : Nat → Nat) (M0 : q_MM) (o0 : Nat) (a1 : Int32) : ∀ res, f_X1_take c M0 o0 a1 = some res → Mt l yX1_take cX1_take 2 (none : Option FieldType) 1 23 0 0 false K [.ref o0, .int a1] ((qTX c), (qLX c), (qPX c), M0) (none) (((qTX c), (qLX c), (qPX c), res)) := by
  refine Mt.of (fun (_ : q_MM) => none) (fun (res : q_MM) => ((qTX c), (qLX c), (qPX c), res)) (by decide) (Nat.le_of_ble_eq_true rfl) ?_
  intro p e s m args below meth c0 A ad X hN
  refine g_sub (lv' := [(0, .ref o0), (1, .int a1)]) [0, 1] rfl ?_
  unfold f_X1_take
  refine g_aload_n X dX1_take_0 rfl 0 rfl ?_
  refine g_iload_n X dX1_take_1 rfl 1 rfl ?_
  refine g_iconst (v := (-1)) X dX1_take_2 (by decide) ?_
  refine g_iconst (v := (-1)) X dX1_take_3 (by decide) ?_
  refine g_ck (fun hT1 => ?_)
  refine g_bVv (As := [.int a1, .int (-1), .int (-1)]) (rest := []) X (c_X1_put l K c M0 o0 a1 (-1) (-1)) lk_X1_24 hT1 rfl rfl (Nat.le_of_ble_eq_true rfl) ⟨Nat.le_of_ble_eq_true rfl, Nat.le_of_ble_eq_true rfl⟩ ⟨Nat.zero_le _, Nat.zero_le _⟩ dX1_take_4 (fun r2 => ?_)
  exact g_vret X rfl rfl rfl dX1_take_7
set_option maxHeartbeats 4000000 in
set_option maxRecDepth 100000 in
theorem c_X1_become (l : Launch) (K : q_KK) (c : Nat → Nat) (M0 : q_MM) (o0 : Nat) (a1 : Nat) : ∀ res, f_X1_become c M0 o0 a1 = some res → Mt l yX1_become cX1_become 2 (none : Option FieldType) 1 60 0 0 false K [.ref o0, .ref a1] ((qTX c), (qLX c), (qPX c), M0) (none) (((qTX c), (qLX c), (qPX c), res)) := by
  refine Mt.of (fun (_ : q_MM) => none) (fun (res : q_MM) => ((qTX c), (qLX c), (qPX c), res)) (by decide) (Nat.le_of_ble_eq_true rfl) ?_
  intro p e s m args below meth c0 A ad X hN
  refine g_sub (lv' := [(0, .ref o0), (1, .ref a1)]) [0, 1] rfl ?_
  unfold f_X1_become
  refine g_aload_n X dX1_become_0 rfl 1 rfl ?_
  refine g_ck (fun hT1 => ?_)
  refine g_getr X fa_X1_9 hT1 rfl dX1_become_1 ?_
  refine g_iconst (v := 0) X dX1_become_4 (by decide) ?_
  refine g_aload_n X dX1_become_5 rfl 0 rfl ?_
  refine g_ck (fun hT2 => ?_)
  refine g_getr X fa_X1_9 hT2 rfl dX1_become_6 ?_
  refine g_iconst (v := 0) X dX1_become_9 (by decide) ?_
  refine g_bipush (v := 24) X dX1_become_10 (by decide) ?_
  refine g_ck (fun hT3 => ?_)
  refine g_ck (fun hT4 => ?_)
  refine g_qif (fun hc5 => ?_)
  refine g_copy X lk_X1_28 hT3 rfl hT4 rfl (by decide +kernel) (Nat.le_of_ble_eq_true rfl) (by decide) (by decide) (by decide) hc5.1 hc5.2 dX1_become_12 (fun M6 => ?_)
  refine g_aload_n X dX1_become_15 rfl 1 rfl ?_
  refine g_getr X fa_X1_15 hT1 rfl dX1_become_16 ?_
  refine g_iconst (v := 0) X dX1_become_19 (by decide) ?_
  refine g_aload_n X dX1_become_20 rfl 0 rfl ?_
  refine g_getr X fa_X1_15 hT2 rfl dX1_become_21 ?_
  refine g_iconst (v := 0) X dX1_become_24 (by decide) ?_
  refine g_bipush (v := 24) X dX1_become_25 (by decide) ?_
  refine g_ck (fun hT7 => ?_)
  refine g_ck (fun hT8 => ?_)
  refine g_qif (fun hc9 => ?_)
  refine g_copy X lk_X1_28 hT7 rfl hT8 rfl (by decide +kernel) (Nat.le_of_ble_eq_true rfl) (by decide) (by decide) (by decide) hc9.1 hc9.2 dX1_become_27 (fun M10 => ?_)
  exact g_vret X rfl rfl rfl dX1_become_30
set_option maxHeartbeats 4000000 in
set_option maxRecDepth 100000 in
theorem c_X1_wallUnder (l : Launch) (K : q_KK) (c : Nat → Nat) (M : q_MM) (o0 : Nat) (a1 : Int32) : ∀ res, f_X1_wallUnder c M o0 a1 = some res → Mt l yX1_wallUnder cX1_wallUnder 2 (some FieldType.int) 0 0 0 0 false K [.ref o0, .int a1] ((qTX c), (qLX c), (qPX c), M) (some (.int res)) (((qTX c), (qLX c), (qPX c), M)) := by
  refine Mt.of (fun (res : Int32) => some (.int res)) (fun (_ : Int32) => ((qTX c), (qLX c), (qPX c), M)) (by decide) (Nat.le_of_ble_eq_true rfl) ?_
  intro p e s m args below meth c0 A ad X hN
  refine g_sub (lv' := [(0, .ref o0), (1, .int a1)]) [0, 1] rfl ?_
  unfold f_X1_wallUnder
  refine g_iload_n X dX1_wallUnder_0 rfl 1 rfl ?_
  refine g_if_lt X 19 dX1_wallUnder_1 rfl (fun h1 => ?_) (fun h1 => ?_)
  · refine g_iconst (v := (-1)) X dX1_wallUnder_19 (by decide) ?_
    exact g_iret X rfl rfl rfl dX1_wallUnder_20
  · refine g_iload_n X dX1_wallUnder_4 rfl 1 rfl ?_
    refine g_bipush (v := 24) X dX1_wallUnder_5 (by decide) ?_
    refine g_icmp_ge X 19 dX1_wallUnder_7 rfl (fun h2 => ?_) (fun h2 => ?_)
    · refine g_iconst (v := (-1)) X dX1_wallUnder_19 (by decide) ?_
      exact g_iret X rfl rfl rfl dX1_wallUnder_20
    · refine g_aload_n X dX1_wallUnder_10 rfl 0 rfl ?_
      refine g_ck (fun hT3 => ?_)
      refine g_getr X fa_X1_9 hT3 rfl dX1_wallUnder_11 ?_
      refine g_iload_n X dX1_wallUnder_14 rfl 1 rfl ?_
      refine g_ck (fun hT4 => ?_)
      refine g_ild X hT4 rfl dX1_wallUnder_15 (fun v5 => ?_)
      refine g_goto X 20 dX1_wallUnder_16 rfl ?_
      exact g_iret X rfl rfl rfl dX1_wallUnder_20
set_option maxHeartbeats 4000000 in
set_option maxRecDepth 100000 in
theorem c_X1_has (l : Launch) (K : q_KK) (c : Nat → Nat) (M : q_MM) (o0 : Nat) (a1 : Int32) : ∀ res, f_X1_has c M o0 a1 = some res → Mt l yX1_has cX1_has 2 (some FieldType.boolean) 1 21 0 0 false K [.ref o0, .int a1] ((qTX c), (qLX c), (qPX c), M) (some (.int res)) (((qTX c), (qLX c), (qPX c), M)) := by
  refine Mt.of (fun (res : Int32) => some (.int res)) (fun (_ : Int32) => ((qTX c), (qLX c), (qPX c), M)) (by decide) (Nat.le_of_ble_eq_true rfl) ?_
  intro p e s m args below meth c0 A ad X hN
  refine g_sub (lv' := [(0, .ref o0), (1, .int a1)]) [0, 1] rfl ?_
  unfold f_X1_has
  refine g_aload_n X dX1_has_0 rfl 0 rfl ?_
  refine g_iload_n X dX1_has_1 rfl 1 rfl ?_
  refine g_ck (fun hT1 => ?_)
  refine g_bVi (As := [.int a1]) (rest := []) X (c_X1_wallUnder l K c M o0 a1) lk_X1_34 hT1 rfl rfl (Nat.le_of_ble_eq_true rfl) ⟨Nat.le_of_ble_eq_true rfl, Nat.le_of_ble_eq_true rfl⟩ ⟨Nat.zero_le _, Nat.zero_le _⟩ dX1_has_2 (fun r2 => ?_)
  refine g_iconst (v := (-1)) X dX1_has_5 (by decide) ?_
  refine g_icmp_eq X 13 dX1_has_6 rfl (fun h3 => ?_) (fun h3 => ?_)
  · refine g_iconst (v := 0) X dX1_has_13 (by decide) ?_
    exact g_zret X rfl rfl rfl dX1_has_14
  · refine g_iconst (v := 1) X dX1_has_9 (by decide) ?_
    refine g_goto X 14 dX1_has_10 rfl ?_
    exact g_zret X rfl rfl rfl dX1_has_14
set_option maxHeartbeats 4000000 in
set_option maxRecDepth 100000 in
theorem c_X1_leftSide (l : Launch) (K : q_KK) (c : Nat → Nat) (M : q_MM) (o0 : Nat) (a1 : Int32) : ∀ res, f_X1_leftSide c M o0 a1 = some res → Mt l yX1_leftSide cX1_leftSide 2 (some FieldType.int) 0 0 0 0 false K [.ref o0, .int a1] ((qTX c), (qLX c), (qPX c), M) (some (.int res)) (((qTX c), (qLX c), (qPX c), M)) := by
  refine Mt.of (fun (res : Int32) => some (.int res)) (fun (_ : Int32) => ((qTX c), (qLX c), (qPX c), M)) (by decide) (Nat.le_of_ble_eq_true rfl) ?_
  intro p e s m args below meth c0 A ad X hN
  refine g_sub (lv' := [(0, .ref o0), (1, .int a1)]) [0, 1] rfl ?_
  unfold f_X1_leftSide
  refine g_iload_n X dX1_leftSide_0 rfl 1 rfl ?_
  refine g_if_lt X 19 dX1_leftSide_1 rfl (fun h1 => ?_) (fun h1 => ?_)
  · refine g_iconst (v := (-1)) X dX1_leftSide_19 (by decide) ?_
    exact g_iret X rfl rfl rfl dX1_leftSide_20
  · refine g_iload_n X dX1_leftSide_4 rfl 1 rfl ?_
    refine g_bipush (v := 24) X dX1_leftSide_5 (by decide) ?_
    refine g_icmp_ge X 19 dX1_leftSide_7 rfl (fun h2 => ?_) (fun h2 => ?_)
    · refine g_iconst (v := (-1)) X dX1_leftSide_19 (by decide) ?_
      exact g_iret X rfl rfl rfl dX1_leftSide_20
    · refine g_aload_n X dX1_leftSide_10 rfl 0 rfl ?_
      refine g_ck (fun hT3 => ?_)
      refine g_getr X fa_X1_15 hT3 rfl dX1_leftSide_11 ?_
      refine g_iload_n X dX1_leftSide_14 rfl 1 rfl ?_
      refine g_ck (fun hT4 => ?_)
      refine g_ild X hT4 rfl dX1_leftSide_15 (fun v5 => ?_)
      refine g_goto X 20 dX1_leftSide_16 rfl ?_
      exact g_iret X rfl rfl rfl dX1_leftSide_20
set_option maxHeartbeats 4000000 in
set_option maxRecDepth 100000 in
theorem c_X1_howMany (l : Launch) (K : q_KK) (c : Nat → Nat) (M : q_MM) (o0 : Nat) : ∀ res, f_X1_howMany c M o0 = some res → Mt l yX1_howMany cX1_howMany 3 (some FieldType.int) 0 0 0 0 false K [.ref o0] ((qTX c), (qLX c), (qPX c), M) (some (.int res)) (((qTX c), (qLX c), (qPX c), M)) := by
  refine Mt.of (fun (res : Int32) => some (.int res)) (fun (_ : Int32) => ((qTX c), (qLX c), (qPX c), M)) (by decide) (Nat.le_of_ble_eq_true rfl) ?_
  intro p e s m args below meth c0 A ad X hN
  have hb_26 : ∀ (k4 : Nat → Int32 → Int32 → Option (Int32)) (hk4 : ∀ (x0 : Nat) (x1 : Int32) (x2 : Int32), GG p l e { frames := 0, cells := 0, slots := 0, locals := 0 } s m args below meth c0 K A ((qTX c), (qLX c), (qPX c), M) ad false 3 (fun res => MQ below (q_Qc K false ad ((qTX c), (qLX c), (qPX c), M) ((fun (res : Int32) => some (.int res)) res) ((fun (_ : Int32) => ((qTX c), (qLX c), (qPX c), M)) res) A) args s 0 0 A) (k4 x0 x1 x2) 4 [(0, .ref x0), (1, .int x1), (2, .int x2)] [] ((qTX c), (qLX c), (qPX c), M) 0 0) (x0 : Nat) (x2 : Int32) (s0 : Int32) (s1 : Int32), GG p l e { frames := 0, cells := 0, slots := 0, locals := 0 } s m args below meth c0 K A ((qTX c), (qLX c), (qPX c), M) ad false 3 (fun res => MQ below (q_Qc K false ad ((qTX c), (qLX c), (qPX c), M) ((fun (res : Int32) => some (.int res)) res) ((fun (_ : Int32) => ((qTX c), (qLX c), (qPX c), M)) res) A) args s 0 0 A) (b_X1_howMany_26 c M k4 x0 x2 s0 s1) 26 [(0, .ref x0), (2, .int x2)] [.int s0, .int s1] ((qTX c), (qLX c), (qPX c), M) 0 0 := by
    intro k4 hk4 x0 x2 s0 s1
    unfold b_X1_howMany_26
    refine g_iadd X dX1_howMany_26 ?_
    refine g_isn X (fun v1 => [(1, .int v1), (0, .ref x0), (2, .int x2)]) dX1_howMany_27 rfl (by decide) (fun _ => rfl) (fun v1 => ?_)
    refine g_iinc (v := 1) X [(2, .int (x2 + 1)), (1, .int v1), (0, .ref x0)] 2 dX1_howMany_28 rfl (by decide) (by decide) rfl ?_
    refine g_goto X 4 dX1_howMany_31 rfl ?_
    exact g_sub [2, 1, 0] rfl (hk4 x0 v1 (x2 + 1))
  have hb_4 : ∀ (nf : Nat) (x0 : Nat) (x1 : Int32) (x2 : Int32), GG p l e { frames := 0, cells := 0, slots := 0, locals := 0 } s m args below meth c0 K A ((qTX c), (qLX c), (qPX c), M) ad false 3 (fun res => MQ below (q_Qc K false ad ((qTX c), (qLX c), (qPX c), M) ((fun (res : Int32) => some (.int res)) res) ((fun (_ : Int32) => ((qTX c), (qLX c), (qPX c), M)) res) A) args s 0 0 A) (b_X1_howMany_4 c M nf x0 x1 x2) 4 [(0, .ref x0), (1, .int x1), (2, .int x2)] [] ((qTX c), (qLX c), (qPX c), M) 0 0 := by
    intro  nf
    induction nf with
    | zero => intros; exact g_stop
    | succ nf ih =>
      intro x0 x1 x2
      rw [b_X1_howMany_4]
      refine g_iload_n X dX1_howMany_4 rfl 2 rfl ?_
      refine g_bipush (v := 24) X dX1_howMany_5 (by decide) ?_
      refine g_icmp_ge X 34 dX1_howMany_7 rfl (fun h2 => ?_) (fun h2 => ?_)
      · refine g_iload_n X dX1_howMany_34 rfl 1 rfl ?_
        exact g_iret X rfl rfl rfl dX1_howMany_35
      · refine g_iload_n X dX1_howMany_10 rfl 1 rfl ?_
        refine g_aload_n X dX1_howMany_11 rfl 0 rfl ?_
        refine g_ck (fun hT3 => ?_)
        refine g_getr X fa_X1_9 hT3 rfl dX1_howMany_12 ?_
        refine g_iload_n X dX1_howMany_15 rfl 2 rfl ?_
        refine g_ck (fun hT4 => ?_)
        refine g_ild X hT4 rfl dX1_howMany_16 (fun v5 => ?_)
        refine g_iconst (v := (-1)) X dX1_howMany_17 (by decide) ?_
        refine g_icmp_ne X 25 dX1_howMany_18 rfl (fun h6 => ?_) (fun h6 => ?_)
        · refine g_iconst (v := 0) X dX1_howMany_21 (by decide) ?_
          refine g_goto X 26 dX1_howMany_22 rfl ?_
          exact g_sub [0, 2] rfl (hb_26 (b_X1_howMany_4 c M nf) ih x0 x2 0 x1)
        · refine g_iconst (v := 1) X dX1_howMany_25 (by decide) ?_
          exact g_sub [0, 2] rfl (hb_26 (b_X1_howMany_4 c M nf) ih x0 x2 1 x1)
  refine g_sub (lv' := [(0, .ref o0)]) [0] rfl ?_
  unfold f_X1_howMany
  refine g_iconst (v := 0) X dX1_howMany_0 (by decide) ?_
  refine g_istore_n X [(1, .int 0), (0, .ref o0)] dX1_howMany_1 rfl (by decide) rfl ?_
  refine g_iconst (v := 0) X dX1_howMany_2 (by decide) ?_
  refine g_istore_n X [(2, .int 0), (1, .int 0), (0, .ref o0)] dX1_howMany_3 rfl (by decide) rfl ?_
  exact g_sub [2, 1, 0] rfl (hb_4 q_fu o0 0 0)
set_option maxHeartbeats 4000000 in
set_option maxRecDepth 100000 in
theorem c_X1_leftOf (l : Launch) (K : q_KK) (c : Nat → Nat) (M : q_MM) (o0 : Nat) (a1 : Int32) (a2 : Int32) (a3 : Int32) : ∀ res, f_X1_leftOf c M o0 a1 a2 a3 = some res → Mt l yX1_leftOf cX1_leftOf 7 (some FieldType.int) 0 0 0 0 false K [.ref o0, .int a1, .int a2, .int a3] ((qTX c), (qLX c), (qPX c), M) (some (.int res)) (((qTX c), (qLX c), (qPX c), M)) := by
  refine Mt.of (fun (res : Int32) => some (.int res)) (fun (_ : Int32) => ((qTX c), (qLX c), (qPX c), M)) (by decide) (Nat.le_of_ble_eq_true rfl) ?_
  intro p e s m args below meth c0 A ad X hN
  have hb_80 : ∀ (k6 : Nat → Int32 → Int32 → Int32 → Int32 → Int32 → Option (Int32)) (hk6 : ∀ (x0 : Nat) (x1 : Int32) (x2 : Int32) (x3 : Int32) (x4 : Int32) (x5 : Int32), GG p l e { frames := 0, cells := 0, slots := 0, locals := 0 } s m args below meth c0 K A ((qTX c), (qLX c), (qPX c), M) ad false 7 (fun res => MQ below (q_Qc K false ad ((qTX c), (qLX c), (qPX c), M) ((fun (res : Int32) => some (.int res)) res) ((fun (_ : Int32) => ((qTX c), (qLX c), (qPX c), M)) res) A) args s 0 0 A) (k6 x0 x1 x2 x3 x4 x5) 6 [(0, .ref x0), (1, .int x1), (2, .int x2), (3, .int x3), (4, .int x4), (5, .int x5)] [] ((qTX c), (qLX c), (qPX c), M) 0 0) (x0 : Nat) (x1 : Int32) (x2 : Int32) (x3 : Int32) (x4 : Int32) (x5 : Int32), GG p l e { frames := 0, cells := 0, slots := 0, locals := 0 } s m args below meth c0 K A ((qTX c), (qLX c), (qPX c), M) ad false 7 (fun res => MQ below (q_Qc K false ad ((qTX c), (qLX c), (qPX c), M) ((fun (res : Int32) => some (.int res)) res) ((fun (_ : Int32) => ((qTX c), (qLX c), (qPX c), M)) res) A) args s 0 0 A) (b_X1_leftOf_80 c M k6 x0 x1 x2 x3 x4 x5) 80 [(0, .ref x0), (1, .int x1), (2, .int x2), (3, .int x3), (4, .int x4), (5, .int x5)] [] ((qTX c), (qLX c), (qPX c), M) 0 0 := by
    intro k6 hk6 x0 x1 x2 x3 x4 x5
    unfold b_X1_leftOf_80
    refine g_iinc (v := 1) X [(5, .int (x5 + 1)), (0, .ref x0), (1, .int x1), (2, .int x2), (3, .int x3), (4, .int x4)] 5 dX1_leftOf_80 rfl (by decide) (by decide) rfl ?_
    refine g_goto X 6 dX1_leftOf_83 rfl ?_
    exact g_sub [1, 2, 3, 4, 5, 0] rfl (hk6 x0 x1 x2 x3 x4 (x5 + 1))
  have hb_76 : ∀ (k6 : Nat → Int32 → Int32 → Int32 → Int32 → Int32 → Option (Int32)) (hk6 : ∀ (x0 : Nat) (x1 : Int32) (x2 : Int32) (x3 : Int32) (x4 : Int32) (x5 : Int32), GG p l e { frames := 0, cells := 0, slots := 0, locals := 0 } s m args below meth c0 K A ((qTX c), (qLX c), (qPX c), M) ad false 7 (fun res => MQ below (q_Qc K false ad ((qTX c), (qLX c), (qPX c), M) ((fun (res : Int32) => some (.int res)) res) ((fun (_ : Int32) => ((qTX c), (qLX c), (qPX c), M)) res) A) args s 0 0 A) (k6 x0 x1 x2 x3 x4 x5) 6 [(0, .ref x0), (1, .int x1), (2, .int x2), (3, .int x3), (4, .int x4), (5, .int x5)] [] ((qTX c), (qLX c), (qPX c), M) 0 0) (x0 : Nat) (x1 : Int32) (x2 : Int32) (x3 : Int32) (x5 : Int32), GG p l e { frames := 0, cells := 0, slots := 0, locals := 0 } s m args below meth c0 K A ((qTX c), (qLX c), (qPX c), M) ad false 7 (fun res => MQ below (q_Qc K false ad ((qTX c), (qLX c), (qPX c), M) ((fun (res : Int32) => some (.int res)) res) ((fun (_ : Int32) => ((qTX c), (qLX c), (qPX c), M)) res) A) args s 0 0 A) (b_X1_leftOf_76 c M k6 x0 x1 x2 x3 x5) 76 [(0, .ref x0), (1, .int x1), (2, .int x2), (3, .int x3), (5, .int x5)] [] ((qTX c), (qLX c), (qPX c), M) 0 0 := by
    intro k6 hk6 x0 x1 x2 x3 x5
    unfold b_X1_leftOf_76
    refine g_iload X dX1_leftOf_76 4 rfl ?_
    refine g_istore X [(4, .int x5), (0, .ref x0), (1, .int x1), (2, .int x2), (3, .int x3), (5, .int x5)] dX1_leftOf_78 (by decide) rfl ?_
    exact g_sub [1, 2, 3, 4, 0, 5] rfl (hb_80 k6 hk6 x0 x1 x2 x3 x5 x5)
  have hb_46 : ∀ (k6 : Nat → Int32 → Int32 → Int32 → Int32 → Int32 → Option (Int32)) (hk6 : ∀ (x0 : Nat) (x1 : Int32) (x2 : Int32) (x3 : Int32) (x4 : Int32) (x5 : Int32), GG p l e { frames := 0, cells := 0, slots := 0, locals := 0 } s m args below meth c0 K A ((qTX c), (qLX c), (qPX c), M) ad false 7 (fun res => MQ below (q_Qc K false ad ((qTX c), (qLX c), (qPX c), M) ((fun (res : Int32) => some (.int res)) res) ((fun (_ : Int32) => ((qTX c), (qLX c), (qPX c), M)) res) A) args s 0 0 A) (k6 x0 x1 x2 x3 x4 x5) 6 [(0, .ref x0), (1, .int x1), (2, .int x2), (3, .int x3), (4, .int x4), (5, .int x5)] [] ((qTX c), (qLX c), (qPX c), M) 0 0) (x0 : Nat) (x1 : Int32) (x2 : Int32) (x3 : Int32) (x4 : Int32) (x5 : Int32) (s0 : Int32), GG p l e { frames := 0, cells := 0, slots := 0, locals := 0 } s m args below meth c0 K A ((qTX c), (qLX c), (qPX c), M) ad false 7 (fun res => MQ below (q_Qc K false ad ((qTX c), (qLX c), (qPX c), M) ((fun (res : Int32) => some (.int res)) res) ((fun (_ : Int32) => ((qTX c), (qLX c), (qPX c), M)) res) A) args s 0 0 A) (b_X1_leftOf_46 c M k6 x0 x1 x2 x3 x4 x5 s0) 46 [(0, .ref x0), (1, .int x1), (2, .int x2), (3, .int x3), (4, .int x4), (5, .int x5)] [.int s0] ((qTX c), (qLX c), (qPX c), M) 0 0 := by
    intro k6 hk6 x0 x1 x2 x3 x4 x5 s0
    unfold b_X1_leftOf_46
    refine g_istore X [(6, .int s0), (0, .ref x0), (1, .int x1), (2, .int x2), (3, .int x3), (4, .int x4), (5, .int x5)] dX1_leftOf_46 (by decide) rfl ?_
    refine g_iload X dX1_leftOf_48 0 rfl ?_
    refine g_if_eq X 80 dX1_leftOf_50 rfl (fun h1 => ?_) (fun h1 => ?_)
    · exact g_sub [1, 2, 3, 4, 5, 6] rfl (hb_80 k6 hk6 x0 x1 x2 x3 x4 x5)
    · refine g_iload X dX1_leftOf_53 5 rfl ?_
      refine g_iconst (v := (-1)) X dX1_leftOf_55 (by decide) ?_
      refine g_icmp_eq X 76 dX1_leftOf_56 rfl (fun h2 => ?_) (fun h2 => ?_)
      · exact g_sub [1, 2, 3, 4, 6] rfl (hb_76 k6 hk6 x0 x1 x2 x3 x5)
      · refine g_aload_n X dX1_leftOf_59 rfl 1 rfl ?_
        refine g_ck (fun hT3 => ?_)
        refine g_getr X fa_X1_15 hT3 rfl dX1_leftOf_60 ?_
        refine g_iload X dX1_leftOf_63 6 rfl ?_
        refine g_ck (fun hT4 => ?_)
        refine g_ild X hT4 rfl dX1_leftOf_65 (fun v5 => ?_)
        refine g_aload_n X dX1_leftOf_66 rfl 1 rfl ?_
        refine g_getr X fa_X1_15 hT3 rfl dX1_leftOf_67 ?_
        refine g_iload X dX1_leftOf_70 5 rfl ?_
        refine g_ild X hT4 rfl dX1_leftOf_72 (fun v6 => ?_)
        refine g_icmp_lt X 80 dX1_leftOf_73 rfl (fun h7 => ?_) (fun h7 => ?_)
        · exact g_sub [1, 2, 3, 4, 5, 6] rfl (hb_80 k6 hk6 x0 x1 x2 x3 x4 x5)
        · exact g_sub [1, 2, 3, 4, 6] rfl (hb_76 k6 hk6 x0 x1 x2 x3 x5)
  have hb_45 : ∀ (k6 : Nat → Int32 → Int32 → Int32 → Int32 → Int32 → Option (Int32)) (hk6 : ∀ (x0 : Nat) (x1 : Int32) (x2 : Int32) (x3 : Int32) (x4 : Int32) (x5 : Int32), GG p l e { frames := 0, cells := 0, slots := 0, locals := 0 } s m args below meth c0 K A ((qTX c), (qLX c), (qPX c), M) ad false 7 (fun res => MQ below (q_Qc K false ad ((qTX c), (qLX c), (qPX c), M) ((fun (res : Int32) => some (.int res)) res) ((fun (_ : Int32) => ((qTX c), (qLX c), (qPX c), M)) res) A) args s 0 0 A) (k6 x0 x1 x2 x3 x4 x5) 6 [(0, .ref x0), (1, .int x1), (2, .int x2), (3, .int x3), (4, .int x4), (5, .int x5)] [] ((qTX c), (qLX c), (qPX c), M) 0 0) (x0 : Nat) (x1 : Int32) (x2 : Int32) (x3 : Int32) (x4 : Int32) (x5 : Int32), GG p l e { frames := 0, cells := 0, slots := 0, locals := 0 } s m args below meth c0 K A ((qTX c), (qLX c), (qPX c), M) ad false 7 (fun res => MQ below (q_Qc K false ad ((qTX c), (qLX c), (qPX c), M) ((fun (res : Int32) => some (.int res)) res) ((fun (_ : Int32) => ((qTX c), (qLX c), (qPX c), M)) res) A) args s 0 0 A) (b_X1_leftOf_45 c M k6 x0 x1 x2 x3 x4 x5) 45 [(0, .ref x0), (1, .int x1), (2, .int x2), (3, .int x3), (4, .int x4), (5, .int x5)] [] ((qTX c), (qLX c), (qPX c), M) 0 0 := by
    intro k6 hk6 x0 x1 x2 x3 x4 x5
    unfold b_X1_leftOf_45
    refine g_iconst (v := 0) X dX1_leftOf_45 (by decide) ?_
    exact g_sub [0, 1, 2, 3, 4, 5] rfl (hb_46 k6 hk6 x0 x1 x2 x3 x4 x5 0)
  have hb_6 : ∀ (nf : Nat) (x0 : Nat) (x1 : Int32) (x2 : Int32) (x3 : Int32) (x4 : Int32) (x5 : Int32), GG p l e { frames := 0, cells := 0, slots := 0, locals := 0 } s m args below meth c0 K A ((qTX c), (qLX c), (qPX c), M) ad false 7 (fun res => MQ below (q_Qc K false ad ((qTX c), (qLX c), (qPX c), M) ((fun (res : Int32) => some (.int res)) res) ((fun (_ : Int32) => ((qTX c), (qLX c), (qPX c), M)) res) A) args s 0 0 A) (b_X1_leftOf_6 c M nf x0 x1 x2 x3 x4 x5) 6 [(0, .ref x0), (1, .int x1), (2, .int x2), (3, .int x3), (4, .int x4), (5, .int x5)] [] ((qTX c), (qLX c), (qPX c), M) 0 0 := by
    intro  nf
    induction nf with
    | zero => intros; exact g_stop
    | succ nf ih =>
      intro x0 x1 x2 x3 x4 x5
      rw [b_X1_leftOf_6]
      refine g_iload X dX1_leftOf_6 5 rfl ?_
      refine g_bipush (v := 24) X dX1_leftOf_8 (by decide) ?_
      refine g_icmp_ge X 86 dX1_leftOf_10 rfl (fun h8 => ?_) (fun h8 => ?_)
      · refine g_iload X dX1_leftOf_86 4 rfl ?_
        exact g_iret X rfl rfl rfl dX1_leftOf_88
      · refine g_iload X dX1_leftOf_13 5 rfl ?_
        refine g_iload_n X dX1_leftOf_15 rfl 1 rfl ?_
        refine g_icmp_eq X 45 dX1_leftOf_16 rfl (fun h9 => ?_) (fun h9 => ?_)
        · exact g_sub [0, 1, 2, 3, 4, 5] rfl (hb_45 (b_X1_leftOf_6 c M nf) ih x0 x1 x2 x3 x4 x5)
        · refine g_aload_n X dX1_leftOf_19 rfl 0 rfl ?_
          refine g_ck (fun hT10 => ?_)
          refine g_getr X fa_X1_9 hT10 rfl dX1_leftOf_20 ?_
          refine g_iload X dX1_leftOf_23 5 rfl ?_
          refine g_ck (fun hT11 => ?_)
          refine g_ild X hT11 rfl dX1_leftOf_25 (fun v12 => ?_)
          refine g_iload_n X dX1_leftOf_26 rfl 2 rfl ?_
          refine g_icmp_ne X 45 dX1_leftOf_27 rfl (fun h13 => ?_) (fun h13 => ?_)
          · refine g_aload_n X dX1_leftOf_30 rfl 0 rfl ?_
            refine g_getr X fa_X1_15 hT10 rfl dX1_leftOf_31 ?_
            refine g_iload X dX1_leftOf_34 5 rfl ?_
            refine g_ck (fun hT14 => ?_)
            refine g_ild X hT14 rfl dX1_leftOf_36 (fun v15 => ?_)
            refine g_iload_n X dX1_leftOf_37 rfl 3 rfl ?_
            refine g_icmp_gt X 45 dX1_leftOf_38 rfl (fun h16 => ?_) (fun h16 => ?_)
            · exact g_sub [0, 1, 2, 3, 4, 5] rfl (hb_45 (b_X1_leftOf_6 c M nf) ih x0 x1 x2 x3 x4 x5)
            · refine g_iconst (v := 1) X dX1_leftOf_41 (by decide) ?_
              refine g_goto X 46 dX1_leftOf_42 rfl ?_
              exact g_sub [0, 1, 2, 3, 4, 5] rfl (hb_46 (b_X1_leftOf_6 c M nf) ih x0 x1 x2 x3 x4 x5 1)
          · exact g_sub [0, 1, 2, 3, 4, 5] rfl (hb_45 (b_X1_leftOf_6 c M nf) ih x0 x1 x2 x3 x4 x5)
  refine g_sub (lv' := [(0, .ref o0), (1, .int a1), (2, .int a2), (3, .int a3)]) [0, 1, 2, 3] rfl ?_
  unfold f_X1_leftOf
  refine g_iconst (v := (-1)) X dX1_leftOf_0 (by decide) ?_
  refine g_istore X [(4, .int (-1)), (0, .ref o0), (1, .int a1), (2, .int a2), (3, .int a3)] dX1_leftOf_1 (by decide) rfl ?_
  refine g_iconst (v := 0) X dX1_leftOf_3 (by decide) ?_
  refine g_istore X [(5, .int 0), (4, .int (-1)), (0, .ref o0), (1, .int a1), (2, .int a2), (3, .int a3)] dX1_leftOf_4 (by decide) rfl ?_
  exact g_sub [2, 3, 4, 5, 1, 0] rfl (hb_6 q_fu o0 a1 a2 a3 (-1) 0)
set_option maxHeartbeats 4000000 in
set_option maxRecDepth 100000 in
theorem c_X1_rightOf (l : Launch) (K : q_KK) (c : Nat → Nat) (M : q_MM) (o0 : Nat) (a1 : Int32) (a2 : Int32) (a3 : Int32) : ∀ res, f_X1_rightOf c M o0 a1 a2 a3 = some res → Mt l yX1_rightOf cX1_rightOf 7 (some FieldType.int) 0 0 0 0 false K [.ref o0, .int a1, .int a2, .int a3] ((qTX c), (qLX c), (qPX c), M) (some (.int res)) (((qTX c), (qLX c), (qPX c), M)) := by
  refine Mt.of (fun (res : Int32) => some (.int res)) (fun (_ : Int32) => ((qTX c), (qLX c), (qPX c), M)) (by decide) (Nat.le_of_ble_eq_true rfl) ?_
  intro p e s m args below meth c0 A ad X hN
  have hb_80 : ∀ (k6 : Nat → Int32 → Int32 → Int32 → Int32 → Int32 → Option (Int32)) (hk6 : ∀ (x0 : Nat) (x1 : Int32) (x2 : Int32) (x3 : Int32) (x4 : Int32) (x5 : Int32), GG p l e { frames := 0, cells := 0, slots := 0, locals := 0 } s m args below meth c0 K A ((qTX c), (qLX c), (qPX c), M) ad false 7 (fun res => MQ below (q_Qc K false ad ((qTX c), (qLX c), (qPX c), M) ((fun (res : Int32) => some (.int res)) res) ((fun (_ : Int32) => ((qTX c), (qLX c), (qPX c), M)) res) A) args s 0 0 A) (k6 x0 x1 x2 x3 x4 x5) 6 [(0, .ref x0), (1, .int x1), (2, .int x2), (3, .int x3), (4, .int x4), (5, .int x5)] [] ((qTX c), (qLX c), (qPX c), M) 0 0) (x0 : Nat) (x1 : Int32) (x2 : Int32) (x3 : Int32) (x4 : Int32) (x5 : Int32), GG p l e { frames := 0, cells := 0, slots := 0, locals := 0 } s m args below meth c0 K A ((qTX c), (qLX c), (qPX c), M) ad false 7 (fun res => MQ below (q_Qc K false ad ((qTX c), (qLX c), (qPX c), M) ((fun (res : Int32) => some (.int res)) res) ((fun (_ : Int32) => ((qTX c), (qLX c), (qPX c), M)) res) A) args s 0 0 A) (b_X1_rightOf_80 c M k6 x0 x1 x2 x3 x4 x5) 80 [(0, .ref x0), (1, .int x1), (2, .int x2), (3, .int x3), (4, .int x4), (5, .int x5)] [] ((qTX c), (qLX c), (qPX c), M) 0 0 := by
    intro k6 hk6 x0 x1 x2 x3 x4 x5
    unfold b_X1_rightOf_80
    refine g_iinc (v := 1) X [(5, .int (x5 + 1)), (0, .ref x0), (1, .int x1), (2, .int x2), (3, .int x3), (4, .int x4)] 5 dX1_rightOf_80 rfl (by decide) (by decide) rfl ?_
    refine g_goto X 6 dX1_rightOf_83 rfl ?_
    exact g_sub [1, 2, 3, 4, 5, 0] rfl (hk6 x0 x1 x2 x3 x4 (x5 + 1))
  have hb_76 : ∀ (k6 : Nat → Int32 → Int32 → Int32 → Int32 → Int32 → Option (Int32)) (hk6 : ∀ (x0 : Nat) (x1 : Int32) (x2 : Int32) (x3 : Int32) (x4 : Int32) (x5 : Int32), GG p l e { frames := 0, cells := 0, slots := 0, locals := 0 } s m args below meth c0 K A ((qTX c), (qLX c), (qPX c), M) ad false 7 (fun res => MQ below (q_Qc K false ad ((qTX c), (qLX c), (qPX c), M) ((fun (res : Int32) => some (.int res)) res) ((fun (_ : Int32) => ((qTX c), (qLX c), (qPX c), M)) res) A) args s 0 0 A) (k6 x0 x1 x2 x3 x4 x5) 6 [(0, .ref x0), (1, .int x1), (2, .int x2), (3, .int x3), (4, .int x4), (5, .int x5)] [] ((qTX c), (qLX c), (qPX c), M) 0 0) (x0 : Nat) (x1 : Int32) (x2 : Int32) (x3 : Int32) (x5 : Int32), GG p l e { frames := 0, cells := 0, slots := 0, locals := 0 } s m args below meth c0 K A ((qTX c), (qLX c), (qPX c), M) ad false 7 (fun res => MQ below (q_Qc K false ad ((qTX c), (qLX c), (qPX c), M) ((fun (res : Int32) => some (.int res)) res) ((fun (_ : Int32) => ((qTX c), (qLX c), (qPX c), M)) res) A) args s 0 0 A) (b_X1_rightOf_76 c M k6 x0 x1 x2 x3 x5) 76 [(0, .ref x0), (1, .int x1), (2, .int x2), (3, .int x3), (5, .int x5)] [] ((qTX c), (qLX c), (qPX c), M) 0 0 := by
    intro k6 hk6 x0 x1 x2 x3 x5
    unfold b_X1_rightOf_76
    refine g_iload X dX1_rightOf_76 4 rfl ?_
    refine g_istore X [(4, .int x5), (0, .ref x0), (1, .int x1), (2, .int x2), (3, .int x3), (5, .int x5)] dX1_rightOf_78 (by decide) rfl ?_
    exact g_sub [1, 2, 3, 4, 0, 5] rfl (hb_80 k6 hk6 x0 x1 x2 x3 x5 x5)
  have hb_46 : ∀ (k6 : Nat → Int32 → Int32 → Int32 → Int32 → Int32 → Option (Int32)) (hk6 : ∀ (x0 : Nat) (x1 : Int32) (x2 : Int32) (x3 : Int32) (x4 : Int32) (x5 : Int32), GG p l e { frames := 0, cells := 0, slots := 0, locals := 0 } s m args below meth c0 K A ((qTX c), (qLX c), (qPX c), M) ad false 7 (fun res => MQ below (q_Qc K false ad ((qTX c), (qLX c), (qPX c), M) ((fun (res : Int32) => some (.int res)) res) ((fun (_ : Int32) => ((qTX c), (qLX c), (qPX c), M)) res) A) args s 0 0 A) (k6 x0 x1 x2 x3 x4 x5) 6 [(0, .ref x0), (1, .int x1), (2, .int x2), (3, .int x3), (4, .int x4), (5, .int x5)] [] ((qTX c), (qLX c), (qPX c), M) 0 0) (x0 : Nat) (x1 : Int32) (x2 : Int32) (x3 : Int32) (x4 : Int32) (x5 : Int32) (s0 : Int32), GG p l e { frames := 0, cells := 0, slots := 0, locals := 0 } s m args below meth c0 K A ((qTX c), (qLX c), (qPX c), M) ad false 7 (fun res => MQ below (q_Qc K false ad ((qTX c), (qLX c), (qPX c), M) ((fun (res : Int32) => some (.int res)) res) ((fun (_ : Int32) => ((qTX c), (qLX c), (qPX c), M)) res) A) args s 0 0 A) (b_X1_rightOf_46 c M k6 x0 x1 x2 x3 x4 x5 s0) 46 [(0, .ref x0), (1, .int x1), (2, .int x2), (3, .int x3), (4, .int x4), (5, .int x5)] [.int s0] ((qTX c), (qLX c), (qPX c), M) 0 0 := by
    intro k6 hk6 x0 x1 x2 x3 x4 x5 s0
    unfold b_X1_rightOf_46
    refine g_istore X [(6, .int s0), (0, .ref x0), (1, .int x1), (2, .int x2), (3, .int x3), (4, .int x4), (5, .int x5)] dX1_rightOf_46 (by decide) rfl ?_
    refine g_iload X dX1_rightOf_48 0 rfl ?_
    refine g_if_eq X 80 dX1_rightOf_50 rfl (fun h1 => ?_) (fun h1 => ?_)
    · exact g_sub [1, 2, 3, 4, 5, 6] rfl (hb_80 k6 hk6 x0 x1 x2 x3 x4 x5)
    · refine g_iload X dX1_rightOf_53 5 rfl ?_
      refine g_iconst (v := (-1)) X dX1_rightOf_55 (by decide) ?_
      refine g_icmp_eq X 76 dX1_rightOf_56 rfl (fun h2 => ?_) (fun h2 => ?_)
      · exact g_sub [1, 2, 3, 4, 6] rfl (hb_76 k6 hk6 x0 x1 x2 x3 x5)
      · refine g_aload_n X dX1_rightOf_59 rfl 1 rfl ?_
        refine g_ck (fun hT3 => ?_)
        refine g_getr X fa_X1_15 hT3 rfl dX1_rightOf_60 ?_
        refine g_iload X dX1_rightOf_63 6 rfl ?_
        refine g_ck (fun hT4 => ?_)
        refine g_ild X hT4 rfl dX1_rightOf_65 (fun v5 => ?_)
        refine g_aload_n X dX1_rightOf_66 rfl 1 rfl ?_
        refine g_getr X fa_X1_15 hT3 rfl dX1_rightOf_67 ?_
        refine g_iload X dX1_rightOf_70 5 rfl ?_
        refine g_ild X hT4 rfl dX1_rightOf_72 (fun v6 => ?_)
        refine g_icmp_ge X 80 dX1_rightOf_73 rfl (fun h7 => ?_) (fun h7 => ?_)
        · exact g_sub [1, 2, 3, 4, 5, 6] rfl (hb_80 k6 hk6 x0 x1 x2 x3 x4 x5)
        · exact g_sub [1, 2, 3, 4, 6] rfl (hb_76 k6 hk6 x0 x1 x2 x3 x5)
  have hb_45 : ∀ (k6 : Nat → Int32 → Int32 → Int32 → Int32 → Int32 → Option (Int32)) (hk6 : ∀ (x0 : Nat) (x1 : Int32) (x2 : Int32) (x3 : Int32) (x4 : Int32) (x5 : Int32), GG p l e { frames := 0, cells := 0, slots := 0, locals := 0 } s m args below meth c0 K A ((qTX c), (qLX c), (qPX c), M) ad false 7 (fun res => MQ below (q_Qc K false ad ((qTX c), (qLX c), (qPX c), M) ((fun (res : Int32) => some (.int res)) res) ((fun (_ : Int32) => ((qTX c), (qLX c), (qPX c), M)) res) A) args s 0 0 A) (k6 x0 x1 x2 x3 x4 x5) 6 [(0, .ref x0), (1, .int x1), (2, .int x2), (3, .int x3), (4, .int x4), (5, .int x5)] [] ((qTX c), (qLX c), (qPX c), M) 0 0) (x0 : Nat) (x1 : Int32) (x2 : Int32) (x3 : Int32) (x4 : Int32) (x5 : Int32), GG p l e { frames := 0, cells := 0, slots := 0, locals := 0 } s m args below meth c0 K A ((qTX c), (qLX c), (qPX c), M) ad false 7 (fun res => MQ below (q_Qc K false ad ((qTX c), (qLX c), (qPX c), M) ((fun (res : Int32) => some (.int res)) res) ((fun (_ : Int32) => ((qTX c), (qLX c), (qPX c), M)) res) A) args s 0 0 A) (b_X1_rightOf_45 c M k6 x0 x1 x2 x3 x4 x5) 45 [(0, .ref x0), (1, .int x1), (2, .int x2), (3, .int x3), (4, .int x4), (5, .int x5)] [] ((qTX c), (qLX c), (qPX c), M) 0 0 := by
    intro k6 hk6 x0 x1 x2 x3 x4 x5
    unfold b_X1_rightOf_45
    refine g_iconst (v := 0) X dX1_rightOf_45 (by decide) ?_
    exact g_sub [0, 1, 2, 3, 4, 5] rfl (hb_46 k6 hk6 x0 x1 x2 x3 x4 x5 0)
  have hb_6 : ∀ (nf : Nat) (x0 : Nat) (x1 : Int32) (x2 : Int32) (x3 : Int32) (x4 : Int32) (x5 : Int32), GG p l e { frames := 0, cells := 0, slots := 0, locals := 0 } s m args below meth c0 K A ((qTX c), (qLX c), (qPX c), M) ad false 7 (fun res => MQ below (q_Qc K false ad ((qTX c), (qLX c), (qPX c), M) ((fun (res : Int32) => some (.int res)) res) ((fun (_ : Int32) => ((qTX c), (qLX c), (qPX c), M)) res) A) args s 0 0 A) (b_X1_rightOf_6 c M nf x0 x1 x2 x3 x4 x5) 6 [(0, .ref x0), (1, .int x1), (2, .int x2), (3, .int x3), (4, .int x4), (5, .int x5)] [] ((qTX c), (qLX c), (qPX c), M) 0 0 := by
    intro  nf
    induction nf with
    | zero => intros; exact g_stop
    | succ nf ih =>
      intro x0 x1 x2 x3 x4 x5
      rw [b_X1_rightOf_6]
      refine g_iload X dX1_rightOf_6 5 rfl ?_
      refine g_bipush (v := 24) X dX1_rightOf_8 (by decide) ?_
      refine g_icmp_ge X 86 dX1_rightOf_10 rfl (fun h8 => ?_) (fun h8 => ?_)
      · refine g_iload X dX1_rightOf_86 4 rfl ?_
        exact g_iret X rfl rfl rfl dX1_rightOf_88
      · refine g_iload X dX1_rightOf_13 5 rfl ?_
        refine g_iload_n X dX1_rightOf_15 rfl 1 rfl ?_
        refine g_icmp_eq X 45 dX1_rightOf_16 rfl (fun h9 => ?_) (fun h9 => ?_)
        · exact g_sub [0, 1, 2, 3, 4, 5] rfl (hb_45 (b_X1_rightOf_6 c M nf) ih x0 x1 x2 x3 x4 x5)
        · refine g_aload_n X dX1_rightOf_19 rfl 0 rfl ?_
          refine g_ck (fun hT10 => ?_)
          refine g_getr X fa_X1_9 hT10 rfl dX1_rightOf_20 ?_
          refine g_iload X dX1_rightOf_23 5 rfl ?_
          refine g_ck (fun hT11 => ?_)
          refine g_ild X hT11 rfl dX1_rightOf_25 (fun v12 => ?_)
          refine g_iload_n X dX1_rightOf_26 rfl 2 rfl ?_
          refine g_icmp_ne X 45 dX1_rightOf_27 rfl (fun h13 => ?_) (fun h13 => ?_)
          · refine g_aload_n X dX1_rightOf_30 rfl 0 rfl ?_
            refine g_getr X fa_X1_15 hT10 rfl dX1_rightOf_31 ?_
            refine g_iload X dX1_rightOf_34 5 rfl ?_
            refine g_ck (fun hT14 => ?_)
            refine g_ild X hT14 rfl dX1_rightOf_36 (fun v15 => ?_)
            refine g_iload_n X dX1_rightOf_37 rfl 3 rfl ?_
            refine g_icmp_le X 45 dX1_rightOf_38 rfl (fun h16 => ?_) (fun h16 => ?_)
            · exact g_sub [0, 1, 2, 3, 4, 5] rfl (hb_45 (b_X1_rightOf_6 c M nf) ih x0 x1 x2 x3 x4 x5)
            · refine g_iconst (v := 1) X dX1_rightOf_41 (by decide) ?_
              refine g_goto X 46 dX1_rightOf_42 rfl ?_
              exact g_sub [0, 1, 2, 3, 4, 5] rfl (hb_46 (b_X1_rightOf_6 c M nf) ih x0 x1 x2 x3 x4 x5 1)
          · exact g_sub [0, 1, 2, 3, 4, 5] rfl (hb_45 (b_X1_rightOf_6 c M nf) ih x0 x1 x2 x3 x4 x5)
  refine g_sub (lv' := [(0, .ref o0), (1, .int a1), (2, .int a2), (3, .int a3)]) [0, 1, 2, 3] rfl ?_
  unfold f_X1_rightOf
  refine g_iconst (v := (-1)) X dX1_rightOf_0 (by decide) ?_
  refine g_istore X [(4, .int (-1)), (0, .ref o0), (1, .int a1), (2, .int a2), (3, .int a3)] dX1_rightOf_1 (by decide) rfl ?_
  refine g_iconst (v := 0) X dX1_rightOf_3 (by decide) ?_
  refine g_istore X [(5, .int 0), (4, .int (-1)), (0, .ref o0), (1, .int a1), (2, .int a2), (3, .int a3)] dX1_rightOf_4 (by decide) rfl ?_
  exact g_sub [2, 3, 4, 5, 1, 0] rfl (hb_6 q_fu o0 a1 a2 a3 (-1) 0)
set_option maxHeartbeats 4000000 in
set_option maxRecDepth 100000 in
theorem c_X2_hasRoom (l : Launch) (K : q_KK) (c : Nat → Nat) (M : q_MM) (a1 : Int32) : ∀ res, f_X2_hasRoom c M a1 = some res → Mt l yX2_hasRoom cX2_hasRoom 2 (some FieldType.boolean) 0 0 0 0 false K [.ref 2, .int a1] ((qTX c), (qLX c), (qPX c), M) (some (.int res)) (((qTX c), (qLX c), (qPX c), M)) := by
  refine Mt.of (fun (res : Int32) => some (.int res)) (fun (_ : Int32) => ((qTX c), (qLX c), (qPX c), M)) (by decide) (Nat.le_of_ble_eq_true rfl) ?_
  intro p e s m args below meth c0 A ad X hN
  refine g_sub (lv' := [(0, .ref 2), (1, .int a1)]) [0, 1] rfl ?_
  unfold f_X2_hasRoom
  refine g_iload_n X dX2_hasRoom_0 rfl 1 rfl ?_
  refine g_if_lt X 16 dX2_hasRoom_1 rfl (fun h1 => ?_) (fun h1 => ?_)
  · refine g_iconst (v := 0) X dX2_hasRoom_16 (by decide) ?_
    exact g_zret X rfl rfl rfl dX2_hasRoom_17
  · refine g_iload_n X dX2_hasRoom_4 rfl 1 rfl ?_
    refine g_aload_n X dX2_hasRoom_5 rfl 0 rfl ?_
    refine g_geti X fa_X2_50 rfl dX2_hasRoom_6 ?_
    refine g_icmp_ge X 16 dX2_hasRoom_9 rfl (fun h2 => ?_) (fun h2 => ?_)
    · refine g_iconst (v := 0) X dX2_hasRoom_16 (by decide) ?_
      exact g_zret X rfl rfl rfl dX2_hasRoom_17
    · refine g_iconst (v := 1) X dX2_hasRoom_12 (by decide) ?_
      refine g_goto X 17 dX2_hasRoom_13 rfl ?_
      exact g_zret X rfl rfl rfl dX2_hasRoom_17
set_option maxHeartbeats 4000000 in
set_option maxRecDepth 100000 in
theorem c_X2_wallAt (l : Launch) (K : q_KK) (c : Nat → Nat) (M : q_MM) (a1 : Int32) : ∀ res, f_X2_wallAt c M a1 = some res → Mt l yX2_wallAt cX2_wallAt 2 (some (FieldType.object "GalleryWalls$Wall")) 3 64 0 0 false K [.ref 2, .int a1] ((qTX c), (qLX c), (qPX c), M) (some (.ref res)) (((qTX c), (qLX c), (qPX c), M)) := by
  refine Mt.of (fun (res : Nat) => some (.ref res)) (fun (_ : Nat) => ((qTX c), (qLX c), (qPX c), M)) (by decide) (Nat.le_of_ble_eq_true rfl) ?_
  intro p e s m args below meth c0 A ad X hN
  refine g_sub (lv' := [(0, .ref 2), (1, .int a1)]) [0, 1] rfl ?_
  unfold f_X2_wallAt
  refine g_iload_n X dX2_wallAt_0 rfl 1 rfl ?_
  refine g_if_lt X 29 dX2_wallAt_1 rfl (fun h1 => ?_) (fun h1 => ?_)
  · refine g_null X dX2_wallAt_29 ?_
    exact g_aret X rfl (by first | exact Or.inl ⟨_, rfl⟩ | exact Or.inr ⟨_, rfl⟩) rfl rfl dX2_wallAt_30
  · refine g_iload_n X dX2_wallAt_4 rfl 1 rfl ?_
    refine g_aload_n X dX2_wallAt_5 rfl 0 rfl ?_
    refine g_getr X fa_X2_18 rfl rfl dX2_wallAt_6 ?_
    refine g_bVi (As := []) (rest := [.int a1]) X (c_Jx4a65c_size_8abf5 l K (qTX c) (qLX c) (qPX c) M 14) lk_X2_54 rfl rfl rfl (Nat.le_of_ble_eq_true rfl) ⟨Nat.le_of_ble_eq_true rfl, Nat.le_of_ble_eq_true rfl⟩ ⟨Nat.zero_le _, Nat.zero_le _⟩ dX2_wallAt_9 (fun r2 => ?_)
    refine g_icmp_ge X 29 dX2_wallAt_12 rfl (fun h3 => ?_) (fun h3 => ?_)
    · refine g_null X dX2_wallAt_29 ?_
      exact g_aret X rfl (by first | exact Or.inl ⟨_, rfl⟩ | exact Or.inr ⟨_, rfl⟩) rfl rfl dX2_wallAt_30
    · refine g_aload_n X dX2_wallAt_15 rfl 0 rfl ?_
      refine g_getr X fa_X2_18 rfl rfl dX2_wallAt_16 ?_
      refine g_iload_n X dX2_wallAt_19 rfl 1 rfl ?_
      refine g_bVr (As := [.int a1]) (rest := []) X (c_Jx4a65c_get_915e3 l K (qTX c) (qLX c) (qPX c) M 14 a1) lk_X2_58 rfl rfl rfl (Nat.le_of_ble_eq_true rfl) ⟨Nat.le_of_ble_eq_true rfl, Nat.le_of_ble_eq_true rfl⟩ ⟨Nat.zero_le _, Nat.zero_le _⟩ dX2_wallAt_20 (fun r4 => ?_)
      refine g_ck (fun hT5 => ?_)
      refine g_cast X (ci := 10) rfl wl_X2_62 hT5 dX2_wallAt_23 ?_
      refine g_goto X 30 dX2_wallAt_26 rfl ?_
      exact g_aret X rfl (by first | exact Or.inl ⟨_, rfl⟩ | exact Or.inr ⟨_, rfl⟩) rfl rfl dX2_wallAt_30
set_option maxHeartbeats 4000000 in
set_option maxRecDepth 100000 in
theorem c_X2_pictureAt (l : Launch) (K : q_KK) (c : Nat → Nat) (M : q_MM) (a1 : Int32) : ∀ res, f_X2_pictureAt c M a1 = some res → Mt l yX2_pictureAt cX2_pictureAt 2 (some (FieldType.object "GalleryWalls$Picture")) 3 64 0 0 false K [.ref 2, .int a1] ((qTX c), (qLX c), (qPX c), M) (some (.ref res)) (((qTX c), (qLX c), (qPX c), M)) := by
  refine Mt.of (fun (res : Nat) => some (.ref res)) (fun (_ : Nat) => ((qTX c), (qLX c), (qPX c), M)) (by decide) (Nat.le_of_ble_eq_true rfl) ?_
  intro p e s m args below meth c0 A ad X hN
  refine g_sub (lv' := [(0, .ref 2), (1, .int a1)]) [0, 1] rfl ?_
  unfold f_X2_pictureAt
  refine g_iload_n X dX2_pictureAt_0 rfl 1 rfl ?_
  refine g_if_lt X 29 dX2_pictureAt_1 rfl (fun h1 => ?_) (fun h1 => ?_)
  · refine g_null X dX2_pictureAt_29 ?_
    exact g_aret X rfl (by first | exact Or.inl ⟨_, rfl⟩ | exact Or.inr ⟨_, rfl⟩) rfl rfl dX2_pictureAt_30
  · refine g_iload_n X dX2_pictureAt_4 rfl 1 rfl ?_
    refine g_aload_n X dX2_pictureAt_5 rfl 0 rfl ?_
    refine g_getr X fa_X2_21 rfl rfl dX2_pictureAt_6 ?_
    refine g_bVi (As := []) (rest := [.int a1]) X (c_Jx4a65c_size_8abf5 l K (qTX c) (qLX c) (qPX c) M 15) lk_X2_54 rfl rfl rfl (Nat.le_of_ble_eq_true rfl) ⟨Nat.le_of_ble_eq_true rfl, Nat.le_of_ble_eq_true rfl⟩ ⟨Nat.zero_le _, Nat.zero_le _⟩ dX2_pictureAt_9 (fun r2 => ?_)
    refine g_icmp_ge X 29 dX2_pictureAt_12 rfl (fun h3 => ?_) (fun h3 => ?_)
    · refine g_null X dX2_pictureAt_29 ?_
      exact g_aret X rfl (by first | exact Or.inl ⟨_, rfl⟩ | exact Or.inr ⟨_, rfl⟩) rfl rfl dX2_pictureAt_30
    · refine g_aload_n X dX2_pictureAt_15 rfl 0 rfl ?_
      refine g_getr X fa_X2_21 rfl rfl dX2_pictureAt_16 ?_
      refine g_iload_n X dX2_pictureAt_19 rfl 1 rfl ?_
      refine g_bVr (As := [.int a1]) (rest := []) X (c_Jx4a65c_get_915e3 l K (qTX c) (qLX c) (qPX c) M 15 a1) lk_X2_58 rfl rfl rfl (Nat.le_of_ble_eq_true rfl) ⟨Nat.le_of_ble_eq_true rfl, Nat.le_of_ble_eq_true rfl⟩ ⟨Nat.zero_le _, Nat.zero_le _⟩ dX2_pictureAt_20 (fun r4 => ?_)
      refine g_ck (fun hT5 => ?_)
      refine g_cast X (ci := 5) rfl wl_X2_64 hT5 dX2_pictureAt_23 ?_
      refine g_goto X 30 dX2_pictureAt_26 rfl ?_
      exact g_aret X rfl (by first | exact Or.inl ⟨_, rfl⟩ | exact Or.inr ⟨_, rfl⟩) rfl rfl dX2_pictureAt_30
set_option maxHeartbeats 4000000 in
set_option maxRecDepth 100000 in
theorem c_X2_present (l : Launch) (K : q_KK) (c : Nat → Nat) (M : q_MM) (a1 : Int32) : ∀ res, f_X2_present c M a1 = some res → Mt l yX2_present cX2_present 3 (some (FieldType.object "GalleryWalls$Picture")) 4 85 0 0 false K [.ref 2, .int a1] ((qTX c), (qLX c), (qPX c), M) (some (.ref res)) (((qTX c), (qLX c), (qPX c), M)) := by
  refine Mt.of (fun (res : Nat) => some (.ref res)) (fun (_ : Nat) => ((qTX c), (qLX c), (qPX c), M)) (by decide) (Nat.le_of_ble_eq_true rfl) ?_
  intro p e s m args below meth c0 A ad X hN
  refine g_sub (lv' := [(0, .ref 2), (1, .int a1)]) [0, 1] rfl ?_
  unfold f_X2_present
  refine g_aload_n X dX2_present_0 rfl 0 rfl ?_
  refine g_iload_n X dX2_present_1 rfl 1 rfl ?_
  refine g_bVr (As := [.int a1]) (rest := []) X (c_X2_pictureAt l K c M a1) lk_X2_66 rfl rfl rfl (Nat.le_of_ble_eq_true rfl) ⟨Nat.le_of_ble_eq_true rfl, Nat.le_of_ble_eq_true rfl⟩ ⟨Nat.zero_le _, Nat.zero_le _⟩ dX2_present_2 (fun r1 => ?_)
  refine g_astore_n X [(2, .ref r1), (0, .ref 2), (1, .int a1)] dX2_present_5 rfl (by decide) rfl ?_
  refine g_aload_n X dX2_present_6 rfl 0 rfl ?_
  refine g_ifnull X 21 dX2_present_7 rfl (fun h2 => ?_) (fun h2 => ?_)
  · refine g_null X dX2_present_21 ?_
    exact g_aret X rfl (by first | exact Or.inl ⟨_, rfl⟩ | exact Or.inr ⟨_, rfl⟩) rfl rfl dX2_present_22
  · refine g_aload_n X dX2_present_10 rfl 0 rfl ?_
    refine g_ck (fun hT3 => ?_)
    refine g_geti X fa_X2_70 hT3 dX2_present_11 ?_
    refine g_if_ne X 21 dX2_present_14 rfl (fun h4 => ?_) (fun h4 => ?_)
    · refine g_aload_n X dX2_present_17 rfl 0 rfl ?_
      refine g_goto X 22 dX2_present_18 rfl ?_
      exact g_aret X rfl (by first | exact Or.inl ⟨_, rfl⟩ | exact Or.inr ⟨_, rfl⟩) rfl rfl dX2_present_22
    · refine g_null X dX2_present_21 ?_
      exact g_aret X rfl (by first | exact Or.inl ⟨_, rfl⟩ | exact Or.inr ⟨_, rfl⟩) rfl rfl dX2_present_22
set_option maxHeartbeats 4000000 in
set_option maxRecDepth 100000 in
theorem c_X2_wallOf (l : Launch) (K : q_KK) (c : Nat → Nat) (M : q_MM) (a1 : Nat) : ∀ res, f_X2_wallOf c M a1 = some res → Mt l yX2_wallOf cX2_wallOf 2 (some (FieldType.object "GalleryWalls$Wall")) 4 85 0 0 false K [.ref 2, .ref a1] ((qTX c), (qLX c), (qPX c), M) (some (.ref res)) (((qTX c), (qLX c), (qPX c), M)) := by
  refine Mt.of (fun (res : Nat) => some (.ref res)) (fun (_ : Nat) => ((qTX c), (qLX c), (qPX c), M)) (by decide) (Nat.le_of_ble_eq_true rfl) ?_
  intro p e s m args below meth c0 A ad X hN
  refine g_sub (lv' := [(0, .ref 2), (1, .ref a1)]) [0, 1] rfl ?_
  unfold f_X2_wallOf
  refine g_aload_n X dX2_wallOf_0 rfl 0 rfl ?_
  refine g_aload_n X dX2_wallOf_1 rfl 0 rfl ?_
  refine g_getr X fa_X2_43 rfl rfl dX2_wallOf_2 ?_
  refine g_aload_n X dX2_wallOf_5 rfl 1 rfl ?_
  refine g_ck (fun hT1 => ?_)
  refine g_geti X fa_X2_73 hT1 dX2_wallOf_6 ?_
  refine g_bVi (As := [.int (M a1 0)]) (rest := [.ref 2]) X (c_X1_wallUnder l K c M 21 (M a1 0)) lk_X2_76 rfl rfl rfl (Nat.le_of_ble_eq_true rfl) ⟨Nat.le_of_ble_eq_true rfl, Nat.le_of_ble_eq_true rfl⟩ ⟨Nat.zero_le _, Nat.zero_le _⟩ dX2_wallOf_9 (fun r2 => ?_)
  refine g_bVr (As := [.int r2]) (rest := []) X (c_X2_wallAt l K c M r2) lk_X2_80 rfl rfl rfl (Nat.le_of_ble_eq_true rfl) ⟨Nat.le_of_ble_eq_true rfl, Nat.le_of_ble_eq_true rfl⟩ ⟨Nat.zero_le _, Nat.zero_le _⟩ dX2_wallOf_12 (fun r3 => ?_)
  exact g_aret X rfl (by first | exact Or.inl ⟨_, rfl⟩ | exact Or.inr ⟨_, rfl⟩) rfl rfl dX2_wallOf_15
set_option maxHeartbeats 4000000 in
set_option maxRecDepth 100000 in
theorem c_X2_stateOf (l : Launch) (K : q_KK) (c : Nat → Nat) (M : q_MM) (a1 : Nat) : ∀ res, f_X2_stateOf c M a1 = some res → Mt l yX2_stateOf cX2_stateOf 2 (some FieldType.int) 2 42 0 0 false K [.ref 2, .ref a1] ((qTX c), (qLX c), (qPX c), M) (some (.int res)) (((qTX c), (qLX c), (qPX c), M)) := by
  refine Mt.of (fun (res : Int32) => some (.int res)) (fun (_ : Int32) => ((qTX c), (qLX c), (qPX c), M)) (by decide) (Nat.le_of_ble_eq_true rfl) ?_
  intro p e s m args below meth c0 A ad X hN
  refine g_sub (lv' := [(0, .ref 2), (1, .ref a1)]) [0, 1] rfl ?_
  unfold f_X2_stateOf
  refine g_aload_n X dX2_stateOf_0 rfl 1 rfl ?_
  refine g_ck (fun hT1 => ?_)
  refine g_geti X fa_X2_70 hT1 dX2_stateOf_1 ?_
  refine g_if_eq X 14 dX2_stateOf_4 rfl (fun h2 => ?_) (fun h2 => ?_)
  · refine g_aload_n X dX2_stateOf_14 rfl 0 rfl ?_
    refine g_getr X fa_X2_43 rfl rfl dX2_stateOf_15 ?_
    refine g_aload_n X dX2_stateOf_18 rfl 1 rfl ?_
    refine g_geti X fa_X2_73 hT1 dX2_stateOf_19 ?_
    refine g_bVi (As := [.int (M a1 0)]) (rest := []) X (c_X1_has l K c M 21 (M a1 0)) lk_X2_84 rfl rfl rfl (Nat.le_of_ble_eq_true rfl) ⟨Nat.le_of_ble_eq_true rfl, Nat.le_of_ble_eq_true rfl⟩ ⟨Nat.zero_le _, Nat.zero_le _⟩ dX2_stateOf_22 (fun r3 => ?_)
    refine g_if_eq X 32 dX2_stateOf_25 rfl (fun h4 => ?_) (fun h4 => ?_)
    · refine g_iconst (v := 0) X dX2_stateOf_32 (by decide) ?_
      exact g_iret X rfl rfl rfl dX2_stateOf_33
    · refine g_iconst (v := 1) X dX2_stateOf_28 (by decide) ?_
      refine g_goto X 33 dX2_stateOf_29 rfl ?_
      exact g_iret X rfl rfl rfl dX2_stateOf_33
  · refine g_aload_n X dX2_stateOf_7 rfl 1 rfl ?_
    refine g_geti X fa_X2_70 hT1 dX2_stateOf_8 ?_
    refine g_goto X 33 dX2_stateOf_11 rfl ?_
    exact g_iret X rfl rfl rfl dX2_stateOf_33
set_option maxHeartbeats 4000000 in
set_option maxRecDepth 100000 in
theorem c_X2_part (l : Launch) (K : q_KK) (c : Nat → Nat) (M0 : q_MM) (a1 : Nat) : ∀ res, f_X2_part c M0 a1 = some res → Mt l yX2_part cX2_part 3 (none : Option FieldType) 4 85 0 0 false K [.ref 2, .ref a1] ((qTX c), (qLX c), (qPX c), M0) (none) (((qTX c), (qLX c), (qPX c), res)) := by
  refine Mt.of (fun (_ : q_MM) => none) (fun (res : q_MM) => ((qTX c), (qLX c), (qPX c), res)) (by decide) (Nat.le_of_ble_eq_true rfl) ?_
  intro p e s m args below meth c0 A ad X hN
  have hb_18 : ∀ (x1 : Nat) (M : q_MM), GG p l e { frames := 4, cells := 0, slots := 0, locals := 85 } s m args below meth c0 K A ((qTX c), (qLX c), (qPX c), M0) ad false 3 (fun res => MQ below (q_Qc K false ad ((qTX c), (qLX c), (qPX c), M0) ((fun (_ : q_MM) => none) res) ((fun (res : q_MM) => ((qTX c), (qLX c), (qPX c), res)) res) A) args s 0 0 A) (b_X2_part_18 c x1 M) 18 [(1, .ref x1)] [] ((qTX c), (qLX c), (qPX c), M) 0 0 := by
    intro x1 M
    unfold b_X2_part_18
    refine g_aload_n X dX2_part_18 rfl 0 rfl ?_
    refine g_iconst (v := (-1)) X dX2_part_19 (by decide) ?_
    refine g_ck (fun hT1 => ?_)
    refine g_pfi X fa_X2_92 rfl (by decide +kernel) hT1 dX2_part_20 (fun M2 => ?_)
    exact g_vret X rfl rfl rfl dX2_part_23
  refine g_sub (lv' := [(0, .ref 2), (1, .ref a1)]) [0, 1] rfl ?_
  unfold f_X2_part
  refine g_aload_n X dX2_part_0 rfl 0 rfl ?_
  refine g_aload_n X dX2_part_1 rfl 1 rfl ?_
  refine g_ck (fun hT3 => ?_)
  refine g_geti X fa_X2_92 hT3 dX2_part_2 ?_
  refine g_bVr (As := [.int (M0 a1 8)]) (rest := []) X (c_X2_pictureAt l K c M0 (M0 a1 8)) lk_X2_66 rfl rfl rfl (Nat.le_of_ble_eq_true rfl) ⟨Nat.le_of_ble_eq_true rfl, Nat.le_of_ble_eq_true rfl⟩ ⟨Nat.zero_le _, Nat.zero_le _⟩ dX2_part_5 (fun r4 => ?_)
  refine g_astore_n X [(2, .ref r4), (0, .ref 2), (1, .ref a1)] dX2_part_8 rfl (by decide) rfl ?_
  refine g_aload_n X dX2_part_9 rfl 0 rfl ?_
  refine g_ifnull X 18 dX2_part_10 rfl (fun h5 => ?_) (fun h5 => ?_)
  · exact g_sub [2] rfl (hb_18 a1 M0)
  · refine g_aload_n X dX2_part_13 rfl 0 rfl ?_
    refine g_iconst (v := (-1)) X dX2_part_14 (by decide) ?_
    refine g_ck (fun hT6 => ?_)
    refine g_pfi X fa_X2_92 rfl (by decide +kernel) hT6 dX2_part_15 (fun M7 => ?_)
    exact g_sub [2] rfl (hb_18 a1 M7)
set_option maxHeartbeats 4000000 in
set_option maxRecDepth 100000 in
theorem c_X2_pair (l : Launch) (K : q_KK) (c : Nat → Nat) (M0 : q_MM) (a1 : Nat) (a2 : Nat) : ∀ res, f_X2_pair c M0 a1 a2 = some res → Mt l yX2_pair cX2_pair 3 (none : Option FieldType) 5 107 0 0 false K [.ref 2, .ref a1, .ref a2] ((qTX c), (qLX c), (qPX c), M0) (none) (((qTX c), (qLX c), (qPX c), res)) := by
  refine Mt.of (fun (_ : q_MM) => none) (fun (res : q_MM) => ((qTX c), (qLX c), (qPX c), res)) (by decide) (Nat.le_of_ble_eq_true rfl) ?_
  intro p e s m args below meth c0 A ad X hN
  refine g_sub (lv' := [(0, .ref 2), (1, .ref a1), (2, .ref a2)]) [0, 1, 2] rfl ?_
  unfold f_X2_pair
  refine g_aload_n X dX2_pair_0 rfl 0 rfl ?_
  refine g_aload_n X dX2_pair_1 rfl 1 rfl ?_
  refine g_bVv (As := [.ref a1]) (rest := []) X (c_X2_part l K c M0 a1) lk_X2_88 rfl rfl rfl (Nat.le_of_ble_eq_true rfl) ⟨Nat.le_of_ble_eq_true rfl, Nat.le_of_ble_eq_true rfl⟩ ⟨Nat.zero_le _, Nat.zero_le _⟩ dX2_pair_2 (fun r1 => ?_)
  refine g_aload_n X dX2_pair_5 rfl 2 rfl ?_
  refine g_ifnull X 30 dX2_pair_6 rfl (fun h2 => ?_) (fun h2 => ?_)
  · exact g_vret X rfl rfl rfl dX2_pair_30
  · refine g_aload_n X dX2_pair_9 rfl 0 rfl ?_
    refine g_aload_n X dX2_pair_10 rfl 2 rfl ?_
    refine g_bVv (As := [.ref a2]) (rest := []) X (c_X2_part l K c r1 a2) lk_X2_88 rfl rfl rfl (Nat.le_of_ble_eq_true rfl) ⟨Nat.le_of_ble_eq_true rfl, Nat.le_of_ble_eq_true rfl⟩ ⟨Nat.zero_le _, Nat.zero_le _⟩ dX2_pair_11 (fun r3 => ?_)
    refine g_aload_n X dX2_pair_14 rfl 1 rfl ?_
    refine g_aload_n X dX2_pair_15 rfl 2 rfl ?_
    refine g_ck (fun hT4 => ?_)
    refine g_geti X fa_X2_73 hT4 dX2_pair_16 ?_
    refine g_ck (fun hT5 => ?_)
    refine g_pfi X fa_X2_92 rfl (by decide +kernel) hT5 dX2_pair_19 (fun M6 => ?_)
    refine g_aload_n X dX2_pair_22 rfl 2 rfl ?_
    refine g_aload_n X dX2_pair_23 rfl 1 rfl ?_
    refine g_geti X fa_X2_73 hT5 dX2_pair_24 ?_
    refine g_pfi X fa_X2_92 rfl (by decide +kernel) hT4 dX2_pair_27 (fun M7 => ?_)
    exact g_vret X rfl rfl rfl dX2_pair_30
set_option maxHeartbeats 4000000 in
set_option maxRecDepth 100000 in
theorem c_X10_lightIn (l : Launch) (K : q_KK) (c : Nat → Nat) (M : q_MM) (o0 : Nat) (a1 : Int32) : ∀ res, f_X10_lightIn c M o0 a1 = some res → Mt l yX10_lightIn cX10_lightIn 3 (some FieldType.int) 0 0 0 0 false K [.ref o0, .int a1] ((qTX c), (qLX c), (qPX c), M) (some (.int res)) (((qTX c), (qLX c), (qPX c), M)) := by
  refine Mt.of (fun (res : Int32) => some (.int res)) (fun (_ : Int32) => ((qTX c), (qLX c), (qPX c), M)) (by decide) (Nat.le_of_ble_eq_true rfl) ?_
  intro p e s m args below meth c0 A ad X hN
  have hb_31 : ∀ (x0 : Nat) (x1 : Int32) (s0 : Int32), GG p l e { frames := 0, cells := 0, slots := 0, locals := 0 } s m args below meth c0 K A ((qTX c), (qLX c), (qPX c), M) ad false 3 (fun res => MQ below (q_Qc K false ad ((qTX c), (qLX c), (qPX c), M) ((fun (res : Int32) => some (.int res)) res) ((fun (_ : Int32) => ((qTX c), (qLX c), (qPX c), M)) res) A) args s 0 0 A) (b_X10_lightIn_31 c M x0 x1 s0) 31 [(0, .ref x0), (1, .int x1)] [.int s0] ((qTX c), (qLX c), (qPX c), M) 0 0 := by
    intro x0 x1 s0
    unfold b_X10_lightIn_31
    refine g_istore_n X [(2, .int s0), (0, .ref x0), (1, .int x1)] dX10_lightIn_31 rfl (by decide) rfl ?_
    refine g_iload_n X dX10_lightIn_32 rfl 0 rfl ?_
    refine g_if_eq X 40 dX10_lightIn_33 rfl (fun h1 => ?_) (fun h1 => ?_)
    · refine g_aload_n X dX10_lightIn_40 rfl 1 rfl ?_
      refine g_ck (fun hT2 => ?_)
      refine g_getr X fa_X10_9 hT2 rfl dX10_lightIn_41 ?_
      refine g_iload_n X dX10_lightIn_44 rfl 2 rfl ?_
      refine g_ck (fun hT3 => ?_)
      refine g_ild X hT3 rfl dX10_lightIn_45 (fun v4 => ?_)
      exact g_iret X rfl rfl rfl dX10_lightIn_46
    · refine g_iconst (v := 0) X dX10_lightIn_36 (by decide) ?_
      refine g_goto X 46 dX10_lightIn_37 rfl ?_
      exact g_iret X rfl rfl rfl dX10_lightIn_46
  have hb_26 : ∀ (x0 : Nat) (x1 : Int32), GG p l e { frames := 0, cells := 0, slots := 0, locals := 0 } s m args below meth c0 K A ((qTX c), (qLX c), (qPX c), M) ad false 3 (fun res => MQ below (q_Qc K false ad ((qTX c), (qLX c), (qPX c), M) ((fun (res : Int32) => some (.int res)) res) ((fun (_ : Int32) => ((qTX c), (qLX c), (qPX c), M)) res) A) args s 0 0 A) (b_X10_lightIn_26 c M x0 x1) 26 [(0, .ref x0), (1, .int x1)] [] ((qTX c), (qLX c), (qPX c), M) 0 0 := by
    intro x0 x1
    unfold b_X10_lightIn_26
    refine g_iconst (v := 1) X dX10_lightIn_26 (by decide) ?_
    refine g_goto X 31 dX10_lightIn_27 rfl ?_
    exact g_sub [0, 1] rfl (hb_31 x0 x1 1)
  have hb_30 : ∀ (x0 : Nat) (x1 : Int32), GG p l e { frames := 0, cells := 0, slots := 0, locals := 0 } s m args below meth c0 K A ((qTX c), (qLX c), (qPX c), M) ad false 3 (fun res => MQ below (q_Qc K false ad ((qTX c), (qLX c), (qPX c), M) ((fun (res : Int32) => some (.int res)) res) ((fun (_ : Int32) => ((qTX c), (qLX c), (qPX c), M)) res) A) args s 0 0 A) (b_X10_lightIn_30 c M x0 x1) 30 [(0, .ref x0), (1, .int x1)] [] ((qTX c), (qLX c), (qPX c), M) 0 0 := by
    intro x0 x1
    unfold b_X10_lightIn_30
    refine g_iconst (v := 0) X dX10_lightIn_30 (by decide) ?_
    exact g_sub [0, 1] rfl (hb_31 x0 x1 0)
  refine g_sub (lv' := [(0, .ref o0), (1, .int a1)]) [0, 1] rfl ?_
  unfold f_X10_lightIn
  refine g_iload_n X dX10_lightIn_0 rfl 1 rfl ?_
  refine g_if_lt X 26 dX10_lightIn_1 rfl (fun h5 => ?_) (fun h5 => ?_)
  · exact g_sub [0, 1] rfl (hb_26 o0 a1)
  · refine g_iload_n X dX10_lightIn_4 rfl 1 rfl ?_
    refine g_bipush (v := 24) X dX10_lightIn_5 (by decide) ?_
    refine g_icmp_ge X 26 dX10_lightIn_7 rfl (fun h6 => ?_) (fun h6 => ?_)
    · exact g_sub [0, 1] rfl (hb_26 o0 a1)
    · refine g_iload_n X dX10_lightIn_10 rfl 1 rfl ?_
      refine g_aload_n X dX10_lightIn_11 rfl 0 rfl ?_
      refine g_ck (fun hT7 => ?_)
      refine g_geti X fa_X10_15 hT7 dX10_lightIn_12 ?_
      refine g_icmp_lt X 30 dX10_lightIn_15 rfl (fun h8 => ?_) (fun h8 => ?_)
      · exact g_sub [0, 1] rfl (hb_30 o0 a1)
      · refine g_iload_n X dX10_lightIn_18 rfl 1 rfl ?_
        refine g_aload_n X dX10_lightIn_19 rfl 0 rfl ?_
        refine g_geti X fa_X10_19 hT7 dX10_lightIn_20 ?_
        refine g_icmp_gt X 30 dX10_lightIn_23 rfl (fun h9 => ?_) (fun h9 => ?_)
        · exact g_sub [0, 1] rfl (hb_30 o0 a1)
        · exact g_sub [0, 1] rfl (hb_26 o0 a1)
set_option maxHeartbeats 4000000 in
set_option maxRecDepth 100000 in
theorem c_X2_daylight (l : Launch) (K : q_KK) (c : Nat → Nat) (M : q_MM) (a1 : Nat) : ∀ res, f_X2_daylight c M a1 = some res → Mt l yX2_daylight cX2_daylight 4 (some FieldType.int) 1 22 0 0 false K [.ref 2, .ref a1] ((qTX c), (qLX c), (qPX c), M) (some (.int res)) (((qTX c), (qLX c), (qPX c), M)) := by
  refine Mt.of (fun (res : Int32) => some (.int res)) (fun (_ : Int32) => ((qTX c), (qLX c), (qPX c), M)) (by decide) (Nat.le_of_ble_eq_true rfl) ?_
  intro p e s m args below meth c0 A ad X hN
  have hb_9 : ∀ (nf : Nat) (x1 : Nat) (x2 : Int32) (x3 : Int32), GG p l e { frames := 1, cells := 0, slots := 0, locals := 22 } s m args below meth c0 K A ((qTX c), (qLX c), (qPX c), M) ad false 4 (fun res => MQ below (q_Qc K false ad ((qTX c), (qLX c), (qPX c), M) ((fun (res : Int32) => some (.int res)) res) ((fun (_ : Int32) => ((qTX c), (qLX c), (qPX c), M)) res) A) args s 0 0 A) (b_X2_daylight_9 c M nf x1 x2 x3) 9 [(0, .ref 2), (1, .ref x1), (2, .int x2), (3, .int x3)] [] ((qTX c), (qLX c), (qPX c), M) 0 0 := by
    intro  nf
    induction nf with
    | zero => intros; exact g_stop
    | succ nf ih =>
      intro x1 x2 x3
      rw [b_X2_daylight_9]
      refine g_iload_n X dX2_daylight_9 rfl 3 rfl ?_
      refine g_aload_n X dX2_daylight_10 rfl 0 rfl ?_
      refine g_getr X fa_X2_24 rfl rfl dX2_daylight_11 ?_
      refine g_iconst (v := 3) X dX2_daylight_14 (by decide) ?_
      refine g_ild X rfl rfl dX2_daylight_15 (fun v1 => ?_)
      refine g_icmp_gt X 33 dX2_daylight_16 rfl (fun h2 => ?_) (fun h2 => ?_)
      · refine g_iload_n X dX2_daylight_33 rfl 2 rfl ?_
        exact g_iret X rfl rfl rfl dX2_daylight_34
      · refine g_iload_n X dX2_daylight_19 rfl 2 rfl ?_
        refine g_aload_n X dX2_daylight_20 rfl 1 rfl ?_
        refine g_iload_n X dX2_daylight_21 rfl 3 rfl ?_
        refine g_ck (fun hT3 => ?_)
        refine g_bVi (As := [.int x3]) (rest := [.int x2]) X (c_X10_lightIn l K c M x1 x3) lk_X2_95 hT3 rfl rfl (Nat.le_of_ble_eq_true rfl) ⟨Nat.le_of_ble_eq_true rfl, Nat.le_of_ble_eq_true rfl⟩ ⟨Nat.zero_le _, Nat.zero_le _⟩ dX2_daylight_22 (fun r4 => ?_)
        refine g_iadd X dX2_daylight_25 ?_
        refine g_isn X (fun v5 => [(2, .int v5), (0, .ref 2), (1, .ref x1), (3, .int x3)]) dX2_daylight_26 rfl (by decide) (fun _ => rfl) (fun v5 => ?_)
        refine g_iinc (v := 1) X [(3, .int (x3 + 1)), (2, .int v5), (0, .ref 2), (1, .ref x1)] 3 dX2_daylight_27 rfl (by decide) (by decide) rfl ?_
        refine g_goto X 9 dX2_daylight_30 rfl ?_
        exact g_sub [2, 3, 1, 0] rfl (ih x1 v5 (x3 + 1))
  refine g_sub (lv' := [(0, .ref 2), (1, .ref a1)]) [0, 1] rfl ?_
  unfold f_X2_daylight
  refine g_iconst (v := 0) X dX2_daylight_0 (by decide) ?_
  refine g_istore_n X [(2, .int 0), (0, .ref 2), (1, .ref a1)] dX2_daylight_1 rfl (by decide) rfl ?_
  refine g_aload_n X dX2_daylight_2 rfl 1 rfl ?_
  refine g_getr X fa_X2_24 rfl rfl dX2_daylight_3 ?_
  refine g_iconst (v := 2) X dX2_daylight_6 (by decide) ?_
  refine g_ild X rfl rfl dX2_daylight_7 (fun v6 => ?_)
  refine g_istore_n X [(3, .int v6), (2, .int 0), (0, .ref 2), (1, .ref a1)] dX2_daylight_8 rfl (by decide) rfl ?_
  exact g_sub [2, 3, 1, 0] rfl (hb_9 q_fu a1 0 v6)
set_option maxHeartbeats 4000000 in
set_option maxRecDepth 100000 in
theorem c_X2_peak (l : Launch) (K : q_KK) (c : Nat → Nat) (M : q_MM) (a1 : Nat) : ∀ res, f_X2_peak c M a1 = some res → Mt l yX2_peak cX2_peak 4 (some FieldType.int) 1 22 0 0 false K [.ref 2, .ref a1] ((qTX c), (qLX c), (qPX c), M) (some (.int res)) (((qTX c), (qLX c), (qPX c), M)) := by
  refine Mt.of (fun (res : Int32) => some (.int res)) (fun (_ : Int32) => ((qTX c), (qLX c), (qPX c), M)) (by decide) (Nat.le_of_ble_eq_true rfl) ?_
  intro p e s m args below meth c0 A ad X hN
  have hb_9 : ∀ (nf : Nat) (x1 : Nat) (x2 : Int32) (x3 : Int32), GG p l e { frames := 1, cells := 0, slots := 0, locals := 22 } s m args below meth c0 K A ((qTX c), (qLX c), (qPX c), M) ad false 4 (fun res => MQ below (q_Qc K false ad ((qTX c), (qLX c), (qPX c), M) ((fun (res : Int32) => some (.int res)) res) ((fun (_ : Int32) => ((qTX c), (qLX c), (qPX c), M)) res) A) args s 0 0 A) (b_X2_peak_9 c M nf x1 x2 x3) 9 [(0, .ref 2), (1, .ref x1), (2, .int x2), (3, .int x3)] [] ((qTX c), (qLX c), (qPX c), M) 0 0 := by
    intro  nf
    induction nf with
    | zero => intros; exact g_stop
    | succ nf ih =>
      intro x1 x2 x3
      rw [b_X2_peak_9]
      refine g_iload_n X dX2_peak_9 rfl 3 rfl ?_
      refine g_aload_n X dX2_peak_10 rfl 0 rfl ?_
      refine g_getr X fa_X2_24 rfl rfl dX2_peak_11 ?_
      refine g_iconst (v := 3) X dX2_peak_14 (by decide) ?_
      refine g_ild X rfl rfl dX2_peak_15 (fun v1 => ?_)
      refine g_icmp_gt X 35 dX2_peak_16 rfl (fun h2 => ?_) (fun h2 => ?_)
      · refine g_iload_n X dX2_peak_35 rfl 2 rfl ?_
        exact g_iret X rfl rfl rfl dX2_peak_36
      · refine g_iload_n X dX2_peak_19 rfl 2 rfl ?_
        refine g_aload_n X dX2_peak_20 rfl 1 rfl ?_
        refine g_iload_n X dX2_peak_21 rfl 3 rfl ?_
        refine g_ck (fun hT3 => ?_)
        refine g_bVi (As := [.int x3]) (rest := [.int x2]) X (c_X10_lightIn l K c M x1 x3) lk_X2_95 hT3 rfl rfl (Nat.le_of_ble_eq_true rfl) ⟨Nat.le_of_ble_eq_true rfl, Nat.le_of_ble_eq_true rfl⟩ ⟨Nat.zero_le _, Nat.zero_le _⟩ dX2_peak_22 (fun r4 => ?_)
        refine g_mmax X lk_X2_98 (Nat.le_of_ble_eq_true rfl) ⟨Nat.le_of_ble_eq_true rfl, Nat.le_of_ble_eq_true rfl⟩ ⟨Nat.zero_le _, Nat.zero_le _⟩ dX2_peak_25 ?_
        refine g_isn X (fun v5 => [(2, .int v5), (0, .ref 2), (1, .ref x1), (3, .int x3)]) dX2_peak_28 rfl (by decide) (fun _ => rfl) (fun v5 => ?_)
        refine g_iinc (v := 1) X [(3, .int (x3 + 1)), (2, .int v5), (0, .ref 2), (1, .ref x1)] 3 dX2_peak_29 rfl (by decide) (by decide) rfl ?_
        refine g_goto X 9 dX2_peak_32 rfl ?_
        exact g_sub [2, 3, 1, 0] rfl (ih x1 v5 (x3 + 1))
  refine g_sub (lv' := [(0, .ref 2), (1, .ref a1)]) [0, 1] rfl ?_
  unfold f_X2_peak
  refine g_iconst (v := 0) X dX2_peak_0 (by decide) ?_
  refine g_istore_n X [(2, .int 0), (0, .ref 2), (1, .ref a1)] dX2_peak_1 rfl (by decide) rfl ?_
  refine g_aload_n X dX2_peak_2 rfl 1 rfl ?_
  refine g_getr X fa_X2_24 rfl rfl dX2_peak_3 ?_
  refine g_iconst (v := 2) X dX2_peak_6 (by decide) ?_
  refine g_ild X rfl rfl dX2_peak_7 (fun v6 => ?_)
  refine g_istore_n X [(3, .int v6), (2, .int 0), (0, .ref 2), (1, .ref a1)] dX2_peak_8 rfl (by decide) rfl ?_
  exact g_sub [2, 3, 1, 0] rfl (hb_9 q_fu a1 0 v6)
set_option maxHeartbeats 4000000 in
set_option maxRecDepth 100000 in
theorem c_X2_weightOn (l : Launch) (K : q_KK) (c : Nat → Nat) (M : q_MM) (a1 : Nat) : ∀ res, f_X2_weightOn c M a1 = some res → Mt l yX2_weightOn cX2_weightOn 4 (some FieldType.int) 3 64 0 0 false K [.ref 2, .ref a1] ((qTX c), (qLX c), (qPX c), M) (some (.int res)) (((qTX c), (qLX c), (qPX c), M)) := by
  refine Mt.of (fun (res : Int32) => some (.int res)) (fun (_ : Int32) => ((qTX c), (qLX c), (qPX c), M)) (by decide) (Nat.le_of_ble_eq_true rfl) ?_
  intro p e s m args below meth c0 A ad X hN
  have hb_49 : ∀ (k4 : Nat → Int32 → Int32 → Option (Int32)) (hk4 : ∀ (x1 : Nat) (x2 : Int32) (x3 : Int32), GG p l e { frames := 3, cells := 0, slots := 0, locals := 64 } s m args below meth c0 K A ((qTX c), (qLX c), (qPX c), M) ad false 4 (fun res => MQ below (q_Qc K false ad ((qTX c), (qLX c), (qPX c), M) ((fun (res : Int32) => some (.int res)) res) ((fun (_ : Int32) => ((qTX c), (qLX c), (qPX c), M)) res) A) args s 0 0 A) (k4 x1 x2 x3) 4 [(0, .ref 2), (1, .ref x1), (2, .int x2), (3, .int x3)] [] ((qTX c), (qLX c), (qPX c), M) 0 0) (x1 : Nat) (x3 : Int32) (s0 : Int32) (s1 : Int32), GG p l e { frames := 3, cells := 0, slots := 0, locals := 64 } s m args below meth c0 K A ((qTX c), (qLX c), (qPX c), M) ad false 4 (fun res => MQ below (q_Qc K false ad ((qTX c), (qLX c), (qPX c), M) ((fun (res : Int32) => some (.int res)) res) ((fun (_ : Int32) => ((qTX c), (qLX c), (qPX c), M)) res) A) args s 0 0 A) (b_X2_weightOn_49 c M k4 x1 x3 s0 s1) 49 [(0, .ref 2), (1, .ref x1), (3, .int x3)] [.int s0, .int s1] ((qTX c), (qLX c), (qPX c), M) 0 0 := by
    intro k4 hk4 x1 x3 s0 s1
    unfold b_X2_weightOn_49
    refine g_iadd X dX2_weightOn_49 ?_
    refine g_isn X (fun v1 => [(2, .int v1), (0, .ref 2), (1, .ref x1), (3, .int x3)]) dX2_weightOn_50 rfl (by decide) (fun _ => rfl) (fun v1 => ?_)
    refine g_iinc (v := 1) X [(3, .int (x3 + 1)), (2, .int v1), (0, .ref 2), (1, .ref x1)] 3 dX2_weightOn_51 rfl (by decide) (by decide) rfl ?_
    refine g_goto X 4 dX2_weightOn_54 rfl ?_
    exact g_sub [2, 3, 1, 0] rfl (hk4 x1 v1 (x3 + 1))
  have hb_4 : ∀ (nf : Nat) (x1 : Nat) (x2 : Int32) (x3 : Int32), GG p l e { frames := 3, cells := 0, slots := 0, locals := 64 } s m args below meth c0 K A ((qTX c), (qLX c), (qPX c), M) ad false 4 (fun res => MQ below (q_Qc K false ad ((qTX c), (qLX c), (qPX c), M) ((fun (res : Int32) => some (.int res)) res) ((fun (_ : Int32) => ((qTX c), (qLX c), (qPX c), M)) res) A) args s 0 0 A) (b_X2_weightOn_4 c M nf x1 x2 x3) 4 [(0, .ref 2), (1, .ref x1), (2, .int x2), (3, .int x3)] [] ((qTX c), (qLX c), (qPX c), M) 0 0 := by
    intro  nf
    induction nf with
    | zero => intros; exact g_stop
    | succ nf ih =>
      intro x1 x2 x3
      rw [b_X2_weightOn_4]
      refine g_iload_n X dX2_weightOn_4 rfl 3 rfl ?_
      refine g_aload_n X dX2_weightOn_5 rfl 0 rfl ?_
      refine g_getr X fa_X2_21 rfl rfl dX2_weightOn_6 ?_
      refine g_bVi (As := []) (rest := [.int x3]) X (c_Jx4a65c_size_8abf5 l K (qTX c) (qLX c) (qPX c) M 15) lk_X2_54 rfl rfl rfl (Nat.le_of_ble_eq_true rfl) ⟨Nat.le_of_ble_eq_true rfl, Nat.le_of_ble_eq_true rfl⟩ ⟨Nat.zero_le _, Nat.zero_le _⟩ dX2_weightOn_9 (fun r2 => ?_)
      refine g_icmp_ge X 57 dX2_weightOn_12 rfl (fun h3 => ?_) (fun h3 => ?_)
      · refine g_iload_n X dX2_weightOn_57 rfl 2 rfl ?_
        exact g_iret X rfl rfl rfl dX2_weightOn_58
      · refine g_iload_n X dX2_weightOn_15 rfl 2 rfl ?_
        refine g_aload_n X dX2_weightOn_16 rfl 0 rfl ?_
        refine g_getr X fa_X2_43 rfl rfl dX2_weightOn_17 ?_
        refine g_iload_n X dX2_weightOn_20 rfl 3 rfl ?_
        refine g_bVi (As := [.int x3]) (rest := [.int x2]) X (c_X1_wallUnder l K c M 21 x3) lk_X2_76 rfl rfl rfl (Nat.le_of_ble_eq_true rfl) ⟨Nat.le_of_ble_eq_true rfl, Nat.le_of_ble_eq_true rfl⟩ ⟨Nat.zero_le _, Nat.zero_le _⟩ dX2_weightOn_21 (fun r4 => ?_)
        refine g_aload_n X dX2_weightOn_24 rfl 1 rfl ?_
        refine g_ck (fun hT5 => ?_)
        refine g_geti X fa_X2_104 hT5 dX2_weightOn_25 ?_
        refine g_icmp_ne X 48 dX2_weightOn_28 rfl (fun h6 => ?_) (fun h6 => ?_)
        · refine g_aload_n X dX2_weightOn_31 rfl 0 rfl ?_
          refine g_getr X fa_X2_21 rfl rfl dX2_weightOn_32 ?_
          refine g_iload_n X dX2_weightOn_35 rfl 3 rfl ?_
          refine g_bVr (As := [.int x3]) (rest := [.int x2]) X (c_Jx4a65c_get_915e3 l K (qTX c) (qLX c) (qPX c) M 15 x3) lk_X2_58 rfl rfl rfl (Nat.le_of_ble_eq_true rfl) ⟨Nat.le_of_ble_eq_true rfl, Nat.le_of_ble_eq_true rfl⟩ ⟨Nat.zero_le _, Nat.zero_le _⟩ dX2_weightOn_36 (fun r7 => ?_)
          refine g_ck (fun hT8 => ?_)
          refine g_cast X (ci := 5) rfl wl_X2_64 hT8 dX2_weightOn_39 ?_
          refine g_geti X fa_X2_105 hT8 dX2_weightOn_42 ?_
          refine g_goto X 49 dX2_weightOn_45 rfl ?_
          exact g_sub [0, 1, 3] rfl (hb_49 (b_X2_weightOn_4 c M nf) ih x1 x3 (M r7 3) x2)
        · refine g_iconst (v := 0) X dX2_weightOn_48 (by decide) ?_
          exact g_sub [0, 1, 3] rfl (hb_49 (b_X2_weightOn_4 c M nf) ih x1 x3 0 x2)
  refine g_sub (lv' := [(0, .ref 2), (1, .ref a1)]) [0, 1] rfl ?_
  unfold f_X2_weightOn
  refine g_iconst (v := 0) X dX2_weightOn_0 (by decide) ?_
  refine g_istore_n X [(2, .int 0), (0, .ref 2), (1, .ref a1)] dX2_weightOn_1 rfl (by decide) rfl ?_
  refine g_iconst (v := 0) X dX2_weightOn_2 (by decide) ?_
  refine g_istore_n X [(3, .int 0), (2, .int 0), (0, .ref 2), (1, .ref a1)] dX2_weightOn_3 rfl (by decide) rfl ?_
  exact g_sub [2, 3, 1, 0] rfl (hb_4 q_fu a1 0 0)
set_option maxHeartbeats 4000000 in
set_option maxRecDepth 100000 in
theorem c_X2_widthOn (l : Launch) (K : q_KK) (c : Nat → Nat) (M : q_MM) (a1 : Nat) : ∀ res, f_X2_widthOn c M a1 = some res → Mt l yX2_widthOn cX2_widthOn 4 (some FieldType.int) 3 64 0 0 false K [.ref 2, .ref a1] ((qTX c), (qLX c), (qPX c), M) (some (.int res)) (((qTX c), (qLX c), (qPX c), M)) := by
  refine Mt.of (fun (res : Int32) => some (.int res)) (fun (_ : Int32) => ((qTX c), (qLX c), (qPX c), M)) (by decide) (Nat.le_of_ble_eq_true rfl) ?_
  intro p e s m args below meth c0 A ad X hN
  have hb_49 : ∀ (k4 : Nat → Int32 → Int32 → Option (Int32)) (hk4 : ∀ (x1 : Nat) (x2 : Int32) (x3 : Int32), GG p l e { frames := 3, cells := 0, slots := 0, locals := 64 } s m args below meth c0 K A ((qTX c), (qLX c), (qPX c), M) ad false 4 (fun res => MQ below (q_Qc K false ad ((qTX c), (qLX c), (qPX c), M) ((fun (res : Int32) => some (.int res)) res) ((fun (_ : Int32) => ((qTX c), (qLX c), (qPX c), M)) res) A) args s 0 0 A) (k4 x1 x2 x3) 4 [(0, .ref 2), (1, .ref x1), (2, .int x2), (3, .int x3)] [] ((qTX c), (qLX c), (qPX c), M) 0 0) (x1 : Nat) (x3 : Int32) (s0 : Int32) (s1 : Int32), GG p l e { frames := 3, cells := 0, slots := 0, locals := 64 } s m args below meth c0 K A ((qTX c), (qLX c), (qPX c), M) ad false 4 (fun res => MQ below (q_Qc K false ad ((qTX c), (qLX c), (qPX c), M) ((fun (res : Int32) => some (.int res)) res) ((fun (_ : Int32) => ((qTX c), (qLX c), (qPX c), M)) res) A) args s 0 0 A) (b_X2_widthOn_49 c M k4 x1 x3 s0 s1) 49 [(0, .ref 2), (1, .ref x1), (3, .int x3)] [.int s0, .int s1] ((qTX c), (qLX c), (qPX c), M) 0 0 := by
    intro k4 hk4 x1 x3 s0 s1
    unfold b_X2_widthOn_49
    refine g_iadd X dX2_widthOn_49 ?_
    refine g_isn X (fun v1 => [(2, .int v1), (0, .ref 2), (1, .ref x1), (3, .int x3)]) dX2_widthOn_50 rfl (by decide) (fun _ => rfl) (fun v1 => ?_)
    refine g_iinc (v := 1) X [(3, .int (x3 + 1)), (2, .int v1), (0, .ref 2), (1, .ref x1)] 3 dX2_widthOn_51 rfl (by decide) (by decide) rfl ?_
    refine g_goto X 4 dX2_widthOn_54 rfl ?_
    exact g_sub [2, 3, 1, 0] rfl (hk4 x1 v1 (x3 + 1))
  have hb_4 : ∀ (nf : Nat) (x1 : Nat) (x2 : Int32) (x3 : Int32), GG p l e { frames := 3, cells := 0, slots := 0, locals := 64 } s m args below meth c0 K A ((qTX c), (qLX c), (qPX c), M) ad false 4 (fun res => MQ below (q_Qc K false ad ((qTX c), (qLX c), (qPX c), M) ((fun (res : Int32) => some (.int res)) res) ((fun (_ : Int32) => ((qTX c), (qLX c), (qPX c), M)) res) A) args s 0 0 A) (b_X2_widthOn_4 c M nf x1 x2 x3) 4 [(0, .ref 2), (1, .ref x1), (2, .int x2), (3, .int x3)] [] ((qTX c), (qLX c), (qPX c), M) 0 0 := by
    intro  nf
    induction nf with
    | zero => intros; exact g_stop
    | succ nf ih =>
      intro x1 x2 x3
      rw [b_X2_widthOn_4]
      refine g_iload_n X dX2_widthOn_4 rfl 3 rfl ?_
      refine g_aload_n X dX2_widthOn_5 rfl 0 rfl ?_
      refine g_getr X fa_X2_21 rfl rfl dX2_widthOn_6 ?_
      refine g_bVi (As := []) (rest := [.int x3]) X (c_Jx4a65c_size_8abf5 l K (qTX c) (qLX c) (qPX c) M 15) lk_X2_54 rfl rfl rfl (Nat.le_of_ble_eq_true rfl) ⟨Nat.le_of_ble_eq_true rfl, Nat.le_of_ble_eq_true rfl⟩ ⟨Nat.zero_le _, Nat.zero_le _⟩ dX2_widthOn_9 (fun r2 => ?_)
      refine g_icmp_ge X 57 dX2_widthOn_12 rfl (fun h3 => ?_) (fun h3 => ?_)
      · refine g_iload_n X dX2_widthOn_57 rfl 2 rfl ?_
        exact g_iret X rfl rfl rfl dX2_widthOn_58
      · refine g_iload_n X dX2_widthOn_15 rfl 2 rfl ?_
        refine g_aload_n X dX2_widthOn_16 rfl 0 rfl ?_
        refine g_getr X fa_X2_43 rfl rfl dX2_widthOn_17 ?_
        refine g_iload_n X dX2_widthOn_20 rfl 3 rfl ?_
        refine g_bVi (As := [.int x3]) (rest := [.int x2]) X (c_X1_wallUnder l K c M 21 x3) lk_X2_76 rfl rfl rfl (Nat.le_of_ble_eq_true rfl) ⟨Nat.le_of_ble_eq_true rfl, Nat.le_of_ble_eq_true rfl⟩ ⟨Nat.zero_le _, Nat.zero_le _⟩ dX2_widthOn_21 (fun r4 => ?_)
        refine g_aload_n X dX2_widthOn_24 rfl 1 rfl ?_
        refine g_ck (fun hT5 => ?_)
        refine g_geti X fa_X2_104 hT5 dX2_widthOn_25 ?_
        refine g_icmp_ne X 48 dX2_widthOn_28 rfl (fun h6 => ?_) (fun h6 => ?_)
        · refine g_aload_n X dX2_widthOn_31 rfl 0 rfl ?_
          refine g_getr X fa_X2_21 rfl rfl dX2_widthOn_32 ?_
          refine g_iload_n X dX2_widthOn_35 rfl 3 rfl ?_
          refine g_bVr (As := [.int x3]) (rest := [.int x2]) X (c_Jx4a65c_get_915e3 l K (qTX c) (qLX c) (qPX c) M 15 x3) lk_X2_58 rfl rfl rfl (Nat.le_of_ble_eq_true rfl) ⟨Nat.le_of_ble_eq_true rfl, Nat.le_of_ble_eq_true rfl⟩ ⟨Nat.zero_le _, Nat.zero_le _⟩ dX2_widthOn_36 (fun r7 => ?_)
          refine g_ck (fun hT8 => ?_)
          refine g_cast X (ci := 5) rfl wl_X2_64 hT8 dX2_widthOn_39 ?_
          refine g_geti X fa_X2_108 hT8 dX2_widthOn_42 ?_
          refine g_goto X 49 dX2_widthOn_45 rfl ?_
          exact g_sub [0, 1, 3] rfl (hb_49 (b_X2_widthOn_4 c M nf) ih x1 x3 (M r7 1) x2)
        · refine g_iconst (v := 0) X dX2_widthOn_48 (by decide) ?_
          exact g_sub [0, 1, 3] rfl (hb_49 (b_X2_widthOn_4 c M nf) ih x1 x3 0 x2)
  refine g_sub (lv' := [(0, .ref 2), (1, .ref a1)]) [0, 1] rfl ?_
  unfold f_X2_widthOn
  refine g_iconst (v := 0) X dX2_widthOn_0 (by decide) ?_
  refine g_istore_n X [(2, .int 0), (0, .ref 2), (1, .ref a1)] dX2_widthOn_1 rfl (by decide) rfl ?_
  refine g_iconst (v := 0) X dX2_widthOn_2 (by decide) ?_
  refine g_istore_n X [(3, .int 0), (2, .int 0), (0, .ref 2), (1, .ref a1)] dX2_widthOn_3 rfl (by decide) rfl ?_
  exact g_sub [2, 3, 1, 0] rfl (hb_4 q_fu a1 0 0)
set_option maxHeartbeats 4000000 in
set_option maxRecDepth 100000 in
theorem c_X2_tooHigh (l : Launch) (K : q_KK) (c : Nat → Nat) (M : q_MM) (a1 : Nat) (a2 : Nat) : ∀ res, f_X2_tooHigh c M a1 a2 = some res → Mt l yX2_tooHigh cX2_tooHigh 4 (some FieldType.boolean) 0 0 0 0 false K [.ref 2, .ref a1, .ref a2] ((qTX c), (qLX c), (qPX c), M) (some (.int res)) (((qTX c), (qLX c), (qPX c), M)) := by
  refine Mt.of (fun (res : Int32) => some (.int res)) (fun (_ : Int32) => ((qTX c), (qLX c), (qPX c), M)) (by decide) (Nat.le_of_ble_eq_true rfl) ?_
  intro p e s m args below meth c0 A ad X hN
  have hb_32 : GG p l e { frames := 0, cells := 0, slots := 0, locals := 0 } s m args below meth c0 K A ((qTX c), (qLX c), (qPX c), M) ad false 4 (fun res => MQ below (q_Qc K false ad ((qTX c), (qLX c), (qPX c), M) ((fun (res : Int32) => some (.int res)) res) ((fun (_ : Int32) => ((qTX c), (qLX c), (qPX c), M)) res) A) args s 0 0 A) (b_X2_tooHigh_32 c M ) 32 [] [] ((qTX c), (qLX c), (qPX c), M) 0 0 := by
    unfold b_X2_tooHigh_32
    refine g_iconst (v := 1) X dX2_tooHigh_32 (by decide) ?_
    refine g_goto X 37 dX2_tooHigh_33 rfl ?_
    exact g_zret X rfl rfl rfl dX2_tooHigh_37
  refine g_sub (lv' := [(0, .ref 2), (1, .ref a1), (2, .ref a2)]) [0, 1, 2] rfl ?_
  unfold f_X2_tooHigh
  refine g_aload_n X dX2_tooHigh_0 rfl 0 rfl ?_
  refine g_getr X fa_X2_24 rfl rfl dX2_tooHigh_1 ?_
  refine g_iconst (v := 0) X dX2_tooHigh_4 (by decide) ?_
  refine g_ild X rfl rfl dX2_tooHigh_5 (fun v1 => ?_)
  refine g_istore_n X [(3, .int v1), (0, .ref 2), (1, .ref a1), (2, .ref a2)] dX2_tooHigh_6 rfl (by decide) rfl ?_
  refine g_aload_n X dX2_tooHigh_7 rfl 2 rfl ?_
  refine g_ck (fun hT2 => ?_)
  refine g_geti X fa_X2_111 hT2 dX2_tooHigh_8 ?_
  refine g_iconst (v := 2) X dX2_tooHigh_11 (by decide) ?_
  refine g_iload_n X dX2_tooHigh_12 rfl 0 rfl ?_
  refine g_imul X dX2_tooHigh_13 ?_
  refine g_icmp_gt X 32 dX2_tooHigh_14 rfl (fun h3 => ?_) (fun h3 => ?_)
  · exact g_sub [] rfl (hb_32)
  · refine g_aload_n X dX2_tooHigh_17 rfl 2 rfl ?_
    refine g_geti X fa_X2_111 hT2 dX2_tooHigh_18 ?_
    refine g_iconst (v := 2) X dX2_tooHigh_21 (by decide) ?_
    refine g_aload_n X dX2_tooHigh_22 rfl 3 rfl ?_
    refine g_ck (fun hT4 => ?_)
    refine g_geti X fa_X2_114 hT4 dX2_tooHigh_23 ?_
    refine g_iload_n X dX2_tooHigh_26 rfl 0 rfl ?_
    refine g_isub X dX2_tooHigh_27 ?_
    refine g_imul X dX2_tooHigh_28 ?_
    refine g_icmp_le X 36 dX2_tooHigh_29 rfl (fun h5 => ?_) (fun h5 => ?_)
    · refine g_iconst (v := 0) X dX2_tooHigh_36 (by decide) ?_
      exact g_zret X rfl rfl rfl dX2_tooHigh_37
    · exact g_sub [] rfl (hb_32)
set_option maxHeartbeats 4000000 in
set_option maxRecDepth 100000 in
theorem c_X2_hindrance (l : Launch) (K : q_KK) (c : Nat → Nat) (M : q_MM) (a1 : Nat) (a2 : Nat) (a3 : Nat) (a4 : Int32) : ∀ res, f_X2_hindrance c M a1 a2 a3 a4 = some res → Mt l yX2_hindrance cX2_hindrance 10 (some FieldType.int) 3 64 0 0 false K [.ref 2, .ref a1, .ref a2, .ref a3, .int a4] ((qTX c), (qLX c), (qPX c), M) (some (.int res)) (((qTX c), (qLX c), (qPX c), M)) := by
  refine Mt.of (fun (res : Int32) => some (.int res)) (fun (_ : Int32) => ((qTX c), (qLX c), (qPX c), M)) (by decide) (Nat.le_of_ble_eq_true rfl) ?_
  intro p e s m args below meth c0 A ad X hN
  have hb_151 : ∀ (k49 : Nat → Nat → Nat → Int32 → Int32 → Int32 → Int32 → Option (Int32)) (hk49 : ∀ (x1 : Nat) (x2 : Nat) (x3 : Nat) (x4 : Int32) (x5 : Int32) (x6 : Int32) (x7 : Int32), GG p l e { frames := 3, cells := 0, slots := 0, locals := 64 } s m args below meth c0 K A ((qTX c), (qLX c), (qPX c), M) ad false 10 (fun res => MQ below (q_Qc K false ad ((qTX c), (qLX c), (qPX c), M) ((fun (res : Int32) => some (.int res)) res) ((fun (_ : Int32) => ((qTX c), (qLX c), (qPX c), M)) res) A) args s 0 0 A) (k49 x1 x2 x3 x4 x5 x6 x7) 49 [(0, .ref 2), (1, .ref x1), (2, .ref x2), (3, .ref x3), (4, .int x4), (5, .int x5), (6, .int x6), (7, .int x7)] [] ((qTX c), (qLX c), (qPX c), M) 0 0) (x1 : Nat) (x2 : Nat) (x3 : Nat) (x4 : Int32) (x5 : Int32) (x6 : Int32) (x7 : Int32), GG p l e { frames := 3, cells := 0, slots := 0, locals := 64 } s m args below meth c0 K A ((qTX c), (qLX c), (qPX c), M) ad false 10 (fun res => MQ below (q_Qc K false ad ((qTX c), (qLX c), (qPX c), M) ((fun (res : Int32) => some (.int res)) res) ((fun (_ : Int32) => ((qTX c), (qLX c), (qPX c), M)) res) A) args s 0 0 A) (b_X2_hindrance_151 c M k49 x1 x2 x3 x4 x5 x6 x7) 151 [(0, .ref 2), (1, .ref x1), (2, .ref x2), (3, .ref x3), (4, .int x4), (5, .int x5), (6, .int x6), (7, .int x7)] [] ((qTX c), (qLX c), (qPX c), M) 0 0 := by
    intro k49 hk49 x1 x2 x3 x4 x5 x6 x7
    unfold b_X2_hindrance_151
    refine g_iinc (v := 1) X [(7, .int (x7 + 1)), (0, .ref 2), (1, .ref x1), (2, .ref x2), (3, .ref x3), (4, .int x4), (5, .int x5), (6, .int x6)] 7 dX2_hindrance_151 rfl (by decide) (by decide) rfl ?_
    refine g_goto X 49 dX2_hindrance_154 rfl ?_
    exact g_sub [1, 2, 3, 4, 5, 6, 7, 0] rfl (hk49 x1 x2 x3 x4 x5 x6 (x7 + 1))
  have hb_141 : ∀ (k49 : Nat → Nat → Nat → Int32 → Int32 → Int32 → Int32 → Option (Int32)) (hk49 : ∀ (x1 : Nat) (x2 : Nat) (x3 : Nat) (x4 : Int32) (x5 : Int32) (x6 : Int32) (x7 : Int32), GG p l e { frames := 3, cells := 0, slots := 0, locals := 64 } s m args below meth c0 K A ((qTX c), (qLX c), (qPX c), M) ad false 10 (fun res => MQ below (q_Qc K false ad ((qTX c), (qLX c), (qPX c), M) ((fun (res : Int32) => some (.int res)) res) ((fun (_ : Int32) => ((qTX c), (qLX c), (qPX c), M)) res) A) args s 0 0 A) (k49 x1 x2 x3 x4 x5 x6 x7) 49 [(0, .ref 2), (1, .ref x1), (2, .ref x2), (3, .ref x3), (4, .int x4), (5, .int x5), (6, .int x6), (7, .int x7)] [] ((qTX c), (qLX c), (qPX c), M) 0 0) (x1 : Nat) (x2 : Nat) (x3 : Nat) (x4 : Int32) (x5 : Int32) (x6 : Int32) (x7 : Int32) (x8 : Nat), GG p l e { frames := 3, cells := 0, slots := 0, locals := 64 } s m args below meth c0 K A ((qTX c), (qLX c), (qPX c), M) ad false 10 (fun res => MQ below (q_Qc K false ad ((qTX c), (qLX c), (qPX c), M) ((fun (res : Int32) => some (.int res)) res) ((fun (_ : Int32) => ((qTX c), (qLX c), (qPX c), M)) res) A) args s 0 0 A) (b_X2_hindrance_141 c M k49 x1 x2 x3 x4 x5 x6 x7 x8) 141 [(0, .ref 2), (1, .ref x1), (2, .ref x2), (3, .ref x3), (4, .int x4), (5, .int x5), (6, .int x6), (7, .int x7), (8, .ref x8)] [] ((qTX c), (qLX c), (qPX c), M) 0 0 := by
    intro k49 hk49 x1 x2 x3 x4 x5 x6 x7 x8
    unfold b_X2_hindrance_141
    refine g_iload X dX2_hindrance_141 6 rfl ?_
    refine g_aload X dX2_hindrance_143 8 rfl ?_
    refine g_ck (fun hT1 => ?_)
    refine g_geti X fa_X2_105 hT1 dX2_hindrance_145 ?_
    refine g_iadd X dX2_hindrance_148 ?_
    refine g_is X (fun v2 => [(6, .int v2), (0, .ref 2), (1, .ref x1), (2, .ref x2), (3, .ref x3), (4, .int x4), (5, .int x5), (7, .int x7), (8, .ref x8)]) dX2_hindrance_149 (by decide) (fun _ => rfl) (fun v2 => ?_)
    exact g_sub [1, 2, 3, 4, 5, 6, 0, 7] rfl (hb_151 k49 hk49 x1 x2 x3 x4 x5 v2 x7)
  have hb_49 : ∀ (nf : Nat) (x1 : Nat) (x2 : Nat) (x3 : Nat) (x4 : Int32) (x5 : Int32) (x6 : Int32) (x7 : Int32), GG p l e { frames := 3, cells := 0, slots := 0, locals := 64 } s m args below meth c0 K A ((qTX c), (qLX c), (qPX c), M) ad false 10 (fun res => MQ below (q_Qc K false ad ((qTX c), (qLX c), (qPX c), M) ((fun (res : Int32) => some (.int res)) res) ((fun (_ : Int32) => ((qTX c), (qLX c), (qPX c), M)) res) A) args s 0 0 A) (b_X2_hindrance_49 c M nf x1 x2 x3 x4 x5 x6 x7) 49 [(0, .ref 2), (1, .ref x1), (2, .ref x2), (3, .ref x3), (4, .int x4), (5, .int x5), (6, .int x6), (7, .int x7)] [] ((qTX c), (qLX c), (qPX c), M) 0 0 := by
    intro  nf
    induction nf with
    | zero => intros; exact g_stop
    | succ nf ih =>
      intro x1 x2 x3 x4 x5 x6 x7
      rw [b_X2_hindrance_49]
      refine g_iload X dX2_hindrance_49 7 rfl ?_
      refine g_aload_n X dX2_hindrance_51 rfl 0 rfl ?_
      refine g_getr X fa_X2_21 rfl rfl dX2_hindrance_52 ?_
      refine g_bVi (As := []) (rest := [.int x7]) X (c_Jx4a65c_size_8abf5 l K (qTX c) (qLX c) (qPX c) M 15) lk_X2_54 rfl rfl rfl (Nat.le_of_ble_eq_true rfl) ⟨Nat.le_of_ble_eq_true rfl, Nat.le_of_ble_eq_true rfl⟩ ⟨Nat.zero_le _, Nat.zero_le _⟩ dX2_hindrance_55 (fun r3 => ?_)
      refine g_icmp_ge X 157 dX2_hindrance_58 rfl (fun h4 => ?_) (fun h4 => ?_)
      · refine g_iload X dX2_hindrance_157 6 rfl ?_
        refine g_aload_n X dX2_hindrance_159 rfl 3 rfl ?_
        refine g_ck (fun hT5 => ?_)
        refine g_geti X fa_X2_125 hT5 dX2_hindrance_160 ?_
        refine g_icmp_le X 170 dX2_hindrance_163 rfl (fun h6 => ?_) (fun h6 => ?_)
        · refine g_iconst (v := 0) X dX2_hindrance_170 (by decide) ?_
          exact g_iret X rfl rfl rfl dX2_hindrance_171
        · refine g_iconst (v := 4) X dX2_hindrance_166 (by decide) ?_
          refine g_goto X 171 dX2_hindrance_167 rfl ?_
          exact g_iret X rfl rfl rfl dX2_hindrance_171
      · refine g_iload X dX2_hindrance_61 7 rfl ?_
        refine g_aload_n X dX2_hindrance_63 rfl 2 rfl ?_
        refine g_ck (fun hT7 => ?_)
        refine g_geti X fa_X2_73 hT7 dX2_hindrance_64 ?_
        refine g_icmp_eq X 151 dX2_hindrance_67 rfl (fun h8 => ?_) (fun h8 => ?_)
        · exact g_sub [0, 1, 2, 3, 4, 5, 6, 7] rfl (hb_151 (b_X2_hindrance_49 c M nf) ih x1 x2 x3 x4 x5 x6 x7)
        · refine g_aload_n X dX2_hindrance_70 rfl 1 rfl ?_
          refine g_iload X dX2_hindrance_71 7 rfl ?_
          refine g_ck (fun hT9 => ?_)
          refine g_bVi (As := [.int x7]) (rest := []) X (c_X1_wallUnder l K c M x1 x7) lk_X2_76 hT9 rfl rfl (Nat.le_of_ble_eq_true rfl) ⟨Nat.le_of_ble_eq_true rfl, Nat.le_of_ble_eq_true rfl⟩ ⟨Nat.zero_le _, Nat.zero_le _⟩ dX2_hindrance_73 (fun r10 => ?_)
          refine g_aload_n X dX2_hindrance_76 rfl 3 rfl ?_
          refine g_ck (fun hT11 => ?_)
          refine g_geti X fa_X2_104 hT11 dX2_hindrance_77 ?_
          refine g_icmp_eq X 86 dX2_hindrance_80 rfl (fun h12 => ?_) (fun h12 => ?_)
          · refine g_aload_n X dX2_hindrance_86 rfl 0 rfl ?_
            refine g_getr X fa_X2_21 rfl rfl dX2_hindrance_87 ?_
            refine g_iload X dX2_hindrance_90 7 rfl ?_
            refine g_bVr (As := [.int x7]) (rest := []) X (c_Jx4a65c_get_915e3 l K (qTX c) (qLX c) (qPX c) M 15 x7) lk_X2_58 rfl rfl rfl (Nat.le_of_ble_eq_true rfl) ⟨Nat.le_of_ble_eq_true rfl, Nat.le_of_ble_eq_true rfl⟩ ⟨Nat.zero_le _, Nat.zero_le _⟩ dX2_hindrance_92 (fun r13 => ?_)
            refine g_ck (fun hT14 => ?_)
            refine g_cast X (ci := 5) rfl wl_X2_64 hT14 dX2_hindrance_95 ?_
            refine g_astore X [(8, .ref r13), (0, .ref 2), (1, .ref x1), (2, .ref x2), (3, .ref x3), (4, .int x4), (5, .int x5), (6, .int x6), (7, .int x7)] dX2_hindrance_98 (by decide) rfl ?_
            refine g_aload_n X dX2_hindrance_100 rfl 2 rfl ?_
            refine g_iload X dX2_hindrance_101 8 rfl ?_
            refine g_bVi (As := [.int x7]) (rest := []) X (c_X1_leftSide l K c M x1 x7) lk_X2_122 hT9 rfl rfl (Nat.le_of_ble_eq_true rfl) ⟨Nat.le_of_ble_eq_true rfl, Nat.le_of_ble_eq_true rfl⟩ ⟨Nat.zero_le _, Nat.zero_le _⟩ dX2_hindrance_103 (fun r15 => ?_)
            refine g_istore X [(9, .int r15), (8, .ref r13), (0, .ref 2), (1, .ref x1), (2, .ref x2), (3, .ref x3), (4, .int x4), (5, .int x5), (6, .int x6), (7, .int x7)] dX2_hindrance_106 (by decide) rfl ?_
            refine g_iload X dX2_hindrance_108 6 rfl ?_
            refine g_iload X dX2_hindrance_110 0 rfl ?_
            refine g_aload X dX2_hindrance_112 1 rfl ?_
            refine g_geti X fa_X2_108 hT14 dX2_hindrance_114 ?_
            refine g_iadd X dX2_hindrance_117 ?_
            refine g_iload X dX2_hindrance_118 7 rfl ?_
            refine g_iadd X dX2_hindrance_120 ?_
            refine g_icmp_ge X 141 dX2_hindrance_121 rfl (fun h16 => ?_) (fun h16 => ?_)
            · exact g_sub [2, 3, 4, 5, 6, 7, 8, 9, 1] rfl (hb_141 (b_X2_hindrance_49 c M nf) ih x1 x2 x3 x4 x5 x6 x7 r13)
            · refine g_iload X dX2_hindrance_124 0 rfl ?_
              refine g_iload X dX2_hindrance_126 6 rfl ?_
              refine g_aload_n X dX2_hindrance_128 rfl 4 rfl ?_
              refine g_geti X fa_X2_108 hT7 dX2_hindrance_129 ?_
              refine g_iadd X dX2_hindrance_132 ?_
              refine g_iload X dX2_hindrance_133 7 rfl ?_
              refine g_iadd X dX2_hindrance_135 ?_
              refine g_icmp_ge X 141 dX2_hindrance_136 rfl (fun h17 => ?_) (fun h17 => ?_)
              · exact g_sub [2, 3, 4, 5, 6, 7, 8, 9, 1] rfl (hb_141 (b_X2_hindrance_49 c M nf) ih x1 x2 x3 x4 x5 x6 x7 r13)
              · refine g_iconst (v := 3) X dX2_hindrance_139 (by decide) ?_
                exact g_iret X rfl rfl rfl dX2_hindrance_140
          · refine g_goto X 151 dX2_hindrance_83 rfl ?_
            exact g_sub [0, 1, 2, 3, 4, 5, 6, 7] rfl (hb_151 (b_X2_hindrance_49 c M nf) ih x1 x2 x3 x4 x5 x6 x7)
  refine g_sub (lv' := [(0, .ref 2), (1, .ref a1), (2, .ref a2), (3, .ref a3), (4, .int a4)]) [0, 1, 2, 3, 4] rfl ?_
  unfold f_X2_hindrance
  refine g_iload X dX2_hindrance_0 4 rfl ?_
  refine g_if_lt X 19 dX2_hindrance_2 rfl (fun h18 => ?_) (fun h18 => ?_)
  · refine g_iconst (v := 1) X dX2_hindrance_19 (by decide) ?_
    exact g_iret X rfl rfl rfl dX2_hindrance_20
  · refine g_iload X dX2_hindrance_5 4 rfl ?_
    refine g_aload_n X dX2_hindrance_7 rfl 3 rfl ?_
    refine g_ck (fun hT19 => ?_)
    refine g_geti X fa_X2_115 hT19 dX2_hindrance_8 ?_
    refine g_aload_n X dX2_hindrance_11 rfl 2 rfl ?_
    refine g_ck (fun hT20 => ?_)
    refine g_geti X fa_X2_108 hT20 dX2_hindrance_12 ?_
    refine g_isub X dX2_hindrance_15 ?_
    refine g_icmp_le X 21 dX2_hindrance_16 rfl (fun h21 => ?_) (fun h21 => ?_)
    · refine g_aload_n X dX2_hindrance_21 rfl 0 rfl ?_
      refine g_aload_n X dX2_hindrance_22 rfl 2 rfl ?_
      refine g_aload_n X dX2_hindrance_23 rfl 3 rfl ?_
      refine g_bVi (As := [.ref a2, .ref a3]) (rest := []) X (c_X2_tooHigh l K c M a2 a3) lk_X2_118 rfl rfl rfl (Nat.le_of_ble_eq_true rfl) ⟨Nat.le_of_ble_eq_true rfl, Nat.le_of_ble_eq_true rfl⟩ ⟨Nat.zero_le _, Nat.zero_le _⟩ dX2_hindrance_24 (fun r22 => ?_)
      refine g_if_eq X 32 dX2_hindrance_27 rfl (fun h23 => ?_) (fun h23 => ?_)
      · refine g_aload_n X dX2_hindrance_32 rfl 0 rfl ?_
        refine g_getr X fa_X2_24 rfl rfl dX2_hindrance_33 ?_
        refine g_iconst (v := 1) X dX2_hindrance_36 (by decide) ?_
        refine g_ild X rfl rfl dX2_hindrance_37 (fun v24 => ?_)
        refine g_istore X [(5, .int v24), (0, .ref 2), (1, .ref a1), (2, .ref a2), (3, .ref a3), (4, .int a4)] dX2_hindrance_38 (by decide) rfl ?_
        refine g_aload_n X dX2_hindrance_40 rfl 3 rfl ?_
        refine g_geti X fa_X2_105 hT20 dX2_hindrance_41 ?_
        refine g_is X (fun v25 => [(6, .int v25), (5, .int v24), (0, .ref 2), (1, .ref a1), (2, .ref a2), (3, .ref a3), (4, .int a4)]) dX2_hindrance_44 (by decide) (fun _ => rfl) (fun v25 => ?_)
        refine g_iconst (v := 0) X dX2_hindrance_46 (by decide) ?_
        refine g_istore X [(7, .int 0), (6, .int v25), (5, .int v24), (0, .ref 2), (1, .ref a1), (2, .ref a2), (3, .ref a3), (4, .int a4)] dX2_hindrance_47 (by decide) rfl ?_
        exact g_sub [3, 4, 5, 6, 7, 2, 1, 0] rfl (hb_49 q_fu a1 a2 a3 a4 v24 v25 0)
      · refine g_iconst (v := 2) X dX2_hindrance_30 (by decide) ?_
        exact g_iret X rfl rfl rfl dX2_hindrance_31
    · refine g_iconst (v := 1) X dX2_hindrance_19 (by decide) ?_
      exact g_iret X rfl rfl rfl dX2_hindrance_20
