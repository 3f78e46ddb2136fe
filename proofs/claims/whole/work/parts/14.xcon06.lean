set_option maxHeartbeats 4000000 in
set_option maxRecDepth 100000 in
theorem c_X11_shown (l : Launch) (K : q_KK) (c : Nat → Nat) (M : q_MM) (a1 : Int32) (a2 : Int32) (a3 : Int32) : ∀ res, f_X11_shown c M a1 a2 a3 = some res → Mt l yX11_shown cX11_shown 5 (some FieldType.int) 4 85 0 0 false K [.ref 1, .int a1, .int a2, .int a3] ((qTX c), (qLX c), (qPX c), M) (some (.int res)) (((qTX c), (qLX c), (qPX c), M)) := by
  refine Mt.of (fun (res : Int32) => some (.int res)) (fun (_ : Int32) => ((qTX c), (qLX c), (qPX c), M)) (by decide) (Nat.le_of_ble_eq_true rfl) ?_
  intro p e s m args below meth c0 A ad X hN
  have hb_38 : ∀ (x1 : Int32) (x2 : Int32) (x3 : Int32) (s0 : Int32), GG p l e { frames := 4, cells := 0, slots := 0, locals := 85 } s m args below meth c0 K A ((qTX c), (qLX c), (qPX c), M) ad false 5 (fun res => MQ below (q_Qc K false ad ((qTX c), (qLX c), (qPX c), M) ((fun (res : Int32) => some (.int res)) res) ((fun (_ : Int32) => ((qTX c), (qLX c), (qPX c), M)) res) A) args s 0 0 A) (b_X11_shown_38 c M x1 x2 x3 s0) 38 [(0, .ref 1), (1, .int x1), (2, .int x2), (3, .int x3)] [.int s0] ((qTX c), (qLX c), (qPX c), M) 0 0 := by
    intro x1 x2 x3 s0
    unfold b_X11_shown_38
    refine g_istore X [(4, .int s0), (0, .ref 1), (1, .int x1), (2, .int x2), (3, .int x3)] dX11_shown_38 (by decide) rfl ?_
    refine g_iload X dX11_shown_40 0 rfl ?_
    refine g_if_eq X 60 dX11_shown_42 rfl (fun h1 => ?_) (fun h1 => ?_)
    · refine g_iconst (v := (-1)) X dX11_shown_60 (by decide) ?_
      exact g_iret X rfl rfl rfl dX11_shown_61
    · refine g_aload_n X dX11_shown_45 rfl 1 rfl ?_
      refine g_getr X fa_X11_10 rfl rfl dX11_shown_46 ?_
      refine g_iconst (v := 1) X dX11_shown_49 (by decide) ?_
      refine g_iload_n X dX11_shown_50 rfl 2 rfl ?_
      refine g_ishl X dX11_shown_51 ?_
      refine g_iload_n X dX11_shown_52 rfl 3 rfl ?_
      refine g_iload_n X dX11_shown_53 rfl 4 rfl ?_
      refine g_bVi (As := [.int ((1 : Int32) <<< (x1 &&& 31)), .int x2, .int x3]) (rest := []) X (c_X2_nightsShown l K c M ((1 : Int32) <<< (x1 &&& 31)) x2 x3) lk_X11_299 rfl rfl rfl (Nat.le_of_ble_eq_true rfl) ⟨Nat.le_of_ble_eq_true rfl, Nat.le_of_ble_eq_true rfl⟩ ⟨Nat.zero_le _, Nat.zero_le _⟩ dX11_shown_54 (fun r2 => ?_)
      refine g_goto X 61 dX11_shown_57 rfl ?_
      exact g_iret X rfl rfl rfl dX11_shown_61
  have hb_37 : ∀ (x1 : Int32) (x2 : Int32) (x3 : Int32), GG p l e { frames := 4, cells := 0, slots := 0, locals := 85 } s m args below meth c0 K A ((qTX c), (qLX c), (qPX c), M) ad false 5 (fun res => MQ below (q_Qc K false ad ((qTX c), (qLX c), (qPX c), M) ((fun (res : Int32) => some (.int res)) res) ((fun (_ : Int32) => ((qTX c), (qLX c), (qPX c), M)) res) A) args s 0 0 A) (b_X11_shown_37 c M x1 x2 x3) 37 [(0, .ref 1), (1, .int x1), (2, .int x2), (3, .int x3)] [] ((qTX c), (qLX c), (qPX c), M) 0 0 := by
    intro x1 x2 x3
    unfold b_X11_shown_37
    refine g_iconst (v := 0) X dX11_shown_37 (by decide) ?_
    exact g_sub [0, 1, 2, 3] rfl (hb_38 x1 x2 x3 0)
  refine g_sub (lv' := [(0, .ref 1), (1, .int a1), (2, .int a2), (3, .int a3)]) [0, 1, 2, 3] rfl ?_
  unfold f_X11_shown
  refine g_aload_n X dX11_shown_0 rfl 0 rfl ?_
  refine g_getr X fa_X11_10 rfl rfl dX11_shown_1 ?_
  refine g_iload_n X dX11_shown_4 rfl 1 rfl ?_
  refine g_bVr (As := [.int a1]) (rest := []) X (c_X2_pictureAt l K c M a1) lk_X11_184 rfl rfl rfl (Nat.le_of_ble_eq_true rfl) ⟨Nat.le_of_ble_eq_true rfl, Nat.le_of_ble_eq_true rfl⟩ ⟨Nat.zero_le _, Nat.zero_le _⟩ dX11_shown_5 (fun r3 => ?_)
  refine g_ifnull X 37 dX11_shown_8 rfl (fun h4 => ?_) (fun h4 => ?_)
  · exact g_sub [0, 1, 2, 3] rfl (hb_37 a1 a2 a3)
  · refine g_iload_n X dX11_shown_11 rfl 2 rfl ?_
    refine g_iconst (v := 0) X dX11_shown_12 (by decide) ?_
    refine g_sipush (v := 400) X dX11_shown_13 (by decide) ?_
    refine g_bSi (As := [.int a2, .int 0, .int 400]) (rest := []) X (c_X11_within l K c M a2 0 400) lk_X11_82 rfl rfl (Nat.le_of_ble_eq_true rfl) ⟨Nat.le_of_ble_eq_true rfl, Nat.le_of_ble_eq_true rfl⟩ ⟨Nat.zero_le _, Nat.zero_le _⟩ dX11_shown_16 (fun r5 => ?_)
    refine g_if_eq X 37 dX11_shown_19 rfl (fun h6 => ?_) (fun h6 => ?_)
    · exact g_sub [0, 1, 2, 3] rfl (hb_37 a1 a2 a3)
    · refine g_iload_n X dX11_shown_22 rfl 3 rfl ?_
      refine g_iload_n X dX11_shown_23 rfl 2 rfl ?_
      refine g_sipush (v := 400) X dX11_shown_24 (by decide) ?_
      refine g_bSi (As := [.int a3, .int a2, .int 400]) (rest := []) X (c_X11_within l K c M a3 a2 400) lk_X11_82 rfl rfl (Nat.le_of_ble_eq_true rfl) ⟨Nat.le_of_ble_eq_true rfl, Nat.le_of_ble_eq_true rfl⟩ ⟨Nat.zero_le _, Nat.zero_le _⟩ dX11_shown_27 (fun r7 => ?_)
      refine g_if_eq X 37 dX11_shown_30 rfl (fun h8 => ?_) (fun h8 => ?_)
      · exact g_sub [0, 1, 2, 3] rfl (hb_37 a1 a2 a3)
      · refine g_iconst (v := 1) X dX11_shown_33 (by decide) ?_
        refine g_goto X 38 dX11_shown_34 rfl ?_
        exact g_sub [0, 1, 2, 3] rfl (hb_38 a1 a2 a3 1)
set_option maxHeartbeats 4000000 in
set_option maxRecDepth 100000 in
theorem c_X11_owed (l : Launch) (K : q_KK) (c : Nat → Nat) (M : q_MM) (a1 : Int32) (a2 : Int32) : ∀ res, f_X11_owed c M a1 a2 = some res → Mt l yX11_owed cX11_owed 4 (some FieldType.int) 4 87 0 0 false K [.ref 1, .int a1, .int a2] ((qTX c), (qLX c), (qPX c), M) (some (.int res)) (((qTX c), (qLX c), (qPX c), M)) := by
  refine Mt.of (fun (res : Int32) => some (.int res)) (fun (_ : Int32) => ((qTX c), (qLX c), (qPX c), M)) (by decide) (Nat.le_of_ble_eq_true rfl) ?_
  intro p e s m args below meth c0 A ad X hN
  refine g_sub (lv' := [(0, .ref 1), (1, .int a1), (2, .int a2)]) [0, 1, 2] rfl ?_
  unfold f_X11_owed
  refine g_iload_n X dX11_owed_0 rfl 1 rfl ?_
  refine g_iconst (v := 0) X dX11_owed_1 (by decide) ?_
  refine g_bipush (v := 7) X dX11_owed_2 (by decide) ?_
  refine g_bSi (As := [.int a1, .int 0, .int 7]) (rest := []) X (c_X11_within l K c M a1 0 7) lk_X11_82 rfl rfl (Nat.le_of_ble_eq_true rfl) ⟨Nat.le_of_ble_eq_true rfl, Nat.le_of_ble_eq_true rfl⟩ ⟨Nat.zero_le _, Nat.zero_le _⟩ dX11_owed_4 (fun r1 => ?_)
  refine g_if_eq X 25 dX11_owed_7 rfl (fun h2 => ?_) (fun h2 => ?_)
  · refine g_iconst (v := (-1)) X dX11_owed_25 (by decide) ?_
    exact g_iret X rfl rfl rfl dX11_owed_26
  · refine g_iload_n X dX11_owed_10 rfl 2 rfl ?_
    refine g_iconst (v := 0) X dX11_owed_11 (by decide) ?_
    refine g_aload_n X dX11_owed_12 rfl 0 rfl ?_
    refine g_getr X fa_X11_10 rfl rfl dX11_owed_13 ?_
    refine g_geti X fa_X11_289 rfl dX11_owed_16 ?_
    refine g_bSi (As := [.int a2, .int 0, .int (M 2 12)]) (rest := []) X (c_X11_within l K c M a2 0 (M 2 12)) lk_X11_82 rfl rfl (Nat.le_of_ble_eq_true rfl) ⟨Nat.le_of_ble_eq_true rfl, Nat.le_of_ble_eq_true rfl⟩ ⟨Nat.zero_le _, Nat.zero_le _⟩ dX11_owed_19 (fun r3 => ?_)
    refine g_if_ne X 27 dX11_owed_22 rfl (fun h4 => ?_) (fun h4 => ?_)
    · refine g_iconst (v := (-1)) X dX11_owed_25 (by decide) ?_
      exact g_iret X rfl rfl rfl dX11_owed_26
    · refine g_aload_n X dX11_owed_27 rfl 0 rfl ?_
      refine g_getr X fa_X11_10 rfl rfl dX11_owed_28 ?_
      refine g_iload_n X dX11_owed_31 rfl 1 rfl ?_
      refine g_bVi (As := [.int a1]) (rest := []) X (c_X2_givenBy l K c M a1) lk_X11_302 rfl rfl rfl (Nat.le_of_ble_eq_true rfl) ⟨Nat.le_of_ble_eq_true rfl, Nat.le_of_ble_eq_true rfl⟩ ⟨Nat.zero_le _, Nat.zero_le _⟩ dX11_owed_32 (fun r5 => ?_)
      refine g_istore_n X [(3, .int r5), (0, .ref 1), (1, .int a1), (2, .int a2)] dX11_owed_35 rfl (by decide) rfl ?_
      refine g_iload_n X dX11_owed_36 rfl 3 rfl ?_
      refine g_iload_n X dX11_owed_37 rfl 0 rfl ?_
      refine g_bSi (As := [.int r5]) (rest := [.int a2]) X (c_J6_bitCount_0f7a4 l K (qTX c) (qLX c) (qPX c) M r5) lk_X11_305 rfl rfl (Nat.le_of_ble_eq_true rfl) ⟨Nat.le_of_ble_eq_true rfl, Nat.le_of_ble_eq_true rfl⟩ ⟨Nat.zero_le _, Nat.zero_le _⟩ dX11_owed_38 (fun r6 => ?_)
      refine g_imul X dX11_owed_41 ?_
      refine g_aload_n X dX11_owed_42 rfl 1 rfl ?_
      refine g_getr X fa_X11_10 rfl rfl dX11_owed_43 ?_
      refine g_iload_n X dX11_owed_46 rfl 0 rfl ?_
      refine g_aload_n X dX11_owed_47 rfl 1 rfl ?_
      refine g_getr X fa_X11_10 rfl rfl dX11_owed_48 ?_
      refine g_geti X fa_X11_289 rfl dX11_owed_51 ?_
      refine g_iload_n X dX11_owed_54 rfl 3 rfl ?_
      refine g_isub X dX11_owed_55 ?_
      refine g_aload_n X dX11_owed_56 rfl 1 rfl ?_
      refine g_getr X fa_X11_10 rfl rfl dX11_owed_57 ?_
      refine g_geti X fa_X11_289 rfl dX11_owed_60 ?_
      refine g_bVi (As := [.int r5, .int ((M 2 12) - a2), .int (M 2 12)]) (rest := [.int (a2 * r6)]) X (c_X2_nightsShown l K c M r5 ((M 2 12) - a2) (M 2 12)) lk_X11_299 rfl rfl rfl (Nat.le_of_ble_eq_true rfl) ⟨Nat.le_of_ble_eq_true rfl, Nat.le_of_ble_eq_true rfl⟩ ⟨Nat.zero_le _, Nat.zero_le _⟩ dX11_owed_63 (fun r7 => ?_)
      refine g_isub X dX11_owed_66 ?_
      exact g_iret X rfl rfl rfl dX11_owed_67
set_option maxHeartbeats 4000000 in
set_option maxRecDepth 100000 in
theorem c_X11_like (l : Launch) (K : q_KK) (c : Nat → Nat) (M0 : q_MM) (a1 : Int32) (a2 : Int32) (a3 : Int32) : ∀ res, f_X11_like c M0 a1 a2 a3 = some res → Mt l yX11_like cX11_like 5 (some FieldType.int) 1 22 0 0 false K [.ref 1, .int a1, .int a2, .int a3] ((qTX c), (qLX c), (qPX c), M0) (some (.int res.1)) (((qTX c), (qLX c), (qPX c), res.2)) := by
  refine Mt.of (fun (res : Int32 × q_MM) => some (.int res.1)) (fun (res : Int32 × q_MM) => ((qTX c), (qLX c), (qPX c), res.2)) (by decide) (Nat.le_of_ble_eq_true rfl) ?_
  intro p e s m args below meth c0 A ad X hN
  have hb_31 : ∀ (M : q_MM), GG p l e { frames := 1, cells := 0, slots := 0, locals := 22 } s m args below meth c0 K A ((qTX c), (qLX c), (qPX c), M0) ad false 5 (fun res => MQ below (q_Qc K false ad ((qTX c), (qLX c), (qPX c), M0) ((fun (res : Int32 × q_MM) => some (.int res.1)) res) ((fun (res : Int32 × q_MM) => ((qTX c), (qLX c), (qPX c), res.2)) res) A) args s 0 0 A) (b_X11_like_31 c M) 31 [] [] ((qTX c), (qLX c), (qPX c), M) 0 0 := by
    intro M
    unfold b_X11_like_31
    exact g_stop
  refine g_sub (lv' := [(0, .ref 1), (1, .int a1), (2, .int a2), (3, .int a3)]) [0, 1, 2, 3] rfl ?_
  unfold f_X11_like
  refine g_iload_n X dX11_like_0 rfl 1 rfl ?_
  refine g_iconst (v := 0) X dX11_like_1 (by decide) ?_
  refine g_bipush (v := 7) X dX11_like_2 (by decide) ?_
  refine g_bSi (As := [.int a1, .int 0, .int 7]) (rest := []) X (c_X11_within l K c M0 a1 0 7) lk_X11_82 rfl rfl (Nat.le_of_ble_eq_true rfl) ⟨Nat.le_of_ble_eq_true rfl, Nat.le_of_ble_eq_true rfl⟩ ⟨Nat.zero_le _, Nat.zero_le _⟩ dX11_like_4 (fun r1 => ?_)
  refine g_if_eq X 31 dX11_like_7 rfl (fun h2 => ?_) (fun h2 => ?_)
  · exact g_sub [] rfl (hb_31 M0)
  · refine g_iload_n X dX11_like_10 rfl 2 rfl ?_
    refine g_iconst (v := 0) X dX11_like_11 (by decide) ?_
    refine g_bipush (v := 7) X dX11_like_12 (by decide) ?_
    refine g_bSi (As := [.int a2, .int 0, .int 7]) (rest := []) X (c_X11_within l K c M0 a2 0 7) lk_X11_82 rfl rfl (Nat.le_of_ble_eq_true rfl) ⟨Nat.le_of_ble_eq_true rfl, Nat.le_of_ble_eq_true rfl⟩ ⟨Nat.zero_le _, Nat.zero_le _⟩ dX11_like_14 (fun r3 => ?_)
    refine g_if_eq X 31 dX11_like_17 rfl (fun h4 => ?_) (fun h4 => ?_)
    · exact g_sub [] rfl (hb_31 M0)
    · refine g_iload_n X dX11_like_20 rfl 3 rfl ?_
      refine g_bipush (v := (-99)) X dX11_like_21 (by decide) ?_
      refine g_bipush (v := 99) X dX11_like_23 (by decide) ?_
      refine g_bSi (As := [.int a3, .int (-99), .int 99]) (rest := []) X (c_X11_within l K c M0 a3 (-99) 99) lk_X11_82 rfl rfl (Nat.le_of_ble_eq_true rfl) ⟨Nat.le_of_ble_eq_true rfl, Nat.le_of_ble_eq_true rfl⟩ ⟨Nat.zero_le _, Nat.zero_le _⟩ dX11_like_25 (fun r5 => ?_)
      refine g_if_ne X 39 dX11_like_28 rfl (fun h6 => ?_) (fun h6 => ?_)
      · exact g_sub [] rfl (hb_31 M0)
      · refine g_aload_n X dX11_like_39 rfl 0 rfl ?_
        refine g_getr X fa_X11_10 rfl rfl dX11_like_40 ?_
        refine g_getr X fa_X11_310 rfl rfl dX11_like_43 ?_
        refine g_iload_n X dX11_like_46 rfl 1 rfl ?_
        refine g_bipush (v := 8) X dX11_like_47 (by decide) ?_
        refine g_imul X dX11_like_49 ?_
        refine g_iload_n X dX11_like_50 rfl 2 rfl ?_
        refine g_iadd X dX11_like_51 ?_
        refine g_ild X rfl rfl dX11_like_52 (fun v7 => ?_)
        refine g_istore X [(4, .int v7), (0, .ref 1), (1, .int a1), (2, .int a2), (3, .int a3)] dX11_like_53 (by decide) rfl ?_
        refine g_aload_n X dX11_like_55 rfl 1 rfl ?_
        refine g_getr X fa_X11_10 rfl rfl dX11_like_56 ?_
        refine g_getr X fa_X11_310 rfl rfl dX11_like_59 ?_
        refine g_iload_n X dX11_like_62 rfl 2 rfl ?_
        refine g_bipush (v := 8) X dX11_like_63 (by decide) ?_
        refine g_imul X dX11_like_65 ?_
        refine g_iload_n X dX11_like_66 rfl 3 rfl ?_
        refine g_iadd X dX11_like_67 ?_
        refine g_iload_n X dX11_like_68 rfl 4 rfl ?_
        refine g_isv X rfl rfl dX11_like_69 (fun M8 => ?_)
        refine g_aload_n X dX11_like_70 rfl 1 rfl ?_
        refine g_getr X fa_X11_10 rfl rfl dX11_like_71 ?_
        refine g_getr X fa_X11_310 rfl rfl dX11_like_74 ?_
        refine g_iload_n X dX11_like_77 rfl 3 rfl ?_
        refine g_bipush (v := 8) X dX11_like_78 (by decide) ?_
        refine g_imul X dX11_like_80 ?_
        refine g_iload_n X dX11_like_81 rfl 2 rfl ?_
        refine g_iadd X dX11_like_82 ?_
        refine g_iload_n X dX11_like_83 rfl 4 rfl ?_
        refine g_isv X rfl rfl dX11_like_84 (fun M9 => ?_)
        refine g_iload X dX11_like_85 0 rfl ?_
        exact g_iret X rfl rfl rfl dX11_like_87
set_option maxHeartbeats 4000000 in
set_option maxRecDepth 100000 in
theorem c_X11_best (l : Launch) (K : q_KK) (c : Nat → Nat) (M0 : q_MM) (a1 : Int32) (a2 : Int32) : ∀ res, f_X11_best c M0 a1 a2 = some res → Mt l yX11_best cX11_best 5 (some FieldType.int) 7 158 0 0 false K [.ref 1, .int a1, .int a2] ((qTX c), (qLX c), (qPX c), M0) (some (.int res.1)) (((qTX c), (qLX c), (qPX c), res.2)) := by
  refine Mt.of (fun (res : Int32 × q_MM) => some (.int res.1)) (fun (res : Int32 × q_MM) => ((qTX c), (qLX c), (qPX c), res.2)) (by decide) (Nat.le_of_ble_eq_true rfl) ?_
  intro p e s m args below meth c0 A ad X hN
  have hb_35 : ∀ (M : q_MM), GG p l e { frames := 7, cells := 0, slots := 0, locals := 158 } s m args below meth c0 K A ((qTX c), (qLX c), (qPX c), M0) ad false 5 (fun res => MQ below (q_Qc K false ad ((qTX c), (qLX c), (qPX c), M0) ((fun (res : Int32 × q_MM) => some (.int res.1)) res) ((fun (res : Int32 × q_MM) => ((qTX c), (qLX c), (qPX c), res.2)) res) A) args s 0 0 A) (b_X11_best_35 c M) 35 [] [] ((qTX c), (qLX c), (qPX c), M) 0 0 := by
    intro M
    unfold b_X11_best_35
    exact g_stop
  refine g_sub (lv' := [(0, .ref 1), (1, .int a1), (2, .int a2)]) [0, 1, 2] rfl ?_
  unfold f_X11_best
  refine g_aload_n X dX11_best_0 rfl 0 rfl ?_
  refine g_getr X fa_X11_10 rfl rfl dX11_best_1 ?_
  refine g_iload_n X dX11_best_4 rfl 1 rfl ?_
  refine g_bVr (As := [.int a1]) (rest := []) X (c_X2_wallAt l K c M0 a1) lk_X11_125 rfl rfl rfl (Nat.le_of_ble_eq_true rfl) ⟨Nat.le_of_ble_eq_true rfl, Nat.le_of_ble_eq_true rfl⟩ ⟨Nat.zero_le _, Nat.zero_le _⟩ dX11_best_5 (fun r1 => ?_)
  refine g_astore_n X [(3, .ref r1), (0, .ref 1), (1, .int a1), (2, .int a2)] dX11_best_8 rfl (by decide) rfl ?_
  refine g_aload_n X dX11_best_9 rfl 0 rfl ?_
  refine g_ifnull X 35 dX11_best_10 rfl (fun h2 => ?_) (fun h2 => ?_)
  · exact g_sub [] rfl (hb_35 M0)
  · refine g_aload_n X dX11_best_13 rfl 1 rfl ?_
    refine g_getr X fa_X11_28 rfl rfl dX11_best_14 ?_
    refine g_iload_n X dX11_best_17 rfl 3 rfl ?_
    refine g_bVi (As := [.int a2]) (rest := []) X (c_X6_choose l K c M0 a2) lk_X11_313 rfl rfl rfl (Nat.le_of_ble_eq_true rfl) ⟨Nat.le_of_ble_eq_true rfl, Nat.le_of_ble_eq_true rfl⟩ ⟨Nat.zero_le _, Nat.zero_le _⟩ dX11_best_18 (fun r3 => ?_)
    refine g_if_eq X 35 dX11_best_21 rfl (fun h4 => ?_) (fun h4 => ?_)
    · exact g_sub [] rfl (hb_35 r3.2)
    · refine g_aload_n X dX11_best_24 rfl 1 rfl ?_
      refine g_getr X fa_X11_28 rfl rfl dX11_best_25 ?_
      refine g_aload_n X dX11_best_28 rfl 0 rfl ?_
      refine g_bVi (As := [.ref r1]) (rest := []) X (c_X6_goOn l K c r3.2 r1) lk_X11_316 rfl rfl rfl (Nat.le_of_ble_eq_true rfl) ⟨Nat.le_of_ble_eq_true rfl, Nat.le_of_ble_eq_true rfl⟩ ⟨Nat.zero_le _, Nat.zero_le _⟩ dX11_best_29 (fun r5 => ?_)
      refine g_if_ne X 43 dX11_best_32 rfl (fun h6 => ?_) (fun h6 => ?_)
      · exact g_sub [] rfl (hb_35 r3.2)
      · refine g_aload_n X dX11_best_43 rfl 1 rfl ?_
        refine g_getr X fa_X11_28 rfl rfl dX11_best_44 ?_
        refine g_aload_n X dX11_best_47 rfl 0 rfl ?_
        refine g_bVi (As := [.ref r1]) (rest := []) X (c_X6_find l K c r3.2 r1) lk_X11_320 rfl rfl rfl (Nat.le_of_ble_eq_true rfl) ⟨Nat.le_of_ble_eq_true rfl, Nat.le_of_ble_eq_true rfl⟩ ⟨Nat.zero_le _, Nat.zero_le _⟩ dX11_best_48 (fun r7 => ?_)
        refine g_is X (fun v8 => [(4, .int v8), (3, .ref r1), (0, .ref 1), (1, .int a1), (2, .int a2)]) dX11_best_51 (by decide) (fun _ => rfl) (fun v8 => ?_)
        refine g_aload_n X dX11_best_53 rfl 2 rfl ?_
        refine g_getr X fa_X11_44 rfl rfl dX11_best_54 ?_
        refine g_aload_n X dX11_best_57 rfl 2 rfl ?_
        refine g_getr X fa_X11_28 rfl rfl dX11_best_58 ?_
        refine g_getr X fa_X11_323 rfl rfl dX11_best_61 ?_
        refine g_bVv (As := [.ref 37]) (rest := []) X (c_X4_become l K c r7.2 6 37) lk_X11_326 rfl rfl rfl (Nat.le_of_ble_eq_true rfl) ⟨Nat.le_of_ble_eq_true rfl, Nat.le_of_ble_eq_true rfl⟩ ⟨Nat.zero_le _, Nat.zero_le _⟩ dX11_best_64 (fun r9 => ?_)
        refine g_iload X dX11_best_67 0 rfl ?_
        exact g_iret X rfl rfl rfl dX11_best_69
set_option maxHeartbeats 4000000 in
set_option maxRecDepth 100000 in
theorem c_X11_lay (l : Launch) (K : q_KK) (c : Nat → Nat) (M0 : q_MM) : ∀ res, f_X11_lay c M0 = some res → Mt l yX11_lay cX11_lay 2 (some FieldType.int) 6 129 0 0 false K [.ref 1] ((qTX c), (qLX c), (qPX c), M0) (some (.int res.1)) (((qTX c), (qLX c), (qPX c), res.2)) := by
  refine Mt.of (fun (res : Int32 × q_MM) => some (.int res.1)) (fun (res : Int32 × q_MM) => ((qTX c), (qLX c), (qPX c), res.2)) (by decide) (Nat.le_of_ble_eq_true rfl) ?_
  intro p e s m args below meth c0 A ad X hN
  refine g_sub (lv' := [(0, .ref 1)]) [0] rfl ?_
  unfold f_X11_lay
  refine g_aload_n X dX11_lay_0 rfl 0 rfl ?_
  refine g_getr X fa_X11_28 rfl rfl dX11_lay_1 ?_
  refine g_getr X fa_X11_323 rfl rfl dX11_lay_4 ?_
  refine g_geti X fa_X11_205 rfl dX11_lay_7 ?_
  refine g_isn X (fun v1 => [(1, .int v1), (0, .ref 1)]) dX11_lay_10 rfl (by decide) (fun _ => rfl) (fun v1 => ?_)
  refine g_iload_n X dX11_lay_11 rfl 0 rfl ?_
  refine g_if_eq X 32 dX11_lay_12 rfl (fun h2 => ?_) (fun h2 => ?_)
  · refine g_iconst (v := (-1)) X dX11_lay_32 (by decide) ?_
    exact g_iret X rfl rfl rfl dX11_lay_33
  · refine g_aload_n X dX11_lay_15 rfl 1 rfl ?_
    refine g_getr X fa_X11_28 rfl rfl dX11_lay_16 ?_
    refine g_aload_n X dX11_lay_19 rfl 1 rfl ?_
    refine g_getr X fa_X11_28 rfl rfl dX11_lay_20 ?_
    refine g_getr X fa_X11_323 rfl rfl dX11_lay_23 ?_
    refine g_bVi (As := [.ref 37]) (rest := []) X (c_X6_arePresent l K c M0 37) lk_X11_330 rfl rfl rfl (Nat.le_of_ble_eq_true rfl) ⟨Nat.le_of_ble_eq_true rfl, Nat.le_of_ble_eq_true rfl⟩ ⟨Nat.zero_le _, Nat.zero_le _⟩ dX11_lay_26 (fun r3 => ?_)
    refine g_if_ne X 34 dX11_lay_29 rfl (fun h4 => ?_) (fun h4 => ?_)
    · refine g_iconst (v := (-1)) X dX11_lay_32 (by decide) ?_
      exact g_iret X rfl rfl rfl dX11_lay_33
    · refine g_aload_n X dX11_lay_34 rfl 1 rfl ?_
      refine g_getr X fa_X11_28 rfl rfl dX11_lay_35 ?_
      refine g_bVv (As := []) (rest := []) X (c_X6_putUp l K c M0) lk_X11_334 rfl rfl rfl (Nat.le_of_ble_eq_true rfl) ⟨Nat.le_of_ble_eq_true rfl, Nat.le_of_ble_eq_true rfl⟩ ⟨Nat.zero_le _, Nat.zero_le _⟩ dX11_lay_38 (fun r5 => ?_)
      refine g_iload_n X dX11_lay_41 rfl 0 rfl ?_
      exact g_iret X rfl rfl rfl dX11_lay_42
set_option maxHeartbeats 4000000 in
set_option maxRecDepth 100000 in
theorem c_X11_tale (l : Launch) (K : q_KK) (c : Nat → Nat) (M0 : q_MM) (a1 : Int32) : ∀ res, f_X11_tale c M0 a1 = some res → Mt l yX11_tale cX11_tale 2 (some FieldType.int) 4 85 0 0 false K [.ref 1, .int a1] ((qTX c), (qLX c), (qPX c), M0) (some (.int res.1)) (((qTX c), (qLX c), (qPX c), res.2)) := by
  refine Mt.of (fun (res : Int32 × q_MM) => some (.int res.1)) (fun (res : Int32 × q_MM) => ((qTX c), (qLX c), (qPX c), res.2)) (by decide) (Nat.le_of_ble_eq_true rfl) ?_
  intro p e s m args below meth c0 A ad X hN
  refine g_sub (lv' := [(0, .ref 1), (1, .int a1)]) [0, 1] rfl ?_
  unfold f_X11_tale
  refine g_aload_n X dX11_tale_0 rfl 0 rfl ?_
  refine g_getr X fa_X11_10 rfl rfl dX11_tale_1 ?_
  refine g_iload_n X dX11_tale_4 rfl 1 rfl ?_
  refine g_bVr (As := [.int a1]) (rest := []) X (c_X2_pictureAt l K c M0 a1) lk_X11_184 rfl rfl rfl (Nat.le_of_ble_eq_true rfl) ⟨Nat.le_of_ble_eq_true rfl, Nat.le_of_ble_eq_true rfl⟩ ⟨Nat.zero_le _, Nat.zero_le _⟩ dX11_tale_5 (fun r1 => ?_)
  refine g_ifnull X 35 dX11_tale_8 rfl (fun h2 => ?_) (fun h2 => ?_)
  · refine g_iconst (v := (-1)) X dX11_tale_35 (by decide) ?_
    exact g_iret X rfl rfl rfl dX11_tale_36
  · refine g_aload_n X dX11_tale_11 rfl 0 rfl ?_
    refine g_getr X fa_X11_51 rfl rfl dX11_tale_12 ?_
    refine g_iload_n X dX11_tale_15 rfl 1 rfl ?_
    refine g_bVi (As := [.int a1]) (rest := []) X (c_X4_find l K c M0 8 a1) lk_X11_337 rfl rfl rfl (Nat.le_of_ble_eq_true rfl) ⟨Nat.le_of_ble_eq_true rfl, Nat.le_of_ble_eq_true rfl⟩ ⟨Nat.zero_le _, Nat.zero_le _⟩ dX11_tale_16 (fun r3 => ?_)
    refine g_iconst (v := (-1)) X dX11_tale_19 (by decide) ?_
    refine g_icmp_ne X 35 dX11_tale_20 rfl (fun h4 => ?_) (fun h4 => ?_)
    · refine g_aload_n X dX11_tale_23 rfl 0 rfl ?_
      refine g_getr X fa_X11_51 rfl rfl dX11_tale_24 ?_
      refine g_geti X fa_X11_205 rfl dX11_tale_27 ?_
      refine g_bipush (v := 12) X dX11_tale_30 (by decide) ?_
      refine g_icmp_lt X 37 dX11_tale_32 rfl (fun h5 => ?_) (fun h5 => ?_)
      · refine g_aload_n X dX11_tale_37 rfl 0 rfl ?_
        refine g_getr X fa_X11_51 rfl rfl dX11_tale_38 ?_
        refine g_iload_n X dX11_tale_41 rfl 1 rfl ?_
        refine g_bVv (As := [.int a1]) (rest := []) X (c_X4_add l K c M0 8 a1) lk_X11_207 rfl rfl rfl (Nat.le_of_ble_eq_true rfl) ⟨Nat.le_of_ble_eq_true rfl, Nat.le_of_ble_eq_true rfl⟩ ⟨Nat.zero_le _, Nat.zero_le _⟩ dX11_tale_42 (fun r6 => ?_)
        refine g_aload_n X dX11_tale_45 rfl 0 rfl ?_
        refine g_getr X fa_X11_51 rfl rfl dX11_tale_46 ?_
        refine g_geti X fa_X11_205 rfl dX11_tale_49 ?_
        exact g_iret X rfl rfl rfl dX11_tale_52
      · refine g_iconst (v := (-1)) X dX11_tale_35 (by decide) ?_
        exact g_iret X rfl rfl rfl dX11_tale_36
    · refine g_iconst (v := (-1)) X dX11_tale_35 (by decide) ?_
      exact g_iret X rfl rfl rfl dX11_tale_36
set_option maxHeartbeats 4000000 in
set_option maxRecDepth 100000 in
theorem c_X11_route (l : Launch) (K : q_KK) (c : Nat → Nat) (M0 : q_MM) (a1 : Int32) : ∀ res, f_X11_route c M0 a1 = some res → Mt l yX11_route cX11_route 2 (some FieldType.int) 1 22 0 0 false K [.ref 1, .int a1] ((qTX c), (qLX c), (qPX c), M0) (some (.int res.1)) (((qTX c), (qLX c), (qPX c), res.2)) := by
  refine Mt.of (fun (res : Int32 × q_MM) => some (.int res.1)) (fun (res : Int32 × q_MM) => ((qTX c), (qLX c), (qPX c), res.2)) (by decide) (Nat.le_of_ble_eq_true rfl) ?_
  intro p e s m args below meth c0 A ad X hN
  refine g_sub (lv' := [(0, .ref 1), (1, .int a1)]) [0, 1] rfl ?_
  unfold f_X11_route
  refine g_aload_n X dX11_route_0 rfl 0 rfl ?_
  refine g_getr X fa_X11_10 rfl rfl dX11_route_1 ?_
  refine g_iload_n X dX11_route_4 rfl 1 rfl ?_
  refine g_bVi (As := [.int a1]) (rest := []) X (c_X2_hasRoom l K c M0 a1) lk_X11_78 rfl rfl rfl (Nat.le_of_ble_eq_true rfl) ⟨Nat.le_of_ble_eq_true rfl, Nat.le_of_ble_eq_true rfl⟩ ⟨Nat.zero_le _, Nat.zero_le _⟩ dX11_route_5 (fun r1 => ?_)
  refine g_if_eq X 35 dX11_route_8 rfl (fun h2 => ?_) (fun h2 => ?_)
  · refine g_iconst (v := (-1)) X dX11_route_35 (by decide) ?_
    exact g_iret X rfl rfl rfl dX11_route_36
  · refine g_aload_n X dX11_route_11 rfl 0 rfl ?_
    refine g_getr X fa_X11_54 rfl rfl dX11_route_12 ?_
    refine g_iload_n X dX11_route_15 rfl 1 rfl ?_
    refine g_bVi (As := [.int a1]) (rest := []) X (c_X4_find l K c M0 9 a1) lk_X11_337 rfl rfl rfl (Nat.le_of_ble_eq_true rfl) ⟨Nat.le_of_ble_eq_true rfl, Nat.le_of_ble_eq_true rfl⟩ ⟨Nat.zero_le _, Nat.zero_le _⟩ dX11_route_16 (fun r3 => ?_)
    refine g_iconst (v := (-1)) X dX11_route_19 (by decide) ?_
    refine g_icmp_ne X 35 dX11_route_20 rfl (fun h4 => ?_) (fun h4 => ?_)
    · refine g_aload_n X dX11_route_23 rfl 0 rfl ?_
      refine g_getr X fa_X11_54 rfl rfl dX11_route_24 ?_
      refine g_geti X fa_X11_205 rfl dX11_route_27 ?_
      refine g_bipush (v := 10) X dX11_route_30 (by decide) ?_
      refine g_icmp_lt X 37 dX11_route_32 rfl (fun h5 => ?_) (fun h5 => ?_)
      · refine g_aload_n X dX11_route_37 rfl 0 rfl ?_
        refine g_getr X fa_X11_54 rfl rfl dX11_route_38 ?_
        refine g_iload_n X dX11_route_41 rfl 1 rfl ?_
        refine g_bVv (As := [.int a1]) (rest := []) X (c_X4_add l K c M0 9 a1) lk_X11_207 rfl rfl rfl (Nat.le_of_ble_eq_true rfl) ⟨Nat.le_of_ble_eq_true rfl, Nat.le_of_ble_eq_true rfl⟩ ⟨Nat.zero_le _, Nat.zero_le _⟩ dX11_route_42 (fun r6 => ?_)
        refine g_aload_n X dX11_route_45 rfl 0 rfl ?_
        refine g_getr X fa_X11_54 rfl rfl dX11_route_46 ?_
        refine g_geti X fa_X11_205 rfl dX11_route_49 ?_
        exact g_iret X rfl rfl rfl dX11_route_52
      · refine g_iconst (v := (-1)) X dX11_route_35 (by decide) ?_
        exact g_iret X rfl rfl rfl dX11_route_36
    · refine g_iconst (v := (-1)) X dX11_route_35 (by decide) ?_
      exact g_iret X rfl rfl rfl dX11_route_36
set_option maxHeartbeats 4000000 in
set_option maxRecDepth 100000 in
theorem c_X11_meeting (l : Launch) (K : q_KK) (c : Nat → Nat) (M : q_MM) (a1 : Nat) : ∀ res, f_X11_meeting c M a1 = some res → Mt l yX11_meeting cX11_meeting 4 (some FieldType.int) 5 106 0 0 false K [.ref 1, .ref a1] ((qTX c), (qLX c), (qPX c), M) (some (.int res)) (((qTX c), (qLX c), (qPX c), M)) := by
  refine Mt.of (fun (res : Int32) => some (.int res)) (fun (_ : Int32) => ((qTX c), (qLX c), (qPX c), M)) (by decide) (Nat.le_of_ble_eq_true rfl) ?_
  intro p e s m args below meth c0 A ad X hN
  have hb_40 : ∀ (x1 : Nat) (x2 : Nat) (s0 : Int32), GG p l e { frames := 5, cells := 0, slots := 0, locals := 106 } s m args below meth c0 K A ((qTX c), (qLX c), (qPX c), M) ad false 4 (fun res => MQ below (q_Qc K false ad ((qTX c), (qLX c), (qPX c), M) ((fun (res : Int32) => some (.int res)) res) ((fun (_ : Int32) => ((qTX c), (qLX c), (qPX c), M)) res) A) args s 0 0 A) (b_X11_meeting_40 c M x1 x2 s0) 40 [(0, .ref 1), (1, .ref x1), (2, .ref x2)] [.int s0] ((qTX c), (qLX c), (qPX c), M) 0 0 := by
    intro x1 x2 s0
    unfold b_X11_meeting_40
    refine g_istore_n X [(3, .int s0), (0, .ref 1), (1, .ref x1), (2, .ref x2)] dX11_meeting_40 rfl (by decide) rfl ?_
    refine g_iload_n X dX11_meeting_41 rfl 0 rfl ?_
    refine g_iconst (v := (-1)) X dX11_meeting_42 (by decide) ?_
    refine g_icmp_ne X 50 dX11_meeting_43 rfl (fun h1 => ?_) (fun h1 => ?_)
    · refine g_iconst (v := (-1)) X dX11_meeting_46 (by decide) ?_
      refine g_goto X 78 dX11_meeting_47 rfl ?_
      exact g_iret X rfl rfl rfl dX11_meeting_78
    · refine g_iload_n X dX11_meeting_50 rfl 0 rfl ?_
      refine g_bipush (v := 16) X dX11_meeting_51 (by decide) ?_
      refine g_imul X dX11_meeting_53 ?_
      refine g_aload_n X dX11_meeting_54 rfl 3 rfl ?_
      refine g_ck (fun hT2 => ?_)
      refine g_geti X fa_X11_122 hT2 dX11_meeting_55 ?_
      refine g_iadd X dX11_meeting_58 ?_
      refine g_sipush (v := 4096) X dX11_meeting_59 (by decide) ?_
      refine g_imul X dX11_meeting_62 ?_
      refine g_aload_n X dX11_meeting_63 rfl 1 rfl ?_
      refine g_getr X fa_X11_10 rfl rfl dX11_meeting_64 ?_
      refine g_getr X fa_X11_223 rfl rfl dX11_meeting_67 ?_
      refine g_aload_n X dX11_meeting_70 rfl 2 rfl ?_
      refine g_ck (fun hT3 => ?_)
      refine g_geti X fa_X11_183 hT3 dX11_meeting_71 ?_
      refine g_bVi (As := [.int (M x1 0)]) (rest := [.int (((s0 * 16) + (M x2 0)) * 4096)]) X (c_X1_leftSide l K c M 21 (M x1 0)) lk_X11_269 rfl rfl rfl (Nat.le_of_ble_eq_true rfl) ⟨Nat.le_of_ble_eq_true rfl, Nat.le_of_ble_eq_true rfl⟩ ⟨Nat.zero_le _, Nat.zero_le _⟩ dX11_meeting_74 (fun r4 => ?_)
      refine g_iadd X dX11_meeting_77 ?_
      exact g_iret X rfl rfl rfl dX11_meeting_78
  have hb_25 : ∀ (x1 : Nat) (x2 : Nat), GG p l e { frames := 5, cells := 0, slots := 0, locals := 106 } s m args below meth c0 K A ((qTX c), (qLX c), (qPX c), M) ad false 4 (fun res => MQ below (q_Qc K false ad ((qTX c), (qLX c), (qPX c), M) ((fun (res : Int32) => some (.int res)) res) ((fun (_ : Int32) => ((qTX c), (qLX c), (qPX c), M)) res) A) args s 0 0 A) (b_X11_meeting_25 c M x1 x2) 25 [(0, .ref 1), (1, .ref x1), (2, .ref x2)] [] ((qTX c), (qLX c), (qPX c), M) 0 0 := by
    intro x1 x2
    unfold b_X11_meeting_25
    refine g_iconst (v := (-1)) X dX11_meeting_25 (by decide) ?_
    refine g_goto X 40 dX11_meeting_26 rfl ?_
    exact g_sub [0, 1, 2] rfl (hb_40 x1 x2 (-1))
  have hb_16 : ∀ (x1 : Nat) (s0 : Nat), GG p l e { frames := 5, cells := 0, slots := 0, locals := 106 } s m args below meth c0 K A ((qTX c), (qLX c), (qPX c), M) ad false 4 (fun res => MQ below (q_Qc K false ad ((qTX c), (qLX c), (qPX c), M) ((fun (res : Int32) => some (.int res)) res) ((fun (_ : Int32) => ((qTX c), (qLX c), (qPX c), M)) res) A) args s 0 0 A) (b_X11_meeting_16 c M x1 s0) 16 [(0, .ref 1), (1, .ref x1)] [.ref s0] ((qTX c), (qLX c), (qPX c), M) 0 0 := by
    intro x1 s0
    unfold b_X11_meeting_16
    refine g_astore_n X [(2, .ref s0), (0, .ref 1), (1, .ref x1)] dX11_meeting_16 rfl (by decide) rfl ?_
    refine g_aload_n X dX11_meeting_17 rfl 2 rfl ?_
    refine g_ifnull X 25 dX11_meeting_18 rfl (fun h5 => ?_) (fun h5 => ?_)
    · exact g_sub [1, 2, 0] rfl (hb_25 x1 s0)
    · refine g_aload_n X dX11_meeting_21 rfl 0 rfl ?_
      refine g_ifnonnull X 29 dX11_meeting_22 rfl (fun h6 => ?_) (fun h6 => ?_)
      · exact g_sub [1, 2, 0] rfl (hb_25 x1 s0)
      · refine g_aload_n X dX11_meeting_29 rfl 1 rfl ?_
        refine g_getr X fa_X11_54 rfl rfl dX11_meeting_30 ?_
        refine g_aload_n X dX11_meeting_33 rfl 0 rfl ?_
        refine g_ck (fun hT7 => ?_)
        refine g_geti X fa_X11_400 hT7 dX11_meeting_34 ?_
        refine g_bVi (As := [.int (M s0 1)]) (rest := []) X (c_X4_find l K c M 9 (M s0 1)) lk_X11_337 rfl rfl rfl (Nat.le_of_ble_eq_true rfl) ⟨Nat.le_of_ble_eq_true rfl, Nat.le_of_ble_eq_true rfl⟩ ⟨Nat.zero_le _, Nat.zero_le _⟩ dX11_meeting_37 (fun r8 => ?_)
        exact g_sub [1, 2, 0] rfl (hb_40 x1 s0 r8)
  refine g_sub (lv' := [(0, .ref 1), (1, .ref a1)]) [0, 1] rfl ?_
  unfold f_X11_meeting
  refine g_aload_n X dX11_meeting_0 rfl 1 rfl ?_
  refine g_ifnonnull X 8 dX11_meeting_1 rfl (fun h9 => ?_) (fun h9 => ?_)
  · refine g_null X dX11_meeting_4 ?_
    refine g_goto X 16 dX11_meeting_5 rfl ?_
    exact g_sub [0, 1] rfl (hb_16 a1 0)
  · refine g_aload_n X dX11_meeting_8 rfl 0 rfl ?_
    refine g_getr X fa_X11_10 rfl rfl dX11_meeting_9 ?_
    refine g_aload_n X dX11_meeting_12 rfl 1 rfl ?_
    refine g_bVr (As := [.ref a1]) (rest := []) X (c_X2_wallOf l K c M a1) lk_X11_295 rfl rfl rfl (Nat.le_of_ble_eq_true rfl) ⟨Nat.le_of_ble_eq_true rfl, Nat.le_of_ble_eq_true rfl⟩ ⟨Nat.zero_le _, Nat.zero_le _⟩ dX11_meeting_13 (fun r10 => ?_)
    exact g_sub [0, 1] rfl (hb_16 a1 r10)
set_option maxHeartbeats 4000000 in
set_option maxRecDepth 100000 in
theorem c_X11_longestAfter (l : Launch) (K : q_KK) (c : Nat → Nat) (M : q_MM) (a1 : Int32) : ∀ res, f_X11_longestAfter c M a1 = some res → Mt l yX11_longestAfter cX11_longestAfter 4 (some FieldType.int) 1 21 0 0 false K [.ref 1, .int a1] ((qTX c), (qLX c), (qPX c), M) (some (.int res)) (((qTX c), (qLX c), (qPX c), M)) := by
  refine Mt.of (fun (res : Int32) => some (.int res)) (fun (_ : Int32) => ((qTX c), (qLX c), (qPX c), M)) (by decide) (Nat.le_of_ble_eq_true rfl) ?_
  intro p e s m args below meth c0 A ad X hN
  have hb_43 : ∀ (k6 : Int32 → Int32 → Int32 → Option (Int32)) (hk6 : ∀ (x1 : Int32) (x2 : Int32) (x3 : Int32), GG p l e { frames := 1, cells := 0, slots := 0, locals := 21 } s m args below meth c0 K A ((qTX c), (qLX c), (qPX c), M) ad false 4 (fun res => MQ below (q_Qc K false ad ((qTX c), (qLX c), (qPX c), M) ((fun (res : Int32) => some (.int res)) res) ((fun (_ : Int32) => ((qTX c), (qLX c), (qPX c), M)) res) A) args s 0 0 A) (k6 x1 x2 x3) 6 [(0, .ref 1), (1, .int x1), (2, .int x2), (3, .int x3)] [] ((qTX c), (qLX c), (qPX c), M) 0 0) (x1 : Int32) (x2 : Int32) (x3 : Int32), GG p l e { frames := 1, cells := 0, slots := 0, locals := 21 } s m args below meth c0 K A ((qTX c), (qLX c), (qPX c), M) ad false 4 (fun res => MQ below (q_Qc K false ad ((qTX c), (qLX c), (qPX c), M) ((fun (res : Int32) => some (.int res)) res) ((fun (_ : Int32) => ((qTX c), (qLX c), (qPX c), M)) res) A) args s 0 0 A) (b_X11_longestAfter_43 c M k6 x1 x2 x3) 43 [(0, .ref 1), (1, .int x1), (2, .int x2), (3, .int x3)] [] ((qTX c), (qLX c), (qPX c), M) 0 0 := by
    intro k6 hk6 x1 x2 x3
    unfold b_X11_longestAfter_43
    refine g_iinc (v := 1) X [(3, .int (x3 + 1)), (0, .ref 1), (1, .int x1), (2, .int x2)] 3 dX11_longestAfter_43 rfl (by decide) (by decide) rfl ?_
    refine g_goto X 6 dX11_longestAfter_46 rfl ?_
    exact g_sub [1, 2, 3, 0] rfl (hk6 x1 x2 (x3 + 1))
  have hb_6 : ∀ (nf : Nat) (x1 : Int32) (x2 : Int32) (x3 : Int32), GG p l e { frames := 1, cells := 0, slots := 0, locals := 21 } s m args below meth c0 K A ((qTX c), (qLX c), (qPX c), M) ad false 4 (fun res => MQ below (q_Qc K false ad ((qTX c), (qLX c), (qPX c), M) ((fun (res : Int32) => some (.int res)) res) ((fun (_ : Int32) => ((qTX c), (qLX c), (qPX c), M)) res) A) args s 0 0 A) (b_X11_longestAfter_6 c M nf x1 x2 x3) 6 [(0, .ref 1), (1, .int x1), (2, .int x2), (3, .int x3)] [] ((qTX c), (qLX c), (qPX c), M) 0 0 := by
    intro  nf
    induction nf with
    | zero => intros; exact g_stop
    | succ nf ih =>
      intro x1 x2 x3
      rw [b_X11_longestAfter_6]
      refine g_iload_n X dX11_longestAfter_6 rfl 3 rfl ?_
      refine g_aload_n X dX11_longestAfter_7 rfl 0 rfl ?_
      refine g_getr X fa_X11_51 rfl rfl dX11_longestAfter_8 ?_
      refine g_geti X fa_X11_205 rfl dX11_longestAfter_11 ?_
      refine g_icmp_ge X 49 dX11_longestAfter_14 rfl (fun h1 => ?_) (fun h1 => ?_)
      · refine g_iload_n X dX11_longestAfter_49 rfl 2 rfl ?_
        exact g_iret X rfl rfl rfl dX11_longestAfter_50
      · refine g_aload_n X dX11_longestAfter_17 rfl 0 rfl ?_
        refine g_getr X fa_X11_57 rfl rfl dX11_longestAfter_18 ?_
        refine g_iload_n X dX11_longestAfter_21 rfl 3 rfl ?_
        refine g_ild X rfl rfl dX11_longestAfter_22 (fun v2 => ?_)
        refine g_aload_n X dX11_longestAfter_23 rfl 0 rfl ?_
        refine g_getr X fa_X11_57 rfl rfl dX11_longestAfter_24 ?_
        refine g_iload_n X dX11_longestAfter_27 rfl 1 rfl ?_
        refine g_ild X rfl rfl dX11_longestAfter_28 (fun v3 => ?_)
        refine g_icmp_le X 43 dX11_longestAfter_29 rfl (fun h4 => ?_) (fun h4 => ?_)
        · exact g_sub [0, 1, 2, 3] rfl (hb_43 (b_X11_longestAfter_6 c M nf) ih x1 x2 x3)
        · refine g_iload_n X dX11_longestAfter_32 rfl 2 rfl ?_
          refine g_aload_n X dX11_longestAfter_33 rfl 0 rfl ?_
          refine g_getr X fa_X11_61 rfl rfl dX11_longestAfter_34 ?_
          refine g_iload_n X dX11_longestAfter_37 rfl 3 rfl ?_
          refine g_ild X rfl rfl dX11_longestAfter_38 (fun v5 => ?_)
          refine g_mmax X lk_X11_347 (Nat.le_of_ble_eq_true rfl) ⟨Nat.le_of_ble_eq_true rfl, Nat.le_of_ble_eq_true rfl⟩ ⟨Nat.zero_le _, Nat.zero_le _⟩ dX11_longestAfter_39 ?_
          refine g_isn X (fun v6 => [(2, .int v6), (0, .ref 1), (1, .int x1), (3, .int x3)]) dX11_longestAfter_42 rfl (by decide) (fun _ => rfl) (fun v6 => ?_)
          exact g_sub [1, 2, 0, 3] rfl (hb_43 (b_X11_longestAfter_6 c M nf) ih x1 v6 x3)
  refine g_sub (lv' := [(0, .ref 1), (1, .int a1)]) [0, 1] rfl ?_
  unfold f_X11_longestAfter
  refine g_iconst (v := 0) X dX11_longestAfter_0 (by decide) ?_
  refine g_istore_n X [(2, .int 0), (0, .ref 1), (1, .int a1)] dX11_longestAfter_1 rfl (by decide) rfl ?_
  refine g_iload_n X dX11_longestAfter_2 rfl 2 rfl ?_
  refine g_iconst (v := 1) X dX11_longestAfter_3 (by decide) ?_
  refine g_iadd X dX11_longestAfter_4 ?_
  refine g_isn X (fun v7 => [(3, .int v7), (2, .int 0), (0, .ref 1), (1, .int a1)]) dX11_longestAfter_5 rfl (by decide) (fun _ => rfl) (fun v7 => ?_)
  exact g_sub [2, 3, 1, 0] rfl (hb_6 q_fu a1 0 v7)
set_option maxHeartbeats 4000000 in
set_option maxRecDepth 100000 in
theorem c_X11_tellChain (l : Launch) (K : q_KK) (c : Nat → Nat) (M0 : q_MM) (a1 : Int32) : ∀ res, f_X11_tellChain c M0 a1 = some res → Mt l yX11_tellChain cX11_tellChain 5 (none : Option FieldType) 1 21 0 0 false K [.ref 1, .int a1] ((qTX c), (qLX c), (qPX c), M0) (none) (((qTX c), (qLX c), (qPX c), res)) := by
  refine Mt.of (fun (_ : q_MM) => none) (fun (res : q_MM) => ((qTX c), (qLX c), (qPX c), res)) (by decide) (Nat.le_of_ble_eq_true rfl) ?_
  intro p e s m args below meth c0 A ad X hN
  have hb_79 : ∀ (k14 : Int32 → Int32 → Int32 → q_MM → Option (q_MM)) (hk14 : ∀ (x2 : Int32) (x3 : Int32) (x4 : Int32) (M : q_MM), GG p l e { frames := 1, cells := 0, slots := 0, locals := 21 } s m args below meth c0 K A ((qTX c), (qLX c), (qPX c), M0) ad false 5 (fun res => MQ below (q_Qc K false ad ((qTX c), (qLX c), (qPX c), M0) ((fun (_ : q_MM) => none) res) ((fun (res : q_MM) => ((qTX c), (qLX c), (qPX c), res)) res) A) args s 0 0 A) (k14 x2 x3 x4 M) 14 [(0, .ref 1), (2, .int x2), (3, .int x3), (4, .int x4)] [] ((qTX c), (qLX c), (qPX c), M) 0 0) (x2 : Int32) (x3 : Int32) (x4 : Int32) (M : q_MM), GG p l e { frames := 1, cells := 0, slots := 0, locals := 21 } s m args below meth c0 K A ((qTX c), (qLX c), (qPX c), M0) ad false 5 (fun res => MQ below (q_Qc K false ad ((qTX c), (qLX c), (qPX c), M0) ((fun (_ : q_MM) => none) res) ((fun (res : q_MM) => ((qTX c), (qLX c), (qPX c), res)) res) A) args s 0 0 A) (b_X11_tellChain_79 c k14 x2 x3 x4 M) 79 [(0, .ref 1), (2, .int x2), (3, .int x3), (4, .int x4)] [] ((qTX c), (qLX c), (qPX c), M) 0 0 := by
    intro k14 hk14 x2 x3 x4 M
    unfold b_X11_tellChain_79
    refine g_iinc (v := 1) X [(4, .int (x4 + 1)), (0, .ref 1), (2, .int x2), (3, .int x3)] 3 dX11_tellChain_79 rfl (by decide) (by decide) rfl ?_
    refine g_goto X 14 dX11_tellChain_82 rfl ?_
    exact g_sub [1, 2, 3, 0] rfl (hk14 x2 x3 (x4 + 1) M)
  have hb_14 : ∀ (nf : Nat) (x2 : Int32) (x3 : Int32) (x4 : Int32) (M : q_MM), GG p l e { frames := 1, cells := 0, slots := 0, locals := 21 } s m args below meth c0 K A ((qTX c), (qLX c), (qPX c), M0) ad false 5 (fun res => MQ below (q_Qc K false ad ((qTX c), (qLX c), (qPX c), M0) ((fun (_ : q_MM) => none) res) ((fun (res : q_MM) => ((qTX c), (qLX c), (qPX c), res)) res) A) args s 0 0 A) (b_X11_tellChain_14 c nf x2 x3 x4 M) 14 [(0, .ref 1), (2, .int x2), (3, .int x3), (4, .int x4)] [] ((qTX c), (qLX c), (qPX c), M) 0 0 := by
    intro  nf
    induction nf with
    | zero => intros; exact g_stop
    | succ nf ih =>
      intro x2 x3 x4 M
      rw [b_X11_tellChain_14]
      refine g_iload X dX11_tellChain_14 3 rfl ?_
      refine g_aload_n X dX11_tellChain_16 rfl 0 rfl ?_
      refine g_getr X fa_X11_51 rfl rfl dX11_tellChain_17 ?_
      refine g_geti X fa_X11_205 rfl dX11_tellChain_20 ?_
      refine g_icmp_ge X 85 dX11_tellChain_23 rfl (fun h1 => ?_) (fun h1 => ?_)
      · exact g_vret X rfl rfl rfl dX11_tellChain_85
      · refine g_iload_n X dX11_tellChain_26 rfl 1 rfl ?_
        refine g_if_le X 79 dX11_tellChain_27 rfl (fun h2 => ?_) (fun h2 => ?_)
        · exact g_sub [0, 1, 2, 3] rfl (hb_79 (b_X11_tellChain_14 c nf) ih x2 x3 x4 M)
        · refine g_aload_n X dX11_tellChain_30 rfl 0 rfl ?_
          refine g_getr X fa_X11_61 rfl rfl dX11_tellChain_31 ?_
          refine g_iload X dX11_tellChain_34 3 rfl ?_
          refine g_ild X rfl rfl dX11_tellChain_36 (fun v3 => ?_)
          refine g_iload_n X dX11_tellChain_37 rfl 1 rfl ?_
          refine g_icmp_ne X 79 dX11_tellChain_38 rfl (fun h4 => ?_) (fun h4 => ?_)
          · refine g_aload_n X dX11_tellChain_41 rfl 0 rfl ?_
            refine g_getr X fa_X11_57 rfl rfl dX11_tellChain_42 ?_
            refine g_iload X dX11_tellChain_45 3 rfl ?_
            refine g_ild X rfl rfl dX11_tellChain_47 (fun v5 => ?_)
            refine g_iload_n X dX11_tellChain_48 rfl 2 rfl ?_
            refine g_icmp_le X 79 dX11_tellChain_49 rfl (fun h6 => ?_) (fun h6 => ?_)
            · exact g_sub [0, 1, 2, 3] rfl (hb_79 (b_X11_tellChain_14 c nf) ih x2 x3 x4 M)
            · refine g_aload_n X dX11_tellChain_52 rfl 0 rfl ?_
              refine g_getr X fa_X11_44 rfl rfl dX11_tellChain_53 ?_
              refine g_aload_n X dX11_tellChain_56 rfl 0 rfl ?_
              refine g_getr X fa_X11_51 rfl rfl dX11_tellChain_57 ?_
              refine g_iload X dX11_tellChain_60 3 rfl ?_
              refine g_bVi (As := [.int x4]) (rest := [.ref 6]) X (c_X4_get l K c M 8 x4) lk_X11_339 rfl rfl rfl (Nat.le_of_ble_eq_true rfl) ⟨Nat.le_of_ble_eq_true rfl, Nat.le_of_ble_eq_true rfl⟩ ⟨Nat.zero_le _, Nat.zero_le _⟩ dX11_tellChain_62 (fun r7 => ?_)
              refine g_bVv (As := [.int r7]) (rest := []) X (c_X4_add l K c M 6 r7) lk_X11_207 rfl rfl rfl (Nat.le_of_ble_eq_true rfl) ⟨Nat.le_of_ble_eq_true rfl, Nat.le_of_ble_eq_true rfl⟩ ⟨Nat.zero_le _, Nat.zero_le _⟩ dX11_tellChain_65 (fun r8 => ?_)
              refine g_aload_n X dX11_tellChain_68 rfl 0 rfl ?_
              refine g_getr X fa_X11_57 rfl rfl dX11_tellChain_69 ?_
              refine g_iload X dX11_tellChain_72 3 rfl ?_
              refine g_ild X rfl rfl dX11_tellChain_74 (fun v9 => ?_)
              refine g_istore_n X [(3, .int v9), (0, .ref 1), (2, .int x2), (4, .int x4)] dX11_tellChain_75 rfl (by decide) rfl ?_
              refine g_iinc (v := (-1)) X [(2, .int (x2 + (-1))), (3, .int v9), (0, .ref 1), (4, .int x4)] 2 dX11_tellChain_76 rfl (by decide) (by decide) rfl ?_
              exact g_sub [2, 0, 1, 3] rfl (hb_79 (b_X11_tellChain_14 c nf) ih (x2 + (-1)) v9 x4 r8)
          · exact g_sub [0, 1, 2, 3] rfl (hb_79 (b_X11_tellChain_14 c nf) ih x2 x3 x4 M)
  refine g_sub (lv' := [(0, .ref 1), (1, .int a1)]) [0, 1] rfl ?_
  unfold f_X11_tellChain
  refine g_aload_n X dX11_tellChain_0 rfl 0 rfl ?_
  refine g_getr X fa_X11_44 rfl rfl dX11_tellChain_1 ?_
  refine g_bVv (As := []) (rest := []) X (c_X4_clear l K c M0 6) lk_X11_216 rfl rfl rfl (Nat.le_of_ble_eq_true rfl) ⟨Nat.le_of_ble_eq_true rfl, Nat.le_of_ble_eq_true rfl⟩ ⟨Nat.zero_le _, Nat.zero_le _⟩ dX11_tellChain_4 (fun r10 => ?_)
  refine g_iload_n X dX11_tellChain_7 rfl 1 rfl ?_
  refine g_istore_n X [(2, .int a1), (0, .ref 1), (1, .int a1)] dX11_tellChain_8 rfl (by decide) rfl ?_
  refine g_iconst (v := (-1)) X dX11_tellChain_9 (by decide) ?_
  refine g_istore_n X [(3, .int (-1)), (2, .int a1), (0, .ref 1), (1, .int a1)] dX11_tellChain_10 rfl (by decide) rfl ?_
  refine g_iconst (v := 0) X dX11_tellChain_11 (by decide) ?_
  refine g_istore X [(4, .int 0), (3, .int (-1)), (2, .int a1), (0, .ref 1), (1, .int a1)] dX11_tellChain_12 (by decide) rfl ?_
  exact g_sub [3, 2, 1, 0] rfl (hb_14 q_fu a1 (-1) 0 r10)
set_option maxHeartbeats 4000000 in
set_option maxRecDepth 100000 in
theorem c_X11_breaks (l : Launch) (K : q_KK) (c : Nat → Nat) (M0 : q_MM) : ∀ res, f_X11_breaks c M0 = some res → Mt l yX11_breaks cX11_breaks 4 (some FieldType.int) 6 129 0 0 false K [.ref 1] ((qTX c), (qLX c), (qPX c), M0) (some (.int res.1)) (((qTX c), (qLX c), (qPX c), res.2)) := by
  refine Mt.of (fun (res : Int32 × q_MM) => some (.int res.1)) (fun (res : Int32 × q_MM) => ((qTX c), (qLX c), (qPX c), res.2)) (by decide) (Nat.le_of_ble_eq_true rfl) ?_
  intro p e s m args below meth c0 A ad X hN
  have hb_56 : ∀ (k4 : Int32 → Int32 → q_MM → Option (Int32 × q_MM)) (hk4 : ∀ (x1 : Int32) (x2 : Int32) (M : q_MM), GG p l e { frames := 6, cells := 0, slots := 0, locals := 129 } s m args below meth c0 K A ((qTX c), (qLX c), (qPX c), M0) ad false 4 (fun res => MQ below (q_Qc K false ad ((qTX c), (qLX c), (qPX c), M0) ((fun (res : Int32 × q_MM) => some (.int res.1)) res) ((fun (res : Int32 × q_MM) => ((qTX c), (qLX c), (qPX c), res.2)) res) A) args s 0 0 A) (k4 x1 x2 M) 4 [(0, .ref 1), (1, .int x1), (2, .int x2)] [] ((qTX c), (qLX c), (qPX c), M) 0 0) (x2 : Int32) (s0 : Int32) (s1 : Int32) (M : q_MM), GG p l e { frames := 6, cells := 0, slots := 0, locals := 129 } s m args below meth c0 K A ((qTX c), (qLX c), (qPX c), M0) ad false 4 (fun res => MQ below (q_Qc K false ad ((qTX c), (qLX c), (qPX c), M0) ((fun (res : Int32 × q_MM) => some (.int res.1)) res) ((fun (res : Int32 × q_MM) => ((qTX c), (qLX c), (qPX c), res.2)) res) A) args s 0 0 A) (b_X11_breaks_56 c k4 x2 s0 s1 M) 56 [(0, .ref 1), (2, .int x2)] [.int s0, .int s1] ((qTX c), (qLX c), (qPX c), M) 0 0 := by
    intro k4 hk4 x2 s0 s1 M
    unfold b_X11_breaks_56
    refine g_iadd X dX11_breaks_56 ?_
    refine g_isn X (fun v1 => [(1, .int v1), (0, .ref 1), (2, .int x2)]) dX11_breaks_57 rfl (by decide) (fun _ => rfl) (fun v1 => ?_)
    refine g_iinc (v := 1) X [(2, .int (x2 + 1)), (1, .int v1), (0, .ref 1)] 2 dX11_breaks_58 rfl (by decide) (by decide) rfl ?_
    refine g_goto X 4 dX11_breaks_61 rfl ?_
    exact g_sub [2, 1, 0] rfl (hk4 v1 (x2 + 1) M)
  have hb_106 : ∀ (k76 : Int32 → Int32 → Int32 → q_MM → Option (Int32 × q_MM)) (hk76 : ∀ (x1 : Int32) (x2 : Int32) (x3 : Int32) (M : q_MM), GG p l e { frames := 6, cells := 0, slots := 0, locals := 129 } s m args below meth c0 K A ((qTX c), (qLX c), (qPX c), M0) ad false 4 (fun res => MQ below (q_Qc K false ad ((qTX c), (qLX c), (qPX c), M0) ((fun (res : Int32 × q_MM) => some (.int res.1)) res) ((fun (res : Int32 × q_MM) => ((qTX c), (qLX c), (qPX c), res.2)) res) A) args s 0 0 A) (k76 x1 x2 x3 M) 76 [(0, .ref 1), (1, .int x1), (2, .int x2), (3, .int x3)] [] ((qTX c), (qLX c), (qPX c), M) 0 0) (x1 : Int32) (x2 : Int32) (x3 : Int32) (s0 : Int32) (s1 : Int32) (s2 : Nat) (M : q_MM), GG p l e { frames := 6, cells := 0, slots := 0, locals := 129 } s m args below meth c0 K A ((qTX c), (qLX c), (qPX c), M0) ad false 4 (fun res => MQ below (q_Qc K false ad ((qTX c), (qLX c), (qPX c), M0) ((fun (res : Int32 × q_MM) => some (.int res.1)) res) ((fun (res : Int32 × q_MM) => ((qTX c), (qLX c), (qPX c), res.2)) res) A) args s 0 0 A) (b_X11_breaks_106 c k76 x1 x2 x3 s0 s1 s2 M) 106 [(0, .ref 1), (1, .int x1), (2, .int x2), (3, .int x3)] [.int s0, .int s1, .ref s2] ((qTX c), (qLX c), (qPX c), M) 0 0 := by
    intro k76 hk76 x1 x2 x3 s0 s1 s2 M
    unfold b_X11_breaks_106
    refine g_ck (fun hT2 => ?_)
    refine g_isv X hT2 rfl dX11_breaks_106 (fun M3 => ?_)
    refine g_iload_n X dX11_breaks_107 rfl 2 rfl ?_
    refine g_aload_n X dX11_breaks_108 rfl 0 rfl ?_
    refine g_getr X fa_X11_61 rfl rfl dX11_breaks_109 ?_
    refine g_iload_n X dX11_breaks_112 rfl 3 rfl ?_
    refine g_ild X rfl rfl dX11_breaks_113 (fun v4 => ?_)
    refine g_mmax X lk_X11_347 (Nat.le_of_ble_eq_true rfl) ⟨Nat.le_of_ble_eq_true rfl, Nat.le_of_ble_eq_true rfl⟩ ⟨Nat.zero_le _, Nat.zero_le _⟩ dX11_breaks_114 ?_
    refine g_isn X (fun v5 => [(2, .int v5), (0, .ref 1), (1, .int x1), (3, .int x3)]) dX11_breaks_117 rfl (by decide) (fun _ => rfl) (fun v5 => ?_)
    refine g_iinc (v := (-1)) X [(3, .int (x3 + (-1))), (2, .int v5), (0, .ref 1), (1, .int x1)] 3 dX11_breaks_118 rfl (by decide) (by decide) rfl ?_
    refine g_goto X 76 dX11_breaks_121 rfl ?_
    exact g_sub [2, 3, 1, 0] rfl (hk76 x1 v5 (x3 + (-1)) M3)
  have hb_76 : ∀ (nf : Nat) (x1 : Int32) (x2 : Int32) (x3 : Int32) (M : q_MM), GG p l e { frames := 6, cells := 0, slots := 0, locals := 129 } s m args below meth c0 K A ((qTX c), (qLX c), (qPX c), M0) ad false 4 (fun res => MQ below (q_Qc K false ad ((qTX c), (qLX c), (qPX c), M0) ((fun (res : Int32 × q_MM) => some (.int res.1)) res) ((fun (res : Int32 × q_MM) => ((qTX c), (qLX c), (qPX c), res.2)) res) A) args s 0 0 A) (b_X11_breaks_76 c nf x1 x2 x3 M) 76 [(0, .ref 1), (1, .int x1), (2, .int x2), (3, .int x3)] [] ((qTX c), (qLX c), (qPX c), M) 0 0 := by
    intro  nf
    induction nf with
    | zero => intros; exact g_stop
    | succ nf ih =>
      intro x1 x2 x3 M
      rw [b_X11_breaks_76]
      refine g_iload_n X dX11_breaks_76 rfl 3 rfl ?_
      refine g_if_lt X 124 dX11_breaks_77 rfl (fun h6 => ?_) (fun h6 => ?_)
      · refine g_aload_n X dX11_breaks_124 rfl 0 rfl ?_
        refine g_iload_n X dX11_breaks_125 rfl 2 rfl ?_
        refine g_bVv (As := [.int x2]) (rest := []) X (c_X11_tellChain l K c M x2) lk_X11_353 rfl rfl rfl (Nat.le_of_ble_eq_true rfl) ⟨Nat.le_of_ble_eq_true rfl, Nat.le_of_ble_eq_true rfl⟩ ⟨Nat.zero_le _, Nat.zero_le _⟩ dX11_breaks_126 (fun r7 => ?_)
        refine g_iload_n X dX11_breaks_129 rfl 1 rfl ?_
        refine g_iload_n X dX11_breaks_130 rfl 2 rfl ?_
        refine g_isub X dX11_breaks_131 ?_
        exact g_iret X rfl rfl rfl dX11_breaks_132
      · refine g_aload_n X dX11_breaks_80 rfl 0 rfl ?_
        refine g_getr X fa_X11_61 rfl rfl dX11_breaks_81 ?_
        refine g_iload_n X dX11_breaks_84 rfl 3 rfl ?_
        refine g_aload_n X dX11_breaks_85 rfl 0 rfl ?_
        refine g_getr X fa_X11_57 rfl rfl dX11_breaks_86 ?_
        refine g_iload_n X dX11_breaks_89 rfl 3 rfl ?_
        refine g_ild X rfl rfl dX11_breaks_90 (fun v8 => ?_)
        refine g_iconst (v := (-1)) X dX11_breaks_91 (by decide) ?_
        refine g_icmp_ne X 99 dX11_breaks_92 rfl (fun h9 => ?_) (fun h9 => ?_)
        · refine g_iconst (v := 0) X dX11_breaks_95 (by decide) ?_
          refine g_goto X 106 dX11_breaks_96 rfl ?_
          exact g_sub [0, 1, 2, 3] rfl (hb_106 (b_X11_breaks_76 c nf) ih x1 x2 x3 0 x3 11 M)
        · refine g_iconst (v := 1) X dX11_breaks_99 (by decide) ?_
          refine g_aload_n X dX11_breaks_100 rfl 0 rfl ?_
          refine g_iload_n X dX11_breaks_101 rfl 3 rfl ?_
          refine g_bVi (As := [.int x3]) (rest := [.int 1, .int x3, .ref 11]) X (c_X11_longestAfter l K c M x3) lk_X11_344 rfl rfl rfl (Nat.le_of_ble_eq_true rfl) ⟨Nat.le_of_ble_eq_true rfl, Nat.le_of_ble_eq_true rfl⟩ ⟨Nat.zero_le _, Nat.zero_le _⟩ dX11_breaks_102 (fun r10 => ?_)
          refine g_iadd X dX11_breaks_105 ?_
          exact g_sub [0, 1, 2, 3] rfl (hb_106 (b_X11_breaks_76 c nf) ih x1 x2 x3 ((1 : Int32) + r10) x3 11 M)
  have hb_4 : ∀ (nf : Nat) (x1 : Int32) (x2 : Int32) (M : q_MM), GG p l e { frames := 6, cells := 0, slots := 0, locals := 129 } s m args below meth c0 K A ((qTX c), (qLX c), (qPX c), M0) ad false 4 (fun res => MQ below (q_Qc K false ad ((qTX c), (qLX c), (qPX c), M0) ((fun (res : Int32 × q_MM) => some (.int res.1)) res) ((fun (res : Int32 × q_MM) => ((qTX c), (qLX c), (qPX c), res.2)) res) A) args s 0 0 A) (b_X11_breaks_4 c nf x1 x2 M) 4 [(0, .ref 1), (1, .int x1), (2, .int x2)] [] ((qTX c), (qLX c), (qPX c), M) 0 0 := by
    intro  nf
    induction nf with
    | zero => intros; exact g_stop
    | succ nf ih =>
      intro x1 x2 M
      rw [b_X11_breaks_4]
      refine g_iload_n X dX11_breaks_4 rfl 2 rfl ?_
      refine g_aload_n X dX11_breaks_5 rfl 0 rfl ?_
      refine g_getr X fa_X11_51 rfl rfl dX11_breaks_6 ?_
      refine g_geti X fa_X11_205 rfl dX11_breaks_9 ?_
      refine g_icmp_ge X 64 dX11_breaks_12 rfl (fun h11 => ?_) (fun h11 => ?_)
      · refine g_iconst (v := 0) X dX11_breaks_64 (by decide) ?_
        refine g_istore_n X [(2, .int 0), (0, .ref 1), (1, .int x1)] dX11_breaks_65 rfl (by decide) rfl ?_
        refine g_aload_n X dX11_breaks_66 rfl 1 rfl ?_
        refine g_getr X fa_X11_51 rfl rfl dX11_breaks_67 ?_
        refine g_geti X fa_X11_205 rfl dX11_breaks_70 ?_
        refine g_iconst (v := 1) X dX11_breaks_73 (by decide) ?_
        refine g_isub X dX11_breaks_74 ?_
        refine g_isn X (fun v12 => [(3, .int v12), (2, .int 0), (0, .ref 1), (1, .int x1)]) dX11_breaks_75 rfl (by decide) (fun _ => rfl) (fun v12 => ?_)
        exact g_sub [2, 3, 1, 0] rfl (hb_76 q_fu x1 0 v12 M)
      · refine g_aload_n X dX11_breaks_15 rfl 0 rfl ?_
        refine g_getr X fa_X11_57 rfl rfl dX11_breaks_16 ?_
        refine g_iload_n X dX11_breaks_19 rfl 2 rfl ?_
        refine g_aload_n X dX11_breaks_20 rfl 0 rfl ?_
        refine g_aload_n X dX11_breaks_21 rfl 0 rfl ?_
        refine g_getr X fa_X11_10 rfl rfl dX11_breaks_22 ?_
        refine g_aload_n X dX11_breaks_25 rfl 0 rfl ?_
        refine g_getr X fa_X11_51 rfl rfl dX11_breaks_26 ?_
        refine g_iload_n X dX11_breaks_29 rfl 2 rfl ?_
        refine g_bVi (As := [.int x2]) (rest := [.ref 2, .ref 1, .int x2, .ref 10]) X (c_X4_get l K c M 8 x2) lk_X11_339 rfl rfl rfl (Nat.le_of_ble_eq_true rfl) ⟨Nat.le_of_ble_eq_true rfl, Nat.le_of_ble_eq_true rfl⟩ ⟨Nat.zero_le _, Nat.zero_le _⟩ dX11_breaks_30 (fun r13 => ?_)
        refine g_bVr (As := [.int r13]) (rest := [.ref 1, .int x2, .ref 10]) X (c_X2_pictureAt l K c M r13) lk_X11_184 rfl rfl rfl (Nat.le_of_ble_eq_true rfl) ⟨Nat.le_of_ble_eq_true rfl, Nat.le_of_ble_eq_true rfl⟩ ⟨Nat.zero_le _, Nat.zero_le _⟩ dX11_breaks_33 (fun r14 => ?_)
        refine g_bVi (As := [.ref r14]) (rest := [.int x2, .ref 10]) X (c_X11_meeting l K c M r14) lk_X11_341 rfl rfl rfl (Nat.le_of_ble_eq_true rfl) ⟨Nat.le_of_ble_eq_true rfl, Nat.le_of_ble_eq_true rfl⟩ ⟨Nat.zero_le _, Nat.zero_le _⟩ dX11_breaks_36 (fun r15 => ?_)
        refine g_isv X rfl rfl dX11_breaks_39 (fun M16 => ?_)
        refine g_iload_n X dX11_breaks_40 rfl 1 rfl ?_
        refine g_aload_n X dX11_breaks_41 rfl 0 rfl ?_
        refine g_getr X fa_X11_57 rfl rfl dX11_breaks_42 ?_
        refine g_iload_n X dX11_breaks_45 rfl 2 rfl ?_
        refine g_ild X rfl rfl dX11_breaks_46 (fun v17 => ?_)
        refine g_iconst (v := (-1)) X dX11_breaks_47 (by decide) ?_
        refine g_icmp_ne X 55 dX11_breaks_48 rfl (fun h18 => ?_) (fun h18 => ?_)
        · refine g_iconst (v := 0) X dX11_breaks_51 (by decide) ?_
          refine g_goto X 56 dX11_breaks_52 rfl ?_
          exact g_sub [0, 2] rfl (hb_56 (b_X11_breaks_4 c nf) ih x2 0 x1 M16)
        · refine g_iconst (v := 1) X dX11_breaks_55 (by decide) ?_
          exact g_sub [0, 2] rfl (hb_56 (b_X11_breaks_4 c nf) ih x2 1 x1 M16)
  refine g_sub (lv' := [(0, .ref 1)]) [0] rfl ?_
  unfold f_X11_breaks
  refine g_iconst (v := 0) X dX11_breaks_0 (by decide) ?_
  refine g_istore_n X [(1, .int 0), (0, .ref 1)] dX11_breaks_1 rfl (by decide) rfl ?_
  refine g_iconst (v := 0) X dX11_breaks_2 (by decide) ?_
  refine g_istore_n X [(2, .int 0), (1, .int 0), (0, .ref 1)] dX11_breaks_3 rfl (by decide) rfl ?_
  exact g_sub [2, 1, 0] rfl (hb_4 q_fu 0 0 M0)
set_option maxHeartbeats 4000000 in
set_option maxRecDepth 100000 in
theorem c_X11_shut (l : Launch) (K : q_KK) (c : Nat → Nat) (M0 : q_MM) (a1 : Int32) (a2 : Int32) : ∀ res, f_X11_shut c M0 a1 a2 = some res → Mt l yX11_shut cX11_shut 3 (some FieldType.boolean) 1 21 0 0 false K [.ref 1, .int a1, .int a2] ((qTX c), (qLX c), (qPX c), M0) (some (.int res.1)) (((qTX c), (qLX c), (qPX c), res.2)) := by
  refine Mt.of (fun (res : Int32 × q_MM) => some (.int res.1)) (fun (res : Int32 × q_MM) => ((qTX c), (qLX c), (qPX c), res.2)) (by decide) (Nat.le_of_ble_eq_true rfl) ?_
  intro p e s m args below meth c0 A ad X hN
  have hb_48 : ∀ (s0 : Int32) (M : q_MM), GG p l e { frames := 1, cells := 0, slots := 0, locals := 21 } s m args below meth c0 K A ((qTX c), (qLX c), (qPX c), M0) ad false 3 (fun res => MQ below (q_Qc K false ad ((qTX c), (qLX c), (qPX c), M0) ((fun (res : Int32 × q_MM) => some (.int res.1)) res) ((fun (res : Int32 × q_MM) => ((qTX c), (qLX c), (qPX c), res.2)) res) A) args s 0 0 A) (b_X11_shut_48 c s0 M) 48 [] [.int s0, .ref 2] ((qTX c), (qLX c), (qPX c), M) 0 0 := by
    intro s0 M
    unfold b_X11_shut_48
    refine g_pfi X fa_X11_356 rfl (by decide +kernel) rfl dX11_shut_48 (fun M1 => ?_)
    refine g_iconst (v := 1) X dX11_shut_51 (by decide) ?_
    exact g_zret X rfl rfl rfl dX11_shut_52
  refine g_sub (lv' := [(0, .ref 1), (1, .int a1), (2, .int a2)]) [0, 1, 2] rfl ?_
  unfold f_X11_shut
  refine g_aload_n X dX11_shut_0 rfl 0 rfl ?_
  refine g_getr X fa_X11_10 rfl rfl dX11_shut_1 ?_
  refine g_iload_n X dX11_shut_4 rfl 1 rfl ?_
  refine g_bVi (As := [.int a1]) (rest := []) X (c_X2_hasRoom l K c M0 a1) lk_X11_78 rfl rfl rfl (Nat.le_of_ble_eq_true rfl) ⟨Nat.le_of_ble_eq_true rfl, Nat.le_of_ble_eq_true rfl⟩ ⟨Nat.zero_le _, Nat.zero_le _⟩ dX11_shut_5 (fun r2 => ?_)
  refine g_if_ne X 13 dX11_shut_8 rfl (fun h3 => ?_) (fun h3 => ?_)
  · refine g_iconst (v := 0) X dX11_shut_11 (by decide) ?_
    exact g_zret X rfl rfl rfl dX11_shut_12
  · refine g_aload_n X dX11_shut_13 rfl 0 rfl ?_
    refine g_getr X fa_X11_10 rfl rfl dX11_shut_14 ?_
    refine g_iload_n X dX11_shut_17 rfl 2 rfl ?_
    refine g_if_eq X 35 dX11_shut_18 rfl (fun h4 => ?_) (fun h4 => ?_)
    · refine g_aload_n X dX11_shut_35 rfl 0 rfl ?_
      refine g_getr X fa_X11_10 rfl rfl dX11_shut_36 ?_
      refine g_geti X fa_X11_356 rfl dX11_shut_39 ?_
      refine g_iconst (v := 1) X dX11_shut_42 (by decide) ?_
      refine g_iload_n X dX11_shut_43 rfl 1 rfl ?_
      refine g_ishl X dX11_shut_44 ?_
      refine g_iconst (v := (-1)) X dX11_shut_45 (by decide) ?_
      refine g_ixor X dX11_shut_46 ?_
      refine g_iand X dX11_shut_47 ?_
      exact g_sub [] rfl (hb_48 ((M0 2 11) &&& (((1 : Int32) <<< (a1 &&& 31)) ^^^ (-1))) M0)
    · refine g_aload_n X dX11_shut_21 rfl 0 rfl ?_
      refine g_getr X fa_X11_10 rfl rfl dX11_shut_22 ?_
      refine g_geti X fa_X11_356 rfl dX11_shut_25 ?_
      refine g_iconst (v := 1) X dX11_shut_28 (by decide) ?_
      refine g_iload_n X dX11_shut_29 rfl 1 rfl ?_
      refine g_ishl X dX11_shut_30 ?_
      refine g_ior X dX11_shut_31 ?_
      refine g_goto X 48 dX11_shut_32 rfl ?_
      exact g_sub [] rfl (hb_48 ((M0 2 11) ||| ((1 : Int32) <<< (a1 &&& 31))) M0)
set_option maxHeartbeats 4000000 in
set_option maxRecDepth 100000 in
theorem c_X11_way (l : Launch) (K : q_KK) (c : Nat → Nat) (M0 : q_MM) (a1 : Int32) (a2 : Int32) (a3 : Int32) : ∀ res, f_X11_way c M0 a1 a2 a3 = some res → Mt l yX11_way cX11_way 8 (some FieldType.int) 6 139 0 0 false K [.ref 1, .int a1, .int a2, .int a3] ((qTX c), (qLX c), (qPX c), M0) (some (.int res.1)) (((qTX c), (qLX c), (qPX c), res.2)) := by
  refine Mt.of (fun (res : Int32 × q_MM) => some (.int res.1)) (fun (res : Int32 × q_MM) => ((qTX c), (qLX c), (qPX c), res.2)) (by decide) (Nat.le_of_ble_eq_true rfl) ?_
  intro p e s m args below meth c0 A ad X hN
  have hb_87 : ∀ (nf : Nat) (x4 : Nat) (x5 : Int32) (x6 : Int32) (x7 : Int32) (M : q_MM), GG p l e { frames := 6, cells := 0, slots := 0, locals := 139 } s m args below meth c0 K A ((qTX c), (qLX c), (qPX c), M0) ad false 8 (fun res => MQ below (q_Qc K false ad ((qTX c), (qLX c), (qPX c), M0) ((fun (res : Int32 × q_MM) => some (.int res.1)) res) ((fun (res : Int32 × q_MM) => ((qTX c), (qLX c), (qPX c), res.2)) res) A) args s 0 0 A) (b_X11_way_87 c nf x4 x5 x6 x7 M) 87 [(0, .ref 1), (4, .ref x4), (5, .int x5), (6, .int x6), (7, .int x7)] [] ((qTX c), (qLX c), (qPX c), M) 0 0 := by
    intro  nf
    induction nf with
    | zero => intros; exact g_stop
    | succ nf ih =>
      intro x4 x5 x6 x7 M
      rw [b_X11_way_87]
      refine g_iload X dX11_way_87 4 rfl ?_
      refine g_if_lt X 122 dX11_way_89 rfl (fun h1 => ?_) (fun h1 => ?_)
      · refine g_iload X dX11_way_122 2 rfl ?_
        exact g_iret X rfl rfl rfl dX11_way_124
      · refine g_aload_n X dX11_way_92 rfl 0 rfl ?_
        refine g_getr X fa_X11_10 rfl rfl dX11_way_93 ?_
        refine g_aload X dX11_way_96 1 rfl ?_
        refine g_iload X dX11_way_98 3 rfl ?_
        refine g_iload X dX11_way_100 4 rfl ?_
        refine g_bVi (As := [.ref x4, .int x6, .int x7]) (rest := []) X (c_X2_nextRoom l K c M x4 x6 x7) lk_X11_363 rfl rfl rfl (Nat.le_of_ble_eq_true rfl) ⟨Nat.le_of_ble_eq_true rfl, Nat.le_of_ble_eq_true rfl⟩ ⟨Nat.zero_le _, Nat.zero_le _⟩ dX11_way_102 (fun r2 => ?_)
        refine g_istore X [(6, .int r2), (0, .ref 1), (4, .ref x4), (5, .int x5), (7, .int x7)] dX11_way_105 (by decide) rfl ?_
        refine g_aload_n X dX11_way_107 rfl 1 rfl ?_
        refine g_getr X fa_X11_44 rfl rfl dX11_way_108 ?_
        refine g_iload X dX11_way_111 0 rfl ?_
        refine g_bVv (As := [.int r2]) (rest := []) X (c_X4_add l K c M 6 r2) lk_X11_207 rfl rfl rfl (Nat.le_of_ble_eq_true rfl) ⟨Nat.le_of_ble_eq_true rfl, Nat.le_of_ble_eq_true rfl⟩ ⟨Nat.zero_le _, Nat.zero_le _⟩ dX11_way_113 (fun r3 => ?_)
        refine g_iinc (v := (-1)) X [(7, .int (x7 + (-1))), (6, .int r2), (0, .ref 1), (4, .ref x4), (5, .int x5)] 4 dX11_way_116 rfl (by decide) (by decide) rfl ?_
        refine g_goto X 87 dX11_way_119 rfl ?_
        exact g_sub [2, 3, 4, 1, 0] rfl (ih x4 x5 r2 (x7 + (-1)) r3)
  refine g_sub (lv' := [(0, .ref 1), (1, .int a1), (2, .int a2), (3, .int a3)]) [0, 1, 2, 3] rfl ?_
  unfold f_X11_way
  refine g_aload_n X dX11_way_0 rfl 0 rfl ?_
  refine g_getr X fa_X11_10 rfl rfl dX11_way_1 ?_
  refine g_iload_n X dX11_way_4 rfl 1 rfl ?_
  refine g_bVr (As := [.int a1]) (rest := []) X (c_X2_pictureAt l K c M0 a1) lk_X11_184 rfl rfl rfl (Nat.le_of_ble_eq_true rfl) ⟨Nat.le_of_ble_eq_true rfl, Nat.le_of_ble_eq_true rfl⟩ ⟨Nat.zero_le _, Nat.zero_le _⟩ dX11_way_5 (fun r4 => ?_)
  refine g_astore X [(4, .ref r4), (0, .ref 1), (1, .int a1), (2, .int a2), (3, .int a3)] dX11_way_8 (by decide) rfl ?_
  refine g_aload X dX11_way_10 0 rfl ?_
  refine g_ifnull X 37 dX11_way_12 rfl (fun h5 => ?_) (fun h5 => ?_)
  · refine g_iconst (v := (-1)) X dX11_way_37 (by decide) ?_
    exact g_iret X rfl rfl rfl dX11_way_38
  · refine g_aload_n X dX11_way_15 rfl 1 rfl ?_
    refine g_getr X fa_X11_10 rfl rfl dX11_way_16 ?_
    refine g_iload_n X dX11_way_19 rfl 3 rfl ?_
    refine g_bVi (As := [.int a2]) (rest := []) X (c_X2_hasRoom l K c M0 a2) lk_X11_78 rfl rfl rfl (Nat.le_of_ble_eq_true rfl) ⟨Nat.le_of_ble_eq_true rfl, Nat.le_of_ble_eq_true rfl⟩ ⟨Nat.zero_le _, Nat.zero_le _⟩ dX11_way_20 (fun r6 => ?_)
    refine g_if_eq X 37 dX11_way_23 rfl (fun h7 => ?_) (fun h7 => ?_)
    · refine g_iconst (v := (-1)) X dX11_way_37 (by decide) ?_
      exact g_iret X rfl rfl rfl dX11_way_38
    · refine g_aload_n X dX11_way_26 rfl 1 rfl ?_
      refine g_getr X fa_X11_10 rfl rfl dX11_way_27 ?_
      refine g_iload_n X dX11_way_30 rfl 4 rfl ?_
      refine g_bVi (As := [.int a3]) (rest := []) X (c_X2_hasRoom l K c M0 a3) lk_X11_78 rfl rfl rfl (Nat.le_of_ble_eq_true rfl) ⟨Nat.le_of_ble_eq_true rfl, Nat.le_of_ble_eq_true rfl⟩ ⟨Nat.zero_le _, Nat.zero_le _⟩ dX11_way_31 (fun r8 => ?_)
      refine g_if_ne X 39 dX11_way_34 rfl (fun h9 => ?_) (fun h9 => ?_)
      · refine g_iconst (v := (-1)) X dX11_way_37 (by decide) ?_
        exact g_iret X rfl rfl rfl dX11_way_38
      · refine g_aload_n X dX11_way_39 rfl 1 rfl ?_
        refine g_getr X fa_X11_10 rfl rfl dX11_way_40 ?_
        refine g_aload X dX11_way_43 0 rfl ?_
        refine g_iload_n X dX11_way_45 rfl 3 rfl ?_
        refine g_iload_n X dX11_way_46 rfl 4 rfl ?_
        refine g_iconst (v := (-1)) X dX11_way_47 (by decide) ?_
        refine g_bVi (As := [.ref r4, .int a2, .int a3, .int (-1)]) (rest := []) X (c_X2_doorsBetween l K c M0 r4 a2 a3 (-1)) lk_X11_359 rfl rfl rfl (Nat.le_of_ble_eq_true rfl) ⟨Nat.le_of_ble_eq_true rfl, Nat.le_of_ble_eq_true rfl⟩ ⟨Nat.zero_le _, Nat.zero_le _⟩ dX11_way_48 (fun r10 => ?_)
        refine g_is X (fun v11 => [(5, .int v11), (4, .ref r4), (0, .ref 1), (1, .int a1), (2, .int a2), (3, .int a3)]) dX11_way_51 (by decide) (fun _ => rfl) (fun v11 => ?_)
        refine g_iload X dX11_way_53 0 rfl ?_
        refine g_bipush (v := 99) X dX11_way_55 (by decide) ?_
        refine g_icmp_ne X 63 dX11_way_57 rfl (fun h12 => ?_) (fun h12 => ?_)
        · refine g_bipush (v := (-2)) X dX11_way_60 (by decide) ?_
          exact g_iret X rfl rfl rfl dX11_way_62
        · refine g_aload_n X dX11_way_63 rfl 2 rfl ?_
          refine g_getr X fa_X11_44 rfl rfl dX11_way_64 ?_
          refine g_bVv (As := []) (rest := []) X (c_X4_clear l K c r10.2 6) lk_X11_216 rfl rfl rfl (Nat.le_of_ble_eq_true rfl) ⟨Nat.le_of_ble_eq_true rfl, Nat.le_of_ble_eq_true rfl⟩ ⟨Nat.zero_le _, Nat.zero_le _⟩ dX11_way_67 (fun r13 => ?_)
          refine g_aload_n X dX11_way_70 rfl 2 rfl ?_
          refine g_getr X fa_X11_44 rfl rfl dX11_way_71 ?_
          refine g_iload_n X dX11_way_74 rfl 4 rfl ?_
          refine g_bVv (As := [.int a2]) (rest := []) X (c_X4_add l K c r13 6 a2) lk_X11_207 rfl rfl rfl (Nat.le_of_ble_eq_true rfl) ⟨Nat.le_of_ble_eq_true rfl, Nat.le_of_ble_eq_true rfl⟩ ⟨Nat.zero_le _, Nat.zero_le _⟩ dX11_way_75 (fun r14 => ?_)
          refine g_iload_n X dX11_way_78 rfl 4 rfl ?_
          refine g_istore X [(6, .int a2), (5, .int v11), (4, .ref r4), (0, .ref 1), (1, .int a1), (2, .int a2), (3, .int a3)] dX11_way_79 (by decide) rfl ?_
          refine g_iload X dX11_way_81 1 rfl ?_
          refine g_iconst (v := 1) X dX11_way_83 (by decide) ?_
          refine g_isub X dX11_way_84 ?_
          refine g_is X (fun v15 => [(7, .int v15), (6, .int a2), (5, .int v11), (4, .ref r4), (0, .ref 1), (1, .int a1), (2, .int a2), (3, .int a3)]) dX11_way_85 (by decide) (fun _ => rfl) (fun v15 => ?_)
          exact g_sub [4, 3, 2, 1, 0] rfl (hb_87 q_fu r4 v11 a2 v15 r14)
set_option maxHeartbeats 4000000 in
set_option maxRecDepth 100000 in
theorem c_X11_bars (l : Launch) (K : q_KK) (c : Nat → Nat) (M0 : q_MM) (a1 : Int32) (a2 : Int32) (a3 : Int32) : ∀ res, f_X11_bars c M0 a1 a2 a3 = some res → Mt l yX11_bars cX11_bars 6 (some FieldType.int) 6 139 0 0 false K [.ref 1, .int a1, .int a2, .int a3] ((qTX c), (qLX c), (qPX c), M0) (some (.int res.1)) (((qTX c), (qLX c), (qPX c), res.2)) := by
  refine Mt.of (fun (res : Int32 × q_MM) => some (.int res.1)) (fun (res : Int32 × q_MM) => ((qTX c), (qLX c), (qPX c), res.2)) (by decide) (Nat.le_of_ble_eq_true rfl) ?_
  intro p e s m args below meth c0 A ad X hN
  have hb_62 : ∀ (nf : Nat) (x2 : Int32) (x3 : Int32) (x4 : Nat) (x5 : Int32) (M : q_MM), GG p l e { frames := 6, cells := 0, slots := 0, locals := 139 } s m args below meth c0 K A ((qTX c), (qLX c), (qPX c), M0) ad false 6 (fun res => MQ below (q_Qc K false ad ((qTX c), (qLX c), (qPX c), M0) ((fun (res : Int32 × q_MM) => some (.int res.1)) res) ((fun (res : Int32 × q_MM) => ((qTX c), (qLX c), (qPX c), res.2)) res) A) args s 0 0 A) (b_X11_bars_62 c nf x2 x3 x4 x5 M) 62 [(0, .ref 1), (2, .int x2), (3, .int x3), (4, .ref x4), (5, .int x5)] [] ((qTX c), (qLX c), (qPX c), M) 0 0 := by
    intro  nf
    induction nf with
    | zero => intros; exact g_stop
    | succ nf ih =>
      intro x2 x3 x4 x5 M
      rw [b_X11_bars_62]
      refine g_iload X dX11_bars_62 4 rfl ?_
      refine g_aload_n X dX11_bars_64 rfl 0 rfl ?_
      refine g_getr X fa_X11_10 rfl rfl dX11_bars_65 ?_
      refine g_getr X fa_X11_86 rfl rfl dX11_bars_68 ?_
      refine g_bVi (As := []) (rest := [.int x5]) X (c_Jx4a65c_size_8abf5 l K (qTX c) (qLX c) (qPX c) M 13) lk_X11_90 rfl rfl rfl (Nat.le_of_ble_eq_true rfl) ⟨Nat.le_of_ble_eq_true rfl, Nat.le_of_ble_eq_true rfl⟩ ⟨Nat.zero_le _, Nat.zero_le _⟩ dX11_bars_71 (fun r1 => ?_)
      refine g_icmp_ge X 104 dX11_bars_74 rfl (fun h2 => ?_) (fun h2 => ?_)
      · refine g_iconst (v := (-1)) X dX11_bars_104 (by decide) ?_
        exact g_iret X rfl rfl rfl dX11_bars_105
      · refine g_aload_n X dX11_bars_77 rfl 0 rfl ?_
        refine g_getr X fa_X11_10 rfl rfl dX11_bars_78 ?_
        refine g_aload X dX11_bars_81 3 rfl ?_
        refine g_iload_n X dX11_bars_83 rfl 1 rfl ?_
        refine g_iload_n X dX11_bars_84 rfl 2 rfl ?_
        refine g_iload X dX11_bars_85 4 rfl ?_
        refine g_bVi (As := [.ref x4, .int x2, .int x3, .int x5]) (rest := []) X (c_X2_doorsBetween l K c M x4 x2 x3 x5) lk_X11_359 rfl rfl rfl (Nat.le_of_ble_eq_true rfl) ⟨Nat.le_of_ble_eq_true rfl, Nat.le_of_ble_eq_true rfl⟩ ⟨Nat.zero_le _, Nat.zero_le _⟩ dX11_bars_87 (fun r3 => ?_)
        refine g_bipush (v := 99) X dX11_bars_90 (by decide) ?_
        refine g_icmp_eq X 98 dX11_bars_92 rfl (fun h4 => ?_) (fun h4 => ?_)
        · refine g_iinc (v := 1) X [(5, .int (x5 + 1)), (0, .ref 1), (2, .int x2), (3, .int x3), (4, .ref x4)] 4 dX11_bars_98 rfl (by decide) (by decide) rfl ?_
          refine g_goto X 62 dX11_bars_101 rfl ?_
          exact g_sub [1, 2, 3, 4, 0] rfl (ih x2 x3 x4 (x5 + 1) r3.2)
        · refine g_iload X dX11_bars_95 4 rfl ?_
          exact g_iret X rfl rfl rfl dX11_bars_97
  refine g_sub (lv' := [(0, .ref 1), (1, .int a1), (2, .int a2), (3, .int a3)]) [0, 1, 2, 3] rfl ?_
  unfold f_X11_bars
  refine g_aload_n X dX11_bars_0 rfl 0 rfl ?_
  refine g_getr X fa_X11_10 rfl rfl dX11_bars_1 ?_
  refine g_iload_n X dX11_bars_4 rfl 1 rfl ?_
  refine g_bVr (As := [.int a1]) (rest := []) X (c_X2_pictureAt l K c M0 a1) lk_X11_184 rfl rfl rfl (Nat.le_of_ble_eq_true rfl) ⟨Nat.le_of_ble_eq_true rfl, Nat.le_of_ble_eq_true rfl⟩ ⟨Nat.zero_le _, Nat.zero_le _⟩ dX11_bars_5 (fun r5 => ?_)
  refine g_astore X [(4, .ref r5), (0, .ref 1), (1, .int a1), (2, .int a2), (3, .int a3)] dX11_bars_8 (by decide) rfl ?_
  refine g_aload X dX11_bars_10 0 rfl ?_
  refine g_ifnull X 37 dX11_bars_12 rfl (fun h6 => ?_) (fun h6 => ?_)
  · refine g_iconst (v := (-1)) X dX11_bars_37 (by decide) ?_
    exact g_iret X rfl rfl rfl dX11_bars_38
  · refine g_aload_n X dX11_bars_15 rfl 1 rfl ?_
    refine g_getr X fa_X11_10 rfl rfl dX11_bars_16 ?_
    refine g_iload_n X dX11_bars_19 rfl 3 rfl ?_
    refine g_bVi (As := [.int a2]) (rest := []) X (c_X2_hasRoom l K c M0 a2) lk_X11_78 rfl rfl rfl (Nat.le_of_ble_eq_true rfl) ⟨Nat.le_of_ble_eq_true rfl, Nat.le_of_ble_eq_true rfl⟩ ⟨Nat.zero_le _, Nat.zero_le _⟩ dX11_bars_20 (fun r7 => ?_)
    refine g_if_eq X 37 dX11_bars_23 rfl (fun h8 => ?_) (fun h8 => ?_)
    · refine g_iconst (v := (-1)) X dX11_bars_37 (by decide) ?_
      exact g_iret X rfl rfl rfl dX11_bars_38
    · refine g_aload_n X dX11_bars_26 rfl 1 rfl ?_
      refine g_getr X fa_X11_10 rfl rfl dX11_bars_27 ?_
      refine g_iload_n X dX11_bars_30 rfl 4 rfl ?_
      refine g_bVi (As := [.int a3]) (rest := []) X (c_X2_hasRoom l K c M0 a3) lk_X11_78 rfl rfl rfl (Nat.le_of_ble_eq_true rfl) ⟨Nat.le_of_ble_eq_true rfl, Nat.le_of_ble_eq_true rfl⟩ ⟨Nat.zero_le _, Nat.zero_le _⟩ dX11_bars_31 (fun r9 => ?_)
      refine g_if_ne X 39 dX11_bars_34 rfl (fun h10 => ?_) (fun h10 => ?_)
      · refine g_iconst (v := (-1)) X dX11_bars_37 (by decide) ?_
        exact g_iret X rfl rfl rfl dX11_bars_38
      · refine g_aload_n X dX11_bars_39 rfl 1 rfl ?_
        refine g_getr X fa_X11_10 rfl rfl dX11_bars_40 ?_
        refine g_aload X dX11_bars_43 0 rfl ?_
        refine g_iload_n X dX11_bars_45 rfl 3 rfl ?_
        refine g_iload_n X dX11_bars_46 rfl 4 rfl ?_
        refine g_iconst (v := (-1)) X dX11_bars_47 (by decide) ?_
        refine g_bVi (As := [.ref r5, .int a2, .int a3, .int (-1)]) (rest := []) X (c_X2_doorsBetween l K c M0 r5 a2 a3 (-1)) lk_X11_359 rfl rfl rfl (Nat.le_of_ble_eq_true rfl) ⟨Nat.le_of_ble_eq_true rfl, Nat.le_of_ble_eq_true rfl⟩ ⟨Nat.zero_le _, Nat.zero_le _⟩ dX11_bars_48 (fun r11 => ?_)
        refine g_bipush (v := 99) X dX11_bars_51 (by decide) ?_
        refine g_icmp_eq X 59 dX11_bars_53 rfl (fun h12 => ?_) (fun h12 => ?_)
        · refine g_iconst (v := 0) X dX11_bars_59 (by decide) ?_
          refine g_istore X [(5, .int 0), (4, .ref r5), (0, .ref 1), (1, .int a1), (2, .int a2), (3, .int a3)] dX11_bars_60 (by decide) rfl ?_
          exact g_sub [2, 4, 5, 1, 0] rfl (hb_62 q_fu a2 a3 r5 0 r11.2)
        · refine g_bipush (v := (-2)) X dX11_bars_56 (by decide) ?_
          exact g_iret X rfl rfl rfl dX11_bars_58
set_option maxHeartbeats 4000000 in
set_option maxRecDepth 100000 in
theorem c_X11_move (l : Launch) (K : q_KK) (c : Nat → Nat) (M0 : q_MM) (a1 : Int32) (a2 : Int32) (a3 : Int32) : ∀ res, f_X11_move c M0 a1 a2 a3 = some res → Mt l yX11_move cX11_move 5 (some FieldType.int) 5 107 0 0 false K [.ref 1, .int a1, .int a2, .int a3] ((qTX c), (qLX c), (qPX c), M0) (some (.int res.1)) (((qTX c), (qLX c), (qPX c), res.2)) := by
  refine Mt.of (fun (res : Int32 × q_MM) => some (.int res.1)) (fun (res : Int32 × q_MM) => ((qTX c), (qLX c), (qPX c), res.2)) (by decide) (Nat.le_of_ble_eq_true rfl) ?_
  intro p e s m args below meth c0 A ad X hN
  have hb_55 : ∀ (x1 : Int32) (x2 : Int32) (x3 : Int32) (s0 : Int32) (M : q_MM), GG p l e { frames := 5, cells := 0, slots := 0, locals := 107 } s m args below meth c0 K A ((qTX c), (qLX c), (qPX c), M0) ad false 5 (fun res => MQ below (q_Qc K false ad ((qTX c), (qLX c), (qPX c), M0) ((fun (res : Int32 × q_MM) => some (.int res.1)) res) ((fun (res : Int32 × q_MM) => ((qTX c), (qLX c), (qPX c), res.2)) res) A) args s 0 0 A) (b_X11_move_55 c x1 x2 x3 s0 M) 55 [(0, .ref 1), (1, .int x1), (2, .int x2), (3, .int x3)] [.int s0] ((qTX c), (qLX c), (qPX c), M) 0 0 := by
    intro x1 x2 x3 s0 M
    unfold b_X11_move_55
    refine g_istore X [(4, .int s0), (0, .ref 1), (1, .int x1), (2, .int x2), (3, .int x3)] dX11_move_55 (by decide) rfl ?_
    refine g_iload X dX11_move_57 0 rfl ?_
    refine g_if_eq X 77 dX11_move_59 rfl (fun h1 => ?_) (fun h1 => ?_)
    · refine g_iconst (v := (-1)) X dX11_move_77 (by decide) ?_
      exact g_iret X rfl rfl rfl dX11_move_78
    · refine g_aload_n X dX11_move_62 rfl 1 rfl ?_
      refine g_getr X fa_X11_35 rfl rfl dX11_move_63 ?_
      refine g_getr X fa_X11_367 rfl rfl dX11_move_66 ?_
      refine g_geti X fa_X11_205 rfl dX11_move_69 ?_
      refine g_bipush (v := 8) X dX11_move_72 (by decide) ?_
      refine g_icmp_lt X 79 dX11_move_74 rfl (fun h2 => ?_) (fun h2 => ?_)
      · refine g_aload_n X dX11_move_79 rfl 1 rfl ?_
        refine g_getr X fa_X11_35 rfl rfl dX11_move_80 ?_
        refine g_getr X fa_X11_367 rfl rfl dX11_move_83 ?_
        refine g_iload_n X dX11_move_86 rfl 2 rfl ?_
        refine g_bVv (As := [.int x1]) (rest := []) X (c_X4_add l K c M 39 x1) lk_X11_207 rfl rfl rfl (Nat.le_of_ble_eq_true rfl) ⟨Nat.le_of_ble_eq_true rfl, Nat.le_of_ble_eq_true rfl⟩ ⟨Nat.zero_le _, Nat.zero_le _⟩ dX11_move_87 (fun r3 => ?_)
        refine g_aload_n X dX11_move_90 rfl 1 rfl ?_
        refine g_getr X fa_X11_35 rfl rfl dX11_move_91 ?_
        refine g_getr X fa_X11_369 rfl rfl dX11_move_94 ?_
        refine g_iload_n X dX11_move_97 rfl 3 rfl ?_
        refine g_bVv (As := [.int x2]) (rest := []) X (c_X4_add l K c r3 40 x2) lk_X11_207 rfl rfl rfl (Nat.le_of_ble_eq_true rfl) ⟨Nat.le_of_ble_eq_true rfl, Nat.le_of_ble_eq_true rfl⟩ ⟨Nat.zero_le _, Nat.zero_le _⟩ dX11_move_98 (fun r4 => ?_)
        refine g_aload_n X dX11_move_101 rfl 1 rfl ?_
        refine g_getr X fa_X11_35 rfl rfl dX11_move_102 ?_
        refine g_getr X fa_X11_371 rfl rfl dX11_move_105 ?_
        refine g_iload_n X dX11_move_108 rfl 4 rfl ?_
        refine g_bVv (As := [.int x3]) (rest := []) X (c_X4_add l K c r4 41 x3) lk_X11_207 rfl rfl rfl (Nat.le_of_ble_eq_true rfl) ⟨Nat.le_of_ble_eq_true rfl, Nat.le_of_ble_eq_true rfl⟩ ⟨Nat.zero_le _, Nat.zero_le _⟩ dX11_move_109 (fun r5 => ?_)
        refine g_aload_n X dX11_move_112 rfl 1 rfl ?_
        refine g_getr X fa_X11_35 rfl rfl dX11_move_113 ?_
        refine g_getr X fa_X11_367 rfl rfl dX11_move_116 ?_
        refine g_geti X fa_X11_205 rfl dX11_move_119 ?_
        refine g_iconst (v := 1) X dX11_move_122 (by decide) ?_
        refine g_isub X dX11_move_123 ?_
        exact g_iret X rfl rfl rfl dX11_move_124
      · refine g_iconst (v := (-1)) X dX11_move_77 (by decide) ?_
        exact g_iret X rfl rfl rfl dX11_move_78
  have hb_54 : ∀ (x1 : Int32) (x2 : Int32) (x3 : Int32) (M : q_MM), GG p l e { frames := 5, cells := 0, slots := 0, locals := 107 } s m args below meth c0 K A ((qTX c), (qLX c), (qPX c), M0) ad false 5 (fun res => MQ below (q_Qc K false ad ((qTX c), (qLX c), (qPX c), M0) ((fun (res : Int32 × q_MM) => some (.int res.1)) res) ((fun (res : Int32 × q_MM) => ((qTX c), (qLX c), (qPX c), res.2)) res) A) args s 0 0 A) (b_X11_move_54 c x1 x2 x3 M) 54 [(0, .ref 1), (1, .int x1), (2, .int x2), (3, .int x3)] [] ((qTX c), (qLX c), (qPX c), M) 0 0 := by
    intro x1 x2 x3 M
    unfold b_X11_move_54
    refine g_iconst (v := 0) X dX11_move_54 (by decide) ?_
    exact g_sub [0, 1, 2, 3] rfl (hb_55 x1 x2 x3 0 M)
  refine g_sub (lv' := [(0, .ref 1), (1, .int a1), (2, .int a2), (3, .int a3)]) [0, 1, 2, 3] rfl ?_
  unfold f_X11_move
  refine g_aload_n X dX11_move_0 rfl 0 rfl ?_
  refine g_getr X fa_X11_10 rfl rfl dX11_move_1 ?_
  refine g_iload_n X dX11_move_4 rfl 1 rfl ?_
  refine g_bVr (As := [.int a1]) (rest := []) X (c_X2_present l K c M0 a1) lk_X11_231 rfl rfl rfl (Nat.le_of_ble_eq_true rfl) ⟨Nat.le_of_ble_eq_true rfl, Nat.le_of_ble_eq_true rfl⟩ ⟨Nat.zero_le _, Nat.zero_le _⟩ dX11_move_5 (fun r6 => ?_)
  refine g_ifnull X 54 dX11_move_8 rfl (fun h7 => ?_) (fun h7 => ?_)
  · exact g_sub [0, 1, 2, 3] rfl (hb_54 a1 a2 a3 M0)
  · refine g_aload_n X dX11_move_11 rfl 0 rfl ?_
    refine g_getr X fa_X11_10 rfl rfl dX11_move_12 ?_
    refine g_iload_n X dX11_move_15 rfl 2 rfl ?_
    refine g_bVr (As := [.int a2]) (rest := []) X (c_X2_wallAt l K c M0 a2) lk_X11_125 rfl rfl rfl (Nat.le_of_ble_eq_true rfl) ⟨Nat.le_of_ble_eq_true rfl, Nat.le_of_ble_eq_true rfl⟩ ⟨Nat.zero_le _, Nat.zero_le _⟩ dX11_move_16 (fun r8 => ?_)
    refine g_ifnull X 54 dX11_move_19 rfl (fun h9 => ?_) (fun h9 => ?_)
    · exact g_sub [0, 1, 2, 3] rfl (hb_54 a1 a2 a3 M0)
    · refine g_iload_n X dX11_move_22 rfl 3 rfl ?_
      refine g_sipush (v := (-1000)) X dX11_move_23 (by decide) ?_
      refine g_sipush (v := 4000) X dX11_move_26 (by decide) ?_
      refine g_bSi (As := [.int a3, .int (-1000), .int 4000]) (rest := []) X (c_X11_within l K c M0 a3 (-1000) 4000) lk_X11_82 rfl rfl (Nat.le_of_ble_eq_true rfl) ⟨Nat.le_of_ble_eq_true rfl, Nat.le_of_ble_eq_true rfl⟩ ⟨Nat.zero_le _, Nat.zero_le _⟩ dX11_move_29 (fun r10 => ?_)
      refine g_if_eq X 54 dX11_move_32 rfl (fun h11 => ?_) (fun h11 => ?_)
      · exact g_sub [0, 1, 2, 3] rfl (hb_54 a1 a2 a3 M0)
      · refine g_aload_n X dX11_move_35 rfl 0 rfl ?_
        refine g_getr X fa_X11_35 rfl rfl dX11_move_36 ?_
        refine g_getr X fa_X11_367 rfl rfl dX11_move_39 ?_
        refine g_iload_n X dX11_move_42 rfl 1 rfl ?_
        refine g_bVi (As := [.int a1]) (rest := []) X (c_X4_find l K c M0 39 a1) lk_X11_337 rfl rfl rfl (Nat.le_of_ble_eq_true rfl) ⟨Nat.le_of_ble_eq_true rfl, Nat.le_of_ble_eq_true rfl⟩ ⟨Nat.zero_le _, Nat.zero_le _⟩ dX11_move_43 (fun r12 => ?_)
        refine g_iconst (v := (-1)) X dX11_move_46 (by decide) ?_
        refine g_icmp_ne X 54 dX11_move_47 rfl (fun h13 => ?_) (fun h13 => ?_)
        · refine g_iconst (v := 1) X dX11_move_50 (by decide) ?_
          refine g_goto X 55 dX11_move_51 rfl ?_
          exact g_sub [0, 1, 2, 3] rfl (hb_55 a1 a2 a3 1 M0)
        · exact g_sub [0, 1, 2, 3] rfl (hb_54 a1 a2 a3 M0)
set_option maxHeartbeats 4000000 in
set_option maxRecDepth 100000 in
theorem c_X11_nights (l : Launch) (K : q_KK) (c : Nat → Nat) (M0 : q_MM) (a1 : Int32) (a2 : Int32) : ∀ res, f_X11_nights c M0 a1 a2 = some res → Mt l yX11_nights cX11_nights 4 (some FieldType.int) 8 178 0 0 false K [.ref 1, .int a1, .int a2] ((qTX c), (qLX c), (qPX c), M0) (some (.int res.1)) (((qTX c), (qLX c), (qPX c), res.2)) := by
  refine Mt.of (fun (res : Int32 × q_MM) => some (.int res.1)) (fun (res : Int32 × q_MM) => ((qTX c), (qLX c), (qPX c), res.2)) (by decide) (Nat.le_of_ble_eq_true rfl) ?_
  intro p e s m args below meth c0 A ad X hN
  refine g_sub (lv' := [(0, .ref 1), (1, .int a1), (2, .int a2)]) [0, 1, 2] rfl ?_
  unfold f_X11_nights
  refine g_iload_n X dX11_nights_0 rfl 1 rfl ?_
  refine g_iconst (v := 1) X dX11_nights_1 (by decide) ?_
  refine g_bipush (v := 8) X dX11_nights_2 (by decide) ?_
  refine g_bSi (As := [.int a1, .int 1, .int 8]) (rest := []) X (c_X11_within l K c M0 a1 1 8) lk_X11_82 rfl rfl (Nat.le_of_ble_eq_true rfl) ⟨Nat.le_of_ble_eq_true rfl, Nat.le_of_ble_eq_true rfl⟩ ⟨Nat.zero_le _, Nat.zero_le _⟩ dX11_nights_4 (fun r1 => ?_)
  refine g_if_eq X 20 dX11_nights_7 rfl (fun h2 => ?_) (fun h2 => ?_)
  · refine g_iconst (v := (-1)) X dX11_nights_20 (by decide) ?_
    exact g_iret X rfl rfl rfl dX11_nights_21
  · refine g_iload_n X dX11_nights_10 rfl 2 rfl ?_
    refine g_iconst (v := 1) X dX11_nights_11 (by decide) ?_
    refine g_bipush (v := 8) X dX11_nights_12 (by decide) ?_
    refine g_bSi (As := [.int a2, .int 1, .int 8]) (rest := []) X (c_X11_within l K c M0 a2 1 8) lk_X11_82 rfl rfl (Nat.le_of_ble_eq_true rfl) ⟨Nat.le_of_ble_eq_true rfl, Nat.le_of_ble_eq_true rfl⟩ ⟨Nat.zero_le _, Nat.zero_le _⟩ dX11_nights_14 (fun r3 => ?_)
    refine g_if_ne X 22 dX11_nights_17 rfl (fun h4 => ?_) (fun h4 => ?_)
    · refine g_iconst (v := (-1)) X dX11_nights_20 (by decide) ?_
      exact g_iret X rfl rfl rfl dX11_nights_21
    · refine g_aload_n X dX11_nights_22 rfl 0 rfl ?_
      refine g_getr X fa_X11_35 rfl rfl dX11_nights_23 ?_
      refine g_iload_n X dX11_nights_26 rfl 1 rfl ?_
      refine g_iload_n X dX11_nights_27 rfl 2 rfl ?_
      refine g_bVi (As := [.int a1, .int a2]) (rest := []) X (c_X3_plan l K c M0 a1 a2) lk_X11_374 rfl rfl rfl (Nat.le_of_ble_eq_true rfl) ⟨Nat.le_of_ble_eq_true rfl, Nat.le_of_ble_eq_true rfl⟩ ⟨Nat.zero_le _, Nat.zero_le _⟩ dX11_nights_28 (fun r5 => ?_)
      refine g_isn X (fun v6 => [(3, .int v6), (0, .ref 1), (1, .int a1), (2, .int a2)]) dX11_nights_31 rfl (by decide) (fun _ => rfl) (fun v6 => ?_)
      refine g_iload_n X dX11_nights_32 rfl 0 rfl ?_
      refine g_bipush (v := 99) X dX11_nights_33 (by decide) ?_
      refine g_icmp_ne X 41 dX11_nights_35 rfl (fun h7 => ?_) (fun h7 => ?_)
      · refine g_bipush (v := (-2)) X dX11_nights_38 (by decide) ?_
        exact g_iret X rfl rfl rfl dX11_nights_40
      · refine g_aload_n X dX11_nights_41 rfl 1 rfl ?_
        refine g_getr X fa_X11_44 rfl rfl dX11_nights_42 ?_
        refine g_bVv (As := []) (rest := []) X (c_X4_clear l K c r5.2 6) lk_X11_216 rfl rfl rfl (Nat.le_of_ble_eq_true rfl) ⟨Nat.le_of_ble_eq_true rfl, Nat.le_of_ble_eq_true rfl⟩ ⟨Nat.zero_le _, Nat.zero_le _⟩ dX11_nights_45 (fun r8 => ?_)
        refine g_aload_n X dX11_nights_48 rfl 1 rfl ?_
        refine g_getr X fa_X11_35 rfl rfl dX11_nights_49 ?_
        refine g_iload_n X dX11_nights_52 rfl 2 rfl ?_
        refine g_iload_n X dX11_nights_53 rfl 3 rfl ?_
        refine g_aload_n X dX11_nights_54 rfl 1 rfl ?_
        refine g_getr X fa_X11_44 rfl rfl dX11_nights_55 ?_
        refine g_bVv (As := [.int a1, .int a2, .ref 6]) (rest := []) X (c_X3_tellPlan l K c r8 a1 a2 6) lk_X11_377 rfl rfl rfl (Nat.le_of_ble_eq_true rfl) ⟨Nat.le_of_ble_eq_true rfl, Nat.le_of_ble_eq_true rfl⟩ ⟨Nat.zero_le _, Nat.zero_le _⟩ dX11_nights_58 (fun r9 => ?_)
        refine g_iload_n X dX11_nights_61 rfl 0 rfl ?_
        exact g_iret X rfl rfl rfl dX11_nights_62
set_option maxHeartbeats 4000000 in
set_option maxRecDepth 100000 in
theorem c_X11_done (l : Launch) (K : q_KK) (c : Nat → Nat) (M0 : q_MM) : ∀ res, f_X11_done c M0 = some res → Mt l yX11_done cX11_done 2 (some FieldType.int) 7 151 0 0 false K [.ref 1] ((qTX c), (qLX c), (qPX c), M0) (some (.int res.1)) (((qTX c), (qLX c), (qPX c), res.2)) := by
  refine Mt.of (fun (res : Int32 × q_MM) => some (.int res.1)) (fun (res : Int32 × q_MM) => ((qTX c), (qLX c), (qPX c), res.2)) (by decide) (Nat.le_of_ble_eq_true rfl) ?_
  intro p e s m args below meth c0 A ad X hN
  refine g_sub (lv' := [(0, .ref 1)]) [0] rfl ?_
  unfold f_X11_done
  refine g_aload_n X dX11_done_0 rfl 0 rfl ?_
  refine g_getr X fa_X11_35 rfl rfl dX11_done_1 ?_
  refine g_bVi (As := []) (rest := []) X (c_X3_allCanStand l K c M0) lk_X11_381 rfl rfl rfl (Nat.le_of_ble_eq_true rfl) ⟨Nat.le_of_ble_eq_true rfl, Nat.le_of_ble_eq_true rfl⟩ ⟨Nat.zero_le _, Nat.zero_le _⟩ dX11_done_4 (fun r1 => ?_)
  refine g_if_ne X 13 dX11_done_7 rfl (fun h2 => ?_) (fun h2 => ?_)
  · refine g_bipush (v := (-2)) X dX11_done_10 (by decide) ?_
    exact g_iret X rfl rfl rfl dX11_done_12
  · refine g_aload_n X dX11_done_13 rfl 0 rfl ?_
    refine g_getr X fa_X11_35 rfl rfl dX11_done_14 ?_
    refine g_getr X fa_X11_367 rfl rfl dX11_done_17 ?_
    refine g_geti X fa_X11_205 rfl dX11_done_20 ?_
    refine g_isn X (fun v3 => [(1, .int v3), (0, .ref 1)]) dX11_done_23 rfl (by decide) (fun _ => rfl) (fun v3 => ?_)
    refine g_aload_n X dX11_done_24 rfl 1 rfl ?_
    refine g_getr X fa_X11_10 rfl rfl dX11_done_25 ?_
    refine g_getr X fa_X11_223 rfl rfl dX11_done_28 ?_
    refine g_aload_n X dX11_done_31 rfl 1 rfl ?_
    refine g_getr X fa_X11_10 rfl rfl dX11_done_32 ?_
    refine g_getr X fa_X11_385 rfl rfl dX11_done_35 ?_
    refine g_bVv (As := [.ref 22]) (rest := []) X (c_X1_become l K c r1.2 21 22) lk_X11_388 rfl rfl rfl (Nat.le_of_ble_eq_true rfl) ⟨Nat.le_of_ble_eq_true rfl, Nat.le_of_ble_eq_true rfl⟩ ⟨Nat.zero_le _, Nat.zero_le _⟩ dX11_done_38 (fun r4 => ?_)
    refine g_aload_n X dX11_done_41 rfl 1 rfl ?_
    refine g_getr X fa_X11_35 rfl rfl dX11_done_42 ?_
    refine g_bVv (As := []) (rest := []) X (c_X3_forget l K c r4) lk_X11_391 rfl rfl rfl (Nat.le_of_ble_eq_true rfl) ⟨Nat.le_of_ble_eq_true rfl, Nat.le_of_ble_eq_true rfl⟩ ⟨Nat.zero_le _, Nat.zero_le _⟩ dX11_done_45 (fun r5 => ?_)
    refine g_iload_n X dX11_done_48 rfl 0 rfl ?_
    exact g_iret X rfl rfl rfl dX11_done_49
set_option maxHeartbeats 4000000 in
set_option maxRecDepth 100000 in
theorem c_X11_insert (l : Launch) (K : q_KK) (c : Nat → Nat) (M0 : q_MM) (a1 : Int32) (a2 : Int32) : ∀ res, f_X11_insert c M0 a1 a2 = some res → Mt l yX11_insert cX11_insert 5 (none : Option FieldType) 1 21 0 0 false K [.ref 1, .int a1, .int a2] ((qTX c), (qLX c), (qPX c), M0) (none) (((qTX c), (qLX c), (qPX c), res)) := by
  refine Mt.of (fun (_ : q_MM) => none) (fun (res : q_MM) => ((qTX c), (qLX c), (qPX c), res)) (by decide) (Nat.le_of_ble_eq_true rfl) ?_
  intro p e s m args below meth c0 A ad X hN
  have hb_94 : ∀ (x1 : Int32) (x2 : Int32) (x3 : Int32) (M : q_MM), GG p l e { frames := 1, cells := 0, slots := 0, locals := 21 } s m args below meth c0 K A ((qTX c), (qLX c), (qPX c), M0) ad false 5 (fun res => MQ below (q_Qc K false ad ((qTX c), (qLX c), (qPX c), M0) ((fun (_ : q_MM) => none) res) ((fun (res : q_MM) => ((qTX c), (qLX c), (qPX c), res)) res) A) args s 0 0 A) (b_X11_insert_94 c x1 x2 x3 M) 94 [(0, .ref 1), (1, .int x1), (2, .int x2), (3, .int x3)] [] ((qTX c), (qLX c), (qPX c), M) 0 0 := by
    intro x1 x2 x3 M
    unfold b_X11_insert_94
    refine g_aload_n X dX11_insert_94 rfl 0 rfl ?_
    refine g_getr X fa_X11_44 rfl rfl dX11_insert_95 ?_
    refine g_getr X fa_X11_421 rfl rfl dX11_insert_98 ?_
    refine g_iload_n X dX11_insert_101 rfl 3 rfl ?_
    refine g_iload_n X dX11_insert_102 rfl 1 rfl ?_
    refine g_isv X rfl rfl dX11_insert_103 (fun M1 => ?_)
    refine g_aload_n X dX11_insert_104 rfl 0 rfl ?_
    refine g_getr X fa_X11_64 rfl rfl dX11_insert_105 ?_
    refine g_iload_n X dX11_insert_108 rfl 3 rfl ?_
    refine g_iload_n X dX11_insert_109 rfl 2 rfl ?_
    refine g_isv X rfl rfl dX11_insert_110 (fun M2 => ?_)
    exact g_vret X rfl rfl rfl dX11_insert_111
  have hb_27 : ∀ (nf : Nat) (x1 : Int32) (x2 : Int32) (x3 : Int32) (x4 : Int32) (M : q_MM), GG p l e { frames := 1, cells := 0, slots := 0, locals := 21 } s m args below meth c0 K A ((qTX c), (qLX c), (qPX c), M0) ad false 5 (fun res => MQ below (q_Qc K false ad ((qTX c), (qLX c), (qPX c), M0) ((fun (_ : q_MM) => none) res) ((fun (res : q_MM) => ((qTX c), (qLX c), (qPX c), res)) res) A) args s 0 0 A) (b_X11_insert_27 c nf x1 x2 x3 x4 M) 27 [(0, .ref 1), (1, .int x1), (2, .int x2), (3, .int x3), (4, .int x4)] [] ((qTX c), (qLX c), (qPX c), M) 0 0 := by
    intro  nf
    induction nf with
    | zero => intros; exact g_stop
    | succ nf ih =>
      intro x1 x2 x3 x4 M
      rw [b_X11_insert_27]
      refine g_iload X dX11_insert_27 4 rfl ?_
      refine g_if_le X 94 dX11_insert_29 rfl (fun h3 => ?_) (fun h3 => ?_)
      · exact g_sub [0, 1, 2, 3] rfl (hb_94 x1 x2 x3 M)
      · refine g_aload_n X dX11_insert_32 rfl 0 rfl ?_
        refine g_getr X fa_X11_64 rfl rfl dX11_insert_33 ?_
        refine g_iload X dX11_insert_36 4 rfl ?_
        refine g_iconst (v := 1) X dX11_insert_38 (by decide) ?_
        refine g_isub X dX11_insert_39 ?_
        refine g_ild X rfl rfl dX11_insert_40 (fun v4 => ?_)
        refine g_iload_n X dX11_insert_41 rfl 2 rfl ?_
        refine g_icmp_ge X 94 dX11_insert_42 rfl (fun h5 => ?_) (fun h5 => ?_)
        · exact g_sub [0, 1, 2, 3] rfl (hb_94 x1 x2 x3 M)
        · refine g_aload_n X dX11_insert_45 rfl 0 rfl ?_
          refine g_getr X fa_X11_44 rfl rfl dX11_insert_46 ?_
          refine g_getr X fa_X11_421 rfl rfl dX11_insert_49 ?_
          refine g_iload X dX11_insert_52 4 rfl ?_
          refine g_aload_n X dX11_insert_54 rfl 0 rfl ?_
          refine g_getr X fa_X11_44 rfl rfl dX11_insert_55 ?_
          refine g_getr X fa_X11_421 rfl rfl dX11_insert_58 ?_
          refine g_iload X dX11_insert_61 4 rfl ?_
          refine g_iconst (v := 1) X dX11_insert_63 (by decide) ?_
          refine g_isub X dX11_insert_64 ?_
          refine g_ild X rfl rfl dX11_insert_65 (fun v6 => ?_)
          refine g_isv X rfl rfl dX11_insert_66 (fun M7 => ?_)
          refine g_aload_n X dX11_insert_67 rfl 0 rfl ?_
          refine g_getr X fa_X11_64 rfl rfl dX11_insert_68 ?_
          refine g_iload X dX11_insert_71 4 rfl ?_
          refine g_aload_n X dX11_insert_73 rfl 0 rfl ?_
          refine g_getr X fa_X11_64 rfl rfl dX11_insert_74 ?_
          refine g_iload X dX11_insert_77 4 rfl ?_
          refine g_iconst (v := 1) X dX11_insert_79 (by decide) ?_
          refine g_isub X dX11_insert_80 ?_
          refine g_ild X rfl rfl dX11_insert_81 (fun v8 => ?_)
          refine g_isv X rfl rfl dX11_insert_82 (fun M9 => ?_)
          refine g_iload X dX11_insert_83 4 rfl ?_
          refine g_iconst (v := 1) X dX11_insert_85 (by decide) ?_
          refine g_isub X dX11_insert_86 ?_
          refine g_isn X (fun v10 => [(3, .int v10), (0, .ref 1), (1, .int x1), (2, .int x2), (4, .int x4)]) dX11_insert_87 rfl (by decide) (fun _ => rfl) (fun v10 => ?_)
          refine g_iinc (v := (-1)) X [(4, .int (x4 + (-1))), (3, .int v10), (0, .ref 1), (1, .int x1), (2, .int x2)] 4 dX11_insert_88 rfl (by decide) (by decide) rfl ?_
          refine g_goto X 27 dX11_insert_91 rfl ?_
          exact g_sub [2, 3, 4, 1, 0] rfl (ih x1 x2 v10 (x4 + (-1)) M9)
  refine g_sub (lv' := [(0, .ref 1), (1, .int a1), (2, .int a2)]) [0, 1, 2] rfl ?_
  unfold f_X11_insert
  refine g_aload_n X dX11_insert_0 rfl 0 rfl ?_
  refine g_getr X fa_X11_44 rfl rfl dX11_insert_1 ?_
  refine g_geti X fa_X11_205 rfl dX11_insert_4 ?_
  refine g_isn X (fun v11 => [(3, .int v11), (0, .ref 1), (1, .int a1), (2, .int a2)]) dX11_insert_7 rfl (by decide) (fun _ => rfl) (fun v11 => ?_)
  refine g_aload_n X dX11_insert_8 rfl 1 rfl ?_
  refine g_getr X fa_X11_44 rfl rfl dX11_insert_9 ?_
  refine g_iload_n X dX11_insert_12 rfl 2 rfl ?_
  refine g_bVv (As := [.int a1]) (rest := []) X (c_X4_add l K c M0 6 a1) lk_X11_207 rfl rfl rfl (Nat.le_of_ble_eq_true rfl) ⟨Nat.le_of_ble_eq_true rfl, Nat.le_of_ble_eq_true rfl⟩ ⟨Nat.zero_le _, Nat.zero_le _⟩ dX11_insert_13 (fun r12 => ?_)
  refine g_aload_n X dX11_insert_16 rfl 1 rfl ?_
  refine g_getr X fa_X11_44 rfl rfl dX11_insert_17 ?_
  refine g_geti X fa_X11_205 rfl dX11_insert_20 ?_
  refine g_iconst (v := 1) X dX11_insert_23 (by decide) ?_
  refine g_isub X dX11_insert_24 ?_
  refine g_is X (fun v13 => [(4, .int v13), (3, .int v11), (0, .ref 1), (1, .int a1), (2, .int a2)]) dX11_insert_25 (by decide) (fun _ => rfl) (fun v13 => ?_)
  exact g_sub [2, 3, 4, 1, 0] rfl (hb_27 q_fu a1 a2 v11 v13 r12)
