/-! level 1: the throwers (made by tool/thrower.py) -/
noncomputable def bt_X11_at_23 (c : Nat → Nat) (M : q_MM) : Option (Option Int32 × q_MM) :=
  some (none, M)
noncomputable def ft_X11_at (c : Nat → Nat) (M : q_MM) (a1 : Int32) (a2 : Int32) : Option (Option Int32 × q_MM) :=
  (f_X2_pictureAt c M a1).bind fun r1 =>
  if r1 = 0 then
    bt_X11_at_23 c M
  else
    (f_X11_within c M a2 0 7).bind fun r3 =>
    if r3 = 0 then
      bt_X11_at_23 c M
    else
      if a2 = 0 then
        (f_X2_stateOf c M r1).bind fun r6 =>
        some (some (r6), M)
      else
        if a2 = (3 : Int32) then
          q_ck ((qTX c) r1) 15 <|
          some (some ((M r1 13)), M)
        else
          if a2 = (7 : Int32) then
            q_ck ((qTX c) r1) 15 <|
            some (some ((M r1 8)), M)
          else
            (f_X11_placeOf c M r1 a2).bind fun r11 =>
            some (some (r11), M)
set_option maxHeartbeats 4000000 in
set_option maxRecDepth 100000 in
theorem ct_X11_at (l : Launch) (hl : l.stackTraces = false) (K : q_KK) (c : Nat → Nat) (M : q_MM) (a1 : Int32) (a2 : Int32) : ∀ res, ft_X11_at c M a1 a2 = some res → XMt l yX11_at cX11_at 4 6 130 1 6 K [.ref 1, .int a1, .int a2] ((qTX c), (qLX c), (qPX c), M) (res.1) (((qTX c), (qLX c), (qPX c), res.2)) := by
  refine XMt.of (fun (res : Option Int32 × q_MM) => res.1) (fun (res : Option Int32 × q_MM) => ((qTX c), (qLX c), (qPX c), res.2)) (by decide) (Nat.le_of_ble_eq_true rfl) ?_
  intro p e s m args below meth c0 A ad X hE hTz
  have hb_23 : GG p l e { frames := 6, cells := 1, slots := 6, locals := 130 } s m args below meth c0 K A ((qTX c), (qLX c), (qPX c), M) ad false 4 (fun res => vx_MQ below (q_QX K false ad ((qTX c), (qLX c), (qPX c), M) ((fun (res : Option Int32 × q_MM) => res.1) res) ((fun (res : Option Int32 × q_MM) => ((qTX c), (qLX c), (qPX c), res.2)) res) A) (q_XC K false ad ((qTX c), (qLX c), (qPX c), M) ((fun (res : Option Int32 × q_MM) => res.1) res) ((fun (res : Option Int32 × q_MM) => ((qTX c), (qLX c), (qPX c), res.2)) res) A) args s 1 6 A) (bt_X11_at_23 c M ) 23 [] [] ((qTX c), (qLX c), (qPX c), M) 0 0 := by
    unfold bt_X11_at_23
    exact g_xthrow X hl hTz hE rfl rfl dX11_at_23 dX11_at_26 dX11_at_27 dX11_at_30 (Nat.le_of_ble_eq_true rfl) (Nat.le_of_ble_eq_true rfl) (Nat.le_of_ble_eq_true rfl) (Nat.le_of_ble_eq_true rfl) (Nat.le_of_ble_eq_true rfl) (Nat.le_of_ble_eq_true rfl)
  refine g_sub (lv' := [(0, .ref 1), (1, .int a1), (2, .int a2)]) [0, 1, 2] rfl ?_
  unfold ft_X11_at
  refine g_aload_n X dX11_at_0 rfl 0 rfl ?_
  refine g_getr X fa_X11_10 rfl rfl dX11_at_1 ?_
  refine g_iload_n X dX11_at_4 rfl 1 rfl ?_
  refine g_bVr (As := [.int a1]) (rest := []) X (c_X2_pictureAt l K c M a1) lk_X11_184 rfl rfl rfl (Nat.le_of_ble_eq_true rfl) ⟨Nat.le_of_ble_eq_true rfl, Nat.le_of_ble_eq_true rfl⟩ ⟨Nat.zero_le _, Nat.zero_le _⟩ dX11_at_5 (fun r1 => ?_)
  refine g_astore_n X [(3, .ref r1), (0, .ref 1), (1, .int a1), (2, .int a2)] dX11_at_8 rfl (by decide) rfl ?_
  refine g_aload_n X dX11_at_9 rfl 0 rfl ?_
  refine g_ifnull X 23 dX11_at_10 rfl (fun h2 => ?_) (fun h2 => ?_)
  · exact g_sub [] rfl (hb_23)
  · refine g_iload_n X dX11_at_13 rfl 3 rfl ?_
    refine g_iconst (v := 0) X dX11_at_14 (by decide) ?_
    refine g_bipush (v := 7) X dX11_at_15 (by decide) ?_
    refine g_bSi (As := [.int a2, .int 0, .int 7]) (rest := []) X (c_X11_within l K c M a2 0 7) lk_X11_82 rfl rfl (Nat.le_of_ble_eq_true rfl) ⟨Nat.le_of_ble_eq_true rfl, Nat.le_of_ble_eq_true rfl⟩ ⟨Nat.zero_le _, Nat.zero_le _⟩ dX11_at_17 (fun r3 => ?_)
    refine g_if_ne X 31 dX11_at_20 rfl (fun h4 => ?_) (fun h4 => ?_)
    · exact g_sub [] rfl (hb_23)
    · refine g_iload_n X dX11_at_31 rfl 3 rfl ?_
      refine g_if_ne X 44 dX11_at_32 rfl (fun h5 => ?_) (fun h5 => ?_)
      · refine g_aload_n X dX11_at_35 rfl 1 rfl ?_
        refine g_getr X fa_X11_10 rfl rfl dX11_at_36 ?_
        refine g_aload_n X dX11_at_39 rfl 0 rfl ?_
        refine g_bVi (As := [.ref r1]) (rest := []) X (c_X2_stateOf l K c M r1) lk_X11_254 rfl rfl rfl (Nat.le_of_ble_eq_true rfl) ⟨Nat.le_of_ble_eq_true rfl, Nat.le_of_ble_eq_true rfl⟩ ⟨Nat.zero_le _, Nat.zero_le _⟩ dX11_at_40 (fun r6 => ?_)
        exact g_widen (Nat.zero_le _) (Nat.zero_le _) (g_xiret X rfl rfl rfl dX11_at_43)
      · refine g_iload_n X dX11_at_44 rfl 3 rfl ?_
        refine g_iconst (v := 3) X dX11_at_45 (by decide) ?_
        refine g_icmp_ne X 54 dX11_at_46 rfl (fun h7 => ?_) (fun h7 => ?_)
        · refine g_aload_n X dX11_at_49 rfl 0 rfl ?_
          refine g_ck (fun hT8 => ?_)
          refine g_geti X fa_X11_258 hT8 dX11_at_50 ?_
          exact g_widen (Nat.zero_le _) (Nat.zero_le _) (g_xiret X rfl rfl rfl dX11_at_53)
        · refine g_iload_n X dX11_at_54 rfl 3 rfl ?_
          refine g_bipush (v := 7) X dX11_at_55 (by decide) ?_
          refine g_icmp_ne X 67 dX11_at_57 rfl (fun h9 => ?_) (fun h9 => ?_)
          · refine g_aload_n X dX11_at_60 rfl 0 rfl ?_
            refine g_ck (fun hT10 => ?_)
            refine g_geti X fa_X11_188 hT10 dX11_at_61 ?_
            refine g_goto X 73 dX11_at_64 rfl ?_
            exact g_widen (Nat.zero_le _) (Nat.zero_le _) (g_xiret X rfl rfl rfl dX11_at_73)
          · refine g_aload_n X dX11_at_67 rfl 1 rfl ?_
            refine g_aload_n X dX11_at_68 rfl 0 rfl ?_
            refine g_iload_n X dX11_at_69 rfl 3 rfl ?_
            refine g_bVi (As := [.ref r1, .int a2]) (rest := []) X (c_X11_placeOf l K c M r1 a2) lk_X11_261 rfl rfl rfl (Nat.le_of_ble_eq_true rfl) ⟨Nat.le_of_ble_eq_true rfl, Nat.le_of_ble_eq_true rfl⟩ ⟨Nat.zero_le _, Nat.zero_le _⟩ dX11_at_70 (fun r11 => ?_)
            exact g_widen (Nat.zero_le _) (Nat.zero_le _) (g_xiret X rfl rfl rfl dX11_at_73)
noncomputable def bt_X11_like_31 (c : Nat → Nat) (M : q_MM) : Option (Option Int32 × q_MM) :=
  some (none, M)
noncomputable def ft_X11_like (c : Nat → Nat) (M0 : q_MM) (a1 : Int32) (a2 : Int32) (a3 : Int32) : Option (Option Int32 × q_MM) :=
  (f_X11_within c M0 a1 0 7).bind fun r1 =>
  if r1 = 0 then
    bt_X11_like_31 c M0
  else
    (f_X11_within c M0 a2 0 7).bind fun r3 =>
    if r3 = 0 then
      bt_X11_like_31 c M0
    else
      (f_X11_within c M0 a3 (-99) 99).bind fun r5 =>
      if r5 = 0 then
        bt_X11_like_31 c M0
      else
        q_ld M0 17 64 ((a1 * 8) + a2) fun v7 =>
        q_as M0 17 64 ((a1 * 8) + a2) a3 fun M8 =>
        q_as M8 17 64 ((a2 * 8) + a1) a3 fun M9 =>
        some (some (v7), M9)
set_option maxHeartbeats 4000000 in
set_option maxRecDepth 100000 in
theorem ct_X11_like (l : Launch) (hl : l.stackTraces = false) (K : q_KK) (c : Nat → Nat) (M0 : q_MM) (a1 : Int32) (a2 : Int32) (a3 : Int32) : ∀ res, ft_X11_like c M0 a1 a2 a3 = some res → XMt l yX11_like cX11_like 5 6 90 1 6 K [.ref 1, .int a1, .int a2, .int a3] ((qTX c), (qLX c), (qPX c), M0) (res.1) (((qTX c), (qLX c), (qPX c), res.2)) := by
  refine XMt.of (fun (res : Option Int32 × q_MM) => res.1) (fun (res : Option Int32 × q_MM) => ((qTX c), (qLX c), (qPX c), res.2)) (by decide) (Nat.le_of_ble_eq_true rfl) ?_
  intro p e s m args below meth c0 A ad X hE hTz
  have hb_31 : ∀ (M : q_MM), GG p l e { frames := 6, cells := 1, slots := 6, locals := 90 } s m args below meth c0 K A ((qTX c), (qLX c), (qPX c), M0) ad false 5 (fun res => vx_MQ below (q_QX K false ad ((qTX c), (qLX c), (qPX c), M0) ((fun (res : Option Int32 × q_MM) => res.1) res) ((fun (res : Option Int32 × q_MM) => ((qTX c), (qLX c), (qPX c), res.2)) res) A) (q_XC K false ad ((qTX c), (qLX c), (qPX c), M0) ((fun (res : Option Int32 × q_MM) => res.1) res) ((fun (res : Option Int32 × q_MM) => ((qTX c), (qLX c), (qPX c), res.2)) res) A) args s 1 6 A) (bt_X11_like_31 c M) 31 [] [] ((qTX c), (qLX c), (qPX c), M) 0 0 := by
    intro M
    unfold bt_X11_like_31
    exact g_xthrow X hl hTz hE rfl rfl dX11_like_31 dX11_like_34 dX11_like_35 dX11_like_38 (Nat.le_of_ble_eq_true rfl) (Nat.le_of_ble_eq_true rfl) (Nat.le_of_ble_eq_true rfl) (Nat.le_of_ble_eq_true rfl) (Nat.le_of_ble_eq_true rfl) (Nat.le_of_ble_eq_true rfl)
  refine g_sub (lv' := [(0, .ref 1), (1, .int a1), (2, .int a2), (3, .int a3)]) [0, 1, 2, 3] rfl ?_
  unfold ft_X11_like
  refine g_iload_n X dX11_like_0 rfl 1 rfl ?_
  refine g_iconst (v := 0) X dX11_like_1 (by decide) ?_
  refine g_bipush (v := 7) X dX11_like_2 (by decide) ?_
  refine g_bSi (As := [.int a1, .int 0, .int 7]) (rest := []) X (c_X11_within l K c M0 a1 0 7) lk_X11_82 rfl rfl (Nat.le_of_ble_eq_true rfl) ⟨Nat.le_of_ble_eq_true rfl, Nat.le_of_ble_eq_true rfl⟩ ⟨Nat.zero_le _, Nat.zero_le _⟩ dX11_like_4 (fun r1 => ?_)
  refine g_if_eq X 31 dX11_like_7 rfl (fun h2 => ?_) (fun h2 => ?_)
  · exact g_sub [] rfl (hb_31 M0)
  · refine g_iload_n X dX11_like_10 rfl 2 rfl ?_
    refine g_iconst (v := 0) X dX11_like_11 (by decide) ?_
    refine g_bipush (v := 7) X dX11_like_12 (by decide) ?_
    refine g_bSi (As := [.int a2, .int 0, .int 7]) (rest := []) X (c_X11_within l K c M0 a2 0 7) lk_X11_82 rfl rfl (Nat.le_of_ble_eq_true rfl) ⟨Nat.le_of_ble_eq_true rfl, Nat.le_of_ble_eq_true rfl⟩ ⟨Nat.zero_le _, Nat.zero_le _⟩ dX11_like_14 (fun r3 => ?_)
    refine g_if_eq X 31 dX11_like_17 rfl (fun h4 => ?_) (fun h4 => ?_)
    · exact g_sub [] rfl (hb_31 M0)
    · refine g_iload_n X dX11_like_20 rfl 3 rfl ?_
      refine g_bipush (v := (-99)) X dX11_like_21 (by decide) ?_
      refine g_bipush (v := 99) X dX11_like_23 (by decide) ?_
      refine g_bSi (As := [.int a3, .int (-99), .int 99]) (rest := []) X (c_X11_within l K c M0 a3 (-99) 99) lk_X11_82 rfl rfl (Nat.le_of_ble_eq_true rfl) ⟨Nat.le_of_ble_eq_true rfl, Nat.le_of_ble_eq_true rfl⟩ ⟨Nat.zero_le _, Nat.zero_le _⟩ dX11_like_25 (fun r5 => ?_)
      refine g_if_ne X 39 dX11_like_28 rfl (fun h6 => ?_) (fun h6 => ?_)
      · exact g_sub [] rfl (hb_31 M0)
      · refine g_aload_n X dX11_like_39 rfl 0 rfl ?_
        refine g_getr X fa_X11_10 rfl rfl dX11_like_40 ?_
        refine g_getr X fa_X11_310 rfl rfl dX11_like_43 ?_
        refine g_iload_n X dX11_like_46 rfl 1 rfl ?_
        refine g_bipush (v := 8) X dX11_like_47 (by decide) ?_
        refine g_imul X dX11_like_49 ?_
        refine g_iload_n X dX11_like_50 rfl 2 rfl ?_
        refine g_iadd X dX11_like_51 ?_
        refine g_ild X rfl rfl dX11_like_52 (fun v7 => ?_)
        refine g_istore X [(4, .int v7), (0, .ref 1), (1, .int a1), (2, .int a2), (3, .int a3)] dX11_like_53 (by decide) rfl ?_
        refine g_aload_n X dX11_like_55 rfl 1 rfl ?_
        refine g_getr X fa_X11_10 rfl rfl dX11_like_56 ?_
        refine g_getr X fa_X11_310 rfl rfl dX11_like_59 ?_
        refine g_iload_n X dX11_like_62 rfl 2 rfl ?_
        refine g_bipush (v := 8) X dX11_like_63 (by decide) ?_
        refine g_imul X dX11_like_65 ?_
        refine g_iload_n X dX11_like_66 rfl 3 rfl ?_
        refine g_iadd X dX11_like_67 ?_
        refine g_iload_n X dX11_like_68 rfl 4 rfl ?_
        refine g_isv X rfl rfl dX11_like_69 (fun M8 => ?_)
        refine g_aload_n X dX11_like_70 rfl 1 rfl ?_
        refine g_getr X fa_X11_10 rfl rfl dX11_like_71 ?_
        refine g_getr X fa_X11_310 rfl rfl dX11_like_74 ?_
        refine g_iload_n X dX11_like_77 rfl 3 rfl ?_
        refine g_bipush (v := 8) X dX11_like_78 (by decide) ?_
        refine g_imul X dX11_like_80 ?_
        refine g_iload_n X dX11_like_81 rfl 2 rfl ?_
        refine g_iadd X dX11_like_82 ?_
        refine g_iload_n X dX11_like_83 rfl 4 rfl ?_
        refine g_isv X rfl rfl dX11_like_84 (fun M9 => ?_)
        refine g_iload X dX11_like_85 0 rfl ?_
        exact g_widen (Nat.zero_le _) (Nat.zero_le _) (g_xiret X rfl rfl rfl dX11_like_87)
noncomputable def bt_X11_best_35 (c : Nat → Nat) (M : q_MM) : Option (Option Int32 × q_MM) :=
  some (none, M)
noncomputable def ft_X11_best (c : Nat → Nat) (M0 : q_MM) (a1 : Int32) (a2 : Int32) : Option (Option Int32 × q_MM) :=
  (f_X2_wallAt c M0 a1).bind fun r1 =>
  if r1 = 0 then
    bt_X11_best_35 c M0
  else
    (f_X6_choose c M0 a2).bind fun r3 =>
    if r3.1 = 0 then
      bt_X11_best_35 c r3.2
    else
      (f_X6_goOn c r3.2 r1).bind fun r5 =>
      if r5 = 0 then
        bt_X11_best_35 c r3.2
      else
        (f_X6_find c r3.2 r1).bind fun r7 =>
        q_let r7.1 fun v8 =>
        (f_X4_become c r7.2 6 37).bind fun r9 =>
        some (some (v8), r9)
set_option maxHeartbeats 4000000 in
set_option maxRecDepth 100000 in
theorem ct_X11_best (l : Launch) (hl : l.stackTraces = false) (K : q_KK) (c : Nat → Nat) (M0 : q_MM) (a1 : Int32) (a2 : Int32) : ∀ res, ft_X11_best c M0 a1 a2 = some res → XMt l yX11_best cX11_best 5 7 158 1 6 K [.ref 1, .int a1, .int a2] ((qTX c), (qLX c), (qPX c), M0) (res.1) (((qTX c), (qLX c), (qPX c), res.2)) := by
  refine XMt.of (fun (res : Option Int32 × q_MM) => res.1) (fun (res : Option Int32 × q_MM) => ((qTX c), (qLX c), (qPX c), res.2)) (by decide) (Nat.le_of_ble_eq_true rfl) ?_
  intro p e s m args below meth c0 A ad X hE hTz
  have hb_35 : ∀ (M : q_MM), GG p l e { frames := 7, cells := 1, slots := 6, locals := 158 } s m args below meth c0 K A ((qTX c), (qLX c), (qPX c), M0) ad false 5 (fun res => vx_MQ below (q_QX K false ad ((qTX c), (qLX c), (qPX c), M0) ((fun (res : Option Int32 × q_MM) => res.1) res) ((fun (res : Option Int32 × q_MM) => ((qTX c), (qLX c), (qPX c), res.2)) res) A) (q_XC K false ad ((qTX c), (qLX c), (qPX c), M0) ((fun (res : Option Int32 × q_MM) => res.1) res) ((fun (res : Option Int32 × q_MM) => ((qTX c), (qLX c), (qPX c), res.2)) res) A) args s 1 6 A) (bt_X11_best_35 c M) 35 [] [] ((qTX c), (qLX c), (qPX c), M) 0 0 := by
    intro M
    unfold bt_X11_best_35
    exact g_xthrow X hl hTz hE rfl rfl dX11_best_35 dX11_best_38 dX11_best_39 dX11_best_42 (Nat.le_of_ble_eq_true rfl) (Nat.le_of_ble_eq_true rfl) (Nat.le_of_ble_eq_true rfl) (Nat.le_of_ble_eq_true rfl) (Nat.le_of_ble_eq_true rfl) (Nat.le_of_ble_eq_true rfl)
  refine g_sub (lv' := [(0, .ref 1), (1, .int a1), (2, .int a2)]) [0, 1, 2] rfl ?_
  unfold ft_X11_best
  refine g_aload_n X dX11_best_0 rfl 0 rfl ?_
  refine g_getr X fa_X11_10 rfl rfl dX11_best_1 ?_
  refine g_iload_n X dX11_best_4 rfl 1 rfl ?_
  refine g_bVr (As := [.int a1]) (rest := []) X (c_X2_wallAt l K c M0 a1) lk_X11_125 rfl rfl rfl (Nat.le_of_ble_eq_true rfl) ⟨Nat.le_of_ble_eq_true rfl, Nat.le_of_ble_eq_true rfl⟩ ⟨Nat.zero_le _, Nat.zero_le _⟩ dX11_best_5 (fun r1 => ?_)
  refine g_astore_n X [(3, .ref r1), (0, .ref 1), (1, .int a1), (2, .int a2)] dX11_best_8 rfl (by decide) rfl ?_
  refine g_aload_n X dX11_best_9 rfl 0 rfl ?_
  refine g_ifnull X 35 dX11_best_10 rfl (fun h2 => ?_) (fun h2 => ?_)
  · exact g_sub [] rfl (hb_35 M0)
  · refine g_aload_n X dX11_best_13 rfl 1 rfl ?_
    refine g_getr X fa_X11_28 rfl rfl dX11_best_14 ?_
    refine g_iload_n X dX11_best_17 rfl 3 rfl ?_
    refine g_bVi (As := [.int a2]) (rest := []) X (c_X6_choose l K c M0 a2) lk_X11_313 rfl rfl rfl (Nat.le_of_ble_eq_true rfl) ⟨Nat.le_of_ble_eq_true rfl, Nat.le_of_ble_eq_true rfl⟩ ⟨Nat.zero_le _, Nat.zero_le _⟩ dX11_best_18 (fun r3 => ?_)
    refine g_if_eq X 35 dX11_best_21 rfl (fun h4 => ?_) (fun h4 => ?_)
    · exact g_sub [] rfl (hb_35 r3.2)
    · refine g_aload_n X dX11_best_24 rfl 1 rfl ?_
      refine g_getr X fa_X11_28 rfl rfl dX11_best_25 ?_
      refine g_aload_n X dX11_best_28 rfl 0 rfl ?_
      refine g_bVi (As := [.ref r1]) (rest := []) X (c_X6_goOn l K c r3.2 r1) lk_X11_316 rfl rfl rfl (Nat.le_of_ble_eq_true rfl) ⟨Nat.le_of_ble_eq_true rfl, Nat.le_of_ble_eq_true rfl⟩ ⟨Nat.zero_le _, Nat.zero_le _⟩ dX11_best_29 (fun r5 => ?_)
      refine g_if_ne X 43 dX11_best_32 rfl (fun h6 => ?_) (fun h6 => ?_)
      · exact g_sub [] rfl (hb_35 r3.2)
      · refine g_aload_n X dX11_best_43 rfl 1 rfl ?_
        refine g_getr X fa_X11_28 rfl rfl dX11_best_44 ?_
        refine g_aload_n X dX11_best_47 rfl 0 rfl ?_
        refine g_bVi (As := [.ref r1]) (rest := []) X (c_X6_find l K c r3.2 r1) lk_X11_320 rfl rfl rfl (Nat.le_of_ble_eq_true rfl) ⟨Nat.le_of_ble_eq_true rfl, Nat.le_of_ble_eq_true rfl⟩ ⟨Nat.zero_le _, Nat.zero_le _⟩ dX11_best_48 (fun r7 => ?_)
        refine g_is X (fun v8 => [(4, .int v8), (3, .ref r1), (0, .ref 1), (1, .int a1), (2, .int a2)]) dX11_best_51 (by decide) (fun _ => rfl) (fun v8 => ?_)
        refine g_aload_n X dX11_best_53 rfl 2 rfl ?_
        refine g_getr X fa_X11_44 rfl rfl dX11_best_54 ?_
        refine g_aload_n X dX11_best_57 rfl 2 rfl ?_
        refine g_getr X fa_X11_28 rfl rfl dX11_best_58 ?_
        refine g_getr X fa_X11_323 rfl rfl dX11_best_61 ?_
        refine g_bVv (As := [.ref 37]) (rest := []) X (c_X4_become l K c r7.2 6 37) lk_X11_326 rfl rfl rfl (Nat.le_of_ble_eq_true rfl) ⟨Nat.le_of_ble_eq_true rfl, Nat.le_of_ble_eq_true rfl⟩ ⟨Nat.zero_le _, Nat.zero_le _⟩ dX11_best_64 (fun r9 => ?_)
        refine g_iload X dX11_best_67 0 rfl ?_
        exact g_widen (Nat.zero_le _) (Nat.zero_le _) (g_xiret X rfl rfl rfl dX11_best_69)
noncomputable def ft_X11_row (c : Nat → Nat) (M : q_MM) (a1 : Int32) : Option (Option Int32 × q_MM) :=
  (f_X11_within c M a1 0 ((M 6 1) - 1)).bind fun r1 =>
  if r1 = 0 then
    some (none, M)
  else
    (f_X4_get c M 6 a1).bind fun r3 =>
    some (some (r3), M)
set_option maxHeartbeats 4000000 in
set_option maxRecDepth 100000 in
theorem ct_X11_row (l : Launch) (hl : l.stackTraces = false) (K : q_KK) (c : Nat → Nat) (M : q_MM) (a1 : Int32) : ∀ res, ft_X11_row c M a1 = some res → XMt l yX11_row cX11_row 2 6 90 1 6 K [.ref 1, .int a1] ((qTX c), (qLX c), (qPX c), M) (res.1) (((qTX c), (qLX c), (qPX c), res.2)) := by
  refine XMt.of (fun (res : Option Int32 × q_MM) => res.1) (fun (res : Option Int32 × q_MM) => ((qTX c), (qLX c), (qPX c), res.2)) (by decide) (Nat.le_of_ble_eq_true rfl) ?_
  intro p e s m args below meth c0 A ad X hE hTz
  refine g_sub (lv' := [(0, .ref 1), (1, .int a1)]) [0, 1] rfl ?_
  unfold ft_X11_row
  refine g_iload_n X dX11_row_0 rfl 1 rfl ?_
  refine g_iconst (v := 0) X dX11_row_1 (by decide) ?_
  refine g_aload_n X dX11_row_2 rfl 0 rfl ?_
  refine g_getr X fa_X11_44 rfl rfl dX11_row_3 ?_
  refine g_geti X fa_X11_205 rfl dX11_row_6 ?_
  refine g_iconst (v := 1) X dX11_row_9 (by decide) ?_
  refine g_isub X dX11_row_10 ?_
  refine g_bSi (As := [.int a1, .int 0, .int ((M 6 1) - 1)]) (rest := []) X (c_X11_within l K c M a1 0 ((M 6 1) - 1)) lk_X11_82 rfl rfl (Nat.le_of_ble_eq_true rfl) ⟨Nat.le_of_ble_eq_true rfl, Nat.le_of_ble_eq_true rfl⟩ ⟨Nat.zero_le _, Nat.zero_le _⟩ dX11_row_11 (fun r1 => ?_)
  refine g_if_ne X 25 dX11_row_14 rfl (fun h2 => ?_) (fun h2 => ?_)
  · exact g_xthrow X hl hTz hE rfl rfl dX11_row_17 dX11_row_20 dX11_row_21 dX11_row_24 (Nat.le_of_ble_eq_true rfl) (Nat.le_of_ble_eq_true rfl) (Nat.le_of_ble_eq_true rfl) (Nat.le_of_ble_eq_true rfl) (Nat.le_of_ble_eq_true rfl) (Nat.le_of_ble_eq_true rfl)
  · refine g_aload_n X dX11_row_25 rfl 0 rfl ?_
    refine g_getr X fa_X11_44 rfl rfl dX11_row_26 ?_
    refine g_iload_n X dX11_row_29 rfl 1 rfl ?_
    refine g_bVi (As := [.int a1]) (rest := []) X (c_X4_get l K c M 6 a1) lk_X11_339 rfl rfl rfl (Nat.le_of_ble_eq_true rfl) ⟨Nat.le_of_ble_eq_true rfl, Nat.le_of_ble_eq_true rfl⟩ ⟨Nat.zero_le _, Nat.zero_le _⟩ dX11_row_30 (fun r3 => ?_)
    exact g_widen (Nat.zero_le _) (Nat.zero_le _) (g_xiret X rfl rfl rfl dX11_row_33)
