set_option maxHeartbeats 4000000 in
set_option maxRecDepth 100000 in
theorem c_X11_stand (l : Launch) (K : q_KK) (c : Nat → Nat) (M0 : q_MM) (a1 : Int32) : ∀ res, f_X11_stand c M0 a1 = some res → Mt l yX11_stand cX11_stand 7 (some FieldType.int) 8 190 0 0 false K [.ref 1, .int a1] ((qTX c), (qLX c), (qPX c), M0) (some (.int res.1)) (((qTX c), (qLX c), (qPX c), res.2)) := by
  refine Mt.of (fun (res : Int32 × q_MM) => some (.int res.1)) (fun (res : Int32 × q_MM) => ((qTX c), (qLX c), (qPX c), res.2)) (by decide) (Nat.le_of_ble_eq_true rfl) ?_
  intro p e s m args below meth c0 A ad X hN
  have hb_184 : ∀ (k93 : Nat → Int32 → Int32 → q_MM → Option (Int32 × q_MM)) (hk93 : ∀ (x3 : Nat) (x4 : Int32) (x5 : Int32) (M : q_MM), GG p l e { frames := 8, cells := 0, slots := 0, locals := 190 } s m args below meth c0 K A ((qTX c), (qLX c), (qPX c), M0) ad false 7 (fun res => MQ below (q_Qc K false ad ((qTX c), (qLX c), (qPX c), M0) ((fun (res : Int32 × q_MM) => some (.int res.1)) res) ((fun (res : Int32 × q_MM) => ((qTX c), (qLX c), (qPX c), res.2)) res) A) args s 0 0 A) (k93 x3 x4 x5 M) 93 [(0, .ref 1), (3, .ref x3), (4, .int x4), (5, .int x5)] [] ((qTX c), (qLX c), (qPX c), M) 0 0) (x3 : Nat) (x4 : Int32) (x5 : Int32) (M : q_MM), GG p l e { frames := 8, cells := 0, slots := 0, locals := 190 } s m args below meth c0 K A ((qTX c), (qLX c), (qPX c), M0) ad false 7 (fun res => MQ below (q_Qc K false ad ((qTX c), (qLX c), (qPX c), M0) ((fun (res : Int32 × q_MM) => some (.int res.1)) res) ((fun (res : Int32 × q_MM) => ((qTX c), (qLX c), (qPX c), res.2)) res) A) args s 0 0 A) (b_X11_stand_184 c k93 x3 x4 x5 M) 184 [(0, .ref 1), (3, .ref x3), (4, .int x4), (5, .int x5)] [] ((qTX c), (qLX c), (qPX c), M) 0 0 := by
    intro k93 hk93 x3 x4 x5 M
    unfold b_X11_stand_184
    refine g_iinc (v := 1) X [(5, .int (x5 + 1)), (0, .ref 1), (3, .ref x3), (4, .int x4)] 3 dX11_stand_184 rfl (by decide) (by decide) rfl ?_
    refine g_goto X 93 dX11_stand_187 rfl ?_
    exact g_sub [1, 2, 3, 0] rfl (hk93 x3 x4 (x5 + 1) M)
  have hb_93 : ∀ (nf : Nat) (x3 : Nat) (x4 : Int32) (x5 : Int32) (M : q_MM), GG p l e { frames := 8, cells := 0, slots := 0, locals := 190 } s m args below meth c0 K A ((qTX c), (qLX c), (qPX c), M0) ad false 7 (fun res => MQ below (q_Qc K false ad ((qTX c), (qLX c), (qPX c), M0) ((fun (res : Int32 × q_MM) => some (.int res.1)) res) ((fun (res : Int32 × q_MM) => ((qTX c), (qLX c), (qPX c), res.2)) res) A) args s 0 0 A) (b_X11_stand_93 c nf x3 x4 x5 M) 93 [(0, .ref 1), (3, .ref x3), (4, .int x4), (5, .int x5)] [] ((qTX c), (qLX c), (qPX c), M) 0 0 := by
    intro  nf
    induction nf with
    | zero => intros; exact g_stop
    | succ nf ih =>
      intro x3 x4 x5 M
      rw [b_X11_stand_93]
      refine g_iload X dX11_stand_93 3 rfl ?_
      refine g_aload_n X dX11_stand_95 rfl 0 rfl ?_
      refine g_getr X fa_X11_10 rfl rfl dX11_stand_96 ?_
      refine g_getr X fa_X11_158 rfl rfl dX11_stand_99 ?_
      refine g_bVi (As := []) (rest := [.int x5]) X (c_Jx4a65c_size_8abf5 l K (qTX c) (qLX c) (qPX c) M 15) lk_X11_90 rfl rfl rfl (Nat.le_of_ble_eq_true rfl) ⟨Nat.le_of_ble_eq_true rfl, Nat.le_of_ble_eq_true rfl⟩ ⟨Nat.zero_le _, Nat.zero_le _⟩ dX11_stand_102 (fun r1 => ?_)
      refine g_icmp_ge X 190 dX11_stand_105 rfl (fun h2 => ?_) (fun h2 => ?_)
      · refine g_aload_n X dX11_stand_190 rfl 0 rfl ?_
        refine g_getr X fa_X11_44 rfl rfl dX11_stand_191 ?_
        refine g_geti X fa_X11_205 rfl dX11_stand_194 ?_
        exact g_iret X rfl rfl rfl dX11_stand_197
      · refine g_aload_n X dX11_stand_108 rfl 0 rfl ?_
        refine g_getr X fa_X11_10 rfl rfl dX11_stand_109 ?_
        refine g_getr X fa_X11_158 rfl rfl dX11_stand_112 ?_
        refine g_iload X dX11_stand_115 3 rfl ?_
        refine g_bVr (As := [.int x5]) (rest := []) X (c_Jx4a65c_get_915e3 l K (qTX c) (qLX c) (qPX c) M 15 x5) lk_X11_272 rfl rfl rfl (Nat.le_of_ble_eq_true rfl) ⟨Nat.le_of_ble_eq_true rfl, Nat.le_of_ble_eq_true rfl⟩ ⟨Nat.zero_le _, Nat.zero_le _⟩ dX11_stand_117 (fun r3 => ?_)
        refine g_ck (fun hT4 => ?_)
        refine g_cast X (ci := 5) rfl wl_X11_161 hT4 dX11_stand_120 ?_
        refine g_astore X [(6, .ref r3), (0, .ref 1), (3, .ref x3), (4, .int x4), (5, .int x5)] dX11_stand_123 (by decide) rfl ?_
        refine g_aload_n X dX11_stand_125 rfl 1 rfl ?_
        refine g_getr X fa_X11_10 rfl rfl dX11_stand_126 ?_
        refine g_aload X dX11_stand_129 0 rfl ?_
        refine g_bVi (As := [.ref r3]) (rest := []) X (c_X2_stateOf l K c M r3) lk_X11_254 rfl rfl rfl (Nat.le_of_ble_eq_true rfl) ⟨Nat.le_of_ble_eq_true rfl, Nat.le_of_ble_eq_true rfl⟩ ⟨Nat.zero_le _, Nat.zero_le _⟩ dX11_stand_131 (fun r5 => ?_)
        refine g_if_ne X 184 dX11_stand_134 rfl (fun h6 => ?_) (fun h6 => ?_)
        · refine g_aload_n X dX11_stand_137 rfl 1 rfl ?_
          refine g_getr X fa_X11_21 rfl rfl dX11_stand_138 ?_
          refine g_aload_n X dX11_stand_141 rfl 1 rfl ?_
          refine g_getr X fa_X11_10 rfl rfl dX11_stand_142 ?_
          refine g_getr X fa_X11_385 rfl rfl dX11_stand_145 ?_
          refine g_aload X dX11_stand_148 0 rfl ?_
          refine g_aload_n X dX11_stand_150 rfl 2 rfl ?_
          refine g_iload X dX11_stand_151 3 rfl ?_
          refine g_bVi (As := [.ref 22, .ref r3, .ref x3, .int x4]) (rest := []) X (c_X9_unfit l K c M 22 r3 x3 x4) lk_X11_234 rfl rfl rfl (Nat.le_of_ble_eq_true rfl) ⟨Nat.le_of_ble_eq_true rfl, Nat.le_of_ble_eq_true rfl⟩ ⟨Nat.zero_le _, Nat.zero_le _⟩ dX11_stand_153 (fun r7 => ?_)
          refine g_if_ne X 184 dX11_stand_156 rfl (fun h8 => ?_) (fun h8 => ?_)
          · refine g_aload_n X dX11_stand_159 rfl 1 rfl ?_
            refine g_iload X dX11_stand_160 4 rfl ?_
            refine g_aload_n X dX11_stand_162 rfl 1 rfl ?_
            refine g_getr X fa_X11_10 rfl rfl dX11_stand_163 ?_
            refine g_aload_n X dX11_stand_166 rfl 1 rfl ?_
            refine g_getr X fa_X11_10 rfl rfl dX11_stand_167 ?_
            refine g_getr X fa_X11_385 rfl rfl dX11_stand_170 ?_
            refine g_aload X dX11_stand_173 0 rfl ?_
            refine g_aload_n X dX11_stand_175 rfl 2 rfl ?_
            refine g_iload X dX11_stand_176 3 rfl ?_
            refine g_bVi (As := [.ref 22, .ref r3, .ref x3, .int x4]) (rest := [.int x5, .ref 1]) X (c_X2_likedAt l K c r7.2 22 r3 x3 x4) lk_X11_394 rfl rfl rfl (Nat.le_of_ble_eq_true rfl) ⟨Nat.le_of_ble_eq_true rfl, Nat.le_of_ble_eq_true rfl⟩ ⟨Nat.zero_le _, Nat.zero_le _⟩ dX11_stand_178 (fun r9 => ?_)
            refine g_bVv (As := [.int x5, .int r9]) (rest := []) X (c_X11_insert l K c r7.2 x5 r9) lk_X11_397 rfl rfl rfl (Nat.le_of_ble_eq_true rfl) ⟨Nat.le_of_ble_eq_true rfl, Nat.le_of_ble_eq_true rfl⟩ ⟨Nat.zero_le _, Nat.zero_le _⟩ dX11_stand_181 (fun r10 => ?_)
            exact g_sub [1, 2, 3, 4] rfl (hb_184 (b_X11_stand_93 c nf) ih x3 x4 x5 r10)
          · exact g_sub [1, 2, 3, 4] rfl (hb_184 (b_X11_stand_93 c nf) ih x3 x4 x5 r7.2)
        · exact g_sub [1, 2, 3, 4] rfl (hb_184 (b_X11_stand_93 c nf) ih x3 x4 x5 M)
  have hb_25 : ∀ (x2 : Nat) (s0 : Nat) (M : q_MM), GG p l e { frames := 8, cells := 0, slots := 0, locals := 190 } s m args below meth c0 K A ((qTX c), (qLX c), (qPX c), M0) ad false 7 (fun res => MQ below (q_Qc K false ad ((qTX c), (qLX c), (qPX c), M0) ((fun (res : Int32 × q_MM) => some (.int res.1)) res) ((fun (res : Int32 × q_MM) => ((qTX c), (qLX c), (qPX c), res.2)) res) A) args s 0 0 A) (b_X11_stand_25 c x2 s0 M) 25 [(0, .ref 1), (2, .ref x2)] [.ref s0] ((qTX c), (qLX c), (qPX c), M) 0 0 := by
    intro x2 s0 M
    unfold b_X11_stand_25
    refine g_astore_n X [(3, .ref s0), (0, .ref 1), (2, .ref x2)] dX11_stand_25 rfl (by decide) rfl ?_
    refine g_aload_n X dX11_stand_26 rfl 2 rfl ?_
    refine g_ifnull X 34 dX11_stand_27 rfl (fun h11 => ?_) (fun h11 => ?_)
    · refine g_iconst (v := (-1)) X dX11_stand_34 (by decide) ?_
      exact g_iret X rfl rfl rfl dX11_stand_35
    · refine g_aload_n X dX11_stand_30 rfl 0 rfl ?_
      refine g_ifnonnull X 36 dX11_stand_31 rfl (fun h12 => ?_) (fun h12 => ?_)
      · refine g_iconst (v := (-1)) X dX11_stand_34 (by decide) ?_
        exact g_iret X rfl rfl rfl dX11_stand_35
      · refine g_aload_n X dX11_stand_36 rfl 1 rfl ?_
        refine g_getr X fa_X11_10 rfl rfl dX11_stand_37 ?_
        refine g_getr X fa_X11_223 rfl rfl dX11_stand_40 ?_
        refine g_aload_n X dX11_stand_43 rfl 2 rfl ?_
        refine g_ck (fun hT13 => ?_)
        refine g_geti X fa_X11_183 hT13 dX11_stand_44 ?_
        refine g_bVi (As := [.int (M x2 0)]) (rest := []) X (c_X1_leftSide l K c M 21 (M x2 0)) lk_X11_269 rfl rfl rfl (Nat.le_of_ble_eq_true rfl) ⟨Nat.le_of_ble_eq_true rfl, Nat.le_of_ble_eq_true rfl⟩ ⟨Nat.zero_le _, Nat.zero_le _⟩ dX11_stand_47 (fun r14 => ?_)
        refine g_istore X [(4, .int r14), (3, .ref s0), (0, .ref 1), (2, .ref x2)] dX11_stand_50 (by decide) rfl ?_
        refine g_aload_n X dX11_stand_52 rfl 2 rfl ?_
        refine g_getr X fa_X11_10 rfl rfl dX11_stand_53 ?_
        refine g_getr X fa_X11_385 rfl rfl dX11_stand_56 ?_
        refine g_aload_n X dX11_stand_59 rfl 2 rfl ?_
        refine g_getr X fa_X11_10 rfl rfl dX11_stand_60 ?_
        refine g_getr X fa_X11_223 rfl rfl dX11_stand_63 ?_
        refine g_bVv (As := [.ref 21]) (rest := []) X (c_X1_become l K c M 22 21) lk_X11_388 rfl rfl rfl (Nat.le_of_ble_eq_true rfl) ⟨Nat.le_of_ble_eq_true rfl, Nat.le_of_ble_eq_true rfl⟩ ⟨Nat.zero_le _, Nat.zero_le _⟩ dX11_stand_66 (fun r15 => ?_)
        refine g_aload_n X dX11_stand_69 rfl 2 rfl ?_
        refine g_getr X fa_X11_10 rfl rfl dX11_stand_70 ?_
        refine g_getr X fa_X11_385 rfl rfl dX11_stand_73 ?_
        refine g_aload_n X dX11_stand_76 rfl 3 rfl ?_
        refine g_geti X fa_X11_183 hT13 dX11_stand_77 ?_
        refine g_bVv (As := [.int (r15 x2 0)]) (rest := []) X (c_X1_take l K c r15 22 (r15 x2 0)) lk_X11_249 rfl rfl rfl (Nat.le_of_ble_eq_true rfl) ⟨Nat.le_of_ble_eq_true rfl, Nat.le_of_ble_eq_true rfl⟩ ⟨Nat.zero_le _, Nat.zero_le _⟩ dX11_stand_80 (fun r16 => ?_)
        refine g_aload_n X dX11_stand_83 rfl 2 rfl ?_
        refine g_getr X fa_X11_44 rfl rfl dX11_stand_84 ?_
        refine g_bVv (As := []) (rest := []) X (c_X4_clear l K c r16 6) lk_X11_216 rfl rfl rfl (Nat.le_of_ble_eq_true rfl) ⟨Nat.le_of_ble_eq_true rfl, Nat.le_of_ble_eq_true rfl⟩ ⟨Nat.zero_le _, Nat.zero_le _⟩ dX11_stand_87 (fun r17 => ?_)
        refine g_iconst (v := 0) X dX11_stand_90 (by decide) ?_
        refine g_istore X [(5, .int 0), (4, .int r14), (3, .ref s0), (0, .ref 1), (2, .ref x2)] dX11_stand_91 (by decide) rfl ?_
        exact g_sub [3, 2, 1, 0] rfl (hb_93 q_fu s0 r14 0 r17)
  refine g_sub (lv' := [(0, .ref 1), (1, .int a1)]) [0, 1] rfl ?_
  unfold f_X11_stand
  refine g_aload_n X dX11_stand_0 rfl 0 rfl ?_
  refine g_getr X fa_X11_10 rfl rfl dX11_stand_1 ?_
  refine g_iload_n X dX11_stand_4 rfl 1 rfl ?_
  refine g_bVr (As := [.int a1]) (rest := []) X (c_X2_pictureAt l K c M0 a1) lk_X11_184 rfl rfl rfl (Nat.le_of_ble_eq_true rfl) ⟨Nat.le_of_ble_eq_true rfl, Nat.le_of_ble_eq_true rfl⟩ ⟨Nat.zero_le _, Nat.zero_le _⟩ dX11_stand_5 (fun r18 => ?_)
  refine g_astore_n X [(2, .ref r18), (0, .ref 1), (1, .int a1)] dX11_stand_8 rfl (by decide) rfl ?_
  refine g_aload_n X dX11_stand_9 rfl 0 rfl ?_
  refine g_ifnonnull X 17 dX11_stand_10 rfl (fun h19 => ?_) (fun h19 => ?_)
  · refine g_null X dX11_stand_13 ?_
    refine g_goto X 25 dX11_stand_14 rfl ?_
    exact g_sub [1, 0] rfl (hb_25 r18 0 M0)
  · refine g_aload_n X dX11_stand_17 rfl 1 rfl ?_
    refine g_getr X fa_X11_10 rfl rfl dX11_stand_18 ?_
    refine g_aload_n X dX11_stand_21 rfl 0 rfl ?_
    refine g_bVr (As := [.ref r18]) (rest := []) X (c_X2_wallOf l K c M0 r18) lk_X11_295 rfl rfl rfl (Nat.le_of_ble_eq_true rfl) ⟨Nat.le_of_ble_eq_true rfl, Nat.le_of_ble_eq_true rfl⟩ ⟨Nat.zero_le _, Nat.zero_le _⟩ dX11_stand_22 (fun r20 => ?_)
    exact g_sub [1, 0] rfl (hb_25 r18 r20 M0)
set_option maxHeartbeats 4000000 in
set_option maxRecDepth 100000 in
theorem c_X11_sight (l : Launch) (K : q_KK) (c : Nat → Nat) (M0 : q_MM) (a1 : Int32) (a2 : Int32) : ∀ res, f_X11_sight c M0 a1 a2 = some res → Mt l yX11_sight cX11_sight 4 (some FieldType.boolean) 4 85 0 0 false K [.ref 1, .int a1, .int a2] ((qTX c), (qLX c), (qPX c), M0) (some (.int res.1)) (((qTX c), (qLX c), (qPX c), res.2)) := by
  refine Mt.of (fun (res : Int32 × q_MM) => some (.int res.1)) (fun (res : Int32 × q_MM) => ((qTX c), (qLX c), (qPX c), res.2)) (by decide) (Nat.le_of_ble_eq_true rfl) ?_
  intro p e s m args below meth c0 A ad X hN
  refine g_sub (lv' := [(0, .ref 1), (1, .int a1), (2, .int a2)]) [0, 1, 2] rfl ?_
  unfold f_X11_sight
  refine g_aload_n X dX11_sight_0 rfl 0 rfl ?_
  refine g_getr X fa_X11_10 rfl rfl dX11_sight_1 ?_
  refine g_iload_n X dX11_sight_4 rfl 2 rfl ?_
  refine g_bVr (As := [.int a2]) (rest := []) X (c_X2_wallAt l K c M0 a2) lk_X11_125 rfl rfl rfl (Nat.le_of_ble_eq_true rfl) ⟨Nat.le_of_ble_eq_true rfl, Nat.le_of_ble_eq_true rfl⟩ ⟨Nat.zero_le _, Nat.zero_le _⟩ dX11_sight_5 (fun r1 => ?_)
  refine g_astore_n X [(3, .ref r1), (0, .ref 1), (1, .int a1), (2, .int a2)] dX11_sight_8 rfl (by decide) rfl ?_
  refine g_aload_n X dX11_sight_9 rfl 0 rfl ?_
  refine g_ifnull X 32 dX11_sight_10 rfl (fun h2 => ?_) (fun h2 => ?_)
  · refine g_iconst (v := 0) X dX11_sight_32 (by decide) ?_
    exact g_zret X rfl rfl rfl dX11_sight_33
  · refine g_aload_n X dX11_sight_13 rfl 1 rfl ?_
    refine g_getr X fa_X11_10 rfl rfl dX11_sight_14 ?_
    refine g_iload_n X dX11_sight_17 rfl 2 rfl ?_
    refine g_bVi (As := [.int a1]) (rest := []) X (c_X2_hasRoom l K c M0 a1) lk_X11_78 rfl rfl rfl (Nat.le_of_ble_eq_true rfl) ⟨Nat.le_of_ble_eq_true rfl, Nat.le_of_ble_eq_true rfl⟩ ⟨Nat.zero_le _, Nat.zero_le _⟩ dX11_sight_18 (fun r3 => ?_)
    refine g_if_eq X 32 dX11_sight_21 rfl (fun h4 => ?_) (fun h4 => ?_)
    · refine g_iconst (v := 0) X dX11_sight_32 (by decide) ?_
      exact g_zret X rfl rfl rfl dX11_sight_33
    · refine g_aload_n X dX11_sight_24 rfl 0 rfl ?_
      refine g_ck (fun hT5 => ?_)
      refine g_geti X fa_X11_400 hT5 dX11_sight_25 ?_
      refine g_iload_n X dX11_sight_28 rfl 2 rfl ?_
      refine g_icmp_ne X 34 dX11_sight_29 rfl (fun h6 => ?_) (fun h6 => ?_)
      · refine g_iconst (v := 0) X dX11_sight_32 (by decide) ?_
        exact g_zret X rfl rfl rfl dX11_sight_33
      · refine g_aload_n X dX11_sight_34 rfl 0 rfl ?_
        refine g_dup X dX11_sight_35 rfl ?_
        refine g_geti X fa_X11_403 hT5 dX11_sight_36 ?_
        refine g_iconst (v := 1) X dX11_sight_39 (by decide) ?_
        refine g_iload_n X dX11_sight_40 rfl 2 rfl ?_
        refine g_ishl X dX11_sight_41 ?_
        refine g_ior X dX11_sight_42 ?_
        refine g_pfi X fa_X11_403 rfl (by decide +kernel) hT5 dX11_sight_43 (fun M7 => ?_)
        refine g_iconst (v := 1) X dX11_sight_46 (by decide) ?_
        exact g_zret X rfl rfl rfl dX11_sight_47
set_option maxHeartbeats 4000000 in
set_option maxRecDepth 100000 in
theorem c_X11_guard (l : Launch) (K : q_KK) (c : Nat → Nat) (M0 : q_MM) (a1 : Int32) : ∀ res, f_X11_guard c M0 a1 = some res → Mt l yX11_guard cX11_guard 6 (some FieldType.int) 6 130 0 0 false K [.ref 1, .int a1] ((qTX c), (qLX c), (qPX c), M0) (some (.int res.1)) (((qTX c), (qLX c), (qPX c), res.2)) := by
  refine Mt.of (fun (res : Int32 × q_MM) => some (.int res.1)) (fun (res : Int32 × q_MM) => ((qTX c), (qLX c), (qPX c), res.2)) (by decide) (Nat.le_of_ble_eq_true rfl) ?_
  intro p e s m args below meth c0 A ad X hN
  have hb_84 : ∀ (k39 : Int32 → Int32 → Int32 → q_MM → Option (Int32 × q_MM)) (hk39 : ∀ (x2 : Int32) (x3 : Int32) (x4 : Int32) (M : q_MM), GG p l e { frames := 6, cells := 0, slots := 0, locals := 130 } s m args below meth c0 K A ((qTX c), (qLX c), (qPX c), M0) ad false 6 (fun res => MQ below (q_Qc K false ad ((qTX c), (qLX c), (qPX c), M0) ((fun (res : Int32 × q_MM) => some (.int res.1)) res) ((fun (res : Int32 × q_MM) => ((qTX c), (qLX c), (qPX c), res.2)) res) A) args s 0 0 A) (k39 x2 x3 x4 M) 39 [(0, .ref 1), (2, .int x2), (3, .int x3), (4, .int x4)] [] ((qTX c), (qLX c), (qPX c), M) 0 0) (x2 : Int32) (x3 : Int32) (x4 : Int32) (M : q_MM), GG p l e { frames := 6, cells := 0, slots := 0, locals := 130 } s m args below meth c0 K A ((qTX c), (qLX c), (qPX c), M0) ad false 6 (fun res => MQ below (q_Qc K false ad ((qTX c), (qLX c), (qPX c), M0) ((fun (res : Int32 × q_MM) => some (.int res.1)) res) ((fun (res : Int32 × q_MM) => ((qTX c), (qLX c), (qPX c), res.2)) res) A) args s 0 0 A) (b_X11_guard_84 c k39 x2 x3 x4 M) 84 [(0, .ref 1), (2, .int x2), (3, .int x3), (4, .int x4)] [] ((qTX c), (qLX c), (qPX c), M) 0 0 := by
    intro k39 hk39 x2 x3 x4 M
    unfold b_X11_guard_84
    refine g_iinc (v := (-1)) X [(4, .int (x4 + (-1))), (0, .ref 1), (2, .int x2), (3, .int x3)] 3 dX11_guard_84 rfl (by decide) (by decide) rfl ?_
    refine g_goto X 39 dX11_guard_87 rfl ?_
    exact g_sub [1, 2, 3, 0] rfl (hk39 x2 x3 (x4 + (-1)) M)
  have hb_61 : ∀ (k39 : Int32 → Int32 → Int32 → q_MM → Option (Int32 × q_MM)) (hk39 : ∀ (x2 : Int32) (x3 : Int32) (x4 : Int32) (M : q_MM), GG p l e { frames := 6, cells := 0, slots := 0, locals := 130 } s m args below meth c0 K A ((qTX c), (qLX c), (qPX c), M0) ad false 6 (fun res => MQ below (q_Qc K false ad ((qTX c), (qLX c), (qPX c), M0) ((fun (res : Int32 × q_MM) => some (.int res.1)) res) ((fun (res : Int32 × q_MM) => ((qTX c), (qLX c), (qPX c), res.2)) res) A) args s 0 0 A) (k39 x2 x3 x4 M) 39 [(0, .ref 1), (2, .int x2), (3, .int x3), (4, .int x4)] [] ((qTX c), (qLX c), (qPX c), M) 0 0) (x2 : Int32) (x3 : Int32) (x4 : Int32) (s0 : Int32) (M : q_MM), GG p l e { frames := 6, cells := 0, slots := 0, locals := 130 } s m args below meth c0 K A ((qTX c), (qLX c), (qPX c), M0) ad false 6 (fun res => MQ below (q_Qc K false ad ((qTX c), (qLX c), (qPX c), M0) ((fun (res : Int32 × q_MM) => some (.int res.1)) res) ((fun (res : Int32 × q_MM) => ((qTX c), (qLX c), (qPX c), res.2)) res) A) args s 0 0 A) (b_X11_guard_61 c k39 x2 x3 x4 s0 M) 61 [(0, .ref 1), (2, .int x2), (3, .int x3), (4, .int x4)] [.int s0] ((qTX c), (qLX c), (qPX c), M) 0 0 := by
    intro k39 hk39 x2 x3 x4 s0 M
    unfold b_X11_guard_61
    refine g_istore X [(5, .int s0), (0, .ref 1), (2, .int x2), (3, .int x3), (4, .int x4)] dX11_guard_61 (by decide) rfl ?_
    refine g_iload X dX11_guard_63 0 rfl ?_
    refine g_if_eq X 84 dX11_guard_65 rfl (fun h1 => ?_) (fun h1 => ?_)
    · exact g_sub [1, 2, 3, 4] rfl (hb_84 k39 hk39 x2 x3 x4 M)
    · refine g_aload_n X dX11_guard_68 rfl 1 rfl ?_
      refine g_getr X fa_X11_10 rfl rfl dX11_guard_69 ?_
      refine g_iload_n X dX11_guard_72 rfl 2 rfl ?_
      refine g_iload X dX11_guard_73 4 rfl ?_
      refine g_bVi (As := [.int x2, .int x4]) (rest := []) X (c_X2_areSeen l K c M x2 x4) lk_X11_409 rfl rfl rfl (Nat.le_of_ble_eq_true rfl) ⟨Nat.le_of_ble_eq_true rfl, Nat.le_of_ble_eq_true rfl⟩ ⟨Nat.zero_le _, Nat.zero_le _⟩ dX11_guard_75 (fun r2 => ?_)
      refine g_if_eq X 84 dX11_guard_78 rfl (fun h3 => ?_) (fun h3 => ?_)
      · exact g_sub [1, 2, 3, 4] rfl (hb_84 k39 hk39 x2 x3 x4 M)
      · refine g_iload X dX11_guard_81 4 rfl ?_
        refine g_istore_n X [(3, .int x4), (5, .int s0), (0, .ref 1), (2, .int x2), (4, .int x4)] dX11_guard_83 rfl (by decide) rfl ?_
        exact g_sub [2, 3, 0, 4] rfl (hb_84 k39 hk39 x2 x4 x4 M)
  have hb_39 : ∀ (nf : Nat) (x2 : Int32) (x3 : Int32) (x4 : Int32) (M : q_MM), GG p l e { frames := 6, cells := 0, slots := 0, locals := 130 } s m args below meth c0 K A ((qTX c), (qLX c), (qPX c), M0) ad false 6 (fun res => MQ below (q_Qc K false ad ((qTX c), (qLX c), (qPX c), M0) ((fun (res : Int32 × q_MM) => some (.int res.1)) res) ((fun (res : Int32 × q_MM) => ((qTX c), (qLX c), (qPX c), res.2)) res) A) args s 0 0 A) (b_X11_guard_39 c nf x2 x3 x4 M) 39 [(0, .ref 1), (2, .int x2), (3, .int x3), (4, .int x4)] [] ((qTX c), (qLX c), (qPX c), M) 0 0 := by
    intro  nf
    induction nf with
    | zero => intros; exact g_stop
    | succ nf ih =>
      intro x2 x3 x4 M
      rw [b_X11_guard_39]
      refine g_iload X dX11_guard_39 3 rfl ?_
      refine g_if_lt X 90 dX11_guard_41 rfl (fun h4 => ?_) (fun h4 => ?_)
      · refine g_aload_n X dX11_guard_90 rfl 0 rfl ?_
        refine g_getr X fa_X11_44 rfl rfl dX11_guard_91 ?_
        refine g_bVv (As := []) (rest := []) X (c_X4_clear l K c M 6) lk_X11_216 rfl rfl rfl (Nat.le_of_ble_eq_true rfl) ⟨Nat.le_of_ble_eq_true rfl, Nat.le_of_ble_eq_true rfl⟩ ⟨Nat.zero_le _, Nat.zero_le _⟩ dX11_guard_94 (fun r5 => ?_)
        refine g_aload_n X dX11_guard_97 rfl 0 rfl ?_
        refine g_getr X fa_X11_44 rfl rfl dX11_guard_98 ?_
        refine g_iload_n X dX11_guard_101 rfl 2 rfl ?_
        refine g_bVv (As := [.int x3]) (rest := []) X (c_X4_add l K c r5 6 x3) lk_X11_207 rfl rfl rfl (Nat.le_of_ble_eq_true rfl) ⟨Nat.le_of_ble_eq_true rfl, Nat.le_of_ble_eq_true rfl⟩ ⟨Nat.zero_le _, Nat.zero_le _⟩ dX11_guard_102 (fun r6 => ?_)
        refine g_iload_n X dX11_guard_105 rfl 2 rfl ?_
        refine g_bSi (As := [.int x3]) (rest := []) X (c_J6_bitCount_0f7a4 l K (qTX c) (qLX c) (qPX c) r6 x3) lk_X11_305 rfl rfl (Nat.le_of_ble_eq_true rfl) ⟨Nat.le_of_ble_eq_true rfl, Nat.le_of_ble_eq_true rfl⟩ ⟨Nat.zero_le _, Nat.zero_le _⟩ dX11_guard_106 (fun r7 => ?_)
        exact g_iret X rfl rfl rfl dX11_guard_109
      · refine g_iload X dX11_guard_44 3 rfl ?_
        refine g_bSi (As := [.int x4]) (rest := []) X (c_J6_bitCount_0f7a4 l K (qTX c) (qLX c) (qPX c) M x4) lk_X11_305 rfl rfl (Nat.le_of_ble_eq_true rfl) ⟨Nat.le_of_ble_eq_true rfl, Nat.le_of_ble_eq_true rfl⟩ ⟨Nat.zero_le _, Nat.zero_le _⟩ dX11_guard_46 (fun r8 => ?_)
        refine g_iload_n X dX11_guard_49 rfl 2 rfl ?_
        refine g_bSi (As := [.int x3]) (rest := [.int r8]) X (c_J6_bitCount_0f7a4 l K (qTX c) (qLX c) (qPX c) M x3) lk_X11_305 rfl rfl (Nat.le_of_ble_eq_true rfl) ⟨Nat.le_of_ble_eq_true rfl, Nat.le_of_ble_eq_true rfl⟩ ⟨Nat.zero_le _, Nat.zero_le _⟩ dX11_guard_50 (fun r9 => ?_)
        refine g_icmp_gt X 60 dX11_guard_53 rfl (fun h10 => ?_) (fun h10 => ?_)
        · refine g_iconst (v := 0) X dX11_guard_60 (by decide) ?_
          exact g_sub [0, 1, 2, 3] rfl (hb_61 (b_X11_guard_39 c nf) ih x2 x3 x4 0 M)
        · refine g_iconst (v := 1) X dX11_guard_56 (by decide) ?_
          refine g_goto X 61 dX11_guard_57 rfl ?_
          exact g_sub [0, 1, 2, 3] rfl (hb_61 (b_X11_guard_39 c nf) ih x2 x3 x4 1 M)
  refine g_sub (lv' := [(0, .ref 1), (1, .int a1)]) [0, 1] rfl ?_
  unfold f_X11_guard
  refine g_iload_n X dX11_guard_0 rfl 1 rfl ?_
  refine g_iconst (v := 0) X dX11_guard_1 (by decide) ?_
  refine g_sipush (v := 999) X dX11_guard_2 (by decide) ?_
  refine g_bSi (As := [.int a1, .int 0, .int 999]) (rest := []) X (c_X11_within l K c M0 a1 0 999) lk_X11_82 rfl rfl (Nat.le_of_ble_eq_true rfl) ⟨Nat.le_of_ble_eq_true rfl, Nat.le_of_ble_eq_true rfl⟩ ⟨Nat.zero_le _, Nat.zero_le _⟩ dX11_guard_5 (fun r11 => ?_)
  refine g_if_ne X 13 dX11_guard_8 rfl (fun h12 => ?_) (fun h12 => ?_)
  · refine g_iconst (v := (-1)) X dX11_guard_11 (by decide) ?_
    exact g_iret X rfl rfl rfl dX11_guard_12
  · refine g_aload_n X dX11_guard_13 rfl 0 rfl ?_
    refine g_getr X fa_X11_10 rfl rfl dX11_guard_14 ?_
    refine g_iload_n X dX11_guard_17 rfl 1 rfl ?_
    refine g_bVi (As := [.int a1]) (rest := []) X (c_X2_wallsWith l K c M0 a1) lk_X11_406 rfl rfl rfl (Nat.le_of_ble_eq_true rfl) ⟨Nat.le_of_ble_eq_true rfl, Nat.le_of_ble_eq_true rfl⟩ ⟨Nat.zero_le _, Nat.zero_le _⟩ dX11_guard_18 (fun r13 => ?_)
    refine g_istore_n X [(2, .int r13), (0, .ref 1), (1, .int a1)] dX11_guard_21 rfl (by decide) rfl ?_
    refine g_iconst (v := 1) X dX11_guard_22 (by decide) ?_
    refine g_aload_n X dX11_guard_23 rfl 1 rfl ?_
    refine g_getr X fa_X11_10 rfl rfl dX11_guard_24 ?_
    refine g_geti X fa_X11_67 rfl dX11_guard_27 ?_
    refine g_ishl X dX11_guard_30 ?_
    refine g_iconst (v := 1) X dX11_guard_31 (by decide) ?_
    refine g_isub X dX11_guard_32 ?_
    refine g_isn X (fun v14 => [(3, .int v14), (2, .int r13), (0, .ref 1), (1, .int a1)]) dX11_guard_33 rfl (by decide) (fun _ => rfl) (fun v14 => ?_)
    refine g_iload_n X dX11_guard_34 rfl 0 rfl ?_
    refine g_iconst (v := 1) X dX11_guard_35 (by decide) ?_
    refine g_isub X dX11_guard_36 ?_
    refine g_is X (fun v15 => [(4, .int v15), (3, .int v14), (2, .int r13), (0, .ref 1), (1, .int a1)]) dX11_guard_37 (by decide) (fun _ => rfl) (fun v15 => ?_)
    exact g_sub [3, 2, 1, 0] rfl (hb_39 q_fu r13 v14 v15 M0)
set_option maxHeartbeats 4000000 in
set_option maxRecDepth 100000 in
theorem c_X11_count (l : Launch) (K : q_KK) (c : Nat → Nat) (M : q_MM) (a1 : Int32) : ∀ res, f_X11_count c M a1 = some res → Mt l yX11_count cX11_count 2 (some FieldType.int) 1 22 0 0 false K [.ref 1, .int a1] ((qTX c), (qLX c), (qPX c), M) (some (.int res)) (((qTX c), (qLX c), (qPX c), M)) := by
  refine Mt.of (fun (res : Int32) => some (.int res)) (fun (_ : Int32) => ((qTX c), (qLX c), (qPX c), M)) (by decide) (Nat.le_of_ble_eq_true rfl) ?_
  intro p e s m args below meth c0 A ad X hN
  refine g_sub (lv' := [(0, .ref 1), (1, .int a1)]) [0, 1] rfl ?_
  unfold f_X11_count
  refine g_iload_n X dX11_count_0 rfl 1 rfl ?_
  refine g_case (fun h1 => ?_) (fun h1 => ?_)
  · refine g_tin (off := 79) X 80 h1 dX11_count_1 (by decide) (by decide) (by decide) rfl ?_
    refine g_aload_n X dX11_count_80 rfl 0 rfl ?_
    refine g_getr X fa_X11_10 rfl rfl dX11_count_81 ?_
    refine g_geti X fa_X11_67 rfl dX11_count_84 ?_
    exact g_iret X rfl rfl rfl dX11_count_87
  · refine g_case (fun h2 => ?_) (fun h2 => ?_)
    · refine g_tin (off := 87) X 88 h2 dX11_count_1 (by decide) (by decide) (by decide) rfl ?_
      refine g_aload_n X dX11_count_88 rfl 0 rfl ?_
      refine g_getr X fa_X11_10 rfl rfl dX11_count_89 ?_
      refine g_getr X fa_X11_86 rfl rfl dX11_count_92 ?_
      refine g_bVi (As := []) (rest := []) X (c_Jx4a65c_size_8abf5 l K (qTX c) (qLX c) (qPX c) M 13) lk_X11_90 rfl rfl rfl (Nat.le_of_ble_eq_true rfl) ⟨Nat.le_of_ble_eq_true rfl, Nat.le_of_ble_eq_true rfl⟩ ⟨Nat.zero_le _, Nat.zero_le _⟩ dX11_count_95 (fun r3 => ?_)
      exact g_iret X rfl rfl rfl dX11_count_98
    · refine g_case (fun h4 => ?_) (fun h4 => ?_)
      · refine g_tin (off := 98) X 99 h4 dX11_count_1 (by decide) (by decide) (by decide) rfl ?_
        refine g_aload_n X dX11_count_99 rfl 0 rfl ?_
        refine g_getr X fa_X11_10 rfl rfl dX11_count_100 ?_
        refine g_getr X fa_X11_105 rfl rfl dX11_count_103 ?_
        refine g_bVi (As := []) (rest := []) X (c_Jx4a65c_size_8abf5 l K (qTX c) (qLX c) (qPX c) M 14) lk_X11_90 rfl rfl rfl (Nat.le_of_ble_eq_true rfl) ⟨Nat.le_of_ble_eq_true rfl, Nat.le_of_ble_eq_true rfl⟩ ⟨Nat.zero_le _, Nat.zero_le _⟩ dX11_count_106 (fun r5 => ?_)
        exact g_iret X rfl rfl rfl dX11_count_109
      · refine g_case (fun h6 => ?_) (fun h6 => ?_)
        · refine g_tin (off := 109) X 110 h6 dX11_count_1 (by decide) (by decide) (by decide) rfl ?_
          refine g_aload_n X dX11_count_110 rfl 0 rfl ?_
          refine g_getr X fa_X11_10 rfl rfl dX11_count_111 ?_
          refine g_getr X fa_X11_158 rfl rfl dX11_count_114 ?_
          refine g_bVi (As := []) (rest := []) X (c_Jx4a65c_size_8abf5 l K (qTX c) (qLX c) (qPX c) M 15) lk_X11_90 rfl rfl rfl (Nat.le_of_ble_eq_true rfl) ⟨Nat.le_of_ble_eq_true rfl, Nat.le_of_ble_eq_true rfl⟩ ⟨Nat.zero_le _, Nat.zero_le _⟩ dX11_count_117 (fun r7 => ?_)
          exact g_iret X rfl rfl rfl dX11_count_120
        · refine g_case (fun h8 => ?_) (fun h8 => ?_)
          · refine g_tin (off := 120) X 121 h8 dX11_count_1 (by decide) (by decide) (by decide) rfl ?_
            refine g_aload_n X dX11_count_121 rfl 0 rfl ?_
            refine g_getr X fa_X11_21 rfl rfl dX11_count_122 ?_
            refine g_getr X fa_X11_209 rfl rfl dX11_count_125 ?_
            refine g_bVi (As := []) (rest := []) X (c_Jx4a65c_size_8abf5 l K (qTX c) (qLX c) (qPX c) M 27) lk_X11_90 rfl rfl rfl (Nat.le_of_ble_eq_true rfl) ⟨Nat.le_of_ble_eq_true rfl, Nat.le_of_ble_eq_true rfl⟩ ⟨Nat.zero_le _, Nat.zero_le _⟩ dX11_count_128 (fun r9 => ?_)
            exact g_iret X rfl rfl rfl dX11_count_131
          · refine g_case (fun h10 => ?_) (fun h10 => ?_)
            · refine g_tin (off := 131) X 132 h10 dX11_count_1 (by decide) (by decide) (by decide) rfl ?_
              refine g_aload_n X dX11_count_132 rfl 0 rfl ?_
              refine g_getr X fa_X11_10 rfl rfl dX11_count_133 ?_
              refine g_geti X fa_X11_289 rfl dX11_count_136 ?_
              exact g_iret X rfl rfl rfl dX11_count_139
            · refine g_case (fun h11 => ?_) (fun h11 => ?_)
              · refine g_tin (off := 139) X 140 h11 dX11_count_1 (by decide) (by decide) (by decide) rfl ?_
                refine g_aload_n X dX11_count_140 rfl 0 rfl ?_
                refine g_getr X fa_X11_10 rfl rfl dX11_count_141 ?_
                refine g_getr X fa_X11_223 rfl rfl dX11_count_144 ?_
                refine g_bVi (As := []) (rest := []) X (c_X1_howMany l K c M 21) lk_X11_412 rfl rfl rfl (Nat.le_of_ble_eq_true rfl) ⟨Nat.le_of_ble_eq_true rfl, Nat.le_of_ble_eq_true rfl⟩ ⟨Nat.zero_le _, Nat.zero_le _⟩ dX11_count_147 (fun r12 => ?_)
                exact g_iret X rfl rfl rfl dX11_count_150
              · refine g_case (fun h13 => ?_) (fun h13 => ?_)
                · refine g_tin (off := 150) X 151 h13 dX11_count_1 (by decide) (by decide) (by decide) rfl ?_
                  refine g_aload_n X dX11_count_151 rfl 0 rfl ?_
                  refine g_getr X fa_X11_51 rfl rfl dX11_count_152 ?_
                  refine g_geti X fa_X11_205 rfl dX11_count_155 ?_
                  exact g_iret X rfl rfl rfl dX11_count_158
                · refine g_case (fun h14 => ?_) (fun h14 => ?_)
                  · refine g_tin (off := 158) X 159 h14 dX11_count_1 (by decide) (by decide) (by decide) rfl ?_
                    refine g_aload_n X dX11_count_159 rfl 0 rfl ?_
                    refine g_getr X fa_X11_54 rfl rfl dX11_count_160 ?_
                    refine g_geti X fa_X11_205 rfl dX11_count_163 ?_
                    exact g_iret X rfl rfl rfl dX11_count_166
                  · refine g_case (fun h15 => ?_) (fun h15 => ?_)
                    · refine g_tin (off := 166) X 167 h15 dX11_count_1 (by decide) (by decide) (by decide) rfl ?_
                      refine g_aload_n X dX11_count_167 rfl 0 rfl ?_
                      refine g_getr X fa_X11_35 rfl rfl dX11_count_168 ?_
                      refine g_getr X fa_X11_367 rfl rfl dX11_count_171 ?_
                      refine g_geti X fa_X11_205 rfl dX11_count_174 ?_
                      exact g_iret X rfl rfl rfl dX11_count_177
                    · refine g_case (fun h16 => ?_) (fun h16 => ?_)
                      · refine g_tin (off := 177) X 178 h16 dX11_count_1 (by decide) (by decide) (by decide) rfl ?_
                        refine g_aload_n X dX11_count_178 rfl 0 rfl ?_
                        refine g_getr X fa_X11_44 rfl rfl dX11_count_179 ?_
                        refine g_geti X fa_X11_205 rfl dX11_count_182 ?_
                        exact g_iret X rfl rfl rfl dX11_count_185
                      · refine g_case (fun h17 => ?_) (fun h17 => ?_)
                        · refine g_tin (off := 185) X 186 h17 dX11_count_1 (by decide) (by decide) (by decide) rfl ?_
                          refine g_aload_n X dX11_count_186 rfl 0 rfl ?_
                          refine g_getr X fa_X11_48 rfl rfl dX11_count_187 ?_
                          refine g_geti X fa_X11_205 rfl dX11_count_190 ?_
                          exact g_iret X rfl rfl rfl dX11_count_193
                        · refine g_case (fun h18 => ?_) (fun h18 => ?_)
                          · refine g_tin (off := 193) X 194 h18 dX11_count_1 (by decide) (by decide) (by decide) rfl ?_
                            refine g_aload_n X dX11_count_194 rfl 0 rfl ?_
                            refine g_getr X fa_X11_10 rfl rfl dX11_count_195 ?_
                            refine g_getr X fa_X11_155 rfl rfl dX11_count_198 ?_
                            refine g_iconst (v := 2) X dX11_count_201 (by decide) ?_
                            refine g_ild X rfl rfl dX11_count_202 (fun v19 => ?_)
                            exact g_iret X rfl rfl rfl dX11_count_203
                          · refine g_case (fun h20 => ?_) (fun h20 => ?_)
                            · refine g_tin (off := 203) X 204 h20 dX11_count_1 (by decide) (by decide) (by decide) rfl ?_
                              refine g_aload_n X dX11_count_204 rfl 0 rfl ?_
                              refine g_getr X fa_X11_10 rfl rfl dX11_count_205 ?_
                              refine g_getr X fa_X11_155 rfl rfl dX11_count_208 ?_
                              refine g_iconst (v := 3) X dX11_count_211 (by decide) ?_
                              refine g_ild X rfl rfl dX11_count_212 (fun v21 => ?_)
                              exact g_iret X rfl rfl rfl dX11_count_213
                            · refine g_case (fun h22 => ?_) (fun h22 => ?_)
                              · refine g_tin (off := 213) X 214 h22 dX11_count_1 (by decide) (by decide) (by decide) rfl ?_
                                refine g_aload_n X dX11_count_214 rfl 0 rfl ?_
                                refine g_getr X fa_X11_10 rfl rfl dX11_count_215 ?_
                                refine g_getr X fa_X11_155 rfl rfl dX11_count_218 ?_
                                refine g_iconst (v := 0) X dX11_count_221 (by decide) ?_
                                refine g_ild X rfl rfl dX11_count_222 (fun v23 => ?_)
                                exact g_iret X rfl rfl rfl dX11_count_223
                              · refine g_case (fun h24 => ?_) (fun h24 => ?_)
                                · refine g_tin (off := 223) X 224 h24 dX11_count_1 (by decide) (by decide) (by decide) rfl ?_
                                  refine g_aload_n X dX11_count_224 rfl 0 rfl ?_
                                  refine g_getr X fa_X11_10 rfl rfl dX11_count_225 ?_
                                  refine g_getr X fa_X11_155 rfl rfl dX11_count_228 ?_
                                  refine g_iconst (v := 1) X dX11_count_231 (by decide) ?_
                                  refine g_ild X rfl rfl dX11_count_232 (fun v25 => ?_)
                                  exact g_iret X rfl rfl rfl dX11_count_233
                                · refine g_tdef X [0, 1, 2, 3, 4, 5, 6, 7, 8, 9, 10, 11, 12, 13, 14, 15] 234 (List.forall_mem_cons.mpr ⟨h1, (List.forall_mem_cons.mpr ⟨h2, (List.forall_mem_cons.mpr ⟨h4, (List.forall_mem_cons.mpr ⟨h6, (List.forall_mem_cons.mpr ⟨h8, (List.forall_mem_cons.mpr ⟨h10, (List.forall_mem_cons.mpr ⟨h11, (List.forall_mem_cons.mpr ⟨h13, (List.forall_mem_cons.mpr ⟨h14, (List.forall_mem_cons.mpr ⟨h15, (List.forall_mem_cons.mpr ⟨h16, (List.forall_mem_cons.mpr ⟨h17, (List.forall_mem_cons.mpr ⟨h18, (List.forall_mem_cons.mpr ⟨h20, (List.forall_mem_cons.mpr ⟨h22, (List.forall_mem_cons.mpr ⟨h24, (fun _ z => nomatch z)⟩)⟩)⟩)⟩)⟩)⟩)⟩)⟩)⟩)⟩)⟩)⟩)⟩)⟩)⟩)⟩) dX11_count_1 (by decide) rfl ?_
                                  refine g_iconst (v := (-1)) X dX11_count_234 (by decide) ?_
                                  exact g_iret X rfl rfl rfl dX11_count_235
set_option maxHeartbeats 4000000 in
set_option maxRecDepth 100000 in
theorem c_X11_row (l : Launch) (K : q_KK) (c : Nat → Nat) (M : q_MM) (a1 : Int32) : ∀ res, f_X11_row c M a1 = some res → Mt l yX11_row cX11_row 2 (some FieldType.int) 1 22 0 0 false K [.ref 1, .int a1] ((qTX c), (qLX c), (qPX c), M) (some (.int res)) (((qTX c), (qLX c), (qPX c), M)) := by
  refine Mt.of (fun (res : Int32) => some (.int res)) (fun (_ : Int32) => ((qTX c), (qLX c), (qPX c), M)) (by decide) (Nat.le_of_ble_eq_true rfl) ?_
  intro p e s m args below meth c0 A ad X hN
  refine g_sub (lv' := [(0, .ref 1), (1, .int a1)]) [0, 1] rfl ?_
  unfold f_X11_row
  refine g_iload_n X dX11_row_0 rfl 1 rfl ?_
  refine g_iconst (v := 0) X dX11_row_1 (by decide) ?_
  refine g_aload_n X dX11_row_2 rfl 0 rfl ?_
  refine g_getr X fa_X11_44 rfl rfl dX11_row_3 ?_
  refine g_geti X fa_X11_205 rfl dX11_row_6 ?_
  refine g_iconst (v := 1) X dX11_row_9 (by decide) ?_
  refine g_isub X dX11_row_10 ?_
  refine g_bSi (As := [.int a1, .int 0, .int ((M 6 1) - 1)]) (rest := []) X (c_X11_within l K c M a1 0 ((M 6 1) - 1)) lk_X11_82 rfl rfl (Nat.le_of_ble_eq_true rfl) ⟨Nat.le_of_ble_eq_true rfl, Nat.le_of_ble_eq_true rfl⟩ ⟨Nat.zero_le _, Nat.zero_le _⟩ dX11_row_11 (fun r1 => ?_)
  refine g_if_ne X 25 dX11_row_14 rfl (fun h2 => ?_) (fun h2 => ?_)
  · exact g_stop
  · refine g_aload_n X dX11_row_25 rfl 0 rfl ?_
    refine g_getr X fa_X11_44 rfl rfl dX11_row_26 ?_
    refine g_iload_n X dX11_row_29 rfl 1 rfl ?_
    refine g_bVi (As := [.int a1]) (rest := []) X (c_X4_get l K c M 6 a1) lk_X11_339 rfl rfl rfl (Nat.le_of_ble_eq_true rfl) ⟨Nat.le_of_ble_eq_true rfl, Nat.le_of_ble_eq_true rfl⟩ ⟨Nat.zero_le _, Nat.zero_le _⟩ dX11_row_30 (fun r3 => ?_)
    exact g_iret X rfl rfl rfl dX11_row_33
