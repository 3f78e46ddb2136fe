set_option maxHeartbeats 4000000 in
set_option maxRecDepth 100000 in
theorem c_X11_mayBecome (l : Launch) (K : q_KK) (c : Nat → Nat) (M : q_MM) (a1 : Int32) (a2 : Int32) : ∀ res, f_X11_mayBecome c M a1 a2 = some res → Mt l yX11_mayBecome cX11_mayBecome 3 (some FieldType.boolean) 1 22 0 0 false K [.ref 1, .int a1, .int a2] ((qTX c), (qLX c), (qPX c), M) (some (.int res)) (((qTX c), (qLX c), (qPX c), M)) := by
  refine Mt.of (fun (res : Int32) => some (.int res)) (fun (_ : Int32) => ((qTX c), (qLX c), (qPX c), M)) (by decide) (Nat.le_of_ble_eq_true rfl) ?_
  intro p e s m args below meth c0 A ad X hN
  refine g_sub (lv' := [(0, .ref 1), (1, .int a1), (2, .int a2)]) [0, 1, 2] rfl ?_
  unfold f_X11_mayBecome
  refine g_iload_n X dX11_mayBecome_0 rfl 1 rfl ?_
  refine g_case (fun h1 => ?_) (fun h1 => ?_)
  · refine g_tin (off := 27) X 28 h1 dX11_mayBecome_1 (by decide) (by decide) (by decide) rfl ?_
    refine g_iload_n X dX11_mayBecome_28 rfl 2 rfl ?_
    refine g_bipush (v := 100) X dX11_mayBecome_29 (by decide) ?_
    refine g_sipush (v := 200) X dX11_mayBecome_31 (by decide) ?_
    refine g_bSi (As := [.int a2, .int 100, .int 200]) (rest := []) X (c_X11_within l K c M a2 100 200) lk_X11_82 rfl rfl (Nat.le_of_ble_eq_true rfl) ⟨Nat.le_of_ble_eq_true rfl, Nat.le_of_ble_eq_true rfl⟩ ⟨Nat.zero_le _, Nat.zero_le _⟩ dX11_mayBecome_34 (fun r2 => ?_)
    exact g_zret X rfl rfl rfl dX11_mayBecome_37
  · refine g_case (fun h3 => ?_) (fun h3 => ?_)
    · refine g_tin (off := 37) X 38 h3 dX11_mayBecome_1 (by decide) (by decide) (by decide) rfl ?_
      refine g_iload_n X dX11_mayBecome_38 rfl 2 rfl ?_
      refine g_iconst (v := 0) X dX11_mayBecome_39 (by decide) ?_
      refine g_bipush (v := 99) X dX11_mayBecome_40 (by decide) ?_
      refine g_bSi (As := [.int a2, .int 0, .int 99]) (rest := []) X (c_X11_within l K c M a2 0 99) lk_X11_82 rfl rfl (Nat.le_of_ble_eq_true rfl) ⟨Nat.le_of_ble_eq_true rfl, Nat.le_of_ble_eq_true rfl⟩ ⟨Nat.zero_le _, Nat.zero_le _⟩ dX11_mayBecome_42 (fun r4 => ?_)
      exact g_zret X rfl rfl rfl dX11_mayBecome_45
    · refine g_case (fun h5 => ?_) (fun h5 => ?_)
      · refine g_tin (off := 45) X 46 h5 dX11_mayBecome_1 (by decide) (by decide) (by decide) rfl ?_
        refine g_iload_n X dX11_mayBecome_46 rfl 2 rfl ?_
        refine g_iconst (v := 0) X dX11_mayBecome_47 (by decide) ?_
        refine g_aload_n X dX11_mayBecome_48 rfl 0 rfl ?_
        refine g_getr X fa_X11_10 rfl rfl dX11_mayBecome_49 ?_
        refine g_getr X fa_X11_155 rfl rfl dX11_mayBecome_52 ?_
        refine g_iconst (v := 3) X dX11_mayBecome_55 (by decide) ?_
        refine g_ild X rfl rfl dX11_mayBecome_56 (fun v6 => ?_)
        refine g_bSi (As := [.int a2, .int 0, .int v6]) (rest := []) X (c_X11_within l K c M a2 0 v6) lk_X11_82 rfl rfl (Nat.le_of_ble_eq_true rfl) ⟨Nat.le_of_ble_eq_true rfl, Nat.le_of_ble_eq_true rfl⟩ ⟨Nat.zero_le _, Nat.zero_le _⟩ dX11_mayBecome_57 (fun r7 => ?_)
        exact g_zret X rfl rfl rfl dX11_mayBecome_60
      · refine g_tdef X [0, 1, 2] 61 (List.forall_mem_cons.mpr ⟨h1, (List.forall_mem_cons.mpr ⟨h3, (List.forall_mem_cons.mpr ⟨h5, (fun _ z => nomatch z)⟩)⟩)⟩) dX11_mayBecome_1 (by decide) rfl ?_
        refine g_iload_n X dX11_mayBecome_61 rfl 2 rfl ?_
        refine g_aload_n X dX11_mayBecome_62 rfl 0 rfl ?_
        refine g_getr X fa_X11_10 rfl rfl dX11_mayBecome_63 ?_
        refine g_getr X fa_X11_155 rfl rfl dX11_mayBecome_66 ?_
        refine g_iconst (v := 2) X dX11_mayBecome_69 (by decide) ?_
        refine g_ild X rfl rfl dX11_mayBecome_70 (fun v8 => ?_)
        refine g_bipush (v := 23) X dX11_mayBecome_71 (by decide) ?_
        refine g_bSi (As := [.int a2, .int v8, .int 23]) (rest := []) X (c_X11_within l K c M a2 v8 23) lk_X11_82 rfl rfl (Nat.le_of_ble_eq_true rfl) ⟨Nat.le_of_ble_eq_true rfl, Nat.le_of_ble_eq_true rfl⟩ ⟨Nat.zero_le _, Nat.zero_le _⟩ dX11_mayBecome_73 (fun r9 => ?_)
        exact g_zret X rfl rfl rfl dX11_mayBecome_76
set_option maxHeartbeats 4000000 in
set_option maxRecDepth 100000 in
theorem c_X11_set (l : Launch) (K : q_KK) (c : Nat → Nat) (M0 : q_MM) (a1 : Int32) (a2 : Int32) : ∀ res, f_X11_set c M0 a1 a2 = some res → Mt l yX11_set cX11_set 4 (some FieldType.int) 2 44 0 0 false K [.ref 1, .int a1, .int a2] ((qTX c), (qLX c), (qPX c), M0) (some (.int res.1)) (((qTX c), (qLX c), (qPX c), res.2)) := by
  refine Mt.of (fun (res : Int32 × q_MM) => some (.int res.1)) (fun (res : Int32 × q_MM) => ((qTX c), (qLX c), (qPX c), res.2)) (by decide) (Nat.le_of_ble_eq_true rfl) ?_
  intro p e s m args below meth c0 A ad X hN
  refine g_sub (lv' := [(0, .ref 1), (1, .int a1), (2, .int a2)]) [0, 1, 2] rfl ?_
  unfold f_X11_set
  refine g_iload_n X dX11_set_0 rfl 1 rfl ?_
  refine g_iconst (v := 0) X dX11_set_1 (by decide) ?_
  refine g_iconst (v := 3) X dX11_set_2 (by decide) ?_
  refine g_bSi (As := [.int a1, .int 0, .int 3]) (rest := []) X (c_X11_within l K c M0 a1 0 3) lk_X11_82 rfl rfl (Nat.le_of_ble_eq_true rfl) ⟨Nat.le_of_ble_eq_true rfl, Nat.le_of_ble_eq_true rfl⟩ ⟨Nat.zero_le _, Nat.zero_le _⟩ dX11_set_3 (fun r1 => ?_)
  refine g_if_eq X 18 dX11_set_6 rfl (fun h2 => ?_) (fun h2 => ?_)
  · refine g_iconst (v := (-1)) X dX11_set_18 (by decide) ?_
    exact g_iret X rfl rfl rfl dX11_set_19
  · refine g_aload_n X dX11_set_9 rfl 0 rfl ?_
    refine g_iload_n X dX11_set_10 rfl 1 rfl ?_
    refine g_iload_n X dX11_set_11 rfl 2 rfl ?_
    refine g_bVi (As := [.int a1, .int a2]) (rest := []) X (c_X11_mayBecome l K c M0 a1 a2) lk_X11_151 rfl rfl rfl (Nat.le_of_ble_eq_true rfl) ⟨Nat.le_of_ble_eq_true rfl, Nat.le_of_ble_eq_true rfl⟩ ⟨Nat.zero_le _, Nat.zero_le _⟩ dX11_set_12 (fun r3 => ?_)
    refine g_if_ne X 20 dX11_set_15 rfl (fun h4 => ?_) (fun h4 => ?_)
    · refine g_iconst (v := (-1)) X dX11_set_18 (by decide) ?_
      exact g_iret X rfl rfl rfl dX11_set_19
    · refine g_aload_n X dX11_set_20 rfl 0 rfl ?_
      refine g_getr X fa_X11_10 rfl rfl dX11_set_21 ?_
      refine g_getr X fa_X11_155 rfl rfl dX11_set_24 ?_
      refine g_iload_n X dX11_set_27 rfl 1 rfl ?_
      refine g_ild X rfl rfl dX11_set_28 (fun v5 => ?_)
      refine g_istore_n X [(3, .int v5), (0, .ref 1), (1, .int a1), (2, .int a2)] dX11_set_29 rfl (by decide) rfl ?_
      refine g_aload_n X dX11_set_30 rfl 1 rfl ?_
      refine g_getr X fa_X11_10 rfl rfl dX11_set_31 ?_
      refine g_getr X fa_X11_155 rfl rfl dX11_set_34 ?_
      refine g_iload_n X dX11_set_37 rfl 2 rfl ?_
      refine g_iload_n X dX11_set_38 rfl 3 rfl ?_
      refine g_isv X rfl rfl dX11_set_39 (fun M6 => ?_)
      refine g_iload_n X dX11_set_40 rfl 0 rfl ?_
      exact g_iret X rfl rfl rfl dX11_set_41
set_option maxHeartbeats 4000000 in
set_option maxRecDepth 100000 in
theorem c_X11_tell (l : Launch) (K : q_KK) (c : Nat → Nat) (M0 : q_MM) (a1 : Int32) (a2 : Int32) (a3 : Int32) : ∀ res, f_X11_tell c M0 a1 a2 a3 = some res → Mt l yX11_tell cX11_tell 7 (some FieldType.int) 6 129 0 0 false K [.ref 1, .int a1, .int a2, .int a3] ((qTX c), (qLX c), (qPX c), M0) (some (.int res.1)) (((qTX c), (qLX c), (qPX c), res.2)) := by
  refine Mt.of (fun (res : Int32 × q_MM) => some (.int res.1)) (fun (res : Int32 × q_MM) => ((qTX c), (qLX c), (qPX c), res.2)) (by decide) (Nat.le_of_ble_eq_true rfl) ?_
  intro p e s m args below meth c0 A ad X hN
  have hb_172 : ∀ (x6 : Int32) (M : q_MM), GG p l e { frames := 6, cells := 0, slots := 0, locals := 129 } s m args below meth c0 K A ((qTX c), (qLX c), (qPX c), M0) ad false 7 (fun res => MQ below (q_Qc K false ad ((qTX c), (qLX c), (qPX c), M0) ((fun (res : Int32 × q_MM) => some (.int res.1)) res) ((fun (res : Int32 × q_MM) => ((qTX c), (qLX c), (qPX c), res.2)) res) A) args s 0 0 A) (b_X11_tell_172 c x6 M) 172 [(6, .int x6)] [] ((qTX c), (qLX c), (qPX c), M) 0 0 := by
    intro x6 M
    unfold b_X11_tell_172
    refine g_iload X dX11_tell_172 0 rfl ?_
    exact g_iret X rfl rfl rfl dX11_tell_174
  have hb_143 : ∀ (x2 : Int32) (x3 : Int32) (x4 : Nat) (x6 : Int32) (M : q_MM), GG p l e { frames := 6, cells := 0, slots := 0, locals := 129 } s m args below meth c0 K A ((qTX c), (qLX c), (qPX c), M0) ad false 7 (fun res => MQ below (q_Qc K false ad ((qTX c), (qLX c), (qPX c), M0) ((fun (res : Int32 × q_MM) => some (.int res.1)) res) ((fun (res : Int32 × q_MM) => ((qTX c), (qLX c), (qPX c), res.2)) res) A) args s 0 0 A) (b_X11_tell_143 c x2 x3 x4 x6 M) 143 [(2, .int x2), (3, .int x3), (4, .ref x4), (6, .int x6)] [] ((qTX c), (qLX c), (qPX c), M) 0 0 := by
    intro x2 x3 x4 x6 M
    unfold b_X11_tell_143
    refine g_iload_n X dX11_tell_143 rfl 0 rfl ?_
    refine g_iconst (v := 3) X dX11_tell_144 (by decide) ?_
    refine g_icmp_ne X 172 dX11_tell_145 rfl (fun h1 => ?_) (fun h1 => ?_)
    · refine g_iload_n X dX11_tell_148 rfl 1 rfl ?_
      refine g_iconst (v := 0) X dX11_tell_149 (by decide) ?_
      refine g_sipush (v := 400) X dX11_tell_150 (by decide) ?_
      refine g_bSi (As := [.int x3, .int 0, .int 400]) (rest := []) X (c_X11_within l K c M x3 0 400) lk_X11_82 rfl rfl (Nat.le_of_ble_eq_true rfl) ⟨Nat.le_of_ble_eq_true rfl, Nat.le_of_ble_eq_true rfl⟩ ⟨Nat.zero_le _, Nat.zero_le _⟩ dX11_tell_153 (fun r2 => ?_)
      refine g_if_eq X 172 dX11_tell_156 rfl (fun h3 => ?_) (fun h3 => ?_)
      · exact g_sub [3] rfl (hb_172 x6 M)
      · refine g_aload X dX11_tell_159 2 rfl ?_
        refine g_ck (fun hT4 => ?_)
        refine g_geti X fa_X11_202 hT4 dX11_tell_161 ?_
        refine g_is X (fun v5 => [(6, .int v5), (2, .int x2), (3, .int x3), (4, .ref x4)]) dX11_tell_164 (by decide) (fun _ => rfl) (fun v5 => ?_)
        refine g_aload X dX11_tell_166 3 rfl ?_
        refine g_iload_n X dX11_tell_168 rfl 2 rfl ?_
        refine g_pfi X fa_X11_202 rfl (by decide +kernel) hT4 dX11_tell_169 (fun M6 => ?_)
        exact g_sub [0] rfl (hb_172 v5 M6)
    · exact g_sub [3] rfl (hb_172 x6 M)
  have hb_112 : ∀ (x2 : Int32) (x3 : Int32) (x4 : Nat) (x6 : Int32) (M : q_MM), GG p l e { frames := 6, cells := 0, slots := 0, locals := 129 } s m args below meth c0 K A ((qTX c), (qLX c), (qPX c), M0) ad false 7 (fun res => MQ below (q_Qc K false ad ((qTX c), (qLX c), (qPX c), M0) ((fun (res : Int32 × q_MM) => some (.int res.1)) res) ((fun (res : Int32 × q_MM) => ((qTX c), (qLX c), (qPX c), res.2)) res) A) args s 0 0 A) (b_X11_tell_112 c x2 x3 x4 x6 M) 112 [(2, .int x2), (3, .int x3), (4, .ref x4), (6, .int x6)] [] ((qTX c), (qLX c), (qPX c), M) 0 0 := by
    intro x2 x3 x4 x6 M
    unfold b_X11_tell_112
    refine g_iload_n X dX11_tell_112 rfl 0 rfl ?_
    refine g_iconst (v := 2) X dX11_tell_113 (by decide) ?_
    refine g_icmp_ne X 143 dX11_tell_114 rfl (fun h7 => ?_) (fun h7 => ?_)
    · refine g_iload_n X dX11_tell_117 rfl 1 rfl ?_
      refine g_iconst (v := 0) X dX11_tell_118 (by decide) ?_
      refine g_ldc (v := 1000000) X wc_X11_198 dX11_tell_119 ?_
      refine g_bSi (As := [.int x3, .int 0, .int 1000000]) (rest := []) X (c_X11_within l K c M x3 0 1000000) lk_X11_82 rfl rfl (Nat.le_of_ble_eq_true rfl) ⟨Nat.le_of_ble_eq_true rfl, Nat.le_of_ble_eq_true rfl⟩ ⟨Nat.zero_le _, Nat.zero_le _⟩ dX11_tell_121 (fun r8 => ?_)
      refine g_if_eq X 143 dX11_tell_124 rfl (fun h9 => ?_) (fun h9 => ?_)
      · exact g_sub [0, 1, 2, 3] rfl (hb_143 x2 x3 x4 x6 M)
      · refine g_aload X dX11_tell_127 2 rfl ?_
        refine g_ck (fun hT10 => ?_)
        refine g_geti X fa_X11_199 hT10 dX11_tell_129 ?_
        refine g_is X (fun v11 => [(6, .int v11), (2, .int x2), (3, .int x3), (4, .ref x4)]) dX11_tell_132 (by decide) (fun _ => rfl) (fun v11 => ?_)
        refine g_aload X dX11_tell_134 3 rfl ?_
        refine g_iload_n X dX11_tell_136 rfl 2 rfl ?_
        refine g_pfi X fa_X11_199 rfl (by decide +kernel) hT10 dX11_tell_137 (fun M12 => ?_)
        refine g_goto X 172 dX11_tell_140 rfl ?_
        exact g_sub [0] rfl (hb_172 v11 M12)
    · exact g_sub [0, 1, 2, 3] rfl (hb_143 x2 x3 x4 x6 M)
  have hb_86 : ∀ (x2 : Int32) (x3 : Int32) (x4 : Nat) (x5 : Int32) (x6 : Int32) (M : q_MM), GG p l e { frames := 6, cells := 0, slots := 0, locals := 129 } s m args below meth c0 K A ((qTX c), (qLX c), (qPX c), M0) ad false 7 (fun res => MQ below (q_Qc K false ad ((qTX c), (qLX c), (qPX c), M0) ((fun (res : Int32 × q_MM) => some (.int res.1)) res) ((fun (res : Int32 × q_MM) => ((qTX c), (qLX c), (qPX c), res.2)) res) A) args s 0 0 A) (b_X11_tell_86 c x2 x3 x4 x5 x6 M) 86 [(2, .int x2), (3, .int x3), (4, .ref x4), (5, .int x5), (6, .int x6)] [] ((qTX c), (qLX c), (qPX c), M) 0 0 := by
    intro x2 x3 x4 x5 x6 M
    unfold b_X11_tell_86
    refine g_iload_n X dX11_tell_86 rfl 0 rfl ?_
    refine g_iconst (v := 1) X dX11_tell_87 (by decide) ?_
    refine g_icmp_ne X 112 dX11_tell_88 rfl (fun h13 => ?_) (fun h13 => ?_)
    · refine g_iload X dX11_tell_91 3 rfl ?_
      refine g_if_eq X 112 dX11_tell_93 rfl (fun h14 => ?_) (fun h14 => ?_)
      · exact g_sub [0, 1, 2, 4] rfl (hb_112 x2 x3 x4 x6 M)
      · refine g_aload X dX11_tell_96 2 rfl ?_
        refine g_ck (fun hT15 => ?_)
        refine g_geti X fa_X11_195 hT15 dX11_tell_98 ?_
        refine g_is X (fun v16 => [(6, .int v16), (2, .int x2), (3, .int x3), (4, .ref x4), (5, .int x5)]) dX11_tell_101 (by decide) (fun _ => rfl) (fun v16 => ?_)
        refine g_aload X dX11_tell_103 3 rfl ?_
        refine g_iload_n X dX11_tell_105 rfl 2 rfl ?_
        refine g_pfi X fa_X11_195 rfl (by decide +kernel) hT15 dX11_tell_106 (fun M17 => ?_)
        refine g_goto X 172 dX11_tell_109 rfl ?_
        exact g_sub [0] rfl (hb_172 v16 M17)
    · exact g_sub [0, 1, 2, 4] rfl (hb_112 x2 x3 x4 x6 M)
  have hb_44 : ∀ (x2 : Int32) (x3 : Int32) (x4 : Nat) (s0 : Int32) (M : q_MM), GG p l e { frames := 6, cells := 0, slots := 0, locals := 129 } s m args below meth c0 K A ((qTX c), (qLX c), (qPX c), M0) ad false 7 (fun res => MQ below (q_Qc K false ad ((qTX c), (qLX c), (qPX c), M0) ((fun (res : Int32 × q_MM) => some (.int res.1)) res) ((fun (res : Int32 × q_MM) => ((qTX c), (qLX c), (qPX c), res.2)) res) A) args s 0 0 A) (b_X11_tell_44 c x2 x3 x4 s0 M) 44 [(0, .ref 1), (2, .int x2), (3, .int x3), (4, .ref x4)] [.int s0] ((qTX c), (qLX c), (qPX c), M) 0 0 := by
    intro x2 x3 x4 s0 M
    unfold b_X11_tell_44
    refine g_istore X [(5, .int s0), (0, .ref 1), (2, .int x2), (3, .int x3), (4, .ref x4)] dX11_tell_44 (by decide) rfl ?_
    refine g_bipush (v := (-2)) X dX11_tell_46 (by decide) ?_
    refine g_istore X [(6, .int (-2)), (5, .int s0), (0, .ref 1), (2, .int x2), (3, .int x3), (4, .ref x4)] dX11_tell_48 (by decide) rfl ?_
    refine g_iload_n X dX11_tell_50 rfl 3 rfl ?_
    refine g_if_ne X 86 dX11_tell_51 rfl (fun h18 => ?_) (fun h18 => ?_)
    · refine g_iload X dX11_tell_54 1 rfl ?_
      refine g_if_eq X 86 dX11_tell_56 rfl (fun h19 => ?_) (fun h19 => ?_)
      · exact g_sub [3, 4, 5, 1, 0] rfl (hb_86 x2 x3 x4 s0 (-2) M)
      · refine g_aload X dX11_tell_59 5 rfl ?_
        refine g_ck (fun hT20 => ?_)
        refine g_geti X fa_X11_188 hT20 dX11_tell_61 ?_
        refine g_is X (fun v21 => [(6, .int v21), (5, .int s0), (0, .ref 1), (2, .int x2), (3, .int x3), (4, .ref x4)]) dX11_tell_64 (by decide) (fun _ => rfl) (fun v21 => ?_)
        refine g_aload_n X dX11_tell_66 rfl 2 rfl ?_
        refine g_getr X fa_X11_10 rfl rfl dX11_tell_67 ?_
        refine g_aload X dX11_tell_70 5 rfl ?_
        refine g_aload_n X dX11_tell_72 rfl 2 rfl ?_
        refine g_getr X fa_X11_10 rfl rfl dX11_tell_73 ?_
        refine g_iload_n X dX11_tell_76 rfl 4 rfl ?_
        refine g_bVr (As := [.int x3]) (rest := [.ref x4, .ref 2]) X (c_X2_pictureAt l K c M x3) lk_X11_184 rfl rfl rfl (Nat.le_of_ble_eq_true rfl) ⟨Nat.le_of_ble_eq_true rfl, Nat.le_of_ble_eq_true rfl⟩ ⟨Nat.zero_le _, Nat.zero_le _⟩ dX11_tell_77 (fun r22 => ?_)
        refine g_bVv (As := [.ref x4, .ref r22]) (rest := []) X (c_X2_pair l K c M x4 r22) lk_X11_191 rfl rfl rfl (Nat.le_of_ble_eq_true rfl) ⟨Nat.le_of_ble_eq_true rfl, Nat.le_of_ble_eq_true rfl⟩ ⟨Nat.zero_le _, Nat.zero_le _⟩ dX11_tell_80 (fun r23 => ?_)
        refine g_goto X 172 dX11_tell_83 rfl ?_
        exact g_sub [0] rfl (hb_172 v21 r23)
    · exact g_sub [3, 4, 5, 1, 0] rfl (hb_86 x2 x3 x4 s0 (-2) M)
  have hb_39 : ∀ (x2 : Int32) (x3 : Int32) (x4 : Nat) (M : q_MM), GG p l e { frames := 6, cells := 0, slots := 0, locals := 129 } s m args below meth c0 K A ((qTX c), (qLX c), (qPX c), M0) ad false 7 (fun res => MQ below (q_Qc K false ad ((qTX c), (qLX c), (qPX c), M0) ((fun (res : Int32 × q_MM) => some (.int res.1)) res) ((fun (res : Int32 × q_MM) => ((qTX c), (qLX c), (qPX c), res.2)) res) A) args s 0 0 A) (b_X11_tell_39 c x2 x3 x4 M) 39 [(0, .ref 1), (2, .int x2), (3, .int x3), (4, .ref x4)] [] ((qTX c), (qLX c), (qPX c), M) 0 0 := by
    intro x2 x3 x4 M
    unfold b_X11_tell_39
    refine g_iconst (v := 1) X dX11_tell_39 (by decide) ?_
    refine g_goto X 44 dX11_tell_40 rfl ?_
    exact g_sub [0, 1, 2, 3] rfl (hb_44 x2 x3 x4 1 M)
  have hb_43 : ∀ (x2 : Int32) (x3 : Int32) (x4 : Nat) (M : q_MM), GG p l e { frames := 6, cells := 0, slots := 0, locals := 129 } s m args below meth c0 K A ((qTX c), (qLX c), (qPX c), M0) ad false 7 (fun res => MQ below (q_Qc K false ad ((qTX c), (qLX c), (qPX c), M0) ((fun (res : Int32 × q_MM) => some (.int res.1)) res) ((fun (res : Int32 × q_MM) => ((qTX c), (qLX c), (qPX c), res.2)) res) A) args s 0 0 A) (b_X11_tell_43 c x2 x3 x4 M) 43 [(0, .ref 1), (2, .int x2), (3, .int x3), (4, .ref x4)] [] ((qTX c), (qLX c), (qPX c), M) 0 0 := by
    intro x2 x3 x4 M
    unfold b_X11_tell_43
    refine g_iconst (v := 0) X dX11_tell_43 (by decide) ?_
    exact g_sub [0, 1, 2, 3] rfl (hb_44 x2 x3 x4 0 M)
  refine g_sub (lv' := [(0, .ref 1), (1, .int a1), (2, .int a2), (3, .int a3)]) [0, 1, 2, 3] rfl ?_
  unfold f_X11_tell
  refine g_aload_n X dX11_tell_0 rfl 0 rfl ?_
  refine g_getr X fa_X11_10 rfl rfl dX11_tell_1 ?_
  refine g_iload_n X dX11_tell_4 rfl 1 rfl ?_
  refine g_bVr (As := [.int a1]) (rest := []) X (c_X2_pictureAt l K c M0 a1) lk_X11_184 rfl rfl rfl (Nat.le_of_ble_eq_true rfl) ⟨Nat.le_of_ble_eq_true rfl, Nat.le_of_ble_eq_true rfl⟩ ⟨Nat.zero_le _, Nat.zero_le _⟩ dX11_tell_5 (fun r24 => ?_)
  refine g_astore X [(4, .ref r24), (0, .ref 1), (1, .int a1), (2, .int a2), (3, .int a3)] dX11_tell_8 (by decide) rfl ?_
  refine g_aload X dX11_tell_10 0 rfl ?_
  refine g_ifnonnull X 18 dX11_tell_12 rfl (fun h25 => ?_) (fun h25 => ?_)
  · refine g_bipush (v := (-2)) X dX11_tell_15 (by decide) ?_
    exact g_iret X rfl rfl rfl dX11_tell_17
  · refine g_iload_n X dX11_tell_18 rfl 4 rfl ?_
    refine g_iconst (v := (-1)) X dX11_tell_19 (by decide) ?_
    refine g_icmp_eq X 39 dX11_tell_20 rfl (fun h26 => ?_) (fun h26 => ?_)
    · exact g_sub [1, 3, 4, 0] rfl (hb_39 a2 a3 r24 M0)
    · refine g_iload_n X dX11_tell_23 rfl 4 rfl ?_
      refine g_iload_n X dX11_tell_24 rfl 2 rfl ?_
      refine g_icmp_eq X 43 dX11_tell_25 rfl (fun h27 => ?_) (fun h27 => ?_)
      · exact g_sub [1, 3, 4, 0] rfl (hb_43 a2 a3 r24 M0)
      · refine g_aload_n X dX11_tell_28 rfl 1 rfl ?_
        refine g_getr X fa_X11_10 rfl rfl dX11_tell_29 ?_
        refine g_iload_n X dX11_tell_32 rfl 4 rfl ?_
        refine g_bVr (As := [.int a3]) (rest := []) X (c_X2_pictureAt l K c M0 a3) lk_X11_184 rfl rfl rfl (Nat.le_of_ble_eq_true rfl) ⟨Nat.le_of_ble_eq_true rfl, Nat.le_of_ble_eq_true rfl⟩ ⟨Nat.zero_le _, Nat.zero_le _⟩ dX11_tell_33 (fun r28 => ?_)
        refine g_ifnull X 43 dX11_tell_36 rfl (fun h29 => ?_) (fun h29 => ?_)
        · exact g_sub [1, 3, 4, 0] rfl (hb_43 a2 a3 r24 M0)
        · exact g_sub [1, 3, 4, 0] rfl (hb_39 a2 a3 r24 M0)
set_option maxHeartbeats 4000000 in
set_option maxRecDepth 100000 in
theorem c_X11_sign (l : Launch) (K : q_KK) (c : Nat → Nat) (M0 : q_MM) (a1 : Int32) : ∀ res, f_X11_sign c M0 a1 = some res → Mt l yX11_sign cX11_sign 2 (some FieldType.int) 1 21 0 0 false K [.ref 1, .int a1] ((qTX c), (qLX c), (qPX c), M0) (some (.int res.1)) (((qTX c), (qLX c), (qPX c), res.2)) := by
  refine Mt.of (fun (res : Int32 × q_MM) => some (.int res.1)) (fun (res : Int32 × q_MM) => ((qTX c), (qLX c), (qPX c), res.2)) (by decide) (Nat.le_of_ble_eq_true rfl) ?_
  intro p e s m args below meth c0 A ad X hN
  refine g_sub (lv' := [(0, .ref 1), (1, .int a1)]) [0, 1] rfl ?_
  unfold f_X11_sign
  refine g_aload_n X dX11_sign_0 rfl 0 rfl ?_
  refine g_getr X fa_X11_48 rfl rfl dX11_sign_1 ?_
  refine g_geti X fa_X11_205 rfl dX11_sign_4 ?_
  refine g_bipush (v := 96) X dX11_sign_7 (by decide) ?_
  refine g_icmp_le X 14 dX11_sign_9 rfl (fun h1 => ?_) (fun h1 => ?_)
  · refine g_aload_n X dX11_sign_14 rfl 0 rfl ?_
    refine g_getr X fa_X11_48 rfl rfl dX11_sign_15 ?_
    refine g_iload_n X dX11_sign_18 rfl 1 rfl ?_
    refine g_bipush (v := 24) X dX11_sign_19 (by decide) ?_
    refine g_iushr X dX11_sign_21 ?_
    refine g_sipush (v := 255) X dX11_sign_22 (by decide) ?_
    refine g_iand X dX11_sign_25 ?_
    refine g_bVv (As := [.int ((Int32.toUInt32 a1 >>> (Int32.toUInt32 24 &&& Int32.toUInt32 31)).toInt32 &&& 255)]) (rest := []) X (c_X4_add l K c M0 7 ((Int32.toUInt32 a1 >>> (Int32.toUInt32 24 &&& Int32.toUInt32 31)).toInt32 &&& 255)) lk_X11_207 rfl rfl rfl (Nat.le_of_ble_eq_true rfl) ⟨Nat.le_of_ble_eq_true rfl, Nat.le_of_ble_eq_true rfl⟩ ⟨Nat.zero_le _, Nat.zero_le _⟩ dX11_sign_26 (fun r2 => ?_)
    refine g_aload_n X dX11_sign_29 rfl 0 rfl ?_
    refine g_getr X fa_X11_48 rfl rfl dX11_sign_30 ?_
    refine g_iload_n X dX11_sign_33 rfl 1 rfl ?_
    refine g_bipush (v := 16) X dX11_sign_34 (by decide) ?_
    refine g_iushr X dX11_sign_36 ?_
    refine g_sipush (v := 255) X dX11_sign_37 (by decide) ?_
    refine g_iand X dX11_sign_40 ?_
    refine g_bVv (As := [.int ((Int32.toUInt32 a1 >>> (Int32.toUInt32 16 &&& Int32.toUInt32 31)).toInt32 &&& 255)]) (rest := []) X (c_X4_add l K c r2 7 ((Int32.toUInt32 a1 >>> (Int32.toUInt32 16 &&& Int32.toUInt32 31)).toInt32 &&& 255)) lk_X11_207 rfl rfl rfl (Nat.le_of_ble_eq_true rfl) ⟨Nat.le_of_ble_eq_true rfl, Nat.le_of_ble_eq_true rfl⟩ ⟨Nat.zero_le _, Nat.zero_le _⟩ dX11_sign_41 (fun r3 => ?_)
    refine g_aload_n X dX11_sign_44 rfl 0 rfl ?_
    refine g_getr X fa_X11_48 rfl rfl dX11_sign_45 ?_
    refine g_iload_n X dX11_sign_48 rfl 1 rfl ?_
    refine g_bipush (v := 8) X dX11_sign_49 (by decide) ?_
    refine g_iushr X dX11_sign_51 ?_
    refine g_sipush (v := 255) X dX11_sign_52 (by decide) ?_
    refine g_iand X dX11_sign_55 ?_
    refine g_bVv (As := [.int ((Int32.toUInt32 a1 >>> (Int32.toUInt32 8 &&& Int32.toUInt32 31)).toInt32 &&& 255)]) (rest := []) X (c_X4_add l K c r3 7 ((Int32.toUInt32 a1 >>> (Int32.toUInt32 8 &&& Int32.toUInt32 31)).toInt32 &&& 255)) lk_X11_207 rfl rfl rfl (Nat.le_of_ble_eq_true rfl) ⟨Nat.le_of_ble_eq_true rfl, Nat.le_of_ble_eq_true rfl⟩ ⟨Nat.zero_le _, Nat.zero_le _⟩ dX11_sign_56 (fun r4 => ?_)
    refine g_aload_n X dX11_sign_59 rfl 0 rfl ?_
    refine g_getr X fa_X11_48 rfl rfl dX11_sign_60 ?_
    refine g_iload_n X dX11_sign_63 rfl 1 rfl ?_
    refine g_sipush (v := 255) X dX11_sign_64 (by decide) ?_
    refine g_iand X dX11_sign_67 ?_
    refine g_bVv (As := [.int (a1 &&& 255)]) (rest := []) X (c_X4_add l K c r4 7 (a1 &&& 255)) lk_X11_207 rfl rfl rfl (Nat.le_of_ble_eq_true rfl) ⟨Nat.le_of_ble_eq_true rfl, Nat.le_of_ble_eq_true rfl⟩ ⟨Nat.zero_le _, Nat.zero_le _⟩ dX11_sign_68 (fun r5 => ?_)
    refine g_aload_n X dX11_sign_71 rfl 0 rfl ?_
    refine g_getr X fa_X11_48 rfl rfl dX11_sign_72 ?_
    refine g_geti X fa_X11_205 rfl dX11_sign_75 ?_
    exact g_iret X rfl rfl rfl dX11_sign_78
  · refine g_iconst (v := (-1)) X dX11_sign_12 (by decide) ?_
    exact g_iret X rfl rfl rfl dX11_sign_13
set_option maxHeartbeats 4000000 in
set_option maxRecDepth 100000 in
theorem c_X11_end (l : Launch) (K : q_KK) (c : Nat → Nat) (M0 : q_MM) (a1 : Int32) : ∀ res, f_X11_end c M0 a1 = some res → Mt l yX11_end cX11_end 2 (some FieldType.boolean) 1 22 0 0 false K [.ref 1, .int a1] ((qTX c), (qLX c), (qPX c), M0) (some (.int res.1)) (((qTX c), (qLX c), (qPX c), res.2)) := by
  refine Mt.of (fun (res : Int32 × q_MM) => some (.int res.1)) (fun (res : Int32 × q_MM) => ((qTX c), (qLX c), (qPX c), res.2)) (by decide) (Nat.le_of_ble_eq_true rfl) ?_
  intro p e s m args below meth c0 A ad X hN
  refine g_sub (lv' := [(0, .ref 1), (1, .int a1)]) [0, 1] rfl ?_
  unfold f_X11_end
  refine g_iload_n X dX11_end_0 rfl 1 rfl ?_
  refine g_iconst (v := 0) X dX11_end_1 (by decide) ?_
  refine g_aload_n X dX11_end_2 rfl 0 rfl ?_
  refine g_getr X fa_X11_48 rfl rfl dX11_end_3 ?_
  refine g_geti X fa_X11_205 rfl dX11_end_6 ?_
  refine g_bSi (As := [.int a1, .int 0, .int (M0 7 1)]) (rest := []) X (c_X11_within l K c M0 a1 0 (M0 7 1)) lk_X11_82 rfl rfl (Nat.le_of_ble_eq_true rfl) ⟨Nat.le_of_ble_eq_true rfl, Nat.le_of_ble_eq_true rfl⟩ ⟨Nat.zero_le _, Nat.zero_le _⟩ dX11_end_9 (fun r1 => ?_)
  refine g_if_ne X 17 dX11_end_12 rfl (fun h2 => ?_) (fun h2 => ?_)
  · refine g_iconst (v := 0) X dX11_end_15 (by decide) ?_
    exact g_zret X rfl rfl rfl dX11_end_16
  · refine g_aload_n X dX11_end_17 rfl 0 rfl ?_
    refine g_getr X fa_X11_48 rfl rfl dX11_end_18 ?_
    refine g_iload_n X dX11_end_21 rfl 1 rfl ?_
    refine g_pfi X fa_X11_205 rfl (by decide +kernel) rfl dX11_end_22 (fun M3 => ?_)
    refine g_iconst (v := 1) X dX11_end_25 (by decide) ?_
    exact g_zret X rfl rfl rfl dX11_end_26
set_option maxHeartbeats 4000000 in
set_option maxRecDepth 100000 in
theorem c_X11_force (l : Launch) (K : q_KK) (c : Nat → Nat) (M : q_MM) (a1 : Int32) : ∀ res, f_X11_force c M a1 = some res → Mt l yX11_force cX11_force 2 (some FieldType.int) 4 89 0 0 false K [.ref 1, .int a1] ((qTX c), (qLX c), (qPX c), M) (some (.int res)) (((qTX c), (qLX c), (qPX c), M)) := by
  refine Mt.of (fun (res : Int32) => some (.int res)) (fun (_ : Int32) => ((qTX c), (qLX c), (qPX c), M)) (by decide) (Nat.le_of_ble_eq_true rfl) ?_
  intro p e s m args below meth c0 A ad X hN
  refine g_sub (lv' := [(0, .ref 1), (1, .int a1)]) [0, 1] rfl ?_
  unfold f_X11_force
  refine g_aload_n X dX11_force_0 rfl 0 rfl ?_
  refine g_getr X fa_X11_10 rfl rfl dX11_force_1 ?_
  refine g_iload_n X dX11_force_4 rfl 1 rfl ?_
  refine g_bVr (As := [.int a1]) (rest := []) X (c_X2_pictureAt l K c M a1) lk_X11_184 rfl rfl rfl (Nat.le_of_ble_eq_true rfl) ⟨Nat.le_of_ble_eq_true rfl, Nat.le_of_ble_eq_true rfl⟩ ⟨Nat.zero_le _, Nat.zero_le _⟩ dX11_force_5 (fun r1 => ?_)
  refine g_ifnonnull X 15 dX11_force_8 rfl (fun h2 => ?_) (fun h2 => ?_)
  · refine g_iconst (v := (-1)) X dX11_force_11 (by decide) ?_
    refine g_goto X 23 dX11_force_12 rfl ?_
    exact g_iret X rfl rfl rfl dX11_force_23
  · refine g_aload_n X dX11_force_15 rfl 0 rfl ?_
    refine g_getr X fa_X11_21 rfl rfl dX11_force_16 ?_
    refine g_iload_n X dX11_force_19 rfl 1 rfl ?_
    refine g_bVi (As := [.int a1]) (rest := []) X (c_X9_inForce l K c M a1) lk_X11_219 rfl rfl rfl (Nat.le_of_ble_eq_true rfl) ⟨Nat.le_of_ble_eq_true rfl, Nat.le_of_ble_eq_true rfl⟩ ⟨Nat.zero_le _, Nat.zero_le _⟩ dX11_force_20 (fun r3 => ?_)
    exact g_iret X rfl rfl rfl dX11_force_23
set_option maxHeartbeats 4000000 in
set_option maxRecDepth 100000 in
theorem c_X11_why (l : Launch) (K : q_KK) (c : Nat → Nat) (M0 : q_MM) (a1 : Int32) (a2 : Int32) (a3 : Int32) : ∀ res, f_X11_why c M0 a1 a2 a3 = some res → Mt l yX11_why cX11_why 6 (some FieldType.int) 7 165 0 0 false K [.ref 1, .int a1, .int a2, .int a3] ((qTX c), (qLX c), (qPX c), M0) (some (.int res.1)) (((qTX c), (qLX c), (qPX c), res.2)) := by
  refine Mt.of (fun (res : Int32 × q_MM) => some (.int res.1)) (fun (res : Int32 × q_MM) => ((qTX c), (qLX c), (qPX c), res.2)) (by decide) (Nat.le_of_ble_eq_true rfl) ?_
  intro p e s m args below meth c0 A ad X hN
  have hb_30 : ∀ (M : q_MM), GG p l e { frames := 7, cells := 0, slots := 0, locals := 165 } s m args below meth c0 K A ((qTX c), (qLX c), (qPX c), M0) ad false 6 (fun res => MQ below (q_Qc K false ad ((qTX c), (qLX c), (qPX c), M0) ((fun (res : Int32 × q_MM) => some (.int res.1)) res) ((fun (res : Int32 × q_MM) => ((qTX c), (qLX c), (qPX c), res.2)) res) A) args s 0 0 A) (b_X11_why_30 c M) 30 [] [] ((qTX c), (qLX c), (qPX c), M) 0 0 := by
    intro M
    unfold b_X11_why_30
    refine g_iconst (v := (-1)) X dX11_why_30 (by decide) ?_
    refine g_goto X 53 dX11_why_31 rfl ?_
    exact g_iret X rfl rfl rfl dX11_why_53
  refine g_sub (lv' := [(0, .ref 1), (1, .int a1), (2, .int a2), (3, .int a3)]) [0, 1, 2, 3] rfl ?_
  unfold f_X11_why
  refine g_aload_n X dX11_why_0 rfl 0 rfl ?_
  refine g_getr X fa_X11_10 rfl rfl dX11_why_1 ?_
  refine g_iload_n X dX11_why_4 rfl 1 rfl ?_
  refine g_bVr (As := [.int a1]) (rest := []) X (c_X2_pictureAt l K c M0 a1) lk_X11_184 rfl rfl rfl (Nat.le_of_ble_eq_true rfl) ⟨Nat.le_of_ble_eq_true rfl, Nat.le_of_ble_eq_true rfl⟩ ⟨Nat.zero_le _, Nat.zero_le _⟩ dX11_why_5 (fun r1 => ?_)
  refine g_astore X [(4, .ref r1), (0, .ref 1), (1, .int a1), (2, .int a2), (3, .int a3)] dX11_why_8 (by decide) rfl ?_
  refine g_aload_n X dX11_why_10 rfl 1 rfl ?_
  refine g_getr X fa_X11_10 rfl rfl dX11_why_11 ?_
  refine g_iload_n X dX11_why_14 rfl 3 rfl ?_
  refine g_bVr (As := [.int a2]) (rest := []) X (c_X2_wallAt l K c M0 a2) lk_X11_125 rfl rfl rfl (Nat.le_of_ble_eq_true rfl) ⟨Nat.le_of_ble_eq_true rfl, Nat.le_of_ble_eq_true rfl⟩ ⟨Nat.zero_le _, Nat.zero_le _⟩ dX11_why_15 (fun r2 => ?_)
  refine g_astore X [(5, .ref r2), (4, .ref r1), (0, .ref 1), (1, .int a1), (2, .int a2), (3, .int a3)] dX11_why_18 (by decide) rfl ?_
  refine g_aload X dX11_why_20 1 rfl ?_
  refine g_ifnull X 30 dX11_why_22 rfl (fun h3 => ?_) (fun h3 => ?_)
  · exact g_sub [] rfl (hb_30 M0)
  · refine g_aload X dX11_why_25 0 rfl ?_
    refine g_ifnonnull X 34 dX11_why_27 rfl (fun h4 => ?_) (fun h4 => ?_)
    · exact g_sub [] rfl (hb_30 M0)
    · refine g_aload_n X dX11_why_34 rfl 2 rfl ?_
      refine g_getr X fa_X11_21 rfl rfl dX11_why_35 ?_
      refine g_aload_n X dX11_why_38 rfl 2 rfl ?_
      refine g_getr X fa_X11_10 rfl rfl dX11_why_39 ?_
      refine g_getr X fa_X11_223 rfl rfl dX11_why_42 ?_
      refine g_aload X dX11_why_45 1 rfl ?_
      refine g_aload X dX11_why_47 0 rfl ?_
      refine g_iload_n X dX11_why_49 rfl 5 rfl ?_
      refine g_bVi (As := [.ref 21, .ref r1, .ref r2, .int a3]) (rest := []) X (c_X9_firstBroken l K c M0 21 r1 r2 a3) lk_X11_227 rfl rfl rfl (Nat.le_of_ble_eq_true rfl) ⟨Nat.le_of_ble_eq_true rfl, Nat.le_of_ble_eq_true rfl⟩ ⟨Nat.zero_le _, Nat.zero_le _⟩ dX11_why_50 (fun r5 => ?_)
      exact g_iret X rfl rfl rfl dX11_why_53
set_option maxHeartbeats 4000000 in
set_option maxRecDepth 100000 in
theorem c_X11_fits (l : Launch) (K : q_KK) (c : Nat → Nat) (M0 : q_MM) (a1 : Int32) (a2 : Int32) (a3 : Int32) : ∀ res, f_X11_fits c M0 a1 a2 a3 = some res → Mt l yX11_fits cX11_fits 6 (some FieldType.int) 8 190 0 0 false K [.ref 1, .int a1, .int a2, .int a3] ((qTX c), (qLX c), (qPX c), M0) (some (.int res.1)) (((qTX c), (qLX c), (qPX c), res.2)) := by
  refine Mt.of (fun (res : Int32 × q_MM) => some (.int res.1)) (fun (res : Int32 × q_MM) => ((qTX c), (qLX c), (qPX c), res.2)) (by decide) (Nat.le_of_ble_eq_true rfl) ?_
  intro p e s m args below meth c0 A ad X hN
  have hb_30 : ∀ (M : q_MM), GG p l e { frames := 8, cells := 0, slots := 0, locals := 190 } s m args below meth c0 K A ((qTX c), (qLX c), (qPX c), M0) ad false 6 (fun res => MQ below (q_Qc K false ad ((qTX c), (qLX c), (qPX c), M0) ((fun (res : Int32 × q_MM) => some (.int res.1)) res) ((fun (res : Int32 × q_MM) => ((qTX c), (qLX c), (qPX c), res.2)) res) A) args s 0 0 A) (b_X11_fits_30 c M) 30 [] [] ((qTX c), (qLX c), (qPX c), M) 0 0 := by
    intro M
    unfold b_X11_fits_30
    refine g_iconst (v := (-1)) X dX11_fits_30 (by decide) ?_
    refine g_goto X 53 dX11_fits_31 rfl ?_
    exact g_iret X rfl rfl rfl dX11_fits_53
  refine g_sub (lv' := [(0, .ref 1), (1, .int a1), (2, .int a2), (3, .int a3)]) [0, 1, 2, 3] rfl ?_
  unfold f_X11_fits
  refine g_aload_n X dX11_fits_0 rfl 0 rfl ?_
  refine g_getr X fa_X11_10 rfl rfl dX11_fits_1 ?_
  refine g_iload_n X dX11_fits_4 rfl 1 rfl ?_
  refine g_bVr (As := [.int a1]) (rest := []) X (c_X2_present l K c M0 a1) lk_X11_231 rfl rfl rfl (Nat.le_of_ble_eq_true rfl) ⟨Nat.le_of_ble_eq_true rfl, Nat.le_of_ble_eq_true rfl⟩ ⟨Nat.zero_le _, Nat.zero_le _⟩ dX11_fits_5 (fun r1 => ?_)
  refine g_astore X [(4, .ref r1), (0, .ref 1), (1, .int a1), (2, .int a2), (3, .int a3)] dX11_fits_8 (by decide) rfl ?_
  refine g_aload_n X dX11_fits_10 rfl 1 rfl ?_
  refine g_getr X fa_X11_10 rfl rfl dX11_fits_11 ?_
  refine g_iload_n X dX11_fits_14 rfl 3 rfl ?_
  refine g_bVr (As := [.int a2]) (rest := []) X (c_X2_wallAt l K c M0 a2) lk_X11_125 rfl rfl rfl (Nat.le_of_ble_eq_true rfl) ⟨Nat.le_of_ble_eq_true rfl, Nat.le_of_ble_eq_true rfl⟩ ⟨Nat.zero_le _, Nat.zero_le _⟩ dX11_fits_15 (fun r2 => ?_)
  refine g_astore X [(5, .ref r2), (4, .ref r1), (0, .ref 1), (1, .int a1), (2, .int a2), (3, .int a3)] dX11_fits_18 (by decide) rfl ?_
  refine g_aload X dX11_fits_20 1 rfl ?_
  refine g_ifnull X 30 dX11_fits_22 rfl (fun h3 => ?_) (fun h3 => ?_)
  · exact g_sub [] rfl (hb_30 M0)
  · refine g_aload X dX11_fits_25 0 rfl ?_
    refine g_ifnonnull X 34 dX11_fits_27 rfl (fun h4 => ?_) (fun h4 => ?_)
    · exact g_sub [] rfl (hb_30 M0)
    · refine g_aload_n X dX11_fits_34 rfl 2 rfl ?_
      refine g_getr X fa_X11_21 rfl rfl dX11_fits_35 ?_
      refine g_aload_n X dX11_fits_38 rfl 2 rfl ?_
      refine g_getr X fa_X11_10 rfl rfl dX11_fits_39 ?_
      refine g_getr X fa_X11_223 rfl rfl dX11_fits_42 ?_
      refine g_aload X dX11_fits_45 1 rfl ?_
      refine g_aload X dX11_fits_47 0 rfl ?_
      refine g_iload_n X dX11_fits_49 rfl 5 rfl ?_
      refine g_bVi (As := [.ref 21, .ref r1, .ref r2, .int a3]) (rest := []) X (c_X9_unfit l K c M0 21 r1 r2 a3) lk_X11_234 rfl rfl rfl (Nat.le_of_ble_eq_true rfl) ⟨Nat.le_of_ble_eq_true rfl, Nat.le_of_ble_eq_true rfl⟩ ⟨Nat.zero_le _, Nat.zero_le _⟩ dX11_fits_50 (fun r5 => ?_)
      exact g_iret X rfl rfl rfl dX11_fits_53
set_option maxHeartbeats 4000000 in
set_option maxRecDepth 100000 in
theorem c_X11_hang (l : Launch) (K : q_KK) (c : Nat → Nat) (M0 : q_MM) (a1 : Int32) (a2 : Int32) (a3 : Int32) : ∀ res, f_X11_hang c M0 a1 a2 a3 = some res → Mt l yX11_hang cX11_hang 7 (some FieldType.int) 8 190 0 0 false K [.ref 1, .int a1, .int a2, .int a3] ((qTX c), (qLX c), (qPX c), M0) (some (.int res.1)) (((qTX c), (qLX c), (qPX c), res.2)) := by
  refine Mt.of (fun (res : Int32 × q_MM) => some (.int res.1)) (fun (res : Int32 × q_MM) => ((qTX c), (qLX c), (qPX c), res.2)) (by decide) (Nat.le_of_ble_eq_true rfl) ?_
  intro p e s m args below meth c0 A ad X hN
  have hb_79 : ∀ (x6 : Int32) (M : q_MM), GG p l e { frames := 8, cells := 0, slots := 0, locals := 190 } s m args below meth c0 K A ((qTX c), (qLX c), (qPX c), M0) ad false 7 (fun res => MQ below (q_Qc K false ad ((qTX c), (qLX c), (qPX c), M0) ((fun (res : Int32 × q_MM) => some (.int res.1)) res) ((fun (res : Int32 × q_MM) => ((qTX c), (qLX c), (qPX c), res.2)) res) A) args s 0 0 A) (b_X11_hang_79 c x6 M) 79 [(6, .int x6)] [] ((qTX c), (qLX c), (qPX c), M) 0 0 := by
    intro x6 M
    unfold b_X11_hang_79
    refine g_iload X dX11_hang_79 0 rfl ?_
    exact g_iret X rfl rfl rfl dX11_hang_81
  refine g_sub (lv' := [(0, .ref 1), (1, .int a1), (2, .int a2), (3, .int a3)]) [0, 1, 2, 3] rfl ?_
  unfold f_X11_hang
  refine g_aload_n X dX11_hang_0 rfl 0 rfl ?_
  refine g_getr X fa_X11_10 rfl rfl dX11_hang_1 ?_
  refine g_iload_n X dX11_hang_4 rfl 1 rfl ?_
  refine g_bVr (As := [.int a1]) (rest := []) X (c_X2_present l K c M0 a1) lk_X11_231 rfl rfl rfl (Nat.le_of_ble_eq_true rfl) ⟨Nat.le_of_ble_eq_true rfl, Nat.le_of_ble_eq_true rfl⟩ ⟨Nat.zero_le _, Nat.zero_le _⟩ dX11_hang_5 (fun r1 => ?_)
  refine g_astore X [(4, .ref r1), (0, .ref 1), (1, .int a1), (2, .int a2), (3, .int a3)] dX11_hang_8 (by decide) rfl ?_
  refine g_aload_n X dX11_hang_10 rfl 1 rfl ?_
  refine g_getr X fa_X11_10 rfl rfl dX11_hang_11 ?_
  refine g_iload_n X dX11_hang_14 rfl 3 rfl ?_
  refine g_bVr (As := [.int a2]) (rest := []) X (c_X2_wallAt l K c M0 a2) lk_X11_125 rfl rfl rfl (Nat.le_of_ble_eq_true rfl) ⟨Nat.le_of_ble_eq_true rfl, Nat.le_of_ble_eq_true rfl⟩ ⟨Nat.zero_le _, Nat.zero_le _⟩ dX11_hang_15 (fun r2 => ?_)
  refine g_astore X [(5, .ref r2), (4, .ref r1), (0, .ref 1), (1, .int a1), (2, .int a2), (3, .int a3)] dX11_hang_18 (by decide) rfl ?_
  refine g_aload X dX11_hang_20 1 rfl ?_
  refine g_ifnull X 30 dX11_hang_22 rfl (fun h3 => ?_) (fun h3 => ?_)
  · refine g_iconst (v := (-1)) X dX11_hang_30 (by decide) ?_
    exact g_iret X rfl rfl rfl dX11_hang_31
  · refine g_aload X dX11_hang_25 0 rfl ?_
    refine g_ifnonnull X 32 dX11_hang_27 rfl (fun h4 => ?_) (fun h4 => ?_)
    · refine g_iconst (v := (-1)) X dX11_hang_30 (by decide) ?_
      exact g_iret X rfl rfl rfl dX11_hang_31
    · refine g_aload_n X dX11_hang_32 rfl 2 rfl ?_
      refine g_getr X fa_X11_21 rfl rfl dX11_hang_33 ?_
      refine g_aload_n X dX11_hang_36 rfl 2 rfl ?_
      refine g_getr X fa_X11_10 rfl rfl dX11_hang_37 ?_
      refine g_getr X fa_X11_223 rfl rfl dX11_hang_40 ?_
      refine g_aload X dX11_hang_43 1 rfl ?_
      refine g_aload X dX11_hang_45 0 rfl ?_
      refine g_iload_n X dX11_hang_47 rfl 5 rfl ?_
      refine g_bVi (As := [.ref 21, .ref r1, .ref r2, .int a3]) (rest := []) X (c_X9_unfit l K c M0 21 r1 r2 a3) lk_X11_234 rfl rfl rfl (Nat.le_of_ble_eq_true rfl) ⟨Nat.le_of_ble_eq_true rfl, Nat.le_of_ble_eq_true rfl⟩ ⟨Nat.zero_le _, Nat.zero_le _⟩ dX11_hang_48 (fun r5 => ?_)
      refine g_is X (fun v6 => [(6, .int v6), (5, .ref r2), (4, .ref r1), (0, .ref 1), (1, .int a1), (2, .int a2), (3, .int a3)]) dX11_hang_51 (by decide) (fun _ => rfl) (fun v6 => ?_)
      refine g_iload X dX11_hang_53 0 rfl ?_
      refine g_if_ne X 79 dX11_hang_55 rfl (fun h7 => ?_) (fun h7 => ?_)
      · refine g_aload_n X dX11_hang_58 rfl 3 rfl ?_
        refine g_getr X fa_X11_10 rfl rfl dX11_hang_59 ?_
        refine g_getr X fa_X11_223 rfl rfl dX11_hang_62 ?_
        refine g_aload X dX11_hang_65 2 rfl ?_
        refine g_ck (fun hT8 => ?_)
        refine g_geti X fa_X11_183 hT8 dX11_hang_67 ?_
        refine g_aload X dX11_hang_70 1 rfl ?_
        refine g_ck (fun hT9 => ?_)
        refine g_geti X fa_X11_122 hT9 dX11_hang_72 ?_
        refine g_iload_n X dX11_hang_75 rfl 6 rfl ?_
        refine g_bVv (As := [.int (r5.2 r1 0), .int (r5.2 r2 0), .int a3]) (rest := []) X (c_X1_put l K c r5.2 21 (r5.2 r1 0) (r5.2 r2 0) a3) lk_X11_237 rfl rfl rfl (Nat.le_of_ble_eq_true rfl) ⟨Nat.le_of_ble_eq_true rfl, Nat.le_of_ble_eq_true rfl⟩ ⟨Nat.zero_le _, Nat.zero_le _⟩ dX11_hang_76 (fun r10 => ?_)
        exact g_sub [0] rfl (hb_79 v6 r10)
      · exact g_sub [0] rfl (hb_79 v6 r5.2)
set_option maxHeartbeats 4000000 in
set_option maxRecDepth 100000 in
theorem c_X11_store (l : Launch) (K : q_KK) (c : Nat → Nat) (M0 : q_MM) (a1 : Int32) : ∀ res, f_X11_store c M0 a1 = some res → Mt l yX11_store cX11_store 3 (some FieldType.boolean) 4 85 0 0 false K [.ref 1, .int a1] ((qTX c), (qLX c), (qPX c), M0) (some (.int res.1)) (((qTX c), (qLX c), (qPX c), res.2)) := by
  refine Mt.of (fun (res : Int32 × q_MM) => some (.int res.1)) (fun (res : Int32 × q_MM) => ((qTX c), (qLX c), (qPX c), res.2)) (by decide) (Nat.le_of_ble_eq_true rfl) ?_
  intro p e s m args below meth c0 A ad X hN
  have hb_47 : ∀ (x2 : Nat) (M : q_MM), GG p l e { frames := 4, cells := 0, slots := 0, locals := 85 } s m args below meth c0 K A ((qTX c), (qLX c), (qPX c), M0) ad false 3 (fun res => MQ below (q_Qc K false ad ((qTX c), (qLX c), (qPX c), M0) ((fun (res : Int32 × q_MM) => some (.int res.1)) res) ((fun (res : Int32 × q_MM) => ((qTX c), (qLX c), (qPX c), res.2)) res) A) args s 0 0 A) (b_X11_store_47 c x2 M) 47 [(0, .ref 1), (2, .ref x2)] [] ((qTX c), (qLX c), (qPX c), M) 0 0 := by
    intro x2 M
    unfold b_X11_store_47
    refine g_aload_n X dX11_store_47 rfl 1 rfl ?_
    refine g_iconst (v := 0) X dX11_store_48 (by decide) ?_
    refine g_ck (fun hT1 => ?_)
    refine g_pfi X fa_X11_243 rfl (by decide +kernel) hT1 dX11_store_49 (fun M2 => ?_)
    refine g_aload_n X dX11_store_52 rfl 0 rfl ?_
    refine g_getr X fa_X11_10 rfl rfl dX11_store_53 ?_
    refine g_getr X fa_X11_223 rfl rfl dX11_store_56 ?_
    refine g_aload_n X dX11_store_59 rfl 1 rfl ?_
    refine g_geti X fa_X11_183 hT1 dX11_store_60 ?_
    refine g_bVv (As := [.int (M2 x2 0)]) (rest := []) X (c_X1_take l K c M2 21 (M2 x2 0)) lk_X11_249 rfl rfl rfl (Nat.le_of_ble_eq_true rfl) ⟨Nat.le_of_ble_eq_true rfl, Nat.le_of_ble_eq_true rfl⟩ ⟨Nat.zero_le _, Nat.zero_le _⟩ dX11_store_63 (fun r3 => ?_)
    refine g_iconst (v := 1) X dX11_store_66 (by decide) ?_
    exact g_zret X rfl rfl rfl dX11_store_67
  refine g_sub (lv' := [(0, .ref 1), (1, .int a1)]) [0, 1] rfl ?_
  unfold f_X11_store
  refine g_aload_n X dX11_store_0 rfl 0 rfl ?_
  refine g_getr X fa_X11_10 rfl rfl dX11_store_1 ?_
  refine g_iload_n X dX11_store_4 rfl 1 rfl ?_
  refine g_bVr (As := [.int a1]) (rest := []) X (c_X2_pictureAt l K c M0 a1) lk_X11_184 rfl rfl rfl (Nat.le_of_ble_eq_true rfl) ⟨Nat.le_of_ble_eq_true rfl, Nat.le_of_ble_eq_true rfl⟩ ⟨Nat.zero_le _, Nat.zero_le _⟩ dX11_store_5 (fun r4 => ?_)
  refine g_astore_n X [(2, .ref r4), (0, .ref 1), (1, .int a1)] dX11_store_8 rfl (by decide) rfl ?_
  refine g_aload_n X dX11_store_9 rfl 0 rfl ?_
  refine g_ifnull X 45 dX11_store_10 rfl (fun h5 => ?_) (fun h5 => ?_)
  · refine g_iconst (v := 0) X dX11_store_45 (by decide) ?_
    exact g_zret X rfl rfl rfl dX11_store_46
  · refine g_aload_n X dX11_store_13 rfl 0 rfl ?_
    refine g_ck (fun hT6 => ?_)
    refine g_geti X fa_X11_243 hT6 dX11_store_14 ?_
    refine g_iconst (v := 3) X dX11_store_17 (by decide) ?_
    refine g_icmp_eq X 45 dX11_store_18 rfl (fun h7 => ?_) (fun h7 => ?_)
    · refine g_iconst (v := 0) X dX11_store_45 (by decide) ?_
      exact g_zret X rfl rfl rfl dX11_store_46
    · refine g_aload_n X dX11_store_21 rfl 0 rfl ?_
      refine g_geti X fa_X11_243 hT6 dX11_store_22 ?_
      refine g_if_ne X 47 dX11_store_25 rfl (fun h8 => ?_) (fun h8 => ?_)
      · refine g_aload_n X dX11_store_28 rfl 1 rfl ?_
        refine g_getr X fa_X11_10 rfl rfl dX11_store_29 ?_
        refine g_getr X fa_X11_223 rfl rfl dX11_store_32 ?_
        refine g_aload_n X dX11_store_35 rfl 0 rfl ?_
        refine g_geti X fa_X11_183 hT6 dX11_store_36 ?_
        refine g_bVi (As := [.int (M0 r4 0)]) (rest := []) X (c_X1_has l K c M0 21 (M0 r4 0)) lk_X11_246 rfl rfl rfl (Nat.le_of_ble_eq_true rfl) ⟨Nat.le_of_ble_eq_true rfl, Nat.le_of_ble_eq_true rfl⟩ ⟨Nat.zero_le _, Nat.zero_le _⟩ dX11_store_39 (fun r9 => ?_)
        refine g_if_ne X 47 dX11_store_42 rfl (fun h10 => ?_) (fun h10 => ?_)
        · refine g_iconst (v := 0) X dX11_store_45 (by decide) ?_
          exact g_zret X rfl rfl rfl dX11_store_46
        · exact g_sub [1, 0] rfl (hb_47 r4 M0)
      · exact g_sub [1, 0] rfl (hb_47 r4 M0)
set_option maxHeartbeats 4000000 in
set_option maxRecDepth 100000 in
theorem c_X11_send (l : Launch) (K : q_KK) (c : Nat → Nat) (M0 : q_MM) (a1 : Int32) : ∀ res, f_X11_send c M0 a1 = some res → Mt l yX11_send cX11_send 3 (some FieldType.boolean) 5 107 0 0 false K [.ref 1, .int a1] ((qTX c), (qLX c), (qPX c), M0) (some (.int res.1)) (((qTX c), (qLX c), (qPX c), res.2)) := by
  refine Mt.of (fun (res : Int32 × q_MM) => some (.int res.1)) (fun (res : Int32 × q_MM) => ((qTX c), (qLX c), (qPX c), res.2)) (by decide) (Nat.le_of_ble_eq_true rfl) ?_
  intro p e s m args below meth c0 A ad X hN
  refine g_sub (lv' := [(0, .ref 1), (1, .int a1)]) [0, 1] rfl ?_
  unfold f_X11_send
  refine g_aload_n X dX11_send_0 rfl 0 rfl ?_
  refine g_getr X fa_X11_10 rfl rfl dX11_send_1 ?_
  refine g_iload_n X dX11_send_4 rfl 1 rfl ?_
  refine g_bVr (As := [.int a1]) (rest := []) X (c_X2_present l K c M0 a1) lk_X11_231 rfl rfl rfl (Nat.le_of_ble_eq_true rfl) ⟨Nat.le_of_ble_eq_true rfl, Nat.le_of_ble_eq_true rfl⟩ ⟨Nat.zero_le _, Nat.zero_le _⟩ dX11_send_5 (fun r1 => ?_)
  refine g_astore_n X [(2, .ref r1), (0, .ref 1), (1, .int a1)] dX11_send_8 rfl (by decide) rfl ?_
  refine g_aload_n X dX11_send_9 rfl 0 rfl ?_
  refine g_ifnonnull X 15 dX11_send_10 rfl (fun h2 => ?_) (fun h2 => ?_)
  · refine g_iconst (v := 0) X dX11_send_13 (by decide) ?_
    exact g_zret X rfl rfl rfl dX11_send_14
  · refine g_aload_n X dX11_send_15 rfl 0 rfl ?_
    refine g_iconst (v := 2) X dX11_send_16 (by decide) ?_
    refine g_ck (fun hT3 => ?_)
    refine g_pfi X fa_X11_243 rfl (by decide +kernel) hT3 dX11_send_17 (fun M4 => ?_)
    refine g_aload_n X dX11_send_20 rfl 1 rfl ?_
    refine g_getr X fa_X11_10 rfl rfl dX11_send_21 ?_
    refine g_getr X fa_X11_223 rfl rfl dX11_send_24 ?_
    refine g_aload_n X dX11_send_27 rfl 0 rfl ?_
    refine g_geti X fa_X11_183 hT3 dX11_send_28 ?_
    refine g_bVv (As := [.int (M4 r1 0)]) (rest := []) X (c_X1_take l K c M4 21 (M4 r1 0)) lk_X11_249 rfl rfl rfl (Nat.le_of_ble_eq_true rfl) ⟨Nat.le_of_ble_eq_true rfl, Nat.le_of_ble_eq_true rfl⟩ ⟨Nat.zero_le _, Nat.zero_le _⟩ dX11_send_31 (fun r5 => ?_)
    refine g_iconst (v := 1) X dX11_send_34 (by decide) ?_
    exact g_zret X rfl rfl rfl dX11_send_35
set_option maxHeartbeats 4000000 in
set_option maxRecDepth 100000 in
theorem c_X11_placeOf (l : Launch) (K : q_KK) (c : Nat → Nat) (M : q_MM) (a1 : Nat) (a2 : Int32) : ∀ res, f_X11_placeOf c M a1 a2 = some res → Mt l yX11_placeOf cX11_placeOf 5 (some FieldType.int) 5 106 0 0 false K [.ref 1, .ref a1, .int a2] ((qTX c), (qLX c), (qPX c), M) (some (.int res)) (((qTX c), (qLX c), (qPX c), M)) := by
  refine Mt.of (fun (res : Int32) => some (.int res)) (fun (_ : Int32) => ((qTX c), (qLX c), (qPX c), M)) (by decide) (Nat.le_of_ble_eq_true rfl) ?_
  intro p e s m args below meth c0 A ad X hN
  refine g_sub (lv' := [(0, .ref 1), (1, .ref a1), (2, .int a2)]) [0, 1, 2] rfl ?_
  unfold f_X11_placeOf
  refine g_aload_n X dX11_placeOf_0 rfl 0 rfl ?_
  refine g_getr X fa_X11_10 rfl rfl dX11_placeOf_1 ?_
  refine g_aload_n X dX11_placeOf_4 rfl 1 rfl ?_
  refine g_bVr (As := [.ref a1]) (rest := []) X (c_X2_wallOf l K c M a1) lk_X11_295 rfl rfl rfl (Nat.le_of_ble_eq_true rfl) ⟨Nat.le_of_ble_eq_true rfl, Nat.le_of_ble_eq_true rfl⟩ ⟨Nat.zero_le _, Nat.zero_le _⟩ dX11_placeOf_5 (fun r1 => ?_)
  refine g_astore_n X [(3, .ref r1), (0, .ref 1), (1, .ref a1), (2, .int a2)] dX11_placeOf_8 rfl (by decide) rfl ?_
  refine g_aload_n X dX11_placeOf_9 rfl 0 rfl ?_
  refine g_ifnonnull X 15 dX11_placeOf_10 rfl (fun h2 => ?_) (fun h2 => ?_)
  · refine g_iconst (v := (-1)) X dX11_placeOf_13 (by decide) ?_
    exact g_iret X rfl rfl rfl dX11_placeOf_14
  · refine g_aload_n X dX11_placeOf_15 rfl 1 rfl ?_
    refine g_getr X fa_X11_10 rfl rfl dX11_placeOf_16 ?_
    refine g_getr X fa_X11_223 rfl rfl dX11_placeOf_19 ?_
    refine g_aload_n X dX11_placeOf_22 rfl 2 rfl ?_
    refine g_ck (fun hT3 => ?_)
    refine g_geti X fa_X11_183 hT3 dX11_placeOf_23 ?_
    refine g_bVi (As := [.int (M a1 0)]) (rest := []) X (c_X1_leftSide l K c M 21 (M a1 0)) lk_X11_269 rfl rfl rfl (Nat.le_of_ble_eq_true rfl) ⟨Nat.le_of_ble_eq_true rfl, Nat.le_of_ble_eq_true rfl⟩ ⟨Nat.zero_le _, Nat.zero_le _⟩ dX11_placeOf_26 (fun r4 => ?_)
    refine g_istore X [(4, .int r4), (3, .ref r1), (0, .ref 1), (1, .ref a1), (2, .int a2)] dX11_placeOf_29 (by decide) rfl ?_
    refine g_iload_n X dX11_placeOf_31 rfl 4 rfl ?_
    refine g_case (fun h5 => ?_) (fun h5 => ?_)
    · refine g_tin (off := 36) X 68 h5 dX11_placeOf_32 (by decide) (by decide) (by decide) rfl ?_
      refine g_aload_n X dX11_placeOf_68 rfl 1 rfl ?_
      refine g_ck (fun hT6 => ?_)
      refine g_geti X fa_X11_122 hT6 dX11_placeOf_69 ?_
      exact g_iret X rfl rfl rfl dX11_placeOf_72
    · refine g_case (fun h7 => ?_) (fun h7 => ?_)
      · refine g_tin (off := 41) X 73 h7 dX11_placeOf_32 (by decide) (by decide) (by decide) rfl ?_
        refine g_iload X dX11_placeOf_73 0 rfl ?_
        exact g_iret X rfl rfl rfl dX11_placeOf_75
      · refine g_case (fun h8 => ?_) (fun h8 => ?_)
        · refine g_tin (off := 44) X 76 h8 dX11_placeOf_32 (by decide) (by decide) (by decide) rfl ?_
          refine g_aload_n X dX11_placeOf_76 rfl 2 rfl ?_
          refine g_getr X fa_X11_10 rfl rfl dX11_placeOf_77 ?_
          refine g_getr X fa_X11_223 rfl rfl dX11_placeOf_80 ?_
          refine g_aload_n X dX11_placeOf_83 rfl 3 rfl ?_
          refine g_geti X fa_X11_183 hT3 dX11_placeOf_84 ?_
          refine g_aload_n X dX11_placeOf_87 rfl 1 rfl ?_
          refine g_ck (fun hT9 => ?_)
          refine g_geti X fa_X11_122 hT9 dX11_placeOf_88 ?_
          refine g_iload X dX11_placeOf_91 0 rfl ?_
          refine g_bVi (As := [.int (M a1 0), .int (M r1 0), .int r4]) (rest := []) X (c_X1_leftOf l K c M 21 (M a1 0) (M r1 0) r4) lk_X11_415 rfl rfl rfl (Nat.le_of_ble_eq_true rfl) ⟨Nat.le_of_ble_eq_true rfl, Nat.le_of_ble_eq_true rfl⟩ ⟨Nat.zero_le _, Nat.zero_le _⟩ dX11_placeOf_93 (fun r10 => ?_)
          exact g_iret X rfl rfl rfl dX11_placeOf_96
        · refine g_case (fun h11 => ?_) (fun h11 => ?_)
          · refine g_tin (off := 65) X 97 h11 dX11_placeOf_32 (by decide) (by decide) (by decide) rfl ?_
            refine g_aload_n X dX11_placeOf_97 rfl 2 rfl ?_
            refine g_getr X fa_X11_10 rfl rfl dX11_placeOf_98 ?_
            refine g_getr X fa_X11_223 rfl rfl dX11_placeOf_101 ?_
            refine g_aload_n X dX11_placeOf_104 rfl 3 rfl ?_
            refine g_geti X fa_X11_183 hT3 dX11_placeOf_105 ?_
            refine g_aload_n X dX11_placeOf_108 rfl 1 rfl ?_
            refine g_ck (fun hT12 => ?_)
            refine g_geti X fa_X11_122 hT12 dX11_placeOf_109 ?_
            refine g_iload X dX11_placeOf_112 0 rfl ?_
            refine g_bVi (As := [.int (M a1 0), .int (M r1 0), .int r4]) (rest := []) X (c_X1_rightOf l K c M 21 (M a1 0) (M r1 0) r4) lk_X11_265 rfl rfl rfl (Nat.le_of_ble_eq_true rfl) ⟨Nat.le_of_ble_eq_true rfl, Nat.le_of_ble_eq_true rfl⟩ ⟨Nat.zero_le _, Nat.zero_le _⟩ dX11_placeOf_114 (fun r13 => ?_)
            exact g_iret X rfl rfl rfl dX11_placeOf_117
          · refine g_tdef X [1, 2, 4, 5] 118 (List.forall_mem_cons.mpr ⟨h5, (List.forall_mem_cons.mpr ⟨h7, (List.forall_mem_cons.mpr ⟨h8, (List.forall_mem_cons.mpr ⟨h11, (fun _ z => nomatch z)⟩)⟩)⟩)⟩) dX11_placeOf_32 (by decide) rfl ?_
            refine g_aload_n X dX11_placeOf_118 rfl 1 rfl ?_
            refine g_ck (fun hT14 => ?_)
            refine g_geti X fa_X11_400 hT14 dX11_placeOf_119 ?_
            exact g_iret X rfl rfl rfl dX11_placeOf_122
set_option maxHeartbeats 4000000 in
set_option maxRecDepth 100000 in
theorem c_X11_at (l : Launch) (K : q_KK) (c : Nat → Nat) (M : q_MM) (a1 : Int32) (a2 : Int32) : ∀ res, f_X11_at c M a1 a2 = some res → Mt l yX11_at cX11_at 4 (some FieldType.int) 6 130 0 0 false K [.ref 1, .int a1, .int a2] ((qTX c), (qLX c), (qPX c), M) (some (.int res)) (((qTX c), (qLX c), (qPX c), M)) := by
  refine Mt.of (fun (res : Int32) => some (.int res)) (fun (_ : Int32) => ((qTX c), (qLX c), (qPX c), M)) (by decide) (Nat.le_of_ble_eq_true rfl) ?_
  intro p e s m args below meth c0 A ad X hN
  have hb_23 : GG p l e { frames := 6, cells := 0, slots := 0, locals := 130 } s m args below meth c0 K A ((qTX c), (qLX c), (qPX c), M) ad false 4 (fun res => MQ below (q_Qc K false ad ((qTX c), (qLX c), (qPX c), M) ((fun (res : Int32) => some (.int res)) res) ((fun (_ : Int32) => ((qTX c), (qLX c), (qPX c), M)) res) A) args s 0 0 A) (b_X11_at_23 c M ) 23 [] [] ((qTX c), (qLX c), (qPX c), M) 0 0 := by
    unfold b_X11_at_23
    exact g_stop
  refine g_sub (lv' := [(0, .ref 1), (1, .int a1), (2, .int a2)]) [0, 1, 2] rfl ?_
  unfold f_X11_at
  refine g_aload_n X dX11_at_0 rfl 0 rfl ?_
  refine g_getr X fa_X11_10 rfl rfl dX11_at_1 ?_
  refine g_iload_n X dX11_at_4 rfl 1 rfl ?_
  refine g_bVr (As := [.int a1]) (rest := []) X (c_X2_pictureAt l K c M a1) lk_X11_184 rfl rfl rfl (Nat.le_of_ble_eq_true rfl) ⟨Nat.le_of_ble_eq_true rfl, Nat.le_of_ble_eq_true rfl⟩ ⟨Nat.zero_le _, Nat.zero_le _⟩ dX11_at_5 (fun r1 => ?_)
  refine g_astore_n X [(3, .ref r1), (0, .ref 1), (1, .int a1), (2, .int a2)] dX11_at_8 rfl (by decide) rfl ?_
  refine g_aload_n X dX11_at_9 rfl 0 rfl ?_
  refine g_ifnull X 23 dX11_at_10 rfl (fun h2 => ?_) (fun h2 => ?_)
  · exact g_sub [] rfl (hb_23)
  · refine g_iload_n X dX11_at_13 rfl 3 rfl ?_
    refine g_iconst (v := 0) X dX11_at_14 (by decide) ?_
    refine g_bipush (v := 7) X dX11_at_15 (by decide) ?_
    refine g_bSi (As := [.int a2, .int 0, .int 7]) (rest := []) X (c_X11_within l K c M a2 0 7) lk_X11_82 rfl rfl (Nat.le_of_ble_eq_true rfl) ⟨Nat.le_of_ble_eq_true rfl, Nat.le_of_ble_eq_true rfl⟩ ⟨Nat.zero_le _, Nat.zero_le _⟩ dX11_at_17 (fun r3 => ?_)
    refine g_if_ne X 31 dX11_at_20 rfl (fun h4 => ?_) (fun h4 => ?_)
    · exact g_sub [] rfl (hb_23)
    · refine g_iload_n X dX11_at_31 rfl 3 rfl ?_
      refine g_if_ne X 44 dX11_at_32 rfl (fun h5 => ?_) (fun h5 => ?_)
      · refine g_aload_n X dX11_at_35 rfl 1 rfl ?_
        refine g_getr X fa_X11_10 rfl rfl dX11_at_36 ?_
        refine g_aload_n X dX11_at_39 rfl 0 rfl ?_
        refine g_bVi (As := [.ref r1]) (rest := []) X (c_X2_stateOf l K c M r1) lk_X11_254 rfl rfl rfl (Nat.le_of_ble_eq_true rfl) ⟨Nat.le_of_ble_eq_true rfl, Nat.le_of_ble_eq_true rfl⟩ ⟨Nat.zero_le _, Nat.zero_le _⟩ dX11_at_40 (fun r6 => ?_)
        exact g_iret X rfl rfl rfl dX11_at_43
      · refine g_iload_n X dX11_at_44 rfl 3 rfl ?_
        refine g_iconst (v := 3) X dX11_at_45 (by decide) ?_
        refine g_icmp_ne X 54 dX11_at_46 rfl (fun h7 => ?_) (fun h7 => ?_)
        · refine g_aload_n X dX11_at_49 rfl 0 rfl ?_
          refine g_ck (fun hT8 => ?_)
          refine g_geti X fa_X11_258 hT8 dX11_at_50 ?_
          exact g_iret X rfl rfl rfl dX11_at_53
        · refine g_iload_n X dX11_at_54 rfl 3 rfl ?_
          refine g_bipush (v := 7) X dX11_at_55 (by decide) ?_
          refine g_icmp_ne X 67 dX11_at_57 rfl (fun h9 => ?_) (fun h9 => ?_)
          · refine g_aload_n X dX11_at_60 rfl 0 rfl ?_
            refine g_ck (fun hT10 => ?_)
            refine g_geti X fa_X11_188 hT10 dX11_at_61 ?_
            refine g_goto X 73 dX11_at_64 rfl ?_
            exact g_iret X rfl rfl rfl dX11_at_73
          · refine g_aload_n X dX11_at_67 rfl 1 rfl ?_
            refine g_aload_n X dX11_at_68 rfl 0 rfl ?_
            refine g_iload_n X dX11_at_69 rfl 3 rfl ?_
            refine g_bVi (As := [.ref r1, .int a2]) (rest := []) X (c_X11_placeOf l K c M r1 a2) lk_X11_261 rfl rfl rfl (Nat.le_of_ble_eq_true rfl) ⟨Nat.le_of_ble_eq_true rfl, Nat.le_of_ble_eq_true rfl⟩ ⟨Nat.zero_le _, Nat.zero_le _⟩ dX11_at_70 (fun r11 => ?_)
            exact g_iret X rfl rfl rfl dX11_at_73
set_option maxHeartbeats 4000000 in
set_option maxRecDepth 100000 in
theorem c_X11_on (l : Launch) (K : q_KK) (c : Nat → Nat) (M0 : q_MM) (a1 : Int32) : ∀ res, f_X11_on c M0 a1 = some res → Mt l yX11_on cX11_on 5 (some FieldType.int) 4 85 0 0 false K [.ref 1, .int a1] ((qTX c), (qLX c), (qPX c), M0) (some (.int res.1)) (((qTX c), (qLX c), (qPX c), res.2)) := by
  refine Mt.of (fun (res : Int32 × q_MM) => some (.int res.1)) (fun (res : Int32 × q_MM) => ((qTX c), (qLX c), (qPX c), res.2)) (by decide) (Nat.le_of_ble_eq_true rfl) ?_
  intro p e s m args below meth c0 A ad X hN
  have hb_91 : ∀ (M : q_MM), GG p l e { frames := 4, cells := 0, slots := 0, locals := 85 } s m args below meth c0 K A ((qTX c), (qLX c), (qPX c), M0) ad false 5 (fun res => MQ below (q_Qc K false ad ((qTX c), (qLX c), (qPX c), M0) ((fun (res : Int32 × q_MM) => some (.int res.1)) res) ((fun (res : Int32 × q_MM) => ((qTX c), (qLX c), (qPX c), res.2)) res) A) args s 0 0 A) (b_X11_on_91 c M) 91 [(0, .ref 1)] [] ((qTX c), (qLX c), (qPX c), M) 0 0 := by
    intro M
    unfold b_X11_on_91
    refine g_aload_n X dX11_on_91 rfl 0 rfl ?_
    refine g_getr X fa_X11_44 rfl rfl dX11_on_92 ?_
    refine g_geti X fa_X11_205 rfl dX11_on_95 ?_
    exact g_iret X rfl rfl rfl dX11_on_98
  have hb_39 : ∀ (nf : Nat) (x1 : Int32) (x3 : Int32) (x4 : Int32) (M : q_MM), GG p l e { frames := 4, cells := 0, slots := 0, locals := 85 } s m args below meth c0 K A ((qTX c), (qLX c), (qPX c), M0) ad false 5 (fun res => MQ below (q_Qc K false ad ((qTX c), (qLX c), (qPX c), M0) ((fun (res : Int32 × q_MM) => some (.int res.1)) res) ((fun (res : Int32 × q_MM) => ((qTX c), (qLX c), (qPX c), res.2)) res) A) args s 0 0 A) (b_X11_on_39 c nf x1 x3 x4 M) 39 [(0, .ref 1), (1, .int x1), (3, .int x3), (4, .int x4)] [] ((qTX c), (qLX c), (qPX c), M) 0 0 := by
    intro  nf
    induction nf with
    | zero => intros; exact g_stop
    | succ nf ih =>
      intro x1 x3 x4 M
      rw [b_X11_on_39]
      refine g_iload X dX11_on_39 3 rfl ?_
      refine g_bipush (v := 24) X dX11_on_41 (by decide) ?_
      refine g_icmp_ge X 91 dX11_on_43 rfl (fun h1 => ?_) (fun h1 => ?_)
      · exact g_sub [0] rfl (hb_91 M)
      · refine g_iload_n X dX11_on_46 rfl 2 rfl ?_
        refine g_iconst (v := (-1)) X dX11_on_47 (by decide) ?_
        refine g_icmp_eq X 91 dX11_on_48 rfl (fun h2 => ?_) (fun h2 => ?_)
        · exact g_sub [0] rfl (hb_91 M)
        · refine g_aload_n X dX11_on_51 rfl 0 rfl ?_
          refine g_getr X fa_X11_44 rfl rfl dX11_on_52 ?_
          refine g_iload_n X dX11_on_55 rfl 2 rfl ?_
          refine g_bVv (As := [.int x3]) (rest := []) X (c_X4_add l K c M 6 x3) lk_X11_207 rfl rfl rfl (Nat.le_of_ble_eq_true rfl) ⟨Nat.le_of_ble_eq_true rfl, Nat.le_of_ble_eq_true rfl⟩ ⟨Nat.zero_le _, Nat.zero_le _⟩ dX11_on_56 (fun r3 => ?_)
          refine g_aload_n X dX11_on_59 rfl 0 rfl ?_
          refine g_getr X fa_X11_10 rfl rfl dX11_on_60 ?_
          refine g_getr X fa_X11_223 rfl rfl dX11_on_63 ?_
          refine g_iload_n X dX11_on_66 rfl 2 rfl ?_
          refine g_bVi (As := [.int x3]) (rest := []) X (c_X1_leftSide l K c r3 21 x3) lk_X11_269 rfl rfl rfl (Nat.le_of_ble_eq_true rfl) ⟨Nat.le_of_ble_eq_true rfl, Nat.le_of_ble_eq_true rfl⟩ ⟨Nat.zero_le _, Nat.zero_le _⟩ dX11_on_67 (fun r4 => ?_)
          refine g_istore_n X [(2, .int r4), (0, .ref 1), (1, .int x1), (3, .int x3), (4, .int x4)] dX11_on_70 rfl (by decide) rfl ?_
          refine g_aload_n X dX11_on_71 rfl 1 rfl ?_
          refine g_getr X fa_X11_10 rfl rfl dX11_on_72 ?_
          refine g_getr X fa_X11_223 rfl rfl dX11_on_75 ?_
          refine g_iconst (v := (-1)) X dX11_on_78 (by decide) ?_
          refine g_iload_n X dX11_on_79 rfl 2 rfl ?_
          refine g_iload_n X dX11_on_80 rfl 0 rfl ?_
          refine g_bVi (As := [.int (-1), .int x1, .int r4]) (rest := []) X (c_X1_rightOf l K c r3 21 (-1) x1 r4) lk_X11_265 rfl rfl rfl (Nat.le_of_ble_eq_true rfl) ⟨Nat.le_of_ble_eq_true rfl, Nat.le_of_ble_eq_true rfl⟩ ⟨Nat.zero_le _, Nat.zero_le _⟩ dX11_on_81 (fun r5 => ?_)
          refine g_istore_n X [(3, .int r5), (2, .int r4), (0, .ref 1), (1, .int x1), (4, .int x4)] dX11_on_84 rfl (by decide) rfl ?_
          refine g_iinc (v := 1) X [(4, .int (x4 + 1)), (3, .int r5), (2, .int r4), (0, .ref 1), (1, .int x1)] 4 dX11_on_85 rfl (by decide) (by decide) rfl ?_
          refine g_goto X 39 dX11_on_88 rfl ?_
          exact g_sub [3, 4, 1, 0] rfl (ih x1 r5 (x4 + 1) r3)
  refine g_sub (lv' := [(0, .ref 1), (1, .int a1)]) [0, 1] rfl ?_
  unfold f_X11_on
  refine g_aload_n X dX11_on_0 rfl 0 rfl ?_
  refine g_getr X fa_X11_10 rfl rfl dX11_on_1 ?_
  refine g_iload_n X dX11_on_4 rfl 1 rfl ?_
  refine g_bVr (As := [.int a1]) (rest := []) X (c_X2_wallAt l K c M0 a1) lk_X11_125 rfl rfl rfl (Nat.le_of_ble_eq_true rfl) ⟨Nat.le_of_ble_eq_true rfl, Nat.le_of_ble_eq_true rfl⟩ ⟨Nat.zero_le _, Nat.zero_le _⟩ dX11_on_5 (fun r6 => ?_)
  refine g_ifnonnull X 13 dX11_on_8 rfl (fun h7 => ?_) (fun h7 => ?_)
  · refine g_iconst (v := (-1)) X dX11_on_11 (by decide) ?_
    exact g_iret X rfl rfl rfl dX11_on_12
  · refine g_aload_n X dX11_on_13 rfl 0 rfl ?_
    refine g_getr X fa_X11_44 rfl rfl dX11_on_14 ?_
    refine g_bVv (As := []) (rest := []) X (c_X4_clear l K c M0 6) lk_X11_216 rfl rfl rfl (Nat.le_of_ble_eq_true rfl) ⟨Nat.le_of_ble_eq_true rfl, Nat.le_of_ble_eq_true rfl⟩ ⟨Nat.zero_le _, Nat.zero_le _⟩ dX11_on_17 (fun r8 => ?_)
    refine g_iconst (v := (-1)) X dX11_on_20 (by decide) ?_
    refine g_istore_n X [(2, .int (-1)), (0, .ref 1), (1, .int a1)] dX11_on_21 rfl (by decide) rfl ?_
    refine g_aload_n X dX11_on_22 rfl 1 rfl ?_
    refine g_getr X fa_X11_10 rfl rfl dX11_on_23 ?_
    refine g_getr X fa_X11_223 rfl rfl dX11_on_26 ?_
    refine g_iconst (v := (-1)) X dX11_on_29 (by decide) ?_
    refine g_iload_n X dX11_on_30 rfl 2 rfl ?_
    refine g_iload_n X dX11_on_31 rfl 0 rfl ?_
    refine g_bVi (As := [.int (-1), .int a1, .int (-1)]) (rest := []) X (c_X1_rightOf l K c r8 21 (-1) a1 (-1)) lk_X11_265 rfl rfl rfl (Nat.le_of_ble_eq_true rfl) ⟨Nat.le_of_ble_eq_true rfl, Nat.le_of_ble_eq_true rfl⟩ ⟨Nat.zero_le _, Nat.zero_le _⟩ dX11_on_32 (fun r9 => ?_)
    refine g_istore_n X [(3, .int r9), (2, .int (-1)), (0, .ref 1), (1, .int a1)] dX11_on_35 rfl (by decide) rfl ?_
    refine g_iconst (v := 0) X dX11_on_36 (by decide) ?_
    refine g_istore X [(4, .int 0), (3, .int r9), (2, .int (-1)), (0, .ref 1), (1, .int a1)] dX11_on_37 (by decide) rfl ?_
    exact g_sub [3, 4, 1, 0] rfl (hb_39 q_fu a1 r9 0 r8)
set_option maxHeartbeats 4000000 in
set_option maxRecDepth 100000 in
theorem c_X11_leastPlace (l : Launch) (K : q_KK) (c : Nat → Nat) (M0 : q_MM) (a1 : Nat) (a2 : Nat) : ∀ res, f_X11_leastPlace c M0 a1 a2 = some res → Mt l yX11_leastPlace cX11_leastPlace 6 (some FieldType.int) 8 190 0 0 false K [.ref 1, .ref a1, .ref a2] ((qTX c), (qLX c), (qPX c), M0) (some (.int res.1)) (((qTX c), (qLX c), (qPX c), res.2)) := by
  refine Mt.of (fun (res : Int32 × q_MM) => some (.int res.1)) (fun (res : Int32 × q_MM) => ((qTX c), (qLX c), (qPX c), res.2)) (by decide) (Nat.le_of_ble_eq_true rfl) ?_
  intro p e s m args below meth c0 A ad X hN
  have hb_163 : ∀ (x3 : Int32) (M : q_MM), GG p l e { frames := 8, cells := 0, slots := 0, locals := 190 } s m args below meth c0 K A ((qTX c), (qLX c), (qPX c), M0) ad false 6 (fun res => MQ below (q_Qc K false ad ((qTX c), (qLX c), (qPX c), M0) ((fun (res : Int32 × q_MM) => some (.int res.1)) res) ((fun (res : Int32 × q_MM) => ((qTX c), (qLX c), (qPX c), res.2)) res) A) args s 0 0 A) (b_X11_leastPlace_163 c x3 M) 163 [(3, .int x3)] [] ((qTX c), (qLX c), (qPX c), M) 0 0 := by
    intro x3 M
    unfold b_X11_leastPlace_163
    refine g_iload_n X dX11_leastPlace_163 rfl 0 rfl ?_
    exact g_iret X rfl rfl rfl dX11_leastPlace_164
  have hb_157 : ∀ (k29 : Nat → Nat → Int32 → Int32 → q_MM → Option (Int32 × q_MM)) (hk29 : ∀ (x1 : Nat) (x2 : Nat) (x3 : Int32) (x4 : Int32) (M : q_MM), GG p l e { frames := 8, cells := 0, slots := 0, locals := 190 } s m args below meth c0 K A ((qTX c), (qLX c), (qPX c), M0) ad false 6 (fun res => MQ below (q_Qc K false ad ((qTX c), (qLX c), (qPX c), M0) ((fun (res : Int32 × q_MM) => some (.int res.1)) res) ((fun (res : Int32 × q_MM) => ((qTX c), (qLX c), (qPX c), res.2)) res) A) args s 0 0 A) (k29 x1 x2 x3 x4 M) 29 [(0, .ref 1), (1, .ref x1), (2, .ref x2), (3, .int x3), (4, .int x4)] [] ((qTX c), (qLX c), (qPX c), M) 0 0) (x1 : Nat) (x2 : Nat) (x3 : Int32) (x4 : Int32) (M : q_MM), GG p l e { frames := 8, cells := 0, slots := 0, locals := 190 } s m args below meth c0 K A ((qTX c), (qLX c), (qPX c), M0) ad false 6 (fun res => MQ below (q_Qc K false ad ((qTX c), (qLX c), (qPX c), M0) ((fun (res : Int32 × q_MM) => some (.int res.1)) res) ((fun (res : Int32 × q_MM) => ((qTX c), (qLX c), (qPX c), res.2)) res) A) args s 0 0 A) (b_X11_leastPlace_157 c k29 x1 x2 x3 x4 M) 157 [(0, .ref 1), (1, .ref x1), (2, .ref x2), (3, .int x3), (4, .int x4)] [] ((qTX c), (qLX c), (qPX c), M) 0 0 := by
    intro k29 hk29 x1 x2 x3 x4 M
    unfold b_X11_leastPlace_157
    refine g_iinc (v := 1) X [(4, .int (x4 + 1)), (0, .ref 1), (1, .ref x1), (2, .ref x2), (3, .int x3)] 4 dX11_leastPlace_157 rfl (by decide) (by decide) rfl ?_
    refine g_goto X 29 dX11_leastPlace_160 rfl ?_
    exact g_sub [1, 2, 3, 4, 0] rfl (hk29 x1 x2 x3 (x4 + 1) M)
  have hb_133 : ∀ (k29 : Nat → Nat → Int32 → Int32 → q_MM → Option (Int32 × q_MM)) (hk29 : ∀ (x1 : Nat) (x2 : Nat) (x3 : Int32) (x4 : Int32) (M : q_MM), GG p l e { frames := 8, cells := 0, slots := 0, locals := 190 } s m args below meth c0 K A ((qTX c), (qLX c), (qPX c), M0) ad false 6 (fun res => MQ below (q_Qc K false ad ((qTX c), (qLX c), (qPX c), M0) ((fun (res : Int32 × q_MM) => some (.int res.1)) res) ((fun (res : Int32 × q_MM) => ((qTX c), (qLX c), (qPX c), res.2)) res) A) args s 0 0 A) (k29 x1 x2 x3 x4 M) 29 [(0, .ref 1), (1, .ref x1), (2, .ref x2), (3, .int x3), (4, .int x4)] [] ((qTX c), (qLX c), (qPX c), M) 0 0) (x1 : Nat) (x2 : Nat) (x3 : Int32) (x4 : Int32) (x5 : Int32) (M : q_MM), GG p l e { frames := 8, cells := 0, slots := 0, locals := 190 } s m args below meth c0 K A ((qTX c), (qLX c), (qPX c), M0) ad false 6 (fun res => MQ below (q_Qc K false ad ((qTX c), (qLX c), (qPX c), M0) ((fun (res : Int32 × q_MM) => some (.int res.1)) res) ((fun (res : Int32 × q_MM) => ((qTX c), (qLX c), (qPX c), res.2)) res) A) args s 0 0 A) (b_X11_leastPlace_133 c k29 x1 x2 x3 x4 x5 M) 133 [(0, .ref 1), (1, .ref x1), (2, .ref x2), (3, .int x3), (4, .int x4), (5, .int x5)] [] ((qTX c), (qLX c), (qPX c), M) 0 0 := by
    intro k29 hk29 x1 x2 x3 x4 x5 M
    unfold b_X11_leastPlace_133
    refine g_aload_n X dX11_leastPlace_133 rfl 0 rfl ?_
    refine g_getr X fa_X11_21 rfl rfl dX11_leastPlace_134 ?_
    refine g_aload_n X dX11_leastPlace_137 rfl 0 rfl ?_
    refine g_getr X fa_X11_10 rfl rfl dX11_leastPlace_138 ?_
    refine g_getr X fa_X11_223 rfl rfl dX11_leastPlace_141 ?_
    refine g_aload_n X dX11_leastPlace_144 rfl 1 rfl ?_
    refine g_aload_n X dX11_leastPlace_145 rfl 2 rfl ?_
    refine g_iload X dX11_leastPlace_146 5 rfl ?_
    refine g_bVi (As := [.ref 21, .ref x1, .ref x2, .int x5]) (rest := []) X (c_X9_unfit l K c M 21 x1 x2 x5) lk_X11_234 rfl rfl rfl (Nat.le_of_ble_eq_true rfl) ⟨Nat.le_of_ble_eq_true rfl, Nat.le_of_ble_eq_true rfl⟩ ⟨Nat.zero_le _, Nat.zero_le _⟩ dX11_leastPlace_148 (fun r1 => ?_)
    refine g_if_ne X 157 dX11_leastPlace_151 rfl (fun h2 => ?_) (fun h2 => ?_)
    · refine g_iload X dX11_leastPlace_154 5 rfl ?_
      refine g_istore_n X [(3, .int x5), (0, .ref 1), (1, .ref x1), (2, .ref x2), (4, .int x4), (5, .int x5)] dX11_leastPlace_156 rfl (by decide) rfl ?_
      exact g_sub [1, 2, 3, 0, 4] rfl (hb_157 k29 hk29 x1 x2 x5 x4 r1.2)
    · exact g_sub [0, 1, 2, 3, 4] rfl (hb_157 k29 hk29 x1 x2 x3 x4 r1.2)
  have hb_29 : ∀ (nf : Nat) (x1 : Nat) (x2 : Nat) (x3 : Int32) (x4 : Int32) (M : q_MM), GG p l e { frames := 8, cells := 0, slots := 0, locals := 190 } s m args below meth c0 K A ((qTX c), (qLX c), (qPX c), M0) ad false 6 (fun res => MQ below (q_Qc K false ad ((qTX c), (qLX c), (qPX c), M0) ((fun (res : Int32 × q_MM) => some (.int res.1)) res) ((fun (res : Int32 × q_MM) => ((qTX c), (qLX c), (qPX c), res.2)) res) A) args s 0 0 A) (b_X11_leastPlace_29 c nf x1 x2 x3 x4 M) 29 [(0, .ref 1), (1, .ref x1), (2, .ref x2), (3, .int x3), (4, .int x4)] [] ((qTX c), (qLX c), (qPX c), M) 0 0 := by
    intro  nf
    induction nf with
    | zero => intros; exact g_stop
    | succ nf ih =>
      intro x1 x2 x3 x4 M
      rw [b_X11_leastPlace_29]
      refine g_iload X dX11_leastPlace_29 4 rfl ?_
      refine g_aload_n X dX11_leastPlace_31 rfl 0 rfl ?_
      refine g_getr X fa_X11_10 rfl rfl dX11_leastPlace_32 ?_
      refine g_getr X fa_X11_158 rfl rfl dX11_leastPlace_35 ?_
      refine g_bVi (As := []) (rest := [.int x4]) X (c_Jx4a65c_size_8abf5 l K (qTX c) (qLX c) (qPX c) M 15) lk_X11_90 rfl rfl rfl (Nat.le_of_ble_eq_true rfl) ⟨Nat.le_of_ble_eq_true rfl, Nat.le_of_ble_eq_true rfl⟩ ⟨Nat.zero_le _, Nat.zero_le _⟩ dX11_leastPlace_38 (fun r3 => ?_)
      refine g_icmp_ge X 163 dX11_leastPlace_41 rfl (fun h4 => ?_) (fun h4 => ?_)
      · exact g_sub [3] rfl (hb_163 x3 M)
      · refine g_iload_n X dX11_leastPlace_44 rfl 3 rfl ?_
        refine g_if_eq X 163 dX11_leastPlace_45 rfl (fun h5 => ?_) (fun h5 => ?_)
        · exact g_sub [3] rfl (hb_163 x3 M)
        · refine g_iload X dX11_leastPlace_48 4 rfl ?_
          refine g_aload_n X dX11_leastPlace_50 rfl 1 rfl ?_
          refine g_ck (fun hT6 => ?_)
          refine g_geti X fa_X11_183 hT6 dX11_leastPlace_51 ?_
          refine g_icmp_eq X 157 dX11_leastPlace_54 rfl (fun h7 => ?_) (fun h7 => ?_)
          · exact g_sub [0, 1, 2, 3, 4] rfl (hb_157 (b_X11_leastPlace_29 c nf) ih x1 x2 x3 x4 M)
          · refine g_aload_n X dX11_leastPlace_57 rfl 0 rfl ?_
            refine g_getr X fa_X11_10 rfl rfl dX11_leastPlace_58 ?_
            refine g_getr X fa_X11_223 rfl rfl dX11_leastPlace_61 ?_
            refine g_iload X dX11_leastPlace_64 4 rfl ?_
            refine g_bVi (As := [.int x4]) (rest := []) X (c_X1_wallUnder l K c M 21 x4) lk_X11_418 rfl rfl rfl (Nat.le_of_ble_eq_true rfl) ⟨Nat.le_of_ble_eq_true rfl, Nat.le_of_ble_eq_true rfl⟩ ⟨Nat.zero_le _, Nat.zero_le _⟩ dX11_leastPlace_66 (fun r8 => ?_)
            refine g_aload_n X dX11_leastPlace_69 rfl 2 rfl ?_
            refine g_ck (fun hT9 => ?_)
            refine g_geti X fa_X11_122 hT9 dX11_leastPlace_70 ?_
            refine g_icmp_eq X 79 dX11_leastPlace_73 rfl (fun h10 => ?_) (fun h10 => ?_)
            · refine g_aload_n X dX11_leastPlace_79 rfl 0 rfl ?_
              refine g_getr X fa_X11_10 rfl rfl dX11_leastPlace_80 ?_
              refine g_getr X fa_X11_223 rfl rfl dX11_leastPlace_83 ?_
              refine g_iload X dX11_leastPlace_86 4 rfl ?_
              refine g_bVi (As := [.int x4]) (rest := []) X (c_X1_leftSide l K c M 21 x4) lk_X11_269 rfl rfl rfl (Nat.le_of_ble_eq_true rfl) ⟨Nat.le_of_ble_eq_true rfl, Nat.le_of_ble_eq_true rfl⟩ ⟨Nat.zero_le _, Nat.zero_le _⟩ dX11_leastPlace_88 (fun r11 => ?_)
              refine g_aload_n X dX11_leastPlace_91 rfl 0 rfl ?_
              refine g_getr X fa_X11_10 rfl rfl dX11_leastPlace_92 ?_
              refine g_getr X fa_X11_158 rfl rfl dX11_leastPlace_95 ?_
              refine g_iload X dX11_leastPlace_98 4 rfl ?_
              refine g_bVr (As := [.int x4]) (rest := [.int r11]) X (c_Jx4a65c_get_915e3 l K (qTX c) (qLX c) (qPX c) M 15 x4) lk_X11_272 rfl rfl rfl (Nat.le_of_ble_eq_true rfl) ⟨Nat.le_of_ble_eq_true rfl, Nat.le_of_ble_eq_true rfl⟩ ⟨Nat.zero_le _, Nat.zero_le _⟩ dX11_leastPlace_100 (fun r12 => ?_)
              refine g_ck (fun hT13 => ?_)
              refine g_cast X (ci := 5) rfl wl_X11_161 hT13 dX11_leastPlace_103 ?_
              refine g_geti X fa_X11_164 hT13 dX11_leastPlace_106 ?_
              refine g_iadd X dX11_leastPlace_109 ?_
              refine g_aload_n X dX11_leastPlace_110 rfl 0 rfl ?_
              refine g_getr X fa_X11_10 rfl rfl dX11_leastPlace_111 ?_
              refine g_getr X fa_X11_155 rfl rfl dX11_leastPlace_114 ?_
              refine g_iconst (v := 1) X dX11_leastPlace_117 (by decide) ?_
              refine g_ild X rfl rfl dX11_leastPlace_118 (fun v14 => ?_)
              refine g_iadd X dX11_leastPlace_119 ?_
              refine g_is X (fun v15 => [(5, .int v15), (0, .ref 1), (1, .ref x1), (2, .ref x2), (3, .int x3), (4, .int x4)]) dX11_leastPlace_120 (by decide) (fun _ => rfl) (fun v15 => ?_)
              refine g_iload_n X dX11_leastPlace_122 rfl 4 rfl ?_
              refine g_iconst (v := (-1)) X dX11_leastPlace_123 (by decide) ?_
              refine g_icmp_eq X 133 dX11_leastPlace_124 rfl (fun h16 => ?_) (fun h16 => ?_)
              · exact g_sub [1, 2, 3, 4, 5, 0] rfl (hb_133 (b_X11_leastPlace_29 c nf) ih x1 x2 x3 x4 v15 M)
              · refine g_iload X dX11_leastPlace_127 0 rfl ?_
                refine g_iload_n X dX11_leastPlace_129 rfl 4 rfl ?_
                refine g_icmp_ge X 157 dX11_leastPlace_130 rfl (fun h17 => ?_) (fun h17 => ?_)
                · exact g_sub [1, 2, 3, 4, 5] rfl (hb_157 (b_X11_leastPlace_29 c nf) ih x1 x2 x3 x4 M)
                · exact g_sub [1, 2, 3, 4, 5, 0] rfl (hb_133 (b_X11_leastPlace_29 c nf) ih x1 x2 x3 x4 v15 M)
            · refine g_goto X 157 dX11_leastPlace_76 rfl ?_
              exact g_sub [0, 1, 2, 3, 4] rfl (hb_157 (b_X11_leastPlace_29 c nf) ih x1 x2 x3 x4 M)
  have hb_25 : ∀ (x1 : Nat) (x2 : Nat) (s0 : Int32) (M : q_MM), GG p l e { frames := 8, cells := 0, slots := 0, locals := 190 } s m args below meth c0 K A ((qTX c), (qLX c), (qPX c), M0) ad false 6 (fun res => MQ below (q_Qc K false ad ((qTX c), (qLX c), (qPX c), M0) ((fun (res : Int32 × q_MM) => some (.int res.1)) res) ((fun (res : Int32 × q_MM) => ((qTX c), (qLX c), (qPX c), res.2)) res) A) args s 0 0 A) (b_X11_leastPlace_25 c x1 x2 s0 M) 25 [(0, .ref 1), (1, .ref x1), (2, .ref x2)] [.int s0] ((qTX c), (qLX c), (qPX c), M) 0 0 := by
    intro x1 x2 s0 M
    unfold b_X11_leastPlace_25
    refine g_istore_n X [(3, .int s0), (0, .ref 1), (1, .ref x1), (2, .ref x2)] dX11_leastPlace_25 rfl (by decide) rfl ?_
    refine g_iconst (v := 0) X dX11_leastPlace_26 (by decide) ?_
    refine g_istore X [(4, .int 0), (3, .int s0), (0, .ref 1), (1, .ref x1), (2, .ref x2)] dX11_leastPlace_27 (by decide) rfl ?_
    exact g_sub [2, 3, 4, 1, 0] rfl (hb_29 q_fu x1 x2 s0 0 M)
  refine g_sub (lv' := [(0, .ref 1), (1, .ref a1), (2, .ref a2)]) [0, 1, 2] rfl ?_
  unfold f_X11_leastPlace
  refine g_aload_n X dX11_leastPlace_0 rfl 0 rfl ?_
  refine g_getr X fa_X11_21 rfl rfl dX11_leastPlace_1 ?_
  refine g_aload_n X dX11_leastPlace_4 rfl 0 rfl ?_
  refine g_getr X fa_X11_10 rfl rfl dX11_leastPlace_5 ?_
  refine g_getr X fa_X11_223 rfl rfl dX11_leastPlace_8 ?_
  refine g_aload_n X dX11_leastPlace_11 rfl 1 rfl ?_
  refine g_aload_n X dX11_leastPlace_12 rfl 2 rfl ?_
  refine g_iconst (v := 0) X dX11_leastPlace_13 (by decide) ?_
  refine g_bVi (As := [.ref 21, .ref a1, .ref a2, .int 0]) (rest := []) X (c_X9_unfit l K c M0 21 a1 a2 0) lk_X11_234 rfl rfl rfl (Nat.le_of_ble_eq_true rfl) ⟨Nat.le_of_ble_eq_true rfl, Nat.le_of_ble_eq_true rfl⟩ ⟨Nat.zero_le _, Nat.zero_le _⟩ dX11_leastPlace_14 (fun r18 => ?_)
  refine g_if_ne X 24 dX11_leastPlace_17 rfl (fun h19 => ?_) (fun h19 => ?_)
  · refine g_iconst (v := 0) X dX11_leastPlace_20 (by decide) ?_
    refine g_goto X 25 dX11_leastPlace_21 rfl ?_
    exact g_sub [0, 1, 2] rfl (hb_25 a1 a2 0 r18.2)
  · refine g_iconst (v := (-1)) X dX11_leastPlace_24 (by decide) ?_
    exact g_sub [0, 1, 2] rfl (hb_25 a1 a2 (-1) r18.2)
set_option maxHeartbeats 4000000 in
set_option maxRecDepth 100000 in
theorem c_X11_places (l : Launch) (K : q_KK) (c : Nat → Nat) (M0 : q_MM) (a1 : Int32) : ∀ res, f_X11_places c M0 a1 = some res → Mt l yX11_places cX11_places 5 (some FieldType.int) 9 215 0 0 false K [.ref 1, .int a1] ((qTX c), (qLX c), (qPX c), M0) (some (.int res.1)) (((qTX c), (qLX c), (qPX c), res.2)) := by
  refine Mt.of (fun (res : Int32 × q_MM) => some (.int res.1)) (fun (res : Int32 × q_MM) => ((qTX c), (qLX c), (qPX c), res.2)) (by decide) (Nat.le_of_ble_eq_true rfl) ?_
  intro p e s m args below meth c0 A ad X hN
  have hb_82 : ∀ (k24 : Nat → Int32 → q_MM → Option (Int32 × q_MM)) (hk24 : ∀ (x2 : Nat) (x3 : Int32) (M : q_MM), GG p l e { frames := 9, cells := 0, slots := 0, locals := 215 } s m args below meth c0 K A ((qTX c), (qLX c), (qPX c), M0) ad false 5 (fun res => MQ below (q_Qc K false ad ((qTX c), (qLX c), (qPX c), M0) ((fun (res : Int32 × q_MM) => some (.int res.1)) res) ((fun (res : Int32 × q_MM) => ((qTX c), (qLX c), (qPX c), res.2)) res) A) args s 0 0 A) (k24 x2 x3 M) 24 [(0, .ref 1), (2, .ref x2), (3, .int x3)] [] ((qTX c), (qLX c), (qPX c), M) 0 0) (x2 : Nat) (x3 : Int32) (M : q_MM), GG p l e { frames := 9, cells := 0, slots := 0, locals := 215 } s m args below meth c0 K A ((qTX c), (qLX c), (qPX c), M0) ad false 5 (fun res => MQ below (q_Qc K false ad ((qTX c), (qLX c), (qPX c), M0) ((fun (res : Int32 × q_MM) => some (.int res.1)) res) ((fun (res : Int32 × q_MM) => ((qTX c), (qLX c), (qPX c), res.2)) res) A) args s 0 0 A) (b_X11_places_82 c k24 x2 x3 M) 82 [(0, .ref 1), (2, .ref x2), (3, .int x3)] [] ((qTX c), (qLX c), (qPX c), M) 0 0 := by
    intro k24 hk24 x2 x3 M
    unfold b_X11_places_82
    refine g_iinc (v := 1) X [(3, .int (x3 + 1)), (0, .ref 1), (2, .ref x2)] 2 dX11_places_82 rfl (by decide) (by decide) rfl ?_
    refine g_goto X 24 dX11_places_85 rfl ?_
    exact g_sub [1, 2, 0] rfl (hk24 x2 (x3 + 1) M)
  have hb_24 : ∀ (nf : Nat) (x2 : Nat) (x3 : Int32) (M : q_MM), GG p l e { frames := 9, cells := 0, slots := 0, locals := 215 } s m args below meth c0 K A ((qTX c), (qLX c), (qPX c), M0) ad false 5 (fun res => MQ below (q_Qc K false ad ((qTX c), (qLX c), (qPX c), M0) ((fun (res : Int32 × q_MM) => some (.int res.1)) res) ((fun (res : Int32 × q_MM) => ((qTX c), (qLX c), (qPX c), res.2)) res) A) args s 0 0 A) (b_X11_places_24 c nf x2 x3 M) 24 [(0, .ref 1), (2, .ref x2), (3, .int x3)] [] ((qTX c), (qLX c), (qPX c), M) 0 0 := by
    intro  nf
    induction nf with
    | zero => intros; exact g_stop
    | succ nf ih =>
      intro x2 x3 M
      rw [b_X11_places_24]
      refine g_iload_n X dX11_places_24 rfl 2 rfl ?_
      refine g_aload_n X dX11_places_25 rfl 0 rfl ?_
      refine g_getr X fa_X11_10 rfl rfl dX11_places_26 ?_
      refine g_getr X fa_X11_105 rfl rfl dX11_places_29 ?_
      refine g_bVi (As := []) (rest := [.int x3]) X (c_Jx4a65c_size_8abf5 l K (qTX c) (qLX c) (qPX c) M 14) lk_X11_90 rfl rfl rfl (Nat.le_of_ble_eq_true rfl) ⟨Nat.le_of_ble_eq_true rfl, Nat.le_of_ble_eq_true rfl⟩ ⟨Nat.zero_le _, Nat.zero_le _⟩ dX11_places_32 (fun r1 => ?_)
      refine g_icmp_ge X 88 dX11_places_35 rfl (fun h2 => ?_) (fun h2 => ?_)
      · refine g_aload_n X dX11_places_88 rfl 0 rfl ?_
        refine g_getr X fa_X11_44 rfl rfl dX11_places_89 ?_
        refine g_geti X fa_X11_205 rfl dX11_places_92 ?_
        refine g_iconst (v := 2) X dX11_places_95 (by decide) ?_
        refine g_idiv X dX11_places_96 ?_
        exact g_iret X rfl rfl rfl dX11_places_97
      · refine g_aload_n X dX11_places_38 rfl 0 rfl ?_
        refine g_aload_n X dX11_places_39 rfl 1 rfl ?_
        refine g_aload_n X dX11_places_40 rfl 0 rfl ?_
        refine g_getr X fa_X11_10 rfl rfl dX11_places_41 ?_
        refine g_getr X fa_X11_105 rfl rfl dX11_places_44 ?_
        refine g_iload_n X dX11_places_47 rfl 2 rfl ?_
        refine g_bVr (As := [.int x3]) (rest := [.ref x2, .ref 1]) X (c_Jx4a65c_get_915e3 l K (qTX c) (qLX c) (qPX c) M 14 x3) lk_X11_272 rfl rfl rfl (Nat.le_of_ble_eq_true rfl) ⟨Nat.le_of_ble_eq_true rfl, Nat.le_of_ble_eq_true rfl⟩ ⟨Nat.zero_le _, Nat.zero_le _⟩ dX11_places_48 (fun r3 => ?_)
        refine g_ck (fun hT4 => ?_)
        refine g_cast X (ci := 10) rfl wl_X11_108 hT4 dX11_places_51 ?_
        refine g_bVi (As := [.ref x2, .ref r3]) (rest := []) X (c_X11_leastPlace l K c M x2 r3) lk_X11_276 rfl rfl rfl (Nat.le_of_ble_eq_true rfl) ⟨Nat.le_of_ble_eq_true rfl, Nat.le_of_ble_eq_true rfl⟩ ⟨Nat.zero_le _, Nat.zero_le _⟩ dX11_places_54 (fun r5 => ?_)
        refine g_is X (fun v6 => [(4, .int v6), (0, .ref 1), (2, .ref x2), (3, .int x3)]) dX11_places_57 (by decide) (fun _ => rfl) (fun v6 => ?_)
        refine g_iload X dX11_places_59 0 rfl ?_
        refine g_iconst (v := (-1)) X dX11_places_61 (by decide) ?_
        refine g_icmp_eq X 82 dX11_places_62 rfl (fun h7 => ?_) (fun h7 => ?_)
        · exact g_sub [1, 2, 3] rfl (hb_82 (b_X11_places_24 c nf) ih x2 x3 r5.2)
        · refine g_aload_n X dX11_places_65 rfl 1 rfl ?_
          refine g_getr X fa_X11_44 rfl rfl dX11_places_66 ?_
          refine g_iload_n X dX11_places_69 rfl 3 rfl ?_
          refine g_bVv (As := [.int x3]) (rest := []) X (c_X4_add l K c r5.2 6 x3) lk_X11_207 rfl rfl rfl (Nat.le_of_ble_eq_true rfl) ⟨Nat.le_of_ble_eq_true rfl, Nat.le_of_ble_eq_true rfl⟩ ⟨Nat.zero_le _, Nat.zero_le _⟩ dX11_places_70 (fun r8 => ?_)
          refine g_aload_n X dX11_places_73 rfl 1 rfl ?_
          refine g_getr X fa_X11_44 rfl rfl dX11_places_74 ?_
          refine g_iload X dX11_places_77 0 rfl ?_
          refine g_bVv (As := [.int v6]) (rest := []) X (c_X4_add l K c r8 6 v6) lk_X11_207 rfl rfl rfl (Nat.le_of_ble_eq_true rfl) ⟨Nat.le_of_ble_eq_true rfl, Nat.le_of_ble_eq_true rfl⟩ ⟨Nat.zero_le _, Nat.zero_le _⟩ dX11_places_79 (fun r9 => ?_)
          exact g_sub [1, 2, 3] rfl (hb_82 (b_X11_places_24 c nf) ih x2 x3 r9)
  refine g_sub (lv' := [(0, .ref 1), (1, .int a1)]) [0, 1] rfl ?_
  unfold f_X11_places
  refine g_aload_n X dX11_places_0 rfl 0 rfl ?_
  refine g_getr X fa_X11_10 rfl rfl dX11_places_1 ?_
  refine g_iload_n X dX11_places_4 rfl 1 rfl ?_
  refine g_bVr (As := [.int a1]) (rest := []) X (c_X2_present l K c M0 a1) lk_X11_231 rfl rfl rfl (Nat.le_of_ble_eq_true rfl) ⟨Nat.le_of_ble_eq_true rfl, Nat.le_of_ble_eq_true rfl⟩ ⟨Nat.zero_le _, Nat.zero_le _⟩ dX11_places_5 (fun r10 => ?_)
  refine g_astore_n X [(2, .ref r10), (0, .ref 1), (1, .int a1)] dX11_places_8 rfl (by decide) rfl ?_
  refine g_aload_n X dX11_places_9 rfl 0 rfl ?_
  refine g_ifnonnull X 15 dX11_places_10 rfl (fun h11 => ?_) (fun h11 => ?_)
  · refine g_iconst (v := (-1)) X dX11_places_13 (by decide) ?_
    exact g_iret X rfl rfl rfl dX11_places_14
  · refine g_aload_n X dX11_places_15 rfl 1 rfl ?_
    refine g_getr X fa_X11_44 rfl rfl dX11_places_16 ?_
    refine g_bVv (As := []) (rest := []) X (c_X4_clear l K c M0 6) lk_X11_216 rfl rfl rfl (Nat.le_of_ble_eq_true rfl) ⟨Nat.le_of_ble_eq_true rfl, Nat.le_of_ble_eq_true rfl⟩ ⟨Nat.zero_le _, Nat.zero_le _⟩ dX11_places_19 (fun r12 => ?_)
    refine g_iconst (v := 0) X dX11_places_22 (by decide) ?_
    refine g_istore_n X [(3, .int 0), (2, .ref r10), (0, .ref 1), (1, .int a1)] dX11_places_23 rfl (by decide) rfl ?_
    exact g_sub [2, 1, 0] rfl (hb_24 q_fu r10 0 r12)
set_option maxHeartbeats 4000000 in
set_option maxRecDepth 100000 in
theorem c_X11_of (l : Launch) (K : q_KK) (c : Nat → Nat) (M : q_MM) (a1 : Int32) (a2 : Int32) : ∀ res, f_X11_of c M a1 a2 = some res → Mt l yX11_of cX11_of 4 (some FieldType.int) 4 87 0 0 false K [.ref 1, .int a1, .int a2] ((qTX c), (qLX c), (qPX c), M) (some (.int res)) (((qTX c), (qLX c), (qPX c), M)) := by
  refine Mt.of (fun (res : Int32) => some (.int res)) (fun (_ : Int32) => ((qTX c), (qLX c), (qPX c), M)) (by decide) (Nat.le_of_ble_eq_true rfl) ?_
  intro p e s m args below meth c0 A ad X hN
  refine g_sub (lv' := [(0, .ref 1), (1, .int a1), (2, .int a2)]) [0, 1, 2] rfl ?_
  unfold f_X11_of
  refine g_aload_n X dX11_of_0 rfl 0 rfl ?_
  refine g_getr X fa_X11_10 rfl rfl dX11_of_1 ?_
  refine g_iload_n X dX11_of_4 rfl 1 rfl ?_
  refine g_bVr (As := [.int a1]) (rest := []) X (c_X2_wallAt l K c M a1) lk_X11_125 rfl rfl rfl (Nat.le_of_ble_eq_true rfl) ⟨Nat.le_of_ble_eq_true rfl, Nat.le_of_ble_eq_true rfl⟩ ⟨Nat.zero_le _, Nat.zero_le _⟩ dX11_of_5 (fun r1 => ?_)
  refine g_astore_n X [(3, .ref r1), (0, .ref 1), (1, .int a1), (2, .int a2)] dX11_of_8 rfl (by decide) rfl ?_
  refine g_aload_n X dX11_of_9 rfl 0 rfl ?_
  refine g_ifnonnull X 15 dX11_of_10 rfl (fun h2 => ?_) (fun h2 => ?_)
  · refine g_iconst (v := (-1)) X dX11_of_13 (by decide) ?_
    exact g_iret X rfl rfl rfl dX11_of_14
  · refine g_iload_n X dX11_of_15 rfl 3 rfl ?_
    refine g_case (fun h3 => ?_) (fun h3 => ?_)
    · refine g_tin (off := 32) X 48 h3 dX11_of_16 (by decide) (by decide) (by decide) rfl ?_
      refine g_aload_n X dX11_of_48 rfl 1 rfl ?_
      refine g_getr X fa_X11_10 rfl rfl dX11_of_49 ?_
      refine g_aload_n X dX11_of_52 rfl 0 rfl ?_
      refine g_bVi (As := [.ref r1]) (rest := []) X (c_X2_daylight l K c M r1) lk_X11_141 rfl rfl rfl (Nat.le_of_ble_eq_true rfl) ⟨Nat.le_of_ble_eq_true rfl, Nat.le_of_ble_eq_true rfl⟩ ⟨Nat.zero_le _, Nat.zero_le _⟩ dX11_of_53 (fun r4 => ?_)
      exact g_iret X rfl rfl rfl dX11_of_56
    · refine g_case (fun h5 => ?_) (fun h5 => ?_)
      · refine g_tin (off := 41) X 57 h5 dX11_of_16 (by decide) (by decide) (by decide) rfl ?_
        refine g_aload_n X dX11_of_57 rfl 1 rfl ?_
        refine g_getr X fa_X11_10 rfl rfl dX11_of_58 ?_
        refine g_aload_n X dX11_of_61 rfl 0 rfl ?_
        refine g_bVi (As := [.ref r1]) (rest := []) X (c_X2_peak l K c M r1) lk_X11_280 rfl rfl rfl (Nat.le_of_ble_eq_true rfl) ⟨Nat.le_of_ble_eq_true rfl, Nat.le_of_ble_eq_true rfl⟩ ⟨Nat.zero_le _, Nat.zero_le _⟩ dX11_of_62 (fun r6 => ?_)
        exact g_iret X rfl rfl rfl dX11_of_65
      · refine g_case (fun h7 => ?_) (fun h7 => ?_)
        · refine g_tin (off := 50) X 66 h7 dX11_of_16 (by decide) (by decide) (by decide) rfl ?_
          refine g_aload_n X dX11_of_66 rfl 1 rfl ?_
          refine g_getr X fa_X11_10 rfl rfl dX11_of_67 ?_
          refine g_aload_n X dX11_of_70 rfl 0 rfl ?_
          refine g_bVi (As := [.ref r1]) (rest := []) X (c_X2_weightOn l K c M r1) lk_X11_283 rfl rfl rfl (Nat.le_of_ble_eq_true rfl) ⟨Nat.le_of_ble_eq_true rfl, Nat.le_of_ble_eq_true rfl⟩ ⟨Nat.zero_le _, Nat.zero_le _⟩ dX11_of_71 (fun r8 => ?_)
          exact g_iret X rfl rfl rfl dX11_of_74
        · refine g_case (fun h9 => ?_) (fun h9 => ?_)
          · refine g_tin (off := 59) X 75 h9 dX11_of_16 (by decide) (by decide) (by decide) rfl ?_
            refine g_aload_n X dX11_of_75 rfl 0 rfl ?_
            refine g_ck (fun hT10 => ?_)
            refine g_geti X fa_X11_113 hT10 dX11_of_76 ?_
            refine g_aload_n X dX11_of_79 rfl 1 rfl ?_
            refine g_getr X fa_X11_10 rfl rfl dX11_of_80 ?_
            refine g_aload_n X dX11_of_83 rfl 0 rfl ?_
            refine g_bVi (As := [.ref r1]) (rest := [.int (M r1 2)]) X (c_X2_widthOn l K c M r1) lk_X11_286 rfl rfl rfl (Nat.le_of_ble_eq_true rfl) ⟨Nat.le_of_ble_eq_true rfl, Nat.le_of_ble_eq_true rfl⟩ ⟨Nat.zero_le _, Nat.zero_le _⟩ dX11_of_84 (fun r11 => ?_)
            refine g_isub X dX11_of_87 ?_
            exact g_iret X rfl rfl rfl dX11_of_88
          · refine g_tdef X [0, 1, 2, 3] 89 (List.forall_mem_cons.mpr ⟨h3, (List.forall_mem_cons.mpr ⟨h5, (List.forall_mem_cons.mpr ⟨h7, (List.forall_mem_cons.mpr ⟨h9, (fun _ z => nomatch z)⟩)⟩)⟩)⟩) dX11_of_16 (by decide) rfl ?_
            refine g_iconst (v := (-1)) X dX11_of_89 (by decide) ?_
            exact g_iret X rfl rfl rfl dX11_of_90
set_option maxHeartbeats 4000000 in
set_option maxRecDepth 100000 in
theorem c_X11_step (l : Launch) (K : q_KK) (c : Nat → Nat) (M0 : q_MM) (a1 : Int32) : ∀ res, f_X11_step c M0 a1 = some res → Mt l yX11_step cX11_step 3 (some FieldType.int) 6 129 0 0 false K [.ref 1, .int a1] ((qTX c), (qLX c), (qPX c), M0) (some (.int res.1)) (((qTX c), (qLX c), (qPX c), res.2)) := by
  refine Mt.of (fun (res : Int32 × q_MM) => some (.int res.1)) (fun (res : Int32 × q_MM) => ((qTX c), (qLX c), (qPX c), res.2)) (by decide) (Nat.le_of_ble_eq_true rfl) ?_
  intro p e s m args below meth c0 A ad X hN
  have hb_29 : ∀ (nf : Nat) (x1 : Int32) (x2 : Int32) (M : q_MM), GG p l e { frames := 6, cells := 0, slots := 0, locals := 129 } s m args below meth c0 K A ((qTX c), (qLX c), (qPX c), M0) ad false 3 (fun res => MQ below (q_Qc K false ad ((qTX c), (qLX c), (qPX c), M0) ((fun (res : Int32 × q_MM) => some (.int res.1)) res) ((fun (res : Int32 × q_MM) => ((qTX c), (qLX c), (qPX c), res.2)) res) A) args s 0 0 A) (b_X11_step_29 c nf x1 x2 M) 29 [(0, .ref 1), (1, .int x1), (2, .int x2)] [] ((qTX c), (qLX c), (qPX c), M) 0 0 := by
    intro  nf
    induction nf with
    | zero => intros; exact g_stop
    | succ nf ih =>
      intro x1 x2 M
      rw [b_X11_step_29]
      refine g_iload_n X dX11_step_29 rfl 2 rfl ?_
      refine g_iload_n X dX11_step_30 rfl 1 rfl ?_
      refine g_icmp_ge X 47 dX11_step_31 rfl (fun h1 => ?_) (fun h1 => ?_)
      · refine g_aload_n X dX11_step_47 rfl 0 rfl ?_
        refine g_getr X fa_X11_10 rfl rfl dX11_step_48 ?_
        refine g_geti X fa_X11_289 rfl dX11_step_51 ?_
        exact g_iret X rfl rfl rfl dX11_step_54
      · refine g_aload_n X dX11_step_34 rfl 0 rfl ?_
        refine g_getr X fa_X11_10 rfl rfl dX11_step_35 ?_
        refine g_bVv (As := []) (rest := []) X (c_X2_pass l K c M) lk_X11_292 rfl rfl rfl (Nat.le_of_ble_eq_true rfl) ⟨Nat.le_of_ble_eq_true rfl, Nat.le_of_ble_eq_true rfl⟩ ⟨Nat.zero_le _, Nat.zero_le _⟩ dX11_step_38 (fun r2 => ?_)
        refine g_iinc (v := 1) X [(2, .int (x2 + 1)), (0, .ref 1), (1, .int x1)] 2 dX11_step_41 rfl (by decide) (by decide) rfl ?_
        refine g_goto X 29 dX11_step_44 rfl ?_
        exact g_sub [1, 2, 0] rfl (ih x1 (x2 + 1) r2)
  refine g_sub (lv' := [(0, .ref 1), (1, .int a1)]) [0, 1] rfl ?_
  unfold f_X11_step
  refine g_iload_n X dX11_step_0 rfl 1 rfl ?_
  refine g_iconst (v := 0) X dX11_step_1 (by decide) ?_
  refine g_bipush (v := 100) X dX11_step_2 (by decide) ?_
  refine g_bSi (As := [.int a1, .int 0, .int 100]) (rest := []) X (c_X11_within l K c M0 a1 0 100) lk_X11_82 rfl rfl (Nat.le_of_ble_eq_true rfl) ⟨Nat.le_of_ble_eq_true rfl, Nat.le_of_ble_eq_true rfl⟩ ⟨Nat.zero_le _, Nat.zero_le _⟩ dX11_step_4 (fun r3 => ?_)
  refine g_if_eq X 25 dX11_step_7 rfl (fun h4 => ?_) (fun h4 => ?_)
  · refine g_iconst (v := (-1)) X dX11_step_25 (by decide) ?_
    exact g_iret X rfl rfl rfl dX11_step_26
  · refine g_iload_n X dX11_step_10 rfl 1 rfl ?_
    refine g_sipush (v := 400) X dX11_step_11 (by decide) ?_
    refine g_aload_n X dX11_step_14 rfl 0 rfl ?_
    refine g_getr X fa_X11_10 rfl rfl dX11_step_15 ?_
    refine g_geti X fa_X11_289 rfl dX11_step_18 ?_
    refine g_isub X dX11_step_21 ?_
    refine g_icmp_le X 27 dX11_step_22 rfl (fun h5 => ?_) (fun h5 => ?_)
    · refine g_iconst (v := 0) X dX11_step_27 (by decide) ?_
      refine g_istore_n X [(2, .int 0), (0, .ref 1), (1, .int a1)] dX11_step_28 rfl (by decide) rfl ?_
      exact g_sub [1, 2, 0] rfl (hb_29 q_fu a1 0 M0)
    · refine g_iconst (v := (-1)) X dX11_step_25 (by decide) ?_
      exact g_iret X rfl rfl rfl dX11_step_26
set_option maxHeartbeats 4000000 in
set_option maxRecDepth 100000 in
theorem c_X11_fades (l : Launch) (K : q_KK) (c : Nat → Nat) (M : q_MM) (a1 : Int32) : ∀ res, f_X11_fades c M a1 = some res → Mt l yX11_fades cX11_fades 6 (some FieldType.int) 5 106 0 0 false K [.ref 1, .int a1] ((qTX c), (qLX c), (qPX c), M) (some (.int res)) (((qTX c), (qLX c), (qPX c), M)) := by
  refine Mt.of (fun (res : Int32) => some (.int res)) (fun (_ : Int32) => ((qTX c), (qLX c), (qPX c), M)) (by decide) (Nat.le_of_ble_eq_true rfl) ?_
  intro p e s m args below meth c0 A ad X hN
  have hb_25 : ∀ (x2 : Nat) (s0 : Nat), GG p l e { frames := 5, cells := 0, slots := 0, locals := 106 } s m args below meth c0 K A ((qTX c), (qLX c), (qPX c), M) ad false 6 (fun res => MQ below (q_Qc K false ad ((qTX c), (qLX c), (qPX c), M) ((fun (res : Int32) => some (.int res)) res) ((fun (_ : Int32) => ((qTX c), (qLX c), (qPX c), M)) res) A) args s 0 0 A) (b_X11_fades_25 c M x2 s0) 25 [(0, .ref 1), (2, .ref x2)] [.ref s0] ((qTX c), (qLX c), (qPX c), M) 0 0 := by
    intro x2 s0
    unfold b_X11_fades_25
    refine g_astore_n X [(3, .ref s0), (0, .ref 1), (2, .ref x2)] dX11_fades_25 rfl (by decide) rfl ?_
    refine g_aload_n X dX11_fades_26 rfl 2 rfl ?_
    refine g_ifnull X 34 dX11_fades_27 rfl (fun h1 => ?_) (fun h1 => ?_)
    · refine g_iconst (v := (-1)) X dX11_fades_34 (by decide) ?_
      exact g_iret X rfl rfl rfl dX11_fades_35
    · refine g_aload_n X dX11_fades_30 rfl 0 rfl ?_
      refine g_ifnonnull X 36 dX11_fades_31 rfl (fun h2 => ?_) (fun h2 => ?_)
      · refine g_iconst (v := (-1)) X dX11_fades_34 (by decide) ?_
        exact g_iret X rfl rfl rfl dX11_fades_35
      · refine g_aload_n X dX11_fades_36 rfl 2 rfl ?_
        refine g_ck (fun hT3 => ?_)
        refine g_geti X fa_X11_258 hT3 dX11_fades_37 ?_
        refine g_aload_n X dX11_fades_40 rfl 2 rfl ?_
        refine g_geti X fa_X11_199 hT3 dX11_fades_41 ?_
        refine g_icmp_le X 55 dX11_fades_44 rfl (fun h4 => ?_) (fun h4 => ?_)
        · refine g_aload_n X dX11_fades_55 rfl 1 rfl ?_
          refine g_getr X fa_X11_10 rfl rfl dX11_fades_56 ?_
          refine g_aload_n X dX11_fades_59 rfl 0 rfl ?_
          refine g_bVi (As := [.ref s0]) (rest := []) X (c_X2_daylight l K c M s0) lk_X11_141 rfl rfl rfl (Nat.le_of_ble_eq_true rfl) ⟨Nat.le_of_ble_eq_true rfl, Nat.le_of_ble_eq_true rfl⟩ ⟨Nat.zero_le _, Nat.zero_le _⟩ dX11_fades_60 (fun r5 => ?_)
          refine g_istore X [(4, .int r5), (3, .ref s0), (0, .ref 1), (2, .ref x2)] dX11_fades_63 (by decide) rfl ?_
          refine g_iload X dX11_fades_65 0 rfl ?_
          refine g_if_gt X 72 dX11_fades_67 rfl (fun h6 => ?_) (fun h6 => ?_)
          · refine g_aload_n X dX11_fades_72 rfl 2 rfl ?_
            refine g_getr X fa_X11_10 rfl rfl dX11_fades_73 ?_
            refine g_geti X fa_X11_289 rfl dX11_fades_76 ?_
            refine g_aload_n X dX11_fades_79 rfl 3 rfl ?_
            refine g_geti X fa_X11_199 hT3 dX11_fades_80 ?_
            refine g_aload_n X dX11_fades_83 rfl 3 rfl ?_
            refine g_geti X fa_X11_258 hT3 dX11_fades_84 ?_
            refine g_isub X dX11_fades_87 ?_
            refine g_iload X dX11_fades_88 0 rfl ?_
            refine g_idiv X dX11_fades_90 ?_
            refine g_iadd X dX11_fades_91 ?_
            refine g_is X (fun v7 => [(5, .int v7), (4, .int r5), (3, .ref s0), (0, .ref 1), (2, .ref x2)]) dX11_fades_92 (by decide) (fun _ => rfl) (fun v7 => ?_)
            refine g_iload X dX11_fades_94 0 rfl ?_
            refine g_sipush (v := 400) X dX11_fades_96 (by decide) ?_
            refine g_icmp_ge X 107 dX11_fades_99 rfl (fun h8 => ?_) (fun h8 => ?_)
            · refine g_iconst (v := (-1)) X dX11_fades_107 (by decide) ?_
              exact g_iret X rfl rfl rfl dX11_fades_108
            · refine g_iload X dX11_fades_102 0 rfl ?_
              refine g_goto X 108 dX11_fades_104 rfl ?_
              exact g_iret X rfl rfl rfl dX11_fades_108
          · refine g_iconst (v := (-1)) X dX11_fades_70 (by decide) ?_
            exact g_iret X rfl rfl rfl dX11_fades_71
        · refine g_aload_n X dX11_fades_47 rfl 1 rfl ?_
          refine g_getr X fa_X11_10 rfl rfl dX11_fades_48 ?_
          refine g_geti X fa_X11_289 rfl dX11_fades_51 ?_
          exact g_iret X rfl rfl rfl dX11_fades_54
  refine g_sub (lv' := [(0, .ref 1), (1, .int a1)]) [0, 1] rfl ?_
  unfold f_X11_fades
  refine g_aload_n X dX11_fades_0 rfl 0 rfl ?_
  refine g_getr X fa_X11_10 rfl rfl dX11_fades_1 ?_
  refine g_iload_n X dX11_fades_4 rfl 1 rfl ?_
  refine g_bVr (As := [.int a1]) (rest := []) X (c_X2_pictureAt l K c M a1) lk_X11_184 rfl rfl rfl (Nat.le_of_ble_eq_true rfl) ⟨Nat.le_of_ble_eq_true rfl, Nat.le_of_ble_eq_true rfl⟩ ⟨Nat.zero_le _, Nat.zero_le _⟩ dX11_fades_5 (fun r9 => ?_)
  refine g_astore_n X [(2, .ref r9), (0, .ref 1), (1, .int a1)] dX11_fades_8 rfl (by decide) rfl ?_
  refine g_aload_n X dX11_fades_9 rfl 0 rfl ?_
  refine g_ifnonnull X 17 dX11_fades_10 rfl (fun h10 => ?_) (fun h10 => ?_)
  · refine g_null X dX11_fades_13 ?_
    refine g_goto X 25 dX11_fades_14 rfl ?_
    exact g_sub [1, 0] rfl (hb_25 r9 0)
  · refine g_aload_n X dX11_fades_17 rfl 1 rfl ?_
    refine g_getr X fa_X11_10 rfl rfl dX11_fades_18 ?_
    refine g_aload_n X dX11_fades_21 rfl 0 rfl ?_
    refine g_bVr (As := [.ref r9]) (rest := []) X (c_X2_wallOf l K c M r9) lk_X11_295 rfl rfl rfl (Nat.le_of_ble_eq_true rfl) ⟨Nat.le_of_ble_eq_true rfl, Nat.le_of_ble_eq_true rfl⟩ ⟨Nat.zero_le _, Nat.zero_le _⟩ dX11_fades_22 (fun r11 => ?_)
    exact g_sub [1, 0] rfl (hb_25 r9 r11)
