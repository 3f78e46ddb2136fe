set_option maxHeartbeats 4000000 in
set_option maxRecDepth 100000 in
theorem c_X12_areFoes (l : Launch) (K : q_KK) (M : q_MM) (a1 : Int32) (a2 : Int32) : ∀ res, f_X12_areFoes M a1 a2 = some res → Mt l yX12_areFoes cX12_areFoes 3 (some FieldType.boolean) 0 0 0 0 false K [.ref 5001, .int a1, .int a2] (qTM, qLM, qPM, M) (some (.int res)) ((qTM, qLM, qPM, M)) := by
  refine Mt.of (fun (res : Int32) => some (.int res)) (fun (_ : Int32) => (qTM, qLM, qPM, M)) (by decide) (Nat.le_of_ble_eq_true rfl) ?_
  intro p e s m args below meth c0 A ad X hN
  have hb_20 : GG p l e { frames := 0, cells := 0, slots := 0, locals := 0 } s m args below meth c0 K A (qTM, qLM, qPM, M) ad false 3 (fun res => MQ below (q_Qc K false ad (qTM, qLM, qPM, M) ((fun (res : Int32) => some (.int res)) res) ((fun (_ : Int32) => (qTM, qLM, qPM, M)) res) A) args s 0 0 A) (b_X12_areFoes_20 M ) 20 [] [] (qTM, qLM, qPM, M) 0 0 := by
    unfold b_X12_areFoes_20
    refine g_iconst (v := 1) X dX12_areFoes_20 (by decide) ?_
    refine g_goto X 25 dX12_areFoes_21 rfl ?_
    exact g_zret X rfl rfl rfl dX12_areFoes_25
  refine g_sub (lv' := [(0, .ref 5001), (1, .int a1), (2, .int a2)]) [0, 1, 2] rfl ?_
  unfold f_X12_areFoes
  refine g_aload_n X dX12_areFoes_0 rfl 0 rfl ?_
  refine g_getr X fa_X12_145 rfl rfl dX12_areFoes_1 ?_
  refine g_iload_n X dX12_areFoes_4 rfl 1 rfl ?_
  refine g_ild X rfl rfl dX12_areFoes_5 (fun v1 => ?_)
  refine g_iload_n X dX12_areFoes_6 rfl 2 rfl ?_
  refine g_icmp_eq X 20 dX12_areFoes_7 rfl (fun h2 => ?_) (fun h2 => ?_)
  · exact g_sub [] rfl (hb_20)
  · refine g_aload_n X dX12_areFoes_10 rfl 0 rfl ?_
    refine g_getr X fa_X12_145 rfl rfl dX12_areFoes_11 ?_
    refine g_iload_n X dX12_areFoes_14 rfl 2 rfl ?_
    refine g_ild X rfl rfl dX12_areFoes_15 (fun v3 => ?_)
    refine g_iload_n X dX12_areFoes_16 rfl 1 rfl ?_
    refine g_icmp_ne X 24 dX12_areFoes_17 rfl (fun h4 => ?_) (fun h4 => ?_)
    · exact g_sub [] rfl (hb_20)
    · refine g_iconst (v := 0) X dX12_areFoes_24 (by decide) ?_
      exact g_zret X rfl rfl rfl dX12_areFoes_25
set_option maxHeartbeats 4000000 in
set_option maxRecDepth 100000 in
theorem c_X12_wrong (l : Launch) (K : q_KK) (M0 : q_MM) (a1 : Int32) (a2 : Int32) (a3 : Int32) (a4 : Int32) : ∀ res, f_X12_wrong M0 a1 a2 a3 a4 = some res → Mt l yX12_wrong cX12_wrong 6 (some FieldType.int) 4 100 0 0 false K [.ref 5001, .int a1, .int a2, .int a3, .int a4] (qTM, qLM, qPM, M0) (some (.int res.1)) ((qTM, qLM, qPM, res.2)) := by
  refine Mt.of (fun (res : Int32 × q_MM) => some (.int res.1)) (fun (res : Int32 × q_MM) => (qTM, qLM, qPM, res.2)) (by decide) (Nat.le_of_ble_eq_true rfl) ?_
  intro p e s m args below meth c0 A ad X hN
  have hb_131 : ∀ (x1 : Int32) (x2 : Int32) (x3 : Int32) (x4 : Int32) (M : q_MM), GG p l e { frames := 4, cells := 0, slots := 0, locals := 100 } s m args below meth c0 K A (qTM, qLM, qPM, M0) ad false 6 (fun res => MQ below (q_Qc K false ad (qTM, qLM, qPM, M0) ((fun (res : Int32 × q_MM) => some (.int res.1)) res) ((fun (res : Int32 × q_MM) => (qTM, qLM, qPM, res.2)) res) A) args s 0 0 A) (b_X12_wrong_131 x1 x2 x3 x4 M) 131 [(0, .ref 5001), (1, .int x1), (2, .int x2), (3, .int x3), (4, .int x4)] [] (qTM, qLM, qPM, M) 0 0 := by
    intro x1 x2 x3 x4 M
    unfold b_X12_wrong_131
    refine g_iload X dX12_wrong_131 4 rfl ?_
    refine g_iconst (v := 5) X dX12_wrong_133 (by decide) ?_
    refine g_icmp_le X 152 dX12_wrong_134 rfl (fun h1 => ?_) (fun h1 => ?_)
    · refine g_iconst (v := 0) X dX12_wrong_152 (by decide) ?_
      exact g_iret X rfl rfl rfl dX12_wrong_153
    · refine g_aload_n X dX12_wrong_137 rfl 0 rfl ?_
      refine g_iload_n X dX12_wrong_138 rfl 1 rfl ?_
      refine g_iload_n X dX12_wrong_139 rfl 2 rfl ?_
      refine g_iload_n X dX12_wrong_140 rfl 3 rfl ?_
      refine g_bVi (As := [.int x1, .int x2, .int x3]) (rest := []) X (c_X12_barring l K M x1 x2 x3) lk_X12_307 rfl rfl rfl (Nat.le_of_ble_eq_true rfl) ⟨Nat.le_of_ble_eq_true rfl, Nat.le_of_ble_eq_true rfl⟩ ⟨Nat.zero_le _, Nat.zero_le _⟩ dX12_wrong_141 (fun r2 => ?_)
      refine g_if_lt X 152 dX12_wrong_144 rfl (fun h3 => ?_) (fun h3 => ?_)
      · refine g_iconst (v := 0) X dX12_wrong_152 (by decide) ?_
        exact g_iret X rfl rfl rfl dX12_wrong_153
      · refine g_bipush (v := 6) X dX12_wrong_147 (by decide) ?_
        refine g_goto X 153 dX12_wrong_149 rfl ?_
        exact g_iret X rfl rfl rfl dX12_wrong_153
  have hb_125 : ∀ (k77 : Int32 → Int32 → Int32 → Int32 → Int32 → q_MM → Option (Int32 × q_MM)) (hk77 : ∀ (x1 : Int32) (x2 : Int32) (x3 : Int32) (x4 : Int32) (x5 : Int32) (M : q_MM), GG p l e { frames := 4, cells := 0, slots := 0, locals := 100 } s m args below meth c0 K A (qTM, qLM, qPM, M0) ad false 6 (fun res => MQ below (q_Qc K false ad (qTM, qLM, qPM, M0) ((fun (res : Int32 × q_MM) => some (.int res.1)) res) ((fun (res : Int32 × q_MM) => (qTM, qLM, qPM, res.2)) res) A) args s 0 0 A) (k77 x1 x2 x3 x4 x5 M) 77 [(0, .ref 5001), (1, .int x1), (2, .int x2), (3, .int x3), (4, .int x4), (5, .int x5)] [] (qTM, qLM, qPM, M) 0 0) (x1 : Int32) (x2 : Int32) (x3 : Int32) (x4 : Int32) (x5 : Int32) (M : q_MM), GG p l e { frames := 4, cells := 0, slots := 0, locals := 100 } s m args below meth c0 K A (qTM, qLM, qPM, M0) ad false 6 (fun res => MQ below (q_Qc K false ad (qTM, qLM, qPM, M0) ((fun (res : Int32 × q_MM) => some (.int res.1)) res) ((fun (res : Int32 × q_MM) => (qTM, qLM, qPM, res.2)) res) A) args s 0 0 A) (b_X12_wrong_125 k77 x1 x2 x3 x4 x5 M) 125 [(0, .ref 5001), (1, .int x1), (2, .int x2), (3, .int x3), (4, .int x4), (5, .int x5)] [] (qTM, qLM, qPM, M) 0 0 := by
    intro k77 hk77 x1 x2 x3 x4 x5 M
    unfold b_X12_wrong_125
    refine g_iinc (v := 1) X [(5, .int (x5 + 1)), (0, .ref 5001), (1, .int x1), (2, .int x2), (3, .int x3), (4, .int x4)] 5 dX12_wrong_125 rfl (by decide) (by decide) rfl ?_
    refine g_goto X 77 dX12_wrong_128 rfl ?_
    exact g_sub [1, 2, 3, 4, 5, 0] rfl (hk77 x1 x2 x3 x4 (x5 + 1) M)
  have hb_77 : ∀ (nf : Nat) (x1 : Int32) (x2 : Int32) (x3 : Int32) (x4 : Int32) (x5 : Int32) (M : q_MM), GG p l e { frames := 4, cells := 0, slots := 0, locals := 100 } s m args below meth c0 K A (qTM, qLM, qPM, M0) ad false 6 (fun res => MQ below (q_Qc K false ad (qTM, qLM, qPM, M0) ((fun (res : Int32 × q_MM) => some (.int res.1)) res) ((fun (res : Int32 × q_MM) => (qTM, qLM, qPM, res.2)) res) A) args s 0 0 A) (b_X12_wrong_77 nf x1 x2 x3 x4 x5 M) 77 [(0, .ref 5001), (1, .int x1), (2, .int x2), (3, .int x3), (4, .int x4), (5, .int x5)] [] (qTM, qLM, qPM, M) 0 0 := by
    intro  nf
    induction nf with
    | zero => intros; exact g_stop
    | succ nf ih =>
      intro x1 x2 x3 x4 x5 M
      rw [b_X12_wrong_77]
      refine g_iload X dX12_wrong_77 5 rfl ?_
      refine g_aload_n X dX12_wrong_79 rfl 0 rfl ?_
      refine g_geti X fa_X12_108 rfl dX12_wrong_80 ?_
      refine g_icmp_ge X 131 dX12_wrong_83 rfl (fun h4 => ?_) (fun h4 => ?_)
      · exact g_sub [0, 1, 2, 3, 4] rfl (hb_131 x1 x2 x3 x4 M)
      · refine g_iload X dX12_wrong_86 4 rfl ?_
        refine g_iconst (v := 4) X dX12_wrong_88 (by decide) ?_
        refine g_icmp_le X 131 dX12_wrong_89 rfl (fun h5 => ?_) (fun h5 => ?_)
        · exact g_sub [0, 1, 2, 3, 4] rfl (hb_131 x1 x2 x3 x4 M)
        · refine g_iload X dX12_wrong_92 5 rfl ?_
          refine g_iload_n X dX12_wrong_94 rfl 1 rfl ?_
          refine g_icmp_eq X 125 dX12_wrong_95 rfl (fun h6 => ?_) (fun h6 => ?_)
          · exact g_sub [0, 1, 2, 3, 4, 5] rfl (hb_125 (b_X12_wrong_77 nf) ih x1 x2 x3 x4 x5 M)
          · refine g_aload_n X dX12_wrong_98 rfl 0 rfl ?_
            refine g_iload X dX12_wrong_99 5 rfl ?_
            refine g_aload_n X dX12_wrong_101 rfl 0 rfl ?_
            refine g_getr X fa_X12_57 rfl rfl dX12_wrong_102 ?_
            refine g_iload_n X dX12_wrong_105 rfl 2 rfl ?_
            refine g_ild X rfl rfl dX12_wrong_106 (fun v7 => ?_)
            refine g_bVi (As := [.int x5, .int v7]) (rest := []) X (c_X12_isIn l K M x5 v7) lk_X12_285 rfl rfl rfl (Nat.le_of_ble_eq_true rfl) ⟨Nat.le_of_ble_eq_true rfl, Nat.le_of_ble_eq_true rfl⟩ ⟨Nat.zero_le _, Nat.zero_le _⟩ dX12_wrong_107 (fun r8 => ?_)
            refine g_if_eq X 125 dX12_wrong_110 rfl (fun h9 => ?_) (fun h9 => ?_)
            · exact g_sub [0, 1, 2, 3, 4, 5] rfl (hb_125 (b_X12_wrong_77 nf) ih x1 x2 x3 x4 x5 M)
            · refine g_aload_n X dX12_wrong_113 rfl 0 rfl ?_
              refine g_iload X dX12_wrong_114 5 rfl ?_
              refine g_iload_n X dX12_wrong_116 rfl 1 rfl ?_
              refine g_bVi (As := [.int x5, .int x1]) (rest := []) X (c_X12_areFoes l K M x5 x1) lk_X12_320 rfl rfl rfl (Nat.le_of_ble_eq_true rfl) ⟨Nat.le_of_ble_eq_true rfl, Nat.le_of_ble_eq_true rfl⟩ ⟨Nat.zero_le _, Nat.zero_le _⟩ dX12_wrong_117 (fun r10 => ?_)
              refine g_if_eq X 125 dX12_wrong_120 rfl (fun h11 => ?_) (fun h11 => ?_)
              · exact g_sub [0, 1, 2, 3, 4, 5] rfl (hb_125 (b_X12_wrong_77 nf) ih x1 x2 x3 x4 x5 M)
              · refine g_iconst (v := 5) X dX12_wrong_123 (by decide) ?_
                exact g_iret X rfl rfl rfl dX12_wrong_124
  refine g_sub (lv' := [(0, .ref 5001), (1, .int a1), (2, .int a2), (3, .int a3), (4, .int a4)]) [0, 1, 2, 3, 4] rfl ?_
  unfold f_X12_wrong
  refine g_iload_n X dX12_wrong_0 rfl 3 rfl ?_
  refine g_if_lt X 25 dX12_wrong_1 rfl (fun h12 => ?_) (fun h12 => ?_)
  · refine g_iconst (v := 1) X dX12_wrong_25 (by decide) ?_
    exact g_iret X rfl rfl rfl dX12_wrong_26
  · refine g_iload_n X dX12_wrong_4 rfl 3 rfl ?_
    refine g_i2l X dX12_wrong_5 ?_
    refine g_aload_n X dX12_wrong_6 rfl 0 rfl ?_
    refine g_getr X fa_X12_121 rfl rfl dX12_wrong_7 ?_
    refine g_iload_n X dX12_wrong_10 rfl 1 rfl ?_
    refine g_ild X rfl rfl dX12_wrong_11 (fun v13 => ?_)
    refine g_i2l X dX12_wrong_12 ?_
    refine g_ladd X dX12_wrong_13 ?_
    refine g_aload_n X dX12_wrong_14 rfl 0 rfl ?_
    refine g_getr X fa_X12_60 rfl rfl dX12_wrong_15 ?_
    refine g_iload_n X dX12_wrong_18 rfl 2 rfl ?_
    refine g_ild X rfl rfl dX12_wrong_19 (fun v14 => ?_)
    refine g_i2l X dX12_wrong_20 ?_
    refine g_lcmp X dX12_wrong_21 ?_
    refine g_if_le X 27 dX12_wrong_22 rfl (fun h15 => ?_) (fun h15 => ?_)
    · refine g_aload_n X dX12_wrong_27 rfl 0 rfl ?_
      refine g_iload_n X dX12_wrong_28 rfl 1 rfl ?_
      refine g_iload_n X dX12_wrong_29 rfl 2 rfl ?_
      refine g_bVi (As := [.int a1, .int a2]) (rest := []) X (c_X12_isHigh l K M0 a1 a2) lk_X12_310 rfl rfl rfl (Nat.le_of_ble_eq_true rfl) ⟨Nat.le_of_ble_eq_true rfl, Nat.le_of_ble_eq_true rfl⟩ ⟨Nat.zero_le _, Nat.zero_le _⟩ dX12_wrong_30 (fun r16 => ?_)
      refine g_if_ne X 38 dX12_wrong_33 rfl (fun h17 => ?_) (fun h17 => ?_)
      · refine g_iconst (v := 2) X dX12_wrong_36 (by decide) ?_
        exact g_iret X rfl rfl rfl dX12_wrong_37
      · refine g_aload_n X dX12_wrong_38 rfl 0 rfl ?_
        refine g_iload_n X dX12_wrong_39 rfl 1 rfl ?_
        refine g_iload_n X dX12_wrong_40 rfl 2 rfl ?_
        refine g_iload_n X dX12_wrong_41 rfl 3 rfl ?_
        refine g_bVi (As := [.int a1, .int a2, .int a3]) (rest := []) X (c_X12_isFree l K M0 a1 a2 a3) lk_X12_313 rfl rfl rfl (Nat.le_of_ble_eq_true rfl) ⟨Nat.le_of_ble_eq_true rfl, Nat.le_of_ble_eq_true rfl⟩ ⟨Nat.zero_le _, Nat.zero_le _⟩ dX12_wrong_42 (fun r18 => ?_)
        refine g_if_ne X 50 dX12_wrong_45 rfl (fun h19 => ?_) (fun h19 => ?_)
        · refine g_iconst (v := 3) X dX12_wrong_48 (by decide) ?_
          exact g_iret X rfl rfl rfl dX12_wrong_49
        · refine g_aload_n X dX12_wrong_50 rfl 0 rfl ?_
          refine g_iload_n X dX12_wrong_51 rfl 2 rfl ?_
          refine g_iload_n X dX12_wrong_52 rfl 1 rfl ?_
          refine g_bVi (As := [.int a2, .int a1]) (rest := []) X (c_X12_weightOn l K M0 a2 a1) lk_X12_317 rfl rfl rfl (Nat.le_of_ble_eq_true rfl) ⟨Nat.le_of_ble_eq_true rfl, Nat.le_of_ble_eq_true rfl⟩ ⟨Nat.zero_le _, Nat.zero_le _⟩ dX12_wrong_53 (fun r20 => ?_)
          refine g_aload_n X dX12_wrong_56 rfl 0 rfl ?_
          refine g_getr X fa_X12_127 rfl rfl dX12_wrong_57 ?_
          refine g_iload_n X dX12_wrong_60 rfl 1 rfl ?_
          refine g_ild X rfl rfl dX12_wrong_61 (fun v21 => ?_)
          refine g_iadd X dX12_wrong_62 ?_
          refine g_aload_n X dX12_wrong_63 rfl 0 rfl ?_
          refine g_getr X fa_X12_66 rfl rfl dX12_wrong_64 ?_
          refine g_iload_n X dX12_wrong_67 rfl 2 rfl ?_
          refine g_ild X rfl rfl dX12_wrong_68 (fun v22 => ?_)
          refine g_icmp_le X 74 dX12_wrong_69 rfl (fun h23 => ?_) (fun h23 => ?_)
          · refine g_iconst (v := 0) X dX12_wrong_74 (by decide) ?_
            refine g_istore X [(5, .int 0), (0, .ref 5001), (1, .int a1), (2, .int a2), (3, .int a3), (4, .int a4)] dX12_wrong_75 (by decide) rfl ?_
            exact g_sub [1, 2, 3, 4, 5, 0] rfl (hb_77 q_fu a1 a2 a3 a4 0 M0)
          · refine g_iconst (v := 4) X dX12_wrong_72 (by decide) ?_
            exact g_iret X rfl rfl rfl dX12_wrong_73
    · refine g_iconst (v := 1) X dX12_wrong_25 (by decide) ?_
      exact g_iret X rfl rfl rfl dX12_wrong_26
set_option maxHeartbeats 4000000 in
set_option maxRecDepth 100000 in
theorem c_X12_isHere (l : Launch) (K : q_KK) (M : q_MM) (a1 : Int32) : ∀ res, f_X12_isHere M a1 = some res → Mt l yX12_isHere cX12_isHere 2 (some FieldType.boolean) 2 46 0 0 false K [.ref 5001, .int a1] (qTM, qLM, qPM, M) (some (.int res)) ((qTM, qLM, qPM, M)) := by
  refine Mt.of (fun (res : Int32) => some (.int res)) (fun (_ : Int32) => (qTM, qLM, qPM, M)) (by decide) (Nat.le_of_ble_eq_true rfl) ?_
  intro p e s m args below meth c0 A ad X hN
  refine g_sub (lv' := [(0, .ref 5001), (1, .int a1)]) [0, 1] rfl ?_
  unfold f_X12_isHere
  refine g_aload_n X dX12_isHere_0 rfl 0 rfl ?_
  refine g_iload_n X dX12_isHere_1 rfl 1 rfl ?_
  refine g_bVi (As := [.int a1]) (rest := []) X (c_X12_isPicture l K M a1) lk_X12_161 rfl rfl rfl (Nat.le_of_ble_eq_true rfl) ⟨Nat.le_of_ble_eq_true rfl, Nat.le_of_ble_eq_true rfl⟩ ⟨Nat.zero_le _, Nat.zero_le _⟩ dX12_isHere_2 (fun r1 => ?_)
  refine g_if_eq X 22 dX12_isHere_5 rfl (fun h2 => ?_) (fun h2 => ?_)
  · refine g_iconst (v := 0) X dX12_isHere_22 (by decide) ?_
    exact g_zret X rfl rfl rfl dX12_isHere_23
  · refine g_aload_n X dX12_isHere_8 rfl 0 rfl ?_
    refine g_getr X fa_X12_170 rfl rfl dX12_isHere_9 ?_
    refine g_iload_n X dX12_isHere_12 rfl 1 rfl ?_
    refine g_ild X rfl rfl dX12_isHere_13 (fun v3 => ?_)
    refine g_iconst (v := 2) X dX12_isHere_14 (by decide) ?_
    refine g_icmp_ge X 22 dX12_isHere_15 rfl (fun h4 => ?_) (fun h4 => ?_)
    · refine g_iconst (v := 0) X dX12_isHere_22 (by decide) ?_
      exact g_zret X rfl rfl rfl dX12_isHere_23
    · refine g_iconst (v := 1) X dX12_isHere_18 (by decide) ?_
      refine g_goto X 23 dX12_isHere_19 rfl ?_
      exact g_zret X rfl rfl rfl dX12_isHere_23
set_option maxHeartbeats 4000000 in
set_option maxRecDepth 100000 in
theorem c_X12_fits (l : Launch) (K : q_KK) (M0 : q_MM) (a1 : Int32) (a2 : Int32) (a3 : Int32) : ∀ res, f_X12_fits M0 a1 a2 a3 = some res → Mt l yX12_fits cX12_fits 4 (some FieldType.int) 5 125 0 0 false K [.ref 5001, .int a1, .int a2, .int a3] (qTM, qLM, qPM, M0) (some (.int res.1)) ((qTM, qLM, qPM, res.2)) := by
  refine Mt.of (fun (res : Int32 × q_MM) => some (.int res.1)) (fun (res : Int32 × q_MM) => (qTM, qLM, qPM, res.2)) (by decide) (Nat.le_of_ble_eq_true rfl) ?_
  intro p e s m args below meth c0 A ad X hN
  refine g_sub (lv' := [(0, .ref 5001), (1, .int a1), (2, .int a2), (3, .int a3)]) [0, 1, 2, 3] rfl ?_
  unfold f_X12_fits
  refine g_aload_n X dX12_fits_0 rfl 0 rfl ?_
  refine g_iconst (v := 0) X dX12_fits_1 (by decide) ?_
  refine g_pfi X fa_X12_1 rfl (by decide +kernel) rfl dX12_fits_2 (fun M1 => ?_)
  refine g_aload_n X dX12_fits_5 rfl 0 rfl ?_
  refine g_iload_n X dX12_fits_6 rfl 1 rfl ?_
  refine g_bVi (As := [.int a1]) (rest := []) X (c_X12_isHere l K M1 a1) lk_X12_323 rfl rfl rfl (Nat.le_of_ble_eq_true rfl) ⟨Nat.le_of_ble_eq_true rfl, Nat.le_of_ble_eq_true rfl⟩ ⟨Nat.zero_le _, Nat.zero_le _⟩ dX12_fits_7 (fun r2 => ?_)
  refine g_if_eq X 33 dX12_fits_10 rfl (fun h3 => ?_) (fun h3 => ?_)
  · refine g_iconst (v := (-1)) X dX12_fits_33 (by decide) ?_
    exact g_iret X rfl rfl rfl dX12_fits_34
  · refine g_aload_n X dX12_fits_13 rfl 0 rfl ?_
    refine g_iload_n X dX12_fits_14 rfl 2 rfl ?_
    refine g_bVi (As := [.int a2]) (rest := []) X (c_X12_isWall l K M1 a2) lk_X12_90 rfl rfl rfl (Nat.le_of_ble_eq_true rfl) ⟨Nat.le_of_ble_eq_true rfl, Nat.le_of_ble_eq_true rfl⟩ ⟨Nat.zero_le _, Nat.zero_le _⟩ dX12_fits_15 (fun r4 => ?_)
    refine g_if_eq X 33 dX12_fits_18 rfl (fun h5 => ?_) (fun h5 => ?_)
    · refine g_iconst (v := (-1)) X dX12_fits_33 (by decide) ?_
      exact g_iret X rfl rfl rfl dX12_fits_34
    · refine g_aload_n X dX12_fits_21 rfl 0 rfl ?_
      refine g_iload_n X dX12_fits_22 rfl 1 rfl ?_
      refine g_iload_n X dX12_fits_23 rfl 2 rfl ?_
      refine g_iload_n X dX12_fits_24 rfl 3 rfl ?_
      refine g_bipush (v := 6) X dX12_fits_25 (by decide) ?_
      refine g_bVi (As := [.int a1, .int a2, .int a3, .int 6]) (rest := []) X (c_X12_wrong l K M1 a1 a2 a3 6) lk_X12_326 rfl rfl rfl (Nat.le_of_ble_eq_true rfl) ⟨Nat.le_of_ble_eq_true rfl, Nat.le_of_ble_eq_true rfl⟩ ⟨Nat.zero_le _, Nat.zero_le _⟩ dX12_fits_27 (fun r6 => ?_)
      refine g_goto X 34 dX12_fits_30 rfl ?_
      exact g_iret X rfl rfl rfl dX12_fits_34
set_option maxHeartbeats 4000000 in
set_option maxRecDepth 100000 in
theorem c_X12_puts (l : Launch) (K : q_KK) (M0 : q_MM) (a1 : Int32) (a2 : Int32) (a3 : Int32) : ∀ res, f_X12_puts M0 a1 a2 a3 = some res → Mt l yX12_puts cX12_puts 4 (none : Option FieldType) 0 0 0 0 false K [.ref 5001, .int a1, .int a2, .int a3] (qTM, qLM, qPM, M0) (none) ((qTM, qLM, qPM, res)) := by
  refine Mt.of (fun (_ : q_MM) => none) (fun (res : q_MM) => (qTM, qLM, qPM, res)) (by decide) (Nat.le_of_ble_eq_true rfl) ?_
  intro p e s m args below meth c0 A ad X hN
  refine g_sub (lv' := [(0, .ref 5001), (1, .int a1), (2, .int a2), (3, .int a3)]) [0, 1, 2, 3] rfl ?_
  unfold f_X12_puts
  refine g_aload_n X dX12_puts_0 rfl 0 rfl ?_
  refine g_getr X fa_X12_170 rfl rfl dX12_puts_1 ?_
  refine g_iload_n X dX12_puts_4 rfl 1 rfl ?_
  refine g_iconst (v := 1) X dX12_puts_5 (by decide) ?_
  refine g_isv X rfl rfl dX12_puts_6 (fun M1 => ?_)
  refine g_aload_n X dX12_puts_7 rfl 0 rfl ?_
  refine g_getr X fa_X12_155 rfl rfl dX12_puts_8 ?_
  refine g_iload_n X dX12_puts_11 rfl 1 rfl ?_
  refine g_iload_n X dX12_puts_12 rfl 2 rfl ?_
  refine g_isv X rfl rfl dX12_puts_13 (fun M2 => ?_)
  refine g_aload_n X dX12_puts_14 rfl 0 rfl ?_
  refine g_getr X fa_X12_158 rfl rfl dX12_puts_15 ?_
  refine g_iload_n X dX12_puts_18 rfl 1 rfl ?_
  refine g_iload_n X dX12_puts_19 rfl 3 rfl ?_
  refine g_isv X rfl rfl dX12_puts_20 (fun M3 => ?_)
  exact g_vret X rfl rfl rfl dX12_puts_21
set_option maxHeartbeats 4000000 in
set_option maxRecDepth 100000 in
theorem c_X12_takes (l : Launch) (K : q_KK) (M0 : q_MM) (a1 : Int32) (a2 : Int32) : ∀ res, f_X12_takes M0 a1 a2 = some res → Mt l yX12_takes cX12_takes 3 (none : Option FieldType) 0 0 0 0 false K [.ref 5001, .int a1, .int a2] (qTM, qLM, qPM, M0) (none) ((qTM, qLM, qPM, res)) := by
  refine Mt.of (fun (_ : q_MM) => none) (fun (res : q_MM) => (qTM, qLM, qPM, res)) (by decide) (Nat.le_of_ble_eq_true rfl) ?_
  intro p e s m args below meth c0 A ad X hN
  refine g_sub (lv' := [(0, .ref 5001), (1, .int a1), (2, .int a2)]) [0, 1, 2] rfl ?_
  unfold f_X12_takes
  refine g_aload_n X dX12_takes_0 rfl 0 rfl ?_
  refine g_getr X fa_X12_170 rfl rfl dX12_takes_1 ?_
  refine g_iload_n X dX12_takes_4 rfl 1 rfl ?_
  refine g_iload_n X dX12_takes_5 rfl 2 rfl ?_
  refine g_isv X rfl rfl dX12_takes_6 (fun M1 => ?_)
  refine g_aload_n X dX12_takes_7 rfl 0 rfl ?_
  refine g_getr X fa_X12_155 rfl rfl dX12_takes_8 ?_
  refine g_iload_n X dX12_takes_11 rfl 1 rfl ?_
  refine g_iconst (v := (-1)) X dX12_takes_12 (by decide) ?_
  refine g_isv X rfl rfl dX12_takes_13 (fun M2 => ?_)
  refine g_aload_n X dX12_takes_14 rfl 0 rfl ?_
  refine g_getr X fa_X12_158 rfl rfl dX12_takes_15 ?_
  refine g_iload_n X dX12_takes_18 rfl 1 rfl ?_
  refine g_iconst (v := (-1)) X dX12_takes_19 (by decide) ?_
  refine g_isv X rfl rfl dX12_takes_20 (fun M3 => ?_)
  exact g_vret X rfl rfl rfl dX12_takes_21
set_option maxHeartbeats 4000000 in
set_option maxRecDepth 100000 in
theorem c_X12_hang (l : Launch) (K : q_KK) (M0 : q_MM) (a1 : Int32) (a2 : Int32) (a3 : Int32) : ∀ res, f_X12_hang M0 a1 a2 a3 = some res → Mt l yX12_hang cX12_hang 5 (some FieldType.int) 5 125 0 0 false K [.ref 5001, .int a1, .int a2, .int a3] (qTM, qLM, qPM, M0) (some (.int res.1)) ((qTM, qLM, qPM, res.2)) := by
  refine Mt.of (fun (res : Int32 × q_MM) => some (.int res.1)) (fun (res : Int32 × q_MM) => (qTM, qLM, qPM, res.2)) (by decide) (Nat.le_of_ble_eq_true rfl) ?_
  intro p e s m args below meth c0 A ad X hN
  have hb_46 : ∀ (x4 : Int32) (M : q_MM), GG p l e { frames := 5, cells := 0, slots := 0, locals := 125 } s m args below meth c0 K A (qTM, qLM, qPM, M0) ad false 5 (fun res => MQ below (q_Qc K false ad (qTM, qLM, qPM, M0) ((fun (res : Int32 × q_MM) => some (.int res.1)) res) ((fun (res : Int32 × q_MM) => (qTM, qLM, qPM, res.2)) res) A) args s 0 0 A) (b_X12_hang_46 x4 M) 46 [(4, .int x4)] [] (qTM, qLM, qPM, M) 0 0 := by
    intro x4 M
    unfold b_X12_hang_46
    refine g_iload X dX12_hang_46 0 rfl ?_
    exact g_iret X rfl rfl rfl dX12_hang_48
  refine g_sub (lv' := [(0, .ref 5001), (1, .int a1), (2, .int a2), (3, .int a3)]) [0, 1, 2, 3] rfl ?_
  unfold f_X12_hang
  refine g_aload_n X dX12_hang_0 rfl 0 rfl ?_
  refine g_iconst (v := 0) X dX12_hang_1 (by decide) ?_
  refine g_pfi X fa_X12_1 rfl (by decide +kernel) rfl dX12_hang_2 (fun M1 => ?_)
  refine g_aload_n X dX12_hang_5 rfl 0 rfl ?_
  refine g_iload_n X dX12_hang_6 rfl 1 rfl ?_
  refine g_bVi (As := [.int a1]) (rest := []) X (c_X12_isHere l K M1 a1) lk_X12_323 rfl rfl rfl (Nat.le_of_ble_eq_true rfl) ⟨Nat.le_of_ble_eq_true rfl, Nat.le_of_ble_eq_true rfl⟩ ⟨Nat.zero_le _, Nat.zero_le _⟩ dX12_hang_7 (fun r2 => ?_)
  refine g_if_eq X 21 dX12_hang_10 rfl (fun h3 => ?_) (fun h3 => ?_)
  · refine g_iconst (v := (-1)) X dX12_hang_21 (by decide) ?_
    exact g_iret X rfl rfl rfl dX12_hang_22
  · refine g_aload_n X dX12_hang_13 rfl 0 rfl ?_
    refine g_iload_n X dX12_hang_14 rfl 2 rfl ?_
    refine g_bVi (As := [.int a2]) (rest := []) X (c_X12_isWall l K M1 a2) lk_X12_90 rfl rfl rfl (Nat.le_of_ble_eq_true rfl) ⟨Nat.le_of_ble_eq_true rfl, Nat.le_of_ble_eq_true rfl⟩ ⟨Nat.zero_le _, Nat.zero_le _⟩ dX12_hang_15 (fun r4 => ?_)
    refine g_if_ne X 23 dX12_hang_18 rfl (fun h5 => ?_) (fun h5 => ?_)
    · refine g_iconst (v := (-1)) X dX12_hang_21 (by decide) ?_
      exact g_iret X rfl rfl rfl dX12_hang_22
    · refine g_aload_n X dX12_hang_23 rfl 0 rfl ?_
      refine g_iload_n X dX12_hang_24 rfl 1 rfl ?_
      refine g_iload_n X dX12_hang_25 rfl 2 rfl ?_
      refine g_iload_n X dX12_hang_26 rfl 3 rfl ?_
      refine g_bipush (v := 6) X dX12_hang_27 (by decide) ?_
      refine g_bVi (As := [.int a1, .int a2, .int a3, .int 6]) (rest := []) X (c_X12_wrong l K M1 a1 a2 a3 6) lk_X12_326 rfl rfl rfl (Nat.le_of_ble_eq_true rfl) ⟨Nat.le_of_ble_eq_true rfl, Nat.le_of_ble_eq_true rfl⟩ ⟨Nat.zero_le _, Nat.zero_le _⟩ dX12_hang_29 (fun r6 => ?_)
      refine g_is X (fun v7 => [(4, .int v7), (0, .ref 5001), (1, .int a1), (2, .int a2), (3, .int a3)]) dX12_hang_32 (by decide) (fun _ => rfl) (fun v7 => ?_)
      refine g_iload X dX12_hang_34 0 rfl ?_
      refine g_if_ne X 46 dX12_hang_36 rfl (fun h8 => ?_) (fun h8 => ?_)
      · refine g_aload_n X dX12_hang_39 rfl 1 rfl ?_
        refine g_iload_n X dX12_hang_40 rfl 2 rfl ?_
        refine g_iload_n X dX12_hang_41 rfl 3 rfl ?_
        refine g_iload_n X dX12_hang_42 rfl 4 rfl ?_
        refine g_bVv (As := [.int a1, .int a2, .int a3]) (rest := []) X (c_X12_puts l K r6.2 a1 a2 a3) lk_X12_330 rfl rfl rfl (Nat.le_of_ble_eq_true rfl) ⟨Nat.le_of_ble_eq_true rfl, Nat.le_of_ble_eq_true rfl⟩ ⟨Nat.zero_le _, Nat.zero_le _⟩ dX12_hang_43 (fun r9 => ?_)
        exact g_sub [0] rfl (hb_46 v7 r9)
      · exact g_sub [0] rfl (hb_46 v7 r6.2)
set_option maxHeartbeats 4000000 in
set_option maxRecDepth 100000 in
theorem c_X12_store (l : Launch) (K : q_KK) (M0 : q_MM) (a1 : Int32) : ∀ res, f_X12_store M0 a1 = some res → Mt l yX12_store cX12_store 2 (some FieldType.boolean) 2 46 0 0 false K [.ref 5001, .int a1] (qTM, qLM, qPM, M0) (some (.int res.1)) ((qTM, qLM, qPM, res.2)) := by
  refine Mt.of (fun (res : Int32 × q_MM) => some (.int res.1)) (fun (res : Int32 × q_MM) => (qTM, qLM, qPM, res.2)) (by decide) (Nat.le_of_ble_eq_true rfl) ?_
  intro p e s m args below meth c0 A ad X hN
  refine g_sub (lv' := [(0, .ref 5001), (1, .int a1)]) [0, 1] rfl ?_
  unfold f_X12_store
  refine g_aload_n X dX12_store_0 rfl 0 rfl ?_
  refine g_iconst (v := 0) X dX12_store_1 (by decide) ?_
  refine g_pfi X fa_X12_1 rfl (by decide +kernel) rfl dX12_store_2 (fun M1 => ?_)
  refine g_aload_n X dX12_store_5 rfl 0 rfl ?_
  refine g_iload_n X dX12_store_6 rfl 1 rfl ?_
  refine g_bVi (As := [.int a1]) (rest := []) X (c_X12_isPicture l K M1 a1) lk_X12_161 rfl rfl rfl (Nat.le_of_ble_eq_true rfl) ⟨Nat.le_of_ble_eq_true rfl, Nat.le_of_ble_eq_true rfl⟩ ⟨Nat.zero_le _, Nat.zero_le _⟩ dX12_store_7 (fun r2 => ?_)
  refine g_if_eq X 32 dX12_store_10 rfl (fun h3 => ?_) (fun h3 => ?_)
  · refine g_iconst (v := 0) X dX12_store_32 (by decide) ?_
    exact g_zret X rfl rfl rfl dX12_store_33
  · refine g_aload_n X dX12_store_13 rfl 0 rfl ?_
    refine g_getr X fa_X12_170 rfl rfl dX12_store_14 ?_
    refine g_iload_n X dX12_store_17 rfl 1 rfl ?_
    refine g_ild X rfl rfl dX12_store_18 (fun v4 => ?_)
    refine g_if_eq X 32 dX12_store_19 rfl (fun h5 => ?_) (fun h5 => ?_)
    · refine g_iconst (v := 0) X dX12_store_32 (by decide) ?_
      exact g_zret X rfl rfl rfl dX12_store_33
    · refine g_aload_n X dX12_store_22 rfl 0 rfl ?_
      refine g_getr X fa_X12_170 rfl rfl dX12_store_23 ?_
      refine g_iload_n X dX12_store_26 rfl 1 rfl ?_
      refine g_ild X rfl rfl dX12_store_27 (fun v6 => ?_)
      refine g_iconst (v := 3) X dX12_store_28 (by decide) ?_
      refine g_icmp_ne X 34 dX12_store_29 rfl (fun h7 => ?_) (fun h7 => ?_)
      · refine g_iconst (v := 0) X dX12_store_32 (by decide) ?_
        exact g_zret X rfl rfl rfl dX12_store_33
      · refine g_aload_n X dX12_store_34 rfl 0 rfl ?_
        refine g_iload_n X dX12_store_35 rfl 1 rfl ?_
        refine g_iconst (v := 0) X dX12_store_36 (by decide) ?_
        refine g_bVv (As := [.int a1, .int 0]) (rest := []) X (c_X12_takes l K M1 a1 0) lk_X12_334 rfl rfl rfl (Nat.le_of_ble_eq_true rfl) ⟨Nat.le_of_ble_eq_true rfl, Nat.le_of_ble_eq_true rfl⟩ ⟨Nat.zero_le _, Nat.zero_le _⟩ dX12_store_37 (fun r8 => ?_)
        refine g_iconst (v := 1) X dX12_store_40 (by decide) ?_
        exact g_zret X rfl rfl rfl dX12_store_41
set_option maxHeartbeats 4000000 in
set_option maxRecDepth 100000 in
theorem c_X12_send (l : Launch) (K : q_KK) (M0 : q_MM) (a1 : Int32) : ∀ res, f_X12_send M0 a1 = some res → Mt l yX12_send cX12_send 2 (some FieldType.boolean) 3 67 0 0 false K [.ref 5001, .int a1] (qTM, qLM, qPM, M0) (some (.int res.1)) ((qTM, qLM, qPM, res.2)) := by
  refine Mt.of (fun (res : Int32 × q_MM) => some (.int res.1)) (fun (res : Int32 × q_MM) => (qTM, qLM, qPM, res.2)) (by decide) (Nat.le_of_ble_eq_true rfl) ?_
  intro p e s m args below meth c0 A ad X hN
  refine g_sub (lv' := [(0, .ref 5001), (1, .int a1)]) [0, 1] rfl ?_
  unfold f_X12_send
  refine g_aload_n X dX12_send_0 rfl 0 rfl ?_
  refine g_iconst (v := 0) X dX12_send_1 (by decide) ?_
  refine g_pfi X fa_X12_1 rfl (by decide +kernel) rfl dX12_send_2 (fun M1 => ?_)
  refine g_aload_n X dX12_send_5 rfl 0 rfl ?_
  refine g_iload_n X dX12_send_6 rfl 1 rfl ?_
  refine g_bVi (As := [.int a1]) (rest := []) X (c_X12_isHere l K M1 a1) lk_X12_323 rfl rfl rfl (Nat.le_of_ble_eq_true rfl) ⟨Nat.le_of_ble_eq_true rfl, Nat.le_of_ble_eq_true rfl⟩ ⟨Nat.zero_le _, Nat.zero_le _⟩ dX12_send_7 (fun r2 => ?_)
  refine g_if_ne X 15 dX12_send_10 rfl (fun h3 => ?_) (fun h3 => ?_)
  · refine g_iconst (v := 0) X dX12_send_13 (by decide) ?_
    exact g_zret X rfl rfl rfl dX12_send_14
  · refine g_aload_n X dX12_send_15 rfl 0 rfl ?_
    refine g_iload_n X dX12_send_16 rfl 1 rfl ?_
    refine g_iconst (v := 2) X dX12_send_17 (by decide) ?_
    refine g_bVv (As := [.int a1, .int 2]) (rest := []) X (c_X12_takes l K M1 a1 2) lk_X12_334 rfl rfl rfl (Nat.le_of_ble_eq_true rfl) ⟨Nat.le_of_ble_eq_true rfl, Nat.le_of_ble_eq_true rfl⟩ ⟨Nat.zero_le _, Nat.zero_le _⟩ dX12_send_18 (fun r4 => ?_)
    refine g_iconst (v := 1) X dX12_send_21 (by decide) ?_
    exact g_zret X rfl rfl rfl dX12_send_22
set_option maxHeartbeats 4000000 in
set_option maxRecDepth 100000 in
theorem c_X12_at (l : Launch) (K : q_KK) (M0 : q_MM) (a1 : Int32) (a2 : Int32) : ∀ res, f_X12_at M0 a1 a2 = some res → Mt l yX12_at cX12_at 4 (some FieldType.int) 2 49 0 0 false K [.ref 5001, .int a1, .int a2] (qTM, qLM, qPM, M0) (some (.int res.1)) ((qTM, qLM, qPM, res.2)) := by
  refine Mt.of (fun (res : Int32 × q_MM) => some (.int res.1)) (fun (res : Int32 × q_MM) => (qTM, qLM, qPM, res.2)) (by decide) (Nat.le_of_ble_eq_true rfl) ?_
  intro p e s m args below meth c0 A ad X hN
  have hb_33 : ∀ (x1 : Int32) (x2 : Int32) (s0 : Int32) (M : q_MM), GG p l e { frames := 2, cells := 0, slots := 0, locals := 49 } s m args below meth c0 K A (qTM, qLM, qPM, M0) ad false 4 (fun res => MQ below (q_Qc K false ad (qTM, qLM, qPM, M0) ((fun (res : Int32 × q_MM) => some (.int res.1)) res) ((fun (res : Int32 × q_MM) => (qTM, qLM, qPM, res.2)) res) A) args s 0 0 A) (b_X12_at_33 x1 x2 s0 M) 33 [(0, .ref 5001), (1, .int x1), (2, .int x2)] [.int s0] (qTM, qLM, qPM, M) 0 0 := by
    intro x1 x2 s0 M
    unfold b_X12_at_33
    refine g_istore_n X [(3, .int s0), (0, .ref 5001), (1, .int x1), (2, .int x2)] dX12_at_33 rfl (by decide) rfl ?_
    refine g_iload_n X dX12_at_34 rfl 3 rfl ?_
    refine g_case (fun h1 => ?_) (fun h1 => ?_)
    · refine g_tin (off := 45) X 80 h1 dX12_at_35 (by decide) (by decide) (by decide) rfl ?_
      refine g_aload_n X dX12_at_80 rfl 1 rfl ?_
      refine g_getr X fa_X12_170 rfl rfl dX12_at_81 ?_
      refine g_iload_n X dX12_at_84 rfl 2 rfl ?_
      refine g_ild X rfl rfl dX12_at_85 (fun v2 => ?_)
      exact g_iret X rfl rfl rfl dX12_at_86
    · refine g_case (fun h3 => ?_) (fun h3 => ?_)
      · refine g_tin (off := 52) X 87 h3 dX12_at_35 (by decide) (by decide) (by decide) rfl ?_
        refine g_aload_n X dX12_at_87 rfl 1 rfl ?_
        refine g_getr X fa_X12_155 rfl rfl dX12_at_88 ?_
        refine g_iload_n X dX12_at_91 rfl 2 rfl ?_
        refine g_ild X rfl rfl dX12_at_92 (fun v4 => ?_)
        exact g_iret X rfl rfl rfl dX12_at_93
      · refine g_case (fun h5 => ?_) (fun h5 => ?_)
        · refine g_tin (off := 59) X 94 h5 dX12_at_35 (by decide) (by decide) (by decide) rfl ?_
          refine g_aload_n X dX12_at_94 rfl 1 rfl ?_
          refine g_getr X fa_X12_158 rfl rfl dX12_at_95 ?_
          refine g_iload_n X dX12_at_98 rfl 2 rfl ?_
          refine g_ild X rfl rfl dX12_at_99 (fun v6 => ?_)
          exact g_iret X rfl rfl rfl dX12_at_100
        · refine g_case (fun h7 => ?_) (fun h7 => ?_)
          · refine g_tin (off := 66) X 101 h7 dX12_at_35 (by decide) (by decide) (by decide) rfl ?_
            refine g_aload_n X dX12_at_101 rfl 1 rfl ?_
            refine g_getr X fa_X12_298 rfl rfl dX12_at_102 ?_
            refine g_iload_n X dX12_at_105 rfl 2 rfl ?_
            refine g_ild X rfl rfl dX12_at_106 (fun v8 => ?_)
            exact g_iret X rfl rfl rfl dX12_at_107
          · refine g_case (fun h9 => ?_) (fun h9 => ?_)
            · refine g_tin (off := 73) X 108 h9 dX12_at_35 (by decide) (by decide) (by decide) rfl ?_
              refine g_iload_n X dX12_at_108 rfl 0 rfl ?_
              refine g_if_eq X 133 dX12_at_109 rfl (fun h10 => ?_) (fun h10 => ?_)
              · refine g_iconst (v := (-1)) X dX12_at_133 (by decide) ?_
                exact g_iret X rfl rfl rfl dX12_at_134
              · refine g_aload_n X dX12_at_112 rfl 1 rfl ?_
                refine g_aload_n X dX12_at_113 rfl 1 rfl ?_
                refine g_getr X fa_X12_155 rfl rfl dX12_at_114 ?_
                refine g_iload_n X dX12_at_117 rfl 2 rfl ?_
                refine g_ild X rfl rfl dX12_at_118 (fun v11 => ?_)
                refine g_aload_n X dX12_at_119 rfl 1 rfl ?_
                refine g_getr X fa_X12_158 rfl rfl dX12_at_120 ?_
                refine g_iload_n X dX12_at_123 rfl 2 rfl ?_
                refine g_ild X rfl rfl dX12_at_124 (fun v12 => ?_)
                refine g_iload_n X dX12_at_125 rfl 2 rfl ?_
                refine g_iconst (v := 1) X dX12_at_126 (by decide) ?_
                refine g_bVi (As := [.int v11, .int v12, .int x1, .int 1]) (rest := []) X (c_X12_beside l K M v11 v12 x1 1) lk_X12_288 rfl rfl rfl (Nat.le_of_ble_eq_true rfl) ⟨Nat.le_of_ble_eq_true rfl, Nat.le_of_ble_eq_true rfl⟩ ⟨Nat.zero_le _, Nat.zero_le _⟩ dX12_at_127 (fun r13 => ?_)
                refine g_goto X 134 dX12_at_130 rfl ?_
                exact g_iret X rfl rfl rfl dX12_at_134
            · refine g_case (fun h14 => ?_) (fun h14 => ?_)
              · refine g_tin (off := 100) X 135 h14 dX12_at_35 (by decide) (by decide) (by decide) rfl ?_
                refine g_iload_n X dX12_at_135 rfl 0 rfl ?_
                refine g_if_eq X 160 dX12_at_136 rfl (fun h15 => ?_) (fun h15 => ?_)
                · refine g_iconst (v := (-1)) X dX12_at_160 (by decide) ?_
                  exact g_iret X rfl rfl rfl dX12_at_161
                · refine g_aload_n X dX12_at_139 rfl 1 rfl ?_
                  refine g_aload_n X dX12_at_140 rfl 1 rfl ?_
                  refine g_getr X fa_X12_155 rfl rfl dX12_at_141 ?_
                  refine g_iload_n X dX12_at_144 rfl 2 rfl ?_
                  refine g_ild X rfl rfl dX12_at_145 (fun v16 => ?_)
                  refine g_aload_n X dX12_at_146 rfl 1 rfl ?_
                  refine g_getr X fa_X12_158 rfl rfl dX12_at_147 ?_
                  refine g_iload_n X dX12_at_150 rfl 2 rfl ?_
                  refine g_ild X rfl rfl dX12_at_151 (fun v17 => ?_)
                  refine g_iload_n X dX12_at_152 rfl 2 rfl ?_
                  refine g_iconst (v := 0) X dX12_at_153 (by decide) ?_
                  refine g_bVi (As := [.int v16, .int v17, .int x1, .int 0]) (rest := []) X (c_X12_beside l K M v16 v17 x1 0) lk_X12_288 rfl rfl rfl (Nat.le_of_ble_eq_true rfl) ⟨Nat.le_of_ble_eq_true rfl, Nat.le_of_ble_eq_true rfl⟩ ⟨Nat.zero_le _, Nat.zero_le _⟩ dX12_at_154 (fun r18 => ?_)
                  refine g_goto X 161 dX12_at_157 rfl ?_
                  exact g_iret X rfl rfl rfl dX12_at_161
              · refine g_case (fun h19 => ?_) (fun h19 => ?_)
                · refine g_tin (off := 127) X 162 h19 dX12_at_35 (by decide) (by decide) (by decide) rfl ?_
                  refine g_iload_n X dX12_at_162 rfl 0 rfl ?_
                  refine g_if_eq X 180 dX12_at_163 rfl (fun h20 => ?_) (fun h20 => ?_)
                  · refine g_iconst (v := (-1)) X dX12_at_180 (by decide) ?_
                    exact g_iret X rfl rfl rfl dX12_at_181
                  · refine g_aload_n X dX12_at_166 rfl 1 rfl ?_
                    refine g_getr X fa_X12_57 rfl rfl dX12_at_167 ?_
                    refine g_aload_n X dX12_at_170 rfl 1 rfl ?_
                    refine g_getr X fa_X12_155 rfl rfl dX12_at_171 ?_
                    refine g_iload_n X dX12_at_174 rfl 2 rfl ?_
                    refine g_ild X rfl rfl dX12_at_175 (fun v21 => ?_)
                    refine g_ild X rfl rfl dX12_at_176 (fun v22 => ?_)
                    refine g_goto X 181 dX12_at_177 rfl ?_
                    exact g_iret X rfl rfl rfl dX12_at_181
                · refine g_case (fun h23 => ?_) (fun h23 => ?_)
                  · refine g_tin (off := 147) X 182 h23 dX12_at_35 (by decide) (by decide) (by decide) rfl ?_
                    refine g_aload_n X dX12_at_182 rfl 1 rfl ?_
                    refine g_getr X fa_X12_142 rfl rfl dX12_at_183 ?_
                    refine g_iload_n X dX12_at_186 rfl 2 rfl ?_
                    refine g_ild X rfl rfl dX12_at_187 (fun v24 => ?_)
                    exact g_iret X rfl rfl rfl dX12_at_188
                  · refine g_tdef X [0, 1, 2, 3, 4, 5, 6, 7] 189 (List.forall_mem_cons.mpr ⟨h1, (List.forall_mem_cons.mpr ⟨h3, (List.forall_mem_cons.mpr ⟨h5, (List.forall_mem_cons.mpr ⟨h7, (List.forall_mem_cons.mpr ⟨h9, (List.forall_mem_cons.mpr ⟨h14, (List.forall_mem_cons.mpr ⟨h19, (List.forall_mem_cons.mpr ⟨h23, (fun _ z => nomatch z)⟩)⟩)⟩)⟩)⟩)⟩)⟩)⟩) dX12_at_35 (by decide) rfl ?_
                    refine g_aload_n X dX12_at_189 rfl 1 rfl ?_
                    refine g_bVi (As := []) (rest := []) X (c_X12_refuse l K M) lk_X12_338 rfl rfl rfl (Nat.le_of_ble_eq_true rfl) ⟨Nat.le_of_ble_eq_true rfl, Nat.le_of_ble_eq_true rfl⟩ ⟨Nat.zero_le _, Nat.zero_le _⟩ dX12_at_190 (fun r25 => ?_)
                    exact g_iret X rfl rfl rfl dX12_at_193
  refine g_sub (lv' := [(0, .ref 5001), (1, .int a1), (2, .int a2)]) [0, 1, 2] rfl ?_
  unfold f_X12_at
  refine g_aload_n X dX12_at_0 rfl 0 rfl ?_
  refine g_iconst (v := 0) X dX12_at_1 (by decide) ?_
  refine g_pfi X fa_X12_1 rfl (by decide +kernel) rfl dX12_at_2 (fun M26 => ?_)
  refine g_aload_n X dX12_at_5 rfl 0 rfl ?_
  refine g_iload_n X dX12_at_6 rfl 1 rfl ?_
  refine g_bVi (As := [.int a1]) (rest := []) X (c_X12_isPicture l K M26 a1) lk_X12_161 rfl rfl rfl (Nat.le_of_ble_eq_true rfl) ⟨Nat.le_of_ble_eq_true rfl, Nat.le_of_ble_eq_true rfl⟩ ⟨Nat.zero_le _, Nat.zero_le _⟩ dX12_at_7 (fun r27 => ?_)
  refine g_if_ne X 18 dX12_at_10 rfl (fun h28 => ?_) (fun h28 => ?_)
  · refine g_aload_n X dX12_at_13 rfl 0 rfl ?_
    refine g_bVi (As := []) (rest := []) X (c_X12_refuse l K M26) lk_X12_338 rfl rfl rfl (Nat.le_of_ble_eq_true rfl) ⟨Nat.le_of_ble_eq_true rfl, Nat.le_of_ble_eq_true rfl⟩ ⟨Nat.zero_le _, Nat.zero_le _⟩ dX12_at_14 (fun r29 => ?_)
    exact g_iret X rfl rfl rfl dX12_at_17
  · refine g_aload_n X dX12_at_18 rfl 0 rfl ?_
    refine g_getr X fa_X12_170 rfl rfl dX12_at_19 ?_
    refine g_iload_n X dX12_at_22 rfl 1 rfl ?_
    refine g_ild X rfl rfl dX12_at_23 (fun v30 => ?_)
    refine g_iconst (v := 1) X dX12_at_24 (by decide) ?_
    refine g_icmp_ne X 32 dX12_at_25 rfl (fun h31 => ?_) (fun h31 => ?_)
    · refine g_iconst (v := 1) X dX12_at_28 (by decide) ?_
      refine g_goto X 33 dX12_at_29 rfl ?_
      exact g_sub [0, 1, 2] rfl (hb_33 a1 a2 1 M26)
    · refine g_iconst (v := 0) X dX12_at_32 (by decide) ?_
      exact g_sub [0, 1, 2] rfl (hb_33 a1 a2 0 M26)
set_option maxHeartbeats 4000000 in
set_option maxRecDepth 100000 in
theorem c_X12_entersWall (l : Launch) (K : q_KK) (M0 : q_MM) (a1 : Int32) : ∀ res, f_X12_entersWall M0 a1 = some res → Mt l yX12_entersWall cX12_entersWall 5 (none : Option FieldType) 1 22 0 0 false K [.ref 5001, .int a1] (qTM, qLM, qPM, M0) (none) ((qTM, qLM, qPM, res)) := by
  refine Mt.of (fun (_ : q_MM) => none) (fun (res : q_MM) => (qTM, qLM, qPM, res)) (by decide) (Nat.le_of_ble_eq_true rfl) ?_
  intro p e s m args below meth c0 A ad X hN
  have hb_102 : ∀ (k7 : Int32 → Int32 → Int32 → q_MM → Option (q_MM)) (hk7 : ∀ (x1 : Int32) (x2 : Int32) (x3 : Int32) (M : q_MM), GG p l e { frames := 1, cells := 0, slots := 0, locals := 22 } s m args below meth c0 K A (qTM, qLM, qPM, M0) ad false 5 (fun res => MQ below (q_Qc K false ad (qTM, qLM, qPM, M0) ((fun (_ : q_MM) => none) res) ((fun (res : q_MM) => (qTM, qLM, qPM, res)) res) A) args s 0 0 A) (k7 x1 x2 x3 M) 7 [(0, .ref 5001), (1, .int x1), (2, .int x2), (3, .int x3)] [] (qTM, qLM, qPM, M) 0 0) (x1 : Int32) (x2 : Int32) (x3 : Int32) (M : q_MM), GG p l e { frames := 1, cells := 0, slots := 0, locals := 22 } s m args below meth c0 K A (qTM, qLM, qPM, M0) ad false 5 (fun res => MQ below (q_Qc K false ad (qTM, qLM, qPM, M0) ((fun (_ : q_MM) => none) res) ((fun (res : q_MM) => (qTM, qLM, qPM, res)) res) A) args s 0 0 A) (b_X12_entersWall_102 k7 x1 x2 x3 M) 102 [(0, .ref 5001), (1, .int x1), (2, .int x2), (3, .int x3)] [] (qTM, qLM, qPM, M) 0 0 := by
    intro k7 hk7 x1 x2 x3 M
    unfold b_X12_entersWall_102
    refine g_iinc (v := 1) X [(3, .int (x3 + 1)), (0, .ref 5001), (1, .int x1), (2, .int x2)] 3 dX12_entersWall_102 rfl (by decide) (by decide) rfl ?_
    refine g_goto X 7 dX12_entersWall_105 rfl ?_
    exact g_sub [1, 2, 3, 0] rfl (hk7 x1 x2 (x3 + 1) M)
  have hb_84 : ∀ (k7 : Int32 → Int32 → Int32 → q_MM → Option (q_MM)) (hk7 : ∀ (x1 : Int32) (x2 : Int32) (x3 : Int32) (M : q_MM), GG p l e { frames := 1, cells := 0, slots := 0, locals := 22 } s m args below meth c0 K A (qTM, qLM, qPM, M0) ad false 5 (fun res => MQ below (q_Qc K false ad (qTM, qLM, qPM, M0) ((fun (_ : q_MM) => none) res) ((fun (res : q_MM) => (qTM, qLM, qPM, res)) res) A) args s 0 0 A) (k7 x1 x2 x3 M) 7 [(0, .ref 5001), (1, .int x1), (2, .int x2), (3, .int x3)] [] (qTM, qLM, qPM, M) 0 0) (x1 : Int32) (x2 : Int32) (x3 : Int32) (x4 : Int32) (M : q_MM), GG p l e { frames := 1, cells := 0, slots := 0, locals := 22 } s m args below meth c0 K A (qTM, qLM, qPM, M0) ad false 5 (fun res => MQ below (q_Qc K false ad (qTM, qLM, qPM, M0) ((fun (_ : q_MM) => none) res) ((fun (res : q_MM) => (qTM, qLM, qPM, res)) res) A) args s 0 0 A) (b_X12_entersWall_84 k7 x1 x2 x3 x4 M) 84 [(0, .ref 5001), (1, .int x1), (2, .int x2), (3, .int x3), (4, .int x4)] [] (qTM, qLM, qPM, M) 0 0 := by
    intro k7 hk7 x1 x2 x3 x4 M
    unfold b_X12_entersWall_84
    refine g_aload_n X dX12_entersWall_84 rfl 0 rfl ?_
    refine g_getr X fa_X12_7 rfl rfl dX12_entersWall_85 ?_
    refine g_iload X dX12_entersWall_88 4 rfl ?_
    refine g_iload_n X dX12_entersWall_90 rfl 3 rfl ?_
    refine g_isv X rfl rfl dX12_entersWall_91 (fun M1 => ?_)
    refine g_aload_n X dX12_entersWall_92 rfl 0 rfl ?_
    refine g_dup X dX12_entersWall_93 rfl ?_
    refine g_geti X fa_X12_11 rfl dX12_entersWall_94 ?_
    refine g_iconst (v := 1) X dX12_entersWall_97 (by decide) ?_
    refine g_iadd X dX12_entersWall_98 ?_
    refine g_pfi X fa_X12_11 rfl (by decide +kernel) rfl dX12_entersWall_99 (fun M2 => ?_)
    exact g_sub [0, 1, 2, 3] rfl (hb_102 k7 hk7 x1 x2 x3 M2)
  have hb_33 : ∀ (k7 : Int32 → Int32 → Int32 → q_MM → Option (q_MM)) (hk7 : ∀ (x1 : Int32) (x2 : Int32) (x3 : Int32) (M : q_MM), GG p l e { frames := 1, cells := 0, slots := 0, locals := 22 } s m args below meth c0 K A (qTM, qLM, qPM, M0) ad false 5 (fun res => MQ below (q_Qc K false ad (qTM, qLM, qPM, M0) ((fun (_ : q_MM) => none) res) ((fun (res : q_MM) => (qTM, qLM, qPM, res)) res) A) args s 0 0 A) (k7 x1 x2 x3 M) 7 [(0, .ref 5001), (1, .int x1), (2, .int x2), (3, .int x3)] [] (qTM, qLM, qPM, M) 0 0) (nf : Nat) (x1 : Int32) (x2 : Int32) (x3 : Int32) (x4 : Int32) (M : q_MM), GG p l e { frames := 1, cells := 0, slots := 0, locals := 22 } s m args below meth c0 K A (qTM, qLM, qPM, M0) ad false 5 (fun res => MQ below (q_Qc K false ad (qTM, qLM, qPM, M0) ((fun (_ : q_MM) => none) res) ((fun (res : q_MM) => (qTM, qLM, qPM, res)) res) A) args s 0 0 A) (b_X12_entersWall_33 k7 nf x1 x2 x3 x4 M) 33 [(0, .ref 5001), (1, .int x1), (2, .int x2), (3, .int x3), (4, .int x4)] [] (qTM, qLM, qPM, M) 0 0 := by
    intro k7 hk7 nf
    induction nf with
    | zero => intros; exact g_stop
    | succ nf ih =>
      intro x1 x2 x3 x4 M
      rw [b_X12_entersWall_33]
      refine g_iload X dX12_entersWall_33 4 rfl ?_
      refine g_iload_n X dX12_entersWall_35 rfl 2 rfl ?_
      refine g_icmp_le X 84 dX12_entersWall_36 rfl (fun h3 => ?_) (fun h3 => ?_)
      · exact g_sub [0, 1, 2, 3, 4] rfl (hb_84 k7 hk7 x1 x2 x3 x4 M)
      · refine g_aload_n X dX12_entersWall_39 rfl 0 rfl ?_
        refine g_getr X fa_X12_158 rfl rfl dX12_entersWall_40 ?_
        refine g_aload_n X dX12_entersWall_43 rfl 0 rfl ?_
        refine g_getr X fa_X12_7 rfl rfl dX12_entersWall_44 ?_
        refine g_iload X dX12_entersWall_47 4 rfl ?_
        refine g_iconst (v := 1) X dX12_entersWall_49 (by decide) ?_
        refine g_isub X dX12_entersWall_50 ?_
        refine g_ild X rfl rfl dX12_entersWall_51 (fun v4 => ?_)
        refine g_ild X rfl rfl dX12_entersWall_52 (fun v5 => ?_)
        refine g_aload_n X dX12_entersWall_53 rfl 0 rfl ?_
        refine g_getr X fa_X12_158 rfl rfl dX12_entersWall_54 ?_
        refine g_iload_n X dX12_entersWall_57 rfl 3 rfl ?_
        refine g_ild X rfl rfl dX12_entersWall_58 (fun v6 => ?_)
        refine g_icmp_le X 84 dX12_entersWall_59 rfl (fun h7 => ?_) (fun h7 => ?_)
        · exact g_sub [0, 1, 2, 3, 4] rfl (hb_84 k7 hk7 x1 x2 x3 x4 M)
        · refine g_aload_n X dX12_entersWall_62 rfl 0 rfl ?_
          refine g_getr X fa_X12_7 rfl rfl dX12_entersWall_63 ?_
          refine g_iload X dX12_entersWall_66 4 rfl ?_
          refine g_aload_n X dX12_entersWall_68 rfl 0 rfl ?_
          refine g_getr X fa_X12_7 rfl rfl dX12_entersWall_69 ?_
          refine g_iload X dX12_entersWall_72 4 rfl ?_
          refine g_iconst (v := 1) X dX12_entersWall_74 (by decide) ?_
          refine g_isub X dX12_entersWall_75 ?_
          refine g_ild X rfl rfl dX12_entersWall_76 (fun v8 => ?_)
          refine g_isv X rfl rfl dX12_entersWall_77 (fun M9 => ?_)
          refine g_iinc (v := (-1)) X [(4, .int (x4 + (-1))), (0, .ref 5001), (1, .int x1), (2, .int x2), (3, .int x3)] 4 dX12_entersWall_78 rfl (by decide) (by decide) rfl ?_
          refine g_goto X 33 dX12_entersWall_81 rfl ?_
          exact g_sub [1, 2, 3, 4, 0] rfl (ih x1 x2 x3 (x4 + (-1)) M9)
  have hb_7 : ∀ (nf : Nat) (x1 : Int32) (x2 : Int32) (x3 : Int32) (M : q_MM), GG p l e { frames := 1, cells := 0, slots := 0, locals := 22 } s m args below meth c0 K A (qTM, qLM, qPM, M0) ad false 5 (fun res => MQ below (q_Qc K false ad (qTM, qLM, qPM, M0) ((fun (_ : q_MM) => none) res) ((fun (res : q_MM) => (qTM, qLM, qPM, res)) res) A) args s 0 0 A) (b_X12_entersWall_7 nf x1 x2 x3 M) 7 [(0, .ref 5001), (1, .int x1), (2, .int x2), (3, .int x3)] [] (qTM, qLM, qPM, M) 0 0 := by
    intro  nf
    induction nf with
    | zero => intros; exact g_stop
    | succ nf ih =>
      intro x1 x2 x3 M
      rw [b_X12_entersWall_7]
      refine g_iload_n X dX12_entersWall_7 rfl 3 rfl ?_
      refine g_aload_n X dX12_entersWall_8 rfl 0 rfl ?_
      refine g_geti X fa_X12_108 rfl dX12_entersWall_9 ?_
      refine g_icmp_ge X 108 dX12_entersWall_12 rfl (fun h10 => ?_) (fun h10 => ?_)
      · exact g_vret X rfl rfl rfl dX12_entersWall_108
      · refine g_aload_n X dX12_entersWall_15 rfl 0 rfl ?_
        refine g_iload_n X dX12_entersWall_16 rfl 3 rfl ?_
        refine g_iload_n X dX12_entersWall_17 rfl 1 rfl ?_
        refine g_bVi (As := [.int x3, .int x1]) (rest := []) X (c_X12_isOn l K M x3 x1) lk_X12_173 rfl rfl rfl (Nat.le_of_ble_eq_true rfl) ⟨Nat.le_of_ble_eq_true rfl, Nat.le_of_ble_eq_true rfl⟩ ⟨Nat.zero_le _, Nat.zero_le _⟩ dX12_entersWall_18 (fun r11 => ?_)
        refine g_if_ne X 27 dX12_entersWall_21 rfl (fun h12 => ?_) (fun h12 => ?_)
        · refine g_goto X 102 dX12_entersWall_24 rfl ?_
          exact g_sub [0, 1, 2, 3] rfl (hb_102 (b_X12_entersWall_7 nf) ih x1 x2 x3 M)
        · refine g_aload_n X dX12_entersWall_27 rfl 0 rfl ?_
          refine g_geti X fa_X12_11 rfl dX12_entersWall_28 ?_
          refine g_is X (fun v13 => [(4, .int v13), (0, .ref 5001), (1, .int x1), (2, .int x2), (3, .int x3)]) dX12_entersWall_31 (by decide) (fun _ => rfl) (fun v13 => ?_)
          exact g_sub [1, 2, 3, 4, 0] rfl (hb_33 (b_X12_entersWall_7 nf) ih q_fu x1 x2 x3 v13 M)
  refine g_sub (lv' := [(0, .ref 5001), (1, .int a1)]) [0, 1] rfl ?_
  unfold f_X12_entersWall
  refine g_aload_n X dX12_entersWall_0 rfl 0 rfl ?_
  refine g_geti X fa_X12_11 rfl dX12_entersWall_1 ?_
  refine g_isn X (fun v14 => [(2, .int v14), (0, .ref 5001), (1, .int a1)]) dX12_entersWall_4 rfl (by decide) (fun _ => rfl) (fun v14 => ?_)
  refine g_iconst (v := 0) X dX12_entersWall_5 (by decide) ?_
  refine g_istore_n X [(3, .int 0), (2, .int v14), (0, .ref 5001), (1, .int a1)] dX12_entersWall_6 rfl (by decide) rfl ?_
  exact g_sub [2, 3, 1, 0] rfl (hb_7 q_fu a1 v14 0 M0)
set_option maxHeartbeats 4000000 in
set_option maxRecDepth 100000 in
theorem c_X12_on (l : Launch) (K : q_KK) (M0 : q_MM) (a1 : Int32) : ∀ res, f_X12_on M0 a1 = some res → Mt l yX12_on cX12_on 2 (some FieldType.int) 2 46 0 0 false K [.ref 5001, .int a1] (qTM, qLM, qPM, M0) (some (.int res.1)) ((qTM, qLM, qPM, res.2)) := by
  refine Mt.of (fun (res : Int32 × q_MM) => some (.int res.1)) (fun (res : Int32 × q_MM) => (qTM, qLM, qPM, res.2)) (by decide) (Nat.le_of_ble_eq_true rfl) ?_
  intro p e s m args below meth c0 A ad X hN
  refine g_sub (lv' := [(0, .ref 5001), (1, .int a1)]) [0, 1] rfl ?_
  unfold f_X12_on
  refine g_aload_n X dX12_on_0 rfl 0 rfl ?_
  refine g_iconst (v := 0) X dX12_on_1 (by decide) ?_
  refine g_pfi X fa_X12_1 rfl (by decide +kernel) rfl dX12_on_2 (fun M1 => ?_)
  refine g_aload_n X dX12_on_5 rfl 0 rfl ?_
  refine g_iload_n X dX12_on_6 rfl 1 rfl ?_
  refine g_bVi (As := [.int a1]) (rest := []) X (c_X12_isWall l K M1 a1) lk_X12_90 rfl rfl rfl (Nat.le_of_ble_eq_true rfl) ⟨Nat.le_of_ble_eq_true rfl, Nat.le_of_ble_eq_true rfl⟩ ⟨Nat.zero_le _, Nat.zero_le _⟩ dX12_on_7 (fun r2 => ?_)
  refine g_if_ne X 15 dX12_on_10 rfl (fun h3 => ?_) (fun h3 => ?_)
  · refine g_iconst (v := (-1)) X dX12_on_13 (by decide) ?_
    exact g_iret X rfl rfl rfl dX12_on_14
  · refine g_aload_n X dX12_on_15 rfl 0 rfl ?_
    refine g_iconst (v := 0) X dX12_on_16 (by decide) ?_
    refine g_pfi X fa_X12_11 rfl (by decide +kernel) rfl dX12_on_17 (fun M4 => ?_)
    refine g_aload_n X dX12_on_20 rfl 0 rfl ?_
    refine g_iload_n X dX12_on_21 rfl 1 rfl ?_
    refine g_bVv (As := [.int a1]) (rest := []) X (c_X12_entersWall l K M4 a1) lk_X12_342 rfl rfl rfl (Nat.le_of_ble_eq_true rfl) ⟨Nat.le_of_ble_eq_true rfl, Nat.le_of_ble_eq_true rfl⟩ ⟨Nat.zero_le _, Nat.zero_le _⟩ dX12_on_22 (fun r5 => ?_)
    refine g_aload_n X dX12_on_25 rfl 0 rfl ?_
    refine g_geti X fa_X12_11 rfl dX12_on_26 ?_
    exact g_iret X rfl rfl rfl dX12_on_29
set_option maxHeartbeats 4000000 in
set_option maxRecDepth 100000 in
theorem c_X12_places (l : Launch) (K : q_KK) (M0 : q_MM) (a1 : Int32) : ∀ res, f_X12_places M0 a1 = some res → Mt l yX12_places cX12_places 4 (some FieldType.int) 5 125 0 0 false K [.ref 5001, .int a1] (qTM, qLM, qPM, M0) (some (.int res.1)) ((qTM, qLM, qPM, res.2)) := by
  refine Mt.of (fun (res : Int32 × q_MM) => some (.int res.1)) (fun (res : Int32 × q_MM) => (qTM, qLM, qPM, res.2)) (by decide) (Nat.le_of_ble_eq_true rfl) ?_
  intro p e s m args below meth c0 A ad X hN
  have hb_80 : ∀ (k22 : Int32 → Int32 → q_MM → Option (Int32 × q_MM)) (hk22 : ∀ (x1 : Int32) (x2 : Int32) (M : q_MM), GG p l e { frames := 5, cells := 0, slots := 0, locals := 125 } s m args below meth c0 K A (qTM, qLM, qPM, M0) ad false 4 (fun res => MQ below (q_Qc K false ad (qTM, qLM, qPM, M0) ((fun (res : Int32 × q_MM) => some (.int res.1)) res) ((fun (res : Int32 × q_MM) => (qTM, qLM, qPM, res.2)) res) A) args s 0 0 A) (k22 x1 x2 M) 22 [(0, .ref 5001), (1, .int x1), (2, .int x2)] [] (qTM, qLM, qPM, M) 0 0) (x1 : Int32) (x2 : Int32) (M : q_MM), GG p l e { frames := 5, cells := 0, slots := 0, locals := 125 } s m args below meth c0 K A (qTM, qLM, qPM, M0) ad false 4 (fun res => MQ below (q_Qc K false ad (qTM, qLM, qPM, M0) ((fun (res : Int32 × q_MM) => some (.int res.1)) res) ((fun (res : Int32 × q_MM) => (qTM, qLM, qPM, res.2)) res) A) args s 0 0 A) (b_X12_places_80 k22 x1 x2 M) 80 [(0, .ref 5001), (1, .int x1), (2, .int x2)] [] (qTM, qLM, qPM, M) 0 0 := by
    intro k22 hk22 x1 x2 M
    unfold b_X12_places_80
    refine g_iinc (v := 1) X [(2, .int (x2 + 1)), (0, .ref 5001), (1, .int x1)] 2 dX12_places_80 rfl (by decide) (by decide) rfl ?_
    refine g_goto X 22 dX12_places_83 rfl ?_
    exact g_sub [1, 2, 0] rfl (hk22 x1 (x2 + 1) M)
  have hb_60 : ∀ (k22 : Int32 → Int32 → q_MM → Option (Int32 × q_MM)) (hk22 : ∀ (x1 : Int32) (x2 : Int32) (M : q_MM), GG p l e { frames := 5, cells := 0, slots := 0, locals := 125 } s m args below meth c0 K A (qTM, qLM, qPM, M0) ad false 4 (fun res => MQ below (q_Qc K false ad (qTM, qLM, qPM, M0) ((fun (res : Int32 × q_MM) => some (.int res.1)) res) ((fun (res : Int32 × q_MM) => (qTM, qLM, qPM, res.2)) res) A) args s 0 0 A) (k22 x1 x2 M) 22 [(0, .ref 5001), (1, .int x1), (2, .int x2)] [] (qTM, qLM, qPM, M) 0 0) (x1 : Int32) (x2 : Int32) (x3 : Int32) (M : q_MM), GG p l e { frames := 5, cells := 0, slots := 0, locals := 125 } s m args below meth c0 K A (qTM, qLM, qPM, M0) ad false 4 (fun res => MQ below (q_Qc K false ad (qTM, qLM, qPM, M0) ((fun (res : Int32 × q_MM) => some (.int res.1)) res) ((fun (res : Int32 × q_MM) => (qTM, qLM, qPM, res.2)) res) A) args s 0 0 A) (b_X12_places_60 k22 x1 x2 x3 M) 60 [(0, .ref 5001), (1, .int x1), (2, .int x2), (3, .int x3)] [] (qTM, qLM, qPM, M) 0 0 := by
    intro k22 hk22 x1 x2 x3 M
    unfold b_X12_places_60
    refine g_iload_n X dX12_places_60 rfl 3 rfl ?_
    refine g_aload_n X dX12_places_61 rfl 0 rfl ?_
    refine g_getr X fa_X12_60 rfl rfl dX12_places_62 ?_
    refine g_iload_n X dX12_places_65 rfl 2 rfl ?_
    refine g_ild X rfl rfl dX12_places_66 (fun v1 => ?_)
    refine g_icmp_gt X 80 dX12_places_67 rfl (fun h2 => ?_) (fun h2 => ?_)
    · exact g_sub [0, 1, 2] rfl (hb_80 k22 hk22 x1 x2 M)
    · refine g_aload_n X dX12_places_70 rfl 0 rfl ?_
      refine g_iload_n X dX12_places_71 rfl 2 rfl ?_
      refine g_bVv (As := [.int x2]) (rest := []) X (c_X12_enters l K M x2) lk_X12_345 rfl rfl rfl (Nat.le_of_ble_eq_true rfl) ⟨Nat.le_of_ble_eq_true rfl, Nat.le_of_ble_eq_true rfl⟩ ⟨Nat.zero_le _, Nat.zero_le _⟩ dX12_places_72 (fun r3 => ?_)
      refine g_aload_n X dX12_places_75 rfl 0 rfl ?_
      refine g_iload_n X dX12_places_76 rfl 3 rfl ?_
      refine g_bVv (As := [.int x3]) (rest := []) X (c_X12_enters l K r3 x3) lk_X12_345 rfl rfl rfl (Nat.le_of_ble_eq_true rfl) ⟨Nat.le_of_ble_eq_true rfl, Nat.le_of_ble_eq_true rfl⟩ ⟨Nat.zero_le _, Nat.zero_le _⟩ dX12_places_77 (fun r4 => ?_)
      exact g_sub [0, 1, 2] rfl (hb_80 k22 hk22 x1 x2 r4)
  have hb_32 : ∀ (k22 : Int32 → Int32 → q_MM → Option (Int32 × q_MM)) (hk22 : ∀ (x1 : Int32) (x2 : Int32) (M : q_MM), GG p l e { frames := 5, cells := 0, slots := 0, locals := 125 } s m args below meth c0 K A (qTM, qLM, qPM, M0) ad false 4 (fun res => MQ below (q_Qc K false ad (qTM, qLM, qPM, M0) ((fun (res : Int32 × q_MM) => some (.int res.1)) res) ((fun (res : Int32 × q_MM) => (qTM, qLM, qPM, res.2)) res) A) args s 0 0 A) (k22 x1 x2 M) 22 [(0, .ref 5001), (1, .int x1), (2, .int x2)] [] (qTM, qLM, qPM, M) 0 0) (nf : Nat) (x1 : Int32) (x2 : Int32) (x3 : Int32) (M : q_MM), GG p l e { frames := 5, cells := 0, slots := 0, locals := 125 } s m args below meth c0 K A (qTM, qLM, qPM, M0) ad false 4 (fun res => MQ below (q_Qc K false ad (qTM, qLM, qPM, M0) ((fun (res : Int32 × q_MM) => some (.int res.1)) res) ((fun (res : Int32 × q_MM) => (qTM, qLM, qPM, res.2)) res) A) args s 0 0 A) (b_X12_places_32 k22 nf x1 x2 x3 M) 32 [(0, .ref 5001), (1, .int x1), (2, .int x2), (3, .int x3)] [] (qTM, qLM, qPM, M) 0 0 := by
    intro k22 hk22 nf
    induction nf with
    | zero => intros; exact g_stop
    | succ nf ih =>
      intro x1 x2 x3 M
      rw [b_X12_places_32]
      refine g_iload_n X dX12_places_32 rfl 3 rfl ?_
      refine g_aload_n X dX12_places_33 rfl 0 rfl ?_
      refine g_getr X fa_X12_60 rfl rfl dX12_places_34 ?_
      refine g_iload_n X dX12_places_37 rfl 2 rfl ?_
      refine g_ild X rfl rfl dX12_places_38 (fun v5 => ?_)
      refine g_icmp_gt X 60 dX12_places_39 rfl (fun h6 => ?_) (fun h6 => ?_)
      · exact g_sub [0, 1, 2, 3] rfl (hb_60 k22 hk22 x1 x2 x3 M)
      · refine g_aload_n X dX12_places_42 rfl 0 rfl ?_
        refine g_iload_n X dX12_places_43 rfl 1 rfl ?_
        refine g_iload_n X dX12_places_44 rfl 2 rfl ?_
        refine g_iload_n X dX12_places_45 rfl 3 rfl ?_
        refine g_bipush (v := 6) X dX12_places_46 (by decide) ?_
        refine g_bVi (As := [.int x1, .int x2, .int x3, .int 6]) (rest := []) X (c_X12_wrong l K M x1 x2 x3 6) lk_X12_326 rfl rfl rfl (Nat.le_of_ble_eq_true rfl) ⟨Nat.le_of_ble_eq_true rfl, Nat.le_of_ble_eq_true rfl⟩ ⟨Nat.zero_le _, Nat.zero_le _⟩ dX12_places_48 (fun r7 => ?_)
        refine g_if_eq X 60 dX12_places_51 rfl (fun h8 => ?_) (fun h8 => ?_)
        · exact g_sub [0, 1, 2, 3] rfl (hb_60 k22 hk22 x1 x2 x3 r7.2)
        · refine g_iinc (v := 1) X [(3, .int (x3 + 1)), (0, .ref 5001), (1, .int x1), (2, .int x2)] 3 dX12_places_54 rfl (by decide) (by decide) rfl ?_
          refine g_goto X 32 dX12_places_57 rfl ?_
          exact g_sub [1, 2, 3, 0] rfl (ih x1 x2 (x3 + 1) r7.2)
  have hb_22 : ∀ (nf : Nat) (x1 : Int32) (x2 : Int32) (M : q_MM), GG p l e { frames := 5, cells := 0, slots := 0, locals := 125 } s m args below meth c0 K A (qTM, qLM, qPM, M0) ad false 4 (fun res => MQ below (q_Qc K false ad (qTM, qLM, qPM, M0) ((fun (res : Int32 × q_MM) => some (.int res.1)) res) ((fun (res : Int32 × q_MM) => (qTM, qLM, qPM, res.2)) res) A) args s 0 0 A) (b_X12_places_22 nf x1 x2 M) 22 [(0, .ref 5001), (1, .int x1), (2, .int x2)] [] (qTM, qLM, qPM, M) 0 0 := by
    intro  nf
    induction nf with
    | zero => intros; exact g_stop
    | succ nf ih =>
      intro x1 x2 M
      rw [b_X12_places_22]
      refine g_iload_n X dX12_places_22 rfl 2 rfl ?_
      refine g_aload_n X dX12_places_23 rfl 0 rfl ?_
      refine g_geti X fa_X12_21 rfl dX12_places_24 ?_
      refine g_icmp_ge X 86 dX12_places_27 rfl (fun h9 => ?_) (fun h9 => ?_)
      · refine g_aload_n X dX12_places_86 rfl 0 rfl ?_
        refine g_geti X fa_X12_11 rfl dX12_places_87 ?_
        refine g_iconst (v := 2) X dX12_places_90 (by decide) ?_
        refine g_idiv X dX12_places_91 ?_
        exact g_iret X rfl rfl rfl dX12_places_92
      · refine g_iconst (v := 0) X dX12_places_30 (by decide) ?_
        refine g_istore_n X [(3, .int 0), (0, .ref 5001), (1, .int x1), (2, .int x2)] dX12_places_31 rfl (by decide) rfl ?_
        exact g_sub [1, 2, 3, 0] rfl (hb_32 (b_X12_places_22 nf) ih q_fu x1 x2 0 M)
  refine g_sub (lv' := [(0, .ref 5001), (1, .int a1)]) [0, 1] rfl ?_
  unfold f_X12_places
  refine g_aload_n X dX12_places_0 rfl 0 rfl ?_
  refine g_iconst (v := 0) X dX12_places_1 (by decide) ?_
  refine g_pfi X fa_X12_1 rfl (by decide +kernel) rfl dX12_places_2 (fun M10 => ?_)
  refine g_aload_n X dX12_places_5 rfl 0 rfl ?_
  refine g_iload_n X dX12_places_6 rfl 1 rfl ?_
  refine g_bVi (As := [.int a1]) (rest := []) X (c_X12_isHere l K M10 a1) lk_X12_323 rfl rfl rfl (Nat.le_of_ble_eq_true rfl) ⟨Nat.le_of_ble_eq_true rfl, Nat.le_of_ble_eq_true rfl⟩ ⟨Nat.zero_le _, Nat.zero_le _⟩ dX12_places_7 (fun r11 => ?_)
  refine g_if_ne X 15 dX12_places_10 rfl (fun h12 => ?_) (fun h12 => ?_)
  · refine g_iconst (v := (-1)) X dX12_places_13 (by decide) ?_
    exact g_iret X rfl rfl rfl dX12_places_14
  · refine g_aload_n X dX12_places_15 rfl 0 rfl ?_
    refine g_iconst (v := 0) X dX12_places_16 (by decide) ?_
    refine g_pfi X fa_X12_11 rfl (by decide +kernel) rfl dX12_places_17 (fun M13 => ?_)
    refine g_iconst (v := 0) X dX12_places_20 (by decide) ?_
    refine g_istore_n X [(2, .int 0), (0, .ref 5001), (1, .int a1)] dX12_places_21 rfl (by decide) rfl ?_
    exact g_sub [1, 2, 0] rfl (hb_22 q_fu a1 0 M13)
set_option maxHeartbeats 4000000 in
set_option maxRecDepth 100000 in
theorem c_X12_of (l : Launch) (K : q_KK) (M0 : q_MM) (a1 : Int32) (a2 : Int32) : ∀ res, f_X12_of M0 a1 a2 = some res → Mt l yX12_of cX12_of 5 (some FieldType.int) 3 71 0 0 false K [.ref 5001, .int a1, .int a2] (qTM, qLM, qPM, M0) (some (.int res.1)) ((qTM, qLM, qPM, res.2)) := by
  refine Mt.of (fun (res : Int32 × q_MM) => some (.int res.1)) (fun (res : Int32 × q_MM) => (qTM, qLM, qPM, res.2)) (by decide) (Nat.le_of_ble_eq_true rfl) ?_
  intro p e s m args below meth c0 A ad X hN
  have hb_56 : ∀ (k25 : Int32 → Int32 → Int32 → Int32 → q_MM → Option (Int32 × q_MM)) (hk25 : ∀ (x1 : Int32) (x2 : Int32) (x3 : Int32) (x4 : Int32) (M : q_MM), GG p l e { frames := 3, cells := 0, slots := 0, locals := 71 } s m args below meth c0 K A (qTM, qLM, qPM, M0) ad false 5 (fun res => MQ below (q_Qc K false ad (qTM, qLM, qPM, M0) ((fun (res : Int32 × q_MM) => some (.int res.1)) res) ((fun (res : Int32 × q_MM) => (qTM, qLM, qPM, res.2)) res) A) args s 0 0 A) (k25 x1 x2 x3 x4 M) 25 [(0, .ref 5001), (1, .int x1), (2, .int x2), (3, .int x3), (4, .int x4)] [] (qTM, qLM, qPM, M) 0 0) (x1 : Int32) (x2 : Int32) (x4 : Int32) (s0 : Int32) (s1 : Int32) (M : q_MM), GG p l e { frames := 3, cells := 0, slots := 0, locals := 71 } s m args below meth c0 K A (qTM, qLM, qPM, M0) ad false 5 (fun res => MQ below (q_Qc K false ad (qTM, qLM, qPM, M0) ((fun (res : Int32 × q_MM) => some (.int res.1)) res) ((fun (res : Int32 × q_MM) => (qTM, qLM, qPM, res.2)) res) A) args s 0 0 A) (b_X12_of_56 k25 x1 x2 x4 s0 s1 M) 56 [(0, .ref 5001), (1, .int x1), (2, .int x2), (4, .int x4)] [.int s0, .int s1] (qTM, qLM, qPM, M) 0 0 := by
    intro k25 hk25 x1 x2 x4 s0 s1 M
    unfold b_X12_of_56
    refine g_isub X dX12_of_56 ?_
    refine g_isn X (fun v1 => [(3, .int v1), (0, .ref 5001), (1, .int x1), (2, .int x2), (4, .int x4)]) dX12_of_57 rfl (by decide) (fun _ => rfl) (fun v1 => ?_)
    refine g_iinc (v := 1) X [(4, .int (x4 + 1)), (3, .int v1), (0, .ref 5001), (1, .int x1), (2, .int x2)] 4 dX12_of_58 rfl (by decide) (by decide) rfl ?_
    refine g_goto X 25 dX12_of_61 rfl ?_
    exact g_sub [2, 3, 4, 1, 0] rfl (hk25 x1 x2 v1 (x4 + 1) M)
  have hb_25 : ∀ (nf : Nat) (x1 : Int32) (x2 : Int32) (x3 : Int32) (x4 : Int32) (M : q_MM), GG p l e { frames := 3, cells := 0, slots := 0, locals := 71 } s m args below meth c0 K A (qTM, qLM, qPM, M0) ad false 5 (fun res => MQ below (q_Qc K false ad (qTM, qLM, qPM, M0) ((fun (res : Int32 × q_MM) => some (.int res.1)) res) ((fun (res : Int32 × q_MM) => (qTM, qLM, qPM, res.2)) res) A) args s 0 0 A) (b_X12_of_25 nf x1 x2 x3 x4 M) 25 [(0, .ref 5001), (1, .int x1), (2, .int x2), (3, .int x3), (4, .int x4)] [] (qTM, qLM, qPM, M) 0 0 := by
    intro  nf
    induction nf with
    | zero => intros; exact g_stop
    | succ nf ih =>
      intro x1 x2 x3 x4 M
      rw [b_X12_of_25]
      refine g_iload X dX12_of_25 4 rfl ?_
      refine g_aload_n X dX12_of_27 rfl 0 rfl ?_
      refine g_geti X fa_X12_108 rfl dX12_of_28 ?_
      refine g_icmp_ge X 64 dX12_of_31 rfl (fun h2 => ?_) (fun h2 => ?_)
      · refine g_iload_n X dX12_of_64 rfl 2 rfl ?_
        refine g_case (fun h3 => ?_) (fun h3 => ?_)
        · refine g_tin (off := 31) X 96 h3 dX12_of_65 (by decide) (by decide) (by decide) rfl ?_
          refine g_aload_n X dX12_of_96 rfl 0 rfl ?_
          refine g_iload_n X dX12_of_97 rfl 1 rfl ?_
          refine g_bVi (As := [.int x1]) (rest := []) X (c_X12_daylight l K M x1) lk_X12_98 rfl rfl rfl (Nat.le_of_ble_eq_true rfl) ⟨Nat.le_of_ble_eq_true rfl, Nat.le_of_ble_eq_true rfl⟩ ⟨Nat.zero_le _, Nat.zero_le _⟩ dX12_of_98 (fun r4 => ?_)
          exact g_iret X rfl rfl rfl dX12_of_101
        · refine g_case (fun h5 => ?_) (fun h5 => ?_)
          · refine g_tin (off := 37) X 102 h5 dX12_of_65 (by decide) (by decide) (by decide) rfl ?_
            refine g_aload_n X dX12_of_102 rfl 0 rfl ?_
            refine g_iload_n X dX12_of_103 rfl 1 rfl ?_
            refine g_bVi (As := [.int x1]) (rest := []) X (c_X12_peak l K M x1) lk_X12_292 rfl rfl rfl (Nat.le_of_ble_eq_true rfl) ⟨Nat.le_of_ble_eq_true rfl, Nat.le_of_ble_eq_true rfl⟩ ⟨Nat.zero_le _, Nat.zero_le _⟩ dX12_of_104 (fun r6 => ?_)
            exact g_iret X rfl rfl rfl dX12_of_107
          · refine g_case (fun h7 => ?_) (fun h7 => ?_)
            · refine g_tin (off := 43) X 108 h7 dX12_of_65 (by decide) (by decide) (by decide) rfl ?_
              refine g_aload_n X dX12_of_108 rfl 0 rfl ?_
              refine g_iload_n X dX12_of_109 rfl 1 rfl ?_
              refine g_iconst (v := (-1)) X dX12_of_110 (by decide) ?_
              refine g_bVi (As := [.int x1, .int (-1)]) (rest := []) X (c_X12_weightOn l K M x1 (-1)) lk_X12_317 rfl rfl rfl (Nat.le_of_ble_eq_true rfl) ⟨Nat.le_of_ble_eq_true rfl, Nat.le_of_ble_eq_true rfl⟩ ⟨Nat.zero_le _, Nat.zero_le _⟩ dX12_of_111 (fun r8 => ?_)
              exact g_iret X rfl rfl rfl dX12_of_114
            · refine g_case (fun h9 => ?_) (fun h9 => ?_)
              · refine g_tin (off := 50) X 115 h9 dX12_of_65 (by decide) (by decide) (by decide) rfl ?_
                refine g_iload_n X dX12_of_115 rfl 3 rfl ?_
                exact g_iret X rfl rfl rfl dX12_of_116
              · refine g_tdef X [0, 1, 2, 3] 117 (List.forall_mem_cons.mpr ⟨h3, (List.forall_mem_cons.mpr ⟨h5, (List.forall_mem_cons.mpr ⟨h7, (List.forall_mem_cons.mpr ⟨h9, (fun _ z => nomatch z)⟩)⟩)⟩)⟩) dX12_of_65 (by decide) rfl ?_
                refine g_iconst (v := (-1)) X dX12_of_117 (by decide) ?_
                exact g_iret X rfl rfl rfl dX12_of_118
      · refine g_iload_n X dX12_of_34 rfl 3 rfl ?_
        refine g_aload_n X dX12_of_35 rfl 0 rfl ?_
        refine g_iload X dX12_of_36 4 rfl ?_
        refine g_iload_n X dX12_of_38 rfl 1 rfl ?_
        refine g_bVi (As := [.int x4, .int x1]) (rest := [.int x3]) X (c_X12_isOn l K M x4 x1) lk_X12_173 rfl rfl rfl (Nat.le_of_ble_eq_true rfl) ⟨Nat.le_of_ble_eq_true rfl, Nat.le_of_ble_eq_true rfl⟩ ⟨Nat.zero_le _, Nat.zero_le _⟩ dX12_of_39 (fun r10 => ?_)
        refine g_if_eq X 55 dX12_of_42 rfl (fun h11 => ?_) (fun h11 => ?_)
        · refine g_iconst (v := 0) X dX12_of_55 (by decide) ?_
          exact g_sub [0, 1, 2, 4] rfl (hb_56 (b_X12_of_25 nf) ih x1 x2 x4 0 x3 M)
        · refine g_aload_n X dX12_of_45 rfl 0 rfl ?_
          refine g_getr X fa_X12_121 rfl rfl dX12_of_46 ?_
          refine g_iload X dX12_of_49 4 rfl ?_
          refine g_ild X rfl rfl dX12_of_51 (fun v12 => ?_)
          refine g_goto X 56 dX12_of_52 rfl ?_
          exact g_sub [0, 1, 2, 4] rfl (hb_56 (b_X12_of_25 nf) ih x1 x2 x4 v12 x3 M)
  refine g_sub (lv' := [(0, .ref 5001), (1, .int a1), (2, .int a2)]) [0, 1, 2] rfl ?_
  unfold f_X12_of
  refine g_aload_n X dX12_of_0 rfl 0 rfl ?_
  refine g_iconst (v := 0) X dX12_of_1 (by decide) ?_
  refine g_pfi X fa_X12_1 rfl (by decide +kernel) rfl dX12_of_2 (fun M13 => ?_)
  refine g_aload_n X dX12_of_5 rfl 0 rfl ?_
  refine g_iload_n X dX12_of_6 rfl 1 rfl ?_
  refine g_bVi (As := [.int a1]) (rest := []) X (c_X12_isWall l K M13 a1) lk_X12_90 rfl rfl rfl (Nat.le_of_ble_eq_true rfl) ⟨Nat.le_of_ble_eq_true rfl, Nat.le_of_ble_eq_true rfl⟩ ⟨Nat.zero_le _, Nat.zero_le _⟩ dX12_of_7 (fun r14 => ?_)
  refine g_if_ne X 15 dX12_of_10 rfl (fun h15 => ?_) (fun h15 => ?_)
  · refine g_iconst (v := (-1)) X dX12_of_13 (by decide) ?_
    exact g_iret X rfl rfl rfl dX12_of_14
  · refine g_aload_n X dX12_of_15 rfl 0 rfl ?_
    refine g_getr X fa_X12_60 rfl rfl dX12_of_16 ?_
    refine g_iload_n X dX12_of_19 rfl 1 rfl ?_
    refine g_ild X rfl rfl dX12_of_20 (fun v16 => ?_)
    refine g_istore_n X [(3, .int v16), (0, .ref 5001), (1, .int a1), (2, .int a2)] dX12_of_21 rfl (by decide) rfl ?_
    refine g_iconst (v := 0) X dX12_of_22 (by decide) ?_
    refine g_istore X [(4, .int 0), (3, .int v16), (0, .ref 5001), (1, .int a1), (2, .int a2)] dX12_of_23 (by decide) rfl ?_
    exact g_sub [2, 3, 4, 1, 0] rfl (hb_25 q_fu a1 a2 v16 0 M13)
set_option maxHeartbeats 4000000 in
set_option maxRecDepth 100000 in
theorem c_X12_step (l : Launch) (K : q_KK) (M0 : q_MM) (a1 : Int32) : ∀ res, f_X12_step M0 a1 = some res → Mt l yX12_step cX12_step 4 (some FieldType.int) 3 71 0 0 false K [.ref 5001, .int a1] (qTM, qLM, qPM, M0) (some (.int res.1)) ((qTM, qLM, qPM, res.2)) := by
  refine Mt.of (fun (res : Int32 × q_MM) => some (.int res.1)) (fun (res : Int32 × q_MM) => (qTM, qLM, qPM, res.2)) (by decide) (Nat.le_of_ble_eq_true rfl) ?_
  intro p e s m args below meth c0 A ad X hN
  have hb_93 : ∀ (k40 : Int32 → Int32 → Int32 → q_MM → Option (Int32 × q_MM)) (hk40 : ∀ (x1 : Int32) (x2 : Int32) (x3 : Int32) (M : q_MM), GG p l e { frames := 3, cells := 0, slots := 0, locals := 71 } s m args below meth c0 K A (qTM, qLM, qPM, M0) ad false 4 (fun res => MQ below (q_Qc K false ad (qTM, qLM, qPM, M0) ((fun (res : Int32 × q_MM) => some (.int res.1)) res) ((fun (res : Int32 × q_MM) => (qTM, qLM, qPM, res.2)) res) A) args s 0 0 A) (k40 x1 x2 x3 M) 40 [(0, .ref 5001), (1, .int x1), (2, .int x2), (3, .int x3)] [] (qTM, qLM, qPM, M) 0 0) (x1 : Int32) (x2 : Int32) (x3 : Int32) (M : q_MM), GG p l e { frames := 3, cells := 0, slots := 0, locals := 71 } s m args below meth c0 K A (qTM, qLM, qPM, M0) ad false 4 (fun res => MQ below (q_Qc K false ad (qTM, qLM, qPM, M0) ((fun (res : Int32 × q_MM) => some (.int res.1)) res) ((fun (res : Int32 × q_MM) => (qTM, qLM, qPM, res.2)) res) A) args s 0 0 A) (b_X12_step_93 k40 x1 x2 x3 M) 93 [(0, .ref 5001), (1, .int x1), (2, .int x2), (3, .int x3)] [] (qTM, qLM, qPM, M) 0 0 := by
    intro k40 hk40 x1 x2 x3 M
    unfold b_X12_step_93
    refine g_iinc (v := 1) X [(3, .int (x3 + 1)), (0, .ref 5001), (1, .int x1), (2, .int x2)] 3 dX12_step_93 rfl (by decide) (by decide) rfl ?_
    refine g_goto X 40 dX12_step_96 rfl ?_
    exact g_sub [1, 2, 3, 0] rfl (hk40 x1 x2 (x3 + 1) M)
  have hb_138 : ∀ (k111 : Int32 → Int32 → Int32 → q_MM → Option (Int32 × q_MM)) (hk111 : ∀ (x1 : Int32) (x2 : Int32) (x3 : Int32) (M : q_MM), GG p l e { frames := 3, cells := 0, slots := 0, locals := 71 } s m args below meth c0 K A (qTM, qLM, qPM, M0) ad false 4 (fun res => MQ below (q_Qc K false ad (qTM, qLM, qPM, M0) ((fun (res : Int32 × q_MM) => some (.int res.1)) res) ((fun (res : Int32 × q_MM) => (qTM, qLM, qPM, res.2)) res) A) args s 0 0 A) (k111 x1 x2 x3 M) 111 [(0, .ref 5001), (1, .int x1), (2, .int x2), (3, .int x3)] [] (qTM, qLM, qPM, M) 0 0) (x1 : Int32) (x2 : Int32) (x3 : Int32) (M : q_MM), GG p l e { frames := 3, cells := 0, slots := 0, locals := 71 } s m args below meth c0 K A (qTM, qLM, qPM, M0) ad false 4 (fun res => MQ below (q_Qc K false ad (qTM, qLM, qPM, M0) ((fun (res : Int32 × q_MM) => some (.int res.1)) res) ((fun (res : Int32 × q_MM) => (qTM, qLM, qPM, res.2)) res) A) args s 0 0 A) (b_X12_step_138 k111 x1 x2 x3 M) 138 [(0, .ref 5001), (1, .int x1), (2, .int x2), (3, .int x3)] [] (qTM, qLM, qPM, M) 0 0 := by
    intro k111 hk111 x1 x2 x3 M
    unfold b_X12_step_138
    refine g_iinc (v := 1) X [(3, .int (x3 + 1)), (0, .ref 5001), (1, .int x1), (2, .int x2)] 3 dX12_step_138 rfl (by decide) (by decide) rfl ?_
    refine g_goto X 111 dX12_step_141 rfl ?_
    exact g_sub [1, 2, 3, 0] rfl (hk111 x1 x2 (x3 + 1) M)
  have hb_111 : ∀ (k33 : Int32 → Int32 → q_MM → Option (Int32 × q_MM)) (hk33 : ∀ (x1 : Int32) (x2 : Int32) (M : q_MM), GG p l e { frames := 3, cells := 0, slots := 0, locals := 71 } s m args below meth c0 K A (qTM, qLM, qPM, M0) ad false 4 (fun res => MQ below (q_Qc K false ad (qTM, qLM, qPM, M0) ((fun (res : Int32 × q_MM) => some (.int res.1)) res) ((fun (res : Int32 × q_MM) => (qTM, qLM, qPM, res.2)) res) A) args s 0 0 A) (k33 x1 x2 M) 33 [(0, .ref 5001), (1, .int x1), (2, .int x2)] [] (qTM, qLM, qPM, M) 0 0) (nf : Nat) (x1 : Int32) (x2 : Int32) (x3 : Int32) (M : q_MM), GG p l e { frames := 3, cells := 0, slots := 0, locals := 71 } s m args below meth c0 K A (qTM, qLM, qPM, M0) ad false 4 (fun res => MQ below (q_Qc K false ad (qTM, qLM, qPM, M0) ((fun (res : Int32 × q_MM) => some (.int res.1)) res) ((fun (res : Int32 × q_MM) => (qTM, qLM, qPM, res.2)) res) A) args s 0 0 A) (b_X12_step_111 k33 nf x1 x2 x3 M) 111 [(0, .ref 5001), (1, .int x1), (2, .int x2), (3, .int x3)] [] (qTM, qLM, qPM, M) 0 0 := by
    intro k33 hk33 nf
    induction nf with
    | zero => intros; exact g_stop
    | succ nf ih =>
      intro x1 x2 x3 M
      rw [b_X12_step_111]
      refine g_iload_n X dX12_step_111 rfl 3 rfl ?_
      refine g_aload_n X dX12_step_112 rfl 0 rfl ?_
      refine g_geti X fa_X12_108 rfl dX12_step_113 ?_
      refine g_icmp_ge X 144 dX12_step_116 rfl (fun h1 => ?_) (fun h1 => ?_)
      · refine g_iinc (v := 1) X [(2, .int (x2 + 1)), (0, .ref 5001), (1, .int x1), (3, .int x3)] 2 dX12_step_144 rfl (by decide) (by decide) rfl ?_
        refine g_goto X 33 dX12_step_147 rfl ?_
        exact g_sub [1, 2, 0] rfl (hk33 x1 (x2 + 1) M)
      · refine g_aload_n X dX12_step_119 rfl 0 rfl ?_
        refine g_getr X fa_X12_152 rfl rfl dX12_step_120 ?_
        refine g_iload_n X dX12_step_123 rfl 3 rfl ?_
        refine g_ild X rfl rfl dX12_step_124 (fun v2 => ?_)
        refine g_aload_n X dX12_step_125 rfl 0 rfl ?_
        refine g_geti X fa_X12_259 rfl dX12_step_126 ?_
        refine g_icmp_gt X 138 dX12_step_129 rfl (fun h3 => ?_) (fun h3 => ?_)
        · exact g_sub [0, 1, 2, 3] rfl (hb_138 (b_X12_step_111 k33 nf) ih x1 x2 x3 M)
        · refine g_aload_n X dX12_step_132 rfl 0 rfl ?_
          refine g_iload_n X dX12_step_133 rfl 3 rfl ?_
          refine g_iconst (v := 3) X dX12_step_134 (by decide) ?_
          refine g_bVv (As := [.int x3, .int 3]) (rest := []) X (c_X12_takes l K M x3 3) lk_X12_334 rfl rfl rfl (Nat.le_of_ble_eq_true rfl) ⟨Nat.le_of_ble_eq_true rfl, Nat.le_of_ble_eq_true rfl⟩ ⟨Nat.zero_le _, Nat.zero_le _⟩ dX12_step_135 (fun r4 => ?_)
          exact g_sub [0, 1, 2, 3] rfl (hb_138 (b_X12_step_111 k33 nf) ih x1 x2 x3 r4)
  have hb_40 : ∀ (k33 : Int32 → Int32 → q_MM → Option (Int32 × q_MM)) (hk33 : ∀ (x1 : Int32) (x2 : Int32) (M : q_MM), GG p l e { frames := 3, cells := 0, slots := 0, locals := 71 } s m args below meth c0 K A (qTM, qLM, qPM, M0) ad false 4 (fun res => MQ below (q_Qc K false ad (qTM, qLM, qPM, M0) ((fun (res : Int32 × q_MM) => some (.int res.1)) res) ((fun (res : Int32 × q_MM) => (qTM, qLM, qPM, res.2)) res) A) args s 0 0 A) (k33 x1 x2 M) 33 [(0, .ref 5001), (1, .int x1), (2, .int x2)] [] (qTM, qLM, qPM, M) 0 0) (nf : Nat) (x1 : Int32) (x2 : Int32) (x3 : Int32) (M : q_MM), GG p l e { frames := 3, cells := 0, slots := 0, locals := 71 } s m args below meth c0 K A (qTM, qLM, qPM, M0) ad false 4 (fun res => MQ below (q_Qc K false ad (qTM, qLM, qPM, M0) ((fun (res : Int32 × q_MM) => some (.int res.1)) res) ((fun (res : Int32 × q_MM) => (qTM, qLM, qPM, res.2)) res) A) args s 0 0 A) (b_X12_step_40 k33 nf x1 x2 x3 M) 40 [(0, .ref 5001), (1, .int x1), (2, .int x2), (3, .int x3)] [] (qTM, qLM, qPM, M) 0 0 := by
    intro k33 hk33 nf
    induction nf with
    | zero => intros; exact g_stop
    | succ nf ih =>
      intro x1 x2 x3 M
      rw [b_X12_step_40]
      refine g_iload_n X dX12_step_40 rfl 3 rfl ?_
      refine g_aload_n X dX12_step_41 rfl 0 rfl ?_
      refine g_geti X fa_X12_108 rfl dX12_step_42 ?_
      refine g_icmp_ge X 99 dX12_step_45 rfl (fun h5 => ?_) (fun h5 => ?_)
      · refine g_aload_n X dX12_step_99 rfl 0 rfl ?_
        refine g_dup X dX12_step_100 rfl ?_
        refine g_geti X fa_X12_259 rfl dX12_step_101 ?_
        refine g_iconst (v := 1) X dX12_step_104 (by decide) ?_
        refine g_iadd X dX12_step_105 ?_
        refine g_pfi X fa_X12_259 rfl (by decide +kernel) rfl dX12_step_106 (fun M6 => ?_)
        refine g_iconst (v := 0) X dX12_step_109 (by decide) ?_
        refine g_istore_n X [(3, .int 0), (0, .ref 5001), (1, .int x1), (2, .int x2)] dX12_step_110 rfl (by decide) rfl ?_
        exact g_sub [1, 2, 3, 0] rfl (hb_111 k33 hk33 q_fu x1 x2 0 M6)
      · refine g_aload_n X dX12_step_48 rfl 0 rfl ?_
        refine g_getr X fa_X12_170 rfl rfl dX12_step_49 ?_
        refine g_iload_n X dX12_step_52 rfl 3 rfl ?_
        refine g_ild X rfl rfl dX12_step_53 (fun v7 => ?_)
        refine g_iconst (v := 1) X dX12_step_54 (by decide) ?_
        refine g_icmp_ne X 93 dX12_step_55 rfl (fun h8 => ?_) (fun h8 => ?_)
        · refine g_aload_n X dX12_step_58 rfl 0 rfl ?_
          refine g_getr X fa_X12_298 rfl rfl dX12_step_59 ?_
          refine g_iload_n X dX12_step_62 rfl 3 rfl ?_
          refine g_dup2 X dX12_step_63 rfl rfl ?_
          refine g_ild X rfl rfl dX12_step_64 (fun v9 => ?_)
          refine g_aload_n X dX12_step_65 rfl 0 rfl ?_
          refine g_aload_n X dX12_step_66 rfl 0 rfl ?_
          refine g_getr X fa_X12_155 rfl rfl dX12_step_67 ?_
          refine g_iload_n X dX12_step_70 rfl 3 rfl ?_
          refine g_ild X rfl rfl dX12_step_71 (fun v10 => ?_)
          refine g_bVi (As := [.int v10]) (rest := [.int v9, .int x3, .ref 5043]) X (c_X12_daylight l K M v10) lk_X12_98 rfl rfl rfl (Nat.le_of_ble_eq_true rfl) ⟨Nat.le_of_ble_eq_true rfl, Nat.le_of_ble_eq_true rfl⟩ ⟨Nat.zero_le _, Nat.zero_le _⟩ dX12_step_72 (fun r11 => ?_)
          refine g_iadd X dX12_step_75 ?_
          refine g_isv X rfl rfl dX12_step_76 (fun M12 => ?_)
          refine g_aload_n X dX12_step_77 rfl 0 rfl ?_
          refine g_getr X fa_X12_348 rfl rfl dX12_step_78 ?_
          refine g_sipush (v := 400) X dX12_step_81 (by decide) ?_
          refine g_iload_n X dX12_step_84 rfl 3 rfl ?_
          refine g_imul X dX12_step_85 ?_
          refine g_aload_n X dX12_step_86 rfl 0 rfl ?_
          refine g_geti X fa_X12_259 rfl dX12_step_87 ?_
          refine g_iadd X dX12_step_90 ?_
          refine g_iconst (v := 1) X dX12_step_91 (by decide) ?_
          refine g_bsv X rfl rfl dX12_step_92 (fun M13 => ?_)
          exact g_sub [0, 1, 2, 3] rfl (hb_93 (b_X12_step_40 k33 nf) ih x1 x2 x3 M13)
        · exact g_sub [0, 1, 2, 3] rfl (hb_93 (b_X12_step_40 k33 nf) ih x1 x2 x3 M)
  have hb_33 : ∀ (nf : Nat) (x1 : Int32) (x2 : Int32) (M : q_MM), GG p l e { frames := 3, cells := 0, slots := 0, locals := 71 } s m args below meth c0 K A (qTM, qLM, qPM, M0) ad false 4 (fun res => MQ below (q_Qc K false ad (qTM, qLM, qPM, M0) ((fun (res : Int32 × q_MM) => some (.int res.1)) res) ((fun (res : Int32 × q_MM) => (qTM, qLM, qPM, res.2)) res) A) args s 0 0 A) (b_X12_step_33 nf x1 x2 M) 33 [(0, .ref 5001), (1, .int x1), (2, .int x2)] [] (qTM, qLM, qPM, M) 0 0 := by
    intro  nf
    induction nf with
    | zero => intros; exact g_stop
    | succ nf ih =>
      intro x1 x2 M
      rw [b_X12_step_33]
      refine g_iload_n X dX12_step_33 rfl 2 rfl ?_
      refine g_iload_n X dX12_step_34 rfl 1 rfl ?_
      refine g_icmp_ge X 150 dX12_step_35 rfl (fun h14 => ?_) (fun h14 => ?_)
      · refine g_aload_n X dX12_step_150 rfl 0 rfl ?_
        refine g_geti X fa_X12_259 rfl dX12_step_151 ?_
        exact g_iret X rfl rfl rfl dX12_step_154
      · refine g_iconst (v := 0) X dX12_step_38 (by decide) ?_
        refine g_istore_n X [(3, .int 0), (0, .ref 5001), (1, .int x1), (2, .int x2)] dX12_step_39 rfl (by decide) rfl ?_
        exact g_sub [1, 2, 3, 0] rfl (hb_40 (b_X12_step_33 nf) ih q_fu x1 x2 0 M)
  refine g_sub (lv' := [(0, .ref 5001), (1, .int a1)]) [0, 1] rfl ?_
  unfold f_X12_step
  refine g_aload_n X dX12_step_0 rfl 0 rfl ?_
  refine g_iconst (v := 0) X dX12_step_1 (by decide) ?_
  refine g_pfi X fa_X12_1 rfl (by decide +kernel) rfl dX12_step_2 (fun M15 => ?_)
  refine g_iload_n X dX12_step_5 rfl 1 rfl ?_
  refine g_i2l X dX12_step_6 ?_
  refine g_lconst (v := 0) X dX12_step_7 (by decide) ?_
  refine g_ldc2 (v := 100) X wc_X12_32 dX12_step_8 ?_
  refine g_bSi (As := [.long (Int32.toInt64 a1), .long 0, .long 100]) (rest := []) X (c_X12_in l K M15 (Int32.toInt64 a1) 0 100) lk_X12_17 rfl rfl (Nat.le_of_ble_eq_true rfl) ⟨Nat.le_of_ble_eq_true rfl, Nat.le_of_ble_eq_true rfl⟩ ⟨Nat.zero_le _, Nat.zero_le _⟩ dX12_step_11 (fun r16 => ?_)
  refine g_if_eq X 29 dX12_step_14 rfl (fun h17 => ?_) (fun h17 => ?_)
  · refine g_iconst (v := (-1)) X dX12_step_29 (by decide) ?_
    exact g_iret X rfl rfl rfl dX12_step_30
  · refine g_aload_n X dX12_step_17 rfl 0 rfl ?_
    refine g_geti X fa_X12_259 rfl dX12_step_18 ?_
    refine g_iload_n X dX12_step_21 rfl 1 rfl ?_
    refine g_iadd X dX12_step_22 ?_
    refine g_sipush (v := 400) X dX12_step_23 (by decide) ?_
    refine g_icmp_le X 31 dX12_step_26 rfl (fun h18 => ?_) (fun h18 => ?_)
    · refine g_iconst (v := 0) X dX12_step_31 (by decide) ?_
      refine g_istore_n X [(2, .int 0), (0, .ref 5001), (1, .int a1)] dX12_step_32 rfl (by decide) rfl ?_
      exact g_sub [1, 2, 0] rfl (hb_33 q_fu a1 0 M15)
    · refine g_iconst (v := (-1)) X dX12_step_29 (by decide) ?_
      exact g_iret X rfl rfl rfl dX12_step_30
set_option maxHeartbeats 4000000 in
set_option maxRecDepth 100000 in
theorem c_X12_fades (l : Launch) (K : q_KK) (M0 : q_MM) (a1 : Int32) : ∀ res, f_X12_fades M0 a1 = some res → Mt l yX12_fades cX12_fades 6 (some FieldType.int) 3 71 0 0 false K [.ref 5001, .int a1] (qTM, qLM, qPM, M0) (some (.int res.1)) ((qTM, qLM, qPM, res.2)) := by
  refine Mt.of (fun (res : Int32 × q_MM) => some (.int res.1)) (fun (res : Int32 × q_MM) => (qTM, qLM, qPM, res.2)) (by decide) (Nat.le_of_ble_eq_true rfl) ?_
  intro p e s m args below meth c0 A ad X hN
  have hb_79 : ∀ (k51 : Int32 → Int64 → Int32 → Int32 → q_MM → Option (Int32 × q_MM)) (hk51 : ∀ (x1 : Int32) (x2 : Int64) (x4 : Int32) (x5 : Int32) (M : q_MM), GG p l e { frames := 3, cells := 0, slots := 0, locals := 71 } s m args below meth c0 K A (qTM, qLM, qPM, M0) ad false 6 (fun res => MQ below (q_Qc K false ad (qTM, qLM, qPM, M0) ((fun (res : Int32 × q_MM) => some (.int res.1)) res) ((fun (res : Int32 × q_MM) => (qTM, qLM, qPM, res.2)) res) A) args s 0 0 A) (k51 x1 x2 x4 x5 M) 51 [(0, .ref 5001), (1, .int x1), (2, .long x2), (4, .int x4), (5, .int x5)] [] (qTM, qLM, qPM, M) 0 0) (x1 : Int32) (x4 : Int32) (x5 : Int32) (s0 : Int64) (s1 : Int64) (M : q_MM), GG p l e { frames := 3, cells := 0, slots := 0, locals := 71 } s m args below meth c0 K A (qTM, qLM, qPM, M0) ad false 6 (fun res => MQ below (q_Qc K false ad (qTM, qLM, qPM, M0) ((fun (res : Int32 × q_MM) => some (.int res.1)) res) ((fun (res : Int32 × q_MM) => (qTM, qLM, qPM, res.2)) res) A) args s 0 0 A) (b_X12_fades_79 k51 x1 x4 x5 s0 s1 M) 79 [(0, .ref 5001), (1, .int x1), (4, .int x4), (5, .int x5)] [.long s0, .long s1] (qTM, qLM, qPM, M) 0 0 := by
    intro k51 hk51 x1 x4 x5 s0 s1 M
    unfold b_X12_fades_79
    refine g_ladd X dX12_fades_79 ?_
    refine g_lstore_n X [(2, .long (s1 + s0)), (0, .ref 5001), (1, .int x1), (4, .int x4), (5, .int x5)] dX12_fades_80 rfl (by decide) rfl ?_
    refine g_lload_n X dX12_fades_81 rfl 0 rfl ?_
    refine g_aload_n X dX12_fades_82 rfl 1 rfl ?_
    refine g_getr X fa_X12_148 rfl rfl dX12_fades_83 ?_
    refine g_iload_n X dX12_fades_86 rfl 2 rfl ?_
    refine g_ild X rfl rfl dX12_fades_87 (fun v1 => ?_)
    refine g_i2l X dX12_fades_88 ?_
    refine g_lcmp X dX12_fades_89 ?_
    refine g_if_le X 96 dX12_fades_90 rfl (fun h2 => ?_) (fun h2 => ?_)
    · refine g_iinc (v := 1) X [(5, .int (x5 + 1)), (2, .long (s1 + s0)), (0, .ref 5001), (1, .int x1), (4, .int x4)] 4 dX12_fades_96 rfl (by decide) (by decide) rfl ?_
      refine g_goto X 51 dX12_fades_99 rfl ?_
      exact g_sub [2, 3, 1, 4, 0] rfl (hk51 x1 (s1 + s0) x4 (x5 + 1) M)
    · refine g_iload X dX12_fades_93 4 rfl ?_
      exact g_iret X rfl rfl rfl dX12_fades_95
  have hb_51 : ∀ (nf : Nat) (x1 : Int32) (x2 : Int64) (x4 : Int32) (x5 : Int32) (M : q_MM), GG p l e { frames := 3, cells := 0, slots := 0, locals := 71 } s m args below meth c0 K A (qTM, qLM, qPM, M0) ad false 6 (fun res => MQ below (q_Qc K false ad (qTM, qLM, qPM, M0) ((fun (res : Int32 × q_MM) => some (.int res.1)) res) ((fun (res : Int32 × q_MM) => (qTM, qLM, qPM, res.2)) res) A) args s 0 0 A) (b_X12_fades_51 nf x1 x2 x4 x5 M) 51 [(0, .ref 5001), (1, .int x1), (2, .long x2), (4, .int x4), (5, .int x5)] [] (qTM, qLM, qPM, M) 0 0 := by
    intro  nf
    induction nf with
    | zero => intros; exact g_stop
    | succ nf ih =>
      intro x1 x2 x4 x5 M
      rw [b_X12_fades_51]
      refine g_iload X dX12_fades_51 4 rfl ?_
      refine g_sipush (v := 400) X dX12_fades_53 (by decide) ?_
      refine g_icmp_ge X 102 dX12_fades_56 rfl (fun h3 => ?_) (fun h3 => ?_)
      · refine g_iconst (v := (-1)) X dX12_fades_102 (by decide) ?_
        exact g_iret X rfl rfl rfl dX12_fades_103
      · refine g_lload_n X dX12_fades_59 rfl 2 rfl ?_
        refine g_lload_n X dX12_fades_60 rfl 2 rfl ?_
        refine g_aload_n X dX12_fades_61 rfl 0 rfl ?_
        refine g_getr X fa_X12_148 rfl rfl dX12_fades_62 ?_
        refine g_iload_n X dX12_fades_65 rfl 1 rfl ?_
        refine g_ild X rfl rfl dX12_fades_66 (fun v4 => ?_)
        refine g_i2l X dX12_fades_67 ?_
        refine g_lcmp X dX12_fades_68 ?_
        refine g_if_le X 76 dX12_fades_69 rfl (fun h5 => ?_) (fun h5 => ?_)
        · refine g_iload X dX12_fades_76 3 rfl ?_
          refine g_i2l X dX12_fades_78 ?_
          exact g_sub [0, 1, 3, 4] rfl (hb_79 (b_X12_fades_51 nf) ih x1 x4 x5 (Int32.toInt64 x4) x2 M)
        · refine g_lconst (v := 0) X dX12_fades_72 (by decide) ?_
          refine g_goto X 79 dX12_fades_73 rfl ?_
          exact g_sub [0, 1, 3, 4] rfl (hb_79 (b_X12_fades_51 nf) ih x1 x4 x5 0 x2 M)
  refine g_sub (lv' := [(0, .ref 5001), (1, .int a1)]) [0, 1] rfl ?_
  unfold f_X12_fades
  refine g_aload_n X dX12_fades_0 rfl 0 rfl ?_
  refine g_iconst (v := 0) X dX12_fades_1 (by decide) ?_
  refine g_pfi X fa_X12_1 rfl (by decide +kernel) rfl dX12_fades_2 (fun M6 => ?_)
  refine g_aload_n X dX12_fades_5 rfl 0 rfl ?_
  refine g_iload_n X dX12_fades_6 rfl 1 rfl ?_
  refine g_bVi (As := [.int a1]) (rest := []) X (c_X12_isPicture l K M6 a1) lk_X12_161 rfl rfl rfl (Nat.le_of_ble_eq_true rfl) ⟨Nat.le_of_ble_eq_true rfl, Nat.le_of_ble_eq_true rfl⟩ ⟨Nat.zero_le _, Nat.zero_le _⟩ dX12_fades_7 (fun r7 => ?_)
  refine g_if_eq X 23 dX12_fades_10 rfl (fun h8 => ?_) (fun h8 => ?_)
  · refine g_iconst (v := (-1)) X dX12_fades_23 (by decide) ?_
    exact g_iret X rfl rfl rfl dX12_fades_24
  · refine g_aload_n X dX12_fades_13 rfl 0 rfl ?_
    refine g_getr X fa_X12_170 rfl rfl dX12_fades_14 ?_
    refine g_iload_n X dX12_fades_17 rfl 1 rfl ?_
    refine g_ild X rfl rfl dX12_fades_18 (fun v9 => ?_)
    refine g_iconst (v := 1) X dX12_fades_19 (by decide) ?_
    refine g_icmp_eq X 25 dX12_fades_20 rfl (fun h10 => ?_) (fun h10 => ?_)
    · refine g_aload_n X dX12_fades_25 rfl 0 rfl ?_
      refine g_getr X fa_X12_298 rfl rfl dX12_fades_26 ?_
      refine g_iload_n X dX12_fades_29 rfl 1 rfl ?_
      refine g_ild X rfl rfl dX12_fades_30 (fun v11 => ?_)
      refine g_i2l X dX12_fades_31 ?_
      refine g_lstore_n X [(2, .long (Int32.toInt64 v11)), (0, .ref 5001), (1, .int a1)] dX12_fades_32 rfl (by decide) rfl ?_
      refine g_aload_n X dX12_fades_33 rfl 1 rfl ?_
      refine g_aload_n X dX12_fades_34 rfl 1 rfl ?_
      refine g_getr X fa_X12_155 rfl rfl dX12_fades_35 ?_
      refine g_iload_n X dX12_fades_38 rfl 2 rfl ?_
      refine g_ild X rfl rfl dX12_fades_39 (fun v12 => ?_)
      refine g_bVi (As := [.int v12]) (rest := []) X (c_X12_daylight l K M6 v12) lk_X12_98 rfl rfl rfl (Nat.le_of_ble_eq_true rfl) ⟨Nat.le_of_ble_eq_true rfl, Nat.le_of_ble_eq_true rfl⟩ ⟨Nat.zero_le _, Nat.zero_le _⟩ dX12_fades_40 (fun r13 => ?_)
      refine g_istore X [(4, .int r13), (2, .long (Int32.toInt64 v11)), (0, .ref 5001), (1, .int a1)] dX12_fades_43 (by decide) rfl ?_
      refine g_aload_n X dX12_fades_45 rfl 2 rfl ?_
      refine g_geti X fa_X12_259 rfl dX12_fades_46 ?_
      refine g_is X (fun v14 => [(5, .int v14), (4, .int r13), (2, .long (Int32.toInt64 v11)), (0, .ref 5001), (1, .int a1)]) dX12_fades_49 (by decide) (fun _ => rfl) (fun v14 => ?_)
      exact g_sub [3, 4, 2, 1, 0] rfl (hb_51 q_fu a1 (Int32.toInt64 v11) r13 v14 M6)
    · refine g_iconst (v := (-1)) X dX12_fades_23 (by decide) ?_
      exact g_iret X rfl rfl rfl dX12_fades_24
set_option maxHeartbeats 4000000 in
set_option maxRecDepth 100000 in
theorem c_X12_shown (l : Launch) (K : q_KK) (M0 : q_MM) (a1 : Int32) (a2 : Int32) (a3 : Int32) : ∀ res, f_X12_shown M0 a1 a2 a3 = some res → Mt l yX12_shown cX12_shown 6 (some FieldType.int) 2 46 0 0 false K [.ref 5001, .int a1, .int a2, .int a3] (qTM, qLM, qPM, M0) (some (.int res.1)) ((qTM, qLM, qPM, res.2)) := by
  refine Mt.of (fun (res : Int32 × q_MM) => some (.int res.1)) (fun (res : Int32 × q_MM) => (qTM, qLM, qPM, res.2)) (by decide) (Nat.le_of_ble_eq_true rfl) ?_
  intro p e s m args below meth c0 A ad X hN
  have hb_46 : ∀ (nf : Nat) (x1 : Int32) (x3 : Int32) (x4 : Int32) (x5 : Int32) (M : q_MM), GG p l e { frames := 2, cells := 0, slots := 0, locals := 46 } s m args below meth c0 K A (qTM, qLM, qPM, M0) ad false 6 (fun res => MQ below (q_Qc K false ad (qTM, qLM, qPM, M0) ((fun (res : Int32 × q_MM) => some (.int res.1)) res) ((fun (res : Int32 × q_MM) => (qTM, qLM, qPM, res.2)) res) A) args s 0 0 A) (b_X12_shown_46 nf x1 x3 x4 x5 M) 46 [(0, .ref 5001), (1, .int x1), (3, .int x3), (4, .int x4), (5, .int x5)] [] (qTM, qLM, qPM, M) 0 0 := by
    intro  nf
    induction nf with
    | zero => intros; exact g_stop
    | succ nf ih =>
      intro x1 x3 x4 x5 M
      rw [b_X12_shown_46]
      refine g_iload X dX12_shown_46 4 rfl ?_
      refine g_iload_n X dX12_shown_48 rfl 2 rfl ?_
      refine g_icmp_ge X 79 dX12_shown_49 rfl (fun h1 => ?_) (fun h1 => ?_)
      · refine g_iload X dX12_shown_79 3 rfl ?_
        exact g_iret X rfl rfl rfl dX12_shown_81
      · refine g_iload X dX12_shown_52 3 rfl ?_
        refine g_aload_n X dX12_shown_54 rfl 0 rfl ?_
        refine g_getr X fa_X12_348 rfl rfl dX12_shown_55 ?_
        refine g_sipush (v := 400) X dX12_shown_58 (by decide) ?_
        refine g_iload_n X dX12_shown_61 rfl 1 rfl ?_
        refine g_imul X dX12_shown_62 ?_
        refine g_iload X dX12_shown_63 4 rfl ?_
        refine g_iadd X dX12_shown_65 ?_
        refine g_bld X rfl rfl dX12_shown_66 (fun v2 => ?_)
        refine g_bSi (As := [.int v2]) (rest := [.int x4]) X (c_X12_truth l K M v2) lk_X12_268 rfl rfl (Nat.le_of_ble_eq_true rfl) ⟨Nat.le_of_ble_eq_true rfl, Nat.le_of_ble_eq_true rfl⟩ ⟨Nat.zero_le _, Nat.zero_le _⟩ dX12_shown_67 (fun r3 => ?_)
        refine g_iadd X dX12_shown_70 ?_
        refine g_is X (fun v4 => [(4, .int v4), (0, .ref 5001), (1, .int x1), (3, .int x3), (5, .int x5)]) dX12_shown_71 (by decide) (fun _ => rfl) (fun v4 => ?_)
        refine g_iinc (v := 1) X [(5, .int (x5 + 1)), (4, .int v4), (0, .ref 5001), (1, .int x1), (3, .int x3)] 4 dX12_shown_73 rfl (by decide) (by decide) rfl ?_
        refine g_goto X 46 dX12_shown_76 rfl ?_
        exact g_sub [2, 3, 4, 1, 0] rfl (ih x1 x3 v4 (x5 + 1) M)
  refine g_sub (lv' := [(0, .ref 5001), (1, .int a1), (2, .int a2), (3, .int a3)]) [0, 1, 2, 3] rfl ?_
  unfold f_X12_shown
  refine g_aload_n X dX12_shown_0 rfl 0 rfl ?_
  refine g_iconst (v := 0) X dX12_shown_1 (by decide) ?_
  refine g_pfi X fa_X12_1 rfl (by decide +kernel) rfl dX12_shown_2 (fun M5 => ?_)
  refine g_aload_n X dX12_shown_5 rfl 0 rfl ?_
  refine g_iload_n X dX12_shown_6 rfl 1 rfl ?_
  refine g_bVi (As := [.int a1]) (rest := []) X (c_X12_isPicture l K M5 a1) lk_X12_161 rfl rfl rfl (Nat.le_of_ble_eq_true rfl) ⟨Nat.le_of_ble_eq_true rfl, Nat.le_of_ble_eq_true rfl⟩ ⟨Nat.zero_le _, Nat.zero_le _⟩ dX12_shown_7 (fun r6 => ?_)
  refine g_if_eq X 38 dX12_shown_10 rfl (fun h7 => ?_) (fun h7 => ?_)
  · refine g_iconst (v := (-1)) X dX12_shown_38 (by decide) ?_
    exact g_iret X rfl rfl rfl dX12_shown_39
  · refine g_iload_n X dX12_shown_13 rfl 2 rfl ?_
    refine g_i2l X dX12_shown_14 ?_
    refine g_lconst (v := 0) X dX12_shown_15 (by decide) ?_
    refine g_ldc2 (v := 400) X wc_X12_30 dX12_shown_16 ?_
    refine g_bSi (As := [.long (Int32.toInt64 a2), .long 0, .long 400]) (rest := []) X (c_X12_in l K M5 (Int32.toInt64 a2) 0 400) lk_X12_17 rfl rfl (Nat.le_of_ble_eq_true rfl) ⟨Nat.le_of_ble_eq_true rfl, Nat.le_of_ble_eq_true rfl⟩ ⟨Nat.zero_le _, Nat.zero_le _⟩ dX12_shown_19 (fun r8 => ?_)
    refine g_if_eq X 38 dX12_shown_22 rfl (fun h9 => ?_) (fun h9 => ?_)
    · refine g_iconst (v := (-1)) X dX12_shown_38 (by decide) ?_
      exact g_iret X rfl rfl rfl dX12_shown_39
    · refine g_iload_n X dX12_shown_25 rfl 3 rfl ?_
      refine g_i2l X dX12_shown_26 ?_
      refine g_iload_n X dX12_shown_27 rfl 2 rfl ?_
      refine g_i2l X dX12_shown_28 ?_
      refine g_ldc2 (v := 400) X wc_X12_30 dX12_shown_29 ?_
      refine g_bSi (As := [.long (Int32.toInt64 a3), .long (Int32.toInt64 a2), .long 400]) (rest := []) X (c_X12_in l K M5 (Int32.toInt64 a3) (Int32.toInt64 a2) 400) lk_X12_17 rfl rfl (Nat.le_of_ble_eq_true rfl) ⟨Nat.le_of_ble_eq_true rfl, Nat.le_of_ble_eq_true rfl⟩ ⟨Nat.zero_le _, Nat.zero_le _⟩ dX12_shown_32 (fun r10 => ?_)
      refine g_if_ne X 40 dX12_shown_35 rfl (fun h11 => ?_) (fun h11 => ?_)
      · refine g_iconst (v := (-1)) X dX12_shown_38 (by decide) ?_
        exact g_iret X rfl rfl rfl dX12_shown_39
      · refine g_iconst (v := 0) X dX12_shown_40 (by decide) ?_
        refine g_istore X [(4, .int 0), (0, .ref 5001), (1, .int a1), (2, .int a2), (3, .int a3)] dX12_shown_41 (by decide) rfl ?_
        refine g_iload_n X dX12_shown_43 rfl 3 rfl ?_
        refine g_istore X [(5, .int a2), (4, .int 0), (0, .ref 5001), (1, .int a1), (2, .int a2), (3, .int a3)] dX12_shown_44 (by decide) rfl ?_
        exact g_sub [2, 3, 5, 1, 0] rfl (hb_46 q_fu a1 a3 0 a2 M5)
