set_option maxHeartbeats 4000000 in
set_option maxRecDepth 100000 in
theorem c_X12_force (l : Launch) (K : q_KK) (M0 : q_MM) (a1 : Int32) : ∀ res, f_X12_force M0 a1 = some res → Mt l yX12_force cX12_force 2 (some FieldType.int) 2 46 0 0 false K [.ref 5001, .int a1] (qTM, qLM, qPM, M0) (some (.int res.1)) ((qTM, qLM, qPM, res.2)) := by
  refine Mt.of (fun (res : Int32 × q_MM) => some (.int res.1)) (fun (res : Int32 × q_MM) => (qTM, qLM, qPM, res.2)) (by decide) (Nat.le_of_ble_eq_true rfl) ?_
  intro p e s m args below meth c0 A ad X hN
  refine g_sub (lv' := [(0, .ref 5001), (1, .int a1)]) [0, 1] rfl ?_
  unfold f_X12_force
  refine g_aload_n X dX12_force_0 rfl 0 rfl ?_
  refine g_iconst (v := 0) X dX12_force_1 (by decide) ?_
  refine g_pfi X fa_X12_1 rfl (by decide +kernel) rfl dX12_force_2 (fun M1 => ?_)
  refine g_aload_n X dX12_force_5 rfl 0 rfl ?_
  refine g_iload_n X dX12_force_6 rfl 1 rfl ?_
  refine g_bVi (As := [.int a1]) (rest := []) X (c_X12_isPicture l K M1 a1) lk_X12_161 rfl rfl rfl (Nat.le_of_ble_eq_true rfl) ⟨Nat.le_of_ble_eq_true rfl, Nat.le_of_ble_eq_true rfl⟩ ⟨Nat.zero_le _, Nat.zero_le _⟩ dX12_force_7 (fun r2 => ?_)
  refine g_if_eq X 21 dX12_force_10 rfl (fun h3 => ?_) (fun h3 => ?_)
  · refine g_iconst (v := (-1)) X dX12_force_21 (by decide) ?_
    exact g_iret X rfl rfl rfl dX12_force_22
  · refine g_aload_n X dX12_force_13 rfl 0 rfl ?_
    refine g_iload_n X dX12_force_14 rfl 1 rfl ?_
    refine g_bVi (As := [.int a1]) (rest := []) X (c_X12_inForce l K M1 a1) lk_X12_262 rfl rfl rfl (Nat.le_of_ble_eq_true rfl) ⟨Nat.le_of_ble_eq_true rfl, Nat.le_of_ble_eq_true rfl⟩ ⟨Nat.zero_le _, Nat.zero_le _⟩ dX12_force_15 (fun r4 => ?_)
    refine g_goto X 22 dX12_force_18 rfl ?_
    exact g_iret X rfl rfl rfl dX12_force_22
set_option maxHeartbeats 4000000 in
set_option maxRecDepth 100000 in
theorem c_X12_doorsTo (l : Launch) (K : q_KK) (M0 : q_MM) (a1 : Int32) : ∀ res, f_X12_doorsTo M0 a1 = some res → Mt l yX12_doorsTo cX12_doorsTo 4 (some FieldType.int) 1 21 0 0 false K [.ref 5001, .int a1] (qTM, qLM, qPM, M0) (some (.int res.1)) ((qTM, qLM, qPM, res.2)) := by
  refine Mt.of (fun (res : Int32 × q_MM) => some (.int res.1)) (fun (res : Int32 × q_MM) => (qTM, qLM, qPM, res.2)) (by decide) (Nat.le_of_ble_eq_true rfl) ?_
  intro p e s m args below meth c0 A ad X hN
  have hb_25 : ∀ (k2 : Int32 → Int32 → q_MM → Option (Int32 × q_MM)) (hk2 : ∀ (x1 : Int32) (x2 : Int32) (M : q_MM), GG p l e { frames := 1, cells := 0, slots := 0, locals := 21 } s m args below meth c0 K A (qTM, qLM, qPM, M0) ad false 4 (fun res => MQ below (q_Qc K false ad (qTM, qLM, qPM, M0) ((fun (res : Int32 × q_MM) => some (.int res.1)) res) ((fun (res : Int32 × q_MM) => (qTM, qLM, qPM, res.2)) res) A) args s 0 0 A) (k2 x1 x2 M) 2 [(0, .ref 5001), (1, .int x1), (2, .int x2)] [] (qTM, qLM, qPM, M) 0 0) (x1 : Int32) (x2 : Int32) (s0 : Int32) (s1 : Int32) (s2 : Nat) (M : q_MM), GG p l e { frames := 1, cells := 0, slots := 0, locals := 21 } s m args below meth c0 K A (qTM, qLM, qPM, M0) ad false 4 (fun res => MQ below (q_Qc K false ad (qTM, qLM, qPM, M0) ((fun (res : Int32 × q_MM) => some (.int res.1)) res) ((fun (res : Int32 × q_MM) => (qTM, qLM, qPM, res.2)) res) A) args s 0 0 A) (b_X12_doorsTo_25 k2 x1 x2 s0 s1 s2 M) 25 [(0, .ref 5001), (1, .int x1), (2, .int x2)] [.int s0, .int s1, .ref s2] (qTM, qLM, qPM, M) 0 0 := by
    intro k2 hk2 x1 x2 s0 s1 s2 M
    unfold b_X12_doorsTo_25
    refine g_ck (fun hT1 => ?_)
    refine g_isv X hT1 rfl dX12_doorsTo_25 (fun M2 => ?_)
    refine g_iinc (v := 1) X [(2, .int (x2 + 1)), (0, .ref 5001), (1, .int x1)] 2 dX12_doorsTo_26 rfl (by decide) (by decide) rfl ?_
    refine g_goto X 2 dX12_doorsTo_29 rfl ?_
    exact g_sub [1, 2, 0] rfl (hk2 x1 (x2 + 1) M2)
  have hb_44 : ∀ (k34 : Int32 → Int32 → q_MM → Option (Int32 × q_MM)) (hk34 : ∀ (x1 : Int32) (x2 : Int32) (M : q_MM), GG p l e { frames := 1, cells := 0, slots := 0, locals := 21 } s m args below meth c0 K A (qTM, qLM, qPM, M0) ad false 4 (fun res => MQ below (q_Qc K false ad (qTM, qLM, qPM, M0) ((fun (res : Int32 × q_MM) => some (.int res.1)) res) ((fun (res : Int32 × q_MM) => (qTM, qLM, qPM, res.2)) res) A) args s 0 0 A) (k34 x1 x2 M) 34 [(0, .ref 5001), (1, .int x1), (2, .int x2)] [] (qTM, qLM, qPM, M) 0 0) (nf : Nat) (x1 : Int32) (x2 : Int32) (x3 : Int32) (M : q_MM), GG p l e { frames := 1, cells := 0, slots := 0, locals := 21 } s m args below meth c0 K A (qTM, qLM, qPM, M0) ad false 4 (fun res => MQ below (q_Qc K false ad (qTM, qLM, qPM, M0) ((fun (res : Int32 × q_MM) => some (.int res.1)) res) ((fun (res : Int32 × q_MM) => (qTM, qLM, qPM, res.2)) res) A) args s 0 0 A) (b_X12_doorsTo_44 k34 nf x1 x2 x3 M) 44 [(0, .ref 5001), (1, .int x1), (2, .int x2), (3, .int x3)] [] (qTM, qLM, qPM, M) 0 0 := by
    intro k34 hk34 nf
    induction nf with
    | zero => intros; exact g_stop
    | succ nf ih =>
      intro x1 x2 x3 M
      rw [b_X12_doorsTo_44]
      refine g_iload_n X dX12_doorsTo_44 rfl 3 rfl ?_
      refine g_aload_n X dX12_doorsTo_45 rfl 0 rfl ?_
      refine g_geti X fa_X12_36 rfl dX12_doorsTo_46 ?_
      refine g_icmp_ge X 134 dX12_doorsTo_49 rfl (fun h3 => ?_) (fun h3 => ?_)
      · refine g_iinc (v := 1) X [(2, .int (x2 + 1)), (0, .ref 5001), (1, .int x1), (3, .int x3)] 2 dX12_doorsTo_134 rfl (by decide) (by decide) rfl ?_
        refine g_goto X 34 dX12_doorsTo_137 rfl ?_
        exact g_sub [1, 2, 0] rfl (hk34 x1 (x2 + 1) M)
      · refine g_aload_n X dX12_doorsTo_52 rfl 0 rfl ?_
        refine g_getr X fa_X12_265 rfl rfl dX12_doorsTo_53 ?_
        refine g_aload_n X dX12_doorsTo_56 rfl 0 rfl ?_
        refine g_getr X fa_X12_39 rfl rfl dX12_doorsTo_57 ?_
        refine g_iload_n X dX12_doorsTo_60 rfl 3 rfl ?_
        refine g_ild X rfl rfl dX12_doorsTo_61 (fun v4 => ?_)
        refine g_aload_n X dX12_doorsTo_62 rfl 0 rfl ?_
        refine g_getr X fa_X12_265 rfl rfl dX12_doorsTo_63 ?_
        refine g_aload_n X dX12_doorsTo_66 rfl 0 rfl ?_
        refine g_getr X fa_X12_39 rfl rfl dX12_doorsTo_67 ?_
        refine g_iload_n X dX12_doorsTo_70 rfl 3 rfl ?_
        refine g_ild X rfl rfl dX12_doorsTo_71 (fun v5 => ?_)
        refine g_ild X rfl rfl dX12_doorsTo_72 (fun v6 => ?_)
        refine g_aload_n X dX12_doorsTo_73 rfl 0 rfl ?_
        refine g_getr X fa_X12_265 rfl rfl dX12_doorsTo_74 ?_
        refine g_aload_n X dX12_doorsTo_77 rfl 0 rfl ?_
        refine g_getr X fa_X12_42 rfl rfl dX12_doorsTo_78 ?_
        refine g_iload_n X dX12_doorsTo_81 rfl 3 rfl ?_
        refine g_ild X rfl rfl dX12_doorsTo_82 (fun v7 => ?_)
        refine g_ild X rfl rfl dX12_doorsTo_83 (fun v8 => ?_)
        refine g_iconst (v := 1) X dX12_doorsTo_84 (by decide) ?_
        refine g_iadd X dX12_doorsTo_85 ?_
        refine g_mmin X lk_X12_95 (Nat.le_of_ble_eq_true rfl) ⟨Nat.le_of_ble_eq_true rfl, Nat.le_of_ble_eq_true rfl⟩ ⟨Nat.zero_le _, Nat.zero_le _⟩ dX12_doorsTo_86 ?_
        refine g_isv X rfl rfl dX12_doorsTo_89 (fun M9 => ?_)
        refine g_aload_n X dX12_doorsTo_90 rfl 0 rfl ?_
        refine g_getr X fa_X12_265 rfl rfl dX12_doorsTo_91 ?_
        refine g_aload_n X dX12_doorsTo_94 rfl 0 rfl ?_
        refine g_getr X fa_X12_42 rfl rfl dX12_doorsTo_95 ?_
        refine g_iload_n X dX12_doorsTo_98 rfl 3 rfl ?_
        refine g_ild X rfl rfl dX12_doorsTo_99 (fun v10 => ?_)
        refine g_aload_n X dX12_doorsTo_100 rfl 0 rfl ?_
        refine g_getr X fa_X12_265 rfl rfl dX12_doorsTo_101 ?_
        refine g_aload_n X dX12_doorsTo_104 rfl 0 rfl ?_
        refine g_getr X fa_X12_42 rfl rfl dX12_doorsTo_105 ?_
        refine g_iload_n X dX12_doorsTo_108 rfl 3 rfl ?_
        refine g_ild X rfl rfl dX12_doorsTo_109 (fun v11 => ?_)
        refine g_ild X rfl rfl dX12_doorsTo_110 (fun v12 => ?_)
        refine g_aload_n X dX12_doorsTo_111 rfl 0 rfl ?_
        refine g_getr X fa_X12_265 rfl rfl dX12_doorsTo_112 ?_
        refine g_aload_n X dX12_doorsTo_115 rfl 0 rfl ?_
        refine g_getr X fa_X12_39 rfl rfl dX12_doorsTo_116 ?_
        refine g_iload_n X dX12_doorsTo_119 rfl 3 rfl ?_
        refine g_ild X rfl rfl dX12_doorsTo_120 (fun v13 => ?_)
        refine g_ild X rfl rfl dX12_doorsTo_121 (fun v14 => ?_)
        refine g_iconst (v := 1) X dX12_doorsTo_122 (by decide) ?_
        refine g_iadd X dX12_doorsTo_123 ?_
        refine g_mmin X lk_X12_95 (Nat.le_of_ble_eq_true rfl) ⟨Nat.le_of_ble_eq_true rfl, Nat.le_of_ble_eq_true rfl⟩ ⟨Nat.zero_le _, Nat.zero_le _⟩ dX12_doorsTo_124 ?_
        refine g_isv X rfl rfl dX12_doorsTo_127 (fun M15 => ?_)
        refine g_iinc (v := 1) X [(3, .int (x3 + 1)), (0, .ref 5001), (1, .int x1), (2, .int x2)] 3 dX12_doorsTo_128 rfl (by decide) (by decide) rfl ?_
        refine g_goto X 44 dX12_doorsTo_131 rfl ?_
        exact g_sub [1, 2, 3, 0] rfl (ih x1 x2 (x3 + 1) M15)
  have hb_34 : ∀ (nf : Nat) (x1 : Int32) (x2 : Int32) (M : q_MM), GG p l e { frames := 1, cells := 0, slots := 0, locals := 21 } s m args below meth c0 K A (qTM, qLM, qPM, M0) ad false 4 (fun res => MQ below (q_Qc K false ad (qTM, qLM, qPM, M0) ((fun (res : Int32 × q_MM) => some (.int res.1)) res) ((fun (res : Int32 × q_MM) => (qTM, qLM, qPM, res.2)) res) A) args s 0 0 A) (b_X12_doorsTo_34 nf x1 x2 M) 34 [(0, .ref 5001), (1, .int x1), (2, .int x2)] [] (qTM, qLM, qPM, M) 0 0 := by
    intro  nf
    induction nf with
    | zero => intros; exact g_stop
    | succ nf ih =>
      intro x1 x2 M
      rw [b_X12_doorsTo_34]
      refine g_iload_n X dX12_doorsTo_34 rfl 2 rfl ?_
      refine g_aload_n X dX12_doorsTo_35 rfl 0 rfl ?_
      refine g_geti X fa_X12_14 rfl dX12_doorsTo_36 ?_
      refine g_icmp_ge X 140 dX12_doorsTo_39 rfl (fun h16 => ?_) (fun h16 => ?_)
      · refine g_bipush (v := 99) X dX12_doorsTo_140 (by decide) ?_
        refine g_aload_n X dX12_doorsTo_142 rfl 0 rfl ?_
        refine g_getr X fa_X12_265 rfl rfl dX12_doorsTo_143 ?_
        refine g_iload_n X dX12_doorsTo_146 rfl 1 rfl ?_
        refine g_ild X rfl rfl dX12_doorsTo_147 (fun v17 => ?_)
        refine g_mmin X lk_X12_95 (Nat.le_of_ble_eq_true rfl) ⟨Nat.le_of_ble_eq_true rfl, Nat.le_of_ble_eq_true rfl⟩ ⟨Nat.zero_le _, Nat.zero_le _⟩ dX12_doorsTo_148 ?_
        exact g_iret X rfl rfl rfl dX12_doorsTo_151
      · refine g_iconst (v := 0) X dX12_doorsTo_42 (by decide) ?_
        refine g_istore_n X [(3, .int 0), (0, .ref 5001), (1, .int x1), (2, .int x2)] dX12_doorsTo_43 rfl (by decide) rfl ?_
        exact g_sub [1, 2, 3, 0] rfl (hb_44 (b_X12_doorsTo_34 nf) ih q_fu x1 x2 0 M)
  have hb_2 : ∀ (nf : Nat) (x1 : Int32) (x2 : Int32) (M : q_MM), GG p l e { frames := 1, cells := 0, slots := 0, locals := 21 } s m args below meth c0 K A (qTM, qLM, qPM, M0) ad false 4 (fun res => MQ below (q_Qc K false ad (qTM, qLM, qPM, M0) ((fun (res : Int32 × q_MM) => some (.int res.1)) res) ((fun (res : Int32 × q_MM) => (qTM, qLM, qPM, res.2)) res) A) args s 0 0 A) (b_X12_doorsTo_2 nf x1 x2 M) 2 [(0, .ref 5001), (1, .int x1), (2, .int x2)] [] (qTM, qLM, qPM, M) 0 0 := by
    intro  nf
    induction nf with
    | zero => intros; exact g_stop
    | succ nf ih =>
      intro x1 x2 M
      rw [b_X12_doorsTo_2]
      refine g_iload_n X dX12_doorsTo_2 rfl 2 rfl ?_
      refine g_aload_n X dX12_doorsTo_3 rfl 0 rfl ?_
      refine g_geti X fa_X12_14 rfl dX12_doorsTo_4 ?_
      refine g_icmp_ge X 32 dX12_doorsTo_7 rfl (fun h18 => ?_) (fun h18 => ?_)
      · refine g_iconst (v := 0) X dX12_doorsTo_32 (by decide) ?_
        refine g_istore_n X [(2, .int 0), (0, .ref 5001), (1, .int x1)] dX12_doorsTo_33 rfl (by decide) rfl ?_
        exact g_sub [1, 2, 0] rfl (hb_34 q_fu x1 0 M)
      · refine g_aload_n X dX12_doorsTo_10 rfl 0 rfl ?_
        refine g_getr X fa_X12_265 rfl rfl dX12_doorsTo_11 ?_
        refine g_iload_n X dX12_doorsTo_14 rfl 2 rfl ?_
        refine g_iload_n X dX12_doorsTo_15 rfl 2 rfl ?_
        refine g_if_ne X 23 dX12_doorsTo_16 rfl (fun h19 => ?_) (fun h19 => ?_)
        · refine g_iconst (v := 0) X dX12_doorsTo_19 (by decide) ?_
          refine g_goto X 25 dX12_doorsTo_20 rfl ?_
          exact g_sub [0, 1, 2] rfl (hb_25 (b_X12_doorsTo_2 nf) ih x1 x2 0 x2 5057 M)
        · refine g_bipush (v := 99) X dX12_doorsTo_23 (by decide) ?_
          exact g_sub [0, 1, 2] rfl (hb_25 (b_X12_doorsTo_2 nf) ih x1 x2 99 x2 5057 M)
  refine g_sub (lv' := [(0, .ref 5001), (1, .int a1)]) [0, 1] rfl ?_
  unfold f_X12_doorsTo
  refine g_iconst (v := 0) X dX12_doorsTo_0 (by decide) ?_
  refine g_istore_n X [(2, .int 0), (0, .ref 5001), (1, .int a1)] dX12_doorsTo_1 rfl (by decide) rfl ?_
  exact g_sub [1, 2, 0] rfl (hb_2 q_fu a1 0 M0)
set_option maxHeartbeats 4000000 in
set_option maxRecDepth 100000 in
theorem c_X12_acted (l : Launch) (K : q_KK) (M : q_MM) (a1 : Int32) (a2 : Int32) (a3 : Int32) : ∀ res, f_X12_acted M a1 a2 a3 = some res → Mt l yX12_acted cX12_acted 3 (some FieldType.int) 1 20 0 0 false K [.int a1, .int a2, .int a3] (qTM, qLM, qPM, M) (some (.int res)) ((qTM, qLM, qPM, M)) := by
  refine Mt.of (fun (res : Int32) => some (.int res)) (fun (_ : Int32) => (qTM, qLM, qPM, M)) (by decide) (Nat.le_of_ble_eq_true rfl) ?_
  intro p e s m args below meth c0 A ad X hN
  have hb_166 : ∀ (s0 : Int32), GG p l e { frames := 1, cells := 0, slots := 0, locals := 20 } s m args below meth c0 K A (qTM, qLM, qPM, M) ad false 3 (fun res => MQ below (q_Qc K false ad (qTM, qLM, qPM, M) ((fun (res : Int32) => some (.int res)) res) ((fun (_ : Int32) => (qTM, qLM, qPM, M)) res) A) args s 0 0 A) (b_X12_acted_166 M s0) 166 [] [.int s0] (qTM, qLM, qPM, M) 0 0 := by
    intro s0
    unfold b_X12_acted_166
    refine g_bSi (As := [.int s0]) (rest := []) X (c_X12_truth l K M s0) lk_X12_268 rfl rfl (Nat.le_of_ble_eq_true rfl) ⟨Nat.le_of_ble_eq_true rfl, Nat.le_of_ble_eq_true rfl⟩ ⟨Nat.zero_le _, Nat.zero_le _⟩ dX12_acted_166 (fun r1 => ?_)
    exact g_iret X rfl rfl rfl dX12_acted_169
  have hb_180 : ∀ (s0 : Int32), GG p l e { frames := 1, cells := 0, slots := 0, locals := 20 } s m args below meth c0 K A (qTM, qLM, qPM, M) ad false 3 (fun res => MQ below (q_Qc K false ad (qTM, qLM, qPM, M) ((fun (res : Int32) => some (.int res)) res) ((fun (_ : Int32) => (qTM, qLM, qPM, M)) res) A) args s 0 0 A) (b_X12_acted_180 M s0) 180 [] [.int s0] (qTM, qLM, qPM, M) 0 0 := by
    intro s0
    unfold b_X12_acted_180
    refine g_bSi (As := [.int s0]) (rest := []) X (c_X12_truth l K M s0) lk_X12_268 rfl rfl (Nat.le_of_ble_eq_true rfl) ⟨Nat.le_of_ble_eq_true rfl, Nat.le_of_ble_eq_true rfl⟩ ⟨Nat.zero_le _, Nat.zero_le _⟩ dX12_acted_180 (fun r2 => ?_)
    exact g_iret X rfl rfl rfl dX12_acted_183
  have hb_194 : ∀ (s0 : Int32), GG p l e { frames := 1, cells := 0, slots := 0, locals := 20 } s m args below meth c0 K A (qTM, qLM, qPM, M) ad false 3 (fun res => MQ below (q_Qc K false ad (qTM, qLM, qPM, M) ((fun (res : Int32) => some (.int res)) res) ((fun (_ : Int32) => (qTM, qLM, qPM, M)) res) A) args s 0 0 A) (b_X12_acted_194 M s0) 194 [] [.int s0] (qTM, qLM, qPM, M) 0 0 := by
    intro s0
    unfold b_X12_acted_194
    refine g_bSi (As := [.int s0]) (rest := []) X (c_X12_truth l K M s0) lk_X12_268 rfl rfl (Nat.le_of_ble_eq_true rfl) ⟨Nat.le_of_ble_eq_true rfl, Nat.le_of_ble_eq_true rfl⟩ ⟨Nat.zero_le _, Nat.zero_le _⟩ dX12_acted_194 (fun r3 => ?_)
    exact g_iret X rfl rfl rfl dX12_acted_197
  have hb_211 : ∀ (s0 : Int32), GG p l e { frames := 1, cells := 0, slots := 0, locals := 20 } s m args below meth c0 K A (qTM, qLM, qPM, M) ad false 3 (fun res => MQ below (q_Qc K false ad (qTM, qLM, qPM, M) ((fun (res : Int32) => some (.int res)) res) ((fun (_ : Int32) => (qTM, qLM, qPM, M)) res) A) args s 0 0 A) (b_X12_acted_211 M s0) 211 [] [.int s0] (qTM, qLM, qPM, M) 0 0 := by
    intro s0
    unfold b_X12_acted_211
    refine g_bSi (As := [.int s0]) (rest := []) X (c_X12_truth l K M s0) lk_X12_268 rfl rfl (Nat.le_of_ble_eq_true rfl) ⟨Nat.le_of_ble_eq_true rfl, Nat.le_of_ble_eq_true rfl⟩ ⟨Nat.zero_le _, Nat.zero_le _⟩ dX12_acted_211 (fun r4 => ?_)
    exact g_iret X rfl rfl rfl dX12_acted_214
  have hb_210 : GG p l e { frames := 1, cells := 0, slots := 0, locals := 20 } s m args below meth c0 K A (qTM, qLM, qPM, M) ad false 3 (fun res => MQ below (q_Qc K false ad (qTM, qLM, qPM, M) ((fun (res : Int32) => some (.int res)) res) ((fun (_ : Int32) => (qTM, qLM, qPM, M)) res) A) args s 0 0 A) (b_X12_acted_210 M ) 210 [] [] (qTM, qLM, qPM, M) 0 0 := by
    unfold b_X12_acted_210
    refine g_iconst (v := 0) X dX12_acted_210 (by decide) ?_
    exact g_sub [] rfl (hb_211 0)
  have hb_228 : ∀ (s0 : Int32), GG p l e { frames := 1, cells := 0, slots := 0, locals := 20 } s m args below meth c0 K A (qTM, qLM, qPM, M) ad false 3 (fun res => MQ below (q_Qc K false ad (qTM, qLM, qPM, M) ((fun (res : Int32) => some (.int res)) res) ((fun (_ : Int32) => (qTM, qLM, qPM, M)) res) A) args s 0 0 A) (b_X12_acted_228 M s0) 228 [] [.int s0] (qTM, qLM, qPM, M) 0 0 := by
    intro s0
    unfold b_X12_acted_228
    refine g_bSi (As := [.int s0]) (rest := []) X (c_X12_truth l K M s0) lk_X12_268 rfl rfl (Nat.le_of_ble_eq_true rfl) ⟨Nat.le_of_ble_eq_true rfl, Nat.le_of_ble_eq_true rfl⟩ ⟨Nat.zero_le _, Nat.zero_le _⟩ dX12_acted_228 (fun r5 => ?_)
    exact g_iret X rfl rfl rfl dX12_acted_231
  have hb_223 : GG p l e { frames := 1, cells := 0, slots := 0, locals := 20 } s m args below meth c0 K A (qTM, qLM, qPM, M) ad false 3 (fun res => MQ below (q_Qc K false ad (qTM, qLM, qPM, M) ((fun (res : Int32) => some (.int res)) res) ((fun (_ : Int32) => (qTM, qLM, qPM, M)) res) A) args s 0 0 A) (b_X12_acted_223 M ) 223 [] [] (qTM, qLM, qPM, M) 0 0 := by
    unfold b_X12_acted_223
    refine g_iconst (v := 1) X dX12_acted_223 (by decide) ?_
    refine g_goto X 228 dX12_acted_224 rfl ?_
    exact g_sub [] rfl (hb_228 1)
  refine g_sub (lv' := [(0, .int a1), (1, .int a2), (2, .int a3)]) [0, 1, 2] rfl ?_
  unfold f_X12_acted
  refine g_iload_n X dX12_acted_0 rfl 0 rfl ?_
  refine g_case (fun h6 => ?_) (fun h6 => ?_)
  · refine g_tin (off := 135) X 136 h6 dX12_acted_1 (by decide) (by decide) (by decide) rfl ?_
    refine g_iload_n X dX12_acted_136 rfl 2 rfl ?_
    refine g_if_ne X 144 dX12_acted_137 rfl (fun h7 => ?_) (fun h7 => ?_)
    · refine g_iconst (v := 0) X dX12_acted_140 (by decide) ?_
      refine g_goto X 147 dX12_acted_141 rfl ?_
      exact g_iret X rfl rfl rfl dX12_acted_147
    · refine g_iload_n X dX12_acted_144 rfl 1 rfl ?_
      refine g_iload_n X dX12_acted_145 rfl 2 rfl ?_
      refine g_irem X dX12_acted_146 ?_
      exact g_iret X rfl rfl rfl dX12_acted_147
  · refine g_case (fun h8 => ?_) (fun h8 => ?_)
    · refine g_tin (off := 197) X 198 h8 dX12_acted_1 (by decide) (by decide) (by decide) rfl ?_
      refine g_iload_n X dX12_acted_198 rfl 1 rfl ?_
      refine g_if_eq X 210 dX12_acted_199 rfl (fun h9 => ?_) (fun h9 => ?_)
      · exact g_sub [] rfl (hb_210)
      · refine g_iload_n X dX12_acted_202 rfl 2 rfl ?_
        refine g_if_eq X 210 dX12_acted_203 rfl (fun h10 => ?_) (fun h10 => ?_)
        · exact g_sub [] rfl (hb_210)
        · refine g_iconst (v := 1) X dX12_acted_206 (by decide) ?_
          refine g_goto X 211 dX12_acted_207 rfl ?_
          exact g_sub [] rfl (hb_211 1)
    · refine g_case (fun h11 => ?_) (fun h11 => ?_)
      · refine g_tin (off := 119) X 120 h11 dX12_acted_1 (by decide) (by decide) (by decide) rfl ?_
        refine g_iload_n X dX12_acted_120 rfl 1 rfl ?_
        refine g_iload_n X dX12_acted_121 rfl 2 rfl ?_
        refine g_imul X dX12_acted_122 ?_
        exact g_iret X rfl rfl rfl dX12_acted_123
      · refine g_case (fun h12 => ?_) (fun h12 => ?_)
        · refine g_tin (off := 147) X 148 h12 dX12_acted_1 (by decide) (by decide) (by decide) rfl ?_
          refine g_iload_n X dX12_acted_148 rfl 1 rfl ?_
          refine g_iload_n X dX12_acted_149 rfl 2 rfl ?_
          refine g_iadd X dX12_acted_150 ?_
          exact g_iret X rfl rfl rfl dX12_acted_151
        · refine g_case (fun h13 => ?_) (fun h13 => ?_)
          · refine g_tin (off := 151) X 152 h13 dX12_acted_1 (by decide) (by decide) (by decide) rfl ?_
            refine g_iload_n X dX12_acted_152 rfl 1 rfl ?_
            refine g_iload_n X dX12_acted_153 rfl 2 rfl ?_
            refine g_isub X dX12_acted_154 ?_
            exact g_iret X rfl rfl rfl dX12_acted_155
          · refine g_case (fun h14 => ?_) (fun h14 => ?_)
            · refine g_tin (off := 123) X 124 h14 dX12_acted_1 (by decide) (by decide) (by decide) rfl ?_
              refine g_iload_n X dX12_acted_124 rfl 2 rfl ?_
              refine g_if_ne X 132 dX12_acted_125 rfl (fun h15 => ?_) (fun h15 => ?_)
              · refine g_iconst (v := 0) X dX12_acted_128 (by decide) ?_
                refine g_goto X 135 dX12_acted_129 rfl ?_
                exact g_iret X rfl rfl rfl dX12_acted_135
              · refine g_iload_n X dX12_acted_132 rfl 1 rfl ?_
                refine g_iload_n X dX12_acted_133 rfl 2 rfl ?_
                refine g_idiv X dX12_acted_134 ?_
                exact g_iret X rfl rfl rfl dX12_acted_135
            · refine g_case (fun h16 => ?_) (fun h16 => ?_)
              · refine g_tin (off := 155) X 156 h16 dX12_acted_1 (by decide) (by decide) (by decide) rfl ?_
                refine g_iload_n X dX12_acted_156 rfl 1 rfl ?_
                refine g_iload_n X dX12_acted_157 rfl 2 rfl ?_
                refine g_icmp_ge X 165 dX12_acted_158 rfl (fun h17 => ?_) (fun h17 => ?_)
                · refine g_iconst (v := 0) X dX12_acted_165 (by decide) ?_
                  exact g_sub [] rfl (hb_166 0)
                · refine g_iconst (v := 1) X dX12_acted_161 (by decide) ?_
                  refine g_goto X 166 dX12_acted_162 rfl ?_
                  exact g_sub [] rfl (hb_166 1)
              · refine g_case (fun h18 => ?_) (fun h18 => ?_)
                · refine g_tin (off := 183) X 184 h18 dX12_acted_1 (by decide) (by decide) (by decide) rfl ?_
                  refine g_iload_n X dX12_acted_184 rfl 1 rfl ?_
                  refine g_iload_n X dX12_acted_185 rfl 2 rfl ?_
                  refine g_icmp_ne X 193 dX12_acted_186 rfl (fun h19 => ?_) (fun h19 => ?_)
                  · refine g_iconst (v := 1) X dX12_acted_189 (by decide) ?_
                    refine g_goto X 194 dX12_acted_190 rfl ?_
                    exact g_sub [] rfl (hb_194 1)
                  · refine g_iconst (v := 0) X dX12_acted_193 (by decide) ?_
                    exact g_sub [] rfl (hb_194 0)
                · refine g_case (fun h20 => ?_) (fun h20 => ?_)
                  · refine g_tin (off := 169) X 170 h20 dX12_acted_1 (by decide) (by decide) (by decide) rfl ?_
                    refine g_iload_n X dX12_acted_170 rfl 1 rfl ?_
                    refine g_iload_n X dX12_acted_171 rfl 2 rfl ?_
                    refine g_icmp_le X 179 dX12_acted_172 rfl (fun h21 => ?_) (fun h21 => ?_)
                    · refine g_iconst (v := 0) X dX12_acted_179 (by decide) ?_
                      exact g_sub [] rfl (hb_180 0)
                    · refine g_iconst (v := 1) X dX12_acted_175 (by decide) ?_
                      refine g_goto X 180 dX12_acted_176 rfl ?_
                      exact g_sub [] rfl (hb_180 1)
                  · refine g_tdef X [37, 38, 42, 43, 45, 47, 60, 61, 62] 215 (List.forall_mem_cons.mpr ⟨h6, (List.forall_mem_cons.mpr ⟨h8, (List.forall_mem_cons.mpr ⟨h11, (List.forall_mem_cons.mpr ⟨h12, (List.forall_mem_cons.mpr ⟨h13, (List.forall_mem_cons.mpr ⟨h14, (List.forall_mem_cons.mpr ⟨h16, (List.forall_mem_cons.mpr ⟨h18, (List.forall_mem_cons.mpr ⟨h20, (fun _ z => nomatch z)⟩)⟩)⟩)⟩)⟩)⟩)⟩)⟩)⟩) dX12_acted_1 (by decide) rfl ?_
                    refine g_iload_n X dX12_acted_215 rfl 1 rfl ?_
                    refine g_if_ne X 223 dX12_acted_216 rfl (fun h22 => ?_) (fun h22 => ?_)
                    · refine g_iload_n X dX12_acted_219 rfl 2 rfl ?_
                      refine g_if_eq X 227 dX12_acted_220 rfl (fun h23 => ?_) (fun h23 => ?_)
                      · refine g_iconst (v := 0) X dX12_acted_227 (by decide) ?_
                        exact g_sub [] rfl (hb_228 0)
                      · exact g_sub [] rfl (hb_223)
                    · exact g_sub [] rfl (hb_223)
set_option maxHeartbeats 4000000 in
set_option maxRecDepth 100000 in
theorem c_X12_worked (l : Launch) (K : q_KK) (M0 : q_MM) (a1 : Int32) (a2 : Int32) : ∀ res, f_X12_worked M0 a1 a2 = some res → Mt l yX12_worked cX12_worked 6 (some FieldType.int) 2 42 0 0 false K [.ref 5001, .int a1, .int a2] (qTM, qLM, qPM, M0) (some (.int res.1)) ((qTM, qLM, qPM, res.2)) := by
  refine Mt.of (fun (res : Int32 × q_MM) => some (.int res.1)) (fun (res : Int32 × q_MM) => (qTM, qLM, qPM, res.2)) (by decide) (Nat.le_of_ble_eq_true rfl) ?_
  intro p e s m args below meth c0 A ad X hN
  have hb_184 : ∀ (k5 : Int32 → Int32 → Int32 → q_MM → Option (Int32 × q_MM)) (hk5 : ∀ (x2 : Int32) (x3 : Int32) (x4 : Int32) (M : q_MM), GG p l e { frames := 2, cells := 0, slots := 0, locals := 42 } s m args below meth c0 K A (qTM, qLM, qPM, M0) ad false 6 (fun res => MQ below (q_Qc K false ad (qTM, qLM, qPM, M0) ((fun (res : Int32 × q_MM) => some (.int res.1)) res) ((fun (res : Int32 × q_MM) => (qTM, qLM, qPM, res.2)) res) A) args s 0 0 A) (k5 x2 x3 x4 M) 5 [(0, .ref 5001), (2, .int x2), (3, .int x3), (4, .int x4)] [] (qTM, qLM, qPM, M) 0 0) (x2 : Int32) (x3 : Int32) (x4 : Int32) (M : q_MM), GG p l e { frames := 2, cells := 0, slots := 0, locals := 42 } s m args below meth c0 K A (qTM, qLM, qPM, M0) ad false 6 (fun res => MQ below (q_Qc K false ad (qTM, qLM, qPM, M0) ((fun (res : Int32 × q_MM) => some (.int res.1)) res) ((fun (res : Int32 × q_MM) => (qTM, qLM, qPM, res.2)) res) A) args s 0 0 A) (b_X12_worked_184 k5 x2 x3 x4 M) 184 [(0, .ref 5001), (2, .int x2), (3, .int x3), (4, .int x4)] [] (qTM, qLM, qPM, M) 0 0 := by
    intro k5 hk5 x2 x3 x4 M
    unfold b_X12_worked_184
    refine g_iinc (v := 1) X [(4, .int (x4 + 1)), (0, .ref 5001), (2, .int x2), (3, .int x3)] 3 dX12_worked_184 rfl (by decide) (by decide) rfl ?_
    refine g_goto X 5 dX12_worked_187 rfl ?_
    exact g_sub [1, 2, 3, 0] rfl (hk5 x2 x3 (x4 + 1) M)
  have hb_113 : ∀ (k5 : Int32 → Int32 → Int32 → q_MM → Option (Int32 × q_MM)) (hk5 : ∀ (x2 : Int32) (x3 : Int32) (x4 : Int32) (M : q_MM), GG p l e { frames := 2, cells := 0, slots := 0, locals := 42 } s m args below meth c0 K A (qTM, qLM, qPM, M0) ad false 6 (fun res => MQ below (q_Qc K false ad (qTM, qLM, qPM, M0) ((fun (res : Int32 × q_MM) => some (.int res.1)) res) ((fun (res : Int32 × q_MM) => (qTM, qLM, qPM, res.2)) res) A) args s 0 0 A) (k5 x2 x3 x4 M) 5 [(0, .ref 5001), (2, .int x2), (3, .int x3), (4, .int x4)] [] (qTM, qLM, qPM, M) 0 0) (x2 : Int32) (x3 : Int32) (x4 : Int32) (s0 : Int32) (s1 : Int32) (s2 : Nat) (M : q_MM), GG p l e { frames := 2, cells := 0, slots := 0, locals := 42 } s m args below meth c0 K A (qTM, qLM, qPM, M0) ad false 6 (fun res => MQ below (q_Qc K false ad (qTM, qLM, qPM, M0) ((fun (res : Int32 × q_MM) => some (.int res.1)) res) ((fun (res : Int32 × q_MM) => (qTM, qLM, qPM, res.2)) res) A) args s 0 0 A) (b_X12_worked_113 k5 x2 x3 x4 s0 s1 s2 M) 113 [(0, .ref 5001), (2, .int x2), (3, .int x3), (4, .int x4)] [.int s0, .int s1, .ref s2] (qTM, qLM, qPM, M) 0 0 := by
    intro k5 hk5 x2 x3 x4 s0 s1 s2 M
    unfold b_X12_worked_113
    refine g_bSi (As := [.int s0]) (rest := [.int s1, .ref s2]) X (c_X12_truth l K M s0) lk_X12_268 rfl rfl (Nat.le_of_ble_eq_true rfl) ⟨Nat.le_of_ble_eq_true rfl, Nat.le_of_ble_eq_true rfl⟩ ⟨Nat.zero_le _, Nat.zero_le _⟩ dX12_worked_113 (fun r1 => ?_)
    refine g_ck (fun hT2 => ?_)
    refine g_isv X hT2 rfl dX12_worked_116 (fun M3 => ?_)
    refine g_goto X 184 dX12_worked_117 rfl ?_
    exact g_sub [0, 1, 2, 3] rfl (hb_184 k5 hk5 x2 x3 x4 M3)
  have hb_190 : ∀ (x4 : Int32) (M : q_MM), GG p l e { frames := 2, cells := 0, slots := 0, locals := 42 } s m args below meth c0 K A (qTM, qLM, qPM, M0) ad false 6 (fun res => MQ below (q_Qc K false ad (qTM, qLM, qPM, M0) ((fun (res : Int32 × q_MM) => some (.int res.1)) res) ((fun (res : Int32 × q_MM) => (qTM, qLM, qPM, res.2)) res) A) args s 0 0 A) (b_X12_worked_190 x4 M) 190 [(0, .ref 5001), (4, .int x4)] [] (qTM, qLM, qPM, M) 0 0 := by
    intro x4 M
    unfold b_X12_worked_190
    refine g_aload_n X dX12_worked_190 rfl 0 rfl ?_
    refine g_iload X dX12_worked_191 1 rfl ?_
    refine g_pfi X fa_X12_282 rfl (by decide +kernel) rfl dX12_worked_193 (fun M4 => ?_)
    refine g_aload_n X dX12_worked_196 rfl 0 rfl ?_
    refine g_getr X fa_X12_272 rfl rfl dX12_worked_197 ?_
    refine g_iconst (v := 0) X dX12_worked_200 (by decide) ?_
    refine g_ild X rfl rfl dX12_worked_201 (fun v5 => ?_)
    exact g_iret X rfl rfl rfl dX12_worked_202
  have hb_5 : ∀ (nf : Nat) (x2 : Int32) (x3 : Int32) (x4 : Int32) (M : q_MM), GG p l e { frames := 2, cells := 0, slots := 0, locals := 42 } s m args below meth c0 K A (qTM, qLM, qPM, M0) ad false 6 (fun res => MQ below (q_Qc K false ad (qTM, qLM, qPM, M0) ((fun (res : Int32 × q_MM) => some (.int res.1)) res) ((fun (res : Int32 × q_MM) => (qTM, qLM, qPM, res.2)) res) A) args s 0 0 A) (b_X12_worked_5 nf x2 x3 x4 M) 5 [(0, .ref 5001), (2, .int x2), (3, .int x3), (4, .int x4)] [] (qTM, qLM, qPM, M) 0 0 := by
    intro  nf
    induction nf with
    | zero => intros; exact g_stop
    | succ nf ih =>
      intro x2 x3 x4 M
      rw [b_X12_worked_5]
      refine g_iload X dX12_worked_5 3 rfl ?_
      refine g_iload_n X dX12_worked_7 rfl 1 rfl ?_
      refine g_icmp_ge X 190 dX12_worked_8 rfl (fun h6 => ?_) (fun h6 => ?_)
      · exact g_sub [0, 3] rfl (hb_190 x4 M)
      · refine g_aload_n X dX12_worked_11 rfl 0 rfl ?_
        refine g_getr X fa_X12_191 rfl rfl dX12_worked_12 ?_
        refine g_iload X dX12_worked_15 3 rfl ?_
        refine g_ild X rfl rfl dX12_worked_17 (fun v7 => ?_)
        refine g_sipush (v := (-300)) X dX12_worked_18 (by decide) ?_
        refine g_icmp_eq X 190 dX12_worked_21 rfl (fun h8 => ?_) (fun h8 => ?_)
        · exact g_sub [0, 3] rfl (hb_190 x4 M)
        · refine g_aload_n X dX12_worked_24 rfl 0 rfl ?_
          refine g_getr X fa_X12_191 rfl rfl dX12_worked_25 ?_
          refine g_iload X dX12_worked_28 3 rfl ?_
          refine g_ild X rfl rfl dX12_worked_30 (fun v9 => ?_)
          refine g_istore X [(5, .int v9), (0, .ref 5001), (2, .int x2), (3, .int x3), (4, .int x4)] dX12_worked_31 (by decide) rfl ?_
          refine g_iload X dX12_worked_33 0 rfl ?_
          refine g_if_lt X 52 dX12_worked_35 rfl (fun h10 => ?_) (fun h10 => ?_)
          · refine g_iload X dX12_worked_52 0 rfl ?_
            refine g_bipush (v := (-12)) X dX12_worked_54 (by decide) ?_
            refine g_icmp_lt X 80 dX12_worked_56 rfl (fun h11 => ?_) (fun h11 => ?_)
            · refine g_iload X dX12_worked_80 0 rfl ?_
              refine g_bipush (v := 33) X dX12_worked_82 (by decide) ?_
              refine g_bSi (As := [.int 33]) (rest := [.int v9]) X (c_X12_act l K M 33) lk_X12_226 rfl rfl (Nat.le_of_ble_eq_true rfl) ⟨Nat.le_of_ble_eq_true rfl, Nat.le_of_ble_eq_true rfl⟩ ⟨Nat.zero_le _, Nat.zero_le _⟩ dX12_worked_84 (fun r12 => ?_)
              refine g_icmp_ne X 120 dX12_worked_87 rfl (fun h13 => ?_) (fun h13 => ?_)
              · refine g_aload_n X dX12_worked_90 rfl 1 rfl ?_
                refine g_getr X fa_X12_272 rfl rfl dX12_worked_91 ?_
                refine g_iload_n X dX12_worked_94 rfl 3 rfl ?_
                refine g_iconst (v := 1) X dX12_worked_95 (by decide) ?_
                refine g_isub X dX12_worked_96 ?_
                refine g_aload_n X dX12_worked_97 rfl 1 rfl ?_
                refine g_getr X fa_X12_272 rfl rfl dX12_worked_98 ?_
                refine g_iload_n X dX12_worked_101 rfl 3 rfl ?_
                refine g_iconst (v := 1) X dX12_worked_102 (by decide) ?_
                refine g_isub X dX12_worked_103 ?_
                refine g_ild X rfl rfl dX12_worked_104 (fun v14 => ?_)
                refine g_if_ne X 112 dX12_worked_105 rfl (fun h15 => ?_) (fun h15 => ?_)
                · refine g_iconst (v := 1) X dX12_worked_108 (by decide) ?_
                  refine g_goto X 113 dX12_worked_109 rfl ?_
                  exact g_sub [1, 2, 3, 4] rfl (hb_113 (b_X12_worked_5 nf) ih x2 x3 x4 1 (x3 - 1) 5055 M)
                · refine g_iconst (v := 0) X dX12_worked_112 (by decide) ?_
                  exact g_sub [1, 2, 3, 4] rfl (hb_113 (b_X12_worked_5 nf) ih x2 x3 x4 0 (x3 - 1) 5055 M)
              · refine g_iload X dX12_worked_120 0 rfl ?_
                refine g_bipush (v := 126) X dX12_worked_122 (by decide) ?_
                refine g_bSi (As := [.int 126]) (rest := [.int v9]) X (c_X12_act l K M 126) lk_X12_226 rfl rfl (Nat.le_of_ble_eq_true rfl) ⟨Nat.le_of_ble_eq_true rfl, Nat.le_of_ble_eq_true rfl⟩ ⟨Nat.zero_le _, Nat.zero_le _⟩ dX12_worked_124 (fun r16 => ?_)
                refine g_icmp_ne X 150 dX12_worked_127 rfl (fun h17 => ?_) (fun h17 => ?_)
                · refine g_aload_n X dX12_worked_130 rfl 1 rfl ?_
                  refine g_getr X fa_X12_272 rfl rfl dX12_worked_131 ?_
                  refine g_iload_n X dX12_worked_134 rfl 3 rfl ?_
                  refine g_iconst (v := 1) X dX12_worked_135 (by decide) ?_
                  refine g_isub X dX12_worked_136 ?_
                  refine g_aload_n X dX12_worked_137 rfl 1 rfl ?_
                  refine g_getr X fa_X12_272 rfl rfl dX12_worked_138 ?_
                  refine g_iload_n X dX12_worked_141 rfl 3 rfl ?_
                  refine g_iconst (v := 1) X dX12_worked_142 (by decide) ?_
                  refine g_isub X dX12_worked_143 ?_
                  refine g_ild X rfl rfl dX12_worked_144 (fun v18 => ?_)
                  refine g_ineg X dX12_worked_145 ?_
                  refine g_isv X rfl rfl dX12_worked_146 (fun M19 => ?_)
                  refine g_goto X 184 dX12_worked_147 rfl ?_
                  exact g_sub [1, 2, 3, 4] rfl (hb_184 (b_X12_worked_5 nf) ih x2 x3 x4 M19)
                · refine g_iinc (v := (-1)) X [(3, .int (x3 + (-1))), (5, .int v9), (0, .ref 5001), (2, .int x2), (4, .int x4)] 3 dX12_worked_150 rfl (by decide) (by decide) rfl ?_
                  refine g_aload_n X dX12_worked_153 rfl 2 rfl ?_
                  refine g_getr X fa_X12_272 rfl rfl dX12_worked_154 ?_
                  refine g_iload_n X dX12_worked_157 rfl 0 rfl ?_
                  refine g_iconst (v := 1) X dX12_worked_158 (by decide) ?_
                  refine g_isub X dX12_worked_159 ?_
                  refine g_iload X dX12_worked_160 1 rfl ?_
                  refine g_sipush (v := 200) X dX12_worked_162 (by decide) ?_
                  refine g_iadd X dX12_worked_165 ?_
                  refine g_aload_n X dX12_worked_166 rfl 2 rfl ?_
                  refine g_getr X fa_X12_272 rfl rfl dX12_worked_167 ?_
                  refine g_iload_n X dX12_worked_170 rfl 0 rfl ?_
                  refine g_iconst (v := 1) X dX12_worked_171 (by decide) ?_
                  refine g_isub X dX12_worked_172 ?_
                  refine g_ild X rfl rfl dX12_worked_173 (fun v20 => ?_)
                  refine g_aload_n X dX12_worked_174 rfl 2 rfl ?_
                  refine g_getr X fa_X12_272 rfl rfl dX12_worked_175 ?_
                  refine g_iload_n X dX12_worked_178 rfl 0 rfl ?_
                  refine g_ild X rfl rfl dX12_worked_179 (fun v21 => ?_)
                  refine g_bSi (As := [.int (v9 + 200), .int v20, .int v21]) (rest := [.int ((x3 + (-1)) - 1), .ref 5055]) X (c_X12_acted l K M (v9 + 200) v20 v21) lk_X12_278 rfl rfl (Nat.le_of_ble_eq_true rfl) ⟨Nat.le_of_ble_eq_true rfl, Nat.le_of_ble_eq_true rfl⟩ ⟨Nat.zero_le _, Nat.zero_le _⟩ dX12_worked_180 (fun r22 => ?_)
                  refine g_isv X rfl rfl dX12_worked_183 (fun M23 => ?_)
                  exact g_sub [2, 3, 0, 4] rfl (hb_184 (b_X12_worked_5 nf) ih x2 (x3 + (-1)) x4 M23)
            · refine g_aload_n X dX12_worked_59 rfl 1 rfl ?_
              refine g_getr X fa_X12_272 rfl rfl dX12_worked_60 ?_
              refine g_iload_n X dX12_worked_63 rfl 3 rfl ?_
              refine g_aload_n X dX12_worked_64 rfl 1 rfl ?_
              refine g_getr X fa_X12_275 rfl rfl dX12_worked_65 ?_
              refine g_iconst (v := (-1)) X dX12_worked_68 (by decide) ?_
              refine g_iload X dX12_worked_69 0 rfl ?_
              refine g_isub X dX12_worked_71 ?_
              refine g_ild X rfl rfl dX12_worked_72 (fun v24 => ?_)
              refine g_isv X rfl rfl dX12_worked_73 (fun M25 => ?_)
              refine g_iinc (v := 1) X [(3, .int (x3 + 1)), (5, .int v9), (0, .ref 5001), (2, .int x2), (4, .int x4)] 3 dX12_worked_74 rfl (by decide) (by decide) rfl ?_
              refine g_goto X 184 dX12_worked_77 rfl ?_
              exact g_sub [2, 3, 0, 4] rfl (hb_184 (b_X12_worked_5 nf) ih x2 (x3 + 1) x4 M25)
          · refine g_aload_n X dX12_worked_38 rfl 1 rfl ?_
            refine g_getr X fa_X12_272 rfl rfl dX12_worked_39 ?_
            refine g_iload_n X dX12_worked_42 rfl 3 rfl ?_
            refine g_iload X dX12_worked_43 0 rfl ?_
            refine g_isv X rfl rfl dX12_worked_45 (fun M26 => ?_)
            refine g_iinc (v := 1) X [(3, .int (x3 + 1)), (5, .int v9), (0, .ref 5001), (2, .int x2), (4, .int x4)] 3 dX12_worked_46 rfl (by decide) (by decide) rfl ?_
            refine g_goto X 184 dX12_worked_49 rfl ?_
            exact g_sub [2, 3, 0, 4] rfl (hb_184 (b_X12_worked_5 nf) ih x2 (x3 + 1) x4 M26)
  refine g_sub (lv' := [(0, .ref 5001), (1, .int a1), (2, .int a2)]) [0, 1, 2] rfl ?_
  unfold f_X12_worked
  refine g_iconst (v := 0) X dX12_worked_0 (by decide) ?_
  refine g_istore_n X [(3, .int 0), (0, .ref 5001), (1, .int a1), (2, .int a2)] dX12_worked_1 rfl (by decide) rfl ?_
  refine g_iload_n X dX12_worked_2 rfl 2 rfl ?_
  refine g_istore X [(4, .int a1), (3, .int 0), (0, .ref 5001), (1, .int a1), (2, .int a2)] dX12_worked_3 (by decide) rfl ?_
  exact g_sub [2, 4, 1, 0] rfl (hb_5 q_fu a2 0 a1 M0)
set_option maxHeartbeats 4000000 in
set_option maxRecDepth 100000 in
theorem c_X12_others (l : Launch) (K : q_KK) (M : q_MM) (a1 : Int32) (a2 : Int32) : ∀ res, f_X12_others M a1 a2 = some res → Mt l yX12_others cX12_others 5 (some FieldType.int) 1 22 0 0 false K [.ref 5001, .int a1, .int a2] (qTM, qLM, qPM, M) (some (.int res)) ((qTM, qLM, qPM, M)) := by
  refine Mt.of (fun (res : Int32) => some (.int res)) (fun (_ : Int32) => (qTM, qLM, qPM, M)) (by decide) (Nat.le_of_ble_eq_true rfl) ?_
  intro p e s m args below meth c0 A ad X hN
  have hb_36 : ∀ (k5 : Int32 → Int32 → Int32 → Int32 → Option (Int32)) (hk5 : ∀ (x1 : Int32) (x2 : Int32) (x3 : Int32) (x4 : Int32), GG p l e { frames := 1, cells := 0, slots := 0, locals := 22 } s m args below meth c0 K A (qTM, qLM, qPM, M) ad false 5 (fun res => MQ below (q_Qc K false ad (qTM, qLM, qPM, M) ((fun (res : Int32) => some (.int res)) res) ((fun (_ : Int32) => (qTM, qLM, qPM, M)) res) A) args s 0 0 A) (k5 x1 x2 x3 x4) 5 [(0, .ref 5001), (1, .int x1), (2, .int x2), (3, .int x3), (4, .int x4)] [] (qTM, qLM, qPM, M) 0 0) (x1 : Int32) (x2 : Int32) (x4 : Int32) (s0 : Int32) (s1 : Int32), GG p l e { frames := 1, cells := 0, slots := 0, locals := 22 } s m args below meth c0 K A (qTM, qLM, qPM, M) ad false 5 (fun res => MQ below (q_Qc K false ad (qTM, qLM, qPM, M) ((fun (res : Int32) => some (.int res)) res) ((fun (_ : Int32) => (qTM, qLM, qPM, M)) res) A) args s 0 0 A) (b_X12_others_36 M k5 x1 x2 x4 s0 s1) 36 [(0, .ref 5001), (1, .int x1), (2, .int x2), (4, .int x4)] [.int s0, .int s1] (qTM, qLM, qPM, M) 0 0 := by
    intro k5 hk5 x1 x2 x4 s0 s1
    unfold b_X12_others_36
    refine g_bSi (As := [.int s0]) (rest := [.int s1]) X (c_X12_truth l K M s0) lk_X12_268 rfl rfl (Nat.le_of_ble_eq_true rfl) ⟨Nat.le_of_ble_eq_true rfl, Nat.le_of_ble_eq_true rfl⟩ ⟨Nat.zero_le _, Nat.zero_le _⟩ dX12_others_36 (fun r1 => ?_)
    refine g_iadd X dX12_others_39 ?_
    refine g_isn X (fun v2 => [(3, .int v2), (0, .ref 5001), (1, .int x1), (2, .int x2), (4, .int x4)]) dX12_others_40 rfl (by decide) (fun _ => rfl) (fun v2 => ?_)
    refine g_iinc (v := 1) X [(4, .int (x4 + 1)), (3, .int v2), (0, .ref 5001), (1, .int x1), (2, .int x2)] 4 dX12_others_41 rfl (by decide) (by decide) rfl ?_
    refine g_goto X 5 dX12_others_44 rfl ?_
    exact g_sub [2, 3, 4, 1, 0] rfl (hk5 x1 x2 v2 (x4 + 1))
  have hb_35 : ∀ (k5 : Int32 → Int32 → Int32 → Int32 → Option (Int32)) (hk5 : ∀ (x1 : Int32) (x2 : Int32) (x3 : Int32) (x4 : Int32), GG p l e { frames := 1, cells := 0, slots := 0, locals := 22 } s m args below meth c0 K A (qTM, qLM, qPM, M) ad false 5 (fun res => MQ below (q_Qc K false ad (qTM, qLM, qPM, M) ((fun (res : Int32) => some (.int res)) res) ((fun (_ : Int32) => (qTM, qLM, qPM, M)) res) A) args s 0 0 A) (k5 x1 x2 x3 x4) 5 [(0, .ref 5001), (1, .int x1), (2, .int x2), (3, .int x3), (4, .int x4)] [] (qTM, qLM, qPM, M) 0 0) (x1 : Int32) (x2 : Int32) (x4 : Int32) (s0 : Int32), GG p l e { frames := 1, cells := 0, slots := 0, locals := 22 } s m args below meth c0 K A (qTM, qLM, qPM, M) ad false 5 (fun res => MQ below (q_Qc K false ad (qTM, qLM, qPM, M) ((fun (res : Int32) => some (.int res)) res) ((fun (_ : Int32) => (qTM, qLM, qPM, M)) res) A) args s 0 0 A) (b_X12_others_35 M k5 x1 x2 x4 s0) 35 [(0, .ref 5001), (1, .int x1), (2, .int x2), (4, .int x4)] [.int s0] (qTM, qLM, qPM, M) 0 0 := by
    intro k5 hk5 x1 x2 x4 s0
    unfold b_X12_others_35
    refine g_iconst (v := 0) X dX12_others_35 (by decide) ?_
    exact g_sub [0, 1, 2, 3] rfl (hb_36 k5 hk5 x1 x2 x4 0 s0)
  have hb_5 : ∀ (nf : Nat) (x1 : Int32) (x2 : Int32) (x3 : Int32) (x4 : Int32), GG p l e { frames := 1, cells := 0, slots := 0, locals := 22 } s m args below meth c0 K A (qTM, qLM, qPM, M) ad false 5 (fun res => MQ below (q_Qc K false ad (qTM, qLM, qPM, M) ((fun (res : Int32) => some (.int res)) res) ((fun (_ : Int32) => (qTM, qLM, qPM, M)) res) A) args s 0 0 A) (b_X12_others_5 M nf x1 x2 x3 x4) 5 [(0, .ref 5001), (1, .int x1), (2, .int x2), (3, .int x3), (4, .int x4)] [] (qTM, qLM, qPM, M) 0 0 := by
    intro  nf
    induction nf with
    | zero => intros; exact g_stop
    | succ nf ih =>
      intro x1 x2 x3 x4
      rw [b_X12_others_5]
      refine g_iload X dX12_others_5 4 rfl ?_
      refine g_aload_n X dX12_others_7 rfl 0 rfl ?_
      refine g_geti X fa_X12_108 rfl dX12_others_8 ?_
      refine g_icmp_ge X 47 dX12_others_11 rfl (fun h3 => ?_) (fun h3 => ?_)
      · refine g_iload_n X dX12_others_47 rfl 3 rfl ?_
        exact g_iret X rfl rfl rfl dX12_others_48
      · refine g_iload_n X dX12_others_14 rfl 3 rfl ?_
        refine g_iload X dX12_others_15 4 rfl ?_
        refine g_iload_n X dX12_others_17 rfl 1 rfl ?_
        refine g_icmp_eq X 35 dX12_others_18 rfl (fun h4 => ?_) (fun h4 => ?_)
        · exact g_sub [0, 1, 2, 4] rfl (hb_35 (b_X12_others_5 M nf) ih x1 x2 x4 x3)
        · refine g_aload_n X dX12_others_21 rfl 0 rfl ?_
          refine g_iload X dX12_others_22 4 rfl ?_
          refine g_iload_n X dX12_others_24 rfl 2 rfl ?_
          refine g_bVi (As := [.int x4, .int x2]) (rest := [.int x3]) X (c_X12_isIn l K M x4 x2) lk_X12_285 rfl rfl rfl (Nat.le_of_ble_eq_true rfl) ⟨Nat.le_of_ble_eq_true rfl, Nat.le_of_ble_eq_true rfl⟩ ⟨Nat.zero_le _, Nat.zero_le _⟩ dX12_others_25 (fun r5 => ?_)
          refine g_if_eq X 35 dX12_others_28 rfl (fun h6 => ?_) (fun h6 => ?_)
          · exact g_sub [0, 1, 2, 4] rfl (hb_35 (b_X12_others_5 M nf) ih x1 x2 x4 x3)
          · refine g_iconst (v := 1) X dX12_others_31 (by decide) ?_
            refine g_goto X 36 dX12_others_32 rfl ?_
            exact g_sub [0, 1, 2, 4] rfl (hb_36 (b_X12_others_5 M nf) ih x1 x2 x4 1 x3)
  refine g_sub (lv' := [(0, .ref 5001), (1, .int a1), (2, .int a2)]) [0, 1, 2] rfl ?_
  unfold f_X12_others
  refine g_iconst (v := 0) X dX12_others_0 (by decide) ?_
  refine g_istore_n X [(3, .int 0), (0, .ref 5001), (1, .int a1), (2, .int a2)] dX12_others_1 rfl (by decide) rfl ?_
  refine g_iconst (v := 0) X dX12_others_2 (by decide) ?_
  refine g_istore X [(4, .int 0), (3, .int 0), (0, .ref 5001), (1, .int a1), (2, .int a2)] dX12_others_3 (by decide) rfl ?_
  exact g_sub [2, 3, 4, 1, 0] rfl (hb_5 q_fu a1 a2 0 0)
set_option maxHeartbeats 4000000 in
set_option maxRecDepth 100000 in
theorem c_X12_barring (l : Launch) (K : q_KK) (M0 : q_MM) (a1 : Int32) (a2 : Int32) (a3 : Int32) : ∀ res, f_X12_barring M0 a1 a2 a3 = some res → Mt l yX12_barring cX12_barring 10 (some FieldType.int) 3 71 0 0 false K [.ref 5001, .int a1, .int a2, .int a3] (qTM, qLM, qPM, M0) (some (.int res.1)) ((qTM, qLM, qPM, res.2)) := by
  refine Mt.of (fun (res : Int32 × q_MM) => some (.int res.1)) (fun (res : Int32 × q_MM) => (qTM, qLM, qPM, res.2)) (by decide) (Nat.le_of_ble_eq_true rfl) ?_
  intro p e s m args below meth c0 A ad X hN
  have hb_320 : ∀ (nf : Nat) (x7 : Int32) (x8 : Int32) (x9 : Int32) (M : q_MM), GG p l e { frames := 3, cells := 0, slots := 0, locals := 71 } s m args below meth c0 K A (qTM, qLM, qPM, M0) ad false 10 (fun res => MQ below (q_Qc K false ad (qTM, qLM, qPM, M0) ((fun (res : Int32 × q_MM) => some (.int res.1)) res) ((fun (res : Int32 × q_MM) => (qTM, qLM, qPM, res.2)) res) A) args s 0 0 A) (b_X12_barring_320 nf x7 x8 x9 M) 320 [(0, .ref 5001), (7, .int x7), (8, .int x8), (9, .int x9)] [] (qTM, qLM, qPM, M) 0 0 := by
    intro  nf
    induction nf with
    | zero => intros; exact g_stop
    | succ nf ih =>
      intro x7 x8 x9 M
      rw [b_X12_barring_320]
      refine g_iload X dX12_barring_320 1 rfl ?_
      refine g_iload X dX12_barring_322 2 rfl ?_
      refine g_icmp_ge X 355 dX12_barring_324 rfl (fun h1 => ?_) (fun h1 => ?_)
      · refine g_iconst (v := (-1)) X dX12_barring_355 (by decide) ?_
        exact g_iret X rfl rfl rfl dX12_barring_356
      · refine g_aload_n X dX12_barring_327 rfl 0 rfl ?_
        refine g_iload X dX12_barring_328 1 rfl ?_
        refine g_iload X dX12_barring_330 2 rfl ?_
        refine g_bVi (As := [.int x7, .int x8]) (rest := []) X (c_X12_worked l K M x7 x8) lk_X12_304 rfl rfl rfl (Nat.le_of_ble_eq_true rfl) ⟨Nat.le_of_ble_eq_true rfl, Nat.le_of_ble_eq_true rfl⟩ ⟨Nat.zero_le _, Nat.zero_le _⟩ dX12_barring_332 (fun r2 => ?_)
        refine g_if_ne X 341 dX12_barring_335 rfl (fun h3 => ?_) (fun h3 => ?_)
        · refine g_iload X dX12_barring_338 3 rfl ?_
          exact g_iret X rfl rfl rfl dX12_barring_340
        · refine g_aload_n X dX12_barring_341 rfl 0 rfl ?_
          refine g_geti X fa_X12_282 rfl dX12_barring_342 ?_
          refine g_iconst (v := 1) X dX12_barring_345 (by decide) ?_
          refine g_iadd X dX12_barring_346 ?_
          refine g_is X (fun v4 => [(7, .int v4), (0, .ref 5001), (8, .int x8), (9, .int x9)]) dX12_barring_347 (by decide) (fun _ => rfl) (fun v4 => ?_)
          refine g_iinc (v := 1) X [(9, .int (x9 + 1)), (7, .int v4), (0, .ref 5001), (8, .int x8)] 3 dX12_barring_349 rfl (by decide) (by decide) rfl ?_
          refine g_goto X 320 dX12_barring_352 rfl ?_
          exact g_sub [2, 1, 3, 0] rfl (ih v4 x8 (x9 + 1) r2.2)
  have hb_215 : ∀ (x1 : Int32) (x2 : Int32) (x4 : Int32) (s0 : Int32) (s1 : Int32) (s2 : Nat) (M : q_MM), GG p l e { frames := 3, cells := 0, slots := 0, locals := 71 } s m args below meth c0 K A (qTM, qLM, qPM, M0) ad false 10 (fun res => MQ below (q_Qc K false ad (qTM, qLM, qPM, M0) ((fun (res : Int32 × q_MM) => some (.int res.1)) res) ((fun (res : Int32 × q_MM) => (qTM, qLM, qPM, res.2)) res) A) args s 0 0 A) (b_X12_barring_215 x1 x2 x4 s0 s1 s2 M) 215 [(0, .ref 5001), (1, .int x1), (2, .int x2), (4, .int x4)] [.int s0, .int s1, .ref s2] (qTM, qLM, qPM, M) 0 0 := by
    intro x1 x2 x4 s0 s1 s2 M
    unfold b_X12_barring_215
    refine g_bSi (As := [.int s0]) (rest := [.int s1, .ref s2]) X (c_X12_truth l K M s0) lk_X12_268 rfl rfl (Nat.le_of_ble_eq_true rfl) ⟨Nat.le_of_ble_eq_true rfl, Nat.le_of_ble_eq_true rfl⟩ ⟨Nat.zero_le _, Nat.zero_le _⟩ dX12_barring_215 (fun r5 => ?_)
    refine g_ck (fun hT6 => ?_)
    refine g_isv X hT6 rfl dX12_barring_218 (fun M7 => ?_)
    refine g_aload_n X dX12_barring_219 rfl 0 rfl ?_
    refine g_getr X fa_X12_275 rfl rfl dX12_barring_220 ?_
    refine g_bipush (v := 7) X dX12_barring_223 (by decide) ?_
    refine g_aload_n X dX12_barring_225 rfl 0 rfl ?_
    refine g_iload_n X dX12_barring_226 rfl 1 rfl ?_
    refine g_aload_n X dX12_barring_227 rfl 0 rfl ?_
    refine g_getr X fa_X12_57 rfl rfl dX12_barring_228 ?_
    refine g_iload_n X dX12_barring_231 rfl 2 rfl ?_
    refine g_ild X rfl rfl dX12_barring_232 (fun v8 => ?_)
    refine g_bVi (As := [.int x1, .int v8]) (rest := [.int 7, .ref 5056]) X (c_X12_others l K M7 x1 v8) lk_X12_295 rfl rfl rfl (Nat.le_of_ble_eq_true rfl) ⟨Nat.le_of_ble_eq_true rfl, Nat.le_of_ble_eq_true rfl⟩ ⟨Nat.zero_le _, Nat.zero_le _⟩ dX12_barring_233 (fun r9 => ?_)
    refine g_isv X rfl rfl dX12_barring_236 (fun M10 => ?_)
    refine g_aload_n X dX12_barring_237 rfl 0 rfl ?_
    refine g_getr X fa_X12_275 rfl rfl dX12_barring_238 ?_
    refine g_bipush (v := 8) X dX12_barring_241 (by decide) ?_
    refine g_aload_n X dX12_barring_243 rfl 0 rfl ?_
    refine g_getr X fa_X12_148 rfl rfl dX12_barring_244 ?_
    refine g_iload_n X dX12_barring_247 rfl 1 rfl ?_
    refine g_ild X rfl rfl dX12_barring_248 (fun v11 => ?_)
    refine g_aload_n X dX12_barring_249 rfl 0 rfl ?_
    refine g_getr X fa_X12_298 rfl rfl dX12_barring_250 ?_
    refine g_iload_n X dX12_barring_253 rfl 1 rfl ?_
    refine g_ild X rfl rfl dX12_barring_254 (fun v12 => ?_)
    refine g_isub X dX12_barring_255 ?_
    refine g_isv X rfl rfl dX12_barring_256 (fun M13 => ?_)
    refine g_aload_n X dX12_barring_257 rfl 0 rfl ?_
    refine g_getr X fa_X12_275 rfl rfl dX12_barring_258 ?_
    refine g_bipush (v := 9) X dX12_barring_261 (by decide) ?_
    refine g_aload_n X dX12_barring_263 rfl 0 rfl ?_
    refine g_geti X fa_X12_259 rfl dX12_barring_264 ?_
    refine g_isv X rfl rfl dX12_barring_267 (fun M14 => ?_)
    refine g_aload_n X dX12_barring_268 rfl 0 rfl ?_
    refine g_getr X fa_X12_275 rfl rfl dX12_barring_269 ?_
    refine g_bipush (v := 10) X dX12_barring_272 (by decide) ?_
    refine g_aload_n X dX12_barring_274 rfl 0 rfl ?_
    refine g_getr X fa_X12_133 rfl rfl dX12_barring_275 ?_
    refine g_iload_n X dX12_barring_278 rfl 1 rfl ?_
    refine g_ild X rfl rfl dX12_barring_279 (fun v15 => ?_)
    refine g_isv X rfl rfl dX12_barring_280 (fun M16 => ?_)
    refine g_aload_n X dX12_barring_281 rfl 0 rfl ?_
    refine g_getr X fa_X12_275 rfl rfl dX12_barring_282 ?_
    refine g_bipush (v := 11) X dX12_barring_285 (by decide) ?_
    refine g_aload_n X dX12_barring_287 rfl 0 rfl ?_
    refine g_aload_n X dX12_barring_288 rfl 0 rfl ?_
    refine g_getr X fa_X12_57 rfl rfl dX12_barring_289 ?_
    refine g_iload_n X dX12_barring_292 rfl 2 rfl ?_
    refine g_ild X rfl rfl dX12_barring_293 (fun v17 => ?_)
    refine g_bVi (As := [.int v17]) (rest := [.int 11, .ref 5056]) X (c_X12_doorsTo l K M16 v17) lk_X12_301 rfl rfl rfl (Nat.le_of_ble_eq_true rfl) ⟨Nat.le_of_ble_eq_true rfl, Nat.le_of_ble_eq_true rfl⟩ ⟨Nat.zero_le _, Nat.zero_le _⟩ dX12_barring_294 (fun r18 => ?_)
    refine g_isv X rfl rfl dX12_barring_297 (fun M19 => ?_)
    refine g_bipush (v := 64) X dX12_barring_298 (by decide) ?_
    refine g_iload X dX12_barring_300 3 rfl ?_
    refine g_imul X dX12_barring_302 ?_
    refine g_is X (fun v20 => [(7, .int v20), (0, .ref 5001), (1, .int x1), (2, .int x2), (4, .int x4)]) dX12_barring_303 (by decide) (fun _ => rfl) (fun v20 => ?_)
    refine g_iload X dX12_barring_305 0 rfl ?_
    refine g_aload_n X dX12_barring_307 rfl 1 rfl ?_
    refine g_getr X fa_X12_197 rfl rfl dX12_barring_308 ?_
    refine g_iload X dX12_barring_311 4 rfl ?_
    refine g_ild X rfl rfl dX12_barring_313 (fun v21 => ?_)
    refine g_iadd X dX12_barring_314 ?_
    refine g_is X (fun v22 => [(8, .int v22), (7, .int v20), (0, .ref 5001), (1, .int x1), (2, .int x2), (4, .int x4)]) dX12_barring_315 (by decide) (fun _ => rfl) (fun v22 => ?_)
    refine g_iconst (v := 0) X dX12_barring_317 (by decide) ?_
    refine g_istore X [(9, .int 0), (8, .int v22), (7, .int v20), (0, .ref 5001), (1, .int x1), (2, .int x2), (4, .int x4)] dX12_barring_318 (by decide) rfl ?_
    exact g_sub [3, 2, 1, 0] rfl (hb_320 q_fu v20 v22 0 M19)
  have hb_210 : ∀ (x1 : Int32) (x2 : Int32) (x4 : Int32) (s0 : Int32) (s1 : Nat) (M : q_MM), GG p l e { frames := 3, cells := 0, slots := 0, locals := 71 } s m args below meth c0 K A (qTM, qLM, qPM, M0) ad false 10 (fun res => MQ below (q_Qc K false ad (qTM, qLM, qPM, M0) ((fun (res : Int32 × q_MM) => some (.int res.1)) res) ((fun (res : Int32 × q_MM) => (qTM, qLM, qPM, res.2)) res) A) args s 0 0 A) (b_X12_barring_210 x1 x2 x4 s0 s1 M) 210 [(0, .ref 5001), (1, .int x1), (2, .int x2), (4, .int x4)] [.int s0, .ref s1] (qTM, qLM, qPM, M) 0 0 := by
    intro x1 x2 x4 s0 s1 M
    unfold b_X12_barring_210
    refine g_iconst (v := 1) X dX12_barring_210 (by decide) ?_
    refine g_goto X 215 dX12_barring_211 rfl ?_
    exact g_sub [0, 1, 2, 3] rfl (hb_215 x1 x2 x4 1 s0 s1 M)
  have hb_214 : ∀ (x1 : Int32) (x2 : Int32) (x4 : Int32) (s0 : Int32) (s1 : Nat) (M : q_MM), GG p l e { frames := 3, cells := 0, slots := 0, locals := 71 } s m args below meth c0 K A (qTM, qLM, qPM, M0) ad false 10 (fun res => MQ below (q_Qc K false ad (qTM, qLM, qPM, M0) ((fun (res : Int32 × q_MM) => some (.int res.1)) res) ((fun (res : Int32 × q_MM) => (qTM, qLM, qPM, res.2)) res) A) args s 0 0 A) (b_X12_barring_214 x1 x2 x4 s0 s1 M) 214 [(0, .ref 5001), (1, .int x1), (2, .int x2), (4, .int x4)] [.int s0, .ref s1] (qTM, qLM, qPM, M) 0 0 := by
    intro x1 x2 x4 s0 s1 M
    unfold b_X12_barring_214
    refine g_iconst (v := 0) X dX12_barring_214 (by decide) ?_
    exact g_sub [0, 1, 2, 3] rfl (hb_215 x1 x2 x4 0 s0 s1 M)
  have hb_168 : ∀ (x1 : Int32) (x2 : Int32) (x4 : Int32) (x5 : Int32) (x6 : Int32) (s0 : Int32) (s1 : Int32) (s2 : Int32) (s3 : Nat) (M : q_MM), GG p l e { frames := 3, cells := 0, slots := 0, locals := 71 } s m args below meth c0 K A (qTM, qLM, qPM, M0) ad false 10 (fun res => MQ below (q_Qc K false ad (qTM, qLM, qPM, M0) ((fun (res : Int32 × q_MM) => some (.int res.1)) res) ((fun (res : Int32 × q_MM) => (qTM, qLM, qPM, res.2)) res) A) args s 0 0 A) (b_X12_barring_168 x1 x2 x4 x5 x6 s0 s1 s2 s3 M) 168 [(0, .ref 5001), (1, .int x1), (2, .int x2), (4, .int x4), (5, .int x5), (6, .int x6)] [.int s0, .int s1, .int s2, .ref s3] (qTM, qLM, qPM, M) 0 0 := by
    intro x1 x2 x4 x5 x6 s0 s1 s2 s3 M
    unfold b_X12_barring_168
    refine g_bSi (As := [.int s0]) (rest := [.int s1, .int s2, .ref s3]) X (c_X12_truth l K M s0) lk_X12_268 rfl rfl (Nat.le_of_ble_eq_true rfl) ⟨Nat.le_of_ble_eq_true rfl, Nat.le_of_ble_eq_true rfl⟩ ⟨Nat.zero_le _, Nat.zero_le _⟩ dX12_barring_168 (fun r23 => ?_)
    refine g_iadd X dX12_barring_171 ?_
    refine g_ck (fun hT24 => ?_)
    refine g_isv X hT24 rfl dX12_barring_172 (fun M25 => ?_)
    refine g_aload_n X dX12_barring_173 rfl 0 rfl ?_
    refine g_getr X fa_X12_275 rfl rfl dX12_barring_174 ?_
    refine g_bipush (v := 6) X dX12_barring_177 (by decide) ?_
    refine g_aload_n X dX12_barring_179 rfl 0 rfl ?_
    refine g_getr X fa_X12_142 rfl rfl dX12_barring_180 ?_
    refine g_iload_n X dX12_barring_183 rfl 1 rfl ?_
    refine g_ild X rfl rfl dX12_barring_184 (fun v26 => ?_)
    refine g_if_lt X 214 dX12_barring_185 rfl (fun h27 => ?_) (fun h27 => ?_)
    · exact g_sub [0, 1, 2, 3] rfl (hb_214 x1 x2 x4 6 5056 M25)
    · refine g_aload_n X dX12_barring_188 rfl 0 rfl ?_
      refine g_getr X fa_X12_142 rfl rfl dX12_barring_189 ?_
      refine g_iload_n X dX12_barring_192 rfl 1 rfl ?_
      refine g_ild X rfl rfl dX12_barring_193 (fun v28 => ?_)
      refine g_iload X dX12_barring_194 4 rfl ?_
      refine g_icmp_eq X 210 dX12_barring_196 rfl (fun h29 => ?_) (fun h29 => ?_)
      · exact g_sub [0, 1, 2, 3] rfl (hb_210 x1 x2 x4 6 5056 M25)
      · refine g_aload_n X dX12_barring_199 rfl 0 rfl ?_
        refine g_getr X fa_X12_142 rfl rfl dX12_barring_200 ?_
        refine g_iload_n X dX12_barring_203 rfl 1 rfl ?_
        refine g_ild X rfl rfl dX12_barring_204 (fun v30 => ?_)
        refine g_iload X dX12_barring_205 5 rfl ?_
        refine g_icmp_ne X 214 dX12_barring_207 rfl (fun h31 => ?_) (fun h31 => ?_)
        · exact g_sub [0, 1, 2, 3] rfl (hb_210 x1 x2 x4 6 5056 M25)
        · exact g_sub [0, 1, 2, 3] rfl (hb_214 x1 x2 x4 6 5056 M25)
  have hb_167 : ∀ (x1 : Int32) (x2 : Int32) (x4 : Int32) (x5 : Int32) (x6 : Int32) (s0 : Int32) (s1 : Int32) (s2 : Nat) (M : q_MM), GG p l e { frames := 3, cells := 0, slots := 0, locals := 71 } s m args below meth c0 K A (qTM, qLM, qPM, M0) ad false 10 (fun res => MQ below (q_Qc K false ad (qTM, qLM, qPM, M0) ((fun (res : Int32 × q_MM) => some (.int res.1)) res) ((fun (res : Int32 × q_MM) => (qTM, qLM, qPM, res.2)) res) A) args s 0 0 A) (b_X12_barring_167 x1 x2 x4 x5 x6 s0 s1 s2 M) 167 [(0, .ref 5001), (1, .int x1), (2, .int x2), (4, .int x4), (5, .int x5), (6, .int x6)] [.int s0, .int s1, .ref s2] (qTM, qLM, qPM, M) 0 0 := by
    intro x1 x2 x4 x5 x6 s0 s1 s2 M
    unfold b_X12_barring_167
    refine g_iconst (v := 0) X dX12_barring_167 (by decide) ?_
    exact g_sub [0, 1, 2, 3, 4, 5] rfl (hb_168 x1 x2 x4 x5 x6 0 s0 s1 s2 M)
  have hb_139 : ∀ (x1 : Int32) (x2 : Int32) (x4 : Int32) (x5 : Int32) (x6 : Int32) (s0 : Int32) (s1 : Int32) (s2 : Nat) (M : q_MM), GG p l e { frames := 3, cells := 0, slots := 0, locals := 71 } s m args below meth c0 K A (qTM, qLM, qPM, M0) ad false 10 (fun res => MQ below (q_Qc K false ad (qTM, qLM, qPM, M0) ((fun (res : Int32 × q_MM) => some (.int res.1)) res) ((fun (res : Int32 × q_MM) => (qTM, qLM, qPM, res.2)) res) A) args s 0 0 A) (b_X12_barring_139 x1 x2 x4 x5 x6 s0 s1 s2 M) 139 [(0, .ref 5001), (1, .int x1), (2, .int x2), (4, .int x4), (5, .int x5), (6, .int x6)] [.int s0, .int s1, .ref s2] (qTM, qLM, qPM, M) 0 0 := by
    intro x1 x2 x4 x5 x6 s0 s1 s2 M
    unfold b_X12_barring_139
    refine g_bSi (As := [.int s0]) (rest := [.int s1, .ref s2]) X (c_X12_truth l K M s0) lk_X12_268 rfl rfl (Nat.le_of_ble_eq_true rfl) ⟨Nat.le_of_ble_eq_true rfl, Nat.le_of_ble_eq_true rfl⟩ ⟨Nat.zero_le _, Nat.zero_le _⟩ dX12_barring_139 (fun r32 => ?_)
    refine g_iload X dX12_barring_142 5 rfl ?_
    refine g_if_lt X 167 dX12_barring_144 rfl (fun h33 => ?_) (fun h33 => ?_)
    · exact g_sub [0, 1, 2, 3, 4, 5] rfl (hb_167 x1 x2 x4 x5 x6 r32 s1 s2 M)
    · refine g_aload_n X dX12_barring_147 rfl 0 rfl ?_
      refine g_getr X fa_X12_130 rfl rfl dX12_barring_148 ?_
      refine g_iload X dX12_barring_151 5 rfl ?_
      refine g_ild X rfl rfl dX12_barring_153 (fun v34 => ?_)
      refine g_aload_n X dX12_barring_154 rfl 0 rfl ?_
      refine g_getr X fa_X12_130 rfl rfl dX12_barring_155 ?_
      refine g_iload_n X dX12_barring_158 rfl 1 rfl ?_
      refine g_ild X rfl rfl dX12_barring_159 (fun v35 => ?_)
      refine g_icmp_ne X 167 dX12_barring_160 rfl (fun h36 => ?_) (fun h36 => ?_)
      · refine g_iconst (v := 1) X dX12_barring_163 (by decide) ?_
        refine g_goto X 168 dX12_barring_164 rfl ?_
        exact g_sub [0, 1, 2, 3, 4, 5] rfl (hb_168 x1 x2 x4 x5 x6 1 r32 s1 s2 M)
      · exact g_sub [0, 1, 2, 3, 4, 5] rfl (hb_167 x1 x2 x4 x5 x6 r32 s1 s2 M)
  have hb_138 : ∀ (x1 : Int32) (x2 : Int32) (x4 : Int32) (x5 : Int32) (x6 : Int32) (s0 : Int32) (s1 : Nat) (M : q_MM), GG p l e { frames := 3, cells := 0, slots := 0, locals := 71 } s m args below meth c0 K A (qTM, qLM, qPM, M0) ad false 10 (fun res => MQ below (q_Qc K false ad (qTM, qLM, qPM, M0) ((fun (res : Int32 × q_MM) => some (.int res.1)) res) ((fun (res : Int32 × q_MM) => (qTM, qLM, qPM, res.2)) res) A) args s 0 0 A) (b_X12_barring_138 x1 x2 x4 x5 x6 s0 s1 M) 138 [(0, .ref 5001), (1, .int x1), (2, .int x2), (4, .int x4), (5, .int x5), (6, .int x6)] [.int s0, .ref s1] (qTM, qLM, qPM, M) 0 0 := by
    intro x1 x2 x4 x5 x6 s0 s1 M
    unfold b_X12_barring_138
    refine g_iconst (v := 0) X dX12_barring_138 (by decide) ?_
    exact g_sub [0, 1, 2, 3, 4, 5] rfl (hb_139 x1 x2 x4 x5 x6 0 s0 s1 M)
  have hb_103 : ∀ (x1 : Int32) (x2 : Int32) (x4 : Int32) (x5 : Int32) (x6 : Int32) (s0 : Int32) (s1 : Int32) (s2 : Int32) (s3 : Nat) (M : q_MM), GG p l e { frames := 3, cells := 0, slots := 0, locals := 71 } s m args below meth c0 K A (qTM, qLM, qPM, M0) ad false 10 (fun res => MQ below (q_Qc K false ad (qTM, qLM, qPM, M0) ((fun (res : Int32 × q_MM) => some (.int res.1)) res) ((fun (res : Int32 × q_MM) => (qTM, qLM, qPM, res.2)) res) A) args s 0 0 A) (b_X12_barring_103 x1 x2 x4 x5 x6 s0 s1 s2 s3 M) 103 [(0, .ref 5001), (1, .int x1), (2, .int x2), (4, .int x4), (5, .int x5), (6, .int x6)] [.int s0, .int s1, .int s2, .ref s3] (qTM, qLM, qPM, M) 0 0 := by
    intro x1 x2 x4 x5 x6 s0 s1 s2 s3 M
    unfold b_X12_barring_103
    refine g_bSi (As := [.int s0]) (rest := [.int s1, .int s2, .ref s3]) X (c_X12_truth l K M s0) lk_X12_268 rfl rfl (Nat.le_of_ble_eq_true rfl) ⟨Nat.le_of_ble_eq_true rfl, Nat.le_of_ble_eq_true rfl⟩ ⟨Nat.zero_le _, Nat.zero_le _⟩ dX12_barring_103 (fun r37 => ?_)
    refine g_iadd X dX12_barring_106 ?_
    refine g_ck (fun hT38 => ?_)
    refine g_isv X hT38 rfl dX12_barring_107 (fun M39 => ?_)
    refine g_aload_n X dX12_barring_108 rfl 0 rfl ?_
    refine g_getr X fa_X12_275 rfl rfl dX12_barring_109 ?_
    refine g_iconst (v := 5) X dX12_barring_112 (by decide) ?_
    refine g_iload X dX12_barring_113 4 rfl ?_
    refine g_if_lt X 138 dX12_barring_115 rfl (fun h40 => ?_) (fun h40 => ?_)
    · exact g_sub [0, 1, 2, 3, 4, 5] rfl (hb_138 x1 x2 x4 x5 x6 5 5056 M39)
    · refine g_aload_n X dX12_barring_118 rfl 0 rfl ?_
      refine g_getr X fa_X12_130 rfl rfl dX12_barring_119 ?_
      refine g_iload X dX12_barring_122 4 rfl ?_
      refine g_ild X rfl rfl dX12_barring_124 (fun v41 => ?_)
      refine g_aload_n X dX12_barring_125 rfl 0 rfl ?_
      refine g_getr X fa_X12_130 rfl rfl dX12_barring_126 ?_
      refine g_iload_n X dX12_barring_129 rfl 1 rfl ?_
      refine g_ild X rfl rfl dX12_barring_130 (fun v42 => ?_)
      refine g_icmp_ne X 138 dX12_barring_131 rfl (fun h43 => ?_) (fun h43 => ?_)
      · refine g_iconst (v := 1) X dX12_barring_134 (by decide) ?_
        refine g_goto X 139 dX12_barring_135 rfl ?_
        exact g_sub [0, 1, 2, 3, 4, 5] rfl (hb_139 x1 x2 x4 x5 x6 1 5 5056 M39)
      · exact g_sub [0, 1, 2, 3, 4, 5] rfl (hb_138 x1 x2 x4 x5 x6 5 5056 M39)
  have hb_90 : ∀ (x1 : Int32) (x2 : Int32) (x4 : Int32) (x5 : Int32) (x6 : Int32) (s0 : Int32) (s1 : Int32) (s2 : Nat) (M : q_MM), GG p l e { frames := 3, cells := 0, slots := 0, locals := 71 } s m args below meth c0 K A (qTM, qLM, qPM, M0) ad false 10 (fun res => MQ below (q_Qc K false ad (qTM, qLM, qPM, M0) ((fun (res : Int32 × q_MM) => some (.int res.1)) res) ((fun (res : Int32 × q_MM) => (qTM, qLM, qPM, res.2)) res) A) args s 0 0 A) (b_X12_barring_90 x1 x2 x4 x5 x6 s0 s1 s2 M) 90 [(0, .ref 5001), (1, .int x1), (2, .int x2), (4, .int x4), (5, .int x5), (6, .int x6)] [.int s0, .int s1, .ref s2] (qTM, qLM, qPM, M) 0 0 := by
    intro x1 x2 x4 x5 x6 s0 s1 s2 M
    unfold b_X12_barring_90
    refine g_bSi (As := [.int s0]) (rest := [.int s1, .ref s2]) X (c_X12_truth l K M s0) lk_X12_268 rfl rfl (Nat.le_of_ble_eq_true rfl) ⟨Nat.le_of_ble_eq_true rfl, Nat.le_of_ble_eq_true rfl⟩ ⟨Nat.zero_le _, Nat.zero_le _⟩ dX12_barring_90 (fun r44 => ?_)
    refine g_iload X dX12_barring_93 5 rfl ?_
    refine g_if_lt X 102 dX12_barring_95 rfl (fun h45 => ?_) (fun h45 => ?_)
    · refine g_iconst (v := 0) X dX12_barring_102 (by decide) ?_
      exact g_sub [0, 1, 2, 3, 4, 5] rfl (hb_103 x1 x2 x4 x5 x6 0 r44 s1 s2 M)
    · refine g_iconst (v := 1) X dX12_barring_98 (by decide) ?_
      refine g_goto X 103 dX12_barring_99 rfl ?_
      exact g_sub [0, 1, 2, 3, 4, 5] rfl (hb_103 x1 x2 x4 x5 x6 1 r44 s1 s2 M)
  refine g_sub (lv' := [(0, .ref 5001), (1, .int a1), (2, .int a2), (3, .int a3)]) [0, 1, 2, 3] rfl ?_
  unfold f_X12_barring
  refine g_aload_n X dX12_barring_0 rfl 0 rfl ?_
  refine g_iload_n X dX12_barring_1 rfl 1 rfl ?_
  refine g_bVi (As := [.int a1]) (rest := []) X (c_X12_inForce l K M0 a1) lk_X12_262 rfl rfl rfl (Nat.le_of_ble_eq_true rfl) ⟨Nat.le_of_ble_eq_true rfl, Nat.le_of_ble_eq_true rfl⟩ ⟨Nat.zero_le _, Nat.zero_le _⟩ dX12_barring_2 (fun r46 => ?_)
  refine g_istore X [(4, .int r46), (0, .ref 5001), (1, .int a1), (2, .int a2), (3, .int a3)] dX12_barring_5 (by decide) rfl ?_
  refine g_iload X dX12_barring_7 0 rfl ?_
  refine g_if_ge X 14 dX12_barring_9 rfl (fun h47 => ?_) (fun h47 => ?_)
  · refine g_aload_n X dX12_barring_14 rfl 1 rfl ?_
    refine g_iload_n X dX12_barring_15 rfl 3 rfl ?_
    refine g_iload_n X dX12_barring_16 rfl 4 rfl ?_
    refine g_iload_n X dX12_barring_17 rfl 2 rfl ?_
    refine g_iconst (v := 1) X dX12_barring_18 (by decide) ?_
    refine g_bVi (As := [.int a2, .int a3, .int a1, .int 1]) (rest := []) X (c_X12_beside l K M0 a2 a3 a1 1) lk_X12_288 rfl rfl rfl (Nat.le_of_ble_eq_true rfl) ⟨Nat.le_of_ble_eq_true rfl, Nat.le_of_ble_eq_true rfl⟩ ⟨Nat.zero_le _, Nat.zero_le _⟩ dX12_barring_19 (fun r48 => ?_)
    refine g_istore X [(5, .int r48), (4, .int r46), (0, .ref 5001), (1, .int a1), (2, .int a2), (3, .int a3)] dX12_barring_22 (by decide) rfl ?_
    refine g_aload_n X dX12_barring_24 rfl 2 rfl ?_
    refine g_iload_n X dX12_barring_25 rfl 4 rfl ?_
    refine g_iload_n X dX12_barring_26 rfl 5 rfl ?_
    refine g_iload_n X dX12_barring_27 rfl 3 rfl ?_
    refine g_iconst (v := 0) X dX12_barring_28 (by decide) ?_
    refine g_bVi (As := [.int a2, .int a3, .int a1, .int 0]) (rest := []) X (c_X12_beside l K M0 a2 a3 a1 0) lk_X12_288 rfl rfl rfl (Nat.le_of_ble_eq_true rfl) ⟨Nat.le_of_ble_eq_true rfl, Nat.le_of_ble_eq_true rfl⟩ ⟨Nat.zero_le _, Nat.zero_le _⟩ dX12_barring_29 (fun r49 => ?_)
    refine g_istore X [(6, .int r49), (5, .int r48), (4, .int r46), (0, .ref 5001), (1, .int a1), (2, .int a2), (3, .int a3)] dX12_barring_32 (by decide) rfl ?_
    refine g_aload_n X dX12_barring_34 rfl 3 rfl ?_
    refine g_getr X fa_X12_275 rfl rfl dX12_barring_35 ?_
    refine g_iconst (v := 0) X dX12_barring_38 (by decide) ?_
    refine g_aload_n X dX12_barring_39 rfl 3 rfl ?_
    refine g_getr X fa_X12_57 rfl rfl dX12_barring_40 ?_
    refine g_iload_n X dX12_barring_43 rfl 5 rfl ?_
    refine g_ild X rfl rfl dX12_barring_44 (fun v50 => ?_)
    refine g_isv X rfl rfl dX12_barring_45 (fun M51 => ?_)
    refine g_aload_n X dX12_barring_46 rfl 3 rfl ?_
    refine g_getr X fa_X12_275 rfl rfl dX12_barring_47 ?_
    refine g_iconst (v := 1) X dX12_barring_50 (by decide) ?_
    refine g_iload_n X dX12_barring_51 rfl 5 rfl ?_
    refine g_isv X rfl rfl dX12_barring_52 (fun M52 => ?_)
    refine g_aload_n X dX12_barring_53 rfl 3 rfl ?_
    refine g_getr X fa_X12_275 rfl rfl dX12_barring_54 ?_
    refine g_iconst (v := 2) X dX12_barring_57 (by decide) ?_
    refine g_aload_n X dX12_barring_58 rfl 3 rfl ?_
    refine g_iload_n X dX12_barring_59 rfl 5 rfl ?_
    refine g_bVi (As := [.int a2]) (rest := [.int 2, .ref 5056]) X (c_X12_peak l K M52 a2) lk_X12_292 rfl rfl rfl (Nat.le_of_ble_eq_true rfl) ⟨Nat.le_of_ble_eq_true rfl, Nat.le_of_ble_eq_true rfl⟩ ⟨Nat.zero_le _, Nat.zero_le _⟩ dX12_barring_60 (fun r53 => ?_)
    refine g_isv X rfl rfl dX12_barring_63 (fun M54 => ?_)
    refine g_aload_n X dX12_barring_64 rfl 3 rfl ?_
    refine g_getr X fa_X12_275 rfl rfl dX12_barring_65 ?_
    refine g_iconst (v := 3) X dX12_barring_68 (by decide) ?_
    refine g_aload_n X dX12_barring_69 rfl 3 rfl ?_
    refine g_iload_n X dX12_barring_70 rfl 5 rfl ?_
    refine g_bVi (As := [.int a2]) (rest := [.int 3, .ref 5056]) X (c_X12_daylight l K M54 a2) lk_X12_98 rfl rfl rfl (Nat.le_of_ble_eq_true rfl) ⟨Nat.le_of_ble_eq_true rfl, Nat.le_of_ble_eq_true rfl⟩ ⟨Nat.zero_le _, Nat.zero_le _⟩ dX12_barring_71 (fun r55 => ?_)
    refine g_isv X rfl rfl dX12_barring_74 (fun M56 => ?_)
    refine g_aload_n X dX12_barring_75 rfl 3 rfl ?_
    refine g_getr X fa_X12_275 rfl rfl dX12_barring_76 ?_
    refine g_iconst (v := 4) X dX12_barring_79 (by decide) ?_
    refine g_iload X dX12_barring_80 1 rfl ?_
    refine g_if_lt X 89 dX12_barring_82 rfl (fun h57 => ?_) (fun h57 => ?_)
    · refine g_iconst (v := 0) X dX12_barring_89 (by decide) ?_
      exact g_sub [3, 4, 5, 2, 1, 0] rfl (hb_90 a1 a2 r46 r48 r49 0 4 5056 M56)
    · refine g_iconst (v := 1) X dX12_barring_85 (by decide) ?_
      refine g_goto X 90 dX12_barring_86 rfl ?_
      exact g_sub [3, 4, 5, 2, 1, 0] rfl (hb_90 a1 a2 r46 r48 r49 1 4 5056 M56)
  · refine g_iconst (v := (-1)) X dX12_barring_12 (by decide) ?_
    exact g_iret X rfl rfl rfl dX12_barring_13
set_option maxHeartbeats 4000000 in
set_option maxRecDepth 100000 in
theorem c_X12_why (l : Launch) (K : q_KK) (M0 : q_MM) (a1 : Int32) (a2 : Int32) (a3 : Int32) : ∀ res, f_X12_why M0 a1 a2 a3 = some res → Mt l yX12_why cX12_why 5 (some FieldType.int) 4 100 0 0 false K [.ref 5001, .int a1, .int a2, .int a3] (qTM, qLM, qPM, M0) (some (.int res.1)) ((qTM, qLM, qPM, res.2)) := by
  refine Mt.of (fun (res : Int32 × q_MM) => some (.int res.1)) (fun (res : Int32 × q_MM) => (qTM, qLM, qPM, res.2)) (by decide) (Nat.le_of_ble_eq_true rfl) ?_
  intro p e s m args below meth c0 A ad X hN
  refine g_sub (lv' := [(0, .ref 5001), (1, .int a1), (2, .int a2), (3, .int a3)]) [0, 1, 2, 3] rfl ?_
  unfold f_X12_why
  refine g_aload_n X dX12_why_0 rfl 0 rfl ?_
  refine g_iconst (v := 0) X dX12_why_1 (by decide) ?_
  refine g_pfi X fa_X12_1 rfl (by decide +kernel) rfl dX12_why_2 (fun M1 => ?_)
  refine g_aload_n X dX12_why_5 rfl 0 rfl ?_
  refine g_iload_n X dX12_why_6 rfl 1 rfl ?_
  refine g_bVi (As := [.int a1]) (rest := []) X (c_X12_isPicture l K M1 a1) lk_X12_161 rfl rfl rfl (Nat.le_of_ble_eq_true rfl) ⟨Nat.le_of_ble_eq_true rfl, Nat.le_of_ble_eq_true rfl⟩ ⟨Nat.zero_le _, Nat.zero_le _⟩ dX12_why_7 (fun r2 => ?_)
  refine g_if_eq X 21 dX12_why_10 rfl (fun h3 => ?_) (fun h3 => ?_)
  · refine g_iconst (v := (-1)) X dX12_why_21 (by decide) ?_
    exact g_iret X rfl rfl rfl dX12_why_22
  · refine g_aload_n X dX12_why_13 rfl 0 rfl ?_
    refine g_iload_n X dX12_why_14 rfl 2 rfl ?_
    refine g_bVi (As := [.int a2]) (rest := []) X (c_X12_isWall l K M1 a2) lk_X12_90 rfl rfl rfl (Nat.le_of_ble_eq_true rfl) ⟨Nat.le_of_ble_eq_true rfl, Nat.le_of_ble_eq_true rfl⟩ ⟨Nat.zero_le _, Nat.zero_le _⟩ dX12_why_15 (fun r4 => ?_)
    refine g_if_ne X 23 dX12_why_18 rfl (fun h5 => ?_) (fun h5 => ?_)
    · refine g_iconst (v := (-1)) X dX12_why_21 (by decide) ?_
      exact g_iret X rfl rfl rfl dX12_why_22
    · refine g_aload_n X dX12_why_23 rfl 0 rfl ?_
      refine g_iload_n X dX12_why_24 rfl 1 rfl ?_
      refine g_iload_n X dX12_why_25 rfl 2 rfl ?_
      refine g_iload_n X dX12_why_26 rfl 3 rfl ?_
      refine g_bVi (As := [.int a1, .int a2, .int a3]) (rest := []) X (c_X12_barring l K M1 a1 a2 a3) lk_X12_307 rfl rfl rfl (Nat.le_of_ble_eq_true rfl) ⟨Nat.le_of_ble_eq_true rfl, Nat.le_of_ble_eq_true rfl⟩ ⟨Nat.zero_le _, Nat.zero_le _⟩ dX12_why_27 (fun r6 => ?_)
      refine g_is X (fun v7 => [(4, .int v7), (0, .ref 5001), (1, .int a1), (2, .int a2), (3, .int a3)]) dX12_why_30 (by decide) (fun _ => rfl) (fun v7 => ?_)
      refine g_iload X dX12_why_32 0 rfl ?_
      refine g_if_ge X 42 dX12_why_34 rfl (fun h8 => ?_) (fun h8 => ?_)
      · refine g_iload X dX12_why_42 0 rfl ?_
        exact g_iret X rfl rfl rfl dX12_why_44
      · refine g_bipush (v := (-2)) X dX12_why_37 (by decide) ?_
        refine g_goto X 44 dX12_why_39 rfl ?_
        exact g_iret X rfl rfl rfl dX12_why_44
set_option maxHeartbeats 4000000 in
set_option maxRecDepth 100000 in
theorem c_X12_isHigh (l : Launch) (K : q_KK) (M : q_MM) (a1 : Int32) (a2 : Int32) : ∀ res, f_X12_isHigh M a1 a2 = some res → Mt l yX12_isHigh cX12_isHigh 3 (some FieldType.boolean) 0 0 0 0 false K [.ref 5001, .int a1, .int a2] (qTM, qLM, qPM, M) (some (.int res)) ((qTM, qLM, qPM, M)) := by
  refine Mt.of (fun (res : Int32) => some (.int res)) (fun (_ : Int32) => (qTM, qLM, qPM, M)) (by decide) (Nat.le_of_ble_eq_true rfl) ?_
  intro p e s m args below meth c0 A ad X hN
  refine g_sub (lv' := [(0, .ref 5001), (1, .int a1), (2, .int a2)]) [0, 1, 2] rfl ?_
  unfold f_X12_isHigh
  refine g_aload_n X dX12_isHigh_0 rfl 0 rfl ?_
  refine g_getr X fa_X12_124 rfl rfl dX12_isHigh_1 ?_
  refine g_iload_n X dX12_isHigh_4 rfl 1 rfl ?_
  refine g_ild X rfl rfl dX12_isHigh_5 (fun v1 => ?_)
  refine g_iconst (v := 2) X dX12_isHigh_6 (by decide) ?_
  refine g_aload_n X dX12_isHigh_7 rfl 0 rfl ?_
  refine g_getr X fa_X12_75 rfl rfl dX12_isHigh_8 ?_
  refine g_iconst (v := 0) X dX12_isHigh_11 (by decide) ?_
  refine g_ild X rfl rfl dX12_isHigh_12 (fun v2 => ?_)
  refine g_imul X dX12_isHigh_13 ?_
  refine g_icmp_gt X 45 dX12_isHigh_14 rfl (fun h3 => ?_) (fun h3 => ?_)
  · refine g_iconst (v := 0) X dX12_isHigh_45 (by decide) ?_
    exact g_zret X rfl rfl rfl dX12_isHigh_46
  · refine g_aload_n X dX12_isHigh_17 rfl 0 rfl ?_
    refine g_getr X fa_X12_124 rfl rfl dX12_isHigh_18 ?_
    refine g_iload_n X dX12_isHigh_21 rfl 1 rfl ?_
    refine g_ild X rfl rfl dX12_isHigh_22 (fun v4 => ?_)
    refine g_iconst (v := 2) X dX12_isHigh_23 (by decide) ?_
    refine g_aload_n X dX12_isHigh_24 rfl 0 rfl ?_
    refine g_getr X fa_X12_63 rfl rfl dX12_isHigh_25 ?_
    refine g_iload_n X dX12_isHigh_28 rfl 2 rfl ?_
    refine g_ild X rfl rfl dX12_isHigh_29 (fun v5 => ?_)
    refine g_aload_n X dX12_isHigh_30 rfl 0 rfl ?_
    refine g_getr X fa_X12_75 rfl rfl dX12_isHigh_31 ?_
    refine g_iconst (v := 0) X dX12_isHigh_34 (by decide) ?_
    refine g_ild X rfl rfl dX12_isHigh_35 (fun v6 => ?_)
    refine g_isub X dX12_isHigh_36 ?_
    refine g_imul X dX12_isHigh_37 ?_
    refine g_icmp_gt X 45 dX12_isHigh_38 rfl (fun h7 => ?_) (fun h7 => ?_)
    · refine g_iconst (v := 0) X dX12_isHigh_45 (by decide) ?_
      exact g_zret X rfl rfl rfl dX12_isHigh_46
    · refine g_iconst (v := 1) X dX12_isHigh_41 (by decide) ?_
      refine g_goto X 46 dX12_isHigh_42 rfl ?_
      exact g_zret X rfl rfl rfl dX12_isHigh_46
set_option maxHeartbeats 4000000 in
set_option maxRecDepth 100000 in
theorem c_X12_isFree (l : Launch) (K : q_KK) (M : q_MM) (a1 : Int32) (a2 : Int32) (a3 : Int32) : ∀ res, f_X12_isFree M a1 a2 a3 = some res → Mt l yX12_isFree cX12_isFree 7 (some FieldType.boolean) 1 22 0 0 false K [.ref 5001, .int a1, .int a2, .int a3] (qTM, qLM, qPM, M) (some (.int res)) ((qTM, qLM, qPM, M)) := by
  refine Mt.of (fun (res : Int32) => some (.int res)) (fun (_ : Int32) => (qTM, qLM, qPM, M)) (by decide) (Nat.le_of_ble_eq_true rfl) ?_
  intro p e s m args below meth c0 A ad X hN
  have hb_114 : ∀ (k6 : Int32 → Int32 → Int32 → Int32 → Int32 → Option (Int32)) (hk6 : ∀ (x1 : Int32) (x2 : Int32) (x3 : Int32) (x4 : Int32) (x5 : Int32), GG p l e { frames := 1, cells := 0, slots := 0, locals := 22 } s m args below meth c0 K A (qTM, qLM, qPM, M) ad false 7 (fun res => MQ below (q_Qc K false ad (qTM, qLM, qPM, M) ((fun (res : Int32) => some (.int res)) res) ((fun (_ : Int32) => (qTM, qLM, qPM, M)) res) A) args s 0 0 A) (k6 x1 x2 x3 x4 x5) 6 [(0, .ref 5001), (1, .int x1), (2, .int x2), (3, .int x3), (4, .int x4), (5, .int x5)] [] (qTM, qLM, qPM, M) 0 0) (x1 : Int32) (x2 : Int32) (x3 : Int32) (x5 : Int32) (s0 : Int32), GG p l e { frames := 1, cells := 0, slots := 0, locals := 22 } s m args below meth c0 K A (qTM, qLM, qPM, M) ad false 7 (fun res => MQ below (q_Qc K false ad (qTM, qLM, qPM, M) ((fun (res : Int32) => some (.int res)) res) ((fun (_ : Int32) => (qTM, qLM, qPM, M)) res) A) args s 0 0 A) (b_X12_isFree_114 M k6 x1 x2 x3 x5 s0) 114 [(0, .ref 5001), (1, .int x1), (2, .int x2), (3, .int x3), (5, .int x5)] [.int s0] (qTM, qLM, qPM, M) 0 0 := by
    intro k6 hk6 x1 x2 x3 x5 s0
    unfold b_X12_isFree_114
    refine g_istore X [(4, .int s0), (0, .ref 5001), (1, .int x1), (2, .int x2), (3, .int x3), (5, .int x5)] dX12_isFree_114 (by decide) rfl ?_
    refine g_iinc (v := 1) X [(5, .int (x5 + 1)), (4, .int s0), (0, .ref 5001), (1, .int x1), (2, .int x2), (3, .int x3)] 5 dX12_isFree_116 rfl (by decide) (by decide) rfl ?_
    refine g_goto X 6 dX12_isFree_119 rfl ?_
    exact g_sub [2, 3, 4, 5, 1, 0] rfl (hk6 x1 x2 x3 s0 (x5 + 1))
  have hb_113 : ∀ (k6 : Int32 → Int32 → Int32 → Int32 → Int32 → Option (Int32)) (hk6 : ∀ (x1 : Int32) (x2 : Int32) (x3 : Int32) (x4 : Int32) (x5 : Int32), GG p l e { frames := 1, cells := 0, slots := 0, locals := 22 } s m args below meth c0 K A (qTM, qLM, qPM, M) ad false 7 (fun res => MQ below (q_Qc K false ad (qTM, qLM, qPM, M) ((fun (res : Int32) => some (.int res)) res) ((fun (_ : Int32) => (qTM, qLM, qPM, M)) res) A) args s 0 0 A) (k6 x1 x2 x3 x4 x5) 6 [(0, .ref 5001), (1, .int x1), (2, .int x2), (3, .int x3), (4, .int x4), (5, .int x5)] [] (qTM, qLM, qPM, M) 0 0) (x1 : Int32) (x2 : Int32) (x3 : Int32) (x5 : Int32), GG p l e { frames := 1, cells := 0, slots := 0, locals := 22 } s m args below meth c0 K A (qTM, qLM, qPM, M) ad false 7 (fun res => MQ below (q_Qc K false ad (qTM, qLM, qPM, M) ((fun (res : Int32) => some (.int res)) res) ((fun (_ : Int32) => (qTM, qLM, qPM, M)) res) A) args s 0 0 A) (b_X12_isFree_113 M k6 x1 x2 x3 x5) 113 [(0, .ref 5001), (1, .int x1), (2, .int x2), (3, .int x3), (5, .int x5)] [] (qTM, qLM, qPM, M) 0 0 := by
    intro k6 hk6 x1 x2 x3 x5
    unfold b_X12_isFree_113
    refine g_iconst (v := 0) X dX12_isFree_113 (by decide) ?_
    exact g_sub [0, 1, 2, 3, 4] rfl (hb_114 k6 hk6 x1 x2 x3 x5 0)
  have hb_109 : ∀ (k6 : Int32 → Int32 → Int32 → Int32 → Int32 → Option (Int32)) (hk6 : ∀ (x1 : Int32) (x2 : Int32) (x3 : Int32) (x4 : Int32) (x5 : Int32), GG p l e { frames := 1, cells := 0, slots := 0, locals := 22 } s m args below meth c0 K A (qTM, qLM, qPM, M) ad false 7 (fun res => MQ below (q_Qc K false ad (qTM, qLM, qPM, M) ((fun (res : Int32) => some (.int res)) res) ((fun (_ : Int32) => (qTM, qLM, qPM, M)) res) A) args s 0 0 A) (k6 x1 x2 x3 x4 x5) 6 [(0, .ref 5001), (1, .int x1), (2, .int x2), (3, .int x3), (4, .int x4), (5, .int x5)] [] (qTM, qLM, qPM, M) 0 0) (x1 : Int32) (x2 : Int32) (x3 : Int32) (x5 : Int32), GG p l e { frames := 1, cells := 0, slots := 0, locals := 22 } s m args below meth c0 K A (qTM, qLM, qPM, M) ad false 7 (fun res => MQ below (q_Qc K false ad (qTM, qLM, qPM, M) ((fun (res : Int32) => some (.int res)) res) ((fun (_ : Int32) => (qTM, qLM, qPM, M)) res) A) args s 0 0 A) (b_X12_isFree_109 M k6 x1 x2 x3 x5) 109 [(0, .ref 5001), (1, .int x1), (2, .int x2), (3, .int x3), (5, .int x5)] [] (qTM, qLM, qPM, M) 0 0 := by
    intro k6 hk6 x1 x2 x3 x5
    unfold b_X12_isFree_109
    refine g_iconst (v := 1) X dX12_isFree_109 (by decide) ?_
    refine g_goto X 114 dX12_isFree_110 rfl ?_
    exact g_sub [0, 1, 2, 3, 4] rfl (hb_114 k6 hk6 x1 x2 x3 x5 1)
  have hb_81 : ∀ (k6 : Int32 → Int32 → Int32 → Int32 → Int32 → Option (Int32)) (hk6 : ∀ (x1 : Int32) (x2 : Int32) (x3 : Int32) (x4 : Int32) (x5 : Int32), GG p l e { frames := 1, cells := 0, slots := 0, locals := 22 } s m args below meth c0 K A (qTM, qLM, qPM, M) ad false 7 (fun res => MQ below (q_Qc K false ad (qTM, qLM, qPM, M) ((fun (res : Int32) => some (.int res)) res) ((fun (_ : Int32) => (qTM, qLM, qPM, M)) res) A) args s 0 0 A) (k6 x1 x2 x3 x4 x5) 6 [(0, .ref 5001), (1, .int x1), (2, .int x2), (3, .int x3), (4, .int x4), (5, .int x5)] [] (qTM, qLM, qPM, M) 0 0) (x1 : Int32) (x2 : Int32) (x3 : Int32) (x4 : Int32) (x5 : Int32) (s0 : Int32), GG p l e { frames := 1, cells := 0, slots := 0, locals := 22 } s m args below meth c0 K A (qTM, qLM, qPM, M) ad false 7 (fun res => MQ below (q_Qc K false ad (qTM, qLM, qPM, M) ((fun (res : Int32) => some (.int res)) res) ((fun (_ : Int32) => (qTM, qLM, qPM, M)) res) A) args s 0 0 A) (b_X12_isFree_81 M k6 x1 x2 x3 x4 x5 s0) 81 [(0, .ref 5001), (1, .int x1), (2, .int x2), (3, .int x3), (4, .int x4), (5, .int x5)] [.int s0] (qTM, qLM, qPM, M) 0 0 := by
    intro k6 hk6 x1 x2 x3 x4 x5 s0
    unfold b_X12_isFree_81
    refine g_istore X [(6, .int s0), (0, .ref 5001), (1, .int x1), (2, .int x2), (3, .int x3), (4, .int x4), (5, .int x5)] dX12_isFree_81 (by decide) rfl ?_
    refine g_iload X dX12_isFree_83 5 rfl ?_
    refine g_if_eq X 113 dX12_isFree_85 rfl (fun h1 => ?_) (fun h1 => ?_)
    · exact g_sub [1, 2, 3, 4, 6] rfl (hb_113 k6 hk6 x1 x2 x3 x5)
    · refine g_iload X dX12_isFree_88 6 rfl ?_
      refine g_iload_n X dX12_isFree_90 rfl 2 rfl ?_
      refine g_icmp_eq X 109 dX12_isFree_91 rfl (fun h2 => ?_) (fun h2 => ?_)
      · exact g_sub [1, 2, 3, 4, 6] rfl (hb_109 k6 hk6 x1 x2 x3 x5)
      · refine g_aload_n X dX12_isFree_94 rfl 1 rfl ?_
        refine g_iload X dX12_isFree_95 6 rfl ?_
        refine g_iload_n X dX12_isFree_97 rfl 3 rfl ?_
        refine g_bVi (As := [.int x5, .int x2]) (rest := []) X (c_X12_isOn l K M x5 x2) lk_X12_173 rfl rfl rfl (Nat.le_of_ble_eq_true rfl) ⟨Nat.le_of_ble_eq_true rfl, Nat.le_of_ble_eq_true rfl⟩ ⟨Nat.zero_le _, Nat.zero_le _⟩ dX12_isFree_98 (fun r3 => ?_)
        refine g_if_eq X 109 dX12_isFree_101 rfl (fun h4 => ?_) (fun h4 => ?_)
        · exact g_sub [1, 2, 3, 4, 6] rfl (hb_109 k6 hk6 x1 x2 x3 x5)
        · refine g_iload X dX12_isFree_104 0 rfl ?_
          refine g_if_eq X 113 dX12_isFree_106 rfl (fun h5 => ?_) (fun h5 => ?_)
          · exact g_sub [1, 2, 3, 4, 6] rfl (hb_113 k6 hk6 x1 x2 x3 x5)
          · exact g_sub [1, 2, 3, 4, 6] rfl (hb_109 k6 hk6 x1 x2 x3 x5)
  have hb_76 : ∀ (k6 : Int32 → Int32 → Int32 → Int32 → Int32 → Option (Int32)) (hk6 : ∀ (x1 : Int32) (x2 : Int32) (x3 : Int32) (x4 : Int32) (x5 : Int32), GG p l e { frames := 1, cells := 0, slots := 0, locals := 22 } s m args below meth c0 K A (qTM, qLM, qPM, M) ad false 7 (fun res => MQ below (q_Qc K false ad (qTM, qLM, qPM, M) ((fun (res : Int32) => some (.int res)) res) ((fun (_ : Int32) => (qTM, qLM, qPM, M)) res) A) args s 0 0 A) (k6 x1 x2 x3 x4 x5) 6 [(0, .ref 5001), (1, .int x1), (2, .int x2), (3, .int x3), (4, .int x4), (5, .int x5)] [] (qTM, qLM, qPM, M) 0 0) (x1 : Int32) (x2 : Int32) (x3 : Int32) (x4 : Int32) (x5 : Int32), GG p l e { frames := 1, cells := 0, slots := 0, locals := 22 } s m args below meth c0 K A (qTM, qLM, qPM, M) ad false 7 (fun res => MQ below (q_Qc K false ad (qTM, qLM, qPM, M) ((fun (res : Int32) => some (.int res)) res) ((fun (_ : Int32) => (qTM, qLM, qPM, M)) res) A) args s 0 0 A) (b_X12_isFree_76 M k6 x1 x2 x3 x4 x5) 76 [(0, .ref 5001), (1, .int x1), (2, .int x2), (3, .int x3), (4, .int x4), (5, .int x5)] [] (qTM, qLM, qPM, M) 0 0 := by
    intro k6 hk6 x1 x2 x3 x4 x5
    unfold b_X12_isFree_76
    refine g_iconst (v := 1) X dX12_isFree_76 (by decide) ?_
    refine g_goto X 81 dX12_isFree_77 rfl ?_
    exact g_sub [0, 1, 2, 3, 4, 5] rfl (hb_81 k6 hk6 x1 x2 x3 x4 x5 1)
  have hb_6 : ∀ (nf : Nat) (x1 : Int32) (x2 : Int32) (x3 : Int32) (x4 : Int32) (x5 : Int32), GG p l e { frames := 1, cells := 0, slots := 0, locals := 22 } s m args below meth c0 K A (qTM, qLM, qPM, M) ad false 7 (fun res => MQ below (q_Qc K false ad (qTM, qLM, qPM, M) ((fun (res : Int32) => some (.int res)) res) ((fun (_ : Int32) => (qTM, qLM, qPM, M)) res) A) args s 0 0 A) (b_X12_isFree_6 M nf x1 x2 x3 x4 x5) 6 [(0, .ref 5001), (1, .int x1), (2, .int x2), (3, .int x3), (4, .int x4), (5, .int x5)] [] (qTM, qLM, qPM, M) 0 0 := by
    intro  nf
    induction nf with
    | zero => intros; exact g_stop
    | succ nf ih =>
      intro x1 x2 x3 x4 x5
      rw [b_X12_isFree_6]
      refine g_iload X dX12_isFree_6 5 rfl ?_
      refine g_aload_n X dX12_isFree_8 rfl 0 rfl ?_
      refine g_geti X fa_X12_108 rfl dX12_isFree_9 ?_
      refine g_icmp_ge X 122 dX12_isFree_12 rfl (fun h6 => ?_) (fun h6 => ?_)
      · refine g_iload X dX12_isFree_122 4 rfl ?_
        exact g_zret X rfl rfl rfl dX12_isFree_124
      · refine g_aload_n X dX12_isFree_15 rfl 0 rfl ?_
        refine g_getr X fa_X12_158 rfl rfl dX12_isFree_16 ?_
        refine g_iload X dX12_isFree_19 5 rfl ?_
        refine g_ild X rfl rfl dX12_isFree_21 (fun v7 => ?_)
        refine g_i2l X dX12_isFree_22 ?_
        refine g_aload_n X dX12_isFree_23 rfl 0 rfl ?_
        refine g_getr X fa_X12_121 rfl rfl dX12_isFree_24 ?_
        refine g_iload X dX12_isFree_27 5 rfl ?_
        refine g_ild X rfl rfl dX12_isFree_29 (fun v8 => ?_)
        refine g_i2l X dX12_isFree_30 ?_
        refine g_ladd X dX12_isFree_31 ?_
        refine g_aload_n X dX12_isFree_32 rfl 0 rfl ?_
        refine g_getr X fa_X12_75 rfl rfl dX12_isFree_33 ?_
        refine g_iconst (v := 1) X dX12_isFree_36 (by decide) ?_
        refine g_ild X rfl rfl dX12_isFree_37 (fun v9 => ?_)
        refine g_i2l X dX12_isFree_38 ?_
        refine g_ladd X dX12_isFree_39 ?_
        refine g_iload_n X dX12_isFree_40 rfl 3 rfl ?_
        refine g_i2l X dX12_isFree_41 ?_
        refine g_lcmp X dX12_isFree_42 ?_
        refine g_if_le X 76 dX12_isFree_43 rfl (fun h10 => ?_) (fun h10 => ?_)
        · exact g_sub [0, 1, 2, 3, 4, 5] rfl (hb_76 (b_X12_isFree_6 M nf) ih x1 x2 x3 x4 x5)
        · refine g_iload_n X dX12_isFree_46 rfl 3 rfl ?_
          refine g_i2l X dX12_isFree_47 ?_
          refine g_aload_n X dX12_isFree_48 rfl 0 rfl ?_
          refine g_getr X fa_X12_121 rfl rfl dX12_isFree_49 ?_
          refine g_iload_n X dX12_isFree_52 rfl 1 rfl ?_
          refine g_ild X rfl rfl dX12_isFree_53 (fun v11 => ?_)
          refine g_i2l X dX12_isFree_54 ?_
          refine g_ladd X dX12_isFree_55 ?_
          refine g_aload_n X dX12_isFree_56 rfl 0 rfl ?_
          refine g_getr X fa_X12_75 rfl rfl dX12_isFree_57 ?_
          refine g_iconst (v := 1) X dX12_isFree_60 (by decide) ?_
          refine g_ild X rfl rfl dX12_isFree_61 (fun v12 => ?_)
          refine g_i2l X dX12_isFree_62 ?_
          refine g_ladd X dX12_isFree_63 ?_
          refine g_aload_n X dX12_isFree_64 rfl 0 rfl ?_
          refine g_getr X fa_X12_158 rfl rfl dX12_isFree_65 ?_
          refine g_iload X dX12_isFree_68 5 rfl ?_
          refine g_ild X rfl rfl dX12_isFree_70 (fun v13 => ?_)
          refine g_i2l X dX12_isFree_71 ?_
          refine g_lcmp X dX12_isFree_72 ?_
          refine g_if_gt X 80 dX12_isFree_73 rfl (fun h14 => ?_) (fun h14 => ?_)
          · refine g_iconst (v := 0) X dX12_isFree_80 (by decide) ?_
            exact g_sub [0, 1, 2, 3, 4, 5] rfl (hb_81 (b_X12_isFree_6 M nf) ih x1 x2 x3 x4 x5 0)
          · exact g_sub [0, 1, 2, 3, 4, 5] rfl (hb_76 (b_X12_isFree_6 M nf) ih x1 x2 x3 x4 x5)
  refine g_sub (lv' := [(0, .ref 5001), (1, .int a1), (2, .int a2), (3, .int a3)]) [0, 1, 2, 3] rfl ?_
  unfold f_X12_isFree
  refine g_iconst (v := 1) X dX12_isFree_0 (by decide) ?_
  refine g_istore X [(4, .int 1), (0, .ref 5001), (1, .int a1), (2, .int a2), (3, .int a3)] dX12_isFree_1 (by decide) rfl ?_
  refine g_iconst (v := 0) X dX12_isFree_3 (by decide) ?_
  refine g_istore X [(5, .int 0), (4, .int 1), (0, .ref 5001), (1, .int a1), (2, .int a2), (3, .int a3)] dX12_isFree_4 (by decide) rfl ?_
  exact g_sub [2, 3, 4, 5, 1, 0] rfl (hb_6 q_fu a1 a2 a3 1 0)
set_option maxHeartbeats 4000000 in
set_option maxRecDepth 100000 in
theorem c_X12_weightOn (l : Launch) (K : q_KK) (M : q_MM) (a1 : Int32) (a2 : Int32) : ∀ res, f_X12_weightOn M a1 a2 = some res → Mt l yX12_weightOn cX12_weightOn 5 (some FieldType.int) 1 22 0 0 false K [.ref 5001, .int a1, .int a2] (qTM, qLM, qPM, M) (some (.int res)) ((qTM, qLM, qPM, M)) := by
  refine Mt.of (fun (res : Int32) => some (.int res)) (fun (_ : Int32) => (qTM, qLM, qPM, M)) (by decide) (Nat.le_of_ble_eq_true rfl) ?_
  intro p e s m args below meth c0 A ad X hN
  have hb_42 : ∀ (k5 : Int32 → Int32 → Int32 → Int32 → Option (Int32)) (hk5 : ∀ (x1 : Int32) (x2 : Int32) (x3 : Int32) (x4 : Int32), GG p l e { frames := 1, cells := 0, slots := 0, locals := 22 } s m args below meth c0 K A (qTM, qLM, qPM, M) ad false 5 (fun res => MQ below (q_Qc K false ad (qTM, qLM, qPM, M) ((fun (res : Int32) => some (.int res)) res) ((fun (_ : Int32) => (qTM, qLM, qPM, M)) res) A) args s 0 0 A) (k5 x1 x2 x3 x4) 5 [(0, .ref 5001), (1, .int x1), (2, .int x2), (3, .int x3), (4, .int x4)] [] (qTM, qLM, qPM, M) 0 0) (x1 : Int32) (x2 : Int32) (x4 : Int32) (s0 : Int32) (s1 : Int32), GG p l e { frames := 1, cells := 0, slots := 0, locals := 22 } s m args below meth c0 K A (qTM, qLM, qPM, M) ad false 5 (fun res => MQ below (q_Qc K false ad (qTM, qLM, qPM, M) ((fun (res : Int32) => some (.int res)) res) ((fun (_ : Int32) => (qTM, qLM, qPM, M)) res) A) args s 0 0 A) (b_X12_weightOn_42 M k5 x1 x2 x4 s0 s1) 42 [(0, .ref 5001), (1, .int x1), (2, .int x2), (4, .int x4)] [.int s0, .int s1] (qTM, qLM, qPM, M) 0 0 := by
    intro k5 hk5 x1 x2 x4 s0 s1
    unfold b_X12_weightOn_42
    refine g_iadd X dX12_weightOn_42 ?_
    refine g_isn X (fun v1 => [(3, .int v1), (0, .ref 5001), (1, .int x1), (2, .int x2), (4, .int x4)]) dX12_weightOn_43 rfl (by decide) (fun _ => rfl) (fun v1 => ?_)
    refine g_iinc (v := 1) X [(4, .int (x4 + 1)), (3, .int v1), (0, .ref 5001), (1, .int x1), (2, .int x2)] 4 dX12_weightOn_44 rfl (by decide) (by decide) rfl ?_
    refine g_goto X 5 dX12_weightOn_47 rfl ?_
    exact g_sub [2, 3, 4, 1, 0] rfl (hk5 x1 x2 v1 (x4 + 1))
  have hb_41 : ∀ (k5 : Int32 → Int32 → Int32 → Int32 → Option (Int32)) (hk5 : ∀ (x1 : Int32) (x2 : Int32) (x3 : Int32) (x4 : Int32), GG p l e { frames := 1, cells := 0, slots := 0, locals := 22 } s m args below meth c0 K A (qTM, qLM, qPM, M) ad false 5 (fun res => MQ below (q_Qc K false ad (qTM, qLM, qPM, M) ((fun (res : Int32) => some (.int res)) res) ((fun (_ : Int32) => (qTM, qLM, qPM, M)) res) A) args s 0 0 A) (k5 x1 x2 x3 x4) 5 [(0, .ref 5001), (1, .int x1), (2, .int x2), (3, .int x3), (4, .int x4)] [] (qTM, qLM, qPM, M) 0 0) (x1 : Int32) (x2 : Int32) (x4 : Int32) (s0 : Int32), GG p l e { frames := 1, cells := 0, slots := 0, locals := 22 } s m args below meth c0 K A (qTM, qLM, qPM, M) ad false 5 (fun res => MQ below (q_Qc K false ad (qTM, qLM, qPM, M) ((fun (res : Int32) => some (.int res)) res) ((fun (_ : Int32) => (qTM, qLM, qPM, M)) res) A) args s 0 0 A) (b_X12_weightOn_41 M k5 x1 x2 x4 s0) 41 [(0, .ref 5001), (1, .int x1), (2, .int x2), (4, .int x4)] [.int s0] (qTM, qLM, qPM, M) 0 0 := by
    intro k5 hk5 x1 x2 x4 s0
    unfold b_X12_weightOn_41
    refine g_iconst (v := 0) X dX12_weightOn_41 (by decide) ?_
    exact g_sub [0, 1, 2, 3] rfl (hb_42 k5 hk5 x1 x2 x4 0 s0)
  have hb_5 : ∀ (nf : Nat) (x1 : Int32) (x2 : Int32) (x3 : Int32) (x4 : Int32), GG p l e { frames := 1, cells := 0, slots := 0, locals := 22 } s m args below meth c0 K A (qTM, qLM, qPM, M) ad false 5 (fun res => MQ below (q_Qc K false ad (qTM, qLM, qPM, M) ((fun (res : Int32) => some (.int res)) res) ((fun (_ : Int32) => (qTM, qLM, qPM, M)) res) A) args s 0 0 A) (b_X12_weightOn_5 M nf x1 x2 x3 x4) 5 [(0, .ref 5001), (1, .int x1), (2, .int x2), (3, .int x3), (4, .int x4)] [] (qTM, qLM, qPM, M) 0 0 := by
    intro  nf
    induction nf with
    | zero => intros; exact g_stop
    | succ nf ih =>
      intro x1 x2 x3 x4
      rw [b_X12_weightOn_5]
      refine g_iload X dX12_weightOn_5 4 rfl ?_
      refine g_aload_n X dX12_weightOn_7 rfl 0 rfl ?_
      refine g_geti X fa_X12_108 rfl dX12_weightOn_8 ?_
      refine g_icmp_ge X 50 dX12_weightOn_11 rfl (fun h2 => ?_) (fun h2 => ?_)
      · refine g_iload_n X dX12_weightOn_50 rfl 3 rfl ?_
        exact g_iret X rfl rfl rfl dX12_weightOn_51
      · refine g_iload_n X dX12_weightOn_14 rfl 3 rfl ?_
        refine g_iload X dX12_weightOn_15 4 rfl ?_
        refine g_iload_n X dX12_weightOn_17 rfl 2 rfl ?_
        refine g_icmp_eq X 41 dX12_weightOn_18 rfl (fun h3 => ?_) (fun h3 => ?_)
        · exact g_sub [0, 1, 2, 4] rfl (hb_41 (b_X12_weightOn_5 M nf) ih x1 x2 x4 x3)
        · refine g_aload_n X dX12_weightOn_21 rfl 0 rfl ?_
          refine g_iload X dX12_weightOn_22 4 rfl ?_
          refine g_iload_n X dX12_weightOn_24 rfl 1 rfl ?_
          refine g_bVi (As := [.int x4, .int x1]) (rest := [.int x3]) X (c_X12_isOn l K M x4 x1) lk_X12_173 rfl rfl rfl (Nat.le_of_ble_eq_true rfl) ⟨Nat.le_of_ble_eq_true rfl, Nat.le_of_ble_eq_true rfl⟩ ⟨Nat.zero_le _, Nat.zero_le _⟩ dX12_weightOn_25 (fun r4 => ?_)
          refine g_if_eq X 41 dX12_weightOn_28 rfl (fun h5 => ?_) (fun h5 => ?_)
          · exact g_sub [0, 1, 2, 4] rfl (hb_41 (b_X12_weightOn_5 M nf) ih x1 x2 x4 x3)
          · refine g_aload_n X dX12_weightOn_31 rfl 0 rfl ?_
            refine g_getr X fa_X12_127 rfl rfl dX12_weightOn_32 ?_
            refine g_iload X dX12_weightOn_35 4 rfl ?_
            refine g_ild X rfl rfl dX12_weightOn_37 (fun v6 => ?_)
            refine g_goto X 42 dX12_weightOn_38 rfl ?_
            exact g_sub [0, 1, 2, 4] rfl (hb_42 (b_X12_weightOn_5 M nf) ih x1 x2 x4 v6 x3)
  refine g_sub (lv' := [(0, .ref 5001), (1, .int a1), (2, .int a2)]) [0, 1, 2] rfl ?_
  unfold f_X12_weightOn
  refine g_iconst (v := 0) X dX12_weightOn_0 (by decide) ?_
  refine g_istore_n X [(3, .int 0), (0, .ref 5001), (1, .int a1), (2, .int a2)] dX12_weightOn_1 rfl (by decide) rfl ?_
  refine g_iconst (v := 0) X dX12_weightOn_2 (by decide) ?_
  refine g_istore X [(4, .int 0), (3, .int 0), (0, .ref 5001), (1, .int a1), (2, .int a2)] dX12_weightOn_3 (by decide) rfl ?_
  exact g_sub [2, 3, 4, 1, 0] rfl (hb_5 q_fu a1 a2 0 0)
