set_option maxHeartbeats 4000000 in
set_option maxRecDepth 100000 in
theorem c_X12_beside (l : Launch) (K : q_KK) (M : q_MM) (a1 : Int32) (a2 : Int32) (a3 : Int32) (a4 : Int32) : ∀ res, f_X12_beside M a1 a2 a3 a4 = some res → Mt l yX12_beside cX12_beside 8 (some FieldType.int) 1 22 0 0 false K [.ref 5001, .int a1, .int a2, .int a3, .int a4] (qTM, qLM, qPM, M) (some (.int res)) ((qTM, qLM, qPM, M)) := by
  refine Mt.of (fun (res : Int32) => some (.int res)) (fun (_ : Int32) => (qTM, qLM, qPM, M)) (by decide) (Nat.le_of_ble_eq_true rfl) ?_
  intro p e s m args below meth c0 A ad X hN
  have hb_123 : ∀ (k6 : Int32 → Int32 → Int32 → Int32 → Int32 → Int32 → Option (Int32)) (hk6 : ∀ (x1 : Int32) (x2 : Int32) (x3 : Int32) (x4 : Int32) (x5 : Int32) (x6 : Int32), GG p l e { frames := 1, cells := 0, slots := 0, locals := 22 } s m args below meth c0 K A (qTM, qLM, qPM, M) ad false 8 (fun res => MQ below (q_Qc K false ad (qTM, qLM, qPM, M) ((fun (res : Int32) => some (.int res)) res) ((fun (_ : Int32) => (qTM, qLM, qPM, M)) res) A) args s 0 0 A) (k6 x1 x2 x3 x4 x5 x6) 6 [(0, .ref 5001), (1, .int x1), (2, .int x2), (3, .int x3), (4, .int x4), (5, .int x5), (6, .int x6)] [] (qTM, qLM, qPM, M) 0 0) (x1 : Int32) (x2 : Int32) (x3 : Int32) (x4 : Int32) (x5 : Int32) (x6 : Int32), GG p l e { frames := 1, cells := 0, slots := 0, locals := 22 } s m args below meth c0 K A (qTM, qLM, qPM, M) ad false 8 (fun res => MQ below (q_Qc K false ad (qTM, qLM, qPM, M) ((fun (res : Int32) => some (.int res)) res) ((fun (_ : Int32) => (qTM, qLM, qPM, M)) res) A) args s 0 0 A) (b_X12_beside_123 M k6 x1 x2 x3 x4 x5 x6) 123 [(0, .ref 5001), (1, .int x1), (2, .int x2), (3, .int x3), (4, .int x4), (5, .int x5), (6, .int x6)] [] (qTM, qLM, qPM, M) 0 0 := by
    intro k6 hk6 x1 x2 x3 x4 x5 x6
    unfold b_X12_beside_123
    refine g_iinc (v := 1) X [(6, .int (x6 + 1)), (0, .ref 5001), (1, .int x1), (2, .int x2), (3, .int x3), (4, .int x4), (5, .int x5)] 6 dX12_beside_123 rfl (by decide) (by decide) rfl ?_
    refine g_goto X 6 dX12_beside_126 rfl ?_
    exact g_sub [1, 2, 3, 4, 5, 6, 0] rfl (hk6 x1 x2 x3 x4 x5 (x6 + 1))
  have hb_121 : ∀ (k6 : Int32 → Int32 → Int32 → Int32 → Int32 → Int32 → Option (Int32)) (hk6 : ∀ (x1 : Int32) (x2 : Int32) (x3 : Int32) (x4 : Int32) (x5 : Int32) (x6 : Int32), GG p l e { frames := 1, cells := 0, slots := 0, locals := 22 } s m args below meth c0 K A (qTM, qLM, qPM, M) ad false 8 (fun res => MQ below (q_Qc K false ad (qTM, qLM, qPM, M) ((fun (res : Int32) => some (.int res)) res) ((fun (_ : Int32) => (qTM, qLM, qPM, M)) res) A) args s 0 0 A) (k6 x1 x2 x3 x4 x5 x6) 6 [(0, .ref 5001), (1, .int x1), (2, .int x2), (3, .int x3), (4, .int x4), (5, .int x5), (6, .int x6)] [] (qTM, qLM, qPM, M) 0 0) (x1 : Int32) (x2 : Int32) (x3 : Int32) (x4 : Int32) (x6 : Int32) (s0 : Int32), GG p l e { frames := 1, cells := 0, slots := 0, locals := 22 } s m args below meth c0 K A (qTM, qLM, qPM, M) ad false 8 (fun res => MQ below (q_Qc K false ad (qTM, qLM, qPM, M) ((fun (res : Int32) => some (.int res)) res) ((fun (_ : Int32) => (qTM, qLM, qPM, M)) res) A) args s 0 0 A) (b_X12_beside_121 M k6 x1 x2 x3 x4 x6 s0) 121 [(0, .ref 5001), (1, .int x1), (2, .int x2), (3, .int x3), (4, .int x4), (6, .int x6)] [.int s0] (qTM, qLM, qPM, M) 0 0 := by
    intro k6 hk6 x1 x2 x3 x4 x6 s0
    unfold b_X12_beside_121
    refine g_istore X [(5, .int s0), (0, .ref 5001), (1, .int x1), (2, .int x2), (3, .int x3), (4, .int x4), (6, .int x6)] dX12_beside_121 (by decide) rfl ?_
    exact g_sub [1, 2, 3, 4, 5, 0, 6] rfl (hb_123 k6 hk6 x1 x2 x3 x4 s0 x6)
  have hb_107 : ∀ (k6 : Int32 → Int32 → Int32 → Int32 → Int32 → Int32 → Option (Int32)) (hk6 : ∀ (x1 : Int32) (x2 : Int32) (x3 : Int32) (x4 : Int32) (x5 : Int32) (x6 : Int32), GG p l e { frames := 1, cells := 0, slots := 0, locals := 22 } s m args below meth c0 K A (qTM, qLM, qPM, M) ad false 8 (fun res => MQ below (q_Qc K false ad (qTM, qLM, qPM, M) ((fun (res : Int32) => some (.int res)) res) ((fun (_ : Int32) => (qTM, qLM, qPM, M)) res) A) args s 0 0 A) (k6 x1 x2 x3 x4 x5 x6) 6 [(0, .ref 5001), (1, .int x1), (2, .int x2), (3, .int x3), (4, .int x4), (5, .int x5), (6, .int x6)] [] (qTM, qLM, qPM, M) 0 0) (x1 : Int32) (x2 : Int32) (x3 : Int32) (x4 : Int32) (x5 : Int32) (x6 : Int32) (s0 : Int32), GG p l e { frames := 1, cells := 0, slots := 0, locals := 22 } s m args below meth c0 K A (qTM, qLM, qPM, M) ad false 8 (fun res => MQ below (q_Qc K false ad (qTM, qLM, qPM, M) ((fun (res : Int32) => some (.int res)) res) ((fun (_ : Int32) => (qTM, qLM, qPM, M)) res) A) args s 0 0 A) (b_X12_beside_107 M k6 x1 x2 x3 x4 x5 x6 s0) 107 [(0, .ref 5001), (1, .int x1), (2, .int x2), (3, .int x3), (4, .int x4), (5, .int x5), (6, .int x6)] [.int s0] (qTM, qLM, qPM, M) 0 0 := by
    intro k6 hk6 x1 x2 x3 x4 x5 x6 s0
    unfold b_X12_beside_107
    refine g_istore X [(7, .int s0), (0, .ref 5001), (1, .int x1), (2, .int x2), (3, .int x3), (4, .int x4), (5, .int x5), (6, .int x6)] dX12_beside_107 (by decide) rfl ?_
    refine g_iload X dX12_beside_109 0 rfl ?_
    refine g_if_eq X 119 dX12_beside_111 rfl (fun h1 => ?_) (fun h1 => ?_)
    · refine g_iload X dX12_beside_119 6 rfl ?_
      exact g_sub [1, 2, 3, 4, 5, 7] rfl (hb_121 k6 hk6 x1 x2 x3 x4 x6 x5)
    · refine g_iload X dX12_beside_114 7 rfl ?_
      refine g_goto X 121 dX12_beside_116 rfl ?_
      exact g_sub [1, 2, 3, 4, 5, 7] rfl (hb_121 k6 hk6 x1 x2 x3 x4 x6 x6)
  have hb_106 : ∀ (k6 : Int32 → Int32 → Int32 → Int32 → Int32 → Int32 → Option (Int32)) (hk6 : ∀ (x1 : Int32) (x2 : Int32) (x3 : Int32) (x4 : Int32) (x5 : Int32) (x6 : Int32), GG p l e { frames := 1, cells := 0, slots := 0, locals := 22 } s m args below meth c0 K A (qTM, qLM, qPM, M) ad false 8 (fun res => MQ below (q_Qc K false ad (qTM, qLM, qPM, M) ((fun (res : Int32) => some (.int res)) res) ((fun (_ : Int32) => (qTM, qLM, qPM, M)) res) A) args s 0 0 A) (k6 x1 x2 x3 x4 x5 x6) 6 [(0, .ref 5001), (1, .int x1), (2, .int x2), (3, .int x3), (4, .int x4), (5, .int x5), (6, .int x6)] [] (qTM, qLM, qPM, M) 0 0) (x1 : Int32) (x2 : Int32) (x3 : Int32) (x4 : Int32) (x5 : Int32) (x6 : Int32), GG p l e { frames := 1, cells := 0, slots := 0, locals := 22 } s m args below meth c0 K A (qTM, qLM, qPM, M) ad false 8 (fun res => MQ below (q_Qc K false ad (qTM, qLM, qPM, M) ((fun (res : Int32) => some (.int res)) res) ((fun (_ : Int32) => (qTM, qLM, qPM, M)) res) A) args s 0 0 A) (b_X12_beside_106 M k6 x1 x2 x3 x4 x5 x6) 106 [(0, .ref 5001), (1, .int x1), (2, .int x2), (3, .int x3), (4, .int x4), (5, .int x5), (6, .int x6)] [] (qTM, qLM, qPM, M) 0 0 := by
    intro k6 hk6 x1 x2 x3 x4 x5 x6
    unfold b_X12_beside_106
    refine g_iconst (v := 0) X dX12_beside_106 (by decide) ?_
    exact g_sub [0, 1, 2, 3, 4, 5, 6] rfl (hb_107 k6 hk6 x1 x2 x3 x4 x5 x6 0)
  have hb_102 : ∀ (k6 : Int32 → Int32 → Int32 → Int32 → Int32 → Int32 → Option (Int32)) (hk6 : ∀ (x1 : Int32) (x2 : Int32) (x3 : Int32) (x4 : Int32) (x5 : Int32) (x6 : Int32), GG p l e { frames := 1, cells := 0, slots := 0, locals := 22 } s m args below meth c0 K A (qTM, qLM, qPM, M) ad false 8 (fun res => MQ below (q_Qc K false ad (qTM, qLM, qPM, M) ((fun (res : Int32) => some (.int res)) res) ((fun (_ : Int32) => (qTM, qLM, qPM, M)) res) A) args s 0 0 A) (k6 x1 x2 x3 x4 x5 x6) 6 [(0, .ref 5001), (1, .int x1), (2, .int x2), (3, .int x3), (4, .int x4), (5, .int x5), (6, .int x6)] [] (qTM, qLM, qPM, M) 0 0) (x1 : Int32) (x2 : Int32) (x3 : Int32) (x4 : Int32) (x5 : Int32) (x6 : Int32), GG p l e { frames := 1, cells := 0, slots := 0, locals := 22 } s m args below meth c0 K A (qTM, qLM, qPM, M) ad false 8 (fun res => MQ below (q_Qc K false ad (qTM, qLM, qPM, M) ((fun (res : Int32) => some (.int res)) res) ((fun (_ : Int32) => (qTM, qLM, qPM, M)) res) A) args s 0 0 A) (b_X12_beside_102 M k6 x1 x2 x3 x4 x5 x6) 102 [(0, .ref 5001), (1, .int x1), (2, .int x2), (3, .int x3), (4, .int x4), (5, .int x5), (6, .int x6)] [] (qTM, qLM, qPM, M) 0 0 := by
    intro k6 hk6 x1 x2 x3 x4 x5 x6
    unfold b_X12_beside_102
    refine g_iconst (v := 1) X dX12_beside_102 (by decide) ?_
    refine g_goto X 107 dX12_beside_103 rfl ?_
    exact g_sub [0, 1, 2, 3, 4, 5, 6] rfl (hb_107 k6 hk6 x1 x2 x3 x4 x5 x6 1)
  have hb_47 : ∀ (k6 : Int32 → Int32 → Int32 → Int32 → Int32 → Int32 → Option (Int32)) (hk6 : ∀ (x1 : Int32) (x2 : Int32) (x3 : Int32) (x4 : Int32) (x5 : Int32) (x6 : Int32), GG p l e { frames := 1, cells := 0, slots := 0, locals := 22 } s m args below meth c0 K A (qTM, qLM, qPM, M) ad false 8 (fun res => MQ below (q_Qc K false ad (qTM, qLM, qPM, M) ((fun (res : Int32) => some (.int res)) res) ((fun (_ : Int32) => (qTM, qLM, qPM, M)) res) A) args s 0 0 A) (k6 x1 x2 x3 x4 x5 x6) 6 [(0, .ref 5001), (1, .int x1), (2, .int x2), (3, .int x3), (4, .int x4), (5, .int x5), (6, .int x6)] [] (qTM, qLM, qPM, M) 0 0) (x1 : Int32) (x2 : Int32) (x3 : Int32) (x4 : Int32) (x5 : Int32) (x6 : Int32) (s0 : Int32), GG p l e { frames := 1, cells := 0, slots := 0, locals := 22 } s m args below meth c0 K A (qTM, qLM, qPM, M) ad false 8 (fun res => MQ below (q_Qc K false ad (qTM, qLM, qPM, M) ((fun (res : Int32) => some (.int res)) res) ((fun (_ : Int32) => (qTM, qLM, qPM, M)) res) A) args s 0 0 A) (b_X12_beside_47 M k6 x1 x2 x3 x4 x5 x6 s0) 47 [(0, .ref 5001), (1, .int x1), (2, .int x2), (3, .int x3), (4, .int x4), (5, .int x5), (6, .int x6)] [.int s0] (qTM, qLM, qPM, M) 0 0 := by
    intro k6 hk6 x1 x2 x3 x4 x5 x6 s0
    unfold b_X12_beside_47
    refine g_iload X dX12_beside_47 4 rfl ?_
    refine g_icmp_eq X 55 dX12_beside_49 rfl (fun h2 => ?_) (fun h2 => ?_)
    · refine g_iload X dX12_beside_55 5 rfl ?_
      refine g_if_lt X 102 dX12_beside_57 rfl (fun h3 => ?_) (fun h3 => ?_)
      · exact g_sub [0, 1, 2, 3, 4, 5, 6] rfl (hb_102 k6 hk6 x1 x2 x3 x4 x5 x6)
      · refine g_iload X dX12_beside_60 4 rfl ?_
        refine g_if_eq X 85 dX12_beside_62 rfl (fun h4 => ?_) (fun h4 => ?_)
        · refine g_aload_n X dX12_beside_85 rfl 0 rfl ?_
          refine g_getr X fa_X12_158 rfl rfl dX12_beside_86 ?_
          refine g_iload X dX12_beside_89 6 rfl ?_
          refine g_ild X rfl rfl dX12_beside_91 (fun v5 => ?_)
          refine g_aload_n X dX12_beside_92 rfl 0 rfl ?_
          refine g_getr X fa_X12_158 rfl rfl dX12_beside_93 ?_
          refine g_iload X dX12_beside_96 5 rfl ?_
          refine g_ild X rfl rfl dX12_beside_98 (fun v6 => ?_)
          refine g_icmp_ge X 106 dX12_beside_99 rfl (fun h7 => ?_) (fun h7 => ?_)
          · exact g_sub [0, 1, 2, 3, 4, 5, 6] rfl (hb_106 k6 hk6 x1 x2 x3 x4 x5 x6)
          · exact g_sub [0, 1, 2, 3, 4, 5, 6] rfl (hb_102 k6 hk6 x1 x2 x3 x4 x5 x6)
        · refine g_aload_n X dX12_beside_65 rfl 0 rfl ?_
          refine g_getr X fa_X12_158 rfl rfl dX12_beside_66 ?_
          refine g_iload X dX12_beside_69 6 rfl ?_
          refine g_ild X rfl rfl dX12_beside_71 (fun v8 => ?_)
          refine g_aload_n X dX12_beside_72 rfl 0 rfl ?_
          refine g_getr X fa_X12_158 rfl rfl dX12_beside_73 ?_
          refine g_iload X dX12_beside_76 5 rfl ?_
          refine g_ild X rfl rfl dX12_beside_78 (fun v9 => ?_)
          refine g_icmp_lt X 106 dX12_beside_79 rfl (fun h10 => ?_) (fun h10 => ?_)
          · exact g_sub [0, 1, 2, 3, 4, 5, 6] rfl (hb_106 k6 hk6 x1 x2 x3 x4 x5 x6)
          · refine g_goto X 102 dX12_beside_82 rfl ?_
            exact g_sub [0, 1, 2, 3, 4, 5, 6] rfl (hb_102 k6 hk6 x1 x2 x3 x4 x5 x6)
    · refine g_goto X 123 dX12_beside_52 rfl ?_
      exact g_sub [0, 1, 2, 3, 4, 5, 6] rfl (hb_123 k6 hk6 x1 x2 x3 x4 x5 x6)
  have hb_6 : ∀ (nf : Nat) (x1 : Int32) (x2 : Int32) (x3 : Int32) (x4 : Int32) (x5 : Int32) (x6 : Int32), GG p l e { frames := 1, cells := 0, slots := 0, locals := 22 } s m args below meth c0 K A (qTM, qLM, qPM, M) ad false 8 (fun res => MQ below (q_Qc K false ad (qTM, qLM, qPM, M) ((fun (res : Int32) => some (.int res)) res) ((fun (_ : Int32) => (qTM, qLM, qPM, M)) res) A) args s 0 0 A) (b_X12_beside_6 M nf x1 x2 x3 x4 x5 x6) 6 [(0, .ref 5001), (1, .int x1), (2, .int x2), (3, .int x3), (4, .int x4), (5, .int x5), (6, .int x6)] [] (qTM, qLM, qPM, M) 0 0 := by
    intro  nf
    induction nf with
    | zero => intros; exact g_stop
    | succ nf ih =>
      intro x1 x2 x3 x4 x5 x6
      rw [b_X12_beside_6]
      refine g_iload X dX12_beside_6 6 rfl ?_
      refine g_aload_n X dX12_beside_8 rfl 0 rfl ?_
      refine g_geti X fa_X12_108 rfl dX12_beside_9 ?_
      refine g_icmp_ge X 129 dX12_beside_12 rfl (fun h11 => ?_) (fun h11 => ?_)
      · refine g_iload X dX12_beside_129 5 rfl ?_
        exact g_iret X rfl rfl rfl dX12_beside_131
      · refine g_iload X dX12_beside_15 6 rfl ?_
        refine g_iload_n X dX12_beside_17 rfl 3 rfl ?_
        refine g_icmp_eq X 123 dX12_beside_18 rfl (fun h12 => ?_) (fun h12 => ?_)
        · exact g_sub [0, 1, 2, 3, 4, 5, 6] rfl (hb_123 (b_X12_beside_6 M nf) ih x1 x2 x3 x4 x5 x6)
        · refine g_aload_n X dX12_beside_21 rfl 0 rfl ?_
          refine g_iload X dX12_beside_22 6 rfl ?_
          refine g_iload_n X dX12_beside_24 rfl 1 rfl ?_
          refine g_bVi (As := [.int x6, .int x1]) (rest := []) X (c_X12_isOn l K M x6 x1) lk_X12_173 rfl rfl rfl (Nat.le_of_ble_eq_true rfl) ⟨Nat.le_of_ble_eq_true rfl, Nat.le_of_ble_eq_true rfl⟩ ⟨Nat.zero_le _, Nat.zero_le _⟩ dX12_beside_25 (fun r13 => ?_)
          refine g_if_eq X 123 dX12_beside_28 rfl (fun h14 => ?_) (fun h14 => ?_)
          · exact g_sub [0, 1, 2, 3, 4, 5, 6] rfl (hb_123 (b_X12_beside_6 M nf) ih x1 x2 x3 x4 x5 x6)
          · refine g_aload_n X dX12_beside_31 rfl 0 rfl ?_
            refine g_getr X fa_X12_158 rfl rfl dX12_beside_32 ?_
            refine g_iload X dX12_beside_35 6 rfl ?_
            refine g_ild X rfl rfl dX12_beside_37 (fun v15 => ?_)
            refine g_iload_n X dX12_beside_38 rfl 2 rfl ?_
            refine g_icmp_gt X 46 dX12_beside_39 rfl (fun h16 => ?_) (fun h16 => ?_)
            · refine g_iconst (v := 0) X dX12_beside_46 (by decide) ?_
              exact g_sub [0, 1, 2, 3, 4, 5, 6] rfl (hb_47 (b_X12_beside_6 M nf) ih x1 x2 x3 x4 x5 x6 0)
            · refine g_iconst (v := 1) X dX12_beside_42 (by decide) ?_
              refine g_goto X 47 dX12_beside_43 rfl ?_
              exact g_sub [0, 1, 2, 3, 4, 5, 6] rfl (hb_47 (b_X12_beside_6 M nf) ih x1 x2 x3 x4 x5 x6 1)
  refine g_sub (lv' := [(0, .ref 5001), (1, .int a1), (2, .int a2), (3, .int a3), (4, .int a4)]) [0, 1, 2, 3, 4] rfl ?_
  unfold f_X12_beside
  refine g_iconst (v := (-1)) X dX12_beside_0 (by decide) ?_
  refine g_istore X [(5, .int (-1)), (0, .ref 5001), (1, .int a1), (2, .int a2), (3, .int a3), (4, .int a4)] dX12_beside_1 (by decide) rfl ?_
  refine g_iconst (v := 0) X dX12_beside_3 (by decide) ?_
  refine g_istore X [(6, .int 0), (5, .int (-1)), (0, .ref 5001), (1, .int a1), (2, .int a2), (3, .int a3), (4, .int a4)] dX12_beside_4 (by decide) rfl ?_
  exact g_sub [2, 3, 4, 5, 6, 1, 0] rfl (hb_6 q_fu a1 a2 a3 a4 (-1) 0)
set_option maxHeartbeats 4000000 in
set_option maxRecDepth 100000 in
theorem c_X12_sign (l : Launch) (K : q_KK) (M0 : q_MM) (a1 : Int32) : ∀ res, f_X12_sign M0 a1 = some res → Mt l yX12_sign cX12_sign 3 (some FieldType.int) 0 0 0 0 false K [.ref 5001, .int a1] (qTM, qLM, qPM, M0) (some (.int res.1)) ((qTM, qLM, qPM, res.2)) := by
  refine Mt.of (fun (res : Int32 × q_MM) => some (.int res.1)) (fun (res : Int32 × q_MM) => (qTM, qLM, qPM, res.2)) (by decide) (Nat.le_of_ble_eq_true rfl) ?_
  intro p e s m args below meth c0 A ad X hN
  have hb_18 : ∀ (nf : Nat) (x1 : Int32) (x2 : Int32) (M : q_MM), GG p l e { frames := 0, cells := 0, slots := 0, locals := 0 } s m args below meth c0 K A (qTM, qLM, qPM, M0) ad false 3 (fun res => MQ below (q_Qc K false ad (qTM, qLM, qPM, M0) ((fun (res : Int32 × q_MM) => some (.int res.1)) res) ((fun (res : Int32 × q_MM) => (qTM, qLM, qPM, res.2)) res) A) args s 0 0 A) (b_X12_sign_18 nf x1 x2 M) 18 [(0, .ref 5001), (1, .int x1), (2, .int x2)] [] (qTM, qLM, qPM, M) 0 0 := by
    intro  nf
    induction nf with
    | zero => intros; exact g_stop
    | succ nf ih =>
      intro x1 x2 M
      rw [b_X12_sign_18]
      refine g_iload_n X dX12_sign_18 rfl 2 rfl ?_
      refine g_iconst (v := 4) X dX12_sign_19 (by decide) ?_
      refine g_icmp_ge X 53 dX12_sign_20 rfl (fun h1 => ?_) (fun h1 => ?_)
      · refine g_aload_n X dX12_sign_53 rfl 0 rfl ?_
        refine g_dup X dX12_sign_54 rfl ?_
        refine g_geti X fa_X12_177 rfl dX12_sign_55 ?_
        refine g_iconst (v := 4) X dX12_sign_58 (by decide) ?_
        refine g_iadd X dX12_sign_59 ?_
        refine g_pfi X fa_X12_177 rfl (by decide +kernel) rfl dX12_sign_60 (fun M2 => ?_)
        refine g_aload_n X dX12_sign_63 rfl 0 rfl ?_
        refine g_geti X fa_X12_177 rfl dX12_sign_64 ?_
        exact g_iret X rfl rfl rfl dX12_sign_67
      · refine g_aload_n X dX12_sign_23 rfl 0 rfl ?_
        refine g_getr X fa_X12_180 rfl rfl dX12_sign_24 ?_
        refine g_aload_n X dX12_sign_27 rfl 0 rfl ?_
        refine g_geti X fa_X12_177 rfl dX12_sign_28 ?_
        refine g_iload_n X dX12_sign_31 rfl 2 rfl ?_
        refine g_iadd X dX12_sign_32 ?_
        refine g_iload_n X dX12_sign_33 rfl 1 rfl ?_
        refine g_bipush (v := 24) X dX12_sign_34 (by decide) ?_
        refine g_bipush (v := 8) X dX12_sign_36 (by decide) ?_
        refine g_iload_n X dX12_sign_38 rfl 2 rfl ?_
        refine g_imul X dX12_sign_39 ?_
        refine g_isub X dX12_sign_40 ?_
        refine g_ishr X dX12_sign_41 ?_
        refine g_sipush (v := 255) X dX12_sign_42 (by decide) ?_
        refine g_iand X dX12_sign_45 ?_
        refine g_isv X rfl rfl dX12_sign_46 (fun M3 => ?_)
        refine g_iinc (v := 1) X [(2, .int (x2 + 1)), (0, .ref 5001), (1, .int x1)] 2 dX12_sign_47 rfl (by decide) (by decide) rfl ?_
        refine g_goto X 18 dX12_sign_50 rfl ?_
        exact g_sub [1, 2, 0] rfl (ih x1 (x2 + 1) M3)
  refine g_sub (lv' := [(0, .ref 5001), (1, .int a1)]) [0, 1] rfl ?_
  unfold f_X12_sign
  refine g_aload_n X dX12_sign_0 rfl 0 rfl ?_
  refine g_iconst (v := 0) X dX12_sign_1 (by decide) ?_
  refine g_pfi X fa_X12_1 rfl (by decide +kernel) rfl dX12_sign_2 (fun M4 => ?_)
  refine g_aload_n X dX12_sign_5 rfl 0 rfl ?_
  refine g_geti X fa_X12_177 rfl dX12_sign_6 ?_
  refine g_bipush (v := 96) X dX12_sign_9 (by decide) ?_
  refine g_icmp_le X 16 dX12_sign_11 rfl (fun h5 => ?_) (fun h5 => ?_)
  · refine g_iconst (v := 0) X dX12_sign_16 (by decide) ?_
    refine g_istore_n X [(2, .int 0), (0, .ref 5001), (1, .int a1)] dX12_sign_17 rfl (by decide) rfl ?_
    exact g_sub [1, 2, 0] rfl (hb_18 q_fu a1 0 M4)
  · refine g_iconst (v := (-1)) X dX12_sign_14 (by decide) ?_
    exact g_iret X rfl rfl rfl dX12_sign_15
set_option maxHeartbeats 4000000 in
set_option maxRecDepth 100000 in
theorem c_X12_end (l : Launch) (K : q_KK) (M0 : q_MM) (a1 : Int32) : ∀ res, f_X12_end M0 a1 = some res → Mt l yX12_end cX12_end 2 (some FieldType.boolean) 1 25 0 0 false K [.ref 5001, .int a1] (qTM, qLM, qPM, M0) (some (.int res.1)) ((qTM, qLM, qPM, res.2)) := by
  refine Mt.of (fun (res : Int32 × q_MM) => some (.int res.1)) (fun (res : Int32 × q_MM) => (qTM, qLM, qPM, res.2)) (by decide) (Nat.le_of_ble_eq_true rfl) ?_
  intro p e s m args below meth c0 A ad X hN
  refine g_sub (lv' := [(0, .ref 5001), (1, .int a1)]) [0, 1] rfl ?_
  unfold f_X12_end
  refine g_aload_n X dX12_end_0 rfl 0 rfl ?_
  refine g_iconst (v := 0) X dX12_end_1 (by decide) ?_
  refine g_pfi X fa_X12_1 rfl (by decide +kernel) rfl dX12_end_2 (fun M1 => ?_)
  refine g_iload_n X dX12_end_5 rfl 1 rfl ?_
  refine g_i2l X dX12_end_6 ?_
  refine g_lconst (v := 0) X dX12_end_7 (by decide) ?_
  refine g_aload_n X dX12_end_8 rfl 0 rfl ?_
  refine g_geti X fa_X12_177 rfl dX12_end_9 ?_
  refine g_i2l X dX12_end_12 ?_
  refine g_bSi (As := [.long (Int32.toInt64 a1), .long 0, .long (Int32.toInt64 (M1 5001 42))]) (rest := []) X (c_X12_in l K M1 (Int32.toInt64 a1) 0 (Int32.toInt64 (M1 5001 42))) lk_X12_17 rfl rfl (Nat.le_of_ble_eq_true rfl) ⟨Nat.le_of_ble_eq_true rfl, Nat.le_of_ble_eq_true rfl⟩ ⟨Nat.zero_le _, Nat.zero_le _⟩ dX12_end_13 (fun r2 => ?_)
  refine g_if_ne X 21 dX12_end_16 rfl (fun h3 => ?_) (fun h3 => ?_)
  · refine g_iconst (v := 0) X dX12_end_19 (by decide) ?_
    exact g_zret X rfl rfl rfl dX12_end_20
  · refine g_aload_n X dX12_end_21 rfl 0 rfl ?_
    refine g_iload_n X dX12_end_22 rfl 1 rfl ?_
    refine g_pfi X fa_X12_177 rfl (by decide +kernel) rfl dX12_end_23 (fun M4 => ?_)
    refine g_iconst (v := 1) X dX12_end_26 (by decide) ?_
    exact g_zret X rfl rfl rfl dX12_end_27
set_option maxHeartbeats 4000000 in
set_option maxRecDepth 100000 in
theorem c_X12_isSign (l : Launch) (K : q_KK) (M : q_MM) (a1 : Int32) (a2 : Int32) : ∀ res, f_X12_isSign M a1 a2 = some res → Mt l yX12_isSign cX12_isSign 3 (some FieldType.boolean) 0 0 0 0 false K [.ref 5001, .int a1, .int a2] (qTM, qLM, qPM, M) (some (.int res)) ((qTM, qLM, qPM, M)) := by
  refine Mt.of (fun (res : Int32) => some (.int res)) (fun (_ : Int32) => (qTM, qLM, qPM, M)) (by decide) (Nat.le_of_ble_eq_true rfl) ?_
  intro p e s m args below meth c0 A ad X hN
  refine g_sub (lv' := [(0, .ref 5001), (1, .int a1), (2, .int a2)]) [0, 1, 2] rfl ?_
  unfold f_X12_isSign
  refine g_aload_n X dX12_isSign_0 rfl 0 rfl ?_
  refine g_geti X fa_X12_183 rfl dX12_isSign_1 ?_
  refine g_iload_n X dX12_isSign_4 rfl 1 rfl ?_
  refine g_icmp_ge X 25 dX12_isSign_5 rfl (fun h1 => ?_) (fun h1 => ?_)
  · refine g_iconst (v := 0) X dX12_isSign_25 (by decide) ?_
    exact g_zret X rfl rfl rfl dX12_isSign_26
  · refine g_aload_n X dX12_isSign_8 rfl 0 rfl ?_
    refine g_getr X fa_X12_180 rfl rfl dX12_isSign_9 ?_
    refine g_aload_n X dX12_isSign_12 rfl 0 rfl ?_
    refine g_geti X fa_X12_183 rfl dX12_isSign_13 ?_
    refine g_ild X rfl rfl dX12_isSign_16 (fun v2 => ?_)
    refine g_iload_n X dX12_isSign_17 rfl 2 rfl ?_
    refine g_icmp_ne X 25 dX12_isSign_18 rfl (fun h3 => ?_) (fun h3 => ?_)
    · refine g_iconst (v := 1) X dX12_isSign_21 (by decide) ?_
      refine g_goto X 26 dX12_isSign_22 rfl ?_
      exact g_zret X rfl rfl rfl dX12_isSign_26
    · refine g_iconst (v := 0) X dX12_isSign_25 (by decide) ?_
      exact g_zret X rfl rfl rfl dX12_isSign_26
set_option maxHeartbeats 4000000 in
set_option maxRecDepth 100000 in
theorem c_X12_isOf (l : Launch) (K : q_KK) (M : q_MM) (a1 : Int32) (a2 : Nat) : ∀ res, f_X12_isOf M a1 a2 = some res → Mt l yX12_isOf cX12_isOf 3 (some FieldType.boolean) 4 91 0 0 false K [.ref 5001, .int a1, .ref a2] (qTM, qLM, qPM, M) (some (.int res)) ((qTM, qLM, qPM, M)) := by
  refine Mt.of (fun (res : Int32) => some (.int res)) (fun (_ : Int32) => (qTM, qLM, qPM, M)) (by decide) (Nat.le_of_ble_eq_true rfl) ?_
  intro p e s m args below meth c0 A ad X hN
  refine g_sub (lv' := [(0, .ref 5001), (1, .int a1), (2, .ref a2)]) [0, 1, 2] rfl ?_
  unfold f_X12_isOf
  refine g_aload_n X dX12_isOf_0 rfl 0 rfl ?_
  refine g_geti X fa_X12_183 rfl dX12_isOf_1 ?_
  refine g_iload_n X dX12_isOf_4 rfl 1 rfl ?_
  refine g_icmp_ge X 40 dX12_isOf_5 rfl (fun h1 => ?_) (fun h1 => ?_)
  · refine g_iconst (v := 0) X dX12_isOf_40 (by decide) ?_
    exact g_zret X rfl rfl rfl dX12_isOf_41
  · refine g_aload_n X dX12_isOf_8 rfl 0 rfl ?_
    refine g_getr X fa_X12_180 rfl rfl dX12_isOf_9 ?_
    refine g_aload_n X dX12_isOf_12 rfl 0 rfl ?_
    refine g_geti X fa_X12_183 rfl dX12_isOf_13 ?_
    refine g_ild X rfl rfl dX12_isOf_16 (fun v2 => ?_)
    refine g_if_le X 40 dX12_isOf_17 rfl (fun h3 => ?_) (fun h3 => ?_)
    · refine g_iconst (v := 0) X dX12_isOf_40 (by decide) ?_
      exact g_zret X rfl rfl rfl dX12_isOf_41
    · refine g_aload_n X dX12_isOf_20 rfl 2 rfl ?_
      refine g_aload_n X dX12_isOf_21 rfl 0 rfl ?_
      refine g_getr X fa_X12_180 rfl rfl dX12_isOf_22 ?_
      refine g_aload_n X dX12_isOf_25 rfl 0 rfl ?_
      refine g_geti X fa_X12_183 rfl dX12_isOf_26 ?_
      refine g_ild X rfl rfl dX12_isOf_29 (fun v4 => ?_)
      refine g_sck (fun hS5 => ?_)
      refine g_bXi (As := [.int v4]) (rest := []) X (c_J0_indexOf_0f7a4 l K qTM qLM qPM M a2 v4) lk_X12_186 hS5 rfl rfl (Nat.le_of_ble_eq_true rfl) ⟨Nat.le_of_ble_eq_true rfl, Nat.le_of_ble_eq_true rfl⟩ ⟨Nat.zero_le _, Nat.zero_le _⟩ dX12_isOf_30 (fun r6 => ?_)
      refine g_if_lt X 40 dX12_isOf_33 rfl (fun h7 => ?_) (fun h7 => ?_)
      · refine g_iconst (v := 0) X dX12_isOf_40 (by decide) ?_
        exact g_zret X rfl rfl rfl dX12_isOf_41
      · refine g_iconst (v := 1) X dX12_isOf_36 (by decide) ?_
        refine g_goto X 41 dX12_isOf_37 rfl ?_
        exact g_zret X rfl rfl rfl dX12_isOf_41
set_option maxHeartbeats 4000000 in
set_option maxRecDepth 100000 in
theorem c_X12_marks (l : Launch) (K : q_KK) (M0 : q_MM) (a1 : Int32) : ∀ res, f_X12_marks M0 a1 = some res → Mt l yX12_marks cX12_marks 2 (none : Option FieldType) 0 0 0 0 false K [.ref 5001, .int a1] (qTM, qLM, qPM, M0) (none) ((qTM, qLM, qPM, res)) := by
  refine Mt.of (fun (_ : q_MM) => none) (fun (res : q_MM) => (qTM, qLM, qPM, res)) (by decide) (Nat.le_of_ble_eq_true rfl) ?_
  intro p e s m args below meth c0 A ad X hN
  refine g_sub (lv' := [(0, .ref 5001), (1, .int a1)]) [0, 1] rfl ?_
  unfold f_X12_marks
  refine g_aload_n X dX12_marks_0 rfl 0 rfl ?_
  refine g_getr X fa_X12_191 rfl rfl dX12_marks_1 ?_
  refine g_bipush (v := 64) X dX12_marks_4 (by decide) ?_
  refine g_aload_n X dX12_marks_6 rfl 0 rfl ?_
  refine g_geti X fa_X12_194 rfl dX12_marks_7 ?_
  refine g_imul X dX12_marks_10 ?_
  refine g_aload_n X dX12_marks_11 rfl 0 rfl ?_
  refine g_getr X fa_X12_197 rfl rfl dX12_marks_12 ?_
  refine g_aload_n X dX12_marks_15 rfl 0 rfl ?_
  refine g_geti X fa_X12_194 rfl dX12_marks_16 ?_
  refine g_ild X rfl rfl dX12_marks_19 (fun v1 => ?_)
  refine g_iadd X dX12_marks_20 ?_
  refine g_iload_n X dX12_marks_21 rfl 1 rfl ?_
  refine g_isv X rfl rfl dX12_marks_22 (fun M2 => ?_)
  refine g_aload_n X dX12_marks_23 rfl 0 rfl ?_
  refine g_getr X fa_X12_197 rfl rfl dX12_marks_24 ?_
  refine g_aload_n X dX12_marks_27 rfl 0 rfl ?_
  refine g_geti X fa_X12_194 rfl dX12_marks_28 ?_
  refine g_dup2 X dX12_marks_31 rfl rfl ?_
  refine g_ild X rfl rfl dX12_marks_32 (fun v3 => ?_)
  refine g_iconst (v := 1) X dX12_marks_33 (by decide) ?_
  refine g_iadd X dX12_marks_34 ?_
  refine g_isv X rfl rfl dX12_marks_35 (fun M4 => ?_)
  exact g_vret X rfl rfl rfl dX12_marks_36
set_option maxHeartbeats 4000000 in
set_option maxRecDepth 100000 in
theorem c_X12_act (l : Launch) (K : q_KK) (M : q_MM) (a1 : Int32) : ∀ res, f_X12_act M a1 = some res → Mt l yX12_act cX12_act 1 (some FieldType.int) 0 0 0 0 false K [.int a1] (qTM, qLM, qPM, M) (some (.int res)) ((qTM, qLM, qPM, M)) := by
  refine Mt.of (fun (res : Int32) => some (.int res)) (fun (_ : Int32) => (qTM, qLM, qPM, M)) (by decide) (Nat.le_of_ble_eq_true rfl) ?_
  intro p e s m args below meth c0 A ad X hN
  refine g_sub (lv' := [(0, .int a1)]) [0] rfl ?_
  unfold f_X12_act
  refine g_iload_n X dX12_act_0 rfl 0 rfl ?_
  refine g_sipush (v := 200) X dX12_act_1 (by decide) ?_
  refine g_isub X dX12_act_4 ?_
  exact g_iret X rfl rfl rfl dX12_act_5
set_option maxHeartbeats 4000000 in
set_option maxRecDepth 100000 in
theorem c_X12_thing (l : Launch) (K : q_KK) (d : Nat) (un : (q_MM → Int32 → Option (Int32 × q_MM))) (sm : (q_MM → Int32 → Option (Int32 × q_MM))) (hun : ∀ (M : q_MM) (a1 : Int32) (res : Int32 × q_MM), un M a1 = some res → Mt l yX12_unary cX12_unary 4 (some FieldType.boolean) (7 * d + 20) (210 * d + 600) 0 0 false K [.ref 5001, .int a1] (qTM, qLM, qPM, M) (some (.int res.1)) ((qTM, qLM, qPM, res.2))) (hsm : ∀ (M : q_MM) (a1 : Int32) (res : Int32 × q_MM), sm M a1 = some res → Mt l yX12_some cX12_some 3 (some FieldType.boolean) (7 * d + 25) (210 * d + 750) 0 0 false K [.ref 5001, .int a1] (qTM, qLM, qPM, M) (some (.int res.1)) ((qTM, qLM, qPM, res.2))) (M0 : q_MM) (a1 : Int32) : ∀ res, f_X12_thing un sm M0 a1 = some res → Mt l yX12_thing cX12_thing 4 (some FieldType.boolean) (7 * d + 26) (210 * d + 780) 0 0 false K [.ref 5001, .int a1] (qTM, qLM, qPM, M0) (some (.int res.1)) ((qTM, qLM, qPM, res.2)) := by
  refine Mt.of (fun (res : Int32 × q_MM) => some (.int res.1)) (fun (res : Int32 × q_MM) => (qTM, qLM, qPM, res.2)) (by decide) (Nat.le_of_ble_eq_true rfl) ?_
  intro p e s m args below meth c0 A ad X hN
  have hb_105 : ∀ (x2 : Int32) (M : q_MM), GG p l e { frames := (7 * d + 26), cells := 0, slots := 0, locals := (210 * d + 780) } s m args below meth c0 K A (qTM, qLM, qPM, M0) ad false 4 (fun res => MQ below (q_Qc K false ad (qTM, qLM, qPM, M0) ((fun (res : Int32 × q_MM) => some (.int res.1)) res) ((fun (res : Int32 × q_MM) => (qTM, qLM, qPM, res.2)) res) A) args s 0 0 A) (b_X12_thing_105 un sm x2 M) 105 [(0, .ref 5001), (2, .int x2)] [] (qTM, qLM, qPM, M) 0 0 := by
    intro x2 M
    unfold b_X12_thing_105
    refine g_aload_n X dX12_thing_105 rfl 0 rfl ?_
    refine g_iload_n X dX12_thing_106 rfl 1 rfl ?_
    refine g_bVv (As := [.int x2]) (rest := []) X (c_X12_marks l K M x2) lk_X12_206 rfl rfl rfl (Nat.le_of_ble_eq_true rfl) ⟨by dsimp only; omega, by dsimp only; omega⟩ ⟨Nat.zero_le _, Nat.zero_le _⟩ dX12_thing_107 (fun r1 => ?_)
    refine g_iconst (v := 1) X dX12_thing_110 (by decide) ?_
    exact g_zret X rfl rfl rfl dX12_thing_111
  have hb_56 : ∀ (nf : Nat) (x1 : Int32) (x2 : Int32) (x3 : Int32) (M : q_MM), GG p l e { frames := (7 * d + 26), cells := 0, slots := 0, locals := (210 * d + 780) } s m args below meth c0 K A (qTM, qLM, qPM, M0) ad false 4 (fun res => MQ below (q_Qc K false ad (qTM, qLM, qPM, M0) ((fun (res : Int32 × q_MM) => some (.int res.1)) res) ((fun (res : Int32 × q_MM) => (qTM, qLM, qPM, res.2)) res) A) args s 0 0 A) (b_X12_thing_56 un sm nf x1 x2 x3 M) 56 [(0, .ref 5001), (1, .int x1), (2, .int x2), (3, .int x3)] [] (qTM, qLM, qPM, M) 0 0 := by
    intro  nf
    induction nf with
    | zero => intros; exact g_stop
    | succ nf ih =>
      intro x1 x2 x3 M
      rw [b_X12_thing_56]
      refine g_iload_n X dX12_thing_56 rfl 3 rfl ?_
      refine g_iconst (v := 4) X dX12_thing_57 (by decide) ?_
      refine g_icmp_ge X 105 dX12_thing_58 rfl (fun h2 => ?_) (fun h2 => ?_)
      · exact g_sub [0, 2] rfl (hb_105 x2 M)
      · refine g_aload_n X dX12_thing_61 rfl 0 rfl ?_
        refine g_iload_n X dX12_thing_62 rfl 1 rfl ?_
        refine g_ldcs (i := 2) (tx := "0123456789") X (by decide +kernel) rfl dX12_thing_63 ?_
        refine g_bVi (As := [.int x1, .ref 902]) (rest := []) X (c_X12_isOf l K M x1 902) lk_X12_202 rfl rfl rfl (Nat.le_of_ble_eq_true rfl) ⟨by dsimp only; omega, by dsimp only; omega⟩ ⟨Nat.zero_le _, Nat.zero_le _⟩ dX12_thing_65 (fun r3 => ?_)
        refine g_if_eq X 105 dX12_thing_68 rfl (fun h4 => ?_) (fun h4 => ?_)
        · exact g_sub [0, 2] rfl (hb_105 x2 M)
        · refine g_bipush (v := 10) X dX12_thing_71 (by decide) ?_
          refine g_iload_n X dX12_thing_73 rfl 2 rfl ?_
          refine g_imul X dX12_thing_74 ?_
          refine g_aload_n X dX12_thing_75 rfl 0 rfl ?_
          refine g_getr X fa_X12_180 rfl rfl dX12_thing_76 ?_
          refine g_aload_n X dX12_thing_79 rfl 0 rfl ?_
          refine g_geti X fa_X12_183 rfl dX12_thing_80 ?_
          refine g_ild X rfl rfl dX12_thing_83 (fun v5 => ?_)
          refine g_iadd X dX12_thing_84 ?_
          refine g_bipush (v := 48) X dX12_thing_85 (by decide) ?_
          refine g_isub X dX12_thing_87 ?_
          refine g_isn X (fun v6 => [(2, .int v6), (0, .ref 5001), (1, .int x1), (3, .int x3)]) dX12_thing_88 rfl (by decide) (fun _ => rfl) (fun v6 => ?_)
          refine g_aload_n X dX12_thing_89 rfl 1 rfl ?_
          refine g_dup X dX12_thing_90 rfl ?_
          refine g_geti X fa_X12_183 rfl dX12_thing_91 ?_
          refine g_iconst (v := 1) X dX12_thing_94 (by decide) ?_
          refine g_iadd X dX12_thing_95 ?_
          refine g_pfi X fa_X12_183 rfl (by decide +kernel) rfl dX12_thing_96 (fun M7 => ?_)
          refine g_iinc (v := 1) X [(3, .int (x3 + 1)), (2, .int v6), (0, .ref 5001), (1, .int x1)] 3 dX12_thing_99 rfl (by decide) (by decide) rfl ?_
          refine g_goto X 56 dX12_thing_102 rfl ?_
          exact g_sub [2, 3, 1, 0] rfl (ih x1 v6 (x3 + 1) M7)
  refine g_sub (lv' := [(0, .ref 5001), (1, .int a1)]) [0, 1] rfl ?_
  unfold f_X12_thing
  refine g_aload_n X dX12_thing_0 rfl 0 rfl ?_
  refine g_iload_n X dX12_thing_1 rfl 1 rfl ?_
  refine g_ldcs (i := 0) (tx := "rwplnsbkftya") X (by decide +kernel) rfl dX12_thing_2 ?_
  refine g_bVi (As := [.int a1, .ref 900]) (rest := []) X (c_X12_isOf l K M0 a1 900) lk_X12_202 rfl rfl rfl (Nat.le_of_ble_eq_true rfl) ⟨by dsimp only; omega, by dsimp only; omega⟩ ⟨Nat.zero_le _, Nat.zero_le _⟩ dX12_thing_4 (fun r8 => ?_)
  refine g_if_eq X 42 dX12_thing_7 rfl (fun h9 => ?_) (fun h9 => ?_)
  · refine g_aload_n X dX12_thing_42 rfl 0 rfl ?_
    refine g_iload_n X dX12_thing_43 rfl 1 rfl ?_
    refine g_ldcs (i := 2) (tx := "0123456789") X (by decide +kernel) rfl dX12_thing_44 ?_
    refine g_bVi (As := [.int a1, .ref 902]) (rest := []) X (c_X12_isOf l K M0 a1 902) lk_X12_202 rfl rfl rfl (Nat.le_of_ble_eq_true rfl) ⟨by dsimp only; omega, by dsimp only; omega⟩ ⟨Nat.zero_le _, Nat.zero_le _⟩ dX12_thing_46 (fun r10 => ?_)
    refine g_if_eq X 112 dX12_thing_49 rfl (fun h11 => ?_) (fun h11 => ?_)
    · refine g_aload_n X dX12_thing_112 rfl 0 rfl ?_
      refine g_iload_n X dX12_thing_113 rfl 1 rfl ?_
      refine g_bipush (v := 40) X dX12_thing_114 (by decide) ?_
      refine g_bVi (As := [.int a1, .int 40]) (rest := []) X (c_X12_isSign l K M0 a1 40) lk_X12_211 rfl rfl rfl (Nat.le_of_ble_eq_true rfl) ⟨by dsimp only; omega, by dsimp only; omega⟩ ⟨Nat.zero_le _, Nat.zero_le _⟩ dX12_thing_116 (fun r12 => ?_)
      refine g_if_ne X 124 dX12_thing_119 rfl (fun h13 => ?_) (fun h13 => ?_)
      · refine g_iconst (v := 0) X dX12_thing_122 (by decide) ?_
        exact g_zret X rfl rfl rfl dX12_thing_123
      · refine g_aload_n X dX12_thing_124 rfl 0 rfl ?_
        refine g_dup X dX12_thing_125 rfl ?_
        refine g_geti X fa_X12_183 rfl dX12_thing_126 ?_
        refine g_iconst (v := 1) X dX12_thing_129 (by decide) ?_
        refine g_iadd X dX12_thing_130 ?_
        refine g_pfi X fa_X12_183 rfl (by decide +kernel) rfl dX12_thing_131 (fun M14 => ?_)
        refine g_aload_n X dX12_thing_134 rfl 0 rfl ?_
        refine g_iload_n X dX12_thing_135 rfl 1 rfl ?_
        refine g_bVi (As := [.int a1]) (rest := []) X (hsm M14 a1) lk_X12_215 rfl rfl rfl (Nat.le_of_ble_eq_true rfl) ⟨by dsimp only; omega, by dsimp only; omega⟩ ⟨Nat.zero_le _, Nat.zero_le _⟩ dX12_thing_136 (fun r15 => ?_)
        refine g_if_eq X 152 dX12_thing_139 rfl (fun h16 => ?_) (fun h16 => ?_)
        · refine g_iconst (v := 0) X dX12_thing_152 (by decide) ?_
          exact g_zret X rfl rfl rfl dX12_thing_153
        · refine g_aload_n X dX12_thing_142 rfl 0 rfl ?_
          refine g_iload_n X dX12_thing_143 rfl 1 rfl ?_
          refine g_bipush (v := 41) X dX12_thing_144 (by decide) ?_
          refine g_bVi (As := [.int a1, .int 41]) (rest := []) X (c_X12_isSign l K r15.2 a1 41) lk_X12_211 rfl rfl rfl (Nat.le_of_ble_eq_true rfl) ⟨by dsimp only; omega, by dsimp only; omega⟩ ⟨Nat.zero_le _, Nat.zero_le _⟩ dX12_thing_146 (fun r17 => ?_)
          refine g_if_ne X 154 dX12_thing_149 rfl (fun h18 => ?_) (fun h18 => ?_)
          · refine g_iconst (v := 0) X dX12_thing_152 (by decide) ?_
            exact g_zret X rfl rfl rfl dX12_thing_153
          · refine g_aload_n X dX12_thing_154 rfl 0 rfl ?_
            refine g_dup X dX12_thing_155 rfl ?_
            refine g_geti X fa_X12_183 rfl dX12_thing_156 ?_
            refine g_iconst (v := 1) X dX12_thing_159 (by decide) ?_
            refine g_iadd X dX12_thing_160 ?_
            refine g_pfi X fa_X12_183 rfl (by decide +kernel) rfl dX12_thing_161 (fun M19 => ?_)
            refine g_iconst (v := 1) X dX12_thing_164 (by decide) ?_
            exact g_zret X rfl rfl rfl dX12_thing_165
    · refine g_iconst (v := 0) X dX12_thing_52 (by decide) ?_
      refine g_istore_n X [(2, .int 0), (0, .ref 5001), (1, .int a1)] dX12_thing_53 rfl (by decide) rfl ?_
      refine g_iconst (v := 0) X dX12_thing_54 (by decide) ?_
      refine g_istore_n X [(3, .int 0), (2, .int 0), (0, .ref 5001), (1, .int a1)] dX12_thing_55 rfl (by decide) rfl ?_
      exact g_sub [2, 3, 1, 0] rfl (hb_56 q_fu a1 0 0 M0)
  · refine g_aload_n X dX12_thing_10 rfl 0 rfl ?_
    refine g_iconst (v := (-1)) X dX12_thing_11 (by decide) ?_
    refine g_ldcs (i := 0) (tx := "rwplnsbkftya") X (by decide +kernel) rfl dX12_thing_12 ?_
    refine g_aload_n X dX12_thing_14 rfl 0 rfl ?_
    refine g_getr X fa_X12_180 rfl rfl dX12_thing_15 ?_
    refine g_aload_n X dX12_thing_18 rfl 0 rfl ?_
    refine g_geti X fa_X12_183 rfl dX12_thing_19 ?_
    refine g_ild X rfl rfl dX12_thing_22 (fun v20 => ?_)
    refine g_bXi (As := [.int v20]) (rest := [.int (-1), .ref 5001]) X (c_J0_indexOf_0f7a4 l K qTM qLM qPM M0 900 v20) lk_X12_186 (by decide) rfl rfl (Nat.le_of_ble_eq_true rfl) ⟨by dsimp only; omega, by dsimp only; omega⟩ ⟨Nat.zero_le _, Nat.zero_le _⟩ dX12_thing_23 (fun r21 => ?_)
    refine g_isub X dX12_thing_26 ?_
    refine g_bVv (As := [.int (((-1) : Int32) - r21)]) (rest := []) X (c_X12_marks l K M0 (((-1) : Int32) - r21)) lk_X12_206 rfl rfl rfl (Nat.le_of_ble_eq_true rfl) ⟨by dsimp only; omega, by dsimp only; omega⟩ ⟨Nat.zero_le _, Nat.zero_le _⟩ dX12_thing_27 (fun r22 => ?_)
    refine g_aload_n X dX12_thing_30 rfl 0 rfl ?_
    refine g_dup X dX12_thing_31 rfl ?_
    refine g_geti X fa_X12_183 rfl dX12_thing_32 ?_
    refine g_iconst (v := 1) X dX12_thing_35 (by decide) ?_
    refine g_iadd X dX12_thing_36 ?_
    refine g_pfi X fa_X12_183 rfl (by decide +kernel) rfl dX12_thing_37 (fun M23 => ?_)
    refine g_iconst (v := 1) X dX12_thing_40 (by decide) ?_
    exact g_zret X rfl rfl rfl dX12_thing_41
set_option maxHeartbeats 4000000 in
set_option maxRecDepth 100000 in
theorem c_X12_unary (l : Launch) (K : q_KK) (d : Nat) (un : (q_MM → Int32 → Option (Int32 × q_MM))) (sm : (q_MM → Int32 → Option (Int32 × q_MM))) (hun : ∀ (M : q_MM) (a1 : Int32) (res : Int32 × q_MM), un M a1 = some res → Mt l yX12_unary cX12_unary 4 (some FieldType.boolean) (7 * d + 20) (210 * d + 600) 0 0 false K [.ref 5001, .int a1] (qTM, qLM, qPM, M) (some (.int res.1)) ((qTM, qLM, qPM, res.2))) (hsm : ∀ (M : q_MM) (a1 : Int32) (res : Int32 × q_MM), sm M a1 = some res → Mt l yX12_some cX12_some 3 (some FieldType.boolean) (7 * d + 25) (210 * d + 750) 0 0 false K [.ref 5001, .int a1] (qTM, qLM, qPM, M) (some (.int res.1)) ((qTM, qLM, qPM, res.2))) (M0 : q_MM) (a1 : Int32) : ∀ res, f_X12_unary un sm M0 a1 = some res → Mt l yX12_unary cX12_unary 4 (some FieldType.boolean) (7 * (d + 1) + 20) (210 * (d + 1) + 600) 0 0 false K [.ref 5001, .int a1] (qTM, qLM, qPM, M0) (some (.int res.1)) ((qTM, qLM, qPM, res.2)) := by
  refine Mt.of (fun (res : Int32 × q_MM) => some (.int res.1)) (fun (res : Int32 × q_MM) => (qTM, qLM, qPM, res.2)) (by decide) (Nat.le_of_ble_eq_true rfl) ?_
  intro p e s m args below meth c0 A ad X hN
  have hb_66 : ∀ (x3 : Int32) (M : q_MM), GG p l e { frames := (7 * (d + 1) + 20), cells := 0, slots := 0, locals := (210 * (d + 1) + 600) } s m args below meth c0 K A (qTM, qLM, qPM, M0) ad false 4 (fun res => MQ below (q_Qc K false ad (qTM, qLM, qPM, M0) ((fun (res : Int32 × q_MM) => some (.int res.1)) res) ((fun (res : Int32 × q_MM) => (qTM, qLM, qPM, res.2)) res) A) args s 0 0 A) (b_X12_unary_66 un sm x3 M) 66 [(3, .int x3)] [] (qTM, qLM, qPM, M) 0 0 := by
    intro x3 M
    unfold b_X12_unary_66
    refine g_iload_n X dX12_unary_66 rfl 0 rfl ?_
    exact g_zret X rfl rfl rfl dX12_unary_67
  have hb_60 : ∀ (x3 : Int32) (s0 : Int32) (M : q_MM), GG p l e { frames := (7 * (d + 1) + 20), cells := 0, slots := 0, locals := (210 * (d + 1) + 600) } s m args below meth c0 K A (qTM, qLM, qPM, M0) ad false 4 (fun res => MQ below (q_Qc K false ad (qTM, qLM, qPM, M0) ((fun (res : Int32 × q_MM) => some (.int res.1)) res) ((fun (res : Int32 × q_MM) => (qTM, qLM, qPM, res.2)) res) A) args s 0 0 A) (b_X12_unary_60 un sm x3 s0 M) 60 [(3, .int x3)] [.int s0, .ref 5001] (qTM, qLM, qPM, M) 0 0 := by
    intro x3 s0 M
    unfold b_X12_unary_60
    refine g_bSi (As := [.int s0]) (rest := [.ref 5001]) X (c_X12_act l K M s0) lk_X12_226 rfl rfl (Nat.le_of_ble_eq_true rfl) ⟨by dsimp only; omega, by dsimp only; omega⟩ ⟨Nat.zero_le _, Nat.zero_le _⟩ dX12_unary_60 (fun r1 => ?_)
    refine g_bVv (As := [.int r1]) (rest := []) X (c_X12_marks l K M r1) lk_X12_206 rfl rfl rfl (Nat.le_of_ble_eq_true rfl) ⟨by dsimp only; omega, by dsimp only; omega⟩ ⟨Nat.zero_le _, Nat.zero_le _⟩ dX12_unary_63 (fun r2 => ?_)
    exact g_sub [0] rfl (hb_66 x3 r2)
  refine g_sub (lv' := [(0, .ref 5001), (1, .int a1)]) [0, 1] rfl ?_
  unfold f_X12_unary
  refine g_aload_n X dX12_unary_0 rfl 0 rfl ?_
  refine g_iload_n X dX12_unary_1 rfl 1 rfl ?_
  refine g_ldcs (i := 1) (tx := "!-") X (by decide +kernel) rfl dX12_unary_2 ?_
  refine g_bVi (As := [.int a1, .ref 901]) (rest := []) X (c_X12_isOf l K M0 a1 901) lk_X12_202 rfl rfl rfl (Nat.le_of_ble_eq_true rfl) ⟨by dsimp only; omega, by dsimp only; omega⟩ ⟨Nat.zero_le _, Nat.zero_le _⟩ dX12_unary_4 (fun r3 => ?_)
  refine g_if_ne X 16 dX12_unary_7 rfl (fun h4 => ?_) (fun h4 => ?_)
  · refine g_aload_n X dX12_unary_10 rfl 0 rfl ?_
    refine g_iload_n X dX12_unary_11 rfl 1 rfl ?_
    refine g_bVi (As := [.int a1]) (rest := []) X (c_X12_thing l K d un sm hun hsm M0 a1) lk_X12_220 rfl rfl rfl (Nat.le_of_ble_eq_true rfl) ⟨by dsimp only; omega, by dsimp only; omega⟩ ⟨Nat.zero_le _, Nat.zero_le _⟩ dX12_unary_12 (fun r5 => ?_)
    exact g_zret X rfl rfl rfl dX12_unary_15
  · refine g_aload_n X dX12_unary_16 rfl 0 rfl ?_
    refine g_getr X fa_X12_180 rfl rfl dX12_unary_17 ?_
    refine g_aload_n X dX12_unary_20 rfl 0 rfl ?_
    refine g_geti X fa_X12_183 rfl dX12_unary_21 ?_
    refine g_ild X rfl rfl dX12_unary_24 (fun v6 => ?_)
    refine g_istore_n X [(2, .int v6), (0, .ref 5001), (1, .int a1)] dX12_unary_25 rfl (by decide) rfl ?_
    refine g_aload_n X dX12_unary_26 rfl 1 rfl ?_
    refine g_dup X dX12_unary_27 rfl ?_
    refine g_geti X fa_X12_183 rfl dX12_unary_28 ?_
    refine g_iconst (v := 1) X dX12_unary_31 (by decide) ?_
    refine g_iadd X dX12_unary_32 ?_
    refine g_pfi X fa_X12_183 rfl (by decide +kernel) rfl dX12_unary_33 (fun M7 => ?_)
    refine g_aload_n X dX12_unary_36 rfl 1 rfl ?_
    refine g_iload_n X dX12_unary_37 rfl 2 rfl ?_
    refine g_bVi (As := [.int a1]) (rest := []) X (hun M7 a1) lk_X12_223 rfl rfl rfl (Nat.le_of_ble_eq_true rfl) ⟨by dsimp only; omega, by dsimp only; omega⟩ ⟨Nat.zero_le _, Nat.zero_le _⟩ dX12_unary_38 (fun r8 => ?_)
    refine g_isn X (fun v9 => [(3, .int v9), (2, .int v6), (0, .ref 5001), (1, .int a1)]) dX12_unary_41 rfl (by decide) (fun _ => rfl) (fun v9 => ?_)
    refine g_iload_n X dX12_unary_42 rfl 0 rfl ?_
    refine g_if_eq X 66 dX12_unary_43 rfl (fun h10 => ?_) (fun h10 => ?_)
    · exact g_sub [0] rfl (hb_66 v9 r8.2)
    · refine g_aload_n X dX12_unary_46 rfl 2 rfl ?_
      refine g_iload_n X dX12_unary_47 rfl 1 rfl ?_
      refine g_bipush (v := 33) X dX12_unary_48 (by decide) ?_
      refine g_icmp_ne X 58 dX12_unary_50 rfl (fun h11 => ?_) (fun h11 => ?_)
      · refine g_bipush (v := 33) X dX12_unary_53 (by decide) ?_
        refine g_goto X 60 dX12_unary_55 rfl ?_
        exact g_sub [0] rfl (hb_60 v9 33 r8.2)
      · refine g_bipush (v := 126) X dX12_unary_58 (by decide) ?_
        exact g_sub [0] rfl (hb_60 v9 126 r8.2)
set_option maxHeartbeats 4000000 in
set_option maxRecDepth 100000 in
theorem c_X12_product (l : Launch) (K : q_KK) (d : Nat) (un : (q_MM → Int32 → Option (Int32 × q_MM))) (sm : (q_MM → Int32 → Option (Int32 × q_MM))) (hun : ∀ (M : q_MM) (a1 : Int32) (res : Int32 × q_MM), un M a1 = some res → Mt l yX12_unary cX12_unary 4 (some FieldType.boolean) (7 * d + 20) (210 * d + 600) 0 0 false K [.ref 5001, .int a1] (qTM, qLM, qPM, M) (some (.int res.1)) ((qTM, qLM, qPM, res.2))) (hsm : ∀ (M : q_MM) (a1 : Int32) (res : Int32 × q_MM), sm M a1 = some res → Mt l yX12_some cX12_some 3 (some FieldType.boolean) (7 * d + 25) (210 * d + 750) 0 0 false K [.ref 5001, .int a1] (qTM, qLM, qPM, M) (some (.int res.1)) ((qTM, qLM, qPM, res.2))) (M0 : q_MM) (a1 : Int32) : ∀ res, f_X12_product un sm M0 a1 = some res → Mt l yX12_product cX12_product 4 (some FieldType.boolean) (7 * (d + 1) + 21) (210 * (d + 1) + 630) 0 0 false K [.ref 5001, .int a1] (qTM, qLM, qPM, M0) (some (.int res.1)) ((qTM, qLM, qPM, res.2)) := by
  refine Mt.of (fun (res : Int32 × q_MM) => some (.int res.1)) (fun (res : Int32 × q_MM) => (qTM, qLM, qPM, res.2)) (by decide) (Nat.le_of_ble_eq_true rfl) ?_
  intro p e s m args below meth c0 A ad X hN
  have hb_58 : ∀ (k6 : Int32 → Int32 → q_MM → Option (Int32 × q_MM)) (hk6 : ∀ (x1 : Int32) (x2 : Int32) (M : q_MM), GG p l e { frames := (7 * (d + 1) + 21), cells := 0, slots := 0, locals := (210 * (d + 1) + 630) } s m args below meth c0 K A (qTM, qLM, qPM, M0) ad false 4 (fun res => MQ below (q_Qc K false ad (qTM, qLM, qPM, M0) ((fun (res : Int32 × q_MM) => some (.int res.1)) res) ((fun (res : Int32 × q_MM) => (qTM, qLM, qPM, res.2)) res) A) args s 0 0 A) (k6 x1 x2 M) 6 [(0, .ref 5001), (1, .int x1), (2, .int x2)] [] (qTM, qLM, qPM, M) 0 0) (x1 : Int32) (x2 : Int32) (M : q_MM), GG p l e { frames := (7 * (d + 1) + 21), cells := 0, slots := 0, locals := (210 * (d + 1) + 630) } s m args below meth c0 K A (qTM, qLM, qPM, M0) ad false 4 (fun res => MQ below (q_Qc K false ad (qTM, qLM, qPM, M0) ((fun (res : Int32 × q_MM) => some (.int res.1)) res) ((fun (res : Int32 × q_MM) => (qTM, qLM, qPM, res.2)) res) A) args s 0 0 A) (b_X12_product_58 un sm k6 x1 x2 M) 58 [(0, .ref 5001), (1, .int x1), (2, .int x2)] [] (qTM, qLM, qPM, M) 0 0 := by
    intro k6 hk6 x1 x2 M
    unfold b_X12_product_58
    refine g_goto X 6 dX12_product_58 rfl ?_
    exact g_sub [0, 1, 2] rfl (hk6 x1 x2 M)
  have hb_61 : ∀ (x2 : Int32) (M : q_MM), GG p l e { frames := (7 * (d + 1) + 21), cells := 0, slots := 0, locals := (210 * (d + 1) + 630) } s m args below meth c0 K A (qTM, qLM, qPM, M0) ad false 4 (fun res => MQ below (q_Qc K false ad (qTM, qLM, qPM, M0) ((fun (res : Int32 × q_MM) => some (.int res.1)) res) ((fun (res : Int32 × q_MM) => (qTM, qLM, qPM, res.2)) res) A) args s 0 0 A) (b_X12_product_61 un sm x2 M) 61 [(2, .int x2)] [] (qTM, qLM, qPM, M) 0 0 := by
    intro x2 M
    unfold b_X12_product_61
    refine g_iload_n X dX12_product_61 rfl 0 rfl ?_
    exact g_zret X rfl rfl rfl dX12_product_62
  have hb_6 : ∀ (nf : Nat) (x1 : Int32) (x2 : Int32) (M : q_MM), GG p l e { frames := (7 * (d + 1) + 21), cells := 0, slots := 0, locals := (210 * (d + 1) + 630) } s m args below meth c0 K A (qTM, qLM, qPM, M0) ad false 4 (fun res => MQ below (q_Qc K false ad (qTM, qLM, qPM, M0) ((fun (res : Int32 × q_MM) => some (.int res.1)) res) ((fun (res : Int32 × q_MM) => (qTM, qLM, qPM, res.2)) res) A) args s 0 0 A) (b_X12_product_6 un sm nf x1 x2 M) 6 [(0, .ref 5001), (1, .int x1), (2, .int x2)] [] (qTM, qLM, qPM, M) 0 0 := by
    intro  nf
    induction nf with
    | zero => intros; exact g_stop
    | succ nf ih =>
      intro x1 x2 M
      rw [b_X12_product_6]
      refine g_iload_n X dX12_product_6 rfl 2 rfl ?_
      refine g_if_eq X 61 dX12_product_7 rfl (fun h1 => ?_) (fun h1 => ?_)
      · exact g_sub [2] rfl (hb_61 x2 M)
      · refine g_aload_n X dX12_product_10 rfl 0 rfl ?_
        refine g_iload_n X dX12_product_11 rfl 1 rfl ?_
        refine g_ldcs (i := 3) (tx := "*/%") X (by decide +kernel) rfl dX12_product_12 ?_
        refine g_bVi (As := [.int x1, .ref 903]) (rest := []) X (c_X12_isOf l K M x1 903) lk_X12_202 rfl rfl rfl (Nat.le_of_ble_eq_true rfl) ⟨by dsimp only; omega, by dsimp only; omega⟩ ⟨Nat.zero_le _, Nat.zero_le _⟩ dX12_product_14 (fun r2 => ?_)
        refine g_if_eq X 61 dX12_product_17 rfl (fun h3 => ?_) (fun h3 => ?_)
        · exact g_sub [2] rfl (hb_61 x2 M)
        · refine g_aload_n X dX12_product_20 rfl 0 rfl ?_
          refine g_getr X fa_X12_180 rfl rfl dX12_product_21 ?_
          refine g_aload_n X dX12_product_24 rfl 0 rfl ?_
          refine g_geti X fa_X12_183 rfl dX12_product_25 ?_
          refine g_ild X rfl rfl dX12_product_28 (fun v4 => ?_)
          refine g_istore_n X [(3, .int v4), (0, .ref 5001), (1, .int x1), (2, .int x2)] dX12_product_29 rfl (by decide) rfl ?_
          refine g_aload_n X dX12_product_30 rfl 1 rfl ?_
          refine g_dup X dX12_product_31 rfl ?_
          refine g_geti X fa_X12_183 rfl dX12_product_32 ?_
          refine g_iconst (v := 1) X dX12_product_35 (by decide) ?_
          refine g_iadd X dX12_product_36 ?_
          refine g_pfi X fa_X12_183 rfl (by decide +kernel) rfl dX12_product_37 (fun M5 => ?_)
          refine g_aload_n X dX12_product_40 rfl 1 rfl ?_
          refine g_iload_n X dX12_product_41 rfl 2 rfl ?_
          refine g_bVi (As := [.int x1]) (rest := []) X (c_X12_unary l K d un sm hun hsm M5 x1) lk_X12_223 rfl rfl rfl (Nat.le_of_ble_eq_true rfl) ⟨by dsimp only; omega, by dsimp only; omega⟩ ⟨Nat.zero_le _, Nat.zero_le _⟩ dX12_product_42 (fun r6 => ?_)
          refine g_isn X (fun v7 => [(2, .int v7), (3, .int v4), (0, .ref 5001), (1, .int x1)]) dX12_product_45 rfl (by decide) (fun _ => rfl) (fun v7 => ?_)
          refine g_iload_n X dX12_product_46 rfl 0 rfl ?_
          refine g_if_eq X 58 dX12_product_47 rfl (fun h8 => ?_) (fun h8 => ?_)
          · exact g_sub [2, 3, 0] rfl (hb_58 (b_X12_product_6 un sm nf) ih x1 v7 r6.2)
          · refine g_aload_n X dX12_product_50 rfl 2 rfl ?_
            refine g_iload_n X dX12_product_51 rfl 1 rfl ?_
            refine g_bSi (As := [.int v4]) (rest := [.ref 5001]) X (c_X12_act l K r6.2 v4) lk_X12_226 rfl rfl (Nat.le_of_ble_eq_true rfl) ⟨by dsimp only; omega, by dsimp only; omega⟩ ⟨Nat.zero_le _, Nat.zero_le _⟩ dX12_product_52 (fun r9 => ?_)
            refine g_bVv (As := [.int r9]) (rest := []) X (c_X12_marks l K r6.2 r9) lk_X12_206 rfl rfl rfl (Nat.le_of_ble_eq_true rfl) ⟨by dsimp only; omega, by dsimp only; omega⟩ ⟨Nat.zero_le _, Nat.zero_le _⟩ dX12_product_55 (fun r10 => ?_)
            exact g_sub [2, 3, 0] rfl (hb_58 (b_X12_product_6 un sm nf) ih x1 v7 r10)
  refine g_sub (lv' := [(0, .ref 5001), (1, .int a1)]) [0, 1] rfl ?_
  unfold f_X12_product
  refine g_aload_n X dX12_product_0 rfl 0 rfl ?_
  refine g_iload_n X dX12_product_1 rfl 1 rfl ?_
  refine g_bVi (As := [.int a1]) (rest := []) X (c_X12_unary l K d un sm hun hsm M0 a1) lk_X12_223 rfl rfl rfl (Nat.le_of_ble_eq_true rfl) ⟨by dsimp only; omega, by dsimp only; omega⟩ ⟨Nat.zero_le _, Nat.zero_le _⟩ dX12_product_2 (fun r11 => ?_)
  refine g_isn X (fun v12 => [(2, .int v12), (0, .ref 5001), (1, .int a1)]) dX12_product_5 rfl (by decide) (fun _ => rfl) (fun v12 => ?_)
  exact g_sub [1, 2, 0] rfl (hb_6 q_fu a1 v12 r11.2)
set_option maxHeartbeats 4000000 in
set_option maxRecDepth 100000 in
theorem c_X12_total (l : Launch) (K : q_KK) (d : Nat) (un : (q_MM → Int32 → Option (Int32 × q_MM))) (sm : (q_MM → Int32 → Option (Int32 × q_MM))) (hun : ∀ (M : q_MM) (a1 : Int32) (res : Int32 × q_MM), un M a1 = some res → Mt l yX12_unary cX12_unary 4 (some FieldType.boolean) (7 * d + 20) (210 * d + 600) 0 0 false K [.ref 5001, .int a1] (qTM, qLM, qPM, M) (some (.int res.1)) ((qTM, qLM, qPM, res.2))) (hsm : ∀ (M : q_MM) (a1 : Int32) (res : Int32 × q_MM), sm M a1 = some res → Mt l yX12_some cX12_some 3 (some FieldType.boolean) (7 * d + 25) (210 * d + 750) 0 0 false K [.ref 5001, .int a1] (qTM, qLM, qPM, M) (some (.int res.1)) ((qTM, qLM, qPM, res.2))) (M0 : q_MM) (a1 : Int32) : ∀ res, f_X12_total un sm M0 a1 = some res → Mt l yX12_total cX12_total 4 (some FieldType.boolean) (7 * (d + 1) + 22) (210 * (d + 1) + 660) 0 0 false K [.ref 5001, .int a1] (qTM, qLM, qPM, M0) (some (.int res.1)) ((qTM, qLM, qPM, res.2)) := by
  refine Mt.of (fun (res : Int32 × q_MM) => some (.int res.1)) (fun (res : Int32 × q_MM) => (qTM, qLM, qPM, res.2)) (by decide) (Nat.le_of_ble_eq_true rfl) ?_
  intro p e s m args below meth c0 A ad X hN
  have hb_58 : ∀ (k6 : Int32 → Int32 → q_MM → Option (Int32 × q_MM)) (hk6 : ∀ (x1 : Int32) (x2 : Int32) (M : q_MM), GG p l e { frames := (7 * (d + 1) + 22), cells := 0, slots := 0, locals := (210 * (d + 1) + 660) } s m args below meth c0 K A (qTM, qLM, qPM, M0) ad false 4 (fun res => MQ below (q_Qc K false ad (qTM, qLM, qPM, M0) ((fun (res : Int32 × q_MM) => some (.int res.1)) res) ((fun (res : Int32 × q_MM) => (qTM, qLM, qPM, res.2)) res) A) args s 0 0 A) (k6 x1 x2 M) 6 [(0, .ref 5001), (1, .int x1), (2, .int x2)] [] (qTM, qLM, qPM, M) 0 0) (x1 : Int32) (x2 : Int32) (M : q_MM), GG p l e { frames := (7 * (d + 1) + 22), cells := 0, slots := 0, locals := (210 * (d + 1) + 660) } s m args below meth c0 K A (qTM, qLM, qPM, M0) ad false 4 (fun res => MQ below (q_Qc K false ad (qTM, qLM, qPM, M0) ((fun (res : Int32 × q_MM) => some (.int res.1)) res) ((fun (res : Int32 × q_MM) => (qTM, qLM, qPM, res.2)) res) A) args s 0 0 A) (b_X12_total_58 un sm k6 x1 x2 M) 58 [(0, .ref 5001), (1, .int x1), (2, .int x2)] [] (qTM, qLM, qPM, M) 0 0 := by
    intro k6 hk6 x1 x2 M
    unfold b_X12_total_58
    refine g_goto X 6 dX12_total_58 rfl ?_
    exact g_sub [0, 1, 2] rfl (hk6 x1 x2 M)
  have hb_61 : ∀ (x2 : Int32) (M : q_MM), GG p l e { frames := (7 * (d + 1) + 22), cells := 0, slots := 0, locals := (210 * (d + 1) + 660) } s m args below meth c0 K A (qTM, qLM, qPM, M0) ad false 4 (fun res => MQ below (q_Qc K false ad (qTM, qLM, qPM, M0) ((fun (res : Int32 × q_MM) => some (.int res.1)) res) ((fun (res : Int32 × q_MM) => (qTM, qLM, qPM, res.2)) res) A) args s 0 0 A) (b_X12_total_61 un sm x2 M) 61 [(2, .int x2)] [] (qTM, qLM, qPM, M) 0 0 := by
    intro x2 M
    unfold b_X12_total_61
    refine g_iload_n X dX12_total_61 rfl 0 rfl ?_
    exact g_zret X rfl rfl rfl dX12_total_62
  have hb_6 : ∀ (nf : Nat) (x1 : Int32) (x2 : Int32) (M : q_MM), GG p l e { frames := (7 * (d + 1) + 22), cells := 0, slots := 0, locals := (210 * (d + 1) + 660) } s m args below meth c0 K A (qTM, qLM, qPM, M0) ad false 4 (fun res => MQ below (q_Qc K false ad (qTM, qLM, qPM, M0) ((fun (res : Int32 × q_MM) => some (.int res.1)) res) ((fun (res : Int32 × q_MM) => (qTM, qLM, qPM, res.2)) res) A) args s 0 0 A) (b_X12_total_6 un sm nf x1 x2 M) 6 [(0, .ref 5001), (1, .int x1), (2, .int x2)] [] (qTM, qLM, qPM, M) 0 0 := by
    intro  nf
    induction nf with
    | zero => intros; exact g_stop
    | succ nf ih =>
      intro x1 x2 M
      rw [b_X12_total_6]
      refine g_iload_n X dX12_total_6 rfl 2 rfl ?_
      refine g_if_eq X 61 dX12_total_7 rfl (fun h1 => ?_) (fun h1 => ?_)
      · exact g_sub [2] rfl (hb_61 x2 M)
      · refine g_aload_n X dX12_total_10 rfl 0 rfl ?_
        refine g_iload_n X dX12_total_11 rfl 1 rfl ?_
        refine g_ldcs (i := 4) (tx := "+-") X (by decide +kernel) rfl dX12_total_12 ?_
        refine g_bVi (As := [.int x1, .ref 904]) (rest := []) X (c_X12_isOf l K M x1 904) lk_X12_202 rfl rfl rfl (Nat.le_of_ble_eq_true rfl) ⟨by dsimp only; omega, by dsimp only; omega⟩ ⟨Nat.zero_le _, Nat.zero_le _⟩ dX12_total_14 (fun r2 => ?_)
        refine g_if_eq X 61 dX12_total_17 rfl (fun h3 => ?_) (fun h3 => ?_)
        · exact g_sub [2] rfl (hb_61 x2 M)
        · refine g_aload_n X dX12_total_20 rfl 0 rfl ?_
          refine g_getr X fa_X12_180 rfl rfl dX12_total_21 ?_
          refine g_aload_n X dX12_total_24 rfl 0 rfl ?_
          refine g_geti X fa_X12_183 rfl dX12_total_25 ?_
          refine g_ild X rfl rfl dX12_total_28 (fun v4 => ?_)
          refine g_istore_n X [(3, .int v4), (0, .ref 5001), (1, .int x1), (2, .int x2)] dX12_total_29 rfl (by decide) rfl ?_
          refine g_aload_n X dX12_total_30 rfl 1 rfl ?_
          refine g_dup X dX12_total_31 rfl ?_
          refine g_geti X fa_X12_183 rfl dX12_total_32 ?_
          refine g_iconst (v := 1) X dX12_total_35 (by decide) ?_
          refine g_iadd X dX12_total_36 ?_
          refine g_pfi X fa_X12_183 rfl (by decide +kernel) rfl dX12_total_37 (fun M5 => ?_)
          refine g_aload_n X dX12_total_40 rfl 1 rfl ?_
          refine g_iload_n X dX12_total_41 rfl 2 rfl ?_
          refine g_bVi (As := [.int x1]) (rest := []) X (c_X12_product l K d un sm hun hsm M5 x1) lk_X12_231 rfl rfl rfl (Nat.le_of_ble_eq_true rfl) ⟨by dsimp only; omega, by dsimp only; omega⟩ ⟨Nat.zero_le _, Nat.zero_le _⟩ dX12_total_42 (fun r6 => ?_)
          refine g_isn X (fun v7 => [(2, .int v7), (3, .int v4), (0, .ref 5001), (1, .int x1)]) dX12_total_45 rfl (by decide) (fun _ => rfl) (fun v7 => ?_)
          refine g_iload_n X dX12_total_46 rfl 0 rfl ?_
          refine g_if_eq X 58 dX12_total_47 rfl (fun h8 => ?_) (fun h8 => ?_)
          · exact g_sub [2, 3, 0] rfl (hb_58 (b_X12_total_6 un sm nf) ih x1 v7 r6.2)
          · refine g_aload_n X dX12_total_50 rfl 2 rfl ?_
            refine g_iload_n X dX12_total_51 rfl 1 rfl ?_
            refine g_bSi (As := [.int v4]) (rest := [.ref 5001]) X (c_X12_act l K r6.2 v4) lk_X12_226 rfl rfl (Nat.le_of_ble_eq_true rfl) ⟨by dsimp only; omega, by dsimp only; omega⟩ ⟨Nat.zero_le _, Nat.zero_le _⟩ dX12_total_52 (fun r9 => ?_)
            refine g_bVv (As := [.int r9]) (rest := []) X (c_X12_marks l K r6.2 r9) lk_X12_206 rfl rfl rfl (Nat.le_of_ble_eq_true rfl) ⟨by dsimp only; omega, by dsimp only; omega⟩ ⟨Nat.zero_le _, Nat.zero_le _⟩ dX12_total_55 (fun r10 => ?_)
            exact g_sub [2, 3, 0] rfl (hb_58 (b_X12_total_6 un sm nf) ih x1 v7 r10)
  refine g_sub (lv' := [(0, .ref 5001), (1, .int a1)]) [0, 1] rfl ?_
  unfold f_X12_total
  refine g_aload_n X dX12_total_0 rfl 0 rfl ?_
  refine g_iload_n X dX12_total_1 rfl 1 rfl ?_
  refine g_bVi (As := [.int a1]) (rest := []) X (c_X12_product l K d un sm hun hsm M0 a1) lk_X12_231 rfl rfl rfl (Nat.le_of_ble_eq_true rfl) ⟨by dsimp only; omega, by dsimp only; omega⟩ ⟨Nat.zero_le _, Nat.zero_le _⟩ dX12_total_2 (fun r11 => ?_)
  refine g_isn X (fun v12 => [(2, .int v12), (0, .ref 5001), (1, .int a1)]) dX12_total_5 rfl (by decide) (fun _ => rfl) (fun v12 => ?_)
  exact g_sub [1, 2, 0] rfl (hb_6 q_fu a1 v12 r11.2)
set_option maxHeartbeats 4000000 in
set_option maxRecDepth 100000 in
theorem c_X12_compared (l : Launch) (K : q_KK) (d : Nat) (un : (q_MM → Int32 → Option (Int32 × q_MM))) (sm : (q_MM → Int32 → Option (Int32 × q_MM))) (hun : ∀ (M : q_MM) (a1 : Int32) (res : Int32 × q_MM), un M a1 = some res → Mt l yX12_unary cX12_unary 4 (some FieldType.boolean) (7 * d + 20) (210 * d + 600) 0 0 false K [.ref 5001, .int a1] (qTM, qLM, qPM, M) (some (.int res.1)) ((qTM, qLM, qPM, res.2))) (hsm : ∀ (M : q_MM) (a1 : Int32) (res : Int32 × q_MM), sm M a1 = some res → Mt l yX12_some cX12_some 3 (some FieldType.boolean) (7 * d + 25) (210 * d + 750) 0 0 false K [.ref 5001, .int a1] (qTM, qLM, qPM, M) (some (.int res.1)) ((qTM, qLM, qPM, res.2))) (M0 : q_MM) (a1 : Int32) : ∀ res, f_X12_compared un sm M0 a1 = some res → Mt l yX12_compared cX12_compared 4 (some FieldType.boolean) (7 * (d + 1) + 23) (210 * (d + 1) + 690) 0 0 false K [.ref 5001, .int a1] (qTM, qLM, qPM, M0) (some (.int res.1)) ((qTM, qLM, qPM, res.2)) := by
  refine Mt.of (fun (res : Int32 × q_MM) => some (.int res.1)) (fun (res : Int32 × q_MM) => (qTM, qLM, qPM, res.2)) (by decide) (Nat.le_of_ble_eq_true rfl) ?_
  intro p e s m args below meth c0 A ad X hN
  have hb_58 : ∀ (x2 : Int32) (M : q_MM), GG p l e { frames := (7 * (d + 1) + 23), cells := 0, slots := 0, locals := (210 * (d + 1) + 690) } s m args below meth c0 K A (qTM, qLM, qPM, M0) ad false 4 (fun res => MQ below (q_Qc K false ad (qTM, qLM, qPM, M0) ((fun (res : Int32 × q_MM) => some (.int res.1)) res) ((fun (res : Int32 × q_MM) => (qTM, qLM, qPM, res.2)) res) A) args s 0 0 A) (b_X12_compared_58 un sm x2 M) 58 [(2, .int x2)] [] (qTM, qLM, qPM, M) 0 0 := by
    intro x2 M
    unfold b_X12_compared_58
    refine g_iload_n X dX12_compared_58 rfl 0 rfl ?_
    exact g_zret X rfl rfl rfl dX12_compared_59
  refine g_sub (lv' := [(0, .ref 5001), (1, .int a1)]) [0, 1] rfl ?_
  unfold f_X12_compared
  refine g_aload_n X dX12_compared_0 rfl 0 rfl ?_
  refine g_iload_n X dX12_compared_1 rfl 1 rfl ?_
  refine g_bVi (As := [.int a1]) (rest := []) X (c_X12_total l K d un sm hun hsm M0 a1) lk_X12_236 rfl rfl rfl (Nat.le_of_ble_eq_true rfl) ⟨by dsimp only; omega, by dsimp only; omega⟩ ⟨Nat.zero_le _, Nat.zero_le _⟩ dX12_compared_2 (fun r1 => ?_)
  refine g_isn X (fun v2 => [(2, .int v2), (0, .ref 5001), (1, .int a1)]) dX12_compared_5 rfl (by decide) (fun _ => rfl) (fun v2 => ?_)
  refine g_iload_n X dX12_compared_6 rfl 0 rfl ?_
  refine g_if_eq X 58 dX12_compared_7 rfl (fun h3 => ?_) (fun h3 => ?_)
  · exact g_sub [0] rfl (hb_58 v2 r1.2)
  · refine g_aload_n X dX12_compared_10 rfl 1 rfl ?_
    refine g_iload_n X dX12_compared_11 rfl 2 rfl ?_
    refine g_ldcs (i := 5) (tx := "<>=") X (by decide +kernel) rfl dX12_compared_12 ?_
    refine g_bVi (As := [.int a1, .ref 905]) (rest := []) X (c_X12_isOf l K r1.2 a1 905) lk_X12_202 rfl rfl rfl (Nat.le_of_ble_eq_true rfl) ⟨by dsimp only; omega, by dsimp only; omega⟩ ⟨Nat.zero_le _, Nat.zero_le _⟩ dX12_compared_14 (fun r4 => ?_)
    refine g_if_eq X 58 dX12_compared_17 rfl (fun h5 => ?_) (fun h5 => ?_)
    · exact g_sub [0] rfl (hb_58 v2 r1.2)
    · refine g_aload_n X dX12_compared_20 rfl 1 rfl ?_
      refine g_getr X fa_X12_180 rfl rfl dX12_compared_21 ?_
      refine g_aload_n X dX12_compared_24 rfl 1 rfl ?_
      refine g_geti X fa_X12_183 rfl dX12_compared_25 ?_
      refine g_ild X rfl rfl dX12_compared_28 (fun v6 => ?_)
      refine g_istore_n X [(3, .int v6), (2, .int v2), (0, .ref 5001), (1, .int a1)] dX12_compared_29 rfl (by decide) rfl ?_
      refine g_aload_n X dX12_compared_30 rfl 2 rfl ?_
      refine g_dup X dX12_compared_31 rfl ?_
      refine g_geti X fa_X12_183 rfl dX12_compared_32 ?_
      refine g_iconst (v := 1) X dX12_compared_35 (by decide) ?_
      refine g_iadd X dX12_compared_36 ?_
      refine g_pfi X fa_X12_183 rfl (by decide +kernel) rfl dX12_compared_37 (fun M7 => ?_)
      refine g_aload_n X dX12_compared_40 rfl 2 rfl ?_
      refine g_iload_n X dX12_compared_41 rfl 3 rfl ?_
      refine g_bVi (As := [.int a1]) (rest := []) X (c_X12_total l K d un sm hun hsm M7 a1) lk_X12_236 rfl rfl rfl (Nat.le_of_ble_eq_true rfl) ⟨by dsimp only; omega, by dsimp only; omega⟩ ⟨Nat.zero_le _, Nat.zero_le _⟩ dX12_compared_42 (fun r8 => ?_)
      refine g_isn X (fun v9 => [(2, .int v9), (3, .int v6), (0, .ref 5001), (1, .int a1)]) dX12_compared_45 rfl (by decide) (fun _ => rfl) (fun v9 => ?_)
      refine g_iload_n X dX12_compared_46 rfl 0 rfl ?_
      refine g_if_eq X 58 dX12_compared_47 rfl (fun h10 => ?_) (fun h10 => ?_)
      · exact g_sub [0] rfl (hb_58 v9 r8.2)
      · refine g_aload_n X dX12_compared_50 rfl 2 rfl ?_
        refine g_iload_n X dX12_compared_51 rfl 1 rfl ?_
        refine g_bSi (As := [.int v6]) (rest := [.ref 5001]) X (c_X12_act l K r8.2 v6) lk_X12_226 rfl rfl (Nat.le_of_ble_eq_true rfl) ⟨by dsimp only; omega, by dsimp only; omega⟩ ⟨Nat.zero_le _, Nat.zero_le _⟩ dX12_compared_52 (fun r11 => ?_)
        refine g_bVv (As := [.int r11]) (rest := []) X (c_X12_marks l K r8.2 r11) lk_X12_206 rfl rfl rfl (Nat.le_of_ble_eq_true rfl) ⟨by dsimp only; omega, by dsimp only; omega⟩ ⟨Nat.zero_le _, Nat.zero_le _⟩ dX12_compared_55 (fun r12 => ?_)
        exact g_sub [0] rfl (hb_58 v9 r12)
set_option maxHeartbeats 4000000 in
set_option maxRecDepth 100000 in
theorem c_X12_every (l : Launch) (K : q_KK) (d : Nat) (un : (q_MM → Int32 → Option (Int32 × q_MM))) (sm : (q_MM → Int32 → Option (Int32 × q_MM))) (hun : ∀ (M : q_MM) (a1 : Int32) (res : Int32 × q_MM), un M a1 = some res → Mt l yX12_unary cX12_unary 4 (some FieldType.boolean) (7 * d + 20) (210 * d + 600) 0 0 false K [.ref 5001, .int a1] (qTM, qLM, qPM, M) (some (.int res.1)) ((qTM, qLM, qPM, res.2))) (hsm : ∀ (M : q_MM) (a1 : Int32) (res : Int32 × q_MM), sm M a1 = some res → Mt l yX12_some cX12_some 3 (some FieldType.boolean) (7 * d + 25) (210 * d + 750) 0 0 false K [.ref 5001, .int a1] (qTM, qLM, qPM, M) (some (.int res.1)) ((qTM, qLM, qPM, res.2))) (M0 : q_MM) (a1 : Int32) : ∀ res, f_X12_every un sm M0 a1 = some res → Mt l yX12_every cX12_every 3 (some FieldType.boolean) (7 * (d + 1) + 24) (210 * (d + 1) + 720) 0 0 false K [.ref 5001, .int a1] (qTM, qLM, qPM, M0) (some (.int res.1)) ((qTM, qLM, qPM, res.2)) := by
  refine Mt.of (fun (res : Int32 × q_MM) => some (.int res.1)) (fun (res : Int32 × q_MM) => (qTM, qLM, qPM, res.2)) (by decide) (Nat.le_of_ble_eq_true rfl) ?_
  intro p e s m args below meth c0 A ad X hN
  have hb_52 : ∀ (x2 : Int32) (M : q_MM), GG p l e { frames := (7 * (d + 1) + 24), cells := 0, slots := 0, locals := (210 * (d + 1) + 720) } s m args below meth c0 K A (qTM, qLM, qPM, M0) ad false 3 (fun res => MQ below (q_Qc K false ad (qTM, qLM, qPM, M0) ((fun (res : Int32 × q_MM) => some (.int res.1)) res) ((fun (res : Int32 × q_MM) => (qTM, qLM, qPM, res.2)) res) A) args s 0 0 A) (b_X12_every_52 un sm x2 M) 52 [(2, .int x2)] [] (qTM, qLM, qPM, M) 0 0 := by
    intro x2 M
    unfold b_X12_every_52
    refine g_iload_n X dX12_every_52 rfl 0 rfl ?_
    exact g_zret X rfl rfl rfl dX12_every_53
  have hb_6 : ∀ (nf : Nat) (x1 : Int32) (x2 : Int32) (M : q_MM), GG p l e { frames := (7 * (d + 1) + 24), cells := 0, slots := 0, locals := (210 * (d + 1) + 720) } s m args below meth c0 K A (qTM, qLM, qPM, M0) ad false 3 (fun res => MQ below (q_Qc K false ad (qTM, qLM, qPM, M0) ((fun (res : Int32 × q_MM) => some (.int res.1)) res) ((fun (res : Int32 × q_MM) => (qTM, qLM, qPM, res.2)) res) A) args s 0 0 A) (b_X12_every_6 un sm nf x1 x2 M) 6 [(0, .ref 5001), (1, .int x1), (2, .int x2)] [] (qTM, qLM, qPM, M) 0 0 := by
    intro  nf
    induction nf with
    | zero => intros; exact g_stop
    | succ nf ih =>
      intro x1 x2 M
      rw [b_X12_every_6]
      refine g_iload_n X dX12_every_6 rfl 2 rfl ?_
      refine g_if_eq X 52 dX12_every_7 rfl (fun h1 => ?_) (fun h1 => ?_)
      · exact g_sub [2] rfl (hb_52 x2 M)
      · refine g_aload_n X dX12_every_10 rfl 0 rfl ?_
        refine g_iload_n X dX12_every_11 rfl 1 rfl ?_
        refine g_bipush (v := 38) X dX12_every_12 (by decide) ?_
        refine g_bVi (As := [.int x1, .int 38]) (rest := []) X (c_X12_isSign l K M x1 38) lk_X12_211 rfl rfl rfl (Nat.le_of_ble_eq_true rfl) ⟨by dsimp only; omega, by dsimp only; omega⟩ ⟨Nat.zero_le _, Nat.zero_le _⟩ dX12_every_14 (fun r2 => ?_)
        refine g_if_eq X 52 dX12_every_17 rfl (fun h3 => ?_) (fun h3 => ?_)
        · exact g_sub [2] rfl (hb_52 x2 M)
        · refine g_aload_n X dX12_every_20 rfl 0 rfl ?_
          refine g_dup X dX12_every_21 rfl ?_
          refine g_geti X fa_X12_183 rfl dX12_every_22 ?_
          refine g_iconst (v := 1) X dX12_every_25 (by decide) ?_
          refine g_iadd X dX12_every_26 ?_
          refine g_pfi X fa_X12_183 rfl (by decide +kernel) rfl dX12_every_27 (fun M4 => ?_)
          refine g_aload_n X dX12_every_30 rfl 0 rfl ?_
          refine g_iload_n X dX12_every_31 rfl 1 rfl ?_
          refine g_bVi (As := [.int x1]) (rest := []) X (c_X12_compared l K d un sm hun hsm M4 x1) lk_X12_241 rfl rfl rfl (Nat.le_of_ble_eq_true rfl) ⟨by dsimp only; omega, by dsimp only; omega⟩ ⟨Nat.zero_le _, Nat.zero_le _⟩ dX12_every_32 (fun r5 => ?_)
          refine g_isn X (fun v6 => [(2, .int v6), (0, .ref 5001), (1, .int x1)]) dX12_every_35 rfl (by decide) (fun _ => rfl) (fun v6 => ?_)
          refine g_iload_n X dX12_every_36 rfl 0 rfl ?_
          refine g_if_eq X 6 dX12_every_37 rfl (fun h7 => ?_) (fun h7 => ?_)
          · exact g_sub [1, 2, 0] rfl (ih x1 v6 r5.2)
          · refine g_aload_n X dX12_every_40 rfl 1 rfl ?_
            refine g_bipush (v := 38) X dX12_every_41 (by decide) ?_
            refine g_bSi (As := [.int 38]) (rest := [.ref 5001]) X (c_X12_act l K r5.2 38) lk_X12_226 rfl rfl (Nat.le_of_ble_eq_true rfl) ⟨by dsimp only; omega, by dsimp only; omega⟩ ⟨Nat.zero_le _, Nat.zero_le _⟩ dX12_every_43 (fun r8 => ?_)
            refine g_bVv (As := [.int r8]) (rest := []) X (c_X12_marks l K r5.2 r8) lk_X12_206 rfl rfl rfl (Nat.le_of_ble_eq_true rfl) ⟨by dsimp only; omega, by dsimp only; omega⟩ ⟨Nat.zero_le _, Nat.zero_le _⟩ dX12_every_46 (fun r9 => ?_)
            refine g_goto X 6 dX12_every_49 rfl ?_
            exact g_sub [1, 2, 0] rfl (ih x1 v6 r9)
  refine g_sub (lv' := [(0, .ref 5001), (1, .int a1)]) [0, 1] rfl ?_
  unfold f_X12_every
  refine g_aload_n X dX12_every_0 rfl 0 rfl ?_
  refine g_iload_n X dX12_every_1 rfl 1 rfl ?_
  refine g_bVi (As := [.int a1]) (rest := []) X (c_X12_compared l K d un sm hun hsm M0 a1) lk_X12_241 rfl rfl rfl (Nat.le_of_ble_eq_true rfl) ⟨by dsimp only; omega, by dsimp only; omega⟩ ⟨Nat.zero_le _, Nat.zero_le _⟩ dX12_every_2 (fun r10 => ?_)
  refine g_isn X (fun v11 => [(2, .int v11), (0, .ref 5001), (1, .int a1)]) dX12_every_5 rfl (by decide) (fun _ => rfl) (fun v11 => ?_)
  exact g_sub [1, 2, 0] rfl (hb_6 q_fu a1 v11 r10.2)
set_option maxHeartbeats 4000000 in
set_option maxRecDepth 100000 in
theorem c_X12_some (l : Launch) (K : q_KK) (d : Nat) (un : (q_MM → Int32 → Option (Int32 × q_MM))) (sm : (q_MM → Int32 → Option (Int32 × q_MM))) (hun : ∀ (M : q_MM) (a1 : Int32) (res : Int32 × q_MM), un M a1 = some res → Mt l yX12_unary cX12_unary 4 (some FieldType.boolean) (7 * d + 20) (210 * d + 600) 0 0 false K [.ref 5001, .int a1] (qTM, qLM, qPM, M) (some (.int res.1)) ((qTM, qLM, qPM, res.2))) (hsm : ∀ (M : q_MM) (a1 : Int32) (res : Int32 × q_MM), sm M a1 = some res → Mt l yX12_some cX12_some 3 (some FieldType.boolean) (7 * d + 25) (210 * d + 750) 0 0 false K [.ref 5001, .int a1] (qTM, qLM, qPM, M) (some (.int res.1)) ((qTM, qLM, qPM, res.2))) (M0 : q_MM) (a1 : Int32) : ∀ res, f_X12_some un sm M0 a1 = some res → Mt l yX12_some cX12_some 3 (some FieldType.boolean) (7 * (d + 1) + 25) (210 * (d + 1) + 750) 0 0 false K [.ref 5001, .int a1] (qTM, qLM, qPM, M0) (some (.int res.1)) ((qTM, qLM, qPM, res.2)) := by
  refine Mt.of (fun (res : Int32 × q_MM) => some (.int res.1)) (fun (res : Int32 × q_MM) => (qTM, qLM, qPM, res.2)) (by decide) (Nat.le_of_ble_eq_true rfl) ?_
  intro p e s m args below meth c0 A ad X hN
  have hb_52 : ∀ (x2 : Int32) (M : q_MM), GG p l e { frames := (7 * (d + 1) + 25), cells := 0, slots := 0, locals := (210 * (d + 1) + 750) } s m args below meth c0 K A (qTM, qLM, qPM, M0) ad false 3 (fun res => MQ below (q_Qc K false ad (qTM, qLM, qPM, M0) ((fun (res : Int32 × q_MM) => some (.int res.1)) res) ((fun (res : Int32 × q_MM) => (qTM, qLM, qPM, res.2)) res) A) args s 0 0 A) (b_X12_some_52 un sm x2 M) 52 [(2, .int x2)] [] (qTM, qLM, qPM, M) 0 0 := by
    intro x2 M
    unfold b_X12_some_52
    refine g_iload_n X dX12_some_52 rfl 0 rfl ?_
    exact g_zret X rfl rfl rfl dX12_some_53
  have hb_6 : ∀ (nf : Nat) (x1 : Int32) (x2 : Int32) (M : q_MM), GG p l e { frames := (7 * (d + 1) + 25), cells := 0, slots := 0, locals := (210 * (d + 1) + 750) } s m args below meth c0 K A (qTM, qLM, qPM, M0) ad false 3 (fun res => MQ below (q_Qc K false ad (qTM, qLM, qPM, M0) ((fun (res : Int32 × q_MM) => some (.int res.1)) res) ((fun (res : Int32 × q_MM) => (qTM, qLM, qPM, res.2)) res) A) args s 0 0 A) (b_X12_some_6 un sm nf x1 x2 M) 6 [(0, .ref 5001), (1, .int x1), (2, .int x2)] [] (qTM, qLM, qPM, M) 0 0 := by
    intro  nf
    induction nf with
    | zero => intros; exact g_stop
    | succ nf ih =>
      intro x1 x2 M
      rw [b_X12_some_6]
      refine g_iload_n X dX12_some_6 rfl 2 rfl ?_
      refine g_if_eq X 52 dX12_some_7 rfl (fun h1 => ?_) (fun h1 => ?_)
      · exact g_sub [2] rfl (hb_52 x2 M)
      · refine g_aload_n X dX12_some_10 rfl 0 rfl ?_
        refine g_iload_n X dX12_some_11 rfl 1 rfl ?_
        refine g_bipush (v := 124) X dX12_some_12 (by decide) ?_
        refine g_bVi (As := [.int x1, .int 124]) (rest := []) X (c_X12_isSign l K M x1 124) lk_X12_211 rfl rfl rfl (Nat.le_of_ble_eq_true rfl) ⟨by dsimp only; omega, by dsimp only; omega⟩ ⟨Nat.zero_le _, Nat.zero_le _⟩ dX12_some_14 (fun r2 => ?_)
        refine g_if_eq X 52 dX12_some_17 rfl (fun h3 => ?_) (fun h3 => ?_)
        · exact g_sub [2] rfl (hb_52 x2 M)
        · refine g_aload_n X dX12_some_20 rfl 0 rfl ?_
          refine g_dup X dX12_some_21 rfl ?_
          refine g_geti X fa_X12_183 rfl dX12_some_22 ?_
          refine g_iconst (v := 1) X dX12_some_25 (by decide) ?_
          refine g_iadd X dX12_some_26 ?_
          refine g_pfi X fa_X12_183 rfl (by decide +kernel) rfl dX12_some_27 (fun M4 => ?_)
          refine g_aload_n X dX12_some_30 rfl 0 rfl ?_
          refine g_iload_n X dX12_some_31 rfl 1 rfl ?_
          refine g_bVi (As := [.int x1]) (rest := []) X (c_X12_every l K d un sm hun hsm M4 x1) lk_X12_244 rfl rfl rfl (Nat.le_of_ble_eq_true rfl) ⟨by dsimp only; omega, by dsimp only; omega⟩ ⟨Nat.zero_le _, Nat.zero_le _⟩ dX12_some_32 (fun r5 => ?_)
          refine g_isn X (fun v6 => [(2, .int v6), (0, .ref 5001), (1, .int x1)]) dX12_some_35 rfl (by decide) (fun _ => rfl) (fun v6 => ?_)
          refine g_iload_n X dX12_some_36 rfl 0 rfl ?_
          refine g_if_eq X 6 dX12_some_37 rfl (fun h7 => ?_) (fun h7 => ?_)
          · exact g_sub [1, 2, 0] rfl (ih x1 v6 r5.2)
          · refine g_aload_n X dX12_some_40 rfl 1 rfl ?_
            refine g_bipush (v := 124) X dX12_some_41 (by decide) ?_
            refine g_bSi (As := [.int 124]) (rest := [.ref 5001]) X (c_X12_act l K r5.2 124) lk_X12_226 rfl rfl (Nat.le_of_ble_eq_true rfl) ⟨by dsimp only; omega, by dsimp only; omega⟩ ⟨Nat.zero_le _, Nat.zero_le _⟩ dX12_some_43 (fun r8 => ?_)
            refine g_bVv (As := [.int r8]) (rest := []) X (c_X12_marks l K r5.2 r8) lk_X12_206 rfl rfl rfl (Nat.le_of_ble_eq_true rfl) ⟨by dsimp only; omega, by dsimp only; omega⟩ ⟨Nat.zero_le _, Nat.zero_le _⟩ dX12_some_46 (fun r9 => ?_)
            refine g_goto X 6 dX12_some_49 rfl ?_
            exact g_sub [1, 2, 0] rfl (ih x1 v6 r9)
  refine g_sub (lv' := [(0, .ref 5001), (1, .int a1)]) [0, 1] rfl ?_
  unfold f_X12_some
  refine g_aload_n X dX12_some_0 rfl 0 rfl ?_
  refine g_iload_n X dX12_some_1 rfl 1 rfl ?_
  refine g_bVi (As := [.int a1]) (rest := []) X (c_X12_every l K d un sm hun hsm M0 a1) lk_X12_244 rfl rfl rfl (Nat.le_of_ble_eq_true rfl) ⟨by dsimp only; omega, by dsimp only; omega⟩ ⟨Nat.zero_le _, Nat.zero_le _⟩ dX12_some_2 (fun r10 => ?_)
  refine g_isn X (fun v11 => [(2, .int v11), (0, .ref 5001), (1, .int a1)]) dX12_some_5 rfl (by decide) (fun _ => rfl) (fun v11 => ?_)
  exact g_sub [1, 2, 0] rfl (hb_6 q_fu a1 v11 r10.2)
theorem c_q_rec (l : Launch) (K : q_KK) : ∀ d : Nat, (∀ (M : q_MM) (a1 : Int32) (res : Int32 × q_MM), (q_rec d).1 M a1 = some res → Mt l yX12_unary cX12_unary 4 (some FieldType.boolean) (7 * d + 20) (210 * d + 600) 0 0 false K [.ref 5001, .int a1] (qTM, qLM, qPM, M) (some (.int res.1)) ((qTM, qLM, qPM, res.2))) ∧ (∀ (M : q_MM) (a1 : Int32) (res : Int32 × q_MM), (q_rec d).2 M a1 = some res → Mt l yX12_some cX12_some 3 (some FieldType.boolean) (7 * d + 25) (210 * d + 750) 0 0 false K [.ref 5001, .int a1] (qTM, qLM, qPM, M) (some (.int res.1)) ((qTM, qLM, qPM, res.2)))
  | 0 => ⟨fun _ _ _ h => (by cases h), fun _ _ _ h => (by cases h)⟩
  | d + 1 => ⟨c_X12_unary l K d _ _ (c_q_rec l K d).1 (c_q_rec l K d).2, c_X12_some l K d _ _ (c_q_rec l K d).1 (c_q_rec l K d).2⟩
set_option maxHeartbeats 4000000 in
set_option maxRecDepth 100000 in
theorem c_X12_all (l : Launch) (K : q_KK) (M0 : q_MM) (a1 : Int32) : ∀ res, f_X12_all M0 a1 = some res → Mt l yX12_all cX12_all 3 (some FieldType.boolean) 726 21772 0 0 false K [.ref 5001, .int a1] (qTM, qLM, qPM, M0) (some (.int res.1)) ((qTM, qLM, qPM, res.2)) := by
  refine Mt.of (fun (res : Int32 × q_MM) => some (.int res.1)) (fun (res : Int32 × q_MM) => (qTM, qLM, qPM, res.2)) (by decide) (Nat.le_of_ble_eq_true rfl) ?_
  intro p e s m args below meth c0 A ad X hN
  have hb_46 : ∀ (x1 : Int32) (x2 : Int32) (M : q_MM), GG p l e { frames := 726, cells := 0, slots := 0, locals := 21772 } s m args below meth c0 K A (qTM, qLM, qPM, M0) ad false 3 (fun res => MQ below (q_Qc K false ad (qTM, qLM, qPM, M0) ((fun (res : Int32 × q_MM) => some (.int res.1)) res) ((fun (res : Int32 × q_MM) => (qTM, qLM, qPM, res.2)) res) A) args s 0 0 A) (b_X12_all_46 x1 x2 M) 46 [(0, .ref 5001), (1, .int x1), (2, .int x2)] [] (qTM, qLM, qPM, M) 0 0 := by
    intro x1 x2 M
    unfold b_X12_all_46
    refine g_iload_n X dX12_all_46 rfl 2 rfl ?_
    refine g_if_eq X 62 dX12_all_47 rfl (fun h1 => ?_) (fun h1 => ?_)
    · refine g_iconst (v := 0) X dX12_all_62 (by decide) ?_
      exact g_zret X rfl rfl rfl dX12_all_63
    · refine g_aload_n X dX12_all_50 rfl 0 rfl ?_
      refine g_geti X fa_X12_183 rfl dX12_all_51 ?_
      refine g_iload_n X dX12_all_54 rfl 1 rfl ?_
      refine g_icmp_ne X 62 dX12_all_55 rfl (fun h2 => ?_) (fun h2 => ?_)
      · refine g_iconst (v := 1) X dX12_all_58 (by decide) ?_
        refine g_goto X 63 dX12_all_59 rfl ?_
        exact g_zret X rfl rfl rfl dX12_all_63
      · refine g_iconst (v := 0) X dX12_all_62 (by decide) ?_
        exact g_zret X rfl rfl rfl dX12_all_63
  have hb_6 : ∀ (nf : Nat) (x1 : Int32) (x2 : Int32) (M : q_MM), GG p l e { frames := 726, cells := 0, slots := 0, locals := 21772 } s m args below meth c0 K A (qTM, qLM, qPM, M0) ad false 3 (fun res => MQ below (q_Qc K false ad (qTM, qLM, qPM, M0) ((fun (res : Int32 × q_MM) => some (.int res.1)) res) ((fun (res : Int32 × q_MM) => (qTM, qLM, qPM, res.2)) res) A) args s 0 0 A) (b_X12_all_6 nf x1 x2 M) 6 [(0, .ref 5001), (1, .int x1), (2, .int x2)] [] (qTM, qLM, qPM, M) 0 0 := by
    intro  nf
    induction nf with
    | zero => intros; exact g_stop
    | succ nf ih =>
      intro x1 x2 M
      rw [b_X12_all_6]
      refine g_iload_n X dX12_all_6 rfl 2 rfl ?_
      refine g_if_eq X 46 dX12_all_7 rfl (fun h3 => ?_) (fun h3 => ?_)
      · exact g_sub [0, 1, 2] rfl (hb_46 x1 x2 M)
      · refine g_aload_n X dX12_all_10 rfl 0 rfl ?_
        refine g_iload_n X dX12_all_11 rfl 1 rfl ?_
        refine g_bipush (v := 59) X dX12_all_12 (by decide) ?_
        refine g_bVi (As := [.int x1, .int 59]) (rest := []) X (c_X12_isSign l K M x1 59) lk_X12_211 rfl rfl rfl (Nat.le_of_ble_eq_true rfl) ⟨Nat.le_of_ble_eq_true rfl, Nat.le_of_ble_eq_true rfl⟩ ⟨Nat.zero_le _, Nat.zero_le _⟩ dX12_all_14 (fun r4 => ?_)
        refine g_if_eq X 46 dX12_all_17 rfl (fun h5 => ?_) (fun h5 => ?_)
        · exact g_sub [0, 1, 2] rfl (hb_46 x1 x2 M)
        · refine g_aload_n X dX12_all_20 rfl 0 rfl ?_
          refine g_dup X dX12_all_21 rfl ?_
          refine g_geti X fa_X12_183 rfl dX12_all_22 ?_
          refine g_iconst (v := 1) X dX12_all_25 (by decide) ?_
          refine g_iadd X dX12_all_26 ?_
          refine g_pfi X fa_X12_183 rfl (by decide +kernel) rfl dX12_all_27 (fun M6 => ?_)
          refine g_aload_n X dX12_all_30 rfl 0 rfl ?_
          refine g_sipush (v := (-300)) X dX12_all_31 (by decide) ?_
          refine g_bVv (As := [.int (-300)]) (rest := []) X (c_X12_marks l K M6 (-300)) lk_X12_206 rfl rfl rfl (Nat.le_of_ble_eq_true rfl) ⟨Nat.le_of_ble_eq_true rfl, Nat.le_of_ble_eq_true rfl⟩ ⟨Nat.zero_le _, Nat.zero_le _⟩ dX12_all_34 (fun r7 => ?_)
          refine g_aload_n X dX12_all_37 rfl 0 rfl ?_
          refine g_iload_n X dX12_all_38 rfl 1 rfl ?_
          refine g_bVi (As := [.int x1]) (rest := []) X ((c_q_rec l K 100).2 r7 x1) lk_X12_215 rfl rfl rfl (Nat.le_of_ble_eq_true rfl) ⟨Nat.le_of_ble_eq_true rfl, Nat.le_of_ble_eq_true rfl⟩ ⟨Nat.zero_le _, Nat.zero_le _⟩ dX12_all_39 (fun r8 => ?_)
          refine g_isn X (fun v9 => [(2, .int v9), (0, .ref 5001), (1, .int x1)]) dX12_all_42 rfl (by decide) (fun _ => rfl) (fun v9 => ?_)
          refine g_goto X 6 dX12_all_43 rfl ?_
          exact g_sub [1, 2, 0] rfl (ih x1 v9 r8.2)
  refine g_sub (lv' := [(0, .ref 5001), (1, .int a1)]) [0, 1] rfl ?_
  unfold f_X12_all
  refine g_aload_n X dX12_all_0 rfl 0 rfl ?_
  refine g_iload_n X dX12_all_1 rfl 1 rfl ?_
  refine g_bVi (As := [.int a1]) (rest := []) X ((c_q_rec l K 100).2 M0 a1) lk_X12_215 rfl rfl rfl (Nat.le_of_ble_eq_true rfl) ⟨Nat.le_of_ble_eq_true rfl, Nat.le_of_ble_eq_true rfl⟩ ⟨Nat.zero_le _, Nat.zero_le _⟩ dX12_all_2 (fun r10 => ?_)
  refine g_isn X (fun v11 => [(2, .int v11), (0, .ref 5001), (1, .int a1)]) dX12_all_5 rfl (by decide) (fun _ => rfl) (fun v11 => ?_)
  exact g_sub [1, 2, 0] rfl (hb_6 q_fu a1 v11 r10.2)
set_option maxHeartbeats 4000000 in
set_option maxRecDepth 100000 in
theorem c_X12_term (l : Launch) (K : q_KK) (M0 : q_MM) (a1 : Int32) (a2 : Int32) : ∀ res, f_X12_term M0 a1 a2 = some res → Mt l yX12_term cX12_term 5 (some FieldType.int) 727 21794 0 0 false K [.ref 5001, .int a1, .int a2] (qTM, qLM, qPM, M0) (some (.int res.1)) ((qTM, qLM, qPM, res.2)) := by
  refine Mt.of (fun (res : Int32 × q_MM) => some (.int res.1)) (fun (res : Int32 × q_MM) => (qTM, qLM, qPM, res.2)) (by decide) (Nat.le_of_ble_eq_true rfl) ?_
  intro p e s m args below meth c0 A ad X hN
  have hb_105 : ∀ (x1 : Int32) (x2 : Int32) (x4 : Int32) (M : q_MM), GG p l e { frames := 727, cells := 0, slots := 0, locals := 21794 } s m args below meth c0 K A (qTM, qLM, qPM, M0) ad false 5 (fun res => MQ below (q_Qc K false ad (qTM, qLM, qPM, M0) ((fun (res : Int32 × q_MM) => some (.int res.1)) res) ((fun (res : Int32 × q_MM) => (qTM, qLM, qPM, res.2)) res) A) args s 0 0 A) (b_X12_term_105 x1 x2 x4 M) 105 [(0, .ref 5001), (1, .int x1), (2, .int x2), (4, .int x4)] [] (qTM, qLM, qPM, M) 0 0 := by
    intro x1 x2 x4 M
    unfold b_X12_term_105
    refine g_iload X dX12_term_105 3 rfl ?_
    refine g_if_ne X 117 dX12_term_107 rfl (fun h1 => ?_) (fun h1 => ?_)
    · refine g_iconst (v := (-1)) X dX12_term_110 (by decide) ?_
      refine g_aload_n X dX12_term_111 rfl 0 rfl ?_
      refine g_geti X fa_X12_183 rfl dX12_term_112 ?_
      refine g_isub X dX12_term_115 ?_
      exact g_iret X rfl rfl rfl dX12_term_116
    · refine g_aload_n X dX12_term_117 rfl 0 rfl ?_
      refine g_getr X fa_X12_253 rfl rfl dX12_term_118 ?_
      refine g_aload_n X dX12_term_121 rfl 0 rfl ?_
      refine g_geti X fa_X12_247 rfl dX12_term_122 ?_
      refine g_iload_n X dX12_term_125 rfl 1 rfl ?_
      refine g_isv X rfl rfl dX12_term_126 (fun M2 => ?_)
      refine g_aload_n X dX12_term_127 rfl 0 rfl ?_
      refine g_getr X fa_X12_256 rfl rfl dX12_term_128 ?_
      refine g_aload_n X dX12_term_131 rfl 0 rfl ?_
      refine g_geti X fa_X12_247 rfl dX12_term_132 ?_
      refine g_iload_n X dX12_term_135 rfl 2 rfl ?_
      refine g_isv X rfl rfl dX12_term_136 (fun M3 => ?_)
      refine g_aload_n X dX12_term_137 rfl 0 rfl ?_
      refine g_dup X dX12_term_138 rfl ?_
      refine g_geti X fa_X12_247 rfl dX12_term_139 ?_
      refine g_iconst (v := 1) X dX12_term_142 (by decide) ?_
      refine g_iadd X dX12_term_143 ?_
      refine g_pfi X fa_X12_247 rfl (by decide +kernel) rfl dX12_term_144 (fun M4 => ?_)
      refine g_aload_n X dX12_term_147 rfl 0 rfl ?_
      refine g_geti X fa_X12_247 rfl dX12_term_148 ?_
      refine g_iconst (v := 1) X dX12_term_151 (by decide) ?_
      refine g_isub X dX12_term_152 ?_
      exact g_iret X rfl rfl rfl dX12_term_153
  refine g_sub (lv' := [(0, .ref 5001), (1, .int a1), (2, .int a2)]) [0, 1, 2] rfl ?_
  unfold f_X12_term
  refine g_aload_n X dX12_term_0 rfl 0 rfl ?_
  refine g_iconst (v := 0) X dX12_term_1 (by decide) ?_
  refine g_pfi X fa_X12_1 rfl (by decide +kernel) rfl dX12_term_2 (fun M5 => ?_)
  refine g_aload_n X dX12_term_5 rfl 0 rfl ?_
  refine g_geti X fa_X12_177 rfl dX12_term_6 ?_
  refine g_isn X (fun v6 => [(3, .int v6), (0, .ref 5001), (1, .int a1), (2, .int a2)]) dX12_term_9 rfl (by decide) (fun _ => rfl) (fun v6 => ?_)
  refine g_aload_n X dX12_term_10 rfl 1 rfl ?_
  refine g_iconst (v := 0) X dX12_term_11 (by decide) ?_
  refine g_pfi X fa_X12_177 rfl (by decide +kernel) rfl dX12_term_12 (fun M7 => ?_)
  refine g_aload_n X dX12_term_15 rfl 1 rfl ?_
  refine g_iload_n X dX12_term_16 rfl 2 rfl ?_
  refine g_bVi (As := [.int a1]) (rest := []) X (c_X12_isPicture l K M7 a1) lk_X12_161 rfl rfl rfl (Nat.le_of_ble_eq_true rfl) ⟨Nat.le_of_ble_eq_true rfl, Nat.le_of_ble_eq_true rfl⟩ ⟨Nat.zero_le _, Nat.zero_le _⟩ dX12_term_17 (fun r8 => ?_)
  refine g_if_eq X 44 dX12_term_20 rfl (fun h9 => ?_) (fun h9 => ?_)
  · refine g_bipush (v := (-100)) X dX12_term_44 (by decide) ?_
    exact g_iret X rfl rfl rfl dX12_term_46
  · refine g_iload_n X dX12_term_23 rfl 3 rfl ?_
    refine g_i2l X dX12_term_24 ?_
    refine g_lconst (v := 0) X dX12_term_25 (by decide) ?_
    refine g_ldc2 (v := 400) X wc_X12_30 dX12_term_26 ?_
    refine g_bSi (As := [.long (Int32.toInt64 a2), .long 0, .long 400]) (rest := []) X (c_X12_in l K M7 (Int32.toInt64 a2) 0 400) lk_X12_17 rfl rfl (Nat.le_of_ble_eq_true rfl) ⟨Nat.le_of_ble_eq_true rfl, Nat.le_of_ble_eq_true rfl⟩ ⟨Nat.zero_le _, Nat.zero_le _⟩ dX12_term_29 (fun r10 => ?_)
    refine g_if_eq X 44 dX12_term_32 rfl (fun h11 => ?_) (fun h11 => ?_)
    · refine g_bipush (v := (-100)) X dX12_term_44 (by decide) ?_
      exact g_iret X rfl rfl rfl dX12_term_46
    · refine g_aload_n X dX12_term_35 rfl 1 rfl ?_
      refine g_geti X fa_X12_247 rfl dX12_term_36 ?_
      refine g_bipush (v := 30) X dX12_term_39 (by decide) ?_
      refine g_icmp_ne X 47 dX12_term_41 rfl (fun h12 => ?_) (fun h12 => ?_)
      · refine g_bipush (v := (-100)) X dX12_term_44 (by decide) ?_
        exact g_iret X rfl rfl rfl dX12_term_46
      · refine g_aload_n X dX12_term_47 rfl 1 rfl ?_
        refine g_aload_n X dX12_term_48 rfl 1 rfl ?_
        refine g_geti X fa_X12_247 rfl dX12_term_49 ?_
        refine g_pfi X fa_X12_194 rfl (by decide +kernel) rfl dX12_term_52 (fun M13 => ?_)
        refine g_aload_n X dX12_term_55 rfl 1 rfl ?_
        refine g_getr X fa_X12_197 rfl rfl dX12_term_56 ?_
        refine g_aload_n X dX12_term_59 rfl 1 rfl ?_
        refine g_geti X fa_X12_194 rfl dX12_term_60 ?_
        refine g_iconst (v := 0) X dX12_term_63 (by decide) ?_
        refine g_isv X rfl rfl dX12_term_64 (fun M14 => ?_)
        refine g_aload_n X dX12_term_65 rfl 1 rfl ?_
        refine g_iconst (v := 0) X dX12_term_66 (by decide) ?_
        refine g_pfi X fa_X12_183 rfl (by decide +kernel) rfl dX12_term_67 (fun M15 => ?_)
        refine g_aload_n X dX12_term_70 rfl 1 rfl ?_
        refine g_iload_n X dX12_term_71 rfl 0 rfl ?_
        refine g_bipush (v := 60) X dX12_term_72 (by decide) ?_
        refine g_mmin X lk_X12_95 (Nat.le_of_ble_eq_true rfl) ⟨Nat.le_of_ble_eq_true rfl, Nat.le_of_ble_eq_true rfl⟩ ⟨Nat.zero_le _, Nat.zero_le _⟩ dX12_term_74 ?_
        refine g_bVi (As := [.int (if 60 < v6 then 60 else v6)]) (rest := []) X (c_X12_all l K M15 (if 60 < v6 then 60 else v6)) lk_X12_250 rfl rfl rfl (Nat.le_of_ble_eq_true rfl) ⟨Nat.le_of_ble_eq_true rfl, Nat.le_of_ble_eq_true rfl⟩ ⟨Nat.zero_le _, Nat.zero_le _⟩ dX12_term_77 (fun r16 => ?_)
        refine g_is X (fun v17 => [(4, .int v17), (3, .int v6), (0, .ref 5001), (1, .int a1), (2, .int a2)]) dX12_term_80 (by decide) (fun _ => rfl) (fun v17 => ?_)
        refine g_iload_n X dX12_term_82 rfl 1 rfl ?_
        refine g_bipush (v := 60) X dX12_term_83 (by decide) ?_
        refine g_icmp_le X 105 dX12_term_85 rfl (fun h18 => ?_) (fun h18 => ?_)
        · exact g_sub [2, 3, 4, 0] rfl (hb_105 a1 a2 v17 r16.2)
        · refine g_iload X dX12_term_88 0 rfl ?_
          refine g_if_ne X 102 dX12_term_90 rfl (fun h19 => ?_) (fun h19 => ?_)
          · refine g_aload_n X dX12_term_93 rfl 2 rfl ?_
            refine g_geti X fa_X12_183 rfl dX12_term_94 ?_
            refine g_bipush (v := 60) X dX12_term_97 (by decide) ?_
            refine g_icmp_lt X 105 dX12_term_99 rfl (fun h20 => ?_) (fun h20 => ?_)
            · exact g_sub [2, 3, 4, 0] rfl (hb_105 a1 a2 v17 r16.2)
            · refine g_bipush (v := (-61)) X dX12_term_102 (by decide) ?_
              exact g_iret X rfl rfl rfl dX12_term_104
          · refine g_bipush (v := (-61)) X dX12_term_102 (by decide) ?_
            exact g_iret X rfl rfl rfl dX12_term_104
set_option maxHeartbeats 4000000 in
set_option maxRecDepth 100000 in
theorem c_X12_inForce (l : Launch) (K : q_KK) (M : q_MM) (a1 : Int32) : ∀ res, f_X12_inForce M a1 = some res → Mt l yX12_inForce cX12_inForce 4 (some FieldType.int) 0 0 0 0 false K [.ref 5001, .int a1] (qTM, qLM, qPM, M) (some (.int res)) ((qTM, qLM, qPM, M)) := by
  refine Mt.of (fun (res : Int32) => some (.int res)) (fun (_ : Int32) => (qTM, qLM, qPM, M)) (by decide) (Nat.le_of_ble_eq_true rfl) ?_
  intro p e s m args below meth c0 A ad X hN
  have hb_56 : ∀ (k4 : Int32 → Int32 → Int32 → Option (Int32)) (hk4 : ∀ (x1 : Int32) (x2 : Int32) (x3 : Int32), GG p l e { frames := 0, cells := 0, slots := 0, locals := 0 } s m args below meth c0 K A (qTM, qLM, qPM, M) ad false 4 (fun res => MQ below (q_Qc K false ad (qTM, qLM, qPM, M) ((fun (res : Int32) => some (.int res)) res) ((fun (_ : Int32) => (qTM, qLM, qPM, M)) res) A) args s 0 0 A) (k4 x1 x2 x3) 4 [(0, .ref 5001), (1, .int x1), (2, .int x2), (3, .int x3)] [] (qTM, qLM, qPM, M) 0 0) (x1 : Int32) (x2 : Int32) (x3 : Int32), GG p l e { frames := 0, cells := 0, slots := 0, locals := 0 } s m args below meth c0 K A (qTM, qLM, qPM, M) ad false 4 (fun res => MQ below (q_Qc K false ad (qTM, qLM, qPM, M) ((fun (res : Int32) => some (.int res)) res) ((fun (_ : Int32) => (qTM, qLM, qPM, M)) res) A) args s 0 0 A) (b_X12_inForce_56 M k4 x1 x2 x3) 56 [(0, .ref 5001), (1, .int x1), (2, .int x2), (3, .int x3)] [] (qTM, qLM, qPM, M) 0 0 := by
    intro k4 hk4 x1 x2 x3
    unfold b_X12_inForce_56
    refine g_iinc (v := 1) X [(3, .int (x3 + 1)), (0, .ref 5001), (1, .int x1), (2, .int x2)] 3 dX12_inForce_56 rfl (by decide) (by decide) rfl ?_
    refine g_goto X 4 dX12_inForce_59 rfl ?_
    exact g_sub [1, 2, 3, 0] rfl (hk4 x1 x2 (x3 + 1))
  have hb_54 : ∀ (k4 : Int32 → Int32 → Int32 → Option (Int32)) (hk4 : ∀ (x1 : Int32) (x2 : Int32) (x3 : Int32), GG p l e { frames := 0, cells := 0, slots := 0, locals := 0 } s m args below meth c0 K A (qTM, qLM, qPM, M) ad false 4 (fun res => MQ below (q_Qc K false ad (qTM, qLM, qPM, M) ((fun (res : Int32) => some (.int res)) res) ((fun (_ : Int32) => (qTM, qLM, qPM, M)) res) A) args s 0 0 A) (k4 x1 x2 x3) 4 [(0, .ref 5001), (1, .int x1), (2, .int x2), (3, .int x3)] [] (qTM, qLM, qPM, M) 0 0) (x1 : Int32) (x3 : Int32), GG p l e { frames := 0, cells := 0, slots := 0, locals := 0 } s m args below meth c0 K A (qTM, qLM, qPM, M) ad false 4 (fun res => MQ below (q_Qc K false ad (qTM, qLM, qPM, M) ((fun (res : Int32) => some (.int res)) res) ((fun (_ : Int32) => (qTM, qLM, qPM, M)) res) A) args s 0 0 A) (b_X12_inForce_54 M k4 x1 x3) 54 [(0, .ref 5001), (1, .int x1), (3, .int x3)] [] (qTM, qLM, qPM, M) 0 0 := by
    intro k4 hk4 x1 x3
    unfold b_X12_inForce_54
    refine g_iload_n X dX12_inForce_54 rfl 2 rfl ?_
    refine g_istore_n X [(2, .int x3), (0, .ref 5001), (1, .int x1), (3, .int x3)] dX12_inForce_55 rfl (by decide) rfl ?_
    exact g_sub [1, 2, 0, 3] rfl (hb_56 k4 hk4 x1 x3 x3)
  have hb_4 : ∀ (nf : Nat) (x1 : Int32) (x2 : Int32) (x3 : Int32), GG p l e { frames := 0, cells := 0, slots := 0, locals := 0 } s m args below meth c0 K A (qTM, qLM, qPM, M) ad false 4 (fun res => MQ below (q_Qc K false ad (qTM, qLM, qPM, M) ((fun (res : Int32) => some (.int res)) res) ((fun (_ : Int32) => (qTM, qLM, qPM, M)) res) A) args s 0 0 A) (b_X12_inForce_4 M nf x1 x2 x3) 4 [(0, .ref 5001), (1, .int x1), (2, .int x2), (3, .int x3)] [] (qTM, qLM, qPM, M) 0 0 := by
    intro  nf
    induction nf with
    | zero => intros; exact g_stop
    | succ nf ih =>
      intro x1 x2 x3
      rw [b_X12_inForce_4]
      refine g_iload_n X dX12_inForce_4 rfl 3 rfl ?_
      refine g_aload_n X dX12_inForce_5 rfl 0 rfl ?_
      refine g_geti X fa_X12_247 rfl dX12_inForce_6 ?_
      refine g_icmp_ge X 62 dX12_inForce_9 rfl (fun h1 => ?_) (fun h1 => ?_)
      · refine g_iload_n X dX12_inForce_62 rfl 2 rfl ?_
        exact g_iret X rfl rfl rfl dX12_inForce_63
      · refine g_aload_n X dX12_inForce_12 rfl 0 rfl ?_
        refine g_getr X fa_X12_253 rfl rfl dX12_inForce_13 ?_
        refine g_iload_n X dX12_inForce_16 rfl 3 rfl ?_
        refine g_ild X rfl rfl dX12_inForce_17 (fun v2 => ?_)
        refine g_iload_n X dX12_inForce_18 rfl 1 rfl ?_
        refine g_icmp_ne X 56 dX12_inForce_19 rfl (fun h3 => ?_) (fun h3 => ?_)
        · refine g_aload_n X dX12_inForce_22 rfl 0 rfl ?_
          refine g_getr X fa_X12_256 rfl rfl dX12_inForce_23 ?_
          refine g_iload_n X dX12_inForce_26 rfl 3 rfl ?_
          refine g_ild X rfl rfl dX12_inForce_27 (fun v4 => ?_)
          refine g_aload_n X dX12_inForce_28 rfl 0 rfl ?_
          refine g_geti X fa_X12_259 rfl dX12_inForce_29 ?_
          refine g_icmp_gt X 56 dX12_inForce_32 rfl (fun h5 => ?_) (fun h5 => ?_)
          · exact g_sub [0, 1, 2, 3] rfl (hb_56 (b_X12_inForce_4 M nf) ih x1 x2 x3)
          · refine g_iload_n X dX12_inForce_35 rfl 2 rfl ?_
            refine g_if_lt X 54 dX12_inForce_36 rfl (fun h6 => ?_) (fun h6 => ?_)
            · exact g_sub [0, 1, 3] rfl (hb_54 (b_X12_inForce_4 M nf) ih x1 x3)
            · refine g_aload_n X dX12_inForce_39 rfl 0 rfl ?_
              refine g_getr X fa_X12_256 rfl rfl dX12_inForce_40 ?_
              refine g_iload_n X dX12_inForce_43 rfl 3 rfl ?_
              refine g_ild X rfl rfl dX12_inForce_44 (fun v7 => ?_)
              refine g_aload_n X dX12_inForce_45 rfl 0 rfl ?_
              refine g_getr X fa_X12_256 rfl rfl dX12_inForce_46 ?_
              refine g_iload_n X dX12_inForce_49 rfl 2 rfl ?_
              refine g_ild X rfl rfl dX12_inForce_50 (fun v8 => ?_)
              refine g_icmp_lt X 56 dX12_inForce_51 rfl (fun h9 => ?_) (fun h9 => ?_)
              · exact g_sub [0, 1, 2, 3] rfl (hb_56 (b_X12_inForce_4 M nf) ih x1 x2 x3)
              · exact g_sub [0, 1, 3] rfl (hb_54 (b_X12_inForce_4 M nf) ih x1 x3)
        · exact g_sub [0, 1, 2, 3] rfl (hb_56 (b_X12_inForce_4 M nf) ih x1 x2 x3)
  refine g_sub (lv' := [(0, .ref 5001), (1, .int a1)]) [0, 1] rfl ?_
  unfold f_X12_inForce
  refine g_iconst (v := (-1)) X dX12_inForce_0 (by decide) ?_
  refine g_istore_n X [(2, .int (-1)), (0, .ref 5001), (1, .int a1)] dX12_inForce_1 rfl (by decide) rfl ?_
  refine g_iconst (v := 0) X dX12_inForce_2 (by decide) ?_
  refine g_istore_n X [(3, .int 0), (2, .int (-1)), (0, .ref 5001), (1, .int a1)] dX12_inForce_3 rfl (by decide) rfl ?_
  exact g_sub [2, 3, 1, 0] rfl (hb_4 q_fu a1 (-1) 0)
