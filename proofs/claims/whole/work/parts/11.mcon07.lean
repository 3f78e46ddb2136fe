set_option maxHeartbeats 4000000 in
set_option maxRecDepth 100000 in
theorem c_X12_sight (l : Launch) (K : q_KK) (M0 : q_MM) (a1 : Int32) (a2 : Int32) : ∀ res, f_X12_sight M0 a1 a2 = some res → Mt l yX12_sight cX12_sight 3 (some FieldType.boolean) 2 46 0 0 false K [.ref 5001, .int a1, .int a2] (qTM, qLM, qPM, M0) (some (.int res.1)) ((qTM, qLM, qPM, res.2)) := by
  refine Mt.of (fun (res : Int32 × q_MM) => some (.int res.1)) (fun (res : Int32 × q_MM) => (qTM, qLM, qPM, res.2)) (by decide) (Nat.le_of_ble_eq_true rfl) ?_
  intro p e s m args below meth c0 A ad X hN
  refine g_sub (lv' := [(0, .ref 5001), (1, .int a1), (2, .int a2)]) [0, 1, 2] rfl ?_
  unfold f_X12_sight
  refine g_aload_n X dX12_sight_0 rfl 0 rfl ?_
  refine g_iconst (v := 0) X dX12_sight_1 (by decide) ?_
  refine g_pfi X fa_X12_1 rfl (by decide +kernel) rfl dX12_sight_2 (fun M1 => ?_)
  refine g_aload_n X dX12_sight_5 rfl 0 rfl ?_
  refine g_iload_n X dX12_sight_6 rfl 1 rfl ?_
  refine g_bVi (As := [.int a1]) (rest := []) X (c_X12_isRoom l K M1 a1) lk_X12_24 rfl rfl rfl (Nat.le_of_ble_eq_true rfl) ⟨Nat.le_of_ble_eq_true rfl, Nat.le_of_ble_eq_true rfl⟩ ⟨Nat.zero_le _, Nat.zero_le _⟩ dX12_sight_7 (fun r2 => ?_)
  refine g_if_eq X 31 dX12_sight_10 rfl (fun h3 => ?_) (fun h3 => ?_)
  · refine g_iconst (v := 0) X dX12_sight_31 (by decide) ?_
    exact g_zret X rfl rfl rfl dX12_sight_32
  · refine g_aload_n X dX12_sight_13 rfl 0 rfl ?_
    refine g_iload_n X dX12_sight_14 rfl 2 rfl ?_
    refine g_bVi (As := [.int a2]) (rest := []) X (c_X12_isWall l K M1 a2) lk_X12_90 rfl rfl rfl (Nat.le_of_ble_eq_true rfl) ⟨Nat.le_of_ble_eq_true rfl, Nat.le_of_ble_eq_true rfl⟩ ⟨Nat.zero_le _, Nat.zero_le _⟩ dX12_sight_15 (fun r4 => ?_)
    refine g_if_eq X 31 dX12_sight_18 rfl (fun h5 => ?_) (fun h5 => ?_)
    · refine g_iconst (v := 0) X dX12_sight_31 (by decide) ?_
      exact g_zret X rfl rfl rfl dX12_sight_32
    · refine g_aload_n X dX12_sight_21 rfl 0 rfl ?_
      refine g_getr X fa_X12_57 rfl rfl dX12_sight_22 ?_
      refine g_iload_n X dX12_sight_25 rfl 2 rfl ?_
      refine g_ild X rfl rfl dX12_sight_26 (fun v6 => ?_)
      refine g_iload_n X dX12_sight_27 rfl 1 rfl ?_
      refine g_icmp_ne X 33 dX12_sight_28 rfl (fun h7 => ?_) (fun h7 => ?_)
      · refine g_iconst (v := 0) X dX12_sight_31 (by decide) ?_
        exact g_zret X rfl rfl rfl dX12_sight_32
      · refine g_aload_n X dX12_sight_33 rfl 0 rfl ?_
        refine g_getr X fa_X12_502 rfl rfl dX12_sight_34 ?_
        refine g_bipush (v := 16) X dX12_sight_37 (by decide) ?_
        refine g_iload_n X dX12_sight_39 rfl 1 rfl ?_
        refine g_imul X dX12_sight_40 ?_
        refine g_iload_n X dX12_sight_41 rfl 2 rfl ?_
        refine g_iadd X dX12_sight_42 ?_
        refine g_iconst (v := 1) X dX12_sight_43 (by decide) ?_
        refine g_bsv X rfl rfl dX12_sight_44 (fun M8 => ?_)
        refine g_iconst (v := 1) X dX12_sight_45 (by decide) ?_
        exact g_zret X rfl rfl rfl dX12_sight_46
set_option maxHeartbeats 4000000 in
set_option maxRecDepth 100000 in
theorem c_X12_isSeen (l : Launch) (K : q_KK) (M : q_MM) (a1 : Int32) (a2 : Int32) : ∀ res, f_X12_isSeen M a1 a2 = some res → Mt l yX12_isSeen cX12_isSeen 5 (some FieldType.boolean) 0 0 0 0 false K [.ref 5001, .int a1, .int a2] (qTM, qLM, qPM, M) (some (.int res)) ((qTM, qLM, qPM, M)) := by
  refine Mt.of (fun (res : Int32) => some (.int res)) (fun (_ : Int32) => (qTM, qLM, qPM, M)) (by decide) (Nat.le_of_ble_eq_true rfl) ?_
  intro p e s m args below meth c0 A ad X hN
  have hb_59 : ∀ (k5 : Int32 → Int32 → Int32 → Int32 → Option (Int32)) (hk5 : ∀ (x1 : Int32) (x2 : Int32) (x3 : Int32) (x4 : Int32), GG p l e { frames := 0, cells := 0, slots := 0, locals := 0 } s m args below meth c0 K A (qTM, qLM, qPM, M) ad false 5 (fun res => MQ below (q_Qc K false ad (qTM, qLM, qPM, M) ((fun (res : Int32) => some (.int res)) res) ((fun (_ : Int32) => (qTM, qLM, qPM, M)) res) A) args s 0 0 A) (k5 x1 x2 x3 x4) 5 [(0, .ref 5001), (1, .int x1), (2, .int x2), (3, .int x3), (4, .int x4)] [] (qTM, qLM, qPM, M) 0 0) (x1 : Int32) (x2 : Int32) (x4 : Int32) (s0 : Int32), GG p l e { frames := 0, cells := 0, slots := 0, locals := 0 } s m args below meth c0 K A (qTM, qLM, qPM, M) ad false 5 (fun res => MQ below (q_Qc K false ad (qTM, qLM, qPM, M) ((fun (res : Int32) => some (.int res)) res) ((fun (_ : Int32) => (qTM, qLM, qPM, M)) res) A) args s 0 0 A) (b_X12_isSeen_59 M k5 x1 x2 x4 s0) 59 [(0, .ref 5001), (1, .int x1), (2, .int x2), (4, .int x4)] [.int s0] (qTM, qLM, qPM, M) 0 0 := by
    intro k5 hk5 x1 x2 x4 s0
    unfold b_X12_isSeen_59
    refine g_istore_n X [(3, .int s0), (0, .ref 5001), (1, .int x1), (2, .int x2), (4, .int x4)] dX12_isSeen_59 rfl (by decide) rfl ?_
    refine g_iinc (v := 1) X [(4, .int (x4 + 1)), (3, .int s0), (0, .ref 5001), (1, .int x1), (2, .int x2)] 4 dX12_isSeen_60 rfl (by decide) (by decide) rfl ?_
    refine g_goto X 5 dX12_isSeen_63 rfl ?_
    exact g_sub [2, 3, 4, 1, 0] rfl (hk5 x1 x2 s0 (x4 + 1))
  have hb_58 : ∀ (k5 : Int32 → Int32 → Int32 → Int32 → Option (Int32)) (hk5 : ∀ (x1 : Int32) (x2 : Int32) (x3 : Int32) (x4 : Int32), GG p l e { frames := 0, cells := 0, slots := 0, locals := 0 } s m args below meth c0 K A (qTM, qLM, qPM, M) ad false 5 (fun res => MQ below (q_Qc K false ad (qTM, qLM, qPM, M) ((fun (res : Int32) => some (.int res)) res) ((fun (_ : Int32) => (qTM, qLM, qPM, M)) res) A) args s 0 0 A) (k5 x1 x2 x3 x4) 5 [(0, .ref 5001), (1, .int x1), (2, .int x2), (3, .int x3), (4, .int x4)] [] (qTM, qLM, qPM, M) 0 0) (x1 : Int32) (x2 : Int32) (x4 : Int32), GG p l e { frames := 0, cells := 0, slots := 0, locals := 0 } s m args below meth c0 K A (qTM, qLM, qPM, M) ad false 5 (fun res => MQ below (q_Qc K false ad (qTM, qLM, qPM, M) ((fun (res : Int32) => some (.int res)) res) ((fun (_ : Int32) => (qTM, qLM, qPM, M)) res) A) args s 0 0 A) (b_X12_isSeen_58 M k5 x1 x2 x4) 58 [(0, .ref 5001), (1, .int x1), (2, .int x2), (4, .int x4)] [] (qTM, qLM, qPM, M) 0 0 := by
    intro k5 hk5 x1 x2 x4
    unfold b_X12_isSeen_58
    refine g_iconst (v := 0) X dX12_isSeen_58 (by decide) ?_
    exact g_sub [0, 1, 2, 3] rfl (hb_59 k5 hk5 x1 x2 x4 0)
  have hb_54 : ∀ (k5 : Int32 → Int32 → Int32 → Int32 → Option (Int32)) (hk5 : ∀ (x1 : Int32) (x2 : Int32) (x3 : Int32) (x4 : Int32), GG p l e { frames := 0, cells := 0, slots := 0, locals := 0 } s m args below meth c0 K A (qTM, qLM, qPM, M) ad false 5 (fun res => MQ below (q_Qc K false ad (qTM, qLM, qPM, M) ((fun (res : Int32) => some (.int res)) res) ((fun (_ : Int32) => (qTM, qLM, qPM, M)) res) A) args s 0 0 A) (k5 x1 x2 x3 x4) 5 [(0, .ref 5001), (1, .int x1), (2, .int x2), (3, .int x3), (4, .int x4)] [] (qTM, qLM, qPM, M) 0 0) (x1 : Int32) (x2 : Int32) (x4 : Int32), GG p l e { frames := 0, cells := 0, slots := 0, locals := 0 } s m args below meth c0 K A (qTM, qLM, qPM, M) ad false 5 (fun res => MQ below (q_Qc K false ad (qTM, qLM, qPM, M) ((fun (res : Int32) => some (.int res)) res) ((fun (_ : Int32) => (qTM, qLM, qPM, M)) res) A) args s 0 0 A) (b_X12_isSeen_54 M k5 x1 x2 x4) 54 [(0, .ref 5001), (1, .int x1), (2, .int x2), (4, .int x4)] [] (qTM, qLM, qPM, M) 0 0 := by
    intro k5 hk5 x1 x2 x4
    unfold b_X12_isSeen_54
    refine g_iconst (v := 1) X dX12_isSeen_54 (by decide) ?_
    refine g_goto X 59 dX12_isSeen_55 rfl ?_
    exact g_sub [0, 1, 2, 3] rfl (hb_59 k5 hk5 x1 x2 x4 1)
  have hb_5 : ∀ (nf : Nat) (x1 : Int32) (x2 : Int32) (x3 : Int32) (x4 : Int32), GG p l e { frames := 0, cells := 0, slots := 0, locals := 0 } s m args below meth c0 K A (qTM, qLM, qPM, M) ad false 5 (fun res => MQ below (q_Qc K false ad (qTM, qLM, qPM, M) ((fun (res : Int32) => some (.int res)) res) ((fun (_ : Int32) => (qTM, qLM, qPM, M)) res) A) args s 0 0 A) (b_X12_isSeen_5 M nf x1 x2 x3 x4) 5 [(0, .ref 5001), (1, .int x1), (2, .int x2), (3, .int x3), (4, .int x4)] [] (qTM, qLM, qPM, M) 0 0 := by
    intro  nf
    induction nf with
    | zero => intros; exact g_stop
    | succ nf ih =>
      intro x1 x2 x3 x4
      rw [b_X12_isSeen_5]
      refine g_iload X dX12_isSeen_5 4 rfl ?_
      refine g_aload_n X dX12_isSeen_7 rfl 0 rfl ?_
      refine g_geti X fa_X12_14 rfl dX12_isSeen_8 ?_
      refine g_icmp_ge X 66 dX12_isSeen_11 rfl (fun h1 => ?_) (fun h1 => ?_)
      · refine g_iload_n X dX12_isSeen_66 rfl 3 rfl ?_
        exact g_zret X rfl rfl rfl dX12_isSeen_67
      · refine g_iload_n X dX12_isSeen_14 rfl 3 rfl ?_
        refine g_if_ne X 54 dX12_isSeen_15 rfl (fun h2 => ?_) (fun h2 => ?_)
        · refine g_iload_n X dX12_isSeen_18 rfl 2 rfl ?_
          refine g_iload X dX12_isSeen_19 4 rfl ?_
          refine g_ishr X dX12_isSeen_21 ?_
          refine g_iconst (v := 1) X dX12_isSeen_22 (by decide) ?_
          refine g_iand X dX12_isSeen_23 ?_
          refine g_iconst (v := 1) X dX12_isSeen_24 (by decide) ?_
          refine g_icmp_ne X 58 dX12_isSeen_25 rfl (fun h3 => ?_) (fun h3 => ?_)
          · refine g_aload_n X dX12_isSeen_28 rfl 0 rfl ?_
            refine g_getr X fa_X12_57 rfl rfl dX12_isSeen_29 ?_
            refine g_iload_n X dX12_isSeen_32 rfl 1 rfl ?_
            refine g_ild X rfl rfl dX12_isSeen_33 (fun v4 => ?_)
            refine g_iload X dX12_isSeen_34 4 rfl ?_
            refine g_icmp_eq X 54 dX12_isSeen_36 rfl (fun h5 => ?_) (fun h5 => ?_)
            · exact g_sub [0, 1, 2, 4] rfl (hb_54 (b_X12_isSeen_5 M nf) ih x1 x2 x4)
            · refine g_aload_n X dX12_isSeen_39 rfl 0 rfl ?_
              refine g_getr X fa_X12_502 rfl rfl dX12_isSeen_40 ?_
              refine g_bipush (v := 16) X dX12_isSeen_43 (by decide) ?_
              refine g_iload X dX12_isSeen_45 4 rfl ?_
              refine g_imul X dX12_isSeen_47 ?_
              refine g_iload_n X dX12_isSeen_48 rfl 1 rfl ?_
              refine g_iadd X dX12_isSeen_49 ?_
              refine g_bld X rfl rfl dX12_isSeen_50 (fun v6 => ?_)
              refine g_if_eq X 58 dX12_isSeen_51 rfl (fun h7 => ?_) (fun h7 => ?_)
              · exact g_sub [0, 1, 2, 4] rfl (hb_58 (b_X12_isSeen_5 M nf) ih x1 x2 x4)
              · exact g_sub [0, 1, 2, 4] rfl (hb_54 (b_X12_isSeen_5 M nf) ih x1 x2 x4)
          · exact g_sub [0, 1, 2, 4] rfl (hb_58 (b_X12_isSeen_5 M nf) ih x1 x2 x4)
        · exact g_sub [0, 1, 2, 4] rfl (hb_54 (b_X12_isSeen_5 M nf) ih x1 x2 x4)
  refine g_sub (lv' := [(0, .ref 5001), (1, .int a1), (2, .int a2)]) [0, 1, 2] rfl ?_
  unfold f_X12_isSeen
  refine g_iconst (v := 0) X dX12_isSeen_0 (by decide) ?_
  refine g_istore_n X [(3, .int 0), (0, .ref 5001), (1, .int a1), (2, .int a2)] dX12_isSeen_1 rfl (by decide) rfl ?_
  refine g_iconst (v := 0) X dX12_isSeen_2 (by decide) ?_
  refine g_istore X [(4, .int 0), (3, .int 0), (0, .ref 5001), (1, .int a1), (2, .int a2)] dX12_isSeen_3 (by decide) rfl ?_
  exact g_sub [2, 3, 4, 1, 0] rfl (hb_5 q_fu a1 a2 0 0)
set_option maxHeartbeats 4000000 in
set_option maxRecDepth 100000 in
theorem c_X12_guard (l : Launch) (K : q_KK) (M0 : q_MM) (a1 : Int32) : ∀ res, f_X12_guard M0 a1 = some res → Mt l yX12_guard cX12_guard 6 (some FieldType.int) 1 25 0 0 false K [.ref 5001, .int a1] (qTM, qLM, qPM, M0) (some (.int res.1)) ((qTM, qLM, qPM, res.2)) := by
  refine Mt.of (fun (res : Int32 × q_MM) => some (.int res.1)) (fun (res : Int32 × q_MM) => (qTM, qLM, qPM, res.2)) (by decide) (Nat.le_of_ble_eq_true rfl) ?_
  intro p e s m args below meth c0 A ad X hN
  have hb_113 : ∀ (k57 : Int32 → Int32 → Int32 → Int32 → Int32 → q_MM → Option (Int32 × q_MM)) (hk57 : ∀ (x1 : Int32) (x2 : Int32) (x3 : Int32) (x4 : Int32) (x5 : Int32) (M : q_MM), GG p l e { frames := 1, cells := 0, slots := 0, locals := 25 } s m args below meth c0 K A (qTM, qLM, qPM, M0) ad false 6 (fun res => MQ below (q_Qc K false ad (qTM, qLM, qPM, M0) ((fun (res : Int32 × q_MM) => some (.int res.1)) res) ((fun (res : Int32 × q_MM) => (qTM, qLM, qPM, res.2)) res) A) args s 0 0 A) (k57 x1 x2 x3 x4 x5 M) 57 [(0, .ref 5001), (1, .int x1), (2, .int x2), (3, .int x3), (4, .int x4), (5, .int x5)] [] (qTM, qLM, qPM, M) 0 0) (x1 : Int32) (x2 : Int32) (x3 : Int32) (x5 : Int32) (s0 : Int32) (M : q_MM), GG p l e { frames := 1, cells := 0, slots := 0, locals := 25 } s m args below meth c0 K A (qTM, qLM, qPM, M0) ad false 6 (fun res => MQ below (q_Qc K false ad (qTM, qLM, qPM, M0) ((fun (res : Int32 × q_MM) => some (.int res.1)) res) ((fun (res : Int32 × q_MM) => (qTM, qLM, qPM, res.2)) res) A) args s 0 0 A) (b_X12_guard_113 k57 x1 x2 x3 x5 s0 M) 113 [(0, .ref 5001), (1, .int x1), (2, .int x2), (3, .int x3), (5, .int x5)] [.int s0] (qTM, qLM, qPM, M) 0 0 := by
    intro k57 hk57 x1 x2 x3 x5 s0 M
    unfold b_X12_guard_113
    refine g_istore X [(4, .int s0), (0, .ref 5001), (1, .int x1), (2, .int x2), (3, .int x3), (5, .int x5)] dX12_guard_113 (by decide) rfl ?_
    refine g_iinc (v := 1) X [(5, .int (x5 + 1)), (4, .int s0), (0, .ref 5001), (1, .int x1), (2, .int x2), (3, .int x3)] 5 dX12_guard_115 rfl (by decide) (by decide) rfl ?_
    refine g_goto X 57 dX12_guard_118 rfl ?_
    exact g_sub [2, 3, 4, 5, 1, 0] rfl (hk57 x1 x2 x3 s0 (x5 + 1) M)
  have hb_112 : ∀ (k57 : Int32 → Int32 → Int32 → Int32 → Int32 → q_MM → Option (Int32 × q_MM)) (hk57 : ∀ (x1 : Int32) (x2 : Int32) (x3 : Int32) (x4 : Int32) (x5 : Int32) (M : q_MM), GG p l e { frames := 1, cells := 0, slots := 0, locals := 25 } s m args below meth c0 K A (qTM, qLM, qPM, M0) ad false 6 (fun res => MQ below (q_Qc K false ad (qTM, qLM, qPM, M0) ((fun (res : Int32 × q_MM) => some (.int res.1)) res) ((fun (res : Int32 × q_MM) => (qTM, qLM, qPM, res.2)) res) A) args s 0 0 A) (k57 x1 x2 x3 x4 x5 M) 57 [(0, .ref 5001), (1, .int x1), (2, .int x2), (3, .int x3), (4, .int x4), (5, .int x5)] [] (qTM, qLM, qPM, M) 0 0) (x1 : Int32) (x2 : Int32) (x3 : Int32) (x5 : Int32) (M : q_MM), GG p l e { frames := 1, cells := 0, slots := 0, locals := 25 } s m args below meth c0 K A (qTM, qLM, qPM, M0) ad false 6 (fun res => MQ below (q_Qc K false ad (qTM, qLM, qPM, M0) ((fun (res : Int32 × q_MM) => some (.int res.1)) res) ((fun (res : Int32 × q_MM) => (qTM, qLM, qPM, res.2)) res) A) args s 0 0 A) (b_X12_guard_112 k57 x1 x2 x3 x5 M) 112 [(0, .ref 5001), (1, .int x1), (2, .int x2), (3, .int x3), (5, .int x5)] [] (qTM, qLM, qPM, M) 0 0 := by
    intro k57 hk57 x1 x2 x3 x5 M
    unfold b_X12_guard_112
    refine g_iconst (v := 0) X dX12_guard_112 (by decide) ?_
    exact g_sub [0, 1, 2, 3, 4] rfl (hb_113 k57 hk57 x1 x2 x3 x5 0 M)
  have hb_132 : ∀ (k23 : Int32 → Int32 → Int32 → q_MM → Option (Int32 × q_MM)) (hk23 : ∀ (x1 : Int32) (x2 : Int32) (x3 : Int32) (M : q_MM), GG p l e { frames := 1, cells := 0, slots := 0, locals := 25 } s m args below meth c0 K A (qTM, qLM, qPM, M0) ad false 6 (fun res => MQ below (q_Qc K false ad (qTM, qLM, qPM, M0) ((fun (res : Int32 × q_MM) => some (.int res.1)) res) ((fun (res : Int32 × q_MM) => (qTM, qLM, qPM, res.2)) res) A) args s 0 0 A) (k23 x1 x2 x3 M) 23 [(0, .ref 5001), (1, .int x1), (2, .int x2), (3, .int x3)] [] (qTM, qLM, qPM, M) 0 0) (x1 : Int32) (x2 : Int32) (x3 : Int32) (M : q_MM), GG p l e { frames := 1, cells := 0, slots := 0, locals := 25 } s m args below meth c0 K A (qTM, qLM, qPM, M0) ad false 6 (fun res => MQ below (q_Qc K false ad (qTM, qLM, qPM, M0) ((fun (res : Int32 × q_MM) => some (.int res.1)) res) ((fun (res : Int32 × q_MM) => (qTM, qLM, qPM, res.2)) res) A) args s 0 0 A) (b_X12_guard_132 k23 x1 x2 x3 M) 132 [(0, .ref 5001), (1, .int x1), (2, .int x2), (3, .int x3)] [] (qTM, qLM, qPM, M) 0 0 := by
    intro k23 hk23 x1 x2 x3 M
    unfold b_X12_guard_132
    refine g_iinc (v := 1) X [(3, .int (x3 + 1)), (0, .ref 5001), (1, .int x1), (2, .int x2)] 3 dX12_guard_132 rfl (by decide) (by decide) rfl ?_
    refine g_goto X 23 dX12_guard_135 rfl ?_
    exact g_sub [1, 2, 3, 0] rfl (hk23 x1 x2 (x3 + 1) M)
  have hb_131 : ∀ (k23 : Int32 → Int32 → Int32 → q_MM → Option (Int32 × q_MM)) (hk23 : ∀ (x1 : Int32) (x2 : Int32) (x3 : Int32) (M : q_MM), GG p l e { frames := 1, cells := 0, slots := 0, locals := 25 } s m args below meth c0 K A (qTM, qLM, qPM, M0) ad false 6 (fun res => MQ below (q_Qc K false ad (qTM, qLM, qPM, M0) ((fun (res : Int32 × q_MM) => some (.int res.1)) res) ((fun (res : Int32 × q_MM) => (qTM, qLM, qPM, res.2)) res) A) args s 0 0 A) (k23 x1 x2 x3 M) 23 [(0, .ref 5001), (1, .int x1), (2, .int x2), (3, .int x3)] [] (qTM, qLM, qPM, M) 0 0) (x1 : Int32) (x3 : Int32) (s0 : Int32) (M : q_MM), GG p l e { frames := 1, cells := 0, slots := 0, locals := 25 } s m args below meth c0 K A (qTM, qLM, qPM, M0) ad false 6 (fun res => MQ below (q_Qc K false ad (qTM, qLM, qPM, M0) ((fun (res : Int32 × q_MM) => some (.int res.1)) res) ((fun (res : Int32 × q_MM) => (qTM, qLM, qPM, res.2)) res) A) args s 0 0 A) (b_X12_guard_131 k23 x1 x3 s0 M) 131 [(0, .ref 5001), (1, .int x1), (3, .int x3)] [.int s0] (qTM, qLM, qPM, M) 0 0 := by
    intro k23 hk23 x1 x3 s0 M
    unfold b_X12_guard_131
    refine g_istore_n X [(2, .int s0), (0, .ref 5001), (1, .int x1), (3, .int x3)] dX12_guard_131 rfl (by decide) rfl ?_
    exact g_sub [1, 2, 0, 3] rfl (hb_132 k23 hk23 x1 s0 x3 M)
  have hb_108 : ∀ (k57 : Int32 → Int32 → Int32 → Int32 → Int32 → q_MM → Option (Int32 × q_MM)) (hk57 : ∀ (x1 : Int32) (x2 : Int32) (x3 : Int32) (x4 : Int32) (x5 : Int32) (M : q_MM), GG p l e { frames := 1, cells := 0, slots := 0, locals := 25 } s m args below meth c0 K A (qTM, qLM, qPM, M0) ad false 6 (fun res => MQ below (q_Qc K false ad (qTM, qLM, qPM, M0) ((fun (res : Int32 × q_MM) => some (.int res.1)) res) ((fun (res : Int32 × q_MM) => (qTM, qLM, qPM, res.2)) res) A) args s 0 0 A) (k57 x1 x2 x3 x4 x5 M) 57 [(0, .ref 5001), (1, .int x1), (2, .int x2), (3, .int x3), (4, .int x4), (5, .int x5)] [] (qTM, qLM, qPM, M) 0 0) (x1 : Int32) (x2 : Int32) (x3 : Int32) (x5 : Int32) (M : q_MM), GG p l e { frames := 1, cells := 0, slots := 0, locals := 25 } s m args below meth c0 K A (qTM, qLM, qPM, M0) ad false 6 (fun res => MQ below (q_Qc K false ad (qTM, qLM, qPM, M0) ((fun (res : Int32 × q_MM) => some (.int res.1)) res) ((fun (res : Int32 × q_MM) => (qTM, qLM, qPM, res.2)) res) A) args s 0 0 A) (b_X12_guard_108 k57 x1 x2 x3 x5 M) 108 [(0, .ref 5001), (1, .int x1), (2, .int x2), (3, .int x3), (5, .int x5)] [] (qTM, qLM, qPM, M) 0 0 := by
    intro k57 hk57 x1 x2 x3 x5 M
    unfold b_X12_guard_108
    refine g_iconst (v := 1) X dX12_guard_108 (by decide) ?_
    refine g_goto X 113 dX12_guard_109 rfl ?_
    exact g_sub [0, 1, 2, 3, 4] rfl (hb_113 k57 hk57 x1 x2 x3 x5 1 M)
  have hb_57 : ∀ (k23 : Int32 → Int32 → Int32 → q_MM → Option (Int32 × q_MM)) (hk23 : ∀ (x1 : Int32) (x2 : Int32) (x3 : Int32) (M : q_MM), GG p l e { frames := 1, cells := 0, slots := 0, locals := 25 } s m args below meth c0 K A (qTM, qLM, qPM, M0) ad false 6 (fun res => MQ below (q_Qc K false ad (qTM, qLM, qPM, M0) ((fun (res : Int32 × q_MM) => some (.int res.1)) res) ((fun (res : Int32 × q_MM) => (qTM, qLM, qPM, res.2)) res) A) args s 0 0 A) (k23 x1 x2 x3 M) 23 [(0, .ref 5001), (1, .int x1), (2, .int x2), (3, .int x3)] [] (qTM, qLM, qPM, M) 0 0) (nf : Nat) (x1 : Int32) (x2 : Int32) (x3 : Int32) (x4 : Int32) (x5 : Int32) (M : q_MM), GG p l e { frames := 1, cells := 0, slots := 0, locals := 25 } s m args below meth c0 K A (qTM, qLM, qPM, M0) ad false 6 (fun res => MQ below (q_Qc K false ad (qTM, qLM, qPM, M0) ((fun (res : Int32 × q_MM) => some (.int res.1)) res) ((fun (res : Int32 × q_MM) => (qTM, qLM, qPM, res.2)) res) A) args s 0 0 A) (b_X12_guard_57 k23 nf x1 x2 x3 x4 x5 M) 57 [(0, .ref 5001), (1, .int x1), (2, .int x2), (3, .int x3), (4, .int x4), (5, .int x5)] [] (qTM, qLM, qPM, M) 0 0 := by
    intro k23 hk23 nf
    induction nf with
    | zero => intros; exact g_stop
    | succ nf ih =>
      intro x1 x2 x3 x4 x5 M
      rw [b_X12_guard_57]
      refine g_iload X dX12_guard_57 5 rfl ?_
      refine g_aload_n X dX12_guard_59 rfl 0 rfl ?_
      refine g_geti X fa_X12_108 rfl dX12_guard_60 ?_
      refine g_icmp_ge X 121 dX12_guard_63 rfl (fun h1 => ?_) (fun h1 => ?_)
      · refine g_iload X dX12_guard_121 4 rfl ?_
        refine g_if_eq X 130 dX12_guard_123 rfl (fun h2 => ?_) (fun h2 => ?_)
        · refine g_iload_n X dX12_guard_130 rfl 2 rfl ?_
          exact g_sub [0, 1, 3] rfl (hb_131 k23 hk23 x1 x3 x2 M)
        · refine g_iload_n X dX12_guard_126 rfl 3 rfl ?_
          refine g_goto X 131 dX12_guard_127 rfl ?_
          exact g_sub [0, 1, 3] rfl (hb_131 k23 hk23 x1 x3 x3 M)
      · refine g_iload X dX12_guard_66 4 rfl ?_
        refine g_if_eq X 112 dX12_guard_68 rfl (fun h3 => ?_) (fun h3 => ?_)
        · exact g_sub [0, 1, 2, 3, 5] rfl (hb_112 (b_X12_guard_57 k23 nf) ih x1 x2 x3 x5 M)
        · refine g_aload_n X dX12_guard_71 rfl 0 rfl ?_
          refine g_getr X fa_X12_170 rfl rfl dX12_guard_72 ?_
          refine g_iload X dX12_guard_75 5 rfl ?_
          refine g_ild X rfl rfl dX12_guard_77 (fun v4 => ?_)
          refine g_iconst (v := 1) X dX12_guard_78 (by decide) ?_
          refine g_icmp_ne X 108 dX12_guard_79 rfl (fun h5 => ?_) (fun h5 => ?_)
          · refine g_aload_n X dX12_guard_82 rfl 0 rfl ?_
            refine g_getr X fa_X12_136 rfl rfl dX12_guard_83 ?_
            refine g_iload X dX12_guard_86 5 rfl ?_
            refine g_ild X rfl rfl dX12_guard_88 (fun v6 => ?_)
            refine g_iload_n X dX12_guard_89 rfl 1 rfl ?_
            refine g_icmp_lt X 108 dX12_guard_90 rfl (fun h7 => ?_) (fun h7 => ?_)
            · exact g_sub [0, 1, 2, 3, 5] rfl (hb_108 (b_X12_guard_57 k23 nf) ih x1 x2 x3 x5 M)
            · refine g_aload_n X dX12_guard_93 rfl 0 rfl ?_
              refine g_aload_n X dX12_guard_94 rfl 0 rfl ?_
              refine g_getr X fa_X12_155 rfl rfl dX12_guard_95 ?_
              refine g_iload X dX12_guard_98 5 rfl ?_
              refine g_ild X rfl rfl dX12_guard_100 (fun v8 => ?_)
              refine g_iload_n X dX12_guard_101 rfl 3 rfl ?_
              refine g_bVi (As := [.int v8, .int x3]) (rest := []) X (c_X12_isSeen l K M v8 x3) lk_X12_505 rfl rfl rfl (Nat.le_of_ble_eq_true rfl) ⟨Nat.le_of_ble_eq_true rfl, Nat.le_of_ble_eq_true rfl⟩ ⟨Nat.zero_le _, Nat.zero_le _⟩ dX12_guard_102 (fun r9 => ?_)
              refine g_if_eq X 112 dX12_guard_105 rfl (fun h10 => ?_) (fun h10 => ?_)
              · exact g_sub [0, 1, 2, 3, 5] rfl (hb_112 (b_X12_guard_57 k23 nf) ih x1 x2 x3 x5 M)
              · exact g_sub [0, 1, 2, 3, 5] rfl (hb_108 (b_X12_guard_57 k23 nf) ih x1 x2 x3 x5 M)
          · exact g_sub [0, 1, 2, 3, 5] rfl (hb_108 (b_X12_guard_57 k23 nf) ih x1 x2 x3 x5 M)
  have hb_51 : ∀ (k23 : Int32 → Int32 → Int32 → q_MM → Option (Int32 × q_MM)) (hk23 : ∀ (x1 : Int32) (x2 : Int32) (x3 : Int32) (M : q_MM), GG p l e { frames := 1, cells := 0, slots := 0, locals := 25 } s m args below meth c0 K A (qTM, qLM, qPM, M0) ad false 6 (fun res => MQ below (q_Qc K false ad (qTM, qLM, qPM, M0) ((fun (res : Int32 × q_MM) => some (.int res.1)) res) ((fun (res : Int32 × q_MM) => (qTM, qLM, qPM, res.2)) res) A) args s 0 0 A) (k23 x1 x2 x3 M) 23 [(0, .ref 5001), (1, .int x1), (2, .int x2), (3, .int x3)] [] (qTM, qLM, qPM, M) 0 0) (x1 : Int32) (x2 : Int32) (x3 : Int32) (M : q_MM), GG p l e { frames := 1, cells := 0, slots := 0, locals := 25 } s m args below meth c0 K A (qTM, qLM, qPM, M0) ad false 6 (fun res => MQ below (q_Qc K false ad (qTM, qLM, qPM, M0) ((fun (res : Int32 × q_MM) => some (.int res.1)) res) ((fun (res : Int32 × q_MM) => (qTM, qLM, qPM, res.2)) res) A) args s 0 0 A) (b_X12_guard_51 k23 x1 x2 x3 M) 51 [(0, .ref 5001), (1, .int x1), (2, .int x2), (3, .int x3)] [] (qTM, qLM, qPM, M) 0 0 := by
    intro k23 hk23 x1 x2 x3 M
    unfold b_X12_guard_51
    refine g_iconst (v := 1) X dX12_guard_51 (by decide) ?_
    refine g_istore X [(4, .int 1), (0, .ref 5001), (1, .int x1), (2, .int x2), (3, .int x3)] dX12_guard_52 (by decide) rfl ?_
    refine g_iconst (v := 0) X dX12_guard_54 (by decide) ?_
    refine g_istore X [(5, .int 0), (4, .int 1), (0, .ref 5001), (1, .int x1), (2, .int x2), (3, .int x3)] dX12_guard_55 (by decide) rfl ?_
    exact g_sub [2, 3, 4, 5, 1, 0] rfl (hb_57 k23 hk23 q_fu x1 x2 x3 1 0 M)
  have hb_23 : ∀ (nf : Nat) (x1 : Int32) (x2 : Int32) (x3 : Int32) (M : q_MM), GG p l e { frames := 1, cells := 0, slots := 0, locals := 25 } s m args below meth c0 K A (qTM, qLM, qPM, M0) ad false 6 (fun res => MQ below (q_Qc K false ad (qTM, qLM, qPM, M0) ((fun (res : Int32 × q_MM) => some (.int res.1)) res) ((fun (res : Int32 × q_MM) => (qTM, qLM, qPM, res.2)) res) A) args s 0 0 A) (b_X12_guard_23 nf x1 x2 x3 M) 23 [(0, .ref 5001), (1, .int x1), (2, .int x2), (3, .int x3)] [] (qTM, qLM, qPM, M) 0 0 := by
    intro  nf
    induction nf with
    | zero => intros; exact g_stop
    | succ nf ih =>
      intro x1 x2 x3 M
      rw [b_X12_guard_23]
      refine g_iload_n X dX12_guard_23 rfl 3 rfl ?_
      refine g_iconst (v := 1) X dX12_guard_24 (by decide) ?_
      refine g_aload_n X dX12_guard_25 rfl 0 rfl ?_
      refine g_geti X fa_X12_14 rfl dX12_guard_26 ?_
      refine g_ishl X dX12_guard_29 ?_
      refine g_icmp_ge X 138 dX12_guard_30 rfl (fun h11 => ?_) (fun h11 => ?_)
      · refine g_aload_n X dX12_guard_138 rfl 0 rfl ?_
        refine g_iconst (v := 0) X dX12_guard_139 (by decide) ?_
        refine g_pfi X fa_X12_11 rfl (by decide +kernel) rfl dX12_guard_140 (fun M12 => ?_)
        refine g_aload_n X dX12_guard_143 rfl 0 rfl ?_
        refine g_iload_n X dX12_guard_144 rfl 2 rfl ?_
        refine g_bVv (As := [.int x2]) (rest := []) X (c_X12_enters l K M12 x2) lk_X12_345 rfl rfl rfl (Nat.le_of_ble_eq_true rfl) ⟨Nat.le_of_ble_eq_true rfl, Nat.le_of_ble_eq_true rfl⟩ ⟨Nat.zero_le _, Nat.zero_le _⟩ dX12_guard_145 (fun r13 => ?_)
        refine g_iload_n X dX12_guard_148 rfl 2 rfl ?_
        refine g_bSi (As := [.int x2]) (rest := []) X (c_J6_bitCount_0f7a4 l K qTM qLM qPM r13 x2) lk_X12_386 rfl rfl (Nat.le_of_ble_eq_true rfl) ⟨Nat.le_of_ble_eq_true rfl, Nat.le_of_ble_eq_true rfl⟩ ⟨Nat.zero_le _, Nat.zero_le _⟩ dX12_guard_149 (fun r14 => ?_)
        exact g_iret X rfl rfl rfl dX12_guard_152
      · refine g_iload_n X dX12_guard_33 rfl 2 rfl ?_
        refine g_if_lt X 51 dX12_guard_34 rfl (fun h15 => ?_) (fun h15 => ?_)
        · exact g_sub [0, 1, 2, 3] rfl (hb_51 (b_X12_guard_23 nf) ih x1 x2 x3 M)
        · refine g_iload_n X dX12_guard_37 rfl 3 rfl ?_
          refine g_bSi (As := [.int x3]) (rest := []) X (c_J6_bitCount_0f7a4 l K qTM qLM qPM M x3) lk_X12_386 rfl rfl (Nat.le_of_ble_eq_true rfl) ⟨Nat.le_of_ble_eq_true rfl, Nat.le_of_ble_eq_true rfl⟩ ⟨Nat.zero_le _, Nat.zero_le _⟩ dX12_guard_38 (fun r16 => ?_)
          refine g_iload_n X dX12_guard_41 rfl 2 rfl ?_
          refine g_bSi (As := [.int x2]) (rest := [.int r16]) X (c_J6_bitCount_0f7a4 l K qTM qLM qPM M x2) lk_X12_386 rfl rfl (Nat.le_of_ble_eq_true rfl) ⟨Nat.le_of_ble_eq_true rfl, Nat.le_of_ble_eq_true rfl⟩ ⟨Nat.zero_le _, Nat.zero_le _⟩ dX12_guard_42 (fun r17 => ?_)
          refine g_icmp_lt X 51 dX12_guard_45 rfl (fun h18 => ?_) (fun h18 => ?_)
          · exact g_sub [0, 1, 2, 3] rfl (hb_51 (b_X12_guard_23 nf) ih x1 x2 x3 M)
          · refine g_goto X 132 dX12_guard_48 rfl ?_
            exact g_sub [0, 1, 2, 3] rfl (hb_132 (b_X12_guard_23 nf) ih x1 x2 x3 M)
  refine g_sub (lv' := [(0, .ref 5001), (1, .int a1)]) [0, 1] rfl ?_
  unfold f_X12_guard
  refine g_aload_n X dX12_guard_0 rfl 0 rfl ?_
  refine g_iconst (v := 0) X dX12_guard_1 (by decide) ?_
  refine g_pfi X fa_X12_1 rfl (by decide +kernel) rfl dX12_guard_2 (fun M19 => ?_)
  refine g_iload_n X dX12_guard_5 rfl 1 rfl ?_
  refine g_i2l X dX12_guard_6 ?_
  refine g_lconst (v := 0) X dX12_guard_7 (by decide) ?_
  refine g_ldc2 (v := 999) X wc_X12_115 dX12_guard_8 ?_
  refine g_bSi (As := [.long (Int32.toInt64 a1), .long 0, .long 999]) (rest := []) X (c_X12_in l K M19 (Int32.toInt64 a1) 0 999) lk_X12_17 rfl rfl (Nat.le_of_ble_eq_true rfl) ⟨Nat.le_of_ble_eq_true rfl, Nat.le_of_ble_eq_true rfl⟩ ⟨Nat.zero_le _, Nat.zero_le _⟩ dX12_guard_11 (fun r20 => ?_)
  refine g_if_ne X 19 dX12_guard_14 rfl (fun h21 => ?_) (fun h21 => ?_)
  · refine g_iconst (v := (-1)) X dX12_guard_17 (by decide) ?_
    exact g_iret X rfl rfl rfl dX12_guard_18
  · refine g_iconst (v := (-1)) X dX12_guard_19 (by decide) ?_
    refine g_istore_n X [(2, .int (-1)), (0, .ref 5001), (1, .int a1)] dX12_guard_20 rfl (by decide) rfl ?_
    refine g_iconst (v := 0) X dX12_guard_21 (by decide) ?_
    refine g_istore_n X [(3, .int 0), (2, .int (-1)), (0, .ref 5001), (1, .int a1)] dX12_guard_22 rfl (by decide) rfl ?_
    exact g_sub [2, 3, 1, 0] rfl (hb_23 q_fu a1 (-1) 0 M19)
set_option maxHeartbeats 4000000 in
set_option maxRecDepth 100000 in
theorem c_X12_hungMany (l : Launch) (K : q_KK) (M : q_MM) : ∀ res, f_X12_hungMany M = some res → Mt l yX12_hungMany cX12_hungMany 3 (some FieldType.int) 1 20 0 0 false K [.ref 5001] (qTM, qLM, qPM, M) (some (.int res)) ((qTM, qLM, qPM, M)) := by
  refine Mt.of (fun (res : Int32) => some (.int res)) (fun (_ : Int32) => (qTM, qLM, qPM, M)) (by decide) (Nat.le_of_ble_eq_true rfl) ?_
  intro p e s m args below meth c0 A ad X hN
  have hb_28 : ∀ (k4 : Int32 → Int32 → Option (Int32)) (hk4 : ∀ (x1 : Int32) (x2 : Int32), GG p l e { frames := 1, cells := 0, slots := 0, locals := 20 } s m args below meth c0 K A (qTM, qLM, qPM, M) ad false 3 (fun res => MQ below (q_Qc K false ad (qTM, qLM, qPM, M) ((fun (res : Int32) => some (.int res)) res) ((fun (_ : Int32) => (qTM, qLM, qPM, M)) res) A) args s 0 0 A) (k4 x1 x2) 4 [(0, .ref 5001), (1, .int x1), (2, .int x2)] [] (qTM, qLM, qPM, M) 0 0) (x2 : Int32) (s0 : Int32) (s1 : Int32), GG p l e { frames := 1, cells := 0, slots := 0, locals := 20 } s m args below meth c0 K A (qTM, qLM, qPM, M) ad false 3 (fun res => MQ below (q_Qc K false ad (qTM, qLM, qPM, M) ((fun (res : Int32) => some (.int res)) res) ((fun (_ : Int32) => (qTM, qLM, qPM, M)) res) A) args s 0 0 A) (b_X12_hungMany_28 M k4 x2 s0 s1) 28 [(0, .ref 5001), (2, .int x2)] [.int s0, .int s1] (qTM, qLM, qPM, M) 0 0 := by
    intro k4 hk4 x2 s0 s1
    unfold b_X12_hungMany_28
    refine g_bSi (As := [.int s0]) (rest := [.int s1]) X (c_X12_truth l K M s0) lk_X12_268 rfl rfl (Nat.le_of_ble_eq_true rfl) ⟨Nat.le_of_ble_eq_true rfl, Nat.le_of_ble_eq_true rfl⟩ ⟨Nat.zero_le _, Nat.zero_le _⟩ dX12_hungMany_28 (fun r1 => ?_)
    refine g_iadd X dX12_hungMany_31 ?_
    refine g_isn X (fun v2 => [(1, .int v2), (0, .ref 5001), (2, .int x2)]) dX12_hungMany_32 rfl (by decide) (fun _ => rfl) (fun v2 => ?_)
    refine g_iinc (v := 1) X [(2, .int (x2 + 1)), (1, .int v2), (0, .ref 5001)] 2 dX12_hungMany_33 rfl (by decide) (by decide) rfl ?_
    refine g_goto X 4 dX12_hungMany_36 rfl ?_
    exact g_sub [2, 1, 0] rfl (hk4 v2 (x2 + 1))
  have hb_4 : ∀ (nf : Nat) (x1 : Int32) (x2 : Int32), GG p l e { frames := 1, cells := 0, slots := 0, locals := 20 } s m args below meth c0 K A (qTM, qLM, qPM, M) ad false 3 (fun res => MQ below (q_Qc K false ad (qTM, qLM, qPM, M) ((fun (res : Int32) => some (.int res)) res) ((fun (_ : Int32) => (qTM, qLM, qPM, M)) res) A) args s 0 0 A) (b_X12_hungMany_4 M nf x1 x2) 4 [(0, .ref 5001), (1, .int x1), (2, .int x2)] [] (qTM, qLM, qPM, M) 0 0 := by
    intro  nf
    induction nf with
    | zero => intros; exact g_stop
    | succ nf ih =>
      intro x1 x2
      rw [b_X12_hungMany_4]
      refine g_iload_n X dX12_hungMany_4 rfl 2 rfl ?_
      refine g_aload_n X dX12_hungMany_5 rfl 0 rfl ?_
      refine g_geti X fa_X12_108 rfl dX12_hungMany_6 ?_
      refine g_icmp_ge X 39 dX12_hungMany_9 rfl (fun h3 => ?_) (fun h3 => ?_)
      · refine g_iload_n X dX12_hungMany_39 rfl 1 rfl ?_
        exact g_iret X rfl rfl rfl dX12_hungMany_40
      · refine g_iload_n X dX12_hungMany_12 rfl 1 rfl ?_
        refine g_aload_n X dX12_hungMany_13 rfl 0 rfl ?_
        refine g_getr X fa_X12_170 rfl rfl dX12_hungMany_14 ?_
        refine g_iload_n X dX12_hungMany_17 rfl 2 rfl ?_
        refine g_ild X rfl rfl dX12_hungMany_18 (fun v4 => ?_)
        refine g_iconst (v := 1) X dX12_hungMany_19 (by decide) ?_
        refine g_icmp_ne X 27 dX12_hungMany_20 rfl (fun h5 => ?_) (fun h5 => ?_)
        · refine g_iconst (v := 1) X dX12_hungMany_23 (by decide) ?_
          refine g_goto X 28 dX12_hungMany_24 rfl ?_
          exact g_sub [0, 2] rfl (hb_28 (b_X12_hungMany_4 M nf) ih x2 1 x1)
        · refine g_iconst (v := 0) X dX12_hungMany_27 (by decide) ?_
          exact g_sub [0, 2] rfl (hb_28 (b_X12_hungMany_4 M nf) ih x2 0 x1)
  refine g_sub (lv' := [(0, .ref 5001)]) [0] rfl ?_
  unfold f_X12_hungMany
  refine g_iconst (v := 0) X dX12_hungMany_0 (by decide) ?_
  refine g_istore_n X [(1, .int 0), (0, .ref 5001)] dX12_hungMany_1 rfl (by decide) rfl ?_
  refine g_iconst (v := 0) X dX12_hungMany_2 (by decide) ?_
  refine g_istore_n X [(2, .int 0), (1, .int 0), (0, .ref 5001)] dX12_hungMany_3 rfl (by decide) rfl ?_
  exact g_sub [2, 1, 0] rfl (hb_4 q_fu 0 0)
set_option maxHeartbeats 4000000 in
set_option maxRecDepth 100000 in
theorem c_X12_count (l : Launch) (K : q_KK) (M0 : q_MM) (a1 : Int32) : ∀ res, f_X12_count M0 a1 = some res → Mt l yX12_count cX12_count 2 (some FieldType.int) 2 42 0 0 false K [.ref 5001, .int a1] (qTM, qLM, qPM, M0) (some (.int res.1)) ((qTM, qLM, qPM, res.2)) := by
  refine Mt.of (fun (res : Int32 × q_MM) => some (.int res.1)) (fun (res : Int32 × q_MM) => (qTM, qLM, qPM, res.2)) (by decide) (Nat.le_of_ble_eq_true rfl) ?_
  intro p e s m args below meth c0 A ad X hN
  refine g_sub (lv' := [(0, .ref 5001), (1, .int a1)]) [0, 1] rfl ?_
  unfold f_X12_count
  refine g_aload_n X dX12_count_0 rfl 0 rfl ?_
  refine g_iconst (v := 0) X dX12_count_1 (by decide) ?_
  refine g_pfi X fa_X12_1 rfl (by decide +kernel) rfl dX12_count_2 (fun M1 => ?_)
  refine g_iload_n X dX12_count_5 rfl 1 rfl ?_
  refine g_case (fun h2 => ?_) (fun h2 => ?_)
  · refine g_tin (off := 78) X 84 h2 dX12_count_6 (by decide) (by decide) (by decide) rfl ?_
    refine g_aload_n X dX12_count_84 rfl 0 rfl ?_
    refine g_geti X fa_X12_14 rfl dX12_count_85 ?_
    exact g_iret X rfl rfl rfl dX12_count_88
  · refine g_case (fun h3 => ?_) (fun h3 => ?_)
    · refine g_tin (off := 83) X 89 h3 dX12_count_6 (by decide) (by decide) (by decide) rfl ?_
      refine g_aload_n X dX12_count_89 rfl 0 rfl ?_
      refine g_geti X fa_X12_36 rfl dX12_count_90 ?_
      exact g_iret X rfl rfl rfl dX12_count_93
    · refine g_case (fun h4 => ?_) (fun h4 => ?_)
      · refine g_tin (off := 88) X 94 h4 dX12_count_6 (by decide) (by decide) (by decide) rfl ?_
        refine g_aload_n X dX12_count_94 rfl 0 rfl ?_
        refine g_geti X fa_X12_21 rfl dX12_count_95 ?_
        exact g_iret X rfl rfl rfl dX12_count_98
      · refine g_case (fun h5 => ?_) (fun h5 => ?_)
        · refine g_tin (off := 93) X 99 h5 dX12_count_6 (by decide) (by decide) (by decide) rfl ?_
          refine g_aload_n X dX12_count_99 rfl 0 rfl ?_
          refine g_geti X fa_X12_108 rfl dX12_count_100 ?_
          exact g_iret X rfl rfl rfl dX12_count_103
        · refine g_case (fun h6 => ?_) (fun h6 => ?_)
          · refine g_tin (off := 98) X 104 h6 dX12_count_6 (by decide) (by decide) (by decide) rfl ?_
            refine g_aload_n X dX12_count_104 rfl 0 rfl ?_
            refine g_geti X fa_X12_247 rfl dX12_count_105 ?_
            exact g_iret X rfl rfl rfl dX12_count_108
          · refine g_case (fun h7 => ?_) (fun h7 => ?_)
            · refine g_tin (off := 103) X 109 h7 dX12_count_6 (by decide) (by decide) (by decide) rfl ?_
              refine g_aload_n X dX12_count_109 rfl 0 rfl ?_
              refine g_geti X fa_X12_259 rfl dX12_count_110 ?_
              exact g_iret X rfl rfl rfl dX12_count_113
            · refine g_case (fun h8 => ?_) (fun h8 => ?_)
              · refine g_tin (off := 108) X 114 h8 dX12_count_6 (by decide) (by decide) (by decide) rfl ?_
                refine g_aload_n X dX12_count_114 rfl 0 rfl ?_
                refine g_bVi (As := []) (rest := []) X (c_X12_hungMany l K M1) lk_X12_508 rfl rfl rfl (Nat.le_of_ble_eq_true rfl) ⟨Nat.le_of_ble_eq_true rfl, Nat.le_of_ble_eq_true rfl⟩ ⟨Nat.zero_le _, Nat.zero_le _⟩ dX12_count_115 (fun r9 => ?_)
                exact g_iret X rfl rfl rfl dX12_count_118
              · refine g_case (fun h10 => ?_) (fun h10 => ?_)
                · refine g_tin (off := 113) X 119 h10 dX12_count_6 (by decide) (by decide) (by decide) rfl ?_
                  refine g_aload_n X dX12_count_119 rfl 0 rfl ?_
                  refine g_geti X fa_X12_412 rfl dX12_count_120 ?_
                  exact g_iret X rfl rfl rfl dX12_count_123
                · refine g_case (fun h11 => ?_) (fun h11 => ?_)
                  · refine g_tin (off := 118) X 124 h11 dX12_count_6 (by decide) (by decide) (by decide) rfl ?_
                    refine g_aload_n X dX12_count_124 rfl 0 rfl ?_
                    refine g_geti X fa_X12_422 rfl dX12_count_125 ?_
                    exact g_iret X rfl rfl rfl dX12_count_128
                  · refine g_case (fun h12 => ?_) (fun h12 => ?_)
                    · refine g_tin (off := 123) X 129 h12 dX12_count_6 (by decide) (by decide) (by decide) rfl ?_
                      refine g_aload_n X dX12_count_129 rfl 0 rfl ?_
                      refine g_geti X fa_X12_446 rfl dX12_count_130 ?_
                      exact g_iret X rfl rfl rfl dX12_count_133
                    · refine g_case (fun h13 => ?_) (fun h13 => ?_)
                      · refine g_tin (off := 128) X 134 h13 dX12_count_6 (by decide) (by decide) (by decide) rfl ?_
                        refine g_aload_n X dX12_count_134 rfl 0 rfl ?_
                        refine g_geti X fa_X12_11 rfl dX12_count_135 ?_
                        exact g_iret X rfl rfl rfl dX12_count_138
                      · refine g_case (fun h14 => ?_) (fun h14 => ?_)
                        · refine g_tin (off := 133) X 139 h14 dX12_count_6 (by decide) (by decide) (by decide) rfl ?_
                          refine g_aload_n X dX12_count_139 rfl 0 rfl ?_
                          refine g_geti X fa_X12_177 rfl dX12_count_140 ?_
                          exact g_iret X rfl rfl rfl dX12_count_143
                        · refine g_case (fun h15 => ?_) (fun h15 => ?_)
                          · refine g_tin (off := 138) X 144 h15 dX12_count_6 (by decide) (by decide) (by decide) rfl ?_
                            refine g_aload_n X dX12_count_144 rfl 0 rfl ?_
                            refine g_getr X fa_X12_75 rfl rfl dX12_count_145 ?_
                            refine g_iconst (v := 2) X dX12_count_148 (by decide) ?_
                            refine g_ild X rfl rfl dX12_count_149 (fun v16 => ?_)
                            exact g_iret X rfl rfl rfl dX12_count_150
                          · refine g_case (fun h17 => ?_) (fun h17 => ?_)
                            · refine g_tin (off := 145) X 151 h17 dX12_count_6 (by decide) (by decide) (by decide) rfl ?_
                              refine g_aload_n X dX12_count_151 rfl 0 rfl ?_
                              refine g_getr X fa_X12_75 rfl rfl dX12_count_152 ?_
                              refine g_iconst (v := 3) X dX12_count_155 (by decide) ?_
                              refine g_ild X rfl rfl dX12_count_156 (fun v18 => ?_)
                              exact g_iret X rfl rfl rfl dX12_count_157
                            · refine g_case (fun h19 => ?_) (fun h19 => ?_)
                              · refine g_tin (off := 152) X 158 h19 dX12_count_6 (by decide) (by decide) (by decide) rfl ?_
                                refine g_aload_n X dX12_count_158 rfl 0 rfl ?_
                                refine g_getr X fa_X12_75 rfl rfl dX12_count_159 ?_
                                refine g_iconst (v := 0) X dX12_count_162 (by decide) ?_
                                refine g_ild X rfl rfl dX12_count_163 (fun v20 => ?_)
                                exact g_iret X rfl rfl rfl dX12_count_164
                              · refine g_case (fun h21 => ?_) (fun h21 => ?_)
                                · refine g_tin (off := 159) X 165 h21 dX12_count_6 (by decide) (by decide) (by decide) rfl ?_
                                  refine g_aload_n X dX12_count_165 rfl 0 rfl ?_
                                  refine g_getr X fa_X12_75 rfl rfl dX12_count_166 ?_
                                  refine g_iconst (v := 1) X dX12_count_169 (by decide) ?_
                                  refine g_ild X rfl rfl dX12_count_170 (fun v22 => ?_)
                                  exact g_iret X rfl rfl rfl dX12_count_171
                                · refine g_tdef X [0, 1, 2, 3, 4, 5, 6, 7, 8, 9, 10, 11, 12, 13, 14, 15] 172 (List.forall_mem_cons.mpr ⟨h2, (List.forall_mem_cons.mpr ⟨h3, (List.forall_mem_cons.mpr ⟨h4, (List.forall_mem_cons.mpr ⟨h5, (List.forall_mem_cons.mpr ⟨h6, (List.forall_mem_cons.mpr ⟨h7, (List.forall_mem_cons.mpr ⟨h8, (List.forall_mem_cons.mpr ⟨h10, (List.forall_mem_cons.mpr ⟨h11, (List.forall_mem_cons.mpr ⟨h12, (List.forall_mem_cons.mpr ⟨h13, (List.forall_mem_cons.mpr ⟨h14, (List.forall_mem_cons.mpr ⟨h15, (List.forall_mem_cons.mpr ⟨h17, (List.forall_mem_cons.mpr ⟨h19, (List.forall_mem_cons.mpr ⟨h21, (fun _ z => nomatch z)⟩)⟩)⟩)⟩)⟩)⟩)⟩)⟩)⟩)⟩)⟩)⟩)⟩)⟩)⟩)⟩) dX12_count_6 (by decide) rfl ?_
                                  refine g_iconst (v := (-1)) X dX12_count_172 (by decide) ?_
                                  exact g_iret X rfl rfl rfl dX12_count_173
set_option maxHeartbeats 4000000 in
set_option maxRecDepth 100000 in
theorem c_X12_row (l : Launch) (K : q_KK) (M0 : q_MM) (a1 : Int32) : ∀ res, f_X12_row M0 a1 = some res → Mt l yX12_row cX12_row 2 (some FieldType.int) 1 25 0 0 false K [.ref 5001, .int a1] (qTM, qLM, qPM, M0) (some (.int res.1)) ((qTM, qLM, qPM, res.2)) := by
  refine Mt.of (fun (res : Int32 × q_MM) => some (.int res.1)) (fun (res : Int32 × q_MM) => (qTM, qLM, qPM, res.2)) (by decide) (Nat.le_of_ble_eq_true rfl) ?_
  intro p e s m args below meth c0 A ad X hN
  refine g_sub (lv' := [(0, .ref 5001), (1, .int a1)]) [0, 1] rfl ?_
  unfold f_X12_row
  refine g_aload_n X dX12_row_0 rfl 0 rfl ?_
  refine g_iconst (v := 0) X dX12_row_1 (by decide) ?_
  refine g_pfi X fa_X12_1 rfl (by decide +kernel) rfl dX12_row_2 (fun M1 => ?_)
  refine g_iload_n X dX12_row_5 rfl 1 rfl ?_
  refine g_i2l X dX12_row_6 ?_
  refine g_lconst (v := 0) X dX12_row_7 (by decide) ?_
  refine g_aload_n X dX12_row_8 rfl 0 rfl ?_
  refine g_geti X fa_X12_11 rfl dX12_row_9 ?_
  refine g_iconst (v := 1) X dX12_row_12 (by decide) ?_
  refine g_isub X dX12_row_13 ?_
  refine g_i2l X dX12_row_14 ?_
  refine g_bSi (As := [.long (Int32.toInt64 a1), .long 0, .long (Int32.toInt64 ((M1 5001 1) - 1))]) (rest := []) X (c_X12_in l K M1 (Int32.toInt64 a1) 0 (Int32.toInt64 ((M1 5001 1) - 1))) lk_X12_17 rfl rfl (Nat.le_of_ble_eq_true rfl) ⟨Nat.le_of_ble_eq_true rfl, Nat.le_of_ble_eq_true rfl⟩ ⟨Nat.zero_le _, Nat.zero_le _⟩ dX12_row_15 (fun r2 => ?_)
  refine g_if_eq X 30 dX12_row_18 rfl (fun h3 => ?_) (fun h3 => ?_)
  · refine g_aload_n X dX12_row_30 rfl 0 rfl ?_
    refine g_bVi (As := []) (rest := []) X (c_X12_refuse l K M1) lk_X12_338 rfl rfl rfl (Nat.le_of_ble_eq_true rfl) ⟨Nat.le_of_ble_eq_true rfl, Nat.le_of_ble_eq_true rfl⟩ ⟨Nat.zero_le _, Nat.zero_le _⟩ dX12_row_31 (fun r4 => ?_)
    exact g_iret X rfl rfl rfl dX12_row_34
  · refine g_aload_n X dX12_row_21 rfl 0 rfl ?_
    refine g_getr X fa_X12_7 rfl rfl dX12_row_22 ?_
    refine g_iload_n X dX12_row_25 rfl 1 rfl ?_
    refine g_ild X rfl rfl dX12_row_26 (fun v5 => ?_)
    refine g_goto X 34 dX12_row_27 rfl ?_
    exact g_iret X rfl rfl rfl dX12_row_34
