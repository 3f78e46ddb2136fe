set_option maxHeartbeats 4000000 in
set_option maxRecDepth 100000 in
theorem c_X4_clear (l : Launch) (K : q_KK) (c : Nat → Nat) (M0 : q_MM) (o0 : Nat) : ∀ res, f_X4_clear c M0 o0 = some res → Mt l yX4_clear cX4_clear 1 (none : Option FieldType) 0 0 0 0 false K [.ref o0] ((qTX c), (qLX c), (qPX c), M0) (none) (((qTX c), (qLX c), (qPX c), res)) := by
  refine Mt.of (fun (_ : q_MM) => none) (fun (res : q_MM) => ((qTX c), (qLX c), (qPX c), res)) (by decide) (Nat.le_of_ble_eq_true rfl) ?_
  intro p e s m args below meth c0 A ad X hN
  refine g_sub (lv' := [(0, .ref o0)]) [0] rfl ?_
  unfold f_X4_clear
  refine g_aload_n X dX4_clear_0 rfl 0 rfl ?_
  refine g_iconst (v := 0) X dX4_clear_1 (by decide) ?_
  refine g_ck (fun hT1 => ?_)
  refine g_pfi X fa_X4_15 rfl (by decide +kernel) hT1 dX4_clear_2 (fun M2 => ?_)
  exact g_vret X rfl rfl rfl dX4_clear_5
set_option maxHeartbeats 4000000 in
set_option maxRecDepth 100000 in
theorem c_X3_forget (l : Launch) (K : q_KK) (c : Nat → Nat) (M0 : q_MM) : ∀ res, f_X3_forget c M0 = some res → Mt l yX3_forget cX3_forget 1 (none : Option FieldType) 1 20 0 0 false K [.ref 5] ((qTX c), (qLX c), (qPX c), M0) (none) (((qTX c), (qLX c), (qPX c), res)) := by
  refine Mt.of (fun (_ : q_MM) => none) (fun (res : q_MM) => ((qTX c), (qLX c), (qPX c), res)) (by decide) (Nat.le_of_ble_eq_true rfl) ?_
  intro p e s m args below meth c0 A ad X hN
  refine g_sub (lv' := [(0, .ref 5)]) [0] rfl ?_
  unfold f_X3_forget
  refine g_aload_n X dX3_forget_0 rfl 0 rfl ?_
  refine g_getr X fa_X3_14 rfl rfl dX3_forget_1 ?_
  refine g_bVv (As := []) (rest := []) X (c_X4_clear l K c M0 39) lk_X3_44 rfl rfl rfl (Nat.le_of_ble_eq_true rfl) ⟨Nat.le_of_ble_eq_true rfl, Nat.le_of_ble_eq_true rfl⟩ ⟨Nat.zero_le _, Nat.zero_le _⟩ dX3_forget_4 (fun r1 => ?_)
  refine g_aload_n X dX3_forget_7 rfl 0 rfl ?_
  refine g_getr X fa_X3_20 rfl rfl dX3_forget_8 ?_
  refine g_bVv (As := []) (rest := []) X (c_X4_clear l K c r1 40) lk_X3_44 rfl rfl rfl (Nat.le_of_ble_eq_true rfl) ⟨Nat.le_of_ble_eq_true rfl, Nat.le_of_ble_eq_true rfl⟩ ⟨Nat.zero_le _, Nat.zero_le _⟩ dX3_forget_11 (fun r2 => ?_)
  refine g_aload_n X dX3_forget_14 rfl 0 rfl ?_
  refine g_getr X fa_X3_23 rfl rfl dX3_forget_15 ?_
  refine g_bVv (As := []) (rest := []) X (c_X4_clear l K c r2 41) lk_X3_44 rfl rfl rfl (Nat.le_of_ble_eq_true rfl) ⟨Nat.le_of_ble_eq_true rfl, Nat.le_of_ble_eq_true rfl⟩ ⟨Nat.zero_le _, Nat.zero_le _⟩ dX3_forget_18 (fun r3 => ?_)
  exact g_vret X rfl rfl rfl dX3_forget_21
set_option maxHeartbeats 4000000 in
set_option maxRecDepth 100000 in
theorem c_X3_allMoves (l : Launch) (K : q_KK) (c : Nat → Nat) (M : q_MM) : ∀ res, f_X3_allMoves c M = some res → Mt l yX3_allMoves cX3_allMoves 1 (some FieldType.int) 0 0 0 0 false K [.ref 5] ((qTX c), (qLX c), (qPX c), M) (some (.int res)) (((qTX c), (qLX c), (qPX c), M)) := by
  refine Mt.of (fun (res : Int32) => some (.int res)) (fun (_ : Int32) => ((qTX c), (qLX c), (qPX c), M)) (by decide) (Nat.le_of_ble_eq_true rfl) ?_
  intro p e s m args below meth c0 A ad X hN
  refine g_sub (lv' := [(0, .ref 5)]) [0] rfl ?_
  unfold f_X3_allMoves
  refine g_iconst (v := 1) X dX3_allMoves_0 (by decide) ?_
  refine g_aload_n X dX3_allMoves_1 rfl 0 rfl ?_
  refine g_getr X fa_X3_14 rfl rfl dX3_allMoves_2 ?_
  refine g_geti X fa_X3_47 rfl dX3_allMoves_5 ?_
  refine g_ishl X dX3_allMoves_8 ?_
  refine g_iconst (v := 1) X dX3_allMoves_9 (by decide) ?_
  refine g_isub X dX3_allMoves_10 ?_
  exact g_iret X rfl rfl rfl dX3_allMoves_11
set_option maxHeartbeats 4000000 in
set_option maxRecDepth 100000 in
theorem c_X4_get (l : Launch) (K : q_KK) (c : Nat → Nat) (M : q_MM) (o0 : Nat) (a1 : Int32) : ∀ res, f_X4_get c M o0 a1 = some res → Mt l yX4_get cX4_get 2 (some FieldType.int) 0 0 0 0 false K [.ref o0, .int a1] ((qTX c), (qLX c), (qPX c), M) (some (.int res)) (((qTX c), (qLX c), (qPX c), M)) := by
  refine Mt.of (fun (res : Int32) => some (.int res)) (fun (_ : Int32) => ((qTX c), (qLX c), (qPX c), M)) (by decide) (Nat.le_of_ble_eq_true rfl) ?_
  intro p e s m args below meth c0 A ad X hN
  refine g_sub (lv' := [(0, .ref o0), (1, .int a1)]) [0, 1] rfl ?_
  unfold f_X4_get
  refine g_iload_n X dX4_get_0 rfl 1 rfl ?_
  refine g_if_lt X 21 dX4_get_1 rfl (fun h1 => ?_) (fun h1 => ?_)
  · refine g_iconst (v := (-1)) X dX4_get_21 (by decide) ?_
    exact g_iret X rfl rfl rfl dX4_get_22
  · refine g_iload_n X dX4_get_4 rfl 1 rfl ?_
    refine g_aload_n X dX4_get_5 rfl 0 rfl ?_
    refine g_ck (fun hT2 => ?_)
    refine g_geti X fa_X4_15 hT2 dX4_get_6 ?_
    refine g_icmp_ge X 21 dX4_get_9 rfl (fun h3 => ?_) (fun h3 => ?_)
    · refine g_iconst (v := (-1)) X dX4_get_21 (by decide) ?_
      exact g_iret X rfl rfl rfl dX4_get_22
    · refine g_aload_n X dX4_get_12 rfl 0 rfl ?_
      refine g_getr X fa_X4_9 hT2 rfl dX4_get_13 ?_
      refine g_iload_n X dX4_get_16 rfl 1 rfl ?_
      refine g_ck (fun hT4 => ?_)
      refine g_ild X hT4 rfl dX4_get_17 (fun v5 => ?_)
      refine g_goto X 22 dX4_get_18 rfl ?_
      exact g_iret X rfl rfl rfl dX4_get_22
set_option maxHeartbeats 4000000 in
set_option maxRecDepth 100000 in
theorem c_X3_tryDone (l : Launch) (K : q_KK) (c : Nat → Nat) (M0 : q_MM) (a1 : Int32) : ∀ res, f_X3_tryDone c M0 a1 = some res → Mt l yX3_tryDone cX3_tryDone 3 (none : Option FieldType) 2 81 0 0 false K [.ref 5, .int a1] ((qTX c), (qLX c), (qPX c), M0) (none) (((qTX c), (qLX c), (qPX c), res)) := by
  refine Mt.of (fun (_ : q_MM) => none) (fun (res : q_MM) => ((qTX c), (qLX c), (qPX c), res)) (by decide) (Nat.le_of_ble_eq_true rfl) ?_
  intro p e s m args below meth c0 A ad X hN
  have hb_72 : ∀ (k19 : Int32 → Int32 → q_MM → Option (q_MM)) (hk19 : ∀ (x1 : Int32) (x2 : Int32) (M : q_MM), GG p l e { frames := 2, cells := 0, slots := 0, locals := 81 } s m args below meth c0 K A ((qTX c), (qLX c), (qPX c), M0) ad false 3 (fun res => MQ below (q_Qc K false ad ((qTX c), (qLX c), (qPX c), M0) ((fun (_ : q_MM) => none) res) ((fun (res : q_MM) => ((qTX c), (qLX c), (qPX c), res)) res) A) args s 0 0 A) (k19 x1 x2 M) 19 [(0, .ref 5), (1, .int x1), (2, .int x2)] [] ((qTX c), (qLX c), (qPX c), M) 0 0) (x1 : Int32) (x2 : Int32) (M : q_MM), GG p l e { frames := 2, cells := 0, slots := 0, locals := 81 } s m args below meth c0 K A ((qTX c), (qLX c), (qPX c), M0) ad false 3 (fun res => MQ below (q_Qc K false ad ((qTX c), (qLX c), (qPX c), M0) ((fun (_ : q_MM) => none) res) ((fun (res : q_MM) => ((qTX c), (qLX c), (qPX c), res)) res) A) args s 0 0 A) (b_X3_tryDone_72 c k19 x1 x2 M) 72 [(0, .ref 5), (1, .int x1), (2, .int x2)] [] ((qTX c), (qLX c), (qPX c), M) 0 0 := by
    intro k19 hk19 x1 x2 M
    unfold b_X3_tryDone_72
    refine g_iinc (v := 1) X [(2, .int (x2 + 1)), (0, .ref 5), (1, .int x1)] 2 dX3_tryDone_72 rfl (by decide) (by decide) rfl ?_
    refine g_goto X 19 dX3_tryDone_75 rfl ?_
    exact g_sub [1, 2, 0] rfl (hk19 x1 (x2 + 1) M)
  have hb_19 : ∀ (nf : Nat) (x1 : Int32) (x2 : Int32) (M : q_MM), GG p l e { frames := 2, cells := 0, slots := 0, locals := 81 } s m args below meth c0 K A ((qTX c), (qLX c), (qPX c), M0) ad false 3 (fun res => MQ below (q_Qc K false ad ((qTX c), (qLX c), (qPX c), M0) ((fun (_ : q_MM) => none) res) ((fun (res : q_MM) => ((qTX c), (qLX c), (qPX c), res)) res) A) args s 0 0 A) (b_X3_tryDone_19 c nf x1 x2 M) 19 [(0, .ref 5), (1, .int x1), (2, .int x2)] [] ((qTX c), (qLX c), (qPX c), M) 0 0 := by
    intro  nf
    induction nf with
    | zero => intros; exact g_stop
    | succ nf ih =>
      intro x1 x2 M
      rw [b_X3_tryDone_19]
      refine g_iload_n X dX3_tryDone_19 rfl 2 rfl ?_
      refine g_aload_n X dX3_tryDone_20 rfl 0 rfl ?_
      refine g_getr X fa_X3_14 rfl rfl dX3_tryDone_21 ?_
      refine g_geti X fa_X3_47 rfl dX3_tryDone_24 ?_
      refine g_icmp_ge X 78 dX3_tryDone_27 rfl (fun h1 => ?_) (fun h1 => ?_)
      · exact g_vret X rfl rfl rfl dX3_tryDone_78
      · refine g_iload_n X dX3_tryDone_30 rfl 1 rfl ?_
        refine g_iload_n X dX3_tryDone_31 rfl 2 rfl ?_
        refine g_ishr X dX3_tryDone_32 ?_
        refine g_iconst (v := 1) X dX3_tryDone_33 (by decide) ?_
        refine g_iand X dX3_tryDone_34 ?_
        refine g_if_eq X 72 dX3_tryDone_35 rfl (fun h2 => ?_) (fun h2 => ?_)
        · exact g_sub [0, 1, 2] rfl (hb_72 (b_X3_tryDone_19 c nf) ih x1 x2 M)
        · refine g_aload_n X dX3_tryDone_38 rfl 0 rfl ?_
          refine g_getr X fa_X3_40 rfl rfl dX3_tryDone_39 ?_
          refine g_getr X fa_X3_51 rfl rfl dX3_tryDone_42 ?_
          refine g_aload_n X dX3_tryDone_45 rfl 0 rfl ?_
          refine g_getr X fa_X3_14 rfl rfl dX3_tryDone_46 ?_
          refine g_iload_n X dX3_tryDone_49 rfl 2 rfl ?_
          refine g_bVi (As := [.int x2]) (rest := [.ref 22]) X (c_X4_get l K c M 39 x2) lk_X3_66 rfl rfl rfl (Nat.le_of_ble_eq_true rfl) ⟨Nat.le_of_ble_eq_true rfl, Nat.le_of_ble_eq_true rfl⟩ ⟨Nat.zero_le _, Nat.zero_le _⟩ dX3_tryDone_50 (fun r3 => ?_)
          refine g_aload_n X dX3_tryDone_53 rfl 0 rfl ?_
          refine g_getr X fa_X3_20 rfl rfl dX3_tryDone_54 ?_
          refine g_iload_n X dX3_tryDone_57 rfl 2 rfl ?_
          refine g_bVi (As := [.int x2]) (rest := [.int r3, .ref 22]) X (c_X4_get l K c M 40 x2) lk_X3_66 rfl rfl rfl (Nat.le_of_ble_eq_true rfl) ⟨Nat.le_of_ble_eq_true rfl, Nat.le_of_ble_eq_true rfl⟩ ⟨Nat.zero_le _, Nat.zero_le _⟩ dX3_tryDone_58 (fun r4 => ?_)
          refine g_aload_n X dX3_tryDone_61 rfl 0 rfl ?_
          refine g_getr X fa_X3_23 rfl rfl dX3_tryDone_62 ?_
          refine g_iload_n X dX3_tryDone_65 rfl 2 rfl ?_
          refine g_bVi (As := [.int x2]) (rest := [.int r4, .int r3, .ref 22]) X (c_X4_get l K c M 41 x2) lk_X3_66 rfl rfl rfl (Nat.le_of_ble_eq_true rfl) ⟨Nat.le_of_ble_eq_true rfl, Nat.le_of_ble_eq_true rfl⟩ ⟨Nat.zero_le _, Nat.zero_le _⟩ dX3_tryDone_66 (fun r5 => ?_)
          refine g_bVv (As := [.int r3, .int r4, .int r5]) (rest := []) X (c_X1_put l K c M 22 r3 r4 r5) lk_X3_70 rfl rfl rfl (Nat.le_of_ble_eq_true rfl) ⟨Nat.le_of_ble_eq_true rfl, Nat.le_of_ble_eq_true rfl⟩ ⟨Nat.zero_le _, Nat.zero_le _⟩ dX3_tryDone_69 (fun r6 => ?_)
          exact g_sub [0, 1, 2] rfl (hb_72 (b_X3_tryDone_19 c nf) ih x1 x2 r6)
  refine g_sub (lv' := [(0, .ref 5), (1, .int a1)]) [0, 1] rfl ?_
  unfold f_X3_tryDone
  refine g_aload_n X dX3_tryDone_0 rfl 0 rfl ?_
  refine g_getr X fa_X3_40 rfl rfl dX3_tryDone_1 ?_
  refine g_getr X fa_X3_51 rfl rfl dX3_tryDone_4 ?_
  refine g_aload_n X dX3_tryDone_7 rfl 0 rfl ?_
  refine g_getr X fa_X3_40 rfl rfl dX3_tryDone_8 ?_
  refine g_getr X fa_X3_57 rfl rfl dX3_tryDone_11 ?_
  refine g_bVv (As := [.ref 21]) (rest := []) X (c_X1_become l K c M0 22 21) lk_X3_60 rfl rfl rfl (Nat.le_of_ble_eq_true rfl) ⟨Nat.le_of_ble_eq_true rfl, Nat.le_of_ble_eq_true rfl⟩ ⟨Nat.zero_le _, Nat.zero_le _⟩ dX3_tryDone_14 (fun r7 => ?_)
  refine g_iconst (v := 0) X dX3_tryDone_17 (by decide) ?_
  refine g_istore_n X [(2, .int 0), (0, .ref 5), (1, .int a1)] dX3_tryDone_18 rfl (by decide) rfl ?_
  exact g_sub [1, 2, 0] rfl (hb_19 q_fu a1 0 r7)
set_option maxHeartbeats 4000000 in
set_option maxRecDepth 100000 in
theorem c_X3_canStand (l : Launch) (K : q_KK) (c : Nat → Nat) (M : q_MM) (a1 : Int32) : ∀ res, f_X3_canStand c M a1 = some res → Mt l yX3_canStand cX3_canStand 4 (some FieldType.boolean) 5 107 0 0 false K [.ref 5, .int a1] ((qTX c), (qLX c), (qPX c), M) (some (.int res)) (((qTX c), (qLX c), (qPX c), M)) := by
  refine Mt.of (fun (res : Int32) => some (.int res)) (fun (_ : Int32) => ((qTX c), (qLX c), (qPX c), M)) (by decide) (Nat.le_of_ble_eq_true rfl) ?_
  intro p e s m args below meth c0 A ad X hN
  refine g_sub (lv' := [(0, .ref 5), (1, .int a1)]) [0, 1] rfl ?_
  unfold f_X3_canStand
  refine g_aload_n X dX3_canStand_0 rfl 0 rfl ?_
  refine g_getr X fa_X3_40 rfl rfl dX3_canStand_1 ?_
  refine g_aload_n X dX3_canStand_4 rfl 0 rfl ?_
  refine g_getr X fa_X3_14 rfl rfl dX3_canStand_5 ?_
  refine g_iload_n X dX3_canStand_8 rfl 1 rfl ?_
  refine g_bVi (As := [.int a1]) (rest := [.ref 2]) X (c_X4_get l K c M 39 a1) lk_X3_66 rfl rfl rfl (Nat.le_of_ble_eq_true rfl) ⟨Nat.le_of_ble_eq_true rfl, Nat.le_of_ble_eq_true rfl⟩ ⟨Nat.zero_le _, Nat.zero_le _⟩ dX3_canStand_9 (fun r1 => ?_)
  refine g_bVr (As := [.int r1]) (rest := []) X (c_X2_present l K c M r1) lk_X3_74 rfl rfl rfl (Nat.le_of_ble_eq_true rfl) ⟨Nat.le_of_ble_eq_true rfl, Nat.le_of_ble_eq_true rfl⟩ ⟨Nat.zero_le _, Nat.zero_le _⟩ dX3_canStand_12 (fun r2 => ?_)
  refine g_astore_n X [(2, .ref r2), (0, .ref 5), (1, .int a1)] dX3_canStand_15 rfl (by decide) rfl ?_
  refine g_aload_n X dX3_canStand_16 rfl 1 rfl ?_
  refine g_getr X fa_X3_40 rfl rfl dX3_canStand_17 ?_
  refine g_aload_n X dX3_canStand_20 rfl 1 rfl ?_
  refine g_getr X fa_X3_20 rfl rfl dX3_canStand_21 ?_
  refine g_iload_n X dX3_canStand_24 rfl 2 rfl ?_
  refine g_bVi (As := [.int a1]) (rest := [.ref 2]) X (c_X4_get l K c M 40 a1) lk_X3_66 rfl rfl rfl (Nat.le_of_ble_eq_true rfl) ⟨Nat.le_of_ble_eq_true rfl, Nat.le_of_ble_eq_true rfl⟩ ⟨Nat.zero_le _, Nat.zero_le _⟩ dX3_canStand_25 (fun r3 => ?_)
  refine g_bVr (As := [.int r3]) (rest := []) X (c_X2_wallAt l K c M r3) lk_X3_78 rfl rfl rfl (Nat.le_of_ble_eq_true rfl) ⟨Nat.le_of_ble_eq_true rfl, Nat.le_of_ble_eq_true rfl⟩ ⟨Nat.zero_le _, Nat.zero_le _⟩ dX3_canStand_28 (fun r4 => ?_)
  refine g_astore_n X [(3, .ref r4), (2, .ref r2), (0, .ref 5), (1, .int a1)] dX3_canStand_31 rfl (by decide) rfl ?_
  refine g_aload_n X dX3_canStand_32 rfl 1 rfl ?_
  refine g_ifnull X 71 dX3_canStand_33 rfl (fun h5 => ?_) (fun h5 => ?_)
  · refine g_iconst (v := 0) X dX3_canStand_71 (by decide) ?_
    exact g_zret X rfl rfl rfl dX3_canStand_72
  · refine g_aload_n X dX3_canStand_36 rfl 0 rfl ?_
    refine g_ifnull X 71 dX3_canStand_37 rfl (fun h6 => ?_) (fun h6 => ?_)
    · refine g_iconst (v := 0) X dX3_canStand_71 (by decide) ?_
      exact g_zret X rfl rfl rfl dX3_canStand_72
    · refine g_aload_n X dX3_canStand_40 rfl 2 rfl ?_
      refine g_getr X fa_X3_40 rfl rfl dX3_canStand_41 ?_
      refine g_aload_n X dX3_canStand_44 rfl 2 rfl ?_
      refine g_getr X fa_X3_40 rfl rfl dX3_canStand_45 ?_
      refine g_getr X fa_X3_51 rfl rfl dX3_canStand_48 ?_
      refine g_aload_n X dX3_canStand_51 rfl 1 rfl ?_
      refine g_aload_n X dX3_canStand_52 rfl 0 rfl ?_
      refine g_aload_n X dX3_canStand_53 rfl 2 rfl ?_
      refine g_getr X fa_X3_23 rfl rfl dX3_canStand_54 ?_
      refine g_iload_n X dX3_canStand_57 rfl 3 rfl ?_
      refine g_bVi (As := [.int a1]) (rest := [.ref r4, .ref r2, .ref 22, .ref 2]) X (c_X4_get l K c M 41 a1) lk_X3_66 rfl rfl rfl (Nat.le_of_ble_eq_true rfl) ⟨Nat.le_of_ble_eq_true rfl, Nat.le_of_ble_eq_true rfl⟩ ⟨Nat.zero_le _, Nat.zero_le _⟩ dX3_canStand_58 (fun r7 => ?_)
      refine g_bVi (As := [.ref 22, .ref r2, .ref r4, .int r7]) (rest := []) X (c_X2_hindrance l K c M 22 r2 r4 r7) lk_X3_82 rfl rfl rfl (Nat.le_of_ble_eq_true rfl) ⟨Nat.le_of_ble_eq_true rfl, Nat.le_of_ble_eq_true rfl⟩ ⟨Nat.zero_le _, Nat.zero_le _⟩ dX3_canStand_61 (fun r8 => ?_)
      refine g_if_ne X 71 dX3_canStand_64 rfl (fun h9 => ?_) (fun h9 => ?_)
      · refine g_iconst (v := 1) X dX3_canStand_67 (by decide) ?_
        refine g_goto X 72 dX3_canStand_68 rfl ?_
        exact g_zret X rfl rfl rfl dX3_canStand_72
      · refine g_iconst (v := 0) X dX3_canStand_71 (by decide) ?_
        exact g_zret X rfl rfl rfl dX3_canStand_72
set_option maxHeartbeats 4000000 in
set_option maxRecDepth 100000 in
theorem c_X3_allCanStand (l : Launch) (K : q_KK) (c : Nat → Nat) (M0 : q_MM) : ∀ res, f_X3_allCanStand c M0 = some res → Mt l yX3_allCanStand cX3_allCanStand 2 (some FieldType.boolean) 6 130 0 0 false K [.ref 5] ((qTX c), (qLX c), (qPX c), M0) (some (.int res.1)) (((qTX c), (qLX c), (qPX c), res.2)) := by
  refine Mt.of (fun (res : Int32 × q_MM) => some (.int res.1)) (fun (res : Int32 × q_MM) => ((qTX c), (qLX c), (qPX c), res.2)) (by decide) (Nat.le_of_ble_eq_true rfl) ?_
  intro p e s m args below meth c0 A ad X hN
  have hb_10 : ∀ (nf : Nat) (x1 : Int32) (M : q_MM), GG p l e { frames := 6, cells := 0, slots := 0, locals := 130 } s m args below meth c0 K A ((qTX c), (qLX c), (qPX c), M0) ad false 2 (fun res => MQ below (q_Qc K false ad ((qTX c), (qLX c), (qPX c), M0) ((fun (res : Int32 × q_MM) => some (.int res.1)) res) ((fun (res : Int32 × q_MM) => ((qTX c), (qLX c), (qPX c), res.2)) res) A) args s 0 0 A) (b_X3_allCanStand_10 c nf x1 M) 10 [(0, .ref 5), (1, .int x1)] [] ((qTX c), (qLX c), (qPX c), M) 0 0 := by
    intro  nf
    induction nf with
    | zero => intros; exact g_stop
    | succ nf ih =>
      intro x1 M
      rw [b_X3_allCanStand_10]
      refine g_iload_n X dX3_allCanStand_10 rfl 1 rfl ?_
      refine g_aload_n X dX3_allCanStand_11 rfl 0 rfl ?_
      refine g_getr X fa_X3_14 rfl rfl dX3_allCanStand_12 ?_
      refine g_geti X fa_X3_47 rfl dX3_allCanStand_15 ?_
      refine g_icmp_ge X 37 dX3_allCanStand_18 rfl (fun h1 => ?_) (fun h1 => ?_)
      · refine g_iconst (v := 1) X dX3_allCanStand_37 (by decide) ?_
        exact g_zret X rfl rfl rfl dX3_allCanStand_38
      · refine g_aload_n X dX3_allCanStand_21 rfl 0 rfl ?_
        refine g_iload_n X dX3_allCanStand_22 rfl 1 rfl ?_
        refine g_bVi (As := [.int x1]) (rest := []) X (c_X3_canStand l K c M x1) lk_X3_93 rfl rfl rfl (Nat.le_of_ble_eq_true rfl) ⟨Nat.le_of_ble_eq_true rfl, Nat.le_of_ble_eq_true rfl⟩ ⟨Nat.zero_le _, Nat.zero_le _⟩ dX3_allCanStand_23 (fun r2 => ?_)
        refine g_if_ne X 31 dX3_allCanStand_26 rfl (fun h3 => ?_) (fun h3 => ?_)
        · refine g_iconst (v := 0) X dX3_allCanStand_29 (by decide) ?_
          exact g_zret X rfl rfl rfl dX3_allCanStand_30
        · refine g_iinc (v := 1) X [(1, .int (x1 + 1)), (0, .ref 5)] 1 dX3_allCanStand_31 rfl (by decide) (by decide) rfl ?_
          refine g_goto X 10 dX3_allCanStand_34 rfl ?_
          exact g_sub [1, 0] rfl (ih (x1 + 1) M)
  refine g_sub (lv' := [(0, .ref 5)]) [0] rfl ?_
  unfold f_X3_allCanStand
  refine g_aload_n X dX3_allCanStand_0 rfl 0 rfl ?_
  refine g_aload_n X dX3_allCanStand_1 rfl 0 rfl ?_
  refine g_bVi (As := []) (rest := [.ref 5]) X (c_X3_allMoves l K c M0) lk_X3_86 rfl rfl rfl (Nat.le_of_ble_eq_true rfl) ⟨Nat.le_of_ble_eq_true rfl, Nat.le_of_ble_eq_true rfl⟩ ⟨Nat.zero_le _, Nat.zero_le _⟩ dX3_allCanStand_2 (fun r4 => ?_)
  refine g_bVv (As := [.int r4]) (rest := []) X (c_X3_tryDone l K c M0 r4) lk_X3_90 rfl rfl rfl (Nat.le_of_ble_eq_true rfl) ⟨Nat.le_of_ble_eq_true rfl, Nat.le_of_ble_eq_true rfl⟩ ⟨Nat.zero_le _, Nat.zero_le _⟩ dX3_allCanStand_5 (fun r5 => ?_)
  refine g_iconst (v := 0) X dX3_allCanStand_8 (by decide) ?_
  refine g_istore_n X [(1, .int 0), (0, .ref 5)] dX3_allCanStand_9 rfl (by decide) rfl ?_
  exact g_sub [1, 0] rfl (hb_10 q_fu 0 r5)
set_option maxHeartbeats 4000000 in
set_option maxRecDepth 100000 in
theorem c_X3_roomsOf (l : Launch) (K : q_KK) (c : Nat → Nat) (M : q_MM) (a1 : Int32) : ∀ res, f_X3_roomsOf c M a1 = some res → Mt l yX3_roomsOf cX3_roomsOf 4 (some FieldType.int) 4 85 0 0 false K [.ref 5, .int a1] ((qTX c), (qLX c), (qPX c), M) (some (.int res)) (((qTX c), (qLX c), (qPX c), M)) := by
  refine Mt.of (fun (res : Int32) => some (.int res)) (fun (_ : Int32) => ((qTX c), (qLX c), (qPX c), M)) (by decide) (Nat.le_of_ble_eq_true rfl) ?_
  intro p e s m args below meth c0 A ad X hN
  have hb_70 : ∀ (s0 : Int32) (s1 : Int32), GG p l e { frames := 4, cells := 0, slots := 0, locals := 85 } s m args below meth c0 K A ((qTX c), (qLX c), (qPX c), M) ad false 4 (fun res => MQ below (q_Qc K false ad ((qTX c), (qLX c), (qPX c), M) ((fun (res : Int32) => some (.int res)) res) ((fun (_ : Int32) => ((qTX c), (qLX c), (qPX c), M)) res) A) args s 0 0 A) (b_X3_roomsOf_70 c M s0 s1) 70 [] [.int s0, .int s1] ((qTX c), (qLX c), (qPX c), M) 0 0 := by
    intro s0 s1
    unfold b_X3_roomsOf_70
    refine g_ior X dX3_roomsOf_70 ?_
    exact g_iret X rfl rfl rfl dX3_roomsOf_71
  have hb_56 : ∀ (x3 : Nat) (s0 : Int32), GG p l e { frames := 4, cells := 0, slots := 0, locals := 85 } s m args below meth c0 K A ((qTX c), (qLX c), (qPX c), M) ad false 4 (fun res => MQ below (q_Qc K false ad ((qTX c), (qLX c), (qPX c), M) ((fun (res : Int32) => some (.int res)) res) ((fun (_ : Int32) => ((qTX c), (qLX c), (qPX c), M)) res) A) args s 0 0 A) (b_X3_roomsOf_56 c M x3 s0) 56 [(3, .ref x3)] [.int s0] ((qTX c), (qLX c), (qPX c), M) 0 0 := by
    intro x3 s0
    unfold b_X3_roomsOf_56
    refine g_aload_n X dX3_roomsOf_56 rfl 0 rfl ?_
    refine g_ifnonnull X 64 dX3_roomsOf_57 rfl (fun h1 => ?_) (fun h1 => ?_)
    · refine g_iconst (v := 0) X dX3_roomsOf_60 (by decide) ?_
      refine g_goto X 70 dX3_roomsOf_61 rfl ?_
      exact g_sub [] rfl (hb_70 0 s0)
    · refine g_iconst (v := 1) X dX3_roomsOf_64 (by decide) ?_
      refine g_aload_n X dX3_roomsOf_65 rfl 0 rfl ?_
      refine g_ck (fun hT2 => ?_)
      refine g_geti X fa_X3_100 hT2 dX3_roomsOf_66 ?_
      refine g_ishl X dX3_roomsOf_69 ?_
      exact g_sub [] rfl (hb_70 ((1 : Int32) <<< ((M x3 1) &&& 31)) s0)
  refine g_sub (lv' := [(0, .ref 5), (1, .int a1)]) [0, 1] rfl ?_
  unfold f_X3_roomsOf
  refine g_aload_n X dX3_roomsOf_0 rfl 0 rfl ?_
  refine g_getr X fa_X3_40 rfl rfl dX3_roomsOf_1 ?_
  refine g_aload_n X dX3_roomsOf_4 rfl 0 rfl ?_
  refine g_getr X fa_X3_40 rfl rfl dX3_roomsOf_5 ?_
  refine g_getr X fa_X3_57 rfl rfl dX3_roomsOf_8 ?_
  refine g_aload_n X dX3_roomsOf_11 rfl 0 rfl ?_
  refine g_getr X fa_X3_14 rfl rfl dX3_roomsOf_12 ?_
  refine g_iload_n X dX3_roomsOf_15 rfl 1 rfl ?_
  refine g_bVi (As := [.int a1]) (rest := [.ref 21, .ref 2]) X (c_X4_get l K c M 39 a1) lk_X3_66 rfl rfl rfl (Nat.le_of_ble_eq_true rfl) ⟨Nat.le_of_ble_eq_true rfl, Nat.le_of_ble_eq_true rfl⟩ ⟨Nat.zero_le _, Nat.zero_le _⟩ dX3_roomsOf_16 (fun r3 => ?_)
  refine g_bVi (As := [.int r3]) (rest := [.ref 2]) X (c_X1_wallUnder l K c M 21 r3) lk_X3_97 rfl rfl rfl (Nat.le_of_ble_eq_true rfl) ⟨Nat.le_of_ble_eq_true rfl, Nat.le_of_ble_eq_true rfl⟩ ⟨Nat.zero_le _, Nat.zero_le _⟩ dX3_roomsOf_19 (fun r4 => ?_)
  refine g_bVr (As := [.int r4]) (rest := []) X (c_X2_wallAt l K c M r4) lk_X3_78 rfl rfl rfl (Nat.le_of_ble_eq_true rfl) ⟨Nat.le_of_ble_eq_true rfl, Nat.le_of_ble_eq_true rfl⟩ ⟨Nat.zero_le _, Nat.zero_le _⟩ dX3_roomsOf_22 (fun r5 => ?_)
  refine g_astore_n X [(2, .ref r5), (0, .ref 5), (1, .int a1)] dX3_roomsOf_25 rfl (by decide) rfl ?_
  refine g_aload_n X dX3_roomsOf_26 rfl 1 rfl ?_
  refine g_getr X fa_X3_40 rfl rfl dX3_roomsOf_27 ?_
  refine g_aload_n X dX3_roomsOf_30 rfl 1 rfl ?_
  refine g_getr X fa_X3_20 rfl rfl dX3_roomsOf_31 ?_
  refine g_iload_n X dX3_roomsOf_34 rfl 2 rfl ?_
  refine g_bVi (As := [.int a1]) (rest := [.ref 2]) X (c_X4_get l K c M 40 a1) lk_X3_66 rfl rfl rfl (Nat.le_of_ble_eq_true rfl) ⟨Nat.le_of_ble_eq_true rfl, Nat.le_of_ble_eq_true rfl⟩ ⟨Nat.zero_le _, Nat.zero_le _⟩ dX3_roomsOf_35 (fun r6 => ?_)
  refine g_bVr (As := [.int r6]) (rest := []) X (c_X2_wallAt l K c M r6) lk_X3_78 rfl rfl rfl (Nat.le_of_ble_eq_true rfl) ⟨Nat.le_of_ble_eq_true rfl, Nat.le_of_ble_eq_true rfl⟩ ⟨Nat.zero_le _, Nat.zero_le _⟩ dX3_roomsOf_38 (fun r7 => ?_)
  refine g_astore_n X [(3, .ref r7), (2, .ref r5), (0, .ref 5), (1, .int a1)] dX3_roomsOf_41 rfl (by decide) rfl ?_
  refine g_aload_n X dX3_roomsOf_42 rfl 1 rfl ?_
  refine g_ifnonnull X 50 dX3_roomsOf_43 rfl (fun h8 => ?_) (fun h8 => ?_)
  · refine g_iconst (v := 0) X dX3_roomsOf_46 (by decide) ?_
    refine g_goto X 56 dX3_roomsOf_47 rfl ?_
    exact g_sub [0] rfl (hb_56 r7 0)
  · refine g_iconst (v := 1) X dX3_roomsOf_50 (by decide) ?_
    refine g_aload_n X dX3_roomsOf_51 rfl 1 rfl ?_
    refine g_ck (fun hT9 => ?_)
    refine g_geti X fa_X3_100 hT9 dX3_roomsOf_52 ?_
    refine g_ishl X dX3_roomsOf_55 ?_
    exact g_sub [0] rfl (hb_56 r7 ((1 : Int32) <<< ((M r5 1) &&& 31)))
set_option maxHeartbeats 4000000 in
set_option maxRecDepth 100000 in
theorem c_X3_lookAtSets (l : Launch) (K : q_KK) (c : Nat → Nat) (M0 : q_MM) : ∀ res, f_X3_lookAtSets c M0 = some res → Mt l yX3_lookAtSets cX3_lookAtSets 4 (none : Option FieldType) 6 130 0 0 false K [.ref 5] ((qTX c), (qLX c), (qPX c), M0) (none) (((qTX c), (qLX c), (qPX c), res)) := by
  refine Mt.of (fun (_ : q_MM) => none) (fun (res : q_MM) => ((qTX c), (qLX c), (qPX c), res)) (by decide) (Nat.le_of_ble_eq_true rfl) ?_
  intro p e s m args below meth c0 A ad X hN
  have hb_89 : ∀ (k33 : Int32 → Int32 → Int32 → q_MM → Option (q_MM)) (hk33 : ∀ (x1 : Int32) (x2 : Int32) (x3 : Int32) (M : q_MM), GG p l e { frames := 6, cells := 0, slots := 0, locals := 130 } s m args below meth c0 K A ((qTX c), (qLX c), (qPX c), M0) ad false 4 (fun res => MQ below (q_Qc K false ad ((qTX c), (qLX c), (qPX c), M0) ((fun (_ : q_MM) => none) res) ((fun (res : q_MM) => ((qTX c), (qLX c), (qPX c), res)) res) A) args s 0 0 A) (k33 x1 x2 x3 M) 33 [(0, .ref 5), (1, .int x1), (2, .int x2), (3, .int x3)] [] ((qTX c), (qLX c), (qPX c), M) 0 0) (x1 : Int32) (x2 : Int32) (x3 : Int32) (M : q_MM), GG p l e { frames := 6, cells := 0, slots := 0, locals := 130 } s m args below meth c0 K A ((qTX c), (qLX c), (qPX c), M0) ad false 4 (fun res => MQ below (q_Qc K false ad ((qTX c), (qLX c), (qPX c), M0) ((fun (_ : q_MM) => none) res) ((fun (res : q_MM) => ((qTX c), (qLX c), (qPX c), res)) res) A) args s 0 0 A) (b_X3_lookAtSets_89 c k33 x1 x2 x3 M) 89 [(0, .ref 5), (1, .int x1), (2, .int x2), (3, .int x3)] [] ((qTX c), (qLX c), (qPX c), M) 0 0 := by
    intro k33 hk33 x1 x2 x3 M
    unfold b_X3_lookAtSets_89
    refine g_iinc (v := 1) X [(3, .int (x3 + 1)), (0, .ref 5), (1, .int x1), (2, .int x2)] 3 dX3_lookAtSets_89 rfl (by decide) (by decide) rfl ?_
    refine g_goto X 33 dX3_lookAtSets_92 rfl ?_
    exact g_sub [1, 2, 3, 0] rfl (hk33 x1 x2 (x3 + 1) M)
  have hb_33 : ∀ (k7 : Int32 → Int32 → q_MM → Option (q_MM)) (hk7 : ∀ (x1 : Int32) (x2 : Int32) (M : q_MM), GG p l e { frames := 6, cells := 0, slots := 0, locals := 130 } s m args below meth c0 K A ((qTX c), (qLX c), (qPX c), M0) ad false 4 (fun res => MQ below (q_Qc K false ad ((qTX c), (qLX c), (qPX c), M0) ((fun (_ : q_MM) => none) res) ((fun (res : q_MM) => ((qTX c), (qLX c), (qPX c), res)) res) A) args s 0 0 A) (k7 x1 x2 M) 7 [(0, .ref 5), (1, .int x1), (2, .int x2)] [] ((qTX c), (qLX c), (qPX c), M) 0 0) (nf : Nat) (x1 : Int32) (x2 : Int32) (x3 : Int32) (M : q_MM), GG p l e { frames := 6, cells := 0, slots := 0, locals := 130 } s m args below meth c0 K A ((qTX c), (qLX c), (qPX c), M0) ad false 4 (fun res => MQ below (q_Qc K false ad ((qTX c), (qLX c), (qPX c), M0) ((fun (_ : q_MM) => none) res) ((fun (res : q_MM) => ((qTX c), (qLX c), (qPX c), res)) res) A) args s 0 0 A) (b_X3_lookAtSets_33 c k7 nf x1 x2 x3 M) 33 [(0, .ref 5), (1, .int x1), (2, .int x2), (3, .int x3)] [] ((qTX c), (qLX c), (qPX c), M) 0 0 := by
    intro k7 hk7 nf
    induction nf with
    | zero => intros; exact g_stop
    | succ nf ih =>
      intro x1 x2 x3 M
      rw [b_X3_lookAtSets_33]
      refine g_iload_n X dX3_lookAtSets_33 rfl 3 rfl ?_
      refine g_aload_n X dX3_lookAtSets_34 rfl 0 rfl ?_
      refine g_getr X fa_X3_14 rfl rfl dX3_lookAtSets_35 ?_
      refine g_geti X fa_X3_47 rfl dX3_lookAtSets_38 ?_
      refine g_icmp_ge X 95 dX3_lookAtSets_41 rfl (fun h1 => ?_) (fun h1 => ?_)
      · refine g_iinc (v := 1) X [(2, .int (x2 + 1)), (0, .ref 5), (1, .int x1), (3, .int x3)] 2 dX3_lookAtSets_95 rfl (by decide) (by decide) rfl ?_
        refine g_goto X 7 dX3_lookAtSets_98 rfl ?_
        exact g_sub [1, 2, 0] rfl (hk7 x1 (x2 + 1) M)
      · refine g_iload_n X dX3_lookAtSets_44 rfl 2 rfl ?_
        refine g_iload_n X dX3_lookAtSets_45 rfl 3 rfl ?_
        refine g_ishr X dX3_lookAtSets_46 ?_
        refine g_iconst (v := 1) X dX3_lookAtSets_47 (by decide) ?_
        refine g_iand X dX3_lookAtSets_48 ?_
        refine g_if_eq X 69 dX3_lookAtSets_49 rfl (fun h2 => ?_) (fun h2 => ?_)
        · refine g_aload_n X dX3_lookAtSets_69 rfl 0 rfl ?_
          refine g_iload_n X dX3_lookAtSets_70 rfl 3 rfl ?_
          refine g_bVi (As := [.int x3]) (rest := []) X (c_X3_canStand l K c M x3) lk_X3_93 rfl rfl rfl (Nat.le_of_ble_eq_true rfl) ⟨Nat.le_of_ble_eq_true rfl, Nat.le_of_ble_eq_true rfl⟩ ⟨Nat.zero_le _, Nat.zero_le _⟩ dX3_lookAtSets_71 (fun r3 => ?_)
          refine g_if_eq X 89 dX3_lookAtSets_74 rfl (fun h4 => ?_) (fun h4 => ?_)
          · exact g_sub [0, 1, 2, 3] rfl (hb_89 (b_X3_lookAtSets_33 c k7 nf) ih x1 x2 x3 M)
          · refine g_aload_n X dX3_lookAtSets_77 rfl 0 rfl ?_
            refine g_getr X fa_X3_26 rfl rfl dX3_lookAtSets_78 ?_
            refine g_iload_n X dX3_lookAtSets_81 rfl 2 rfl ?_
            refine g_dup2 X dX3_lookAtSets_82 rfl rfl ?_
            refine g_ild X rfl rfl dX3_lookAtSets_83 (fun v5 => ?_)
            refine g_iconst (v := 1) X dX3_lookAtSets_84 (by decide) ?_
            refine g_iload_n X dX3_lookAtSets_85 rfl 3 rfl ?_
            refine g_ishl X dX3_lookAtSets_86 ?_
            refine g_ior X dX3_lookAtSets_87 ?_
            refine g_isv X rfl rfl dX3_lookAtSets_88 (fun M6 => ?_)
            exact g_sub [0, 1, 2, 3] rfl (hb_89 (b_X3_lookAtSets_33 c k7 nf) ih x1 x2 x3 M6)
        · refine g_aload_n X dX3_lookAtSets_52 rfl 0 rfl ?_
          refine g_getr X fa_X3_30 rfl rfl dX3_lookAtSets_53 ?_
          refine g_iload_n X dX3_lookAtSets_56 rfl 2 rfl ?_
          refine g_dup2 X dX3_lookAtSets_57 rfl rfl ?_
          refine g_ild X rfl rfl dX3_lookAtSets_58 (fun v7 => ?_)
          refine g_aload_n X dX3_lookAtSets_59 rfl 0 rfl ?_
          refine g_iload_n X dX3_lookAtSets_60 rfl 3 rfl ?_
          refine g_bVi (As := [.int x3]) (rest := [.int v7, .int x2, .ref 43]) X (c_X3_roomsOf l K c M x3) lk_X3_105 rfl rfl rfl (Nat.le_of_ble_eq_true rfl) ⟨Nat.le_of_ble_eq_true rfl, Nat.le_of_ble_eq_true rfl⟩ ⟨Nat.zero_le _, Nat.zero_le _⟩ dX3_lookAtSets_61 (fun r8 => ?_)
          refine g_ior X dX3_lookAtSets_64 ?_
          refine g_isv X rfl rfl dX3_lookAtSets_65 (fun M9 => ?_)
          refine g_goto X 89 dX3_lookAtSets_66 rfl ?_
          exact g_sub [0, 1, 2, 3] rfl (hb_89 (b_X3_lookAtSets_33 c k7 nf) ih x1 x2 x3 M9)
  have hb_7 : ∀ (nf : Nat) (x1 : Int32) (x2 : Int32) (M : q_MM), GG p l e { frames := 6, cells := 0, slots := 0, locals := 130 } s m args below meth c0 K A ((qTX c), (qLX c), (qPX c), M0) ad false 4 (fun res => MQ below (q_Qc K false ad ((qTX c), (qLX c), (qPX c), M0) ((fun (_ : q_MM) => none) res) ((fun (res : q_MM) => ((qTX c), (qLX c), (qPX c), res)) res) A) args s 0 0 A) (b_X3_lookAtSets_7 c nf x1 x2 M) 7 [(0, .ref 5), (1, .int x1), (2, .int x2)] [] ((qTX c), (qLX c), (qPX c), M) 0 0 := by
    intro  nf
    induction nf with
    | zero => intros; exact g_stop
    | succ nf ih =>
      intro x1 x2 M
      rw [b_X3_lookAtSets_7]
      refine g_iload_n X dX3_lookAtSets_7 rfl 2 rfl ?_
      refine g_iload_n X dX3_lookAtSets_8 rfl 1 rfl ?_
      refine g_icmp_gt X 101 dX3_lookAtSets_9 rfl (fun h10 => ?_) (fun h10 => ?_)
      · exact g_vret X rfl rfl rfl dX3_lookAtSets_101
      · refine g_aload_n X dX3_lookAtSets_12 rfl 0 rfl ?_
        refine g_iload_n X dX3_lookAtSets_13 rfl 2 rfl ?_
        refine g_bVv (As := [.int x2]) (rest := []) X (c_X3_tryDone l K c M x2) lk_X3_90 rfl rfl rfl (Nat.le_of_ble_eq_true rfl) ⟨Nat.le_of_ble_eq_true rfl, Nat.le_of_ble_eq_true rfl⟩ ⟨Nat.zero_le _, Nat.zero_le _⟩ dX3_lookAtSets_14 (fun r11 => ?_)
        refine g_aload_n X dX3_lookAtSets_17 rfl 0 rfl ?_
        refine g_getr X fa_X3_26 rfl rfl dX3_lookAtSets_18 ?_
        refine g_iload_n X dX3_lookAtSets_21 rfl 2 rfl ?_
        refine g_iconst (v := 0) X dX3_lookAtSets_22 (by decide) ?_
        refine g_isv X rfl rfl dX3_lookAtSets_23 (fun M12 => ?_)
        refine g_aload_n X dX3_lookAtSets_24 rfl 0 rfl ?_
        refine g_getr X fa_X3_30 rfl rfl dX3_lookAtSets_25 ?_
        refine g_iload_n X dX3_lookAtSets_28 rfl 2 rfl ?_
        refine g_iconst (v := 0) X dX3_lookAtSets_29 (by decide) ?_
        refine g_isv X rfl rfl dX3_lookAtSets_30 (fun M13 => ?_)
        refine g_iconst (v := 0) X dX3_lookAtSets_31 (by decide) ?_
        refine g_istore_n X [(3, .int 0), (0, .ref 5), (1, .int x1), (2, .int x2)] dX3_lookAtSets_32 rfl (by decide) rfl ?_
        exact g_sub [1, 2, 3, 0] rfl (hb_33 (b_X3_lookAtSets_7 c nf) ih q_fu x1 x2 0 M13)
  refine g_sub (lv' := [(0, .ref 5)]) [0] rfl ?_
  unfold f_X3_lookAtSets
  refine g_aload_n X dX3_lookAtSets_0 rfl 0 rfl ?_
  refine g_bVi (As := []) (rest := []) X (c_X3_allMoves l K c M0) lk_X3_86 rfl rfl rfl (Nat.le_of_ble_eq_true rfl) ⟨Nat.le_of_ble_eq_true rfl, Nat.le_of_ble_eq_true rfl⟩ ⟨Nat.zero_le _, Nat.zero_le _⟩ dX3_lookAtSets_1 (fun r14 => ?_)
  refine g_istore_n X [(1, .int r14), (0, .ref 5)] dX3_lookAtSets_4 rfl (by decide) rfl ?_
  refine g_iconst (v := 0) X dX3_lookAtSets_5 (by decide) ?_
  refine g_istore_n X [(2, .int 0), (1, .int r14), (0, .ref 5)] dX3_lookAtSets_6 rfl (by decide) rfl ?_
  exact g_sub [2, 1, 0] rfl (hb_7 q_fu r14 0 M0)
set_option maxHeartbeats 4000000 in
set_option maxRecDepth 100000 in
theorem c_X3_reachFrom (l : Launch) (K : q_KK) (c : Nat → Nat) (M0 : q_MM) (a1 : Int32) : ∀ res, f_X3_reachFrom c M0 a1 = some res → Mt l yX3_reachFrom cX3_reachFrom 7 (none : Option FieldType) 1 20 0 0 false K [.ref 5, .int a1] ((qTX c), (qLX c), (qPX c), M0) (none) (((qTX c), (qLX c), (qPX c), res)) := by
  refine Mt.of (fun (_ : q_MM) => none) (fun (res : q_MM) => ((qTX c), (qLX c), (qPX c), res)) (by decide) (Nat.le_of_ble_eq_true rfl) ?_
  intro p e s m args below meth c0 A ad X hN
  have hb_122 : ∀ (k31 : Int32 → Int32 → Int32 → Int32 → q_MM → Option (q_MM)) (hk31 : ∀ (x1 : Int32) (x2 : Int32) (x3 : Int32) (x4 : Int32) (M : q_MM), GG p l e { frames := 1, cells := 0, slots := 0, locals := 20 } s m args below meth c0 K A ((qTX c), (qLX c), (qPX c), M0) ad false 7 (fun res => MQ below (q_Qc K false ad ((qTX c), (qLX c), (qPX c), M0) ((fun (_ : q_MM) => none) res) ((fun (res : q_MM) => ((qTX c), (qLX c), (qPX c), res)) res) A) args s 0 0 A) (k31 x1 x2 x3 x4 M) 31 [(0, .ref 5), (1, .int x1), (2, .int x2), (3, .int x3), (4, .int x4)] [] ((qTX c), (qLX c), (qPX c), M) 0 0) (x1 : Int32) (x2 : Int32) (x3 : Int32) (x4 : Int32) (s0 : Int32) (s1 : Int32) (s2 : Nat) (M : q_MM), GG p l e { frames := 1, cells := 0, slots := 0, locals := 20 } s m args below meth c0 K A ((qTX c), (qLX c), (qPX c), M0) ad false 7 (fun res => MQ below (q_Qc K false ad ((qTX c), (qLX c), (qPX c), M0) ((fun (_ : q_MM) => none) res) ((fun (res : q_MM) => ((qTX c), (qLX c), (qPX c), res)) res) A) args s 0 0 A) (b_X3_reachFrom_122 c k31 x1 x2 x3 x4 s0 s1 s2 M) 122 [(0, .ref 5), (1, .int x1), (2, .int x2), (3, .int x3), (4, .int x4)] [.int s0, .int s1, .ref s2] ((qTX c), (qLX c), (qPX c), M) 0 0 := by
    intro k31 hk31 x1 x2 x3 x4 s0 s1 s2 M
    unfold b_X3_reachFrom_122
    refine g_ck (fun hT1 => ?_)
    refine g_bsv X hT1 rfl dX3_reachFrom_122 (fun M2 => ?_)
    refine g_iinc (v := 1) X [(4, .int (x4 + 1)), (0, .ref 5), (1, .int x1), (2, .int x2), (3, .int x3)] 4 dX3_reachFrom_123 rfl (by decide) (by decide) rfl ?_
    refine g_goto X 31 dX3_reachFrom_126 rfl ?_
    exact g_sub [1, 2, 3, 4, 0] rfl (hk31 x1 x2 x3 (x4 + 1) M2)
  have hb_121 : ∀ (k31 : Int32 → Int32 → Int32 → Int32 → q_MM → Option (q_MM)) (hk31 : ∀ (x1 : Int32) (x2 : Int32) (x3 : Int32) (x4 : Int32) (M : q_MM), GG p l e { frames := 1, cells := 0, slots := 0, locals := 20 } s m args below meth c0 K A ((qTX c), (qLX c), (qPX c), M0) ad false 7 (fun res => MQ below (q_Qc K false ad ((qTX c), (qLX c), (qPX c), M0) ((fun (_ : q_MM) => none) res) ((fun (res : q_MM) => ((qTX c), (qLX c), (qPX c), res)) res) A) args s 0 0 A) (k31 x1 x2 x3 x4 M) 31 [(0, .ref 5), (1, .int x1), (2, .int x2), (3, .int x3), (4, .int x4)] [] ((qTX c), (qLX c), (qPX c), M) 0 0) (x1 : Int32) (x2 : Int32) (x3 : Int32) (x4 : Int32) (s0 : Int32) (s1 : Nat) (M : q_MM), GG p l e { frames := 1, cells := 0, slots := 0, locals := 20 } s m args below meth c0 K A ((qTX c), (qLX c), (qPX c), M0) ad false 7 (fun res => MQ below (q_Qc K false ad ((qTX c), (qLX c), (qPX c), M0) ((fun (_ : q_MM) => none) res) ((fun (res : q_MM) => ((qTX c), (qLX c), (qPX c), res)) res) A) args s 0 0 A) (b_X3_reachFrom_121 c k31 x1 x2 x3 x4 s0 s1 M) 121 [(0, .ref 5), (1, .int x1), (2, .int x2), (3, .int x3), (4, .int x4)] [.int s0, .ref s1] ((qTX c), (qLX c), (qPX c), M) 0 0 := by
    intro k31 hk31 x1 x2 x3 x4 s0 s1 M
    unfold b_X3_reachFrom_121
    refine g_iconst (v := 0) X dX3_reachFrom_121 (by decide) ?_
    exact g_sub [0, 1, 2, 3, 4] rfl (hb_122 k31 hk31 x1 x2 x3 x4 0 s0 s1 M)
  have hb_80 : ∀ (k31 : Int32 → Int32 → Int32 → Int32 → q_MM → Option (q_MM)) (hk31 : ∀ (x1 : Int32) (x2 : Int32) (x3 : Int32) (x4 : Int32) (M : q_MM), GG p l e { frames := 1, cells := 0, slots := 0, locals := 20 } s m args below meth c0 K A ((qTX c), (qLX c), (qPX c), M0) ad false 7 (fun res => MQ below (q_Qc K false ad ((qTX c), (qLX c), (qPX c), M0) ((fun (_ : q_MM) => none) res) ((fun (res : q_MM) => ((qTX c), (qLX c), (qPX c), res)) res) A) args s 0 0 A) (k31 x1 x2 x3 x4 M) 31 [(0, .ref 5), (1, .int x1), (2, .int x2), (3, .int x3), (4, .int x4)] [] ((qTX c), (qLX c), (qPX c), M) 0 0) (x1 : Int32) (x2 : Int32) (x3 : Int32) (x4 : Int32) (x5 : Int32) (s0 : Int32) (M : q_MM), GG p l e { frames := 1, cells := 0, slots := 0, locals := 20 } s m args below meth c0 K A ((qTX c), (qLX c), (qPX c), M0) ad false 7 (fun res => MQ below (q_Qc K false ad ((qTX c), (qLX c), (qPX c), M0) ((fun (_ : q_MM) => none) res) ((fun (res : q_MM) => ((qTX c), (qLX c), (qPX c), res)) res) A) args s 0 0 A) (b_X3_reachFrom_80 c k31 x1 x2 x3 x4 x5 s0 M) 80 [(0, .ref 5), (1, .int x1), (2, .int x2), (3, .int x3), (4, .int x4), (5, .int x5)] [.int s0] ((qTX c), (qLX c), (qPX c), M) 0 0 := by
    intro k31 hk31 x1 x2 x3 x4 x5 s0 M
    unfold b_X3_reachFrom_80
    refine g_istore X [(6, .int s0), (0, .ref 5), (1, .int x1), (2, .int x2), (3, .int x3), (4, .int x4), (5, .int x5)] dX3_reachFrom_80 (by decide) rfl ?_
    refine g_aload_n X dX3_reachFrom_82 rfl 1 rfl ?_
    refine g_getr X fa_X3_36 rfl rfl dX3_reachFrom_83 ?_
    refine g_iload_n X dX3_reachFrom_86 rfl 4 rfl ?_
    refine g_iload X dX3_reachFrom_87 0 rfl ?_
    refine g_if_eq X 121 dX3_reachFrom_89 rfl (fun h3 => ?_) (fun h3 => ?_)
    · exact g_sub [1, 2, 3, 4, 5] rfl (hb_121 k31 hk31 x1 x2 x3 x4 x3 45 M)
    · refine g_aload_n X dX3_reachFrom_92 rfl 1 rfl ?_
      refine g_getr X fa_X3_36 rfl rfl dX3_reachFrom_93 ?_
      refine g_iload X dX3_reachFrom_96 6 rfl ?_
      refine g_bld X rfl rfl dX3_reachFrom_98 (fun v4 => ?_)
      refine g_if_eq X 121 dX3_reachFrom_99 rfl (fun h5 => ?_) (fun h5 => ?_)
      · exact g_sub [1, 2, 3, 4, 5] rfl (hb_121 k31 hk31 x1 x2 x3 x4 x3 45 M)
      · refine g_aload_n X dX3_reachFrom_102 rfl 1 rfl ?_
        refine g_getr X fa_X3_26 rfl rfl dX3_reachFrom_103 ?_
        refine g_iload X dX3_reachFrom_106 6 rfl ?_
        refine g_ild X rfl rfl dX3_reachFrom_108 (fun v6 => ?_)
        refine g_iload X dX3_reachFrom_109 5 rfl ?_
        refine g_ishr X dX3_reachFrom_111 ?_
        refine g_iconst (v := 1) X dX3_reachFrom_112 (by decide) ?_
        refine g_iand X dX3_reachFrom_113 ?_
        refine g_if_eq X 121 dX3_reachFrom_114 rfl (fun h7 => ?_) (fun h7 => ?_)
        · exact g_sub [1, 2, 3, 4, 5] rfl (hb_121 k31 hk31 x1 x2 x3 x4 x3 45 M)
        · refine g_iconst (v := 1) X dX3_reachFrom_117 (by decide) ?_
          refine g_goto X 122 dX3_reachFrom_118 rfl ?_
          exact g_sub [1, 2, 3, 4, 5] rfl (hb_122 k31 hk31 x1 x2 x3 x4 1 x3 45 M)
  have hb_129 : ∀ (k7 : Int32 → Int32 → Int32 → q_MM → Option (q_MM)) (hk7 : ∀ (x1 : Int32) (x2 : Int32) (x3 : Int32) (M : q_MM), GG p l e { frames := 1, cells := 0, slots := 0, locals := 20 } s m args below meth c0 K A ((qTX c), (qLX c), (qPX c), M0) ad false 7 (fun res => MQ below (q_Qc K false ad ((qTX c), (qLX c), (qPX c), M0) ((fun (_ : q_MM) => none) res) ((fun (res : q_MM) => ((qTX c), (qLX c), (qPX c), res)) res) A) args s 0 0 A) (k7 x1 x2 x3 M) 7 [(0, .ref 5), (1, .int x1), (2, .int x2), (3, .int x3)] [] ((qTX c), (qLX c), (qPX c), M) 0 0) (x1 : Int32) (x2 : Int32) (x3 : Int32) (M : q_MM), GG p l e { frames := 1, cells := 0, slots := 0, locals := 20 } s m args below meth c0 K A ((qTX c), (qLX c), (qPX c), M0) ad false 7 (fun res => MQ below (q_Qc K false ad ((qTX c), (qLX c), (qPX c), M0) ((fun (_ : q_MM) => none) res) ((fun (res : q_MM) => ((qTX c), (qLX c), (qPX c), res)) res) A) args s 0 0 A) (b_X3_reachFrom_129 c k7 x1 x2 x3 M) 129 [(0, .ref 5), (1, .int x1), (2, .int x2), (3, .int x3)] [] ((qTX c), (qLX c), (qPX c), M) 0 0 := by
    intro k7 hk7 x1 x2 x3 M
    unfold b_X3_reachFrom_129
    refine g_iload_n X dX3_reachFrom_129 rfl 3 rfl ?_
    refine g_iconst (v := 1) X dX3_reachFrom_130 (by decide) ?_
    refine g_iadd X dX3_reachFrom_131 ?_
    refine g_iload_n X dX3_reachFrom_132 rfl 1 rfl ?_
    refine g_ior X dX3_reachFrom_133 ?_
    refine g_isn X (fun v8 => [(3, .int v8), (0, .ref 5), (1, .int x1), (2, .int x2)]) dX3_reachFrom_134 rfl (by decide) (fun _ => rfl) (fun v8 => ?_)
    refine g_goto X 7 dX3_reachFrom_135 rfl ?_
    exact g_sub [1, 2, 3, 0] rfl (hk7 x1 x2 v8 M)
  have hb_31 : ∀ (k7 : Int32 → Int32 → Int32 → q_MM → Option (q_MM)) (hk7 : ∀ (x1 : Int32) (x2 : Int32) (x3 : Int32) (M : q_MM), GG p l e { frames := 1, cells := 0, slots := 0, locals := 20 } s m args below meth c0 K A ((qTX c), (qLX c), (qPX c), M0) ad false 7 (fun res => MQ below (q_Qc K false ad ((qTX c), (qLX c), (qPX c), M0) ((fun (_ : q_MM) => none) res) ((fun (res : q_MM) => ((qTX c), (qLX c), (qPX c), res)) res) A) args s 0 0 A) (k7 x1 x2 x3 M) 7 [(0, .ref 5), (1, .int x1), (2, .int x2), (3, .int x3)] [] ((qTX c), (qLX c), (qPX c), M) 0 0) (nf : Nat) (x1 : Int32) (x2 : Int32) (x3 : Int32) (x4 : Int32) (M : q_MM), GG p l e { frames := 1, cells := 0, slots := 0, locals := 20 } s m args below meth c0 K A ((qTX c), (qLX c), (qPX c), M0) ad false 7 (fun res => MQ below (q_Qc K false ad ((qTX c), (qLX c), (qPX c), M0) ((fun (_ : q_MM) => none) res) ((fun (res : q_MM) => ((qTX c), (qLX c), (qPX c), res)) res) A) args s 0 0 A) (b_X3_reachFrom_31 c k7 nf x1 x2 x3 x4 M) 31 [(0, .ref 5), (1, .int x1), (2, .int x2), (3, .int x3), (4, .int x4)] [] ((qTX c), (qLX c), (qPX c), M) 0 0 := by
    intro k7 hk7 nf
    induction nf with
    | zero => intros; exact g_stop
    | succ nf ih =>
      intro x1 x2 x3 x4 M
      rw [b_X3_reachFrom_31]
      refine g_iload X dX3_reachFrom_31 4 rfl ?_
      refine g_aload_n X dX3_reachFrom_33 rfl 0 rfl ?_
      refine g_getr X fa_X3_14 rfl rfl dX3_reachFrom_34 ?_
      refine g_geti X fa_X3_47 rfl dX3_reachFrom_37 ?_
      refine g_icmp_ge X 129 dX3_reachFrom_40 rfl (fun h9 => ?_) (fun h9 => ?_)
      · exact g_sub [0, 1, 2, 3] rfl (hb_129 k7 hk7 x1 x2 x3 M)
      · refine g_aload_n X dX3_reachFrom_43 rfl 0 rfl ?_
        refine g_getr X fa_X3_36 rfl rfl dX3_reachFrom_44 ?_
        refine g_iload_n X dX3_reachFrom_47 rfl 3 rfl ?_
        refine g_bld X rfl rfl dX3_reachFrom_48 (fun v10 => ?_)
        refine g_if_ne X 129 dX3_reachFrom_49 rfl (fun h11 => ?_) (fun h11 => ?_)
        · refine g_iload_n X dX3_reachFrom_52 rfl 3 rfl ?_
          refine g_iconst (v := 1) X dX3_reachFrom_53 (by decide) ?_
          refine g_iload X dX3_reachFrom_54 4 rfl ?_
          refine g_ishl X dX3_reachFrom_56 ?_
          refine g_iconst (v := (-1)) X dX3_reachFrom_57 (by decide) ?_
          refine g_ixor X dX3_reachFrom_58 ?_
          refine g_iand X dX3_reachFrom_59 ?_
          refine g_is X (fun v12 => [(5, .int v12), (0, .ref 5), (1, .int x1), (2, .int x2), (3, .int x3), (4, .int x4)]) dX3_reachFrom_60 (by decide) (fun _ => rfl) (fun v12 => ?_)
          refine g_iload_n X dX3_reachFrom_62 rfl 4 rfl ?_
          refine g_iload_n X dX3_reachFrom_63 rfl 2 rfl ?_
          refine g_iconst (v := (-1)) X dX3_reachFrom_64 (by decide) ?_
          refine g_ixor X dX3_reachFrom_65 ?_
          refine g_iand X dX3_reachFrom_66 ?_
          refine g_iconst (v := 1) X dX3_reachFrom_67 (by decide) ?_
          refine g_iload X dX3_reachFrom_68 5 rfl ?_
          refine g_ishl X dX3_reachFrom_70 ?_
          refine g_iand X dX3_reachFrom_71 ?_
          refine g_if_eq X 79 dX3_reachFrom_72 rfl (fun h13 => ?_) (fun h13 => ?_)
          · refine g_iconst (v := 0) X dX3_reachFrom_79 (by decide) ?_
            exact g_sub [1, 2, 3, 4, 5, 0] rfl (hb_80 (b_X3_reachFrom_31 c k7 nf) ih x1 x2 x3 x4 v12 0 M)
          · refine g_iconst (v := 1) X dX3_reachFrom_75 (by decide) ?_
            refine g_goto X 80 dX3_reachFrom_76 rfl ?_
            exact g_sub [1, 2, 3, 4, 5, 0] rfl (hb_80 (b_X3_reachFrom_31 c k7 nf) ih x1 x2 x3 x4 v12 1 M)
        · exact g_sub [0, 1, 2, 3] rfl (hb_129 k7 hk7 x1 x2 x3 M)
  have hb_27 : ∀ (k7 : Int32 → Int32 → Int32 → q_MM → Option (q_MM)) (hk7 : ∀ (x1 : Int32) (x2 : Int32) (x3 : Int32) (M : q_MM), GG p l e { frames := 1, cells := 0, slots := 0, locals := 20 } s m args below meth c0 K A ((qTX c), (qLX c), (qPX c), M0) ad false 7 (fun res => MQ below (q_Qc K false ad ((qTX c), (qLX c), (qPX c), M0) ((fun (_ : q_MM) => none) res) ((fun (res : q_MM) => ((qTX c), (qLX c), (qPX c), res)) res) A) args s 0 0 A) (k7 x1 x2 x3 M) 7 [(0, .ref 5), (1, .int x1), (2, .int x2), (3, .int x3)] [] ((qTX c), (qLX c), (qPX c), M) 0 0) (x1 : Int32) (x2 : Int32) (x3 : Int32) (s0 : Int32) (s1 : Int32) (s2 : Nat) (M : q_MM), GG p l e { frames := 1, cells := 0, slots := 0, locals := 20 } s m args below meth c0 K A ((qTX c), (qLX c), (qPX c), M0) ad false 7 (fun res => MQ below (q_Qc K false ad ((qTX c), (qLX c), (qPX c), M0) ((fun (_ : q_MM) => none) res) ((fun (res : q_MM) => ((qTX c), (qLX c), (qPX c), res)) res) A) args s 0 0 A) (b_X3_reachFrom_27 c k7 x1 x2 x3 s0 s1 s2 M) 27 [(0, .ref 5), (1, .int x1), (2, .int x2), (3, .int x3)] [.int s0, .int s1, .ref s2] ((qTX c), (qLX c), (qPX c), M) 0 0 := by
    intro k7 hk7 x1 x2 x3 s0 s1 s2 M
    unfold b_X3_reachFrom_27
    refine g_ck (fun hT14 => ?_)
    refine g_bsv X hT14 rfl dX3_reachFrom_27 (fun M15 => ?_)
    refine g_iconst (v := 0) X dX3_reachFrom_28 (by decide) ?_
    refine g_istore X [(4, .int 0), (0, .ref 5), (1, .int x1), (2, .int x2), (3, .int x3)] dX3_reachFrom_29 (by decide) rfl ?_
    exact g_sub [1, 2, 3, 4, 0] rfl (hb_31 k7 hk7 q_fu x1 x2 x3 0 M15)
  have hb_7 : ∀ (nf : Nat) (x1 : Int32) (x2 : Int32) (x3 : Int32) (M : q_MM), GG p l e { frames := 1, cells := 0, slots := 0, locals := 20 } s m args below meth c0 K A ((qTX c), (qLX c), (qPX c), M0) ad false 7 (fun res => MQ below (q_Qc K false ad ((qTX c), (qLX c), (qPX c), M0) ((fun (_ : q_MM) => none) res) ((fun (res : q_MM) => ((qTX c), (qLX c), (qPX c), res)) res) A) args s 0 0 A) (b_X3_reachFrom_7 c nf x1 x2 x3 M) 7 [(0, .ref 5), (1, .int x1), (2, .int x2), (3, .int x3)] [] ((qTX c), (qLX c), (qPX c), M) 0 0 := by
    intro  nf
    induction nf with
    | zero => intros; exact g_stop
    | succ nf ih =>
      intro x1 x2 x3 M
      rw [b_X3_reachFrom_7]
      refine g_iload_n X dX3_reachFrom_7 rfl 3 rfl ?_
      refine g_iload_n X dX3_reachFrom_8 rfl 2 rfl ?_
      refine g_icmp_gt X 138 dX3_reachFrom_9 rfl (fun h16 => ?_) (fun h16 => ?_)
      · exact g_vret X rfl rfl rfl dX3_reachFrom_138
      · refine g_aload_n X dX3_reachFrom_12 rfl 0 rfl ?_
        refine g_getr X fa_X3_36 rfl rfl dX3_reachFrom_13 ?_
        refine g_iload_n X dX3_reachFrom_16 rfl 3 rfl ?_
        refine g_iload_n X dX3_reachFrom_17 rfl 3 rfl ?_
        refine g_iload_n X dX3_reachFrom_18 rfl 1 rfl ?_
        refine g_icmp_ne X 26 dX3_reachFrom_19 rfl (fun h17 => ?_) (fun h17 => ?_)
        · refine g_iconst (v := 1) X dX3_reachFrom_22 (by decide) ?_
          refine g_goto X 27 dX3_reachFrom_23 rfl ?_
          exact g_sub [0, 1, 2, 3] rfl (hb_27 (b_X3_reachFrom_7 c nf) ih x1 x2 x3 1 x3 45 M)
        · refine g_iconst (v := 0) X dX3_reachFrom_26 (by decide) ?_
          exact g_sub [0, 1, 2, 3] rfl (hb_27 (b_X3_reachFrom_7 c nf) ih x1 x2 x3 0 x3 45 M)
  refine g_sub (lv' := [(0, .ref 5), (1, .int a1)]) [0, 1] rfl ?_
  unfold f_X3_reachFrom
  refine g_aload_n X dX3_reachFrom_0 rfl 0 rfl ?_
  refine g_bVi (As := []) (rest := []) X (c_X3_allMoves l K c M0) lk_X3_86 rfl rfl rfl (Nat.le_of_ble_eq_true rfl) ⟨Nat.le_of_ble_eq_true rfl, Nat.le_of_ble_eq_true rfl⟩ ⟨Nat.zero_le _, Nat.zero_le _⟩ dX3_reachFrom_1 (fun r18 => ?_)
  refine g_istore_n X [(2, .int r18), (0, .ref 5), (1, .int a1)] dX3_reachFrom_4 rfl (by decide) rfl ?_
  refine g_iload_n X dX3_reachFrom_5 rfl 2 rfl ?_
  refine g_istore_n X [(3, .int a1), (2, .int r18), (0, .ref 5), (1, .int a1)] dX3_reachFrom_6 rfl (by decide) rfl ?_
  exact g_sub [2, 3, 1, 0] rfl (hb_7 q_fu a1 r18 a1 M0)
set_option maxHeartbeats 4000000 in
set_option maxRecDepth 100000 in
theorem c_X3_isNight (l : Launch) (K : q_KK) (c : Nat → Nat) (M : q_MM) (a1 : Int32) (a2 : Int32) (a3 : Int32) (a4 : Int32) : ∀ res, f_X3_isNight c M a1 a2 a3 a4 = some res → Mt l yX3_isNight cX3_isNight 6 (some FieldType.boolean) 1 20 0 0 false K [.ref 5, .int a1, .int a2, .int a3, .int a4] ((qTX c), (qLX c), (qPX c), M) (some (.int res)) (((qTX c), (qLX c), (qPX c), M)) := by
  refine Mt.of (fun (res : Int32) => some (.int res)) (fun (_ : Int32) => ((qTX c), (qLX c), (qPX c), M)) (by decide) (Nat.le_of_ble_eq_true rfl) ?_
  intro p e s m args below meth c0 A ad X hN
  refine g_sub (lv' := [(0, .ref 5), (1, .int a1), (2, .int a2), (3, .int a3), (4, .int a4)]) [0, 1, 2, 3, 4] rfl ?_
  unfold f_X3_isNight
  refine g_iload_n X dX3_isNight_0 rfl 2 rfl ?_
  refine g_iload_n X dX3_isNight_1 rfl 1 rfl ?_
  refine g_ixor X dX3_isNight_2 ?_
  refine g_is X (fun v1 => [(5, .int v1), (0, .ref 5), (1, .int a1), (2, .int a2), (3, .int a3), (4, .int a4)]) dX3_isNight_3 (by decide) (fun _ => rfl) (fun v1 => ?_)
  refine g_iload X dX3_isNight_5 0 rfl ?_
  refine g_if_eq X 47 dX3_isNight_7 rfl (fun h2 => ?_) (fun h2 => ?_)
  · refine g_iconst (v := 0) X dX3_isNight_47 (by decide) ?_
    exact g_zret X rfl rfl rfl dX3_isNight_48
  · refine g_aload_n X dX3_isNight_10 rfl 1 rfl ?_
    refine g_getr X fa_X3_36 rfl rfl dX3_isNight_11 ?_
    refine g_iload_n X dX3_isNight_14 rfl 3 rfl ?_
    refine g_bld X rfl rfl dX3_isNight_15 (fun v3 => ?_)
    refine g_if_eq X 47 dX3_isNight_16 rfl (fun h4 => ?_) (fun h4 => ?_)
    · refine g_iconst (v := 0) X dX3_isNight_47 (by decide) ?_
      exact g_zret X rfl rfl rfl dX3_isNight_48
    · refine g_iload X dX3_isNight_19 0 rfl ?_
      refine g_bSi (As := [.int v1]) (rest := []) X (c_J6_bitCount_0f7a4 l K (qTX c) (qLX c) (qPX c) M v1) lk_X3_131 rfl rfl (Nat.le_of_ble_eq_true rfl) ⟨Nat.le_of_ble_eq_true rfl, Nat.le_of_ble_eq_true rfl⟩ ⟨Nat.zero_le _, Nat.zero_le _⟩ dX3_isNight_21 (fun r5 => ?_)
      refine g_iload_n X dX3_isNight_24 rfl 4 rfl ?_
      refine g_icmp_gt X 47 dX3_isNight_25 rfl (fun h6 => ?_) (fun h6 => ?_)
      · refine g_iconst (v := 0) X dX3_isNight_47 (by decide) ?_
        exact g_zret X rfl rfl rfl dX3_isNight_48
      · refine g_aload_n X dX3_isNight_28 rfl 1 rfl ?_
        refine g_getr X fa_X3_30 rfl rfl dX3_isNight_29 ?_
        refine g_iload X dX3_isNight_32 0 rfl ?_
        refine g_ild X rfl rfl dX3_isNight_34 (fun v7 => ?_)
        refine g_bSi (As := [.int v7]) (rest := []) X (c_J6_bitCount_0f7a4 l K (qTX c) (qLX c) (qPX c) M v7) lk_X3_131 rfl rfl (Nat.le_of_ble_eq_true rfl) ⟨Nat.le_of_ble_eq_true rfl, Nat.le_of_ble_eq_true rfl⟩ ⟨Nat.zero_le _, Nat.zero_le _⟩ dX3_isNight_35 (fun r8 => ?_)
        refine g_iload X dX3_isNight_38 5 rfl ?_
        refine g_icmp_gt X 47 dX3_isNight_40 rfl (fun h9 => ?_) (fun h9 => ?_)
        · refine g_iconst (v := 0) X dX3_isNight_47 (by decide) ?_
          exact g_zret X rfl rfl rfl dX3_isNight_48
        · refine g_iconst (v := 1) X dX3_isNight_43 (by decide) ?_
          refine g_goto X 48 dX3_isNight_44 rfl ?_
          exact g_zret X rfl rfl rfl dX3_isNight_48
set_option maxHeartbeats 4000000 in
set_option maxRecDepth 100000 in
theorem c_X3_plan (l : Launch) (K : q_KK) (c : Nat → Nat) (M0 : q_MM) (a1 : Int32) (a2 : Int32) : ∀ res, f_X3_plan c M0 a1 a2 = some res → Mt l yX3_plan cX3_plan 6 (some FieldType.int) 7 153 0 0 false K [.ref 5, .int a1, .int a2] ((qTX c), (qLX c), (qPX c), M0) (some (.int res.1)) (((qTX c), (qLX c), (qPX c), res.2)) := by
  refine Mt.of (fun (res : Int32 × q_MM) => some (.int res.1)) (fun (res : Int32 × q_MM) => ((qTX c), (qLX c), (qPX c), res.2)) (by decide) (Nat.le_of_ble_eq_true rfl) ?_
  intro p e s m args below meth c0 A ad X hN
  have hb_90 : ∀ (k45 : Int32 → Int32 → Int32 → Int32 → Int32 → q_MM → Option (Int32 × q_MM)) (hk45 : ∀ (x1 : Int32) (x2 : Int32) (x3 : Int32) (x4 : Int32) (x5 : Int32) (M : q_MM), GG p l e { frames := 7, cells := 0, slots := 0, locals := 153 } s m args below meth c0 K A ((qTX c), (qLX c), (qPX c), M0) ad false 6 (fun res => MQ below (q_Qc K false ad ((qTX c), (qLX c), (qPX c), M0) ((fun (res : Int32 × q_MM) => some (.int res.1)) res) ((fun (res : Int32 × q_MM) => ((qTX c), (qLX c), (qPX c), res.2)) res) A) args s 0 0 A) (k45 x1 x2 x3 x4 x5 M) 45 [(0, .ref 5), (1, .int x1), (2, .int x2), (3, .int x3), (4, .int x4), (5, .int x5)] [] ((qTX c), (qLX c), (qPX c), M) 0 0) (x1 : Int32) (x2 : Int32) (x3 : Int32) (x4 : Int32) (x5 : Int32) (M : q_MM), GG p l e { frames := 7, cells := 0, slots := 0, locals := 153 } s m args below meth c0 K A ((qTX c), (qLX c), (qPX c), M0) ad false 6 (fun res => MQ below (q_Qc K false ad ((qTX c), (qLX c), (qPX c), M0) ((fun (res : Int32 × q_MM) => some (.int res.1)) res) ((fun (res : Int32 × q_MM) => ((qTX c), (qLX c), (qPX c), res.2)) res) A) args s 0 0 A) (b_X3_plan_90 c k45 x1 x2 x3 x4 x5 M) 90 [(0, .ref 5), (1, .int x1), (2, .int x2), (3, .int x3), (4, .int x4), (5, .int x5)] [] ((qTX c), (qLX c), (qPX c), M) 0 0 := by
    intro k45 hk45 x1 x2 x3 x4 x5 M
    unfold b_X3_plan_90
    refine g_iload X dX3_plan_90 5 rfl ?_
    refine g_iconst (v := 1) X dX3_plan_92 (by decide) ?_
    refine g_iadd X dX3_plan_93 ?_
    refine g_iload X dX3_plan_94 4 rfl ?_
    refine g_ior X dX3_plan_96 ?_
    refine g_is X (fun v1 => [(5, .int v1), (0, .ref 5), (1, .int x1), (2, .int x2), (3, .int x3), (4, .int x4)]) dX3_plan_97 (by decide) (fun _ => rfl) (fun v1 => ?_)
    refine g_goto X 45 dX3_plan_99 rfl ?_
    exact g_sub [1, 2, 3, 4, 5, 0] rfl (hk45 x1 x2 x3 x4 v1 M)
  have hb_45 : ∀ (k21 : Int32 → Int32 → Int32 → Int32 → q_MM → Option (Int32 × q_MM)) (hk21 : ∀ (x1 : Int32) (x2 : Int32) (x3 : Int32) (x4 : Int32) (M : q_MM), GG p l e { frames := 7, cells := 0, slots := 0, locals := 153 } s m args below meth c0 K A ((qTX c), (qLX c), (qPX c), M0) ad false 6 (fun res => MQ below (q_Qc K false ad ((qTX c), (qLX c), (qPX c), M0) ((fun (res : Int32 × q_MM) => some (.int res.1)) res) ((fun (res : Int32 × q_MM) => ((qTX c), (qLX c), (qPX c), res.2)) res) A) args s 0 0 A) (k21 x1 x2 x3 x4 M) 21 [(0, .ref 5), (1, .int x1), (2, .int x2), (3, .int x3), (4, .int x4)] [] ((qTX c), (qLX c), (qPX c), M) 0 0) (nf : Nat) (x1 : Int32) (x2 : Int32) (x3 : Int32) (x4 : Int32) (x5 : Int32) (M : q_MM), GG p l e { frames := 7, cells := 0, slots := 0, locals := 153 } s m args below meth c0 K A ((qTX c), (qLX c), (qPX c), M0) ad false 6 (fun res => MQ below (q_Qc K false ad ((qTX c), (qLX c), (qPX c), M0) ((fun (res : Int32 × q_MM) => some (.int res.1)) res) ((fun (res : Int32 × q_MM) => ((qTX c), (qLX c), (qPX c), res.2)) res) A) args s 0 0 A) (b_X3_plan_45 c k21 nf x1 x2 x3 x4 x5 M) 45 [(0, .ref 5), (1, .int x1), (2, .int x2), (3, .int x3), (4, .int x4), (5, .int x5)] [] ((qTX c), (qLX c), (qPX c), M) 0 0 := by
    intro k21 hk21 nf
    induction nf with
    | zero => intros; exact g_stop
    | succ nf ih =>
      intro x1 x2 x3 x4 x5 M
      rw [b_X3_plan_45]
      refine g_iload X dX3_plan_45 5 rfl ?_
      refine g_iload_n X dX3_plan_47 rfl 3 rfl ?_
      refine g_icmp_gt X 102 dX3_plan_48 rfl (fun h2 => ?_) (fun h2 => ?_)
      · refine g_iinc (v := (-1)) X [(4, .int (x4 + (-1))), (0, .ref 5), (1, .int x1), (2, .int x2), (3, .int x3), (5, .int x5)] 4 dX3_plan_102 rfl (by decide) (by decide) rfl ?_
        refine g_goto X 21 dX3_plan_105 rfl ?_
        exact g_sub [1, 2, 3, 4, 0] rfl (hk21 x1 x2 x3 (x4 + (-1)) M)
      · refine g_aload_n X dX3_plan_51 rfl 0 rfl ?_
        refine g_iload X dX3_plan_52 4 rfl ?_
        refine g_iload X dX3_plan_54 5 rfl ?_
        refine g_iload_n X dX3_plan_56 rfl 1 rfl ?_
        refine g_iload_n X dX3_plan_57 rfl 2 rfl ?_
        refine g_bVi (As := [.int x4, .int x5, .int x1, .int x2]) (rest := []) X (c_X3_isNight l K c M x4 x5 x1 x2) lk_X3_114 rfl rfl rfl (Nat.le_of_ble_eq_true rfl) ⟨Nat.le_of_ble_eq_true rfl, Nat.le_of_ble_eq_true rfl⟩ ⟨Nat.zero_le _, Nat.zero_le _⟩ dX3_plan_58 (fun r3 => ?_)
        refine g_if_eq X 90 dX3_plan_61 rfl (fun h4 => ?_) (fun h4 => ?_)
        · exact g_sub [0, 1, 2, 3, 4, 5] rfl (hb_90 (b_X3_plan_45 c k21 nf) ih x1 x2 x3 x4 x5 M)
        · refine g_aload_n X dX3_plan_64 rfl 0 rfl ?_
          refine g_getr X fa_X3_33 rfl rfl dX3_plan_65 ?_
          refine g_iload X dX3_plan_68 4 rfl ?_
          refine g_aload_n X dX3_plan_70 rfl 0 rfl ?_
          refine g_getr X fa_X3_33 rfl rfl dX3_plan_71 ?_
          refine g_iload X dX3_plan_74 4 rfl ?_
          refine g_ild X rfl rfl dX3_plan_76 (fun v5 => ?_)
          refine g_aload_n X dX3_plan_77 rfl 0 rfl ?_
          refine g_getr X fa_X3_33 rfl rfl dX3_plan_78 ?_
          refine g_iload X dX3_plan_81 5 rfl ?_
          refine g_ild X rfl rfl dX3_plan_83 (fun v6 => ?_)
          refine g_iconst (v := 1) X dX3_plan_84 (by decide) ?_
          refine g_iadd X dX3_plan_85 ?_
          refine g_mmin X lk_X3_118 (Nat.le_of_ble_eq_true rfl) ⟨Nat.le_of_ble_eq_true rfl, Nat.le_of_ble_eq_true rfl⟩ ⟨Nat.zero_le _, Nat.zero_le _⟩ dX3_plan_86 ?_
          refine g_isv X rfl rfl dX3_plan_89 (fun M7 => ?_)
          exact g_sub [0, 1, 2, 3, 4, 5] rfl (hb_90 (b_X3_plan_45 c k21 nf) ih x1 x2 x3 x4 x5 M7)
  have hb_21 : ∀ (nf : Nat) (x1 : Int32) (x2 : Int32) (x3 : Int32) (x4 : Int32) (M : q_MM), GG p l e { frames := 7, cells := 0, slots := 0, locals := 153 } s m args below meth c0 K A ((qTX c), (qLX c), (qPX c), M0) ad false 6 (fun res => MQ below (q_Qc K false ad ((qTX c), (qLX c), (qPX c), M0) ((fun (res : Int32 × q_MM) => some (.int res.1)) res) ((fun (res : Int32 × q_MM) => ((qTX c), (qLX c), (qPX c), res.2)) res) A) args s 0 0 A) (b_X3_plan_21 c nf x1 x2 x3 x4 M) 21 [(0, .ref 5), (1, .int x1), (2, .int x2), (3, .int x3), (4, .int x4)] [] ((qTX c), (qLX c), (qPX c), M) 0 0 := by
    intro  nf
    induction nf with
    | zero => intros; exact g_stop
    | succ nf ih =>
      intro x1 x2 x3 x4 M
      rw [b_X3_plan_21]
      refine g_iload X dX3_plan_21 4 rfl ?_
      refine g_if_lt X 108 dX3_plan_23 rfl (fun h8 => ?_) (fun h8 => ?_)
      · refine g_aload_n X dX3_plan_108 rfl 0 rfl ?_
        refine g_getr X fa_X3_33 rfl rfl dX3_plan_109 ?_
        refine g_iconst (v := 0) X dX3_plan_112 (by decide) ?_
        refine g_ild X rfl rfl dX3_plan_113 (fun v9 => ?_)
        exact g_iret X rfl rfl rfl dX3_plan_114
      · refine g_aload_n X dX3_plan_26 rfl 0 rfl ?_
        refine g_getr X fa_X3_33 rfl rfl dX3_plan_27 ?_
        refine g_iload X dX3_plan_30 4 rfl ?_
        refine g_bipush (v := 99) X dX3_plan_32 (by decide) ?_
        refine g_isv X rfl rfl dX3_plan_34 (fun M10 => ?_)
        refine g_aload_n X dX3_plan_35 rfl 0 rfl ?_
        refine g_iload X dX3_plan_36 4 rfl ?_
        refine g_bVv (As := [.int x4]) (rest := []) X (c_X3_reachFrom l K c M10 x4) lk_X3_111 rfl rfl rfl (Nat.le_of_ble_eq_true rfl) ⟨Nat.le_of_ble_eq_true rfl, Nat.le_of_ble_eq_true rfl⟩ ⟨Nat.zero_le _, Nat.zero_le _⟩ dX3_plan_38 (fun r11 => ?_)
        refine g_iload X dX3_plan_41 4 rfl ?_
        refine g_istore X [(5, .int x4), (0, .ref 5), (1, .int x1), (2, .int x2), (3, .int x3), (4, .int x4)] dX3_plan_43 (by decide) rfl ?_
        exact g_sub [1, 2, 3, 4, 5, 0] rfl (hb_45 (b_X3_plan_21 c nf) ih q_fu x1 x2 x3 x4 x4 r11)
  refine g_sub (lv' := [(0, .ref 5), (1, .int a1), (2, .int a2)]) [0, 1, 2] rfl ?_
  unfold f_X3_plan
  refine g_aload_n X dX3_plan_0 rfl 0 rfl ?_
  refine g_bVv (As := []) (rest := []) X (c_X3_lookAtSets l K c M0) lk_X3_108 rfl rfl rfl (Nat.le_of_ble_eq_true rfl) ⟨Nat.le_of_ble_eq_true rfl, Nat.le_of_ble_eq_true rfl⟩ ⟨Nat.zero_le _, Nat.zero_le _⟩ dX3_plan_1 (fun r12 => ?_)
  refine g_aload_n X dX3_plan_4 rfl 0 rfl ?_
  refine g_bVi (As := []) (rest := []) X (c_X3_allMoves l K c r12) lk_X3_86 rfl rfl rfl (Nat.le_of_ble_eq_true rfl) ⟨Nat.le_of_ble_eq_true rfl, Nat.le_of_ble_eq_true rfl⟩ ⟨Nat.zero_le _, Nat.zero_le _⟩ dX3_plan_5 (fun r13 => ?_)
  refine g_istore_n X [(3, .int r13), (0, .ref 5), (1, .int a1), (2, .int a2)] dX3_plan_8 rfl (by decide) rfl ?_
  refine g_aload_n X dX3_plan_9 rfl 1 rfl ?_
  refine g_getr X fa_X3_33 rfl rfl dX3_plan_10 ?_
  refine g_iload_n X dX3_plan_13 rfl 0 rfl ?_
  refine g_iconst (v := 0) X dX3_plan_14 (by decide) ?_
  refine g_isv X rfl rfl dX3_plan_15 (fun M14 => ?_)
  refine g_iload_n X dX3_plan_16 rfl 0 rfl ?_
  refine g_iconst (v := 1) X dX3_plan_17 (by decide) ?_
  refine g_isub X dX3_plan_18 ?_
  refine g_is X (fun v15 => [(4, .int v15), (3, .int r13), (0, .ref 5), (1, .int a1), (2, .int a2)]) dX3_plan_19 (by decide) (fun _ => rfl) (fun v15 => ?_)
  exact g_sub [2, 3, 4, 1, 0] rfl (hb_21 q_fu a1 a2 r13 v15 M14)
set_option maxHeartbeats 4000000 in
set_option maxRecDepth 100000 in
theorem c_X3_leastNight (l : Launch) (K : q_KK) (c : Nat → Nat) (M : q_MM) (a1 : Int32) (a2 : Int32) (a3 : Int32) (a4 : Int32) : ∀ res, f_X3_leastNight c M a1 a2 a3 a4 = some res → Mt l yX3_leastNight cX3_leastNight 7 (some FieldType.int) 2 45 0 0 false K [.ref 5, .int a1, .int a2, .int a3, .int a4] ((qTX c), (qLX c), (qPX c), M) (some (.int res)) (((qTX c), (qLX c), (qPX c), M)) := by
  refine Mt.of (fun (res : Int32) => some (.int res)) (fun (_ : Int32) => ((qTX c), (qLX c), (qPX c), M)) (by decide) (Nat.le_of_ble_eq_true rfl) ?_
  intro p e s m args below meth c0 A ad X hN
  have hb_43 : ∀ (k9 : Int32 → Int32 → Int32 → Int32 → Int32 → Int32 → Option (Int32)) (hk9 : ∀ (x1 : Int32) (x2 : Int32) (x3 : Int32) (x4 : Int32) (x5 : Int32) (x6 : Int32), GG p l e { frames := 2, cells := 0, slots := 0, locals := 45 } s m args below meth c0 K A ((qTX c), (qLX c), (qPX c), M) ad false 7 (fun res => MQ below (q_Qc K false ad ((qTX c), (qLX c), (qPX c), M) ((fun (res : Int32) => some (.int res)) res) ((fun (_ : Int32) => ((qTX c), (qLX c), (qPX c), M)) res) A) args s 0 0 A) (k9 x1 x2 x3 x4 x5 x6) 9 [(0, .ref 5), (1, .int x1), (2, .int x2), (3, .int x3), (4, .int x4), (5, .int x5), (6, .int x6)] [] ((qTX c), (qLX c), (qPX c), M) 0 0) (x1 : Int32) (x2 : Int32) (x3 : Int32) (x4 : Int32) (x5 : Int32) (x6 : Int32), GG p l e { frames := 2, cells := 0, slots := 0, locals := 45 } s m args below meth c0 K A ((qTX c), (qLX c), (qPX c), M) ad false 7 (fun res => MQ below (q_Qc K false ad ((qTX c), (qLX c), (qPX c), M) ((fun (res : Int32) => some (.int res)) res) ((fun (_ : Int32) => ((qTX c), (qLX c), (qPX c), M)) res) A) args s 0 0 A) (b_X3_leastNight_43 c M k9 x1 x2 x3 x4 x5 x6) 43 [(0, .ref 5), (1, .int x1), (2, .int x2), (3, .int x3), (4, .int x4), (5, .int x5), (6, .int x6)] [] ((qTX c), (qLX c), (qPX c), M) 0 0 := by
    intro k9 hk9 x1 x2 x3 x4 x5 x6
    unfold b_X3_leastNight_43
    refine g_iload X dX3_leastNight_43 6 rfl ?_
    refine g_iconst (v := 1) X dX3_leastNight_45 (by decide) ?_
    refine g_iadd X dX3_leastNight_46 ?_
    refine g_iload_n X dX3_leastNight_47 rfl 1 rfl ?_
    refine g_ior X dX3_leastNight_48 ?_
    refine g_is X (fun v1 => [(6, .int v1), (0, .ref 5), (1, .int x1), (2, .int x2), (3, .int x3), (4, .int x4), (5, .int x5)]) dX3_leastNight_49 (by decide) (fun _ => rfl) (fun v1 => ?_)
    refine g_goto X 9 dX3_leastNight_51 rfl ?_
    exact g_sub [1, 2, 3, 4, 5, 6, 0] rfl (hk9 x1 x2 x3 x4 x5 v1)
  have hb_9 : ∀ (nf : Nat) (x1 : Int32) (x2 : Int32) (x3 : Int32) (x4 : Int32) (x5 : Int32) (x6 : Int32), GG p l e { frames := 2, cells := 0, slots := 0, locals := 45 } s m args below meth c0 K A ((qTX c), (qLX c), (qPX c), M) ad false 7 (fun res => MQ below (q_Qc K false ad ((qTX c), (qLX c), (qPX c), M) ((fun (res : Int32) => some (.int res)) res) ((fun (_ : Int32) => ((qTX c), (qLX c), (qPX c), M)) res) A) args s 0 0 A) (b_X3_leastNight_9 c M nf x1 x2 x3 x4 x5 x6) 9 [(0, .ref 5), (1, .int x1), (2, .int x2), (3, .int x3), (4, .int x4), (5, .int x5), (6, .int x6)] [] ((qTX c), (qLX c), (qPX c), M) 0 0 := by
    intro  nf
    induction nf with
    | zero => intros; exact g_stop
    | succ nf ih =>
      intro x1 x2 x3 x4 x5 x6
      rw [b_X3_leastNight_9]
      refine g_iload X dX3_leastNight_9 6 rfl ?_
      refine g_iload X dX3_leastNight_11 5 rfl ?_
      refine g_icmp_ge X 54 dX3_leastNight_13 rfl (fun h2 => ?_) (fun h2 => ?_)
      · refine g_iload X dX3_leastNight_54 5 rfl ?_
        exact g_iret X rfl rfl rfl dX3_leastNight_56
      · refine g_aload_n X dX3_leastNight_16 rfl 0 rfl ?_
        refine g_iload_n X dX3_leastNight_17 rfl 1 rfl ?_
        refine g_iload X dX3_leastNight_18 6 rfl ?_
        refine g_iload_n X dX3_leastNight_20 rfl 3 rfl ?_
        refine g_iload X dX3_leastNight_21 4 rfl ?_
        refine g_bVi (As := [.int x1, .int x6, .int x3, .int x4]) (rest := []) X (c_X3_isNight l K c M x1 x6 x3 x4) lk_X3_114 rfl rfl rfl (Nat.le_of_ble_eq_true rfl) ⟨Nat.le_of_ble_eq_true rfl, Nat.le_of_ble_eq_true rfl⟩ ⟨Nat.zero_le _, Nat.zero_le _⟩ dX3_leastNight_23 (fun r3 => ?_)
        refine g_if_eq X 43 dX3_leastNight_26 rfl (fun h4 => ?_) (fun h4 => ?_)
        · exact g_sub [0, 1, 2, 3, 4, 5, 6] rfl (hb_43 (b_X3_leastNight_9 c M nf) ih x1 x2 x3 x4 x5 x6)
        · refine g_aload_n X dX3_leastNight_29 rfl 0 rfl ?_
          refine g_getr X fa_X3_33 rfl rfl dX3_leastNight_30 ?_
          refine g_iload X dX3_leastNight_33 6 rfl ?_
          refine g_ild X rfl rfl dX3_leastNight_35 (fun v5 => ?_)
          refine g_iload_n X dX3_leastNight_36 rfl 2 rfl ?_
          refine g_icmp_ne X 43 dX3_leastNight_37 rfl (fun h6 => ?_) (fun h6 => ?_)
          · refine g_iload X dX3_leastNight_40 6 rfl ?_
            exact g_iret X rfl rfl rfl dX3_leastNight_42
          · exact g_sub [0, 1, 2, 3, 4, 5, 6] rfl (hb_43 (b_X3_leastNight_9 c M nf) ih x1 x2 x3 x4 x5 x6)
  refine g_sub (lv' := [(0, .ref 5), (1, .int a1), (2, .int a2), (3, .int a3), (4, .int a4)]) [0, 1, 2, 3, 4] rfl ?_
  unfold f_X3_leastNight
  refine g_aload_n X dX3_leastNight_0 rfl 0 rfl ?_
  refine g_bVi (As := []) (rest := []) X (c_X3_allMoves l K c M) lk_X3_86 rfl rfl rfl (Nat.le_of_ble_eq_true rfl) ⟨Nat.le_of_ble_eq_true rfl, Nat.le_of_ble_eq_true rfl⟩ ⟨Nat.zero_le _, Nat.zero_le _⟩ dX3_leastNight_1 (fun r7 => ?_)
  refine g_istore X [(5, .int r7), (0, .ref 5), (1, .int a1), (2, .int a2), (3, .int a3), (4, .int a4)] dX3_leastNight_4 (by decide) rfl ?_
  refine g_iload_n X dX3_leastNight_6 rfl 2 rfl ?_
  refine g_istore X [(6, .int a1), (5, .int r7), (0, .ref 5), (1, .int a1), (2, .int a2), (3, .int a3), (4, .int a4)] dX3_leastNight_7 (by decide) rfl ?_
  exact g_sub [2, 3, 4, 5, 6, 1, 0] rfl (hb_9 q_fu a1 a2 a3 a4 r7 a1)
set_option maxHeartbeats 4000000 in
set_option maxRecDepth 100000 in
theorem c_X4_add (l : Launch) (K : q_KK) (c : Nat → Nat) (M0 : q_MM) (o0 : Nat) (a1 : Int32) : ∀ res, f_X4_add c M0 o0 a1 = some res → Mt l yX4_add cX4_add 2 (none : Option FieldType) 0 0 0 0 false K [.ref o0, .int a1] ((qTX c), (qLX c), (qPX c), M0) (none) (((qTX c), (qLX c), (qPX c), res)) := by
  refine Mt.of (fun (_ : q_MM) => none) (fun (res : q_MM) => ((qTX c), (qLX c), (qPX c), res)) (by decide) (Nat.le_of_ble_eq_true rfl) ?_
  intro p e s m args below meth c0 A ad X hN
  refine g_sub (lv' := [(0, .ref o0), (1, .int a1)]) [0, 1] rfl ?_
  unfold f_X4_add
  refine g_aload_n X dX4_add_0 rfl 0 rfl ?_
  refine g_ck (fun hT1 => ?_)
  refine g_geti X fa_X4_15 hT1 dX4_add_1 ?_
  refine g_aload_n X dX4_add_4 rfl 0 rfl ?_
  refine g_getr X fa_X4_9 hT1 rfl dX4_add_5 ?_
  refine g_ck (fun hT2 => ?_)
  refine g_alen X (Or.inl hT2) rfl rfl dX4_add_8 ?_
  refine g_icmp_ge X 32 dX4_add_9 rfl (fun h3 => ?_) (fun h3 => ?_)
  · exact g_vret X rfl rfl rfl dX4_add_32
  · refine g_aload_n X dX4_add_12 rfl 0 rfl ?_
    refine g_getr X fa_X4_9 hT1 rfl dX4_add_13 ?_
    refine g_aload_n X dX4_add_16 rfl 0 rfl ?_
    refine g_geti X fa_X4_15 hT1 dX4_add_17 ?_
    refine g_iload_n X dX4_add_20 rfl 1 rfl ?_
    refine g_isv X hT2 rfl dX4_add_21 (fun M4 => ?_)
    refine g_aload_n X dX4_add_22 rfl 0 rfl ?_
    refine g_dup X dX4_add_23 rfl ?_
    refine g_geti X fa_X4_15 hT1 dX4_add_24 ?_
    refine g_iconst (v := 1) X dX4_add_27 (by decide) ?_
    refine g_iadd X dX4_add_28 ?_
    refine g_pfi X fa_X4_15 rfl (by decide +kernel) hT1 dX4_add_29 (fun M5 => ?_)
    exact g_vret X rfl rfl rfl dX4_add_32
set_option maxHeartbeats 4000000 in
set_option maxRecDepth 100000 in
theorem c_X3_tellPlan (l : Launch) (K : q_KK) (c : Nat → Nat) (M0 : q_MM) (a1 : Int32) (a2 : Int32) (a3 : Nat) : ∀ res, f_X3_tellPlan c M0 a1 a2 a3 = some res → Mt l yX3_tellPlan cX3_tellPlan 7 (none : Option FieldType) 3 71 0 0 false K [.ref 5, .int a1, .int a2, .ref a3] ((qTX c), (qLX c), (qPX c), M0) (none) (((qTX c), (qLX c), (qPX c), res)) := by
  refine Mt.of (fun (_ : q_MM) => none) (fun (res : q_MM) => ((qTX c), (qLX c), (qPX c), res)) (by decide) (Nat.le_of_ble_eq_true rfl) ?_
  intro p e s m args below meth c0 A ad X hN
  have hb_13 : ∀ (nf : Nat) (x1 : Int32) (x2 : Int32) (x3 : Nat) (x4 : Int32) (x5 : Int32) (M : q_MM), GG p l e { frames := 3, cells := 0, slots := 0, locals := 71 } s m args below meth c0 K A ((qTX c), (qLX c), (qPX c), M0) ad false 7 (fun res => MQ below (q_Qc K false ad ((qTX c), (qLX c), (qPX c), M0) ((fun (_ : q_MM) => none) res) ((fun (res : q_MM) => ((qTX c), (qLX c), (qPX c), res)) res) A) args s 0 0 A) (b_X3_tellPlan_13 c nf x1 x2 x3 x4 x5 M) 13 [(0, .ref 5), (1, .int x1), (2, .int x2), (3, .ref x3), (4, .int x4), (5, .int x5)] [] ((qTX c), (qLX c), (qPX c), M) 0 0 := by
    intro  nf
    induction nf with
    | zero => intros; exact g_stop
    | succ nf ih =>
      intro x1 x2 x3 x4 x5 M
      rw [b_X3_tellPlan_13]
      refine g_iload X dX3_tellPlan_13 5 rfl ?_
      refine g_if_lt X 55 dX3_tellPlan_15 rfl (fun h1 => ?_) (fun h1 => ?_)
      · exact g_vret X rfl rfl rfl dX3_tellPlan_55
      · refine g_aload_n X dX3_tellPlan_18 rfl 0 rfl ?_
        refine g_iload X dX3_tellPlan_19 4 rfl ?_
        refine g_bVv (As := [.int x4]) (rest := []) X (c_X3_reachFrom l K c M x4) lk_X3_111 rfl rfl rfl (Nat.le_of_ble_eq_true rfl) ⟨Nat.le_of_ble_eq_true rfl, Nat.le_of_ble_eq_true rfl⟩ ⟨Nat.zero_le _, Nat.zero_le _⟩ dX3_tellPlan_21 (fun r2 => ?_)
        refine g_aload_n X dX3_tellPlan_24 rfl 0 rfl ?_
        refine g_iload X dX3_tellPlan_25 4 rfl ?_
        refine g_iload X dX3_tellPlan_27 5 rfl ?_
        refine g_iload_n X dX3_tellPlan_29 rfl 1 rfl ?_
        refine g_iload_n X dX3_tellPlan_30 rfl 2 rfl ?_
        refine g_bVi (As := [.int x4, .int x5, .int x1, .int x2]) (rest := []) X (c_X3_leastNight l K c r2 x4 x5 x1 x2) lk_X3_124 rfl rfl rfl (Nat.le_of_ble_eq_true rfl) ⟨Nat.le_of_ble_eq_true rfl, Nat.le_of_ble_eq_true rfl⟩ ⟨Nat.zero_le _, Nat.zero_le _⟩ dX3_tellPlan_31 (fun r3 => ?_)
        refine g_istore X [(6, .int r3), (0, .ref 5), (1, .int x1), (2, .int x2), (3, .ref x3), (4, .int x4), (5, .int x5)] dX3_tellPlan_34 (by decide) rfl ?_
        refine g_aload_n X dX3_tellPlan_36 rfl 4 rfl ?_
        refine g_iload X dX3_tellPlan_37 0 rfl ?_
        refine g_iload X dX3_tellPlan_39 5 rfl ?_
        refine g_ixor X dX3_tellPlan_41 ?_
        refine g_ck (fun hT4 => ?_)
        refine g_bVv (As := [.int (r3 ^^^ x4)]) (rest := []) X (c_X4_add l K c r2 x3 (r3 ^^^ x4)) lk_X3_128 hT4 rfl rfl (Nat.le_of_ble_eq_true rfl) ⟨Nat.le_of_ble_eq_true rfl, Nat.le_of_ble_eq_true rfl⟩ ⟨Nat.zero_le _, Nat.zero_le _⟩ dX3_tellPlan_42 (fun r5 => ?_)
        refine g_iload X dX3_tellPlan_45 0 rfl ?_
        refine g_istore X [(4, .int r3), (6, .int r3), (0, .ref 5), (1, .int x1), (2, .int x2), (3, .ref x3), (5, .int x5)] dX3_tellPlan_47 (by decide) rfl ?_
        refine g_iinc (v := (-1)) X [(5, .int (x5 + (-1))), (4, .int r3), (6, .int r3), (0, .ref 5), (1, .int x1), (2, .int x2), (3, .ref x3)] 6 dX3_tellPlan_49 rfl (by decide) (by decide) rfl ?_
        refine g_goto X 13 dX3_tellPlan_52 rfl ?_
        exact g_sub [3, 4, 5, 6, 1, 0] rfl (ih x1 x2 x3 r3 (x5 + (-1)) r5)
  refine g_sub (lv' := [(0, .ref 5), (1, .int a1), (2, .int a2), (3, .ref a3)]) [0, 1, 2, 3] rfl ?_
  unfold f_X3_tellPlan
  refine g_iconst (v := 0) X dX3_tellPlan_0 (by decide) ?_
  refine g_istore X [(4, .int 0), (0, .ref 5), (1, .int a1), (2, .int a2), (3, .ref a3)] dX3_tellPlan_1 (by decide) rfl ?_
  refine g_aload_n X dX3_tellPlan_3 rfl 1 rfl ?_
  refine g_getr X fa_X3_33 rfl rfl dX3_tellPlan_4 ?_
  refine g_iconst (v := 0) X dX3_tellPlan_7 (by decide) ?_
  refine g_ild X rfl rfl dX3_tellPlan_8 (fun v6 => ?_)
  refine g_iconst (v := 1) X dX3_tellPlan_9 (by decide) ?_
  refine g_isub X dX3_tellPlan_10 ?_
  refine g_is X (fun v7 => [(5, .int v7), (4, .int 0), (0, .ref 5), (1, .int a1), (2, .int a2), (3, .ref a3)]) dX3_tellPlan_11 (by decide) (fun _ => rfl) (fun v7 => ?_)
  exact g_sub [2, 3, 4, 5, 1, 0] rfl (hb_13 q_fu a1 a2 a3 0 v7 M0)
set_option maxHeartbeats 4000000 in
set_option maxRecDepth 100000 in
theorem c_X4_take (l : Launch) (K : q_KK) (c : Nat → Nat) (M0 : q_MM) (o0 : Nat) : ∀ res, f_X4_take c M0 o0 = some res → Mt l yX4_take cX4_take 1 (some FieldType.int) 0 0 0 0 false K [.ref o0] ((qTX c), (qLX c), (qPX c), M0) (some (.int res.1)) (((qTX c), (qLX c), (qPX c), res.2)) := by
  refine Mt.of (fun (res : Int32 × q_MM) => some (.int res.1)) (fun (res : Int32 × q_MM) => ((qTX c), (qLX c), (qPX c), res.2)) (by decide) (Nat.le_of_ble_eq_true rfl) ?_
  intro p e s m args below meth c0 A ad X hN
  refine g_sub (lv' := [(0, .ref o0)]) [0] rfl ?_
  unfold f_X4_take
  refine g_aload_n X dX4_take_0 rfl 0 rfl ?_
  refine g_ck (fun hT1 => ?_)
  refine g_geti X fa_X4_15 hT1 dX4_take_1 ?_
  refine g_if_gt X 9 dX4_take_4 rfl (fun h2 => ?_) (fun h2 => ?_)
  · refine g_aload_n X dX4_take_9 rfl 0 rfl ?_
    refine g_dup X dX4_take_10 rfl ?_
    refine g_geti X fa_X4_15 hT1 dX4_take_11 ?_
    refine g_iconst (v := 1) X dX4_take_14 (by decide) ?_
    refine g_isub X dX4_take_15 ?_
    refine g_pfi X fa_X4_15 rfl (by decide +kernel) hT1 dX4_take_16 (fun M3 => ?_)
    refine g_aload_n X dX4_take_19 rfl 0 rfl ?_
    refine g_getr X fa_X4_9 hT1 rfl dX4_take_20 ?_
    refine g_aload_n X dX4_take_23 rfl 0 rfl ?_
    refine g_geti X fa_X4_15 hT1 dX4_take_24 ?_
    refine g_ck (fun hT4 => ?_)
    refine g_ild X hT4 rfl dX4_take_27 (fun v5 => ?_)
    exact g_iret X rfl rfl rfl dX4_take_28
  · refine g_iconst (v := 0) X dX4_take_7 (by decide) ?_
    exact g_iret X rfl rfl rfl dX4_take_8
set_option maxHeartbeats 4000000 in
set_option maxRecDepth 100000 in
theorem c_X4_find (l : Launch) (K : q_KK) (c : Nat → Nat) (M : q_MM) (o0 : Nat) (a1 : Int32) : ∀ res, f_X4_find c M o0 a1 = some res → Mt l yX4_find cX4_find 3 (some FieldType.int) 0 0 0 0 false K [.ref o0, .int a1] ((qTX c), (qLX c), (qPX c), M) (some (.int res)) (((qTX c), (qLX c), (qPX c), M)) := by
  refine Mt.of (fun (res : Int32) => some (.int res)) (fun (_ : Int32) => ((qTX c), (qLX c), (qPX c), M)) (by decide) (Nat.le_of_ble_eq_true rfl) ?_
  intro p e s m args below meth c0 A ad X hN
  have hb_2 : ∀ (nf : Nat) (x0 : Nat) (x1 : Int32) (x2 : Int32), GG p l e { frames := 0, cells := 0, slots := 0, locals := 0 } s m args below meth c0 K A ((qTX c), (qLX c), (qPX c), M) ad false 3 (fun res => MQ below (q_Qc K false ad ((qTX c), (qLX c), (qPX c), M) ((fun (res : Int32) => some (.int res)) res) ((fun (_ : Int32) => ((qTX c), (qLX c), (qPX c), M)) res) A) args s 0 0 A) (b_X4_find_2 c M nf x0 x1 x2) 2 [(0, .ref x0), (1, .int x1), (2, .int x2)] [] ((qTX c), (qLX c), (qPX c), M) 0 0 := by
    intro  nf
    induction nf with
    | zero => intros; exact g_stop
    | succ nf ih =>
      intro x0 x1 x2
      rw [b_X4_find_2]
      refine g_iload_n X dX4_find_2 rfl 2 rfl ?_
      refine g_aload_n X dX4_find_3 rfl 0 rfl ?_
      refine g_ck (fun hT1 => ?_)
      refine g_geti X fa_X4_15 hT1 dX4_find_4 ?_
      refine g_icmp_ge X 28 dX4_find_7 rfl (fun h2 => ?_) (fun h2 => ?_)
      · refine g_iconst (v := (-1)) X dX4_find_28 (by decide) ?_
        exact g_iret X rfl rfl rfl dX4_find_29
      · refine g_aload_n X dX4_find_10 rfl 0 rfl ?_
        refine g_getr X fa_X4_9 hT1 rfl dX4_find_11 ?_
        refine g_iload_n X dX4_find_14 rfl 2 rfl ?_
        refine g_ck (fun hT3 => ?_)
        refine g_ild X hT3 rfl dX4_find_15 (fun v4 => ?_)
        refine g_iload_n X dX4_find_16 rfl 1 rfl ?_
        refine g_icmp_ne X 22 dX4_find_17 rfl (fun h5 => ?_) (fun h5 => ?_)
        · refine g_iload_n X dX4_find_20 rfl 2 rfl ?_
          exact g_iret X rfl rfl rfl dX4_find_21
        · refine g_iinc (v := 1) X [(2, .int (x2 + 1)), (0, .ref x0), (1, .int x1)] 2 dX4_find_22 rfl (by decide) (by decide) rfl ?_
          refine g_goto X 2 dX4_find_25 rfl ?_
          exact g_sub [1, 2, 0] rfl (ih x0 x1 (x2 + 1))
  refine g_sub (lv' := [(0, .ref o0), (1, .int a1)]) [0, 1] rfl ?_
  unfold f_X4_find
  refine g_iconst (v := 0) X dX4_find_0 (by decide) ?_
  refine g_istore_n X [(2, .int 0), (0, .ref o0), (1, .int a1)] dX4_find_1 rfl (by decide) rfl ?_
  exact g_sub [1, 2, 0] rfl (hb_2 q_fu o0 a1 0)
set_option maxHeartbeats 4000000 in
set_option maxRecDepth 100000 in
theorem c_X4_become (l : Launch) (K : q_KK) (c : Nat → Nat) (M0 : q_MM) (o0 : Nat) (a1 : Nat) : ∀ res, f_X4_become c M0 o0 a1 = some res → Mt l yX4_become cX4_become 3 (none : Option FieldType) 1 21 0 0 false K [.ref o0, .ref a1] ((qTX c), (qLX c), (qPX c), M0) (none) (((qTX c), (qLX c), (qPX c), res)) := by
  refine Mt.of (fun (_ : q_MM) => none) (fun (res : q_MM) => ((qTX c), (qLX c), (qPX c), res)) (by decide) (Nat.le_of_ble_eq_true rfl) ?_
  intro p e s m args below meth c0 A ad X hN
  have hb_6 : ∀ (nf : Nat) (x0 : Nat) (x1 : Nat) (x2 : Int32) (M : q_MM), GG p l e { frames := 1, cells := 0, slots := 0, locals := 21 } s m args below meth c0 K A ((qTX c), (qLX c), (qPX c), M0) ad false 3 (fun res => MQ below (q_Qc K false ad ((qTX c), (qLX c), (qPX c), M0) ((fun (_ : q_MM) => none) res) ((fun (res : q_MM) => ((qTX c), (qLX c), (qPX c), res)) res) A) args s 0 0 A) (b_X4_become_6 c nf x0 x1 x2 M) 6 [(0, .ref x0), (1, .ref x1), (2, .int x2)] [] ((qTX c), (qLX c), (qPX c), M) 0 0 := by
    intro  nf
    induction nf with
    | zero => intros; exact g_stop
    | succ nf ih =>
      intro x0 x1 x2 M
      rw [b_X4_become_6]
      refine g_iload_n X dX4_become_6 rfl 2 rfl ?_
      refine g_aload_n X dX4_become_7 rfl 1 rfl ?_
      refine g_ck (fun hT1 => ?_)
      refine g_geti X fa_X4_15 hT1 dX4_become_8 ?_
      refine g_icmp_ge X 30 dX4_become_11 rfl (fun h2 => ?_) (fun h2 => ?_)
      · exact g_vret X rfl rfl rfl dX4_become_30
      · refine g_aload_n X dX4_become_14 rfl 0 rfl ?_
        refine g_aload_n X dX4_become_15 rfl 1 rfl ?_
        refine g_getr X fa_X4_9 hT1 rfl dX4_become_16 ?_
        refine g_iload_n X dX4_become_19 rfl 2 rfl ?_
        refine g_ck (fun hT3 => ?_)
        refine g_ild X hT3 rfl dX4_become_20 (fun v4 => ?_)
        refine g_ck (fun hT5 => ?_)
        refine g_bVv (As := [.int v4]) (rest := []) X (c_X4_add l K c M x0 v4) lk_X4_22 hT5 rfl rfl (Nat.le_of_ble_eq_true rfl) ⟨Nat.le_of_ble_eq_true rfl, Nat.le_of_ble_eq_true rfl⟩ ⟨Nat.zero_le _, Nat.zero_le _⟩ dX4_become_21 (fun r6 => ?_)
        refine g_iinc (v := 1) X [(2, .int (x2 + 1)), (0, .ref x0), (1, .ref x1)] 2 dX4_become_24 rfl (by decide) (by decide) rfl ?_
        refine g_goto X 6 dX4_become_27 rfl ?_
        exact g_sub [1, 2, 0] rfl (ih x0 x1 (x2 + 1) r6)
  refine g_sub (lv' := [(0, .ref o0), (1, .ref a1)]) [0, 1] rfl ?_
  unfold f_X4_become
  refine g_aload_n X dX4_become_0 rfl 0 rfl ?_
  refine g_ck (fun hT7 => ?_)
  refine g_bVv (As := []) (rest := []) X (c_X4_clear l K c M0 o0) lk_X4_19 hT7 rfl rfl (Nat.le_of_ble_eq_true rfl) ⟨Nat.le_of_ble_eq_true rfl, Nat.le_of_ble_eq_true rfl⟩ ⟨Nat.zero_le _, Nat.zero_le _⟩ dX4_become_1 (fun r8 => ?_)
  refine g_iconst (v := 0) X dX4_become_4 (by decide) ?_
  refine g_istore_n X [(2, .int 0), (0, .ref o0), (1, .ref a1)] dX4_become_5 rfl (by decide) rfl ?_
  exact g_sub [1, 2, 0] rfl (hb_6 q_fu o0 a1 0 r8)
set_option maxHeartbeats 4000000 in
set_option maxRecDepth 100000 in
theorem c_X6_arePresent (l : Launch) (K : q_KK) (c : Nat → Nat) (M : q_MM) (a1 : Nat) : ∀ res, f_X6_arePresent c M a1 = some res → Mt l yX6_arePresent cX6_arePresent 3 (some FieldType.boolean) 5 107 0 0 false K [.ref 4, .ref a1] ((qTX c), (qLX c), (qPX c), M) (some (.int res)) (((qTX c), (qLX c), (qPX c), M)) := by
  refine Mt.of (fun (res : Int32) => some (.int res)) (fun (_ : Int32) => ((qTX c), (qLX c), (qPX c), M)) (by decide) (Nat.le_of_ble_eq_true rfl) ?_
  intro p e s m args below meth c0 A ad X hN
  have hb_2 : ∀ (nf : Nat) (x1 : Nat) (x2 : Int32), GG p l e { frames := 5, cells := 0, slots := 0, locals := 107 } s m args below meth c0 K A ((qTX c), (qLX c), (qPX c), M) ad false 3 (fun res => MQ below (q_Qc K false ad ((qTX c), (qLX c), (qPX c), M) ((fun (res : Int32) => some (.int res)) res) ((fun (_ : Int32) => ((qTX c), (qLX c), (qPX c), M)) res) A) args s 0 0 A) (b_X6_arePresent_2 c M nf x1 x2) 2 [(0, .ref 4), (1, .ref x1), (2, .int x2)] [] ((qTX c), (qLX c), (qPX c), M) 0 0 := by
    intro  nf
    induction nf with
    | zero => intros; exact g_stop
    | succ nf ih =>
      intro x1 x2
      rw [b_X6_arePresent_2]
      refine g_iload_n X dX6_arePresent_2 rfl 2 rfl ?_
      refine g_aload_n X dX6_arePresent_3 rfl 1 rfl ?_
      refine g_ck (fun hT1 => ?_)
      refine g_geti X fa_X6_60 hT1 dX6_arePresent_4 ?_
      refine g_icmp_ge X 33 dX6_arePresent_7 rfl (fun h2 => ?_) (fun h2 => ?_)
      · refine g_iconst (v := 1) X dX6_arePresent_33 (by decide) ?_
        exact g_zret X rfl rfl rfl dX6_arePresent_34
      · refine g_aload_n X dX6_arePresent_10 rfl 0 rfl ?_
        refine g_getr X fa_X6_40 rfl rfl dX6_arePresent_11 ?_
        refine g_aload_n X dX6_arePresent_14 rfl 1 rfl ?_
        refine g_iload_n X dX6_arePresent_15 rfl 2 rfl ?_
        refine g_bVi (As := [.int x2]) (rest := [.ref 2]) X (c_X4_get l K c M x1 x2) lk_X6_63 hT1 rfl rfl (Nat.le_of_ble_eq_true rfl) ⟨Nat.le_of_ble_eq_true rfl, Nat.le_of_ble_eq_true rfl⟩ ⟨Nat.zero_le _, Nat.zero_le _⟩ dX6_arePresent_16 (fun r3 => ?_)
        refine g_bVr (As := [.int r3]) (rest := []) X (c_X2_present l K c M r3) lk_X6_66 rfl rfl rfl (Nat.le_of_ble_eq_true rfl) ⟨Nat.le_of_ble_eq_true rfl, Nat.le_of_ble_eq_true rfl⟩ ⟨Nat.zero_le _, Nat.zero_le _⟩ dX6_arePresent_19 (fun r4 => ?_)
        refine g_ifnonnull X 27 dX6_arePresent_22 rfl (fun h5 => ?_) (fun h5 => ?_)
        · refine g_iconst (v := 0) X dX6_arePresent_25 (by decide) ?_
          exact g_zret X rfl rfl rfl dX6_arePresent_26
        · refine g_iinc (v := 1) X [(2, .int (x2 + 1)), (0, .ref 4), (1, .ref x1)] 2 dX6_arePresent_27 rfl (by decide) (by decide) rfl ?_
          refine g_goto X 2 dX6_arePresent_30 rfl ?_
          exact g_sub [1, 2, 0] rfl (ih x1 (x2 + 1))
  refine g_sub (lv' := [(0, .ref 4), (1, .ref a1)]) [0, 1] rfl ?_
  unfold f_X6_arePresent
  refine g_iconst (v := 0) X dX6_arePresent_0 (by decide) ?_
  refine g_istore_n X [(2, .int 0), (0, .ref 4), (1, .ref a1)] dX6_arePresent_1 rfl (by decide) rfl ?_
  exact g_sub [1, 2, 0] rfl (hb_2 q_fu a1 0)
set_option maxHeartbeats 4000000 in
set_option maxRecDepth 100000 in
theorem c_X6_choose (l : Launch) (K : q_KK) (c : Nat → Nat) (M0 : q_MM) (a1 : Int32) : ∀ res, f_X6_choose c M0 a1 = some res → Mt l yX6_choose cX6_choose 3 (some FieldType.boolean) 6 129 0 0 false K [.ref 4, .int a1] ((qTX c), (qLX c), (qPX c), M0) (some (.int res.1)) (((qTX c), (qLX c), (qPX c), res.2)) := by
  refine Mt.of (fun (res : Int32 × q_MM) => some (.int res.1)) (fun (res : Int32 × q_MM) => ((qTX c), (qLX c), (qPX c), res.2)) (by decide) (Nat.le_of_ble_eq_true rfl) ?_
  intro p e s m args below meth c0 A ad X hN
  have hb_46 : ∀ (k24 : Int32 → Int32 → q_MM → Option (Int32 × q_MM)) (hk24 : ∀ (x1 : Int32) (x2 : Int32) (M : q_MM), GG p l e { frames := 6, cells := 0, slots := 0, locals := 129 } s m args below meth c0 K A ((qTX c), (qLX c), (qPX c), M0) ad false 3 (fun res => MQ below (q_Qc K false ad ((qTX c), (qLX c), (qPX c), M0) ((fun (res : Int32 × q_MM) => some (.int res.1)) res) ((fun (res : Int32 × q_MM) => ((qTX c), (qLX c), (qPX c), res.2)) res) A) args s 0 0 A) (k24 x1 x2 M) 24 [(0, .ref 4), (1, .int x1), (2, .int x2)] [] ((qTX c), (qLX c), (qPX c), M) 0 0) (x1 : Int32) (x2 : Int32) (M : q_MM), GG p l e { frames := 6, cells := 0, slots := 0, locals := 129 } s m args below meth c0 K A ((qTX c), (qLX c), (qPX c), M0) ad false 3 (fun res => MQ below (q_Qc K false ad ((qTX c), (qLX c), (qPX c), M0) ((fun (res : Int32 × q_MM) => some (.int res.1)) res) ((fun (res : Int32 × q_MM) => ((qTX c), (qLX c), (qPX c), res.2)) res) A) args s 0 0 A) (b_X6_choose_46 c k24 x1 x2 M) 46 [(0, .ref 4), (1, .int x1), (2, .int x2)] [] ((qTX c), (qLX c), (qPX c), M) 0 0 := by
    intro k24 hk24 x1 x2 M
    unfold b_X6_choose_46
    refine g_iinc (v := 1) X [(2, .int (x2 + 1)), (0, .ref 4), (1, .int x1)] 2 dX6_choose_46 rfl (by decide) (by decide) rfl ?_
    refine g_goto X 24 dX6_choose_49 rfl ?_
    exact g_sub [1, 2, 0] rfl (hk24 x1 (x2 + 1) M)
  have hb_24 : ∀ (nf : Nat) (x1 : Int32) (x2 : Int32) (M : q_MM), GG p l e { frames := 6, cells := 0, slots := 0, locals := 129 } s m args below meth c0 K A ((qTX c), (qLX c), (qPX c), M0) ad false 3 (fun res => MQ below (q_Qc K false ad ((qTX c), (qLX c), (qPX c), M0) ((fun (res : Int32 × q_MM) => some (.int res.1)) res) ((fun (res : Int32 × q_MM) => ((qTX c), (qLX c), (qPX c), res.2)) res) A) args s 0 0 A) (b_X6_choose_24 c nf x1 x2 M) 24 [(0, .ref 4), (1, .int x1), (2, .int x2)] [] ((qTX c), (qLX c), (qPX c), M) 0 0 := by
    intro  nf
    induction nf with
    | zero => intros; exact g_stop
    | succ nf ih =>
      intro x1 x2 M
      rw [b_X6_choose_24]
      refine g_iload_n X dX6_choose_24 rfl 2 rfl ?_
      refine g_bipush (v := 32) X dX6_choose_25 (by decide) ?_
      refine g_icmp_ge X 52 dX6_choose_27 rfl (fun h1 => ?_) (fun h1 => ?_)
      · refine g_aload_n X dX6_choose_52 rfl 0 rfl ?_
        refine g_aload_n X dX6_choose_53 rfl 0 rfl ?_
        refine g_getr X fa_X6_14 rfl rfl dX6_choose_54 ?_
        refine g_bVi (As := [.ref 33]) (rest := []) X (c_X6_arePresent l K c M 33) lk_X6_56 rfl rfl rfl (Nat.le_of_ble_eq_true rfl) ⟨Nat.le_of_ble_eq_true rfl, Nat.le_of_ble_eq_true rfl⟩ ⟨Nat.zero_le _, Nat.zero_le _⟩ dX6_choose_57 (fun r2 => ?_)
        exact g_zret X rfl rfl rfl dX6_choose_60
      · refine g_iload_n X dX6_choose_30 rfl 1 rfl ?_
        refine g_iload_n X dX6_choose_31 rfl 2 rfl ?_
        refine g_iushr X dX6_choose_32 ?_
        refine g_iconst (v := 1) X dX6_choose_33 (by decide) ?_
        refine g_iand X dX6_choose_34 ?_
        refine g_if_eq X 46 dX6_choose_35 rfl (fun h3 => ?_) (fun h3 => ?_)
        · exact g_sub [0, 1, 2] rfl (hb_46 (b_X6_choose_24 c nf) ih x1 x2 M)
        · refine g_aload_n X dX6_choose_38 rfl 0 rfl ?_
          refine g_getr X fa_X6_14 rfl rfl dX6_choose_39 ?_
          refine g_iload_n X dX6_choose_42 rfl 2 rfl ?_
          refine g_bVv (As := [.int x2]) (rest := []) X (c_X4_add l K c M 33 x2) lk_X6_53 rfl rfl rfl (Nat.le_of_ble_eq_true rfl) ⟨Nat.le_of_ble_eq_true rfl, Nat.le_of_ble_eq_true rfl⟩ ⟨Nat.zero_le _, Nat.zero_le _⟩ dX6_choose_43 (fun r4 => ?_)
          exact g_sub [0, 1, 2] rfl (hb_46 (b_X6_choose_24 c nf) ih x1 x2 r4)
  refine g_sub (lv' := [(0, .ref 4), (1, .int a1)]) [0, 1] rfl ?_
  unfold f_X6_choose
  refine g_iload_n X dX6_choose_0 rfl 1 rfl ?_
  refine g_if_eq X 13 dX6_choose_1 rfl (fun h5 => ?_) (fun h5 => ?_)
  · refine g_iconst (v := 0) X dX6_choose_13 (by decide) ?_
    exact g_zret X rfl rfl rfl dX6_choose_14
  · refine g_iload_n X dX6_choose_4 rfl 1 rfl ?_
    refine g_bSi (As := [.int a1]) (rest := []) X (c_J6_bitCount_0f7a4 l K (qTX c) (qLX c) (qPX c) M0 a1) lk_X6_44 rfl rfl (Nat.le_of_ble_eq_true rfl) ⟨Nat.le_of_ble_eq_true rfl, Nat.le_of_ble_eq_true rfl⟩ ⟨Nat.zero_le _, Nat.zero_le _⟩ dX6_choose_5 (fun r6 => ?_)
    refine g_bipush (v := 7) X dX6_choose_8 (by decide) ?_
    refine g_icmp_le X 15 dX6_choose_10 rfl (fun h7 => ?_) (fun h7 => ?_)
    · refine g_aload_n X dX6_choose_15 rfl 0 rfl ?_
      refine g_getr X fa_X6_14 rfl rfl dX6_choose_16 ?_
      refine g_bVv (As := []) (rest := []) X (c_X4_clear l K c M0 33) lk_X6_50 rfl rfl rfl (Nat.le_of_ble_eq_true rfl) ⟨Nat.le_of_ble_eq_true rfl, Nat.le_of_ble_eq_true rfl⟩ ⟨Nat.zero_le _, Nat.zero_le _⟩ dX6_choose_19 (fun r8 => ?_)
      refine g_iconst (v := 0) X dX6_choose_22 (by decide) ?_
      refine g_istore_n X [(2, .int 0), (0, .ref 4), (1, .int a1)] dX6_choose_23 rfl (by decide) rfl ?_
      exact g_sub [1, 2, 0] rfl (hb_24 q_fu a1 0 r8)
    · refine g_iconst (v := 0) X dX6_choose_13 (by decide) ?_
      exact g_zret X rfl rfl rfl dX6_choose_14
set_option maxHeartbeats 4000000 in
set_option maxRecDepth 100000 in
theorem c_X6_chosenAt (l : Launch) (K : q_KK) (c : Nat → Nat) (M : q_MM) (a1 : Int32) : ∀ res, f_X6_chosenAt c M a1 = some res → Mt l yX6_chosenAt cX6_chosenAt 2 (some (FieldType.object "GalleryWalls$Picture")) 4 85 0 0 false K [.ref 4, .int a1] ((qTX c), (qLX c), (qPX c), M) (some (.ref res)) (((qTX c), (qLX c), (qPX c), M)) := by
  refine Mt.of (fun (res : Nat) => some (.ref res)) (fun (_ : Nat) => ((qTX c), (qLX c), (qPX c), M)) (by decide) (Nat.le_of_ble_eq_true rfl) ?_
  intro p e s m args below meth c0 A ad X hN
  refine g_sub (lv' := [(0, .ref 4), (1, .int a1)]) [0, 1] rfl ?_
  unfold f_X6_chosenAt
  refine g_aload_n X dX6_chosenAt_0 rfl 0 rfl ?_
  refine g_getr X fa_X6_40 rfl rfl dX6_chosenAt_1 ?_
  refine g_aload_n X dX6_chosenAt_4 rfl 0 rfl ?_
  refine g_getr X fa_X6_14 rfl rfl dX6_chosenAt_5 ?_
  refine g_iload_n X dX6_chosenAt_8 rfl 1 rfl ?_
  refine g_bVi (As := [.int a1]) (rest := [.ref 2]) X (c_X4_get l K c M 33 a1) lk_X6_63 rfl rfl rfl (Nat.le_of_ble_eq_true rfl) ⟨Nat.le_of_ble_eq_true rfl, Nat.le_of_ble_eq_true rfl⟩ ⟨Nat.zero_le _, Nat.zero_le _⟩ dX6_chosenAt_9 (fun r1 => ?_)
  refine g_bVr (As := [.int r1]) (rest := []) X (c_X2_pictureAt l K c M r1) lk_X6_72 rfl rfl rfl (Nat.le_of_ble_eq_true rfl) ⟨Nat.le_of_ble_eq_true rfl, Nat.le_of_ble_eq_true rfl⟩ ⟨Nat.zero_le _, Nat.zero_le _⟩ dX6_chosenAt_12 (fun r2 => ?_)
  exact g_aret X rfl (by first | exact Or.inl ⟨_, rfl⟩ | exact Or.inr ⟨_, rfl⟩) rfl rfl dX6_chosenAt_15
