set_option maxHeartbeats 4000000 in
set_option maxRecDepth 100000 in
theorem c_X12_route (l : Launch) (K : q_KK) (M0 : q_MM) (a1 : Int32) : ∀ res, f_X12_route M0 a1 = some res → Mt l yX12_route cX12_route 2 (some FieldType.int) 2 46 0 0 false K [.ref 5001, .int a1] (qTM, qLM, qPM, M0) (some (.int res.1)) ((qTM, qLM, qPM, res.2)) := by
  refine Mt.of (fun (res : Int32 × q_MM) => some (.int res.1)) (fun (res : Int32 × q_MM) => (qTM, qLM, qPM, res.2)) (by decide) (Nat.le_of_ble_eq_true rfl) ?_
  intro p e s m args below meth c0 A ad X hN
  refine g_sub (lv' := [(0, .ref 5001), (1, .int a1)]) [0, 1] rfl ?_
  unfold f_X12_route
  refine g_aload_n X dX12_route_0 rfl 0 rfl ?_
  refine g_iconst (v := 0) X dX12_route_1 (by decide) ?_
  refine g_pfi X fa_X12_1 rfl (by decide +kernel) rfl dX12_route_2 (fun M1 => ?_)
  refine g_aload_n X dX12_route_5 rfl 0 rfl ?_
  refine g_iload_n X dX12_route_6 rfl 1 rfl ?_
  refine g_bVi (As := [.int a1]) (rest := []) X (c_X12_isRoom l K M1 a1) lk_X12_24 rfl rfl rfl (Nat.le_of_ble_eq_true rfl) ⟨Nat.le_of_ble_eq_true rfl, Nat.le_of_ble_eq_true rfl⟩ ⟨Nat.zero_le _, Nat.zero_le _⟩ dX12_route_7 (fun r2 => ?_)
  refine g_if_eq X 37 dX12_route_10 rfl (fun h3 => ?_) (fun h3 => ?_)
  · refine g_iconst (v := (-1)) X dX12_route_37 (by decide) ?_
    exact g_iret X rfl rfl rfl dX12_route_38
  · refine g_aload_n X dX12_route_13 rfl 0 rfl ?_
    refine g_getr X fa_X12_419 rfl rfl dX12_route_14 ?_
    refine g_aload_n X dX12_route_17 rfl 0 rfl ?_
    refine g_geti X fa_X12_422 rfl dX12_route_18 ?_
    refine g_iload_n X dX12_route_21 rfl 1 rfl ?_
    refine g_bSi (As := [.ref 5073, .int (M1 5001 62), .int a1]) (rest := []) X (c_X12_isThere l K M1 5073 (M1 5001 62) a1) lk_X12_415 rfl rfl (Nat.le_of_ble_eq_true rfl) ⟨Nat.le_of_ble_eq_true rfl, Nat.le_of_ble_eq_true rfl⟩ ⟨Nat.zero_le _, Nat.zero_le _⟩ dX12_route_22 (fun r4 => ?_)
    refine g_if_ne X 37 dX12_route_25 rfl (fun h5 => ?_) (fun h5 => ?_)
    · refine g_aload_n X dX12_route_28 rfl 0 rfl ?_
      refine g_geti X fa_X12_422 rfl dX12_route_29 ?_
      refine g_bipush (v := 10) X dX12_route_32 (by decide) ?_
      refine g_icmp_ne X 39 dX12_route_34 rfl (fun h6 => ?_) (fun h6 => ?_)
      · refine g_iconst (v := (-1)) X dX12_route_37 (by decide) ?_
        exact g_iret X rfl rfl rfl dX12_route_38
      · refine g_aload_n X dX12_route_39 rfl 0 rfl ?_
        refine g_getr X fa_X12_419 rfl rfl dX12_route_40 ?_
        refine g_aload_n X dX12_route_43 rfl 0 rfl ?_
        refine g_geti X fa_X12_422 rfl dX12_route_44 ?_
        refine g_iload_n X dX12_route_47 rfl 1 rfl ?_
        refine g_isv X rfl rfl dX12_route_48 (fun M7 => ?_)
        refine g_aload_n X dX12_route_49 rfl 0 rfl ?_
        refine g_dup X dX12_route_50 rfl ?_
        refine g_geti X fa_X12_422 rfl dX12_route_51 ?_
        refine g_iconst (v := 1) X dX12_route_54 (by decide) ?_
        refine g_iadd X dX12_route_55 ?_
        refine g_pfi X fa_X12_422 rfl (by decide +kernel) rfl dX12_route_56 (fun M8 => ?_)
        refine g_aload_n X dX12_route_59 rfl 0 rfl ?_
        refine g_geti X fa_X12_422 rfl dX12_route_60 ?_
        exact g_iret X rfl rfl rfl dX12_route_63
    · refine g_iconst (v := (-1)) X dX12_route_37 (by decide) ?_
      exact g_iret X rfl rfl rfl dX12_route_38
set_option maxHeartbeats 4000000 in
set_option maxRecDepth 100000 in
theorem c_X12_breaks (l : Launch) (K : q_KK) (M0 : q_MM) : ∀ res, f_X12_breaks M0 = some res → Mt l yX12_breaks cX12_breaks 10 (some FieldType.int) 2 46 0 0 false K [.ref 5001] (qTM, qLM, qPM, M0) (some (.int res.1)) ((qTM, qLM, qPM, res.2)) := by
  refine Mt.of (fun (res : Int32 × q_MM) => some (.int res.1)) (fun (res : Int32 × q_MM) => (qTM, qLM, qPM, res.2)) (by decide) (Nat.le_of_ble_eq_true rfl) ?_
  intro p e s m args below meth c0 A ad X hN
  have hb_165 : ∀ (k78 : Int32 → Int32 → Int32 → Int32 → q_MM → Option (Int32 × q_MM)) (hk78 : ∀ (x1 : Int32) (x2 : Int32) (x3 : Int32) (x4 : Int32) (M : q_MM), GG p l e { frames := 2, cells := 0, slots := 0, locals := 46 } s m args below meth c0 K A (qTM, qLM, qPM, M0) ad false 10 (fun res => MQ below (q_Qc K false ad (qTM, qLM, qPM, M0) ((fun (res : Int32 × q_MM) => some (.int res.1)) res) ((fun (res : Int32 × q_MM) => (qTM, qLM, qPM, res.2)) res) A) args s 0 0 A) (k78 x1 x2 x3 x4 M) 78 [(0, .ref 5001), (1, .int x1), (2, .int x2), (3, .int x3), (4, .int x4)] [] (qTM, qLM, qPM, M) 0 0) (x1 : Int32) (x3 : Int32) (x4 : Int32) (s0 : Int32) (s1 : Int32) (M : q_MM), GG p l e { frames := 2, cells := 0, slots := 0, locals := 46 } s m args below meth c0 K A (qTM, qLM, qPM, M0) ad false 10 (fun res => MQ below (q_Qc K false ad (qTM, qLM, qPM, M0) ((fun (res : Int32 × q_MM) => some (.int res.1)) res) ((fun (res : Int32 × q_MM) => (qTM, qLM, qPM, res.2)) res) A) args s 0 0 A) (b_X12_breaks_165 k78 x1 x3 x4 s0 s1 M) 165 [(0, .ref 5001), (1, .int x1), (3, .int x3), (4, .int x4)] [.int s0, .int s1] (qTM, qLM, qPM, M) 0 0 := by
    intro k78 hk78 x1 x3 x4 s0 s1 M
    unfold b_X12_breaks_165
    refine g_bSi (As := [.int s0]) (rest := [.int s1]) X (c_X12_truth l K M s0) lk_X12_268 rfl rfl (Nat.le_of_ble_eq_true rfl) ⟨Nat.le_of_ble_eq_true rfl, Nat.le_of_ble_eq_true rfl⟩ ⟨Nat.zero_le _, Nat.zero_le _⟩ dX12_breaks_165 (fun r1 => ?_)
    refine g_iadd X dX12_breaks_168 ?_
    refine g_isn X (fun v2 => [(2, .int v2), (0, .ref 5001), (1, .int x1), (3, .int x3), (4, .int x4)]) dX12_breaks_169 rfl (by decide) (fun _ => rfl) (fun v2 => ?_)
    refine g_iinc (v := 1) X [(4, .int (x4 + 1)), (2, .int v2), (0, .ref 5001), (1, .int x1), (3, .int x3)] 4 dX12_breaks_170 rfl (by decide) (by decide) rfl ?_
    refine g_goto X 78 dX12_breaks_173 rfl ?_
    exact g_sub [2, 3, 1, 4, 0] rfl (hk78 x1 v2 x3 (x4 + 1) M)
  have hb_142 : ∀ (k98 : Int32 → Int32 → Int32 → Int32 → Int32 → q_MM → Option (Int32 × q_MM)) (hk98 : ∀ (x1 : Int32) (x2 : Int32) (x3 : Int32) (x4 : Int32) (x5 : Int32) (M : q_MM), GG p l e { frames := 2, cells := 0, slots := 0, locals := 46 } s m args below meth c0 K A (qTM, qLM, qPM, M0) ad false 10 (fun res => MQ below (q_Qc K false ad (qTM, qLM, qPM, M0) ((fun (res : Int32 × q_MM) => some (.int res.1)) res) ((fun (res : Int32 × q_MM) => (qTM, qLM, qPM, res.2)) res) A) args s 0 0 A) (k98 x1 x2 x3 x4 x5 M) 98 [(0, .ref 5001), (1, .int x1), (2, .int x2), (3, .int x3), (4, .int x4), (5, .int x5)] [] (qTM, qLM, qPM, M) 0 0) (x1 : Int32) (x2 : Int32) (x3 : Int32) (x4 : Int32) (x5 : Int32) (s0 : Int32) (s1 : Int32) (s2 : Nat) (M : q_MM), GG p l e { frames := 2, cells := 0, slots := 0, locals := 46 } s m args below meth c0 K A (qTM, qLM, qPM, M0) ad false 10 (fun res => MQ below (q_Qc K false ad (qTM, qLM, qPM, M0) ((fun (res : Int32 × q_MM) => some (.int res.1)) res) ((fun (res : Int32 × q_MM) => (qTM, qLM, qPM, res.2)) res) A) args s 0 0 A) (b_X12_breaks_142 k98 x1 x2 x3 x4 x5 s0 s1 s2 M) 142 [(0, .ref 5001), (1, .int x1), (2, .int x2), (3, .int x3), (4, .int x4), (5, .int x5)] [.int s0, .int s1, .ref s2] (qTM, qLM, qPM, M) 0 0 := by
    intro k98 hk98 x1 x2 x3 x4 x5 s0 s1 s2 M
    unfold b_X12_breaks_142
    refine g_ck (fun hT3 => ?_)
    refine g_isv X hT3 rfl dX12_breaks_142 (fun M4 => ?_)
    refine g_iinc (v := 1) X [(5, .int (x5 + 1)), (0, .ref 5001), (1, .int x1), (2, .int x2), (3, .int x3), (4, .int x4)] 5 dX12_breaks_143 rfl (by decide) (by decide) rfl ?_
    refine g_goto X 98 dX12_breaks_146 rfl ?_
    exact g_sub [1, 2, 3, 4, 5, 0] rfl (hk98 x1 x2 x3 x4 (x5 + 1) M4)
  have hb_98 : ∀ (k78 : Int32 → Int32 → Int32 → Int32 → q_MM → Option (Int32 × q_MM)) (hk78 : ∀ (x1 : Int32) (x2 : Int32) (x3 : Int32) (x4 : Int32) (M : q_MM), GG p l e { frames := 2, cells := 0, slots := 0, locals := 46 } s m args below meth c0 K A (qTM, qLM, qPM, M0) ad false 10 (fun res => MQ below (q_Qc K false ad (qTM, qLM, qPM, M0) ((fun (res : Int32 × q_MM) => some (.int res.1)) res) ((fun (res : Int32 × q_MM) => (qTM, qLM, qPM, res.2)) res) A) args s 0 0 A) (k78 x1 x2 x3 x4 M) 78 [(0, .ref 5001), (1, .int x1), (2, .int x2), (3, .int x3), (4, .int x4)] [] (qTM, qLM, qPM, M) 0 0) (nf : Nat) (x1 : Int32) (x2 : Int32) (x3 : Int32) (x4 : Int32) (x5 : Int32) (M : q_MM), GG p l e { frames := 2, cells := 0, slots := 0, locals := 46 } s m args below meth c0 K A (qTM, qLM, qPM, M0) ad false 10 (fun res => MQ below (q_Qc K false ad (qTM, qLM, qPM, M0) ((fun (res : Int32 × q_MM) => some (.int res.1)) res) ((fun (res : Int32 × q_MM) => (qTM, qLM, qPM, res.2)) res) A) args s 0 0 A) (b_X12_breaks_98 k78 nf x1 x2 x3 x4 x5 M) 98 [(0, .ref 5001), (1, .int x1), (2, .int x2), (3, .int x3), (4, .int x4), (5, .int x5)] [] (qTM, qLM, qPM, M) 0 0 := by
    intro k78 hk78 nf
    induction nf with
    | zero => intros; exact g_stop
    | succ nf ih =>
      intro x1 x2 x3 x4 x5 M
      rw [b_X12_breaks_98]
      refine g_iload X dX12_breaks_98 5 rfl ?_
      refine g_aload_n X dX12_breaks_100 rfl 0 rfl ?_
      refine g_geti X fa_X12_11 rfl dX12_breaks_101 ?_
      refine g_icmp_ge X 149 dX12_breaks_104 rfl (fun h5 => ?_) (fun h5 => ?_)
      · refine g_iload_n X dX12_breaks_149 rfl 2 rfl ?_
        refine g_aload_n X dX12_breaks_150 rfl 0 rfl ?_
        refine g_getr X fa_X12_425 rfl rfl dX12_breaks_151 ?_
        refine g_iload X dX12_breaks_154 4 rfl ?_
        refine g_ild X rfl rfl dX12_breaks_156 (fun v6 => ?_)
        refine g_if_lt X 164 dX12_breaks_157 rfl (fun h7 => ?_) (fun h7 => ?_)
        · refine g_iconst (v := 0) X dX12_breaks_164 (by decide) ?_
          exact g_sub [0, 1, 3, 4] rfl (hb_165 k78 hk78 x1 x3 x4 0 x2 M)
        · refine g_iconst (v := 1) X dX12_breaks_160 (by decide) ?_
          refine g_goto X 165 dX12_breaks_161 rfl ?_
          exact g_sub [0, 1, 3, 4] rfl (hb_165 k78 hk78 x1 x3 x4 1 x2 M)
      · refine g_aload_n X dX12_breaks_107 rfl 0 rfl ?_
        refine g_getr X fa_X12_425 rfl rfl dX12_breaks_108 ?_
        refine g_iload X dX12_breaks_111 4 rfl ?_
        refine g_aload_n X dX12_breaks_113 rfl 0 rfl ?_
        refine g_getr X fa_X12_7 rfl rfl dX12_breaks_114 ?_
        refine g_iload X dX12_breaks_117 5 rfl ?_
        refine g_ild X rfl rfl dX12_breaks_119 (fun v8 => ?_)
        refine g_aload_n X dX12_breaks_120 rfl 0 rfl ?_
        refine g_getr X fa_X12_409 rfl rfl dX12_breaks_121 ?_
        refine g_iload X dX12_breaks_124 4 rfl ?_
        refine g_ild X rfl rfl dX12_breaks_126 (fun v9 => ?_)
        refine g_icmp_ne X 135 dX12_breaks_127 rfl (fun h10 => ?_) (fun h10 => ?_)
        · refine g_iload X dX12_breaks_130 5 rfl ?_
          refine g_goto X 142 dX12_breaks_132 rfl ?_
          exact g_sub [0, 1, 2, 3, 4, 5] rfl (hb_142 (b_X12_breaks_98 k78 nf) ih x1 x2 x3 x4 x5 x5 x4 5074 M)
        · refine g_aload_n X dX12_breaks_135 rfl 0 rfl ?_
          refine g_getr X fa_X12_425 rfl rfl dX12_breaks_136 ?_
          refine g_iload X dX12_breaks_139 4 rfl ?_
          refine g_ild X rfl rfl dX12_breaks_141 (fun v11 => ?_)
          exact g_sub [0, 1, 2, 3, 4, 5] rfl (hb_142 (b_X12_breaks_98 k78 nf) ih x1 x2 x3 x4 x5 v11 x4 5074 M)
  have hb_366 : ∀ (k336 : Int32 → Int32 → Int32 → Int32 → q_MM → Option (Int32 × q_MM)) (hk336 : ∀ (x1 : Int32) (x2 : Int32) (x3 : Int32) (x4 : Int32) (M : q_MM), GG p l e { frames := 2, cells := 0, slots := 0, locals := 46 } s m args below meth c0 K A (qTM, qLM, qPM, M0) ad false 10 (fun res => MQ below (q_Qc K false ad (qTM, qLM, qPM, M0) ((fun (res : Int32 × q_MM) => some (.int res.1)) res) ((fun (res : Int32 × q_MM) => (qTM, qLM, qPM, res.2)) res) A) args s 0 0 A) (k336 x1 x2 x3 x4 M) 336 [(0, .ref 5001), (1, .int x1), (2, .int x2), (3, .int x3), (4, .int x4)] [] (qTM, qLM, qPM, M) 0 0) (x1 : Int32) (x2 : Int32) (x3 : Int32) (x4 : Int32) (M : q_MM), GG p l e { frames := 2, cells := 0, slots := 0, locals := 46 } s m args below meth c0 K A (qTM, qLM, qPM, M0) ad false 10 (fun res => MQ below (q_Qc K false ad (qTM, qLM, qPM, M0) ((fun (res : Int32 × q_MM) => some (.int res.1)) res) ((fun (res : Int32 × q_MM) => (qTM, qLM, qPM, res.2)) res) A) args s 0 0 A) (b_X12_breaks_366 k336 x1 x2 x3 x4 M) 366 [(0, .ref 5001), (1, .int x1), (2, .int x2), (3, .int x3), (4, .int x4)] [] (qTM, qLM, qPM, M) 0 0 := by
    intro k336 hk336 x1 x2 x3 x4 M
    unfold b_X12_breaks_366
    refine g_iinc (v := 1) X [(4, .int (x4 + 1)), (0, .ref 5001), (1, .int x1), (2, .int x2), (3, .int x3)] 4 dX12_breaks_366 rfl (by decide) (by decide) rfl ?_
    refine g_goto X 336 dX12_breaks_369 rfl ?_
    exact g_sub [1, 2, 3, 4, 0] rfl (hk336 x1 x2 x3 (x4 + 1) M)
  have hb_336 : ∀ (nf : Nat) (x1 : Int32) (x2 : Int32) (x3 : Int32) (x4 : Int32) (M : q_MM), GG p l e { frames := 2, cells := 0, slots := 0, locals := 46 } s m args below meth c0 K A (qTM, qLM, qPM, M0) ad false 10 (fun res => MQ below (q_Qc K false ad (qTM, qLM, qPM, M0) ((fun (res : Int32 × q_MM) => some (.int res.1)) res) ((fun (res : Int32 × q_MM) => (qTM, qLM, qPM, res.2)) res) A) args s 0 0 A) (b_X12_breaks_336 nf x1 x2 x3 x4 M) 336 [(0, .ref 5001), (1, .int x1), (2, .int x2), (3, .int x3), (4, .int x4)] [] (qTM, qLM, qPM, M) 0 0 := by
    intro  nf
    induction nf with
    | zero => intros; exact g_stop
    | succ nf ih =>
      intro x1 x2 x3 x4 M
      rw [b_X12_breaks_336]
      refine g_iload X dX12_breaks_336 4 rfl ?_
      refine g_aload_n X dX12_breaks_338 rfl 0 rfl ?_
      refine g_geti X fa_X12_412 rfl dX12_breaks_339 ?_
      refine g_icmp_ge X 372 dX12_breaks_342 rfl (fun h12 => ?_) (fun h12 => ?_)
      · refine g_iload_n X dX12_breaks_372 rfl 2 rfl ?_
        refine g_iload_n X dX12_breaks_373 rfl 1 rfl ?_
        refine g_isub X dX12_breaks_374 ?_
        exact g_iret X rfl rfl rfl dX12_breaks_375
      · refine g_iload_n X dX12_breaks_345 rfl 3 rfl ?_
        refine g_iload X dX12_breaks_346 4 rfl ?_
        refine g_ishr X dX12_breaks_348 ?_
        refine g_iconst (v := 1) X dX12_breaks_349 (by decide) ?_
        refine g_iand X dX12_breaks_350 ?_
        refine g_iconst (v := 1) X dX12_breaks_351 (by decide) ?_
        refine g_icmp_ne X 366 dX12_breaks_352 rfl (fun h13 => ?_) (fun h13 => ?_)
        · refine g_aload_n X dX12_breaks_355 rfl 0 rfl ?_
          refine g_aload_n X dX12_breaks_356 rfl 0 rfl ?_
          refine g_getr X fa_X12_409 rfl rfl dX12_breaks_357 ?_
          refine g_iload X dX12_breaks_360 4 rfl ?_
          refine g_ild X rfl rfl dX12_breaks_362 (fun v14 => ?_)
          refine g_bVv (As := [.int v14]) (rest := []) X (c_X12_enters l K M v14) lk_X12_345 rfl rfl rfl (Nat.le_of_ble_eq_true rfl) ⟨Nat.le_of_ble_eq_true rfl, Nat.le_of_ble_eq_true rfl⟩ ⟨Nat.zero_le _, Nat.zero_le _⟩ dX12_breaks_363 (fun r15 => ?_)
          exact g_sub [0, 1, 2, 3, 4] rfl (hb_366 (b_X12_breaks_336 nf) ih x1 x2 x3 x4 r15)
        · exact g_sub [0, 1, 2, 3, 4] rfl (hb_366 (b_X12_breaks_336 nf) ih x1 x2 x3 x4 M)
  have hb_322 : ∀ (k179 : Int32 → Int32 → Int32 → Int32 → q_MM → Option (Int32 × q_MM)) (hk179 : ∀ (x1 : Int32) (x2 : Int32) (x3 : Int32) (x4 : Int32) (M : q_MM), GG p l e { frames := 2, cells := 0, slots := 0, locals := 46 } s m args below meth c0 K A (qTM, qLM, qPM, M0) ad false 10 (fun res => MQ below (q_Qc K false ad (qTM, qLM, qPM, M0) ((fun (res : Int32 × q_MM) => some (.int res.1)) res) ((fun (res : Int32 × q_MM) => (qTM, qLM, qPM, res.2)) res) A) args s 0 0 A) (k179 x1 x2 x3 x4 M) 179 [(0, .ref 5001), (1, .int x1), (2, .int x2), (3, .int x3), (4, .int x4)] [] (qTM, qLM, qPM, M) 0 0) (x1 : Int32) (x2 : Int32) (x3 : Int32) (x4 : Int32) (M : q_MM), GG p l e { frames := 2, cells := 0, slots := 0, locals := 46 } s m args below meth c0 K A (qTM, qLM, qPM, M0) ad false 10 (fun res => MQ below (q_Qc K false ad (qTM, qLM, qPM, M0) ((fun (res : Int32 × q_MM) => some (.int res.1)) res) ((fun (res : Int32 × q_MM) => (qTM, qLM, qPM, res.2)) res) A) args s 0 0 A) (b_X12_breaks_322 k179 x1 x2 x3 x4 M) 322 [(0, .ref 5001), (1, .int x1), (2, .int x2), (3, .int x3), (4, .int x4)] [] (qTM, qLM, qPM, M) 0 0 := by
    intro k179 hk179 x1 x2 x3 x4 M
    unfold b_X12_breaks_322
    refine g_iinc (v := 1) X [(4, .int (x4 + 1)), (0, .ref 5001), (1, .int x1), (2, .int x2), (3, .int x3)] 4 dX12_breaks_322 rfl (by decide) (by decide) rfl ?_
    refine g_goto X 179 dX12_breaks_325 rfl ?_
    exact g_sub [1, 2, 3, 4, 0] rfl (hk179 x1 x2 x3 (x4 + 1) M)
  have hb_316 : ∀ (k179 : Int32 → Int32 → Int32 → Int32 → q_MM → Option (Int32 × q_MM)) (hk179 : ∀ (x1 : Int32) (x2 : Int32) (x3 : Int32) (x4 : Int32) (M : q_MM), GG p l e { frames := 2, cells := 0, slots := 0, locals := 46 } s m args below meth c0 K A (qTM, qLM, qPM, M0) ad false 10 (fun res => MQ below (q_Qc K false ad (qTM, qLM, qPM, M0) ((fun (res : Int32 × q_MM) => some (.int res.1)) res) ((fun (res : Int32 × q_MM) => (qTM, qLM, qPM, res.2)) res) A) args s 0 0 A) (k179 x1 x2 x3 x4 M) 179 [(0, .ref 5001), (1, .int x1), (2, .int x2), (3, .int x3), (4, .int x4)] [] (qTM, qLM, qPM, M) 0 0) (x2 : Int32) (x4 : Int32) (x7 : Int32) (M : q_MM), GG p l e { frames := 2, cells := 0, slots := 0, locals := 46 } s m args below meth c0 K A (qTM, qLM, qPM, M0) ad false 10 (fun res => MQ below (q_Qc K false ad (qTM, qLM, qPM, M0) ((fun (res : Int32 × q_MM) => some (.int res.1)) res) ((fun (res : Int32 × q_MM) => (qTM, qLM, qPM, res.2)) res) A) args s 0 0 A) (b_X12_breaks_316 k179 x2 x4 x7 M) 316 [(0, .ref 5001), (2, .int x2), (4, .int x4), (7, .int x7)] [] (qTM, qLM, qPM, M) 0 0 := by
    intro k179 hk179 x2 x4 x7 M
    unfold b_X12_breaks_316
    refine g_iload X dX12_breaks_316 3 rfl ?_
    refine g_istore_n X [(1, .int x7), (0, .ref 5001), (2, .int x2), (4, .int x4), (7, .int x7)] dX12_breaks_318 rfl (by decide) rfl ?_
    refine g_iload X dX12_breaks_319 3 rfl ?_
    refine g_istore_n X [(3, .int x4), (1, .int x7), (0, .ref 5001), (2, .int x2), (4, .int x4), (7, .int x7)] dX12_breaks_321 rfl (by decide) rfl ?_
    exact g_sub [2, 1, 3, 0, 4] rfl (hb_322 k179 hk179 x7 x2 x4 x4 M)
  have hb_292 : ∀ (k179 : Int32 → Int32 → Int32 → Int32 → q_MM → Option (Int32 × q_MM)) (hk179 : ∀ (x1 : Int32) (x2 : Int32) (x3 : Int32) (x4 : Int32) (M : q_MM), GG p l e { frames := 2, cells := 0, slots := 0, locals := 46 } s m args below meth c0 K A (qTM, qLM, qPM, M0) ad false 10 (fun res => MQ below (q_Qc K false ad (qTM, qLM, qPM, M0) ((fun (res : Int32 × q_MM) => some (.int res.1)) res) ((fun (res : Int32 × q_MM) => (qTM, qLM, qPM, res.2)) res) A) args s 0 0 A) (k179 x1 x2 x3 x4 M) 179 [(0, .ref 5001), (1, .int x1), (2, .int x2), (3, .int x3), (4, .int x4)] [] (qTM, qLM, qPM, M) 0 0) (x1 : Int32) (x2 : Int32) (x3 : Int32) (x4 : Int32) (x6 : Int32) (x7 : Int32) (s0 : Int32) (M : q_MM), GG p l e { frames := 2, cells := 0, slots := 0, locals := 46 } s m args below meth c0 K A (qTM, qLM, qPM, M0) ad false 10 (fun res => MQ below (q_Qc K false ad (qTM, qLM, qPM, M0) ((fun (res : Int32 × q_MM) => some (.int res.1)) res) ((fun (res : Int32 × q_MM) => (qTM, qLM, qPM, res.2)) res) A) args s 0 0 A) (b_X12_breaks_292 k179 x1 x2 x3 x4 x6 x7 s0 M) 292 [(0, .ref 5001), (1, .int x1), (2, .int x2), (3, .int x3), (4, .int x4), (6, .int x6), (7, .int x7)] [.int s0] (qTM, qLM, qPM, M) 0 0 := by
    intro k179 hk179 x1 x2 x3 x4 x6 x7 s0 M
    unfold b_X12_breaks_292
    refine g_istore X [(9, .int s0), (0, .ref 5001), (1, .int x1), (2, .int x2), (3, .int x3), (4, .int x4), (6, .int x6), (7, .int x7)] dX12_breaks_292 (by decide) rfl ?_
    refine g_iload X dX12_breaks_294 6 rfl ?_
    refine g_if_eq X 322 dX12_breaks_296 rfl (fun h16 => ?_) (fun h16 => ?_)
    · exact g_sub [1, 2, 3, 4, 5] rfl (hb_322 k179 hk179 x1 x2 x3 x4 M)
    · refine g_iload X dX12_breaks_299 7 rfl ?_
      refine g_iload_n X dX12_breaks_301 rfl 2 rfl ?_
      refine g_icmp_gt X 316 dX12_breaks_302 rfl (fun h17 => ?_) (fun h17 => ?_)
      · exact g_sub [1, 3, 5, 7] rfl (hb_316 k179 hk179 x2 x4 x7 M)
      · refine g_iload X dX12_breaks_305 7 rfl ?_
        refine g_iload_n X dX12_breaks_307 rfl 2 rfl ?_
        refine g_icmp_ne X 322 dX12_breaks_308 rfl (fun h18 => ?_) (fun h18 => ?_)
        · refine g_iload X dX12_breaks_311 0 rfl ?_
          refine g_if_eq X 322 dX12_breaks_313 rfl (fun h19 => ?_) (fun h19 => ?_)
          · exact g_sub [1, 2, 3, 4, 5] rfl (hb_322 k179 hk179 x1 x2 x3 x4 M)
          · exact g_sub [1, 3, 5, 7] rfl (hb_316 k179 hk179 x2 x4 x7 M)
        · exact g_sub [1, 2, 3, 4, 5] rfl (hb_322 k179 hk179 x1 x2 x3 x4 M)
  have hb_291 : ∀ (k179 : Int32 → Int32 → Int32 → Int32 → q_MM → Option (Int32 × q_MM)) (hk179 : ∀ (x1 : Int32) (x2 : Int32) (x3 : Int32) (x4 : Int32) (M : q_MM), GG p l e { frames := 2, cells := 0, slots := 0, locals := 46 } s m args below meth c0 K A (qTM, qLM, qPM, M0) ad false 10 (fun res => MQ below (q_Qc K false ad (qTM, qLM, qPM, M0) ((fun (res : Int32 × q_MM) => some (.int res.1)) res) ((fun (res : Int32 × q_MM) => (qTM, qLM, qPM, res.2)) res) A) args s 0 0 A) (k179 x1 x2 x3 x4 M) 179 [(0, .ref 5001), (1, .int x1), (2, .int x2), (3, .int x3), (4, .int x4)] [] (qTM, qLM, qPM, M) 0 0) (x1 : Int32) (x2 : Int32) (x3 : Int32) (x4 : Int32) (x6 : Int32) (x7 : Int32) (M : q_MM), GG p l e { frames := 2, cells := 0, slots := 0, locals := 46 } s m args below meth c0 K A (qTM, qLM, qPM, M0) ad false 10 (fun res => MQ below (q_Qc K false ad (qTM, qLM, qPM, M0) ((fun (res : Int32 × q_MM) => some (.int res.1)) res) ((fun (res : Int32 × q_MM) => (qTM, qLM, qPM, res.2)) res) A) args s 0 0 A) (b_X12_breaks_291 k179 x1 x2 x3 x4 x6 x7 M) 291 [(0, .ref 5001), (1, .int x1), (2, .int x2), (3, .int x3), (4, .int x4), (6, .int x6), (7, .int x7)] [] (qTM, qLM, qPM, M) 0 0 := by
    intro k179 hk179 x1 x2 x3 x4 x6 x7 M
    unfold b_X12_breaks_291
    refine g_iconst (v := 0) X dX12_breaks_291 (by decide) ?_
    exact g_sub [0, 1, 2, 3, 4, 5, 6] rfl (hb_292 k179 hk179 x1 x2 x3 x4 x6 x7 0 M)
  have hb_252 : ∀ (k199 : Int32 → Int32 → Int32 → Int32 → Int32 → Int32 → Int32 → q_MM → Option (Int32 × q_MM)) (hk199 : ∀ (x1 : Int32) (x2 : Int32) (x3 : Int32) (x4 : Int32) (x5 : Int32) (x6 : Int32) (x7 : Int32) (M : q_MM), GG p l e { frames := 2, cells := 0, slots := 0, locals := 46 } s m args below meth c0 K A (qTM, qLM, qPM, M0) ad false 10 (fun res => MQ below (q_Qc K false ad (qTM, qLM, qPM, M0) ((fun (res : Int32 × q_MM) => some (.int res.1)) res) ((fun (res : Int32 × q_MM) => (qTM, qLM, qPM, res.2)) res) A) args s 0 0 A) (k199 x1 x2 x3 x4 x5 x6 x7 M) 199 [(0, .ref 5001), (1, .int x1), (2, .int x2), (3, .int x3), (4, .int x4), (5, .int x5), (6, .int x6), (7, .int x7)] [] (qTM, qLM, qPM, M) 0 0) (x1 : Int32) (x2 : Int32) (x3 : Int32) (x4 : Int32) (x5 : Int32) (x6 : Int32) (x7 : Int32) (M : q_MM), GG p l e { frames := 2, cells := 0, slots := 0, locals := 46 } s m args below meth c0 K A (qTM, qLM, qPM, M0) ad false 10 (fun res => MQ below (q_Qc K false ad (qTM, qLM, qPM, M0) ((fun (res : Int32 × q_MM) => some (.int res.1)) res) ((fun (res : Int32 × q_MM) => (qTM, qLM, qPM, res.2)) res) A) args s 0 0 A) (b_X12_breaks_252 k199 x1 x2 x3 x4 x5 x6 x7 M) 252 [(0, .ref 5001), (1, .int x1), (2, .int x2), (3, .int x3), (4, .int x4), (5, .int x5), (6, .int x6), (7, .int x7)] [] (qTM, qLM, qPM, M) 0 0 := by
    intro k199 hk199 x1 x2 x3 x4 x5 x6 x7 M
    unfold b_X12_breaks_252
    refine g_iinc (v := 1) X [(7, .int (x7 + 1)), (0, .ref 5001), (1, .int x1), (2, .int x2), (3, .int x3), (4, .int x4), (5, .int x5), (6, .int x6)] 7 dX12_breaks_252 rfl (by decide) (by decide) rfl ?_
    refine g_goto X 199 dX12_breaks_255 rfl ?_
    exact g_sub [1, 2, 3, 4, 5, 6, 7, 0] rfl (hk199 x1 x2 x3 x4 x5 x6 (x7 + 1) M)
  have hb_241 : ∀ (k199 : Int32 → Int32 → Int32 → Int32 → Int32 → Int32 → Int32 → q_MM → Option (Int32 × q_MM)) (hk199 : ∀ (x1 : Int32) (x2 : Int32) (x3 : Int32) (x4 : Int32) (x5 : Int32) (x6 : Int32) (x7 : Int32) (M : q_MM), GG p l e { frames := 2, cells := 0, slots := 0, locals := 46 } s m args below meth c0 K A (qTM, qLM, qPM, M0) ad false 10 (fun res => MQ below (q_Qc K false ad (qTM, qLM, qPM, M0) ((fun (res : Int32 × q_MM) => some (.int res.1)) res) ((fun (res : Int32 × q_MM) => (qTM, qLM, qPM, res.2)) res) A) args s 0 0 A) (k199 x1 x2 x3 x4 x5 x6 x7 M) 199 [(0, .ref 5001), (1, .int x1), (2, .int x2), (3, .int x3), (4, .int x4), (5, .int x5), (6, .int x6), (7, .int x7)] [] (qTM, qLM, qPM, M) 0 0) (x1 : Int32) (x2 : Int32) (x3 : Int32) (x4 : Int32) (x7 : Int32) (s0 : Int32) (M : q_MM), GG p l e { frames := 2, cells := 0, slots := 0, locals := 46 } s m args below meth c0 K A (qTM, qLM, qPM, M0) ad false 10 (fun res => MQ below (q_Qc K false ad (qTM, qLM, qPM, M0) ((fun (res : Int32 × q_MM) => some (.int res.1)) res) ((fun (res : Int32 × q_MM) => (qTM, qLM, qPM, res.2)) res) A) args s 0 0 A) (b_X12_breaks_241 k199 x1 x2 x3 x4 x7 s0 M) 241 [(0, .ref 5001), (1, .int x1), (2, .int x2), (3, .int x3), (4, .int x4), (7, .int x7)] [.int s0] (qTM, qLM, qPM, M) 0 0 := by
    intro k199 hk199 x1 x2 x3 x4 x7 s0 M
    unfold b_X12_breaks_241
    refine g_istore X [(6, .int s0), (0, .ref 5001), (1, .int x1), (2, .int x2), (3, .int x3), (4, .int x4), (7, .int x7)] dX12_breaks_241 (by decide) rfl ?_
    refine g_aload_n X dX12_breaks_243 rfl 1 rfl ?_
    refine g_getr X fa_X12_425 rfl rfl dX12_breaks_244 ?_
    refine g_iload X dX12_breaks_247 6 rfl ?_
    refine g_ild X rfl rfl dX12_breaks_249 (fun v20 => ?_)
    refine g_istore X [(5, .int v20), (6, .int s0), (0, .ref 5001), (1, .int x1), (2, .int x2), (3, .int x3), (4, .int x4), (7, .int x7)] dX12_breaks_250 (by decide) rfl ?_
    exact g_sub [2, 3, 4, 5, 6, 0, 1, 7] rfl (hb_252 k199 hk199 x1 x2 x3 x4 v20 s0 x7 M)
  have hb_240 : ∀ (k199 : Int32 → Int32 → Int32 → Int32 → Int32 → Int32 → Int32 → q_MM → Option (Int32 × q_MM)) (hk199 : ∀ (x1 : Int32) (x2 : Int32) (x3 : Int32) (x4 : Int32) (x5 : Int32) (x6 : Int32) (x7 : Int32) (M : q_MM), GG p l e { frames := 2, cells := 0, slots := 0, locals := 46 } s m args below meth c0 K A (qTM, qLM, qPM, M0) ad false 10 (fun res => MQ below (q_Qc K false ad (qTM, qLM, qPM, M0) ((fun (res : Int32 × q_MM) => some (.int res.1)) res) ((fun (res : Int32 × q_MM) => (qTM, qLM, qPM, res.2)) res) A) args s 0 0 A) (k199 x1 x2 x3 x4 x5 x6 x7 M) 199 [(0, .ref 5001), (1, .int x1), (2, .int x2), (3, .int x3), (4, .int x4), (5, .int x5), (6, .int x6), (7, .int x7)] [] (qTM, qLM, qPM, M) 0 0) (x1 : Int32) (x2 : Int32) (x3 : Int32) (x4 : Int32) (x7 : Int32) (M : q_MM), GG p l e { frames := 2, cells := 0, slots := 0, locals := 46 } s m args below meth c0 K A (qTM, qLM, qPM, M0) ad false 10 (fun res => MQ below (q_Qc K false ad (qTM, qLM, qPM, M0) ((fun (res : Int32 × q_MM) => some (.int res.1)) res) ((fun (res : Int32 × q_MM) => (qTM, qLM, qPM, res.2)) res) A) args s 0 0 A) (b_X12_breaks_240 k199 x1 x2 x3 x4 x7 M) 240 [(0, .ref 5001), (1, .int x1), (2, .int x2), (3, .int x3), (4, .int x4), (7, .int x7)] [] (qTM, qLM, qPM, M) 0 0 := by
    intro k199 hk199 x1 x2 x3 x4 x7 M
    unfold b_X12_breaks_240
    refine g_iconst (v := 0) X dX12_breaks_240 (by decide) ?_
    exact g_sub [0, 1, 2, 3, 4, 5] rfl (hb_241 k199 hk199 x1 x2 x3 x4 x7 0 M)
  have hb_199 : ∀ (k179 : Int32 → Int32 → Int32 → Int32 → q_MM → Option (Int32 × q_MM)) (hk179 : ∀ (x1 : Int32) (x2 : Int32) (x3 : Int32) (x4 : Int32) (M : q_MM), GG p l e { frames := 2, cells := 0, slots := 0, locals := 46 } s m args below meth c0 K A (qTM, qLM, qPM, M0) ad false 10 (fun res => MQ below (q_Qc K false ad (qTM, qLM, qPM, M0) ((fun (res : Int32 × q_MM) => some (.int res.1)) res) ((fun (res : Int32 × q_MM) => (qTM, qLM, qPM, res.2)) res) A) args s 0 0 A) (k179 x1 x2 x3 x4 M) 179 [(0, .ref 5001), (1, .int x1), (2, .int x2), (3, .int x3), (4, .int x4)] [] (qTM, qLM, qPM, M) 0 0) (nf : Nat) (x1 : Int32) (x2 : Int32) (x3 : Int32) (x4 : Int32) (x5 : Int32) (x6 : Int32) (x7 : Int32) (M : q_MM), GG p l e { frames := 2, cells := 0, slots := 0, locals := 46 } s m args below meth c0 K A (qTM, qLM, qPM, M0) ad false 10 (fun res => MQ below (q_Qc K false ad (qTM, qLM, qPM, M0) ((fun (res : Int32 × q_MM) => some (.int res.1)) res) ((fun (res : Int32 × q_MM) => (qTM, qLM, qPM, res.2)) res) A) args s 0 0 A) (b_X12_breaks_199 k179 nf x1 x2 x3 x4 x5 x6 x7 M) 199 [(0, .ref 5001), (1, .int x1), (2, .int x2), (3, .int x3), (4, .int x4), (5, .int x5), (6, .int x6), (7, .int x7)] [] (qTM, qLM, qPM, M) 0 0 := by
    intro k179 hk179 nf
    induction nf with
    | zero => intros; exact g_stop
    | succ nf ih =>
      intro x1 x2 x3 x4 x5 x6 x7 M
      rw [b_X12_breaks_199]
      refine g_iload X dX12_breaks_199 7 rfl ?_
      refine g_aload_n X dX12_breaks_201 rfl 0 rfl ?_
      refine g_geti X fa_X12_412 rfl dX12_breaks_202 ?_
      refine g_icmp_ge X 258 dX12_breaks_205 rfl (fun h21 => ?_) (fun h21 => ?_)
      · refine g_iload X dX12_breaks_258 4 rfl ?_
        refine g_bSi (As := [.int x4]) (rest := []) X (c_J6_bitCount_0f7a4 l K qTM qLM qPM M x4) lk_X12_386 rfl rfl (Nat.le_of_ble_eq_true rfl) ⟨Nat.le_of_ble_eq_true rfl, Nat.le_of_ble_eq_true rfl⟩ ⟨Nat.zero_le _, Nat.zero_le _⟩ dX12_breaks_260 (fun r22 => ?_)
        refine g_istore X [(7, .int r22), (0, .ref 5001), (1, .int x1), (2, .int x2), (3, .int x3), (4, .int x4), (5, .int x5), (6, .int x6)] dX12_breaks_263 (by decide) rfl ?_
        refine g_iload X dX12_breaks_265 5 rfl ?_
        refine g_iload_n X dX12_breaks_267 rfl 4 rfl ?_
        refine g_ixor X dX12_breaks_268 ?_
        refine g_is X (fun v23 => [(8, .int v23), (7, .int r22), (0, .ref 5001), (1, .int x1), (2, .int x2), (3, .int x3), (4, .int x4), (5, .int x5), (6, .int x6)]) dX12_breaks_269 (by decide) (fun _ => rfl) (fun v23 => ?_)
        refine g_iload X dX12_breaks_271 0 rfl ?_
        refine g_if_eq X 291 dX12_breaks_273 rfl (fun h24 => ?_) (fun h24 => ?_)
        · exact g_sub [2, 3, 4, 5, 6, 8, 1] rfl (hb_291 k179 hk179 x1 x2 x3 x4 x6 r22 M)
        · refine g_iload X dX12_breaks_276 6 rfl ?_
          refine g_iload X dX12_breaks_278 0 rfl ?_
          refine g_bSi (As := [.int v23]) (rest := [.int x4]) X (c_J6_lowestOneBit_0f7a4 l K qTM qLM qPM M v23) lk_X12_428 rfl rfl (Nat.le_of_ble_eq_true rfl) ⟨Nat.le_of_ble_eq_true rfl, Nat.le_of_ble_eq_true rfl⟩ ⟨Nat.zero_le _, Nat.zero_le _⟩ dX12_breaks_280 (fun r25 => ?_)
          refine g_iand X dX12_breaks_283 ?_
          refine g_if_eq X 291 dX12_breaks_284 rfl (fun h26 => ?_) (fun h26 => ?_)
          · exact g_sub [2, 3, 4, 5, 6, 8, 1] rfl (hb_291 k179 hk179 x1 x2 x3 x4 x6 r22 M)
          · refine g_iconst (v := 1) X dX12_breaks_287 (by decide) ?_
            refine g_goto X 292 dX12_breaks_288 rfl ?_
            exact g_sub [2, 3, 4, 5, 6, 8, 1] rfl (hb_292 k179 hk179 x1 x2 x3 x4 x6 r22 1 M)
      · refine g_iload X dX12_breaks_208 4 rfl ?_
        refine g_iload X dX12_breaks_210 7 rfl ?_
        refine g_ishr X dX12_breaks_212 ?_
        refine g_iconst (v := 1) X dX12_breaks_213 (by decide) ?_
        refine g_iand X dX12_breaks_214 ?_
        refine g_iconst (v := 1) X dX12_breaks_215 (by decide) ?_
        refine g_icmp_ne X 252 dX12_breaks_216 rfl (fun h27 => ?_) (fun h27 => ?_)
        · refine g_iload X dX12_breaks_219 6 rfl ?_
          refine g_if_eq X 240 dX12_breaks_221 rfl (fun h28 => ?_) (fun h28 => ?_)
          · exact g_sub [0, 1, 2, 3, 4, 7] rfl (hb_240 (b_X12_breaks_199 k179 nf) ih x1 x2 x3 x4 x7 M)
          · refine g_aload_n X dX12_breaks_224 rfl 0 rfl ?_
            refine g_getr X fa_X12_425 rfl rfl dX12_breaks_225 ?_
            refine g_iload X dX12_breaks_228 7 rfl ?_
            refine g_ild X rfl rfl dX12_breaks_230 (fun v29 => ?_)
            refine g_iload X dX12_breaks_231 5 rfl ?_
            refine g_icmp_le X 240 dX12_breaks_233 rfl (fun h30 => ?_) (fun h30 => ?_)
            · exact g_sub [0, 1, 2, 3, 4, 7] rfl (hb_240 (b_X12_breaks_199 k179 nf) ih x1 x2 x3 x4 x7 M)
            · refine g_iconst (v := 1) X dX12_breaks_236 (by decide) ?_
              refine g_goto X 241 dX12_breaks_237 rfl ?_
              exact g_sub [0, 1, 2, 3, 4, 7] rfl (hb_241 (b_X12_breaks_199 k179 nf) ih x1 x2 x3 x4 x7 1 M)
        · exact g_sub [0, 1, 2, 3, 4, 5, 6, 7] rfl (hb_252 (b_X12_breaks_199 k179 nf) ih x1 x2 x3 x4 x5 x6 x7 M)
  have hb_179 : ∀ (nf : Nat) (x1 : Int32) (x2 : Int32) (x3 : Int32) (x4 : Int32) (M : q_MM), GG p l e { frames := 2, cells := 0, slots := 0, locals := 46 } s m args below meth c0 K A (qTM, qLM, qPM, M0) ad false 10 (fun res => MQ below (q_Qc K false ad (qTM, qLM, qPM, M0) ((fun (res : Int32 × q_MM) => some (.int res.1)) res) ((fun (res : Int32 × q_MM) => (qTM, qLM, qPM, res.2)) res) A) args s 0 0 A) (b_X12_breaks_179 nf x1 x2 x3 x4 M) 179 [(0, .ref 5001), (1, .int x1), (2, .int x2), (3, .int x3), (4, .int x4)] [] (qTM, qLM, qPM, M) 0 0 := by
    intro  nf
    induction nf with
    | zero => intros; exact g_stop
    | succ nf ih =>
      intro x1 x2 x3 x4 M
      rw [b_X12_breaks_179]
      refine g_iload X dX12_breaks_179 4 rfl ?_
      refine g_iconst (v := 1) X dX12_breaks_181 (by decide) ?_
      refine g_aload_n X dX12_breaks_182 rfl 0 rfl ?_
      refine g_geti X fa_X12_412 rfl dX12_breaks_183 ?_
      refine g_ishl X dX12_breaks_186 ?_
      refine g_icmp_ge X 328 dX12_breaks_187 rfl (fun h31 => ?_) (fun h31 => ?_)
      · refine g_aload_n X dX12_breaks_328 rfl 0 rfl ?_
        refine g_iconst (v := 0) X dX12_breaks_329 (by decide) ?_
        refine g_pfi X fa_X12_11 rfl (by decide +kernel) rfl dX12_breaks_330 (fun M32 => ?_)
        refine g_iconst (v := 0) X dX12_breaks_333 (by decide) ?_
        refine g_istore X [(4, .int 0), (0, .ref 5001), (1, .int x1), (2, .int x2), (3, .int x3)] dX12_breaks_334 (by decide) rfl ?_
        exact g_sub [1, 2, 3, 4, 0] rfl (hb_336 q_fu x1 x2 x3 0 M32)
      · refine g_iconst (v := (-1)) X dX12_breaks_190 (by decide) ?_
        refine g_istore X [(5, .int (-1)), (0, .ref 5001), (1, .int x1), (2, .int x2), (3, .int x3), (4, .int x4)] dX12_breaks_191 (by decide) rfl ?_
        refine g_iconst (v := 1) X dX12_breaks_193 (by decide) ?_
        refine g_istore X [(6, .int 1), (5, .int (-1)), (0, .ref 5001), (1, .int x1), (2, .int x2), (3, .int x3), (4, .int x4)] dX12_breaks_194 (by decide) rfl ?_
        refine g_iconst (v := 0) X dX12_breaks_196 (by decide) ?_
        refine g_istore X [(7, .int 0), (6, .int 1), (5, .int (-1)), (0, .ref 5001), (1, .int x1), (2, .int x2), (3, .int x3), (4, .int x4)] dX12_breaks_197 (by decide) rfl ?_
        exact g_sub [3, 4, 5, 6, 7, 2, 1, 0] rfl (hb_199 (b_X12_breaks_179 nf) ih q_fu x1 x2 x3 x4 (-1) 1 0 M)
  have hb_78 : ∀ (nf : Nat) (x1 : Int32) (x2 : Int32) (x3 : Int32) (x4 : Int32) (M : q_MM), GG p l e { frames := 2, cells := 0, slots := 0, locals := 46 } s m args below meth c0 K A (qTM, qLM, qPM, M0) ad false 10 (fun res => MQ below (q_Qc K false ad (qTM, qLM, qPM, M0) ((fun (res : Int32 × q_MM) => some (.int res.1)) res) ((fun (res : Int32 × q_MM) => (qTM, qLM, qPM, res.2)) res) A) args s 0 0 A) (b_X12_breaks_78 nf x1 x2 x3 x4 M) 78 [(0, .ref 5001), (1, .int x1), (2, .int x2), (3, .int x3), (4, .int x4)] [] (qTM, qLM, qPM, M) 0 0 := by
    intro  nf
    induction nf with
    | zero => intros; exact g_stop
    | succ nf ih =>
      intro x1 x2 x3 x4 M
      rw [b_X12_breaks_78]
      refine g_iload X dX12_breaks_78 4 rfl ?_
      refine g_aload_n X dX12_breaks_80 rfl 0 rfl ?_
      refine g_geti X fa_X12_412 rfl dX12_breaks_81 ?_
      refine g_icmp_ge X 176 dX12_breaks_84 rfl (fun h33 => ?_) (fun h33 => ?_)
      · refine g_iconst (v := 0) X dX12_breaks_176 (by decide) ?_
        refine g_istore X [(4, .int 0), (0, .ref 5001), (1, .int x1), (2, .int x2), (3, .int x3)] dX12_breaks_177 (by decide) rfl ?_
        exact g_sub [1, 2, 3, 4, 0] rfl (hb_179 q_fu x1 x2 x3 0 M)
      · refine g_aload_n X dX12_breaks_87 rfl 0 rfl ?_
        refine g_getr X fa_X12_425 rfl rfl dX12_breaks_88 ?_
        refine g_iload X dX12_breaks_91 4 rfl ?_
        refine g_iconst (v := (-1)) X dX12_breaks_93 (by decide) ?_
        refine g_isv X rfl rfl dX12_breaks_94 (fun M34 => ?_)
        refine g_iconst (v := 0) X dX12_breaks_95 (by decide) ?_
        refine g_istore X [(5, .int 0), (0, .ref 5001), (1, .int x1), (2, .int x2), (3, .int x3), (4, .int x4)] dX12_breaks_96 (by decide) rfl ?_
        exact g_sub [1, 2, 3, 4, 5, 0] rfl (hb_98 (b_X12_breaks_78 nf) ih q_fu x1 x2 x3 x4 0 M34)
  have hb_63 : ∀ (k31 : Int32 → Int32 → Int32 → Int32 → Int32 → q_MM → Option (Int32 × q_MM)) (hk31 : ∀ (x1 : Int32) (x2 : Int32) (x3 : Int32) (x4 : Int32) (x5 : Int32) (M : q_MM), GG p l e { frames := 2, cells := 0, slots := 0, locals := 46 } s m args below meth c0 K A (qTM, qLM, qPM, M0) ad false 10 (fun res => MQ below (q_Qc K false ad (qTM, qLM, qPM, M0) ((fun (res : Int32 × q_MM) => some (.int res.1)) res) ((fun (res : Int32 × q_MM) => (qTM, qLM, qPM, res.2)) res) A) args s 0 0 A) (k31 x1 x2 x3 x4 x5 M) 31 [(0, .ref 5001), (1, .int x1), (2, .int x2), (3, .int x3), (4, .int x4), (5, .int x5)] [] (qTM, qLM, qPM, M) 0 0) (x1 : Int32) (x2 : Int32) (x3 : Int32) (x4 : Int32) (x5 : Int32) (M : q_MM), GG p l e { frames := 2, cells := 0, slots := 0, locals := 46 } s m args below meth c0 K A (qTM, qLM, qPM, M0) ad false 10 (fun res => MQ below (q_Qc K false ad (qTM, qLM, qPM, M0) ((fun (res : Int32 × q_MM) => some (.int res.1)) res) ((fun (res : Int32 × q_MM) => (qTM, qLM, qPM, res.2)) res) A) args s 0 0 A) (b_X12_breaks_63 k31 x1 x2 x3 x4 x5 M) 63 [(0, .ref 5001), (1, .int x1), (2, .int x2), (3, .int x3), (4, .int x4), (5, .int x5)] [] (qTM, qLM, qPM, M) 0 0 := by
    intro k31 hk31 x1 x2 x3 x4 x5 M
    unfold b_X12_breaks_63
    refine g_iinc (v := 1) X [(5, .int (x5 + 1)), (0, .ref 5001), (1, .int x1), (2, .int x2), (3, .int x3), (4, .int x4)] 5 dX12_breaks_63 rfl (by decide) (by decide) rfl ?_
    refine g_goto X 31 dX12_breaks_66 rfl ?_
    exact g_sub [1, 2, 3, 4, 5, 0] rfl (hk31 x1 x2 x3 x4 (x5 + 1) M)
  have hb_31 : ∀ (k19 : Int32 → Int32 → Int32 → Int32 → q_MM → Option (Int32 × q_MM)) (hk19 : ∀ (x1 : Int32) (x2 : Int32) (x3 : Int32) (x4 : Int32) (M : q_MM), GG p l e { frames := 2, cells := 0, slots := 0, locals := 46 } s m args below meth c0 K A (qTM, qLM, qPM, M0) ad false 10 (fun res => MQ below (q_Qc K false ad (qTM, qLM, qPM, M0) ((fun (res : Int32 × q_MM) => some (.int res.1)) res) ((fun (res : Int32 × q_MM) => (qTM, qLM, qPM, res.2)) res) A) args s 0 0 A) (k19 x1 x2 x3 x4 M) 19 [(0, .ref 5001), (1, .int x1), (2, .int x2), (3, .int x3), (4, .int x4)] [] (qTM, qLM, qPM, M) 0 0) (nf : Nat) (x1 : Int32) (x2 : Int32) (x3 : Int32) (x4 : Int32) (x5 : Int32) (M : q_MM), GG p l e { frames := 2, cells := 0, slots := 0, locals := 46 } s m args below meth c0 K A (qTM, qLM, qPM, M0) ad false 10 (fun res => MQ below (q_Qc K false ad (qTM, qLM, qPM, M0) ((fun (res : Int32 × q_MM) => some (.int res.1)) res) ((fun (res : Int32 × q_MM) => (qTM, qLM, qPM, res.2)) res) A) args s 0 0 A) (b_X12_breaks_31 k19 nf x1 x2 x3 x4 x5 M) 31 [(0, .ref 5001), (1, .int x1), (2, .int x2), (3, .int x3), (4, .int x4), (5, .int x5)] [] (qTM, qLM, qPM, M) 0 0 := by
    intro k19 hk19 nf
    induction nf with
    | zero => intros; exact g_stop
    | succ nf ih =>
      intro x1 x2 x3 x4 x5 M
      rw [b_X12_breaks_31]
      refine g_iload X dX12_breaks_31 5 rfl ?_
      refine g_aload_n X dX12_breaks_33 rfl 0 rfl ?_
      refine g_geti X fa_X12_21 rfl dX12_breaks_34 ?_
      refine g_icmp_ge X 69 dX12_breaks_37 rfl (fun h35 => ?_) (fun h35 => ?_)
      · refine g_iinc (v := 1) X [(4, .int (x4 + 1)), (0, .ref 5001), (1, .int x1), (2, .int x2), (3, .int x3), (5, .int x5)] 4 dX12_breaks_69 rfl (by decide) (by decide) rfl ?_
        refine g_goto X 19 dX12_breaks_72 rfl ?_
        exact g_sub [1, 2, 3, 4, 0] rfl (hk19 x1 x2 x3 (x4 + 1) M)
      · refine g_aload_n X dX12_breaks_40 rfl 0 rfl ?_
        refine g_getr X fa_X12_57 rfl rfl dX12_breaks_41 ?_
        refine g_iload X dX12_breaks_44 5 rfl ?_
        refine g_ild X rfl rfl dX12_breaks_46 (fun v36 => ?_)
        refine g_aload_n X dX12_breaks_47 rfl 0 rfl ?_
        refine g_getr X fa_X12_419 rfl rfl dX12_breaks_48 ?_
        refine g_iload X dX12_breaks_51 4 rfl ?_
        refine g_ild X rfl rfl dX12_breaks_53 (fun v37 => ?_)
        refine g_icmp_ne X 63 dX12_breaks_54 rfl (fun h38 => ?_) (fun h38 => ?_)
        · refine g_aload_n X dX12_breaks_57 rfl 0 rfl ?_
          refine g_iload X dX12_breaks_58 5 rfl ?_
          refine g_bVv (As := [.int x5]) (rest := []) X (c_X12_entersWall l K M x5) lk_X12_342 rfl rfl rfl (Nat.le_of_ble_eq_true rfl) ⟨Nat.le_of_ble_eq_true rfl, Nat.le_of_ble_eq_true rfl⟩ ⟨Nat.zero_le _, Nat.zero_le _⟩ dX12_breaks_60 (fun r39 => ?_)
          exact g_sub [0, 1, 2, 3, 4, 5] rfl (hb_63 (b_X12_breaks_31 k19 nf) ih x1 x2 x3 x4 x5 r39)
        · exact g_sub [0, 1, 2, 3, 4, 5] rfl (hb_63 (b_X12_breaks_31 k19 nf) ih x1 x2 x3 x4 x5 M)
  have hb_19 : ∀ (nf : Nat) (x1 : Int32) (x2 : Int32) (x3 : Int32) (x4 : Int32) (M : q_MM), GG p l e { frames := 2, cells := 0, slots := 0, locals := 46 } s m args below meth c0 K A (qTM, qLM, qPM, M0) ad false 10 (fun res => MQ below (q_Qc K false ad (qTM, qLM, qPM, M0) ((fun (res : Int32 × q_MM) => some (.int res.1)) res) ((fun (res : Int32 × q_MM) => (qTM, qLM, qPM, res.2)) res) A) args s 0 0 A) (b_X12_breaks_19 nf x1 x2 x3 x4 M) 19 [(0, .ref 5001), (1, .int x1), (2, .int x2), (3, .int x3), (4, .int x4)] [] (qTM, qLM, qPM, M) 0 0 := by
    intro  nf
    induction nf with
    | zero => intros; exact g_stop
    | succ nf ih =>
      intro x1 x2 x3 x4 M
      rw [b_X12_breaks_19]
      refine g_iload X dX12_breaks_19 4 rfl ?_
      refine g_aload_n X dX12_breaks_21 rfl 0 rfl ?_
      refine g_geti X fa_X12_422 rfl dX12_breaks_22 ?_
      refine g_icmp_ge X 75 dX12_breaks_25 rfl (fun h40 => ?_) (fun h40 => ?_)
      · refine g_iconst (v := 0) X dX12_breaks_75 (by decide) ?_
        refine g_istore X [(4, .int 0), (0, .ref 5001), (1, .int x1), (2, .int x2), (3, .int x3)] dX12_breaks_76 (by decide) rfl ?_
        exact g_sub [1, 2, 3, 4, 0] rfl (hb_78 q_fu x1 x2 x3 0 M)
      · refine g_iconst (v := 0) X dX12_breaks_28 (by decide) ?_
        refine g_istore X [(5, .int 0), (0, .ref 5001), (1, .int x1), (2, .int x2), (3, .int x3), (4, .int x4)] dX12_breaks_29 (by decide) rfl ?_
        exact g_sub [1, 2, 3, 4, 5, 0] rfl (hb_31 (b_X12_breaks_19 nf) ih q_fu x1 x2 x3 x4 0 M)
  refine g_sub (lv' := [(0, .ref 5001)]) [0] rfl ?_
  unfold f_X12_breaks
  refine g_aload_n X dX12_breaks_0 rfl 0 rfl ?_
  refine g_iconst (v := 0) X dX12_breaks_1 (by decide) ?_
  refine g_pfi X fa_X12_1 rfl (by decide +kernel) rfl dX12_breaks_2 (fun M41 => ?_)
  refine g_iconst (v := 0) X dX12_breaks_5 (by decide) ?_
  refine g_istore_n X [(1, .int 0), (0, .ref 5001)] dX12_breaks_6 rfl (by decide) rfl ?_
  refine g_iconst (v := 0) X dX12_breaks_7 (by decide) ?_
  refine g_istore_n X [(2, .int 0), (1, .int 0), (0, .ref 5001)] dX12_breaks_8 rfl (by decide) rfl ?_
  refine g_iconst (v := 0) X dX12_breaks_9 (by decide) ?_
  refine g_istore_n X [(3, .int 0), (2, .int 0), (1, .int 0), (0, .ref 5001)] dX12_breaks_10 rfl (by decide) rfl ?_
  refine g_aload_n X dX12_breaks_11 rfl 3 rfl ?_
  refine g_iconst (v := 0) X dX12_breaks_12 (by decide) ?_
  refine g_pfi X fa_X12_11 rfl (by decide +kernel) rfl dX12_breaks_13 (fun M42 => ?_)
  refine g_iconst (v := 0) X dX12_breaks_16 (by decide) ?_
  refine g_istore X [(4, .int 0), (3, .int 0), (2, .int 0), (1, .int 0), (0, .ref 5001)] dX12_breaks_17 (by decide) rfl ?_
  exact g_sub [4, 3, 2, 1, 0] rfl (hb_19 q_fu 0 0 0 0 M42)
set_option maxHeartbeats 4000000 in
set_option maxRecDepth 100000 in
theorem c_X12_shut (l : Launch) (K : q_KK) (M0 : q_MM) (a1 : Int32) (a2 : Int32) : ∀ res, f_X12_shut M0 a1 a2 = some res → Mt l yX12_shut cX12_shut 3 (some FieldType.boolean) 2 46 0 0 false K [.ref 5001, .int a1, .int a2] (qTM, qLM, qPM, M0) (some (.int res.1)) ((qTM, qLM, qPM, res.2)) := by
  refine Mt.of (fun (res : Int32 × q_MM) => some (.int res.1)) (fun (res : Int32 × q_MM) => (qTM, qLM, qPM, res.2)) (by decide) (Nat.le_of_ble_eq_true rfl) ?_
  intro p e s m args below meth c0 A ad X hN
  refine g_sub (lv' := [(0, .ref 5001), (1, .int a1), (2, .int a2)]) [0, 1, 2] rfl ?_
  unfold f_X12_shut
  refine g_aload_n X dX12_shut_0 rfl 0 rfl ?_
  refine g_iconst (v := 0) X dX12_shut_1 (by decide) ?_
  refine g_pfi X fa_X12_1 rfl (by decide +kernel) rfl dX12_shut_2 (fun M1 => ?_)
  refine g_aload_n X dX12_shut_5 rfl 0 rfl ?_
  refine g_iload_n X dX12_shut_6 rfl 1 rfl ?_
  refine g_bVi (As := [.int a1]) (rest := []) X (c_X12_isRoom l K M1 a1) lk_X12_24 rfl rfl rfl (Nat.le_of_ble_eq_true rfl) ⟨Nat.le_of_ble_eq_true rfl, Nat.le_of_ble_eq_true rfl⟩ ⟨Nat.zero_le _, Nat.zero_le _⟩ dX12_shut_7 (fun r2 => ?_)
  refine g_if_ne X 15 dX12_shut_10 rfl (fun h3 => ?_) (fun h3 => ?_)
  · refine g_iconst (v := 0) X dX12_shut_13 (by decide) ?_
    exact g_zret X rfl rfl rfl dX12_shut_14
  · refine g_aload_n X dX12_shut_15 rfl 0 rfl ?_
    refine g_getr X fa_X12_431 rfl rfl dX12_shut_16 ?_
    refine g_iload_n X dX12_shut_19 rfl 1 rfl ?_
    refine g_iload_n X dX12_shut_20 rfl 2 rfl ?_
    refine g_bsv X rfl rfl dX12_shut_21 (fun M4 => ?_)
    refine g_iconst (v := 1) X dX12_shut_22 (by decide) ?_
    exact g_zret X rfl rfl rfl dX12_shut_23
set_option maxHeartbeats 4000000 in
set_option maxRecDepth 100000 in
theorem c_X12_passes (l : Launch) (K : q_KK) (M : q_MM) (a1 : Int32) (a2 : Int32) : ∀ res, f_X12_passes M a1 a2 = some res → Mt l yX12_passes cX12_passes 4 (some FieldType.boolean) 0 0 0 0 false K [.ref 5001, .int a1, .int a2] (qTM, qLM, qPM, M) (some (.int res)) ((qTM, qLM, qPM, M)) := by
  refine Mt.of (fun (res : Int32) => some (.int res)) (fun (_ : Int32) => (qTM, qLM, qPM, M)) (by decide) (Nat.le_of_ble_eq_true rfl) ?_
  intro p e s m args below meth c0 A ad X hN
  have hb_70 : GG p l e { frames := 0, cells := 0, slots := 0, locals := 0 } s m args below meth c0 K A (qTM, qLM, qPM, M) ad false 4 (fun res => MQ below (q_Qc K false ad (qTM, qLM, qPM, M) ((fun (res : Int32) => some (.int res)) res) ((fun (_ : Int32) => (qTM, qLM, qPM, M)) res) A) args s 0 0 A) (b_X12_passes_70 M ) 70 [] [] (qTM, qLM, qPM, M) 0 0 := by
    unfold b_X12_passes_70
    refine g_iconst (v := 1) X dX12_passes_70 (by decide) ?_
    refine g_goto X 75 dX12_passes_71 rfl ?_
    exact g_zret X rfl rfl rfl dX12_passes_75
  have hb_35 : ∀ (x1 : Int32) (x2 : Int32) (s0 : Int32), GG p l e { frames := 0, cells := 0, slots := 0, locals := 0 } s m args below meth c0 K A (qTM, qLM, qPM, M) ad false 4 (fun res => MQ below (q_Qc K false ad (qTM, qLM, qPM, M) ((fun (res : Int32) => some (.int res)) res) ((fun (_ : Int32) => (qTM, qLM, qPM, M)) res) A) args s 0 0 A) (b_X12_passes_35 M x1 x2 s0) 35 [(0, .ref 5001), (1, .int x1), (2, .int x2)] [.int s0] (qTM, qLM, qPM, M) 0 0 := by
    intro x1 x2 s0
    unfold b_X12_passes_35
    refine g_istore_n X [(3, .int s0), (0, .ref 5001), (1, .int x1), (2, .int x2)] dX12_passes_35 rfl (by decide) rfl ?_
    refine g_iload_n X dX12_passes_36 rfl 0 rfl ?_
    refine g_if_ne X 70 dX12_passes_37 rfl (fun h1 => ?_) (fun h1 => ?_)
    · refine g_aload_n X dX12_passes_40 rfl 1 rfl ?_
      refine g_getr X fa_X12_121 rfl rfl dX12_passes_41 ?_
      refine g_iload_n X dX12_passes_44 rfl 2 rfl ?_
      refine g_ild X rfl rfl dX12_passes_45 (fun v2 => ?_)
      refine g_aload_n X dX12_passes_46 rfl 1 rfl ?_
      refine g_getr X fa_X12_48 rfl rfl dX12_passes_47 ?_
      refine g_iload_n X dX12_passes_50 rfl 3 rfl ?_
      refine g_ild X rfl rfl dX12_passes_51 (fun v3 => ?_)
      refine g_icmp_gt X 74 dX12_passes_52 rfl (fun h4 => ?_) (fun h4 => ?_)
      · refine g_iconst (v := 0) X dX12_passes_74 (by decide) ?_
        exact g_zret X rfl rfl rfl dX12_passes_75
      · refine g_aload_n X dX12_passes_55 rfl 1 rfl ?_
        refine g_getr X fa_X12_124 rfl rfl dX12_passes_56 ?_
        refine g_iload_n X dX12_passes_59 rfl 2 rfl ?_
        refine g_ild X rfl rfl dX12_passes_60 (fun v5 => ?_)
        refine g_aload_n X dX12_passes_61 rfl 1 rfl ?_
        refine g_getr X fa_X12_45 rfl rfl dX12_passes_62 ?_
        refine g_iload_n X dX12_passes_65 rfl 3 rfl ?_
        refine g_ild X rfl rfl dX12_passes_66 (fun v6 => ?_)
        refine g_icmp_gt X 74 dX12_passes_67 rfl (fun h7 => ?_) (fun h7 => ?_)
        · refine g_iconst (v := 0) X dX12_passes_74 (by decide) ?_
          exact g_zret X rfl rfl rfl dX12_passes_75
        · exact g_sub [] rfl (hb_70)
    · exact g_sub [] rfl (hb_70)
  have hb_34 : ∀ (x1 : Int32) (x2 : Int32), GG p l e { frames := 0, cells := 0, slots := 0, locals := 0 } s m args below meth c0 K A (qTM, qLM, qPM, M) ad false 4 (fun res => MQ below (q_Qc K false ad (qTM, qLM, qPM, M) ((fun (res : Int32) => some (.int res)) res) ((fun (_ : Int32) => (qTM, qLM, qPM, M)) res) A) args s 0 0 A) (b_X12_passes_34 M x1 x2) 34 [(0, .ref 5001), (1, .int x1), (2, .int x2)] [] (qTM, qLM, qPM, M) 0 0 := by
    intro x1 x2
    unfold b_X12_passes_34
    refine g_iconst (v := 0) X dX12_passes_34 (by decide) ?_
    exact g_sub [0, 1, 2] rfl (hb_35 x1 x2 0)
  refine g_sub (lv' := [(0, .ref 5001), (1, .int a1), (2, .int a2)]) [0, 1, 2] rfl ?_
  unfold f_X12_passes
  refine g_aload_n X dX12_passes_0 rfl 0 rfl ?_
  refine g_getr X fa_X12_121 rfl rfl dX12_passes_1 ?_
  refine g_iload_n X dX12_passes_4 rfl 1 rfl ?_
  refine g_ild X rfl rfl dX12_passes_5 (fun v8 => ?_)
  refine g_aload_n X dX12_passes_6 rfl 0 rfl ?_
  refine g_getr X fa_X12_45 rfl rfl dX12_passes_7 ?_
  refine g_iload_n X dX12_passes_10 rfl 2 rfl ?_
  refine g_ild X rfl rfl dX12_passes_11 (fun v9 => ?_)
  refine g_icmp_gt X 34 dX12_passes_12 rfl (fun h10 => ?_) (fun h10 => ?_)
  · exact g_sub [0, 1, 2] rfl (hb_34 a1 a2)
  · refine g_aload_n X dX12_passes_15 rfl 0 rfl ?_
    refine g_getr X fa_X12_124 rfl rfl dX12_passes_16 ?_
    refine g_iload_n X dX12_passes_19 rfl 1 rfl ?_
    refine g_ild X rfl rfl dX12_passes_20 (fun v11 => ?_)
    refine g_aload_n X dX12_passes_21 rfl 0 rfl ?_
    refine g_getr X fa_X12_48 rfl rfl dX12_passes_22 ?_
    refine g_iload_n X dX12_passes_25 rfl 2 rfl ?_
    refine g_ild X rfl rfl dX12_passes_26 (fun v12 => ?_)
    refine g_icmp_gt X 34 dX12_passes_27 rfl (fun h13 => ?_) (fun h13 => ?_)
    · exact g_sub [0, 1, 2] rfl (hb_34 a1 a2)
    · refine g_iconst (v := 1) X dX12_passes_30 (by decide) ?_
      refine g_goto X 35 dX12_passes_31 rfl ?_
      exact g_sub [0, 1, 2] rfl (hb_35 a1 a2 1)
set_option maxHeartbeats 4000000 in
set_option maxRecDepth 100000 in
theorem c_X12_spreads (l : Launch) (K : q_KK) (M0 : q_MM) (a1 : Int32) (a2 : Int32) (a3 : Int32) : ∀ res, f_X12_spreads M0 a1 a2 a3 = some res → Mt l yX12_spreads cX12_spreads 8 (none : Option FieldType) 1 23 0 0 false K [.ref 5001, .int a1, .int a2, .int a3] (qTM, qLM, qPM, M0) (none) ((qTM, qLM, qPM, res)) := by
  refine Mt.of (fun (_ : q_MM) => none) (fun (res : q_MM) => (qTM, qLM, qPM, res)) (by decide) (Nat.le_of_ble_eq_true rfl) ?_
  intro p e s m args below meth c0 A ad X hN
  have hb_40 : ∀ (k3 : Int32 → Int32 → Int32 → Int32 → q_MM → Option (q_MM)) (hk3 : ∀ (x1 : Int32) (x2 : Int32) (x3 : Int32) (x4 : Int32) (M : q_MM), GG p l e { frames := 1, cells := 0, slots := 0, locals := 23 } s m args below meth c0 K A (qTM, qLM, qPM, M0) ad false 8 (fun res => MQ below (q_Qc K false ad (qTM, qLM, qPM, M0) ((fun (_ : q_MM) => none) res) ((fun (res : q_MM) => (qTM, qLM, qPM, res)) res) A) args s 0 0 A) (k3 x1 x2 x3 x4 M) 3 [(0, .ref 5001), (1, .int x1), (2, .int x2), (3, .int x3), (4, .int x4)] [] (qTM, qLM, qPM, M) 0 0) (x1 : Int32) (x2 : Int32) (x3 : Int32) (x4 : Int32) (s0 : Int32) (s1 : Int32) (s2 : Nat) (M : q_MM), GG p l e { frames := 1, cells := 0, slots := 0, locals := 23 } s m args below meth c0 K A (qTM, qLM, qPM, M0) ad false 8 (fun res => MQ below (q_Qc K false ad (qTM, qLM, qPM, M0) ((fun (_ : q_MM) => none) res) ((fun (res : q_MM) => (qTM, qLM, qPM, res)) res) A) args s 0 0 A) (b_X12_spreads_40 k3 x1 x2 x3 x4 s0 s1 s2 M) 40 [(0, .ref 5001), (1, .int x1), (2, .int x2), (3, .int x3), (4, .int x4)] [.int s0, .int s1, .ref s2] (qTM, qLM, qPM, M) 0 0 := by
    intro k3 hk3 x1 x2 x3 x4 s0 s1 s2 M
    unfold b_X12_spreads_40
    refine g_ck (fun hT1 => ?_)
    refine g_isv X hT1 rfl dX12_spreads_40 (fun M2 => ?_)
    refine g_iinc (v := 1) X [(4, .int (x4 + 1)), (0, .ref 5001), (1, .int x1), (2, .int x2), (3, .int x3)] 4 dX12_spreads_41 rfl (by decide) (by decide) rfl ?_
    refine g_goto X 3 dX12_spreads_44 rfl ?_
    exact g_sub [1, 2, 3, 4, 0] rfl (hk3 x1 x2 x3 (x4 + 1) M2)
  have hb_177 : ∀ (k62 : Int32 → Int32 → Int32 → Int32 → q_MM → Option (q_MM)) (hk62 : ∀ (x1 : Int32) (x3 : Int32) (x4 : Int32) (x5 : Int32) (M : q_MM), GG p l e { frames := 1, cells := 0, slots := 0, locals := 23 } s m args below meth c0 K A (qTM, qLM, qPM, M0) ad false 8 (fun res => MQ below (q_Qc K false ad (qTM, qLM, qPM, M0) ((fun (_ : q_MM) => none) res) ((fun (res : q_MM) => (qTM, qLM, qPM, res)) res) A) args s 0 0 A) (k62 x1 x3 x4 x5 M) 62 [(0, .ref 5001), (1, .int x1), (3, .int x3), (4, .int x4), (5, .int x5)] [] (qTM, qLM, qPM, M) 0 0) (x1 : Int32) (x3 : Int32) (x4 : Int32) (x5 : Int32) (M : q_MM), GG p l e { frames := 1, cells := 0, slots := 0, locals := 23 } s m args below meth c0 K A (qTM, qLM, qPM, M0) ad false 8 (fun res => MQ below (q_Qc K false ad (qTM, qLM, qPM, M0) ((fun (_ : q_MM) => none) res) ((fun (res : q_MM) => (qTM, qLM, qPM, res)) res) A) args s 0 0 A) (b_X12_spreads_177 k62 x1 x3 x4 x5 M) 177 [(0, .ref 5001), (1, .int x1), (3, .int x3), (4, .int x4), (5, .int x5)] [] (qTM, qLM, qPM, M) 0 0 := by
    intro k62 hk62 x1 x3 x4 x5 M
    unfold b_X12_spreads_177
    refine g_iinc (v := 1) X [(5, .int (x5 + 1)), (0, .ref 5001), (1, .int x1), (3, .int x3), (4, .int x4)] 4 dX12_spreads_177 rfl (by decide) (by decide) rfl ?_
    refine g_goto X 62 dX12_spreads_180 rfl ?_
    exact g_sub [1, 2, 3, 4, 0] rfl (hk62 x1 x3 x4 (x5 + 1) M)
  have hb_105 : ∀ (k62 : Int32 → Int32 → Int32 → Int32 → q_MM → Option (q_MM)) (hk62 : ∀ (x1 : Int32) (x3 : Int32) (x4 : Int32) (x5 : Int32) (M : q_MM), GG p l e { frames := 1, cells := 0, slots := 0, locals := 23 } s m args below meth c0 K A (qTM, qLM, qPM, M0) ad false 8 (fun res => MQ below (q_Qc K false ad (qTM, qLM, qPM, M0) ((fun (_ : q_MM) => none) res) ((fun (res : q_MM) => (qTM, qLM, qPM, res)) res) A) args s 0 0 A) (k62 x1 x3 x4 x5 M) 62 [(0, .ref 5001), (1, .int x1), (3, .int x3), (4, .int x4), (5, .int x5)] [] (qTM, qLM, qPM, M) 0 0) (x1 : Int32) (x3 : Int32) (x4 : Int32) (x5 : Int32) (x6 : Int32) (x7 : Int32) (M : q_MM), GG p l e { frames := 1, cells := 0, slots := 0, locals := 23 } s m args below meth c0 K A (qTM, qLM, qPM, M0) ad false 8 (fun res => MQ below (q_Qc K false ad (qTM, qLM, qPM, M0) ((fun (_ : q_MM) => none) res) ((fun (res : q_MM) => (qTM, qLM, qPM, res)) res) A) args s 0 0 A) (b_X12_spreads_105 k62 x1 x3 x4 x5 x6 x7 M) 105 [(0, .ref 5001), (1, .int x1), (3, .int x3), (4, .int x4), (5, .int x5), (6, .int x6), (7, .int x7)] [] (qTM, qLM, qPM, M) 0 0 := by
    intro k62 hk62 x1 x3 x4 x5 x6 x7 M
    unfold b_X12_spreads_105
    refine g_aload_n X dX12_spreads_105 rfl 0 rfl ?_
    refine g_getr X fa_X12_431 rfl rfl dX12_spreads_106 ?_
    refine g_iload X dX12_spreads_109 5 rfl ?_
    refine g_bld X rfl rfl dX12_spreads_111 (fun v3 => ?_)
    refine g_if_ne X 177 dX12_spreads_112 rfl (fun h4 => ?_) (fun h4 => ?_)
    · refine g_aload_n X dX12_spreads_115 rfl 0 rfl ?_
      refine g_getr X fa_X12_431 rfl rfl dX12_spreads_116 ?_
      refine g_iload X dX12_spreads_119 6 rfl ?_
      refine g_bld X rfl rfl dX12_spreads_121 (fun v5 => ?_)
      refine g_if_ne X 177 dX12_spreads_122 rfl (fun h6 => ?_) (fun h6 => ?_)
      · refine g_aload_n X dX12_spreads_125 rfl 0 rfl ?_
        refine g_getr X fa_X12_265 rfl rfl dX12_spreads_126 ?_
        refine g_iload X dX12_spreads_129 5 rfl ?_
        refine g_aload_n X dX12_spreads_131 rfl 0 rfl ?_
        refine g_getr X fa_X12_265 rfl rfl dX12_spreads_132 ?_
        refine g_iload X dX12_spreads_135 5 rfl ?_
        refine g_ild X rfl rfl dX12_spreads_137 (fun v7 => ?_)
        refine g_aload_n X dX12_spreads_138 rfl 0 rfl ?_
        refine g_getr X fa_X12_265 rfl rfl dX12_spreads_139 ?_
        refine g_iload X dX12_spreads_142 6 rfl ?_
        refine g_ild X rfl rfl dX12_spreads_144 (fun v8 => ?_)
        refine g_iconst (v := 1) X dX12_spreads_145 (by decide) ?_
        refine g_iadd X dX12_spreads_146 ?_
        refine g_mmin X lk_X12_95 (Nat.le_of_ble_eq_true rfl) ⟨Nat.le_of_ble_eq_true rfl, Nat.le_of_ble_eq_true rfl⟩ ⟨Nat.zero_le _, Nat.zero_le _⟩ dX12_spreads_147 ?_
        refine g_isv X rfl rfl dX12_spreads_150 (fun M9 => ?_)
        refine g_aload_n X dX12_spreads_151 rfl 0 rfl ?_
        refine g_getr X fa_X12_265 rfl rfl dX12_spreads_152 ?_
        refine g_iload X dX12_spreads_155 6 rfl ?_
        refine g_aload_n X dX12_spreads_157 rfl 0 rfl ?_
        refine g_getr X fa_X12_265 rfl rfl dX12_spreads_158 ?_
        refine g_iload X dX12_spreads_161 6 rfl ?_
        refine g_ild X rfl rfl dX12_spreads_163 (fun v10 => ?_)
        refine g_aload_n X dX12_spreads_164 rfl 0 rfl ?_
        refine g_getr X fa_X12_265 rfl rfl dX12_spreads_165 ?_
        refine g_iload X dX12_spreads_168 5 rfl ?_
        refine g_ild X rfl rfl dX12_spreads_170 (fun v11 => ?_)
        refine g_iconst (v := 1) X dX12_spreads_171 (by decide) ?_
        refine g_iadd X dX12_spreads_172 ?_
        refine g_mmin X lk_X12_95 (Nat.le_of_ble_eq_true rfl) ⟨Nat.le_of_ble_eq_true rfl, Nat.le_of_ble_eq_true rfl⟩ ⟨Nat.zero_le _, Nat.zero_le _⟩ dX12_spreads_173 ?_
        refine g_isv X rfl rfl dX12_spreads_176 (fun M12 => ?_)
        exact g_sub [0, 1, 2, 3, 4] rfl (hb_177 k62 hk62 x1 x3 x4 x5 M12)
      · exact g_sub [0, 1, 2, 3, 4] rfl (hb_177 k62 hk62 x1 x3 x4 x5 M)
    · exact g_sub [0, 1, 2, 3, 4] rfl (hb_177 k62 hk62 x1 x3 x4 x5 M)
  have hb_62 : ∀ (k50 : Int32 → Int32 → Int32 → q_MM → Option (q_MM)) (hk50 : ∀ (x1 : Int32) (x3 : Int32) (x4 : Int32) (M : q_MM), GG p l e { frames := 1, cells := 0, slots := 0, locals := 23 } s m args below meth c0 K A (qTM, qLM, qPM, M0) ad false 8 (fun res => MQ below (q_Qc K false ad (qTM, qLM, qPM, M0) ((fun (_ : q_MM) => none) res) ((fun (res : q_MM) => (qTM, qLM, qPM, res)) res) A) args s 0 0 A) (k50 x1 x3 x4 M) 50 [(0, .ref 5001), (1, .int x1), (3, .int x3), (4, .int x4)] [] (qTM, qLM, qPM, M) 0 0) (nf : Nat) (x1 : Int32) (x3 : Int32) (x4 : Int32) (x5 : Int32) (M : q_MM), GG p l e { frames := 1, cells := 0, slots := 0, locals := 23 } s m args below meth c0 K A (qTM, qLM, qPM, M0) ad false 8 (fun res => MQ below (q_Qc K false ad (qTM, qLM, qPM, M0) ((fun (_ : q_MM) => none) res) ((fun (res : q_MM) => (qTM, qLM, qPM, res)) res) A) args s 0 0 A) (b_X12_spreads_62 k50 nf x1 x3 x4 x5 M) 62 [(0, .ref 5001), (1, .int x1), (3, .int x3), (4, .int x4), (5, .int x5)] [] (qTM, qLM, qPM, M) 0 0 := by
    intro k50 hk50 nf
    induction nf with
    | zero => intros; exact g_stop
    | succ nf ih =>
      intro x1 x3 x4 x5 M
      rw [b_X12_spreads_62]
      refine g_iload X dX12_spreads_62 4 rfl ?_
      refine g_aload_n X dX12_spreads_64 rfl 0 rfl ?_
      refine g_geti X fa_X12_36 rfl dX12_spreads_65 ?_
      refine g_icmp_ge X 183 dX12_spreads_68 rfl (fun h13 => ?_) (fun h13 => ?_)
      · refine g_iinc (v := 1) X [(4, .int (x4 + 1)), (0, .ref 5001), (1, .int x1), (3, .int x3), (5, .int x5)] 3 dX12_spreads_183 rfl (by decide) (by decide) rfl ?_
        refine g_goto X 50 dX12_spreads_186 rfl ?_
        exact g_sub [1, 2, 3, 0] rfl (hk50 x1 x3 (x4 + 1) M)
      · refine g_aload_n X dX12_spreads_71 rfl 0 rfl ?_
        refine g_getr X fa_X12_39 rfl rfl dX12_spreads_72 ?_
        refine g_iload X dX12_spreads_75 4 rfl ?_
        refine g_ild X rfl rfl dX12_spreads_77 (fun v14 => ?_)
        refine g_istore X [(6, .int v14), (0, .ref 5001), (1, .int x1), (3, .int x3), (4, .int x4), (5, .int x5)] dX12_spreads_78 (by decide) rfl ?_
        refine g_aload_n X dX12_spreads_80 rfl 1 rfl ?_
        refine g_getr X fa_X12_42 rfl rfl dX12_spreads_81 ?_
        refine g_iload X dX12_spreads_84 5 rfl ?_
        refine g_ild X rfl rfl dX12_spreads_86 (fun v15 => ?_)
        refine g_istore X [(7, .int v15), (6, .int v14), (0, .ref 5001), (1, .int x1), (3, .int x3), (4, .int x4), (5, .int x5)] dX12_spreads_87 (by decide) rfl ?_
        refine g_aload_n X dX12_spreads_89 rfl 2 rfl ?_
        refine g_iload_n X dX12_spreads_90 rfl 3 rfl ?_
        refine g_iload X dX12_spreads_91 6 rfl ?_
        refine g_bVi (As := [.int x1, .int x5]) (rest := []) X (c_X12_passes l K M x1 x5) lk_X12_434 rfl rfl rfl (Nat.le_of_ble_eq_true rfl) ⟨Nat.le_of_ble_eq_true rfl, Nat.le_of_ble_eq_true rfl⟩ ⟨Nat.zero_le _, Nat.zero_le _⟩ dX12_spreads_93 (fun r16 => ?_)
        refine g_if_ne X 105 dX12_spreads_96 rfl (fun h17 => ?_) (fun h17 => ?_)
        · refine g_iload X dX12_spreads_99 6 rfl ?_
          refine g_iload_n X dX12_spreads_101 rfl 4 rfl ?_
          refine g_icmp_ne X 177 dX12_spreads_102 rfl (fun h18 => ?_) (fun h18 => ?_)
          · exact g_sub [2, 3, 4, 5, 6, 1, 0] rfl (hb_105 (b_X12_spreads_62 k50 nf) ih x1 x3 x4 x5 v14 v15 M)
          · exact g_sub [2, 3, 4, 5, 6] rfl (hb_177 (b_X12_spreads_62 k50 nf) ih x1 x3 x4 x5 M)
        · exact g_sub [2, 3, 4, 5, 6, 1, 0] rfl (hb_105 (b_X12_spreads_62 k50 nf) ih x1 x3 x4 x5 v14 v15 M)
  have hb_50 : ∀ (nf : Nat) (x1 : Int32) (x3 : Int32) (x4 : Int32) (M : q_MM), GG p l e { frames := 1, cells := 0, slots := 0, locals := 23 } s m args below meth c0 K A (qTM, qLM, qPM, M0) ad false 8 (fun res => MQ below (q_Qc K false ad (qTM, qLM, qPM, M0) ((fun (_ : q_MM) => none) res) ((fun (res : q_MM) => (qTM, qLM, qPM, res)) res) A) args s 0 0 A) (b_X12_spreads_50 nf x1 x3 x4 M) 50 [(0, .ref 5001), (1, .int x1), (3, .int x3), (4, .int x4)] [] (qTM, qLM, qPM, M) 0 0 := by
    intro  nf
    induction nf with
    | zero => intros; exact g_stop
    | succ nf ih =>
      intro x1 x3 x4 M
      rw [b_X12_spreads_50]
      refine g_iload X dX12_spreads_50 3 rfl ?_
      refine g_aload_n X dX12_spreads_52 rfl 0 rfl ?_
      refine g_geti X fa_X12_14 rfl dX12_spreads_53 ?_
      refine g_icmp_ge X 189 dX12_spreads_56 rfl (fun h19 => ?_) (fun h19 => ?_)
      · exact g_vret X rfl rfl rfl dX12_spreads_189
      · refine g_iconst (v := 0) X dX12_spreads_59 (by decide) ?_
        refine g_istore X [(5, .int 0), (0, .ref 5001), (1, .int x1), (3, .int x3), (4, .int x4)] dX12_spreads_60 (by decide) rfl ?_
        exact g_sub [1, 2, 3, 4, 0] rfl (hb_62 (b_X12_spreads_50 nf) ih q_fu x1 x3 x4 0 M)
  have hb_38 : ∀ (k3 : Int32 → Int32 → Int32 → Int32 → q_MM → Option (q_MM)) (hk3 : ∀ (x1 : Int32) (x2 : Int32) (x3 : Int32) (x4 : Int32) (M : q_MM), GG p l e { frames := 1, cells := 0, slots := 0, locals := 23 } s m args below meth c0 K A (qTM, qLM, qPM, M0) ad false 8 (fun res => MQ below (q_Qc K false ad (qTM, qLM, qPM, M0) ((fun (_ : q_MM) => none) res) ((fun (res : q_MM) => (qTM, qLM, qPM, res)) res) A) args s 0 0 A) (k3 x1 x2 x3 x4 M) 3 [(0, .ref 5001), (1, .int x1), (2, .int x2), (3, .int x3), (4, .int x4)] [] (qTM, qLM, qPM, M) 0 0) (x1 : Int32) (x2 : Int32) (x3 : Int32) (x4 : Int32) (s0 : Int32) (s1 : Nat) (M : q_MM), GG p l e { frames := 1, cells := 0, slots := 0, locals := 23 } s m args below meth c0 K A (qTM, qLM, qPM, M0) ad false 8 (fun res => MQ below (q_Qc K false ad (qTM, qLM, qPM, M0) ((fun (_ : q_MM) => none) res) ((fun (res : q_MM) => (qTM, qLM, qPM, res)) res) A) args s 0 0 A) (b_X12_spreads_38 k3 x1 x2 x3 x4 s0 s1 M) 38 [(0, .ref 5001), (1, .int x1), (2, .int x2), (3, .int x3), (4, .int x4)] [.int s0, .ref s1] (qTM, qLM, qPM, M) 0 0 := by
    intro k3 hk3 x1 x2 x3 x4 s0 s1 M
    unfold b_X12_spreads_38
    refine g_bipush (v := 99) X dX12_spreads_38 (by decide) ?_
    exact g_sub [0, 1, 2, 3, 4] rfl (hb_40 k3 hk3 x1 x2 x3 x4 99 s0 s1 M)
  have hb_3 : ∀ (nf : Nat) (x1 : Int32) (x2 : Int32) (x3 : Int32) (x4 : Int32) (M : q_MM), GG p l e { frames := 1, cells := 0, slots := 0, locals := 23 } s m args below meth c0 K A (qTM, qLM, qPM, M0) ad false 8 (fun res => MQ below (q_Qc K false ad (qTM, qLM, qPM, M0) ((fun (_ : q_MM) => none) res) ((fun (res : q_MM) => (qTM, qLM, qPM, res)) res) A) args s 0 0 A) (b_X12_spreads_3 nf x1 x2 x3 x4 M) 3 [(0, .ref 5001), (1, .int x1), (2, .int x2), (3, .int x3), (4, .int x4)] [] (qTM, qLM, qPM, M) 0 0 := by
    intro  nf
    induction nf with
    | zero => intros; exact g_stop
    | succ nf ih =>
      intro x1 x2 x3 x4 M
      rw [b_X12_spreads_3]
      refine g_iload X dX12_spreads_3 4 rfl ?_
      refine g_aload_n X dX12_spreads_5 rfl 0 rfl ?_
      refine g_geti X fa_X12_14 rfl dX12_spreads_6 ?_
      refine g_icmp_ge X 47 dX12_spreads_9 rfl (fun h20 => ?_) (fun h20 => ?_)
      · refine g_iconst (v := 0) X dX12_spreads_47 (by decide) ?_
        refine g_istore X [(4, .int 0), (0, .ref 5001), (1, .int x1), (2, .int x2), (3, .int x3)] dX12_spreads_48 (by decide) rfl ?_
        exact g_sub [1, 2, 4, 0] rfl (hb_50 q_fu x1 x3 0 M)
      · refine g_aload_n X dX12_spreads_12 rfl 0 rfl ?_
        refine g_getr X fa_X12_265 rfl rfl dX12_spreads_13 ?_
        refine g_iload X dX12_spreads_16 4 rfl ?_
        refine g_iload X dX12_spreads_18 4 rfl ?_
        refine g_iload_n X dX12_spreads_20 rfl 2 rfl ?_
        refine g_icmp_ne X 38 dX12_spreads_21 rfl (fun h21 => ?_) (fun h21 => ?_)
        · refine g_aload_n X dX12_spreads_24 rfl 0 rfl ?_
          refine g_getr X fa_X12_431 rfl rfl dX12_spreads_25 ?_
          refine g_iload X dX12_spreads_28 4 rfl ?_
          refine g_bld X rfl rfl dX12_spreads_30 (fun v22 => ?_)
          refine g_if_ne X 38 dX12_spreads_31 rfl (fun h23 => ?_) (fun h23 => ?_)
          · refine g_iconst (v := 0) X dX12_spreads_34 (by decide) ?_
            refine g_goto X 40 dX12_spreads_35 rfl ?_
            exact g_sub [0, 1, 2, 3, 4] rfl (hb_40 (b_X12_spreads_3 nf) ih x1 x2 x3 x4 0 x4 5057 M)
          · exact g_sub [0, 1, 2, 3, 4] rfl (hb_38 (b_X12_spreads_3 nf) ih x1 x2 x3 x4 x4 5057 M)
        · exact g_sub [0, 1, 2, 3, 4] rfl (hb_38 (b_X12_spreads_3 nf) ih x1 x2 x3 x4 x4 5057 M)
  refine g_sub (lv' := [(0, .ref 5001), (1, .int a1), (2, .int a2), (3, .int a3)]) [0, 1, 2, 3] rfl ?_
  unfold f_X12_spreads
  refine g_iconst (v := 0) X dX12_spreads_0 (by decide) ?_
  refine g_istore X [(4, .int 0), (0, .ref 5001), (1, .int a1), (2, .int a2), (3, .int a3)] dX12_spreads_1 (by decide) rfl ?_
  exact g_sub [1, 2, 3, 4, 0] rfl (hb_3 q_fu a1 a2 a3 0 M0)
set_option maxHeartbeats 4000000 in
set_option maxRecDepth 100000 in
theorem c_X12_isJoined (l : Launch) (K : q_KK) (M : q_MM) (a1 : Int32) (a2 : Int32) (a3 : Int32) : ∀ res, f_X12_isJoined M a1 a2 a3 = some res → Mt l yX12_isJoined cX12_isJoined 7 (some FieldType.boolean) 1 23 0 0 false K [.ref 5001, .int a1, .int a2, .int a3] (qTM, qLM, qPM, M) (some (.int res)) ((qTM, qLM, qPM, M)) := by
  refine Mt.of (fun (res : Int32) => some (.int res)) (fun (_ : Int32) => (qTM, qLM, qPM, M)) (by decide) (Nat.le_of_ble_eq_true rfl) ?_
  intro p e s m args below meth c0 A ad X hN
  have hb_91 : ∀ (k6 : Int32 → Int32 → Int32 → Int32 → Int32 → Option (Int32)) (hk6 : ∀ (x1 : Int32) (x2 : Int32) (x3 : Int32) (x4 : Int32) (x5 : Int32), GG p l e { frames := 1, cells := 0, slots := 0, locals := 23 } s m args below meth c0 K A (qTM, qLM, qPM, M) ad false 7 (fun res => MQ below (q_Qc K false ad (qTM, qLM, qPM, M) ((fun (res : Int32) => some (.int res)) res) ((fun (_ : Int32) => (qTM, qLM, qPM, M)) res) A) args s 0 0 A) (k6 x1 x2 x3 x4 x5) 6 [(0, .ref 5001), (1, .int x1), (2, .int x2), (3, .int x3), (4, .int x4), (5, .int x5)] [] (qTM, qLM, qPM, M) 0 0) (x1 : Int32) (x2 : Int32) (x3 : Int32) (x5 : Int32) (s0 : Int32), GG p l e { frames := 1, cells := 0, slots := 0, locals := 23 } s m args below meth c0 K A (qTM, qLM, qPM, M) ad false 7 (fun res => MQ below (q_Qc K false ad (qTM, qLM, qPM, M) ((fun (res : Int32) => some (.int res)) res) ((fun (_ : Int32) => (qTM, qLM, qPM, M)) res) A) args s 0 0 A) (b_X12_isJoined_91 M k6 x1 x2 x3 x5 s0) 91 [(0, .ref 5001), (1, .int x1), (2, .int x2), (3, .int x3), (5, .int x5)] [.int s0] (qTM, qLM, qPM, M) 0 0 := by
    intro k6 hk6 x1 x2 x3 x5 s0
    unfold b_X12_isJoined_91
    refine g_istore X [(4, .int s0), (0, .ref 5001), (1, .int x1), (2, .int x2), (3, .int x3), (5, .int x5)] dX12_isJoined_91 (by decide) rfl ?_
    refine g_iinc (v := 1) X [(5, .int (x5 + 1)), (4, .int s0), (0, .ref 5001), (1, .int x1), (2, .int x2), (3, .int x3)] 5 dX12_isJoined_93 rfl (by decide) (by decide) rfl ?_
    refine g_goto X 6 dX12_isJoined_96 rfl ?_
    exact g_sub [2, 3, 4, 5, 1, 0] rfl (hk6 x1 x2 x3 s0 (x5 + 1))
  have hb_90 : ∀ (k6 : Int32 → Int32 → Int32 → Int32 → Int32 → Option (Int32)) (hk6 : ∀ (x1 : Int32) (x2 : Int32) (x3 : Int32) (x4 : Int32) (x5 : Int32), GG p l e { frames := 1, cells := 0, slots := 0, locals := 23 } s m args below meth c0 K A (qTM, qLM, qPM, M) ad false 7 (fun res => MQ below (q_Qc K false ad (qTM, qLM, qPM, M) ((fun (res : Int32) => some (.int res)) res) ((fun (_ : Int32) => (qTM, qLM, qPM, M)) res) A) args s 0 0 A) (k6 x1 x2 x3 x4 x5) 6 [(0, .ref 5001), (1, .int x1), (2, .int x2), (3, .int x3), (4, .int x4), (5, .int x5)] [] (qTM, qLM, qPM, M) 0 0) (x1 : Int32) (x2 : Int32) (x3 : Int32) (x5 : Int32), GG p l e { frames := 1, cells := 0, slots := 0, locals := 23 } s m args below meth c0 K A (qTM, qLM, qPM, M) ad false 7 (fun res => MQ below (q_Qc K false ad (qTM, qLM, qPM, M) ((fun (res : Int32) => some (.int res)) res) ((fun (_ : Int32) => (qTM, qLM, qPM, M)) res) A) args s 0 0 A) (b_X12_isJoined_90 M k6 x1 x2 x3 x5) 90 [(0, .ref 5001), (1, .int x1), (2, .int x2), (3, .int x3), (5, .int x5)] [] (qTM, qLM, qPM, M) 0 0 := by
    intro k6 hk6 x1 x2 x3 x5
    unfold b_X12_isJoined_90
    refine g_iconst (v := 0) X dX12_isJoined_90 (by decide) ?_
    exact g_sub [0, 1, 2, 3, 4] rfl (hb_91 k6 hk6 x1 x2 x3 x5 0)
  have hb_86 : ∀ (k6 : Int32 → Int32 → Int32 → Int32 → Int32 → Option (Int32)) (hk6 : ∀ (x1 : Int32) (x2 : Int32) (x3 : Int32) (x4 : Int32) (x5 : Int32), GG p l e { frames := 1, cells := 0, slots := 0, locals := 23 } s m args below meth c0 K A (qTM, qLM, qPM, M) ad false 7 (fun res => MQ below (q_Qc K false ad (qTM, qLM, qPM, M) ((fun (res : Int32) => some (.int res)) res) ((fun (_ : Int32) => (qTM, qLM, qPM, M)) res) A) args s 0 0 A) (k6 x1 x2 x3 x4 x5) 6 [(0, .ref 5001), (1, .int x1), (2, .int x2), (3, .int x3), (4, .int x4), (5, .int x5)] [] (qTM, qLM, qPM, M) 0 0) (x1 : Int32) (x2 : Int32) (x3 : Int32) (x5 : Int32), GG p l e { frames := 1, cells := 0, slots := 0, locals := 23 } s m args below meth c0 K A (qTM, qLM, qPM, M) ad false 7 (fun res => MQ below (q_Qc K false ad (qTM, qLM, qPM, M) ((fun (res : Int32) => some (.int res)) res) ((fun (_ : Int32) => (qTM, qLM, qPM, M)) res) A) args s 0 0 A) (b_X12_isJoined_86 M k6 x1 x2 x3 x5) 86 [(0, .ref 5001), (1, .int x1), (2, .int x2), (3, .int x3), (5, .int x5)] [] (qTM, qLM, qPM, M) 0 0 := by
    intro k6 hk6 x1 x2 x3 x5
    unfold b_X12_isJoined_86
    refine g_iconst (v := 1) X dX12_isJoined_86 (by decide) ?_
    refine g_goto X 91 dX12_isJoined_87 rfl ?_
    exact g_sub [0, 1, 2, 3, 4] rfl (hb_91 k6 hk6 x1 x2 x3 x5 1)
  have hb_64 : ∀ (k6 : Int32 → Int32 → Int32 → Int32 → Int32 → Option (Int32)) (hk6 : ∀ (x1 : Int32) (x2 : Int32) (x3 : Int32) (x4 : Int32) (x5 : Int32), GG p l e { frames := 1, cells := 0, slots := 0, locals := 23 } s m args below meth c0 K A (qTM, qLM, qPM, M) ad false 7 (fun res => MQ below (q_Qc K false ad (qTM, qLM, qPM, M) ((fun (res : Int32) => some (.int res)) res) ((fun (_ : Int32) => (qTM, qLM, qPM, M)) res) A) args s 0 0 A) (k6 x1 x2 x3 x4 x5) 6 [(0, .ref 5001), (1, .int x1), (2, .int x2), (3, .int x3), (4, .int x4), (5, .int x5)] [] (qTM, qLM, qPM, M) 0 0) (x1 : Int32) (x2 : Int32) (x3 : Int32) (x4 : Int32) (x5 : Int32) (s0 : Int32), GG p l e { frames := 1, cells := 0, slots := 0, locals := 23 } s m args below meth c0 K A (qTM, qLM, qPM, M) ad false 7 (fun res => MQ below (q_Qc K false ad (qTM, qLM, qPM, M) ((fun (res : Int32) => some (.int res)) res) ((fun (_ : Int32) => (qTM, qLM, qPM, M)) res) A) args s 0 0 A) (b_X12_isJoined_64 M k6 x1 x2 x3 x4 x5 s0) 64 [(0, .ref 5001), (1, .int x1), (2, .int x2), (3, .int x3), (4, .int x4), (5, .int x5)] [.int s0] (qTM, qLM, qPM, M) 0 0 := by
    intro k6 hk6 x1 x2 x3 x4 x5 s0
    unfold b_X12_isJoined_64
    refine g_istore X [(6, .int s0), (0, .ref 5001), (1, .int x1), (2, .int x2), (3, .int x3), (4, .int x4), (5, .int x5)] dX12_isJoined_64 (by decide) rfl ?_
    refine g_iload X dX12_isJoined_66 5 rfl ?_
    refine g_if_ne X 86 dX12_isJoined_68 rfl (fun h1 => ?_) (fun h1 => ?_)
    · refine g_iload X dX12_isJoined_71 0 rfl ?_
      refine g_if_eq X 90 dX12_isJoined_73 rfl (fun h2 => ?_) (fun h2 => ?_)
      · exact g_sub [1, 2, 3, 4, 6] rfl (hb_90 k6 hk6 x1 x2 x3 x5)
      · refine g_aload_n X dX12_isJoined_76 rfl 1 rfl ?_
        refine g_iload_n X dX12_isJoined_77 rfl 2 rfl ?_
        refine g_iload X dX12_isJoined_78 6 rfl ?_
        refine g_bVi (As := [.int x1, .int x5]) (rest := []) X (c_X12_passes l K M x1 x5) lk_X12_434 rfl rfl rfl (Nat.le_of_ble_eq_true rfl) ⟨Nat.le_of_ble_eq_true rfl, Nat.le_of_ble_eq_true rfl⟩ ⟨Nat.zero_le _, Nat.zero_le _⟩ dX12_isJoined_80 (fun r3 => ?_)
        refine g_if_eq X 90 dX12_isJoined_83 rfl (fun h4 => ?_) (fun h4 => ?_)
        · exact g_sub [1, 2, 3, 4, 6] rfl (hb_90 k6 hk6 x1 x2 x3 x5)
        · exact g_sub [1, 2, 3, 4, 6] rfl (hb_86 k6 hk6 x1 x2 x3 x5)
    · exact g_sub [1, 2, 3, 4, 6] rfl (hb_86 k6 hk6 x1 x2 x3 x5)
  have hb_59 : ∀ (k6 : Int32 → Int32 → Int32 → Int32 → Int32 → Option (Int32)) (hk6 : ∀ (x1 : Int32) (x2 : Int32) (x3 : Int32) (x4 : Int32) (x5 : Int32), GG p l e { frames := 1, cells := 0, slots := 0, locals := 23 } s m args below meth c0 K A (qTM, qLM, qPM, M) ad false 7 (fun res => MQ below (q_Qc K false ad (qTM, qLM, qPM, M) ((fun (res : Int32) => some (.int res)) res) ((fun (_ : Int32) => (qTM, qLM, qPM, M)) res) A) args s 0 0 A) (k6 x1 x2 x3 x4 x5) 6 [(0, .ref 5001), (1, .int x1), (2, .int x2), (3, .int x3), (4, .int x4), (5, .int x5)] [] (qTM, qLM, qPM, M) 0 0) (x1 : Int32) (x2 : Int32) (x3 : Int32) (x4 : Int32) (x5 : Int32), GG p l e { frames := 1, cells := 0, slots := 0, locals := 23 } s m args below meth c0 K A (qTM, qLM, qPM, M) ad false 7 (fun res => MQ below (q_Qc K false ad (qTM, qLM, qPM, M) ((fun (res : Int32) => some (.int res)) res) ((fun (_ : Int32) => (qTM, qLM, qPM, M)) res) A) args s 0 0 A) (b_X12_isJoined_59 M k6 x1 x2 x3 x4 x5) 59 [(0, .ref 5001), (1, .int x1), (2, .int x2), (3, .int x3), (4, .int x4), (5, .int x5)] [] (qTM, qLM, qPM, M) 0 0 := by
    intro k6 hk6 x1 x2 x3 x4 x5
    unfold b_X12_isJoined_59
    refine g_iconst (v := 1) X dX12_isJoined_59 (by decide) ?_
    refine g_goto X 64 dX12_isJoined_60 rfl ?_
    exact g_sub [0, 1, 2, 3, 4, 5] rfl (hb_64 k6 hk6 x1 x2 x3 x4 x5 1)
  have hb_63 : ∀ (k6 : Int32 → Int32 → Int32 → Int32 → Int32 → Option (Int32)) (hk6 : ∀ (x1 : Int32) (x2 : Int32) (x3 : Int32) (x4 : Int32) (x5 : Int32), GG p l e { frames := 1, cells := 0, slots := 0, locals := 23 } s m args below meth c0 K A (qTM, qLM, qPM, M) ad false 7 (fun res => MQ below (q_Qc K false ad (qTM, qLM, qPM, M) ((fun (res : Int32) => some (.int res)) res) ((fun (_ : Int32) => (qTM, qLM, qPM, M)) res) A) args s 0 0 A) (k6 x1 x2 x3 x4 x5) 6 [(0, .ref 5001), (1, .int x1), (2, .int x2), (3, .int x3), (4, .int x4), (5, .int x5)] [] (qTM, qLM, qPM, M) 0 0) (x1 : Int32) (x2 : Int32) (x3 : Int32) (x4 : Int32) (x5 : Int32), GG p l e { frames := 1, cells := 0, slots := 0, locals := 23 } s m args below meth c0 K A (qTM, qLM, qPM, M) ad false 7 (fun res => MQ below (q_Qc K false ad (qTM, qLM, qPM, M) ((fun (res : Int32) => some (.int res)) res) ((fun (_ : Int32) => (qTM, qLM, qPM, M)) res) A) args s 0 0 A) (b_X12_isJoined_63 M k6 x1 x2 x3 x4 x5) 63 [(0, .ref 5001), (1, .int x1), (2, .int x2), (3, .int x3), (4, .int x4), (5, .int x5)] [] (qTM, qLM, qPM, M) 0 0 := by
    intro k6 hk6 x1 x2 x3 x4 x5
    unfold b_X12_isJoined_63
    refine g_iconst (v := 0) X dX12_isJoined_63 (by decide) ?_
    exact g_sub [0, 1, 2, 3, 4, 5] rfl (hb_64 k6 hk6 x1 x2 x3 x4 x5 0)
  have hb_37 : ∀ (k6 : Int32 → Int32 → Int32 → Int32 → Int32 → Option (Int32)) (hk6 : ∀ (x1 : Int32) (x2 : Int32) (x3 : Int32) (x4 : Int32) (x5 : Int32), GG p l e { frames := 1, cells := 0, slots := 0, locals := 23 } s m args below meth c0 K A (qTM, qLM, qPM, M) ad false 7 (fun res => MQ below (q_Qc K false ad (qTM, qLM, qPM, M) ((fun (res : Int32) => some (.int res)) res) ((fun (_ : Int32) => (qTM, qLM, qPM, M)) res) A) args s 0 0 A) (k6 x1 x2 x3 x4 x5) 6 [(0, .ref 5001), (1, .int x1), (2, .int x2), (3, .int x3), (4, .int x4), (5, .int x5)] [] (qTM, qLM, qPM, M) 0 0) (x1 : Int32) (x2 : Int32) (x3 : Int32) (x4 : Int32) (x5 : Int32), GG p l e { frames := 1, cells := 0, slots := 0, locals := 23 } s m args below meth c0 K A (qTM, qLM, qPM, M) ad false 7 (fun res => MQ below (q_Qc K false ad (qTM, qLM, qPM, M) ((fun (res : Int32) => some (.int res)) res) ((fun (_ : Int32) => (qTM, qLM, qPM, M)) res) A) args s 0 0 A) (b_X12_isJoined_37 M k6 x1 x2 x3 x4 x5) 37 [(0, .ref 5001), (1, .int x1), (2, .int x2), (3, .int x3), (4, .int x4), (5, .int x5)] [] (qTM, qLM, qPM, M) 0 0 := by
    intro k6 hk6 x1 x2 x3 x4 x5
    unfold b_X12_isJoined_37
    refine g_aload_n X dX12_isJoined_37 rfl 0 rfl ?_
    refine g_getr X fa_X12_39 rfl rfl dX12_isJoined_38 ?_
    refine g_iload X dX12_isJoined_41 5 rfl ?_
    refine g_ild X rfl rfl dX12_isJoined_43 (fun v5 => ?_)
    refine g_iload_n X dX12_isJoined_44 rfl 3 rfl ?_
    refine g_icmp_ne X 63 dX12_isJoined_45 rfl (fun h6 => ?_) (fun h6 => ?_)
    · refine g_aload_n X dX12_isJoined_48 rfl 0 rfl ?_
      refine g_getr X fa_X12_42 rfl rfl dX12_isJoined_49 ?_
      refine g_iload X dX12_isJoined_52 5 rfl ?_
      refine g_ild X rfl rfl dX12_isJoined_54 (fun v7 => ?_)
      refine g_iload_n X dX12_isJoined_55 rfl 2 rfl ?_
      refine g_icmp_ne X 63 dX12_isJoined_56 rfl (fun h8 => ?_) (fun h8 => ?_)
      · exact g_sub [0, 1, 2, 3, 4, 5] rfl (hb_59 k6 hk6 x1 x2 x3 x4 x5)
      · exact g_sub [0, 1, 2, 3, 4, 5] rfl (hb_63 k6 hk6 x1 x2 x3 x4 x5)
    · exact g_sub [0, 1, 2, 3, 4, 5] rfl (hb_63 k6 hk6 x1 x2 x3 x4 x5)
  have hb_6 : ∀ (nf : Nat) (x1 : Int32) (x2 : Int32) (x3 : Int32) (x4 : Int32) (x5 : Int32), GG p l e { frames := 1, cells := 0, slots := 0, locals := 23 } s m args below meth c0 K A (qTM, qLM, qPM, M) ad false 7 (fun res => MQ below (q_Qc K false ad (qTM, qLM, qPM, M) ((fun (res : Int32) => some (.int res)) res) ((fun (_ : Int32) => (qTM, qLM, qPM, M)) res) A) args s 0 0 A) (b_X12_isJoined_6 M nf x1 x2 x3 x4 x5) 6 [(0, .ref 5001), (1, .int x1), (2, .int x2), (3, .int x3), (4, .int x4), (5, .int x5)] [] (qTM, qLM, qPM, M) 0 0 := by
    intro  nf
    induction nf with
    | zero => intros; exact g_stop
    | succ nf ih =>
      intro x1 x2 x3 x4 x5
      rw [b_X12_isJoined_6]
      refine g_iload X dX12_isJoined_6 5 rfl ?_
      refine g_aload_n X dX12_isJoined_8 rfl 0 rfl ?_
      refine g_geti X fa_X12_36 rfl dX12_isJoined_9 ?_
      refine g_icmp_ge X 99 dX12_isJoined_12 rfl (fun h9 => ?_) (fun h9 => ?_)
      · refine g_iload X dX12_isJoined_99 4 rfl ?_
        exact g_zret X rfl rfl rfl dX12_isJoined_101
      · refine g_aload_n X dX12_isJoined_15 rfl 0 rfl ?_
        refine g_getr X fa_X12_39 rfl rfl dX12_isJoined_16 ?_
        refine g_iload X dX12_isJoined_19 5 rfl ?_
        refine g_ild X rfl rfl dX12_isJoined_21 (fun v10 => ?_)
        refine g_iload_n X dX12_isJoined_22 rfl 2 rfl ?_
        refine g_icmp_ne X 37 dX12_isJoined_23 rfl (fun h11 => ?_) (fun h11 => ?_)
        · refine g_aload_n X dX12_isJoined_26 rfl 0 rfl ?_
          refine g_getr X fa_X12_42 rfl rfl dX12_isJoined_27 ?_
          refine g_iload X dX12_isJoined_30 5 rfl ?_
          refine g_ild X rfl rfl dX12_isJoined_32 (fun v12 => ?_)
          refine g_iload_n X dX12_isJoined_33 rfl 3 rfl ?_
          refine g_icmp_eq X 59 dX12_isJoined_34 rfl (fun h13 => ?_) (fun h13 => ?_)
          · exact g_sub [0, 1, 2, 3, 4, 5] rfl (hb_59 (b_X12_isJoined_6 M nf) ih x1 x2 x3 x4 x5)
          · exact g_sub [0, 1, 2, 3, 4, 5] rfl (hb_37 (b_X12_isJoined_6 M nf) ih x1 x2 x3 x4 x5)
        · exact g_sub [0, 1, 2, 3, 4, 5] rfl (hb_37 (b_X12_isJoined_6 M nf) ih x1 x2 x3 x4 x5)
  refine g_sub (lv' := [(0, .ref 5001), (1, .int a1), (2, .int a2), (3, .int a3)]) [0, 1, 2, 3] rfl ?_
  unfold f_X12_isJoined
  refine g_iconst (v := 0) X dX12_isJoined_0 (by decide) ?_
  refine g_istore X [(4, .int 0), (0, .ref 5001), (1, .int a1), (2, .int a2), (3, .int a3)] dX12_isJoined_1 (by decide) rfl ?_
  refine g_iconst (v := 0) X dX12_isJoined_3 (by decide) ?_
  refine g_istore X [(5, .int 0), (4, .int 0), (0, .ref 5001), (1, .int a1), (2, .int a2), (3, .int a3)] dX12_isJoined_4 (by decide) rfl ?_
  exact g_sub [2, 3, 4, 5, 1, 0] rfl (hb_6 q_fu a1 a2 a3 0 0)
set_option maxHeartbeats 4000000 in
set_option maxRecDepth 100000 in
theorem c_X12_way (l : Launch) (K : q_KK) (M0 : q_MM) (a1 : Int32) (a2 : Int32) (a3 : Int32) : ∀ res, f_X12_way M0 a1 a2 a3 = some res → Mt l yX12_way cX12_way 7 (some FieldType.int) 2 50 0 0 false K [.ref 5001, .int a1, .int a2, .int a3] (qTM, qLM, qPM, M0) (some (.int res.1)) ((qTM, qLM, qPM, res.2)) := by
  refine Mt.of (fun (res : Int32 × q_MM) => some (.int res.1)) (fun (res : Int32 × q_MM) => (qTM, qLM, qPM, res.2)) (by decide) (Nat.le_of_ble_eq_true rfl) ?_
  intro p e s m args below meth c0 A ad X hN
  have hb_137 : ∀ (k96 : Int32 → Int32 → Int32 → Int32 → Int32 → q_MM → Option (Int32 × q_MM)) (hk96 : ∀ (x1 : Int32) (x3 : Int32) (x4 : Int32) (x5 : Int32) (x6 : Int32) (M : q_MM), GG p l e { frames := 2, cells := 0, slots := 0, locals := 50 } s m args below meth c0 K A (qTM, qLM, qPM, M0) ad false 7 (fun res => MQ below (q_Qc K false ad (qTM, qLM, qPM, M0) ((fun (res : Int32 × q_MM) => some (.int res.1)) res) ((fun (res : Int32 × q_MM) => (qTM, qLM, qPM, res.2)) res) A) args s 0 0 A) (k96 x1 x3 x4 x5 x6 M) 96 [(0, .ref 5001), (1, .int x1), (3, .int x3), (4, .int x4), (5, .int x5), (6, .int x6)] [] (qTM, qLM, qPM, M) 0 0) (x1 : Int32) (x3 : Int32) (x4 : Int32) (x5 : Int32) (x6 : Int32) (M : q_MM), GG p l e { frames := 2, cells := 0, slots := 0, locals := 50 } s m args below meth c0 K A (qTM, qLM, qPM, M0) ad false 7 (fun res => MQ below (q_Qc K false ad (qTM, qLM, qPM, M0) ((fun (res : Int32 × q_MM) => some (.int res.1)) res) ((fun (res : Int32 × q_MM) => (qTM, qLM, qPM, res.2)) res) A) args s 0 0 A) (b_X12_way_137 k96 x1 x3 x4 x5 x6 M) 137 [(0, .ref 5001), (1, .int x1), (3, .int x3), (4, .int x4), (5, .int x5), (6, .int x6)] [] (qTM, qLM, qPM, M) 0 0 := by
    intro k96 hk96 x1 x3 x4 x5 x6 M
    unfold b_X12_way_137
    refine g_iinc (v := 1) X [(6, .int (x6 + 1)), (0, .ref 5001), (1, .int x1), (3, .int x3), (4, .int x4), (5, .int x5)] 5 dX12_way_137 rfl (by decide) (by decide) rfl ?_
    refine g_goto X 96 dX12_way_140 rfl ?_
    exact g_sub [1, 2, 3, 4, 5, 0] rfl (hk96 x1 x3 x4 x5 (x6 + 1) M)
  have hb_96 : ∀ (k87 : Int32 → Int32 → Int32 → Int32 → q_MM → Option (Int32 × q_MM)) (hk87 : ∀ (x1 : Int32) (x3 : Int32) (x4 : Int32) (x5 : Int32) (M : q_MM), GG p l e { frames := 2, cells := 0, slots := 0, locals := 50 } s m args below meth c0 K A (qTM, qLM, qPM, M0) ad false 7 (fun res => MQ below (q_Qc K false ad (qTM, qLM, qPM, M0) ((fun (res : Int32 × q_MM) => some (.int res.1)) res) ((fun (res : Int32 × q_MM) => (qTM, qLM, qPM, res.2)) res) A) args s 0 0 A) (k87 x1 x3 x4 x5 M) 87 [(0, .ref 5001), (1, .int x1), (3, .int x3), (4, .int x4), (5, .int x5)] [] (qTM, qLM, qPM, M) 0 0) (nf : Nat) (x1 : Int32) (x3 : Int32) (x4 : Int32) (x5 : Int32) (x6 : Int32) (M : q_MM), GG p l e { frames := 2, cells := 0, slots := 0, locals := 50 } s m args below meth c0 K A (qTM, qLM, qPM, M0) ad false 7 (fun res => MQ below (q_Qc K false ad (qTM, qLM, qPM, M0) ((fun (res : Int32 × q_MM) => some (.int res.1)) res) ((fun (res : Int32 × q_MM) => (qTM, qLM, qPM, res.2)) res) A) args s 0 0 A) (b_X12_way_96 k87 nf x1 x3 x4 x5 x6 M) 96 [(0, .ref 5001), (1, .int x1), (3, .int x3), (4, .int x4), (5, .int x5), (6, .int x6)] [] (qTM, qLM, qPM, M) 0 0 := by
    intro k87 hk87 nf
    induction nf with
    | zero => intros; exact g_stop
    | succ nf ih =>
      intro x1 x3 x4 x5 x6 M
      rw [b_X12_way_96]
      refine g_aload_n X dX12_way_96 rfl 0 rfl ?_
      refine g_getr X fa_X12_431 rfl rfl dX12_way_97 ?_
      refine g_iload X dX12_way_100 5 rfl ?_
      refine g_bld X rfl rfl dX12_way_102 (fun v1 => ?_)
      refine g_if_ne X 137 dX12_way_103 rfl (fun h2 => ?_) (fun h2 => ?_)
      · refine g_aload_n X dX12_way_106 rfl 0 rfl ?_
        refine g_getr X fa_X12_265 rfl rfl dX12_way_107 ?_
        refine g_iload X dX12_way_110 5 rfl ?_
        refine g_ild X rfl rfl dX12_way_112 (fun v3 => ?_)
        refine g_aload_n X dX12_way_113 rfl 0 rfl ?_
        refine g_getr X fa_X12_265 rfl rfl dX12_way_114 ?_
        refine g_iload X dX12_way_117 4 rfl ?_
        refine g_ild X rfl rfl dX12_way_119 (fun v4 => ?_)
        refine g_iconst (v := 1) X dX12_way_120 (by decide) ?_
        refine g_isub X dX12_way_121 ?_
        refine g_icmp_ne X 137 dX12_way_122 rfl (fun h5 => ?_) (fun h5 => ?_)
        · refine g_aload_n X dX12_way_125 rfl 0 rfl ?_
          refine g_iload_n X dX12_way_126 rfl 1 rfl ?_
          refine g_iload X dX12_way_127 4 rfl ?_
          refine g_iload X dX12_way_129 5 rfl ?_
          refine g_bVi (As := [.int x1, .int x5, .int x6]) (rest := []) X (c_X12_isJoined l K M x1 x5 x6) lk_X12_440 rfl rfl rfl (Nat.le_of_ble_eq_true rfl) ⟨Nat.le_of_ble_eq_true rfl, Nat.le_of_ble_eq_true rfl⟩ ⟨Nat.zero_le _, Nat.zero_le _⟩ dX12_way_131 (fun r6 => ?_)
          refine g_if_ne X 143 dX12_way_134 rfl (fun h7 => ?_) (fun h7 => ?_)
          · exact g_sub [0, 1, 2, 3, 4, 5] rfl (hb_137 (b_X12_way_96 k87 nf) ih x1 x3 x4 x5 x6 M)
          · refine g_aload_n X dX12_way_143 rfl 0 rfl ?_
            refine g_iload X dX12_way_144 5 rfl ?_
            refine g_bVv (As := [.int x6]) (rest := []) X (c_X12_enters l K M x6) lk_X12_345 rfl rfl rfl (Nat.le_of_ble_eq_true rfl) ⟨Nat.le_of_ble_eq_true rfl, Nat.le_of_ble_eq_true rfl⟩ ⟨Nat.zero_le _, Nat.zero_le _⟩ dX12_way_146 (fun r8 => ?_)
            refine g_iload X dX12_way_149 5 rfl ?_
            refine g_istore X [(5, .int x6), (0, .ref 5001), (1, .int x1), (3, .int x3), (4, .int x4), (6, .int x6)] dX12_way_151 (by decide) rfl ?_
            refine g_goto X 87 dX12_way_153 rfl ?_
            exact g_sub [1, 2, 3, 4, 0] rfl (hk87 x1 x3 x4 x6 r8)
        · exact g_sub [0, 1, 2, 3, 4, 5] rfl (hb_137 (b_X12_way_96 k87 nf) ih x1 x3 x4 x5 x6 M)
      · exact g_sub [0, 1, 2, 3, 4, 5] rfl (hb_137 (b_X12_way_96 k87 nf) ih x1 x3 x4 x5 x6 M)
  have hb_87 : ∀ (nf : Nat) (x1 : Int32) (x3 : Int32) (x4 : Int32) (x5 : Int32) (M : q_MM), GG p l e { frames := 2, cells := 0, slots := 0, locals := 50 } s m args below meth c0 K A (qTM, qLM, qPM, M0) ad false 7 (fun res => MQ below (q_Qc K false ad (qTM, qLM, qPM, M0) ((fun (res : Int32 × q_MM) => some (.int res.1)) res) ((fun (res : Int32 × q_MM) => (qTM, qLM, qPM, res.2)) res) A) args s 0 0 A) (b_X12_way_87 nf x1 x3 x4 x5 M) 87 [(0, .ref 5001), (1, .int x1), (3, .int x3), (4, .int x4), (5, .int x5)] [] (qTM, qLM, qPM, M) 0 0 := by
    intro  nf
    induction nf with
    | zero => intros; exact g_stop
    | succ nf ih =>
      intro x1 x3 x4 x5 M
      rw [b_X12_way_87]
      refine g_iload X dX12_way_87 4 rfl ?_
      refine g_iload_n X dX12_way_89 rfl 2 rfl ?_
      refine g_icmp_eq X 156 dX12_way_90 rfl (fun h9 => ?_) (fun h9 => ?_)
      · refine g_iload X dX12_way_156 3 rfl ?_
        exact g_iret X rfl rfl rfl dX12_way_158
      · refine g_iconst (v := 0) X dX12_way_93 (by decide) ?_
        refine g_istore X [(6, .int 0), (0, .ref 5001), (1, .int x1), (3, .int x3), (4, .int x4), (5, .int x5)] dX12_way_94 (by decide) rfl ?_
        exact g_sub [1, 2, 3, 4, 5, 0] rfl (hb_96 (b_X12_way_87 nf) ih q_fu x1 x3 x4 x5 0 M)
  refine g_sub (lv' := [(0, .ref 5001), (1, .int a1), (2, .int a2), (3, .int a3)]) [0, 1, 2, 3] rfl ?_
  unfold f_X12_way
  refine g_aload_n X dX12_way_0 rfl 0 rfl ?_
  refine g_iconst (v := 0) X dX12_way_1 (by decide) ?_
  refine g_pfi X fa_X12_1 rfl (by decide +kernel) rfl dX12_way_2 (fun M10 => ?_)
  refine g_aload_n X dX12_way_5 rfl 0 rfl ?_
  refine g_iload_n X dX12_way_6 rfl 1 rfl ?_
  refine g_bVi (As := [.int a1]) (rest := []) X (c_X12_isPicture l K M10 a1) lk_X12_161 rfl rfl rfl (Nat.le_of_ble_eq_true rfl) ⟨Nat.le_of_ble_eq_true rfl, Nat.le_of_ble_eq_true rfl⟩ ⟨Nat.zero_le _, Nat.zero_le _⟩ dX12_way_7 (fun r11 => ?_)
  refine g_if_eq X 29 dX12_way_10 rfl (fun h12 => ?_) (fun h12 => ?_)
  · refine g_iconst (v := (-1)) X dX12_way_29 (by decide) ?_
    exact g_iret X rfl rfl rfl dX12_way_30
  · refine g_aload_n X dX12_way_13 rfl 0 rfl ?_
    refine g_iload_n X dX12_way_14 rfl 2 rfl ?_
    refine g_bVi (As := [.int a2]) (rest := []) X (c_X12_isRoom l K M10 a2) lk_X12_24 rfl rfl rfl (Nat.le_of_ble_eq_true rfl) ⟨Nat.le_of_ble_eq_true rfl, Nat.le_of_ble_eq_true rfl⟩ ⟨Nat.zero_le _, Nat.zero_le _⟩ dX12_way_15 (fun r13 => ?_)
    refine g_if_eq X 29 dX12_way_18 rfl (fun h14 => ?_) (fun h14 => ?_)
    · refine g_iconst (v := (-1)) X dX12_way_29 (by decide) ?_
      exact g_iret X rfl rfl rfl dX12_way_30
    · refine g_aload_n X dX12_way_21 rfl 0 rfl ?_
      refine g_iload_n X dX12_way_22 rfl 3 rfl ?_
      refine g_bVi (As := [.int a3]) (rest := []) X (c_X12_isRoom l K M10 a3) lk_X12_24 rfl rfl rfl (Nat.le_of_ble_eq_true rfl) ⟨Nat.le_of_ble_eq_true rfl, Nat.le_of_ble_eq_true rfl⟩ ⟨Nat.zero_le _, Nat.zero_le _⟩ dX12_way_23 (fun r15 => ?_)
      refine g_if_ne X 31 dX12_way_26 rfl (fun h16 => ?_) (fun h16 => ?_)
      · refine g_iconst (v := (-1)) X dX12_way_29 (by decide) ?_
        exact g_iret X rfl rfl rfl dX12_way_30
      · refine g_aload_n X dX12_way_31 rfl 0 rfl ?_
        refine g_iload_n X dX12_way_32 rfl 1 rfl ?_
        refine g_iload_n X dX12_way_33 rfl 3 rfl ?_
        refine g_iconst (v := (-1)) X dX12_way_34 (by decide) ?_
        refine g_bVv (As := [.int a1, .int a3, .int (-1)]) (rest := []) X (c_X12_spreads l K M10 a1 a3 (-1)) lk_X12_437 rfl rfl rfl (Nat.le_of_ble_eq_true rfl) ⟨Nat.le_of_ble_eq_true rfl, Nat.le_of_ble_eq_true rfl⟩ ⟨Nat.zero_le _, Nat.zero_le _⟩ dX12_way_35 (fun r17 => ?_)
        refine g_aload_n X dX12_way_38 rfl 0 rfl ?_
        refine g_getr X fa_X12_265 rfl rfl dX12_way_39 ?_
        refine g_iload_n X dX12_way_42 rfl 2 rfl ?_
        refine g_ild X rfl rfl dX12_way_43 (fun v18 => ?_)
        refine g_istore X [(4, .int v18), (0, .ref 5001), (1, .int a1), (2, .int a2), (3, .int a3)] dX12_way_44 (by decide) rfl ?_
        refine g_iload X dX12_way_46 0 rfl ?_
        refine g_bipush (v := 99) X dX12_way_48 (by decide) ?_
        refine g_icmp_ge X 71 dX12_way_50 rfl (fun h19 => ?_) (fun h19 => ?_)
        · refine g_bipush (v := (-2)) X dX12_way_71 (by decide) ?_
          exact g_iret X rfl rfl rfl dX12_way_73
        · refine g_aload_n X dX12_way_53 rfl 1 rfl ?_
          refine g_getr X fa_X12_431 rfl rfl dX12_way_54 ?_
          refine g_iload_n X dX12_way_57 rfl 3 rfl ?_
          refine g_bld X rfl rfl dX12_way_58 (fun v20 => ?_)
          refine g_if_ne X 71 dX12_way_59 rfl (fun h21 => ?_) (fun h21 => ?_)
          · refine g_aload_n X dX12_way_62 rfl 1 rfl ?_
            refine g_getr X fa_X12_431 rfl rfl dX12_way_63 ?_
            refine g_iload_n X dX12_way_66 rfl 4 rfl ?_
            refine g_bld X rfl rfl dX12_way_67 (fun v22 => ?_)
            refine g_if_eq X 74 dX12_way_68 rfl (fun h23 => ?_) (fun h23 => ?_)
            · refine g_aload_n X dX12_way_74 rfl 1 rfl ?_
              refine g_iconst (v := 0) X dX12_way_75 (by decide) ?_
              refine g_pfi X fa_X12_11 rfl (by decide +kernel) rfl dX12_way_76 (fun M24 => ?_)
              refine g_aload_n X dX12_way_79 rfl 1 rfl ?_
              refine g_iload_n X dX12_way_80 rfl 3 rfl ?_
              refine g_bVv (As := [.int a2]) (rest := []) X (c_X12_enters l K M24 a2) lk_X12_345 rfl rfl rfl (Nat.le_of_ble_eq_true rfl) ⟨Nat.le_of_ble_eq_true rfl, Nat.le_of_ble_eq_true rfl⟩ ⟨Nat.zero_le _, Nat.zero_le _⟩ dX12_way_81 (fun r25 => ?_)
              refine g_iload_n X dX12_way_84 rfl 3 rfl ?_
              refine g_istore X [(5, .int a2), (4, .int v18), (0, .ref 5001), (1, .int a1), (2, .int a2), (3, .int a3)] dX12_way_85 (by decide) rfl ?_
              exact g_sub [2, 3, 5, 1, 0] rfl (hb_87 q_fu a1 a3 v18 a2 r25)
            · refine g_bipush (v := (-2)) X dX12_way_71 (by decide) ?_
              exact g_iret X rfl rfl rfl dX12_way_73
          · refine g_bipush (v := (-2)) X dX12_way_71 (by decide) ?_
            exact g_iret X rfl rfl rfl dX12_way_73
