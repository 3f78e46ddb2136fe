/-! level 1: X11_door -/
noncomputable def h_doorB (c : Nat → Nat) (M : q_MM) (a1 a2 a3 a4 : Int32) : Option (Int32 × (Nat → Nat) × q_MM) :=
  q_hy (a_C c ∧ c 0 < 20 ∧ M 13 2 = nI (c 0)) ((f_X2_measure (a_ndc c) (a_ndM c M fun x => [a1, a2, a3, a4].getD x 0) 18 0 0 (-1)).bind fun r => some ((r 13 2) - 1, a_ndc c, r))
theorem h_doorM {c : Nat → Nat} {M : q_MM} {a1 a2 a3 a4 : Int32} (hC : a_C c) : q_ad2 (q_u2 (q_u2 (q_u2 (q_u2 (va_up M (1000 + c 0) (fun _ => 0)) (1000 + c 0) 0 a1) (1000 + c 0) 1 a2) (1000 + c 0) 2 a3) (1000 + c 0) 3 a4) 13 (c 0) = a_ndM c M fun x => [a1, a2, a3, a4].getD x 0 := by
  funext o x
  unfold q_ad2 a_ndM
  by_cases z : o = 1000 + c 0
  · subst z
    rw [q_u2_ne (by omega), q_u2_ne (by omega), if_pos rfl]
    by_cases x3 : x = 3
    · subst x3; rw [q_u2_eq]; rfl
    rw [q_u2_ne (fun q => x3 q.2)]
    by_cases x2 : x = 2
    · subst x2; rw [q_u2_eq]; rfl
    rw [q_u2_ne (fun q => x2 q.2)]
    by_cases x1 : x = 1
    · subst x1; rw [q_u2_eq]; rfl
    rw [q_u2_ne (fun q => x1 q.2)]
    by_cases x0 : x = 0
    · subst x0; rw [q_u2_eq]; rfl
    rw [q_u2_ne (fun q => x0 q.2), va_up_self]
    match x, x0, x1, x2, x3 with
    | x + 4, _, _, _, _ => rfl
  rw [if_neg z]
  have e : ∀ y, (q_u2 (q_u2 (q_u2 (q_u2 (va_up M (1000 + c 0) (fun _ => 0)) (1000 + c 0) 0 a1) (1000 + c 0) 1 a2) (1000 + c 0) 2 a3) (1000 + c 0) 3 a4) o y = M o y := fun y => by
    rw [q_u2_ne (fun q => z q.1), q_u2_ne (fun q => z q.1), q_u2_ne (fun q => z q.1), q_u2_ne (fun q => z q.1), va_up_ne _ _ z]
  by_cases y : o = 13 ∧ x = 2
  · rw [if_pos y, y.1, y.2, q_u2_eq]
  rw [if_neg y, q_u2_ne y]
  by_cases w : o = 13 ∧ x = 0
  · rw [if_pos w]
    obtain ⟨rfl, rfl⟩ := w
    rw [q_u2_eq, e]
  rw [if_neg w, q_u2_ne w, e]
set_option maxHeartbeats 4000000 in
set_option maxRecDepth 100000 in
theorem g_h_doorB {p : Program} {l : Launch} {e : Env} {s : State} {m : MethodId} {args : Array Value} {below : List Frame} {meth : Method} {c0 : Code} {K : q_KK} {A : Nat → Prop} {ad : Nat → Nat} {c : Nat → Nat} {M0 : q_MM} (X : q_X p s m args meth c0 K A ad 6 cX11_door "GalleryWalls" (some FieldType.int)) (hN : meth.name = yX11_door.name) (a1 a2 a3 a4 : Int32) (M : q_MM) : GG p l e { frames := 7, cells := 2, slots := 37, locals := 221 } s m args below meth c0 K A ((qTX c), (qLX c), (qPX c), M0) ad true 6 (fun res => MQ below (q_Qc K true ad ((qTX c), (qLX c), (qPX c), M0) ((fun (res : Int32 × (Nat → Nat) × q_MM) => some (.int res.1)) res) ((fun (res : Int32 × (Nat → Nat) × q_MM) => ((qTX res.2.1), (qLX res.2.1), (qPX res.2.1), res.2.2)) res) A) args s 2 37 A) (h_doorB c M a1 a2 a3 a4) 88 [(0, .ref 1), (1, .int a1), (2, .int a2), (3, .int a3), (4, .int a4)] [.ref 13] ((qTX c), (qLX c), (qPX c), M) 0 0 := by
  refine g_hy (fun hy => ?_)
  obtain ⟨hC, h20, hM⟩ := hy
  refine g_alk q_msk_alk ?_
  have nv := q_msk_no hC (z_fr0 hC) (by omega) (Or.inr (by omega))
  refine g_new X (1000 + c 0) nw_X11_96 rfl (by omega) (by unfold q_st; omega) nv.1 (fun o9 _ k9 => nv.2 o9 k9) (q_nr_lv (show 1 ≠ 1000 + c 0 ∧ True from ⟨by omega, trivial⟩)) (q_nr_st (show 13 ≠ 1000 + c 0 ∧ True from ⟨by omega, trivial⟩)) (Nat.le_of_ble_eq_true rfl) (Nat.le_of_ble_eq_true rfl) dX11_door_88 ?_
  refine g_dup X dX11_door_91 rfl ?_
  refine g_iload_n X dX11_door_92 rfl 1 rfl ?_
  refine g_iload_n X dX11_door_93 rfl 2 rfl ?_
  refine g_iload_n X dX11_door_94 rfl 3 rfl ?_
  refine g_iload X dX11_door_95 4 rfl ?_
  refine g_callI (rv := none) (As := [.int a1, .int a2, .int a3, .int a4]) (rest := [.ref (1000 + c 0), .ref 13]) X (by omega) (c_X0_init l K _ _ _ _ (1000 + c 0) a1 a2 a3 a4 (by omega) (va_up_self _ _ _)) lki_X11_98 rfl rfl (Nat.le_of_ble_eq_true rfl) ⟨Nat.le_of_ble_eq_true rfl, Nat.le_of_ble_eq_true rfl⟩ ⟨Nat.le_of_ble_eq_true rfl, Nat.le_of_ble_eq_true rfl⟩ dX11_door_97 (fun h => by cases h) ?_
  have hM1 : (q_u2 (q_u2 (q_u2 (q_u2 (va_up M (1000 + c 0) (fun _ => 0)) (1000 + c 0) 0 a1) (1000 + c 0) 1 a2) (1000 + c 0) 2 a3) (1000 + c 0) 3 a4) 13 2 = nI (c 0) := by
    rw [q_u2_ne (by omega), q_u2_ne (by omega), q_u2_ne (by omega), q_u2_ne (by omega), va_up_ne _ _ (by omega)]; exact hM
  have t1 : va_up (qTX c) (1000 + c 0) 10 1 = 21 := va_up_ne _ _ (by omega)
  have t13 : va_up (qTX c) (1000 + c 0) 10 13 = 23 := va_up_ne _ _ (by omega)
  obtain ⟨g', hA, hk⟩ := c_addY l K (j := 0) (v := (1000 + c 0)) (v2 := (1000 + c 0)) (ci := 0) (c := c) (c' := a_ndc c) (T := va_up (qTX c) (1000 + c 0) 10) (L := va_up (qLX c) (1000 + c 0) 0) (P := va_up (q_msk c) (1000 + c 0) (fun _ => 0)) (M := (q_u2 (q_u2 (q_u2 (q_u2 (va_up M (1000 + c 0) (fun _ => 0)) (1000 + c 0) 0 a1) (1000 + c 0) 1 a2) (1000 + c 0) 2 a3) (1000 + c 0) 3 a4)) a_nd1 hC (by omega) hM1 rfl (by omega) (va_up_self _ _ _) (fun k hk => t_door hC hk) (t_door (a_ndC hC h20) (show c 0 < c 0 + 1 from Nat.lt_succ_self _)) (show q_classes[0]? = some (RX0, TX0, 4) from rfl) (by decide +kernel) (fun x hx _ => va_up_ne _ _ hx) (fun x hx _ => ⟨va_up_ne _ _ hx, va_up_ne _ _ hx⟩) (Or.inl rfl) (fun k => by rw [va_up_self]; unfold qPX; rw [if_neg (by omega), if_neg (by omega), if_neg (by omega), if_neg (by omega)]) (fun q => by cases q) (fun q => by cases q) (fun x x1 x2 hn => hn.up (by omega) (by omega))
  rw [show q_lo 0 = 13 from rfl, h_doorM hC] at hk
  refine g_callV (rv := some (.int 1)) (As := [.ref (1000 + c 0)]) (rest := []) X hA lk_X11_101 t13 rfl rfl (Nat.le_of_ble_eq_true rfl) ⟨Nat.le_of_ble_eq_true rfl, Nat.le_of_ble_eq_true rfl⟩ ⟨Nat.le_of_ble_eq_true rfl, Nat.le_of_ble_eq_true rfl⟩ dX11_door_100 (fun _ => ⟨rfl, by simp [q_ok, i_X0_init, t1], by simp⟩) ?_
  refine g_alk hk ?_
  refine g_pop X dX11_door_103 rfl ?_
  refine g_aload_n X dX11_door_104 rfl 0 rfl ?_
  refine g_getr X fa_X11_10 rfl rfl dX11_door_105 ?_
  refine g_aload_n X dX11_door_108 rfl 0 rfl ?_
  refine g_getr X fa_X11_10 rfl rfl dX11_door_109 ?_
  refine g_getr X fa_X11_71 rfl rfl dX11_door_112 ?_
  refine g_iconst (v := 0) X dX11_door_115 (by decide) ?_
  refine g_null X dX11_door_116 ?_
  refine g_iconst (v := (-1)) X dX11_door_117 (by decide) ?_
  refine g_bVv (As := [.ref 18, .int 0, .ref 0, .int (-1)]) (rest := []) X (c_X2_measure l K (a_ndc c) _ 18 0 0 (-1)) lk_X11_74 rfl rfl rfl (Nat.le_of_ble_eq_true rfl) ⟨Nat.le_of_ble_eq_true rfl, Nat.le_of_ble_eq_true rfl⟩ ⟨Nat.le_of_ble_eq_true rfl, Nat.le_of_ble_eq_true rfl⟩ dX11_door_118 (fun r => ?_)
  refine g_aload_n X dX11_door_121 rfl 0 rfl ?_
  refine g_getr X fa_X11_10 rfl rfl dX11_door_122 ?_
  refine g_getr X fa_X11_86 rfl rfl dX11_door_125 ?_
  refine g_callV (rv := some (.int (r 13 2))) (As := []) (rest := []) X (c_Jx4a65c_size_8abf5 l K (qTX (a_ndc c)) (qLX (a_ndc c)) (qPX (a_ndc c)) r 13 (r 13 2) rfl) lk_X11_90 rfl rfl rfl (Nat.le_of_ble_eq_true rfl) ⟨Nat.le_of_ble_eq_true rfl, Nat.le_of_ble_eq_true rfl⟩ ⟨Nat.le_of_ble_eq_true rfl, Nat.le_of_ble_eq_true rfl⟩ dX11_door_128 (fun h => by cases h) ?_
  refine g_iconst (v := 1) X dX11_door_131 (by decide) ?_
  refine g_isub X dX11_door_132 ?_
  exact g_iret X rfl rfl rfl dX11_door_133
noncomputable def b_X11_door_57 (c : Nat → Nat) (x1 : Int32) (x2 : Int32) (x3 : Int32) (x4 : Int32) (s0 : Int32) (M : q_MM) : Option (Int32 × (Nat → Nat) × q_MM) :=
  if s0 = 0 then
    some ((-1), c, M)
  else
    (f_Jx4a65c_size_8abf5 (qTX c) (qLX c) (qPX c) M 13).bind fun r2 =>
    if r2 < (20 : Int32) then
      h_doorB c M x1 x2 x3 x4
    else
      some ((-1), c, M)
noncomputable def b_X11_door_56 (c : Nat → Nat) (x1 : Int32) (x2 : Int32) (x3 : Int32) (x4 : Int32) (M : q_MM) : Option (Int32 × (Nat → Nat) × q_MM) :=
  b_X11_door_57 c x1 x2 x3 x4 0 M
noncomputable def f_X11_door (c : Nat → Nat) (M0 : q_MM) (a1 : Int32) (a2 : Int32) (a3 : Int32) (a4 : Int32) : Option (Int32 × (Nat → Nat) × q_MM) :=
  (f_X2_hasRoom c M0 a1).bind fun r4 =>
  if r4 = 0 then
    b_X11_door_56 c a1 a2 a3 a4 M0
  else
    (f_X2_hasRoom c M0 a2).bind fun r6 =>
    if r6 = 0 then
      b_X11_door_56 c a1 a2 a3 a4 M0
    else
      if a1 = a2 then
        b_X11_door_56 c a1 a2 a3 a4 M0
      else
        (f_X11_within c M0 a3 50 400).bind fun r9 =>
        if r9 = 0 then
          b_X11_door_56 c a1 a2 a3 a4 M0
        else
          (f_X11_within c M0 a4 100 600).bind fun r11 =>
          if r11 = 0 then
            b_X11_door_56 c a1 a2 a3 a4 M0
          else
            b_X11_door_57 c a1 a2 a3 a4 1 M0
set_option maxHeartbeats 4000000 in
set_option maxRecDepth 100000 in
theorem c_X11_door (l : Launch) (K : q_KK) (c : Nat → Nat) (M0 : q_MM) (a1 : Int32) (a2 : Int32) (a3 : Int32) (a4 : Int32) : ∀ res, f_X11_door c M0 a1 a2 a3 a4 = some res → Mt l yX11_door cX11_door 6 (some FieldType.int) 7 221 2 37 true K [.ref 1, .int a1, .int a2, .int a3, .int a4] ((qTX c), (qLX c), (qPX c), M0) (some (.int res.1)) (((qTX res.2.1), (qLX res.2.1), (qPX res.2.1), res.2.2)) := by
  refine Mt.of (fun (res : Int32 × (Nat → Nat) × q_MM) => some (.int res.1)) (fun (res : Int32 × (Nat → Nat) × q_MM) => ((qTX res.2.1), (qLX res.2.1), (qPX res.2.1), res.2.2)) (by decide) (Nat.le_of_ble_eq_true rfl) ?_
  intro p e s m args below meth c0 A ad X hN
  have hb_57 : ∀ (x1 : Int32) (x2 : Int32) (x3 : Int32) (x4 : Int32) (s0 : Int32) (M : q_MM), GG p l e { frames := 7, cells := 2, slots := 37, locals := 221 } s m args below meth c0 K A ((qTX c), (qLX c), (qPX c), M0) ad true 6 (fun res => MQ below (q_Qc K true ad ((qTX c), (qLX c), (qPX c), M0) ((fun (res : Int32 × (Nat → Nat) × q_MM) => some (.int res.1)) res) ((fun (res : Int32 × (Nat → Nat) × q_MM) => ((qTX res.2.1), (qLX res.2.1), (qPX res.2.1), res.2.2)) res) A) args s 2 37 A) (b_X11_door_57 c x1 x2 x3 x4 s0 M) 57 [(0, .ref 1), (1, .int x1), (2, .int x2), (3, .int x3), (4, .int x4)] [.int s0] ((qTX c), (qLX c), (qPX c), M) 0 0 := by
    intro x1 x2 x3 x4 s0 M
    unfold b_X11_door_57
    refine g_istore X [(5, .int s0), (0, .ref 1), (1, .int x1), (2, .int x2), (3, .int x3), (4, .int x4)] dX11_door_57 (by decide) rfl ?_
    refine g_iload X dX11_door_59 0 rfl ?_
    refine g_if_eq X 79 dX11_door_61 rfl (fun h1 => ?_) (fun h1 => ?_)
    · refine g_iconst (v := (-1)) X dX11_door_79 (by decide) ?_
      exact g_widen (Nat.zero_le _) (Nat.zero_le _) (g_iret X rfl rfl rfl dX11_door_80)
    · refine g_aload_n X dX11_door_64 rfl 1 rfl ?_
      refine g_getr X fa_X11_10 rfl rfl dX11_door_65 ?_
      refine g_getr X fa_X11_86 rfl rfl dX11_door_68 ?_
      refine g_bVi (As := []) (rest := []) X (c_Jx4a65c_size_8abf5 l K (qTX c) (qLX c) (qPX c) M 13) lk_X11_90 rfl rfl rfl (Nat.le_of_ble_eq_true rfl) ⟨Nat.le_of_ble_eq_true rfl, Nat.le_of_ble_eq_true rfl⟩ ⟨Nat.zero_le _, Nat.zero_le _⟩ dX11_door_71 (fun r2 => ?_)
      refine g_bipush (v := 20) X dX11_door_74 (by decide) ?_
      refine g_icmp_lt X 81 dX11_door_76 rfl (fun h3 => ?_) (fun h3 => ?_)
      · refine g_aload_n X dX11_door_81 rfl 1 rfl ?_
        refine g_getr X fa_X11_10 rfl rfl dX11_door_82 ?_
        refine g_getr X fa_X11_86 rfl rfl dX11_door_85 ?_
        exact g_sub [1, 2, 3, 4, 5] rfl (g_h_doorB X hN x1 x2 x3 x4 M)
      · refine g_iconst (v := (-1)) X dX11_door_79 (by decide) ?_
        exact g_widen (Nat.zero_le _) (Nat.zero_le _) (g_iret X rfl rfl rfl dX11_door_80)
  have hb_56 : ∀ (x1 : Int32) (x2 : Int32) (x3 : Int32) (x4 : Int32) (M : q_MM), GG p l e { frames := 7, cells := 2, slots := 37, locals := 221 } s m args below meth c0 K A ((qTX c), (qLX c), (qPX c), M0) ad true 6 (fun res => MQ below (q_Qc K true ad ((qTX c), (qLX c), (qPX c), M0) ((fun (res : Int32 × (Nat → Nat) × q_MM) => some (.int res.1)) res) ((fun (res : Int32 × (Nat → Nat) × q_MM) => ((qTX res.2.1), (qLX res.2.1), (qPX res.2.1), res.2.2)) res) A) args s 2 37 A) (b_X11_door_56 c x1 x2 x3 x4 M) 56 [(0, .ref 1), (1, .int x1), (2, .int x2), (3, .int x3), (4, .int x4)] [] ((qTX c), (qLX c), (qPX c), M) 0 0 := by
    intro x1 x2 x3 x4 M
    unfold b_X11_door_56
    refine g_iconst (v := 0) X dX11_door_56 (by decide) ?_
    exact g_sub [0, 1, 2, 3, 4] rfl (hb_57 x1 x2 x3 x4 0 M)
  refine g_sub (lv' := [(0, .ref 1), (1, .int a1), (2, .int a2), (3, .int a3), (4, .int a4)]) [0, 1, 2, 3, 4] rfl ?_
  unfold f_X11_door
  refine g_aload_n X dX11_door_0 rfl 0 rfl ?_
  refine g_getr X fa_X11_10 rfl rfl dX11_door_1 ?_
  refine g_iload_n X dX11_door_4 rfl 1 rfl ?_
  refine g_bVi (As := [.int a1]) (rest := []) X (c_X2_hasRoom l K c M0 a1) lk_X11_78 rfl rfl rfl (Nat.le_of_ble_eq_true rfl) ⟨Nat.le_of_ble_eq_true rfl, Nat.le_of_ble_eq_true rfl⟩ ⟨Nat.zero_le _, Nat.zero_le _⟩ dX11_door_5 (fun r4 => ?_)
  refine g_if_eq X 56 dX11_door_8 rfl (fun h5 => ?_) (fun h5 => ?_)
  · exact g_sub [0, 1, 2, 3, 4] rfl (hb_56 a1 a2 a3 a4 M0)
  · refine g_aload_n X dX11_door_11 rfl 0 rfl ?_
    refine g_getr X fa_X11_10 rfl rfl dX11_door_12 ?_
    refine g_iload_n X dX11_door_15 rfl 2 rfl ?_
    refine g_bVi (As := [.int a2]) (rest := []) X (c_X2_hasRoom l K c M0 a2) lk_X11_78 rfl rfl rfl (Nat.le_of_ble_eq_true rfl) ⟨Nat.le_of_ble_eq_true rfl, Nat.le_of_ble_eq_true rfl⟩ ⟨Nat.zero_le _, Nat.zero_le _⟩ dX11_door_16 (fun r6 => ?_)
    refine g_if_eq X 56 dX11_door_19 rfl (fun h7 => ?_) (fun h7 => ?_)
    · exact g_sub [0, 1, 2, 3, 4] rfl (hb_56 a1 a2 a3 a4 M0)
    · refine g_iload_n X dX11_door_22 rfl 1 rfl ?_
      refine g_iload_n X dX11_door_23 rfl 2 rfl ?_
      refine g_icmp_eq X 56 dX11_door_24 rfl (fun h8 => ?_) (fun h8 => ?_)
      · exact g_sub [0, 1, 2, 3, 4] rfl (hb_56 a1 a2 a3 a4 M0)
      · refine g_iload_n X dX11_door_27 rfl 3 rfl ?_
        refine g_bipush (v := 50) X dX11_door_28 (by decide) ?_
        refine g_sipush (v := 400) X dX11_door_30 (by decide) ?_
        refine g_bSi (As := [.int a3, .int 50, .int 400]) (rest := []) X (c_X11_within l K c M0 a3 50 400) lk_X11_82 rfl rfl (Nat.le_of_ble_eq_true rfl) ⟨Nat.le_of_ble_eq_true rfl, Nat.le_of_ble_eq_true rfl⟩ ⟨Nat.zero_le _, Nat.zero_le _⟩ dX11_door_33 (fun r9 => ?_)
        refine g_if_eq X 56 dX11_door_36 rfl (fun h10 => ?_) (fun h10 => ?_)
        · exact g_sub [0, 1, 2, 3, 4] rfl (hb_56 a1 a2 a3 a4 M0)
        · refine g_iload X dX11_door_39 4 rfl ?_
          refine g_bipush (v := 100) X dX11_door_41 (by decide) ?_
          refine g_sipush (v := 600) X dX11_door_43 (by decide) ?_
          refine g_bSi (As := [.int a4, .int 100, .int 600]) (rest := []) X (c_X11_within l K c M0 a4 100 600) lk_X11_82 rfl rfl (Nat.le_of_ble_eq_true rfl) ⟨Nat.le_of_ble_eq_true rfl, Nat.le_of_ble_eq_true rfl⟩ ⟨Nat.zero_le _, Nat.zero_le _⟩ dX11_door_46 (fun r11 => ?_)
          refine g_if_eq X 56 dX11_door_49 rfl (fun h12 => ?_) (fun h12 => ?_)
          · exact g_sub [0, 1, 2, 3, 4] rfl (hb_56 a1 a2 a3 a4 M0)
          · refine g_iconst (v := 1) X dX11_door_52 (by decide) ?_
            refine g_goto X 57 dX11_door_53 rfl ?_
            exact g_sub [0, 1, 2, 3, 4] rfl (hb_57 a1 a2 a3 a4 1 M0)
