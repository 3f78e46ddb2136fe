/-! level 1: X11_wall -/
noncomputable def h_wallB (c : Nat → Nat) (M : q_MM) (a1 a2 a3 a4 : Int32) : Option (Int32 × (Nat → Nat) × q_MM) :=
  q_hy (a_C c ∧ c 1 < 16 ∧ M 14 2 = nI (c 1)) (some (nI (c 1), a_nwc c, a_nwM c M fun x => [nI (c 1), a1, a2, a3, a4, 0, 1, 0, (1 : Int32) <<< (a1 &&& 31)].getD x 0))
set_option maxHeartbeats 1000000 in
theorem h_wallM {c : Nat → Nat} {M : q_MM} {a1 a2 a3 a4 : Int32} (hC : a_C c) : q_ad2 (q_u2 (q_u2 (q_u2 (q_u2 (q_u2 (q_u2 (q_u2 (q_u2 (va_up (va_up M (1100 + c 1) (fun _ => 0)) (1100 + c 1 + 100) (fun _ => 0)) (1100 + c 1) 6 1) (1100 + c 1) 7 0) (1100 + c 1) 0 (nI (c 1))) (1100 + c 1) 1 a1) (1100 + c 1) 8 ((1 : Int32) <<< (a1 &&& 31))) (1100 + c 1) 2 a2) (1100 + c 1) 3 a3) (1100 + c 1) 4 a4) 14 (c 1) = a_nwM c M fun x => [nI (c 1), a1, a2, a3, a4, 0, 1, 0, (1 : Int32) <<< (a1 &&& 31)].getD x 0 := by
  obtain ⟨b0, b1, b2, b3⟩ := hC
  funext o x
  unfold q_ad2 a_nwM
  by_cases z : o = 1100 + c 1
  · subst z
    rw [q_u2_ne (by omega), q_u2_ne (by omega), if_pos rfl]
    by_cases x4 : x = 4
    · subst x4; rw [q_u2_eq]; rfl
    rw [q_u2_ne (fun q => x4 q.2)]
    by_cases x3 : x = 3
    · subst x3; rw [q_u2_eq]; rfl
    rw [q_u2_ne (fun q => x3 q.2)]
    by_cases x2 : x = 2
    · subst x2; rw [q_u2_eq]; rfl
    rw [q_u2_ne (fun q => x2 q.2)]
    by_cases x8 : x = 8
    · subst x8; rw [q_u2_eq]; rfl
    rw [q_u2_ne (fun q => x8 q.2)]
    by_cases x1 : x = 1
    · subst x1; rw [q_u2_eq]; rfl
    rw [q_u2_ne (fun q => x1 q.2)]
    by_cases x0 : x = 0
    · subst x0; rw [q_u2_eq]; rfl
    rw [q_u2_ne (fun q => x0 q.2)]
    by_cases x7 : x = 7
    · subst x7; rw [q_u2_eq]; rfl
    rw [q_u2_ne (fun q => x7 q.2)]
    by_cases x6 : x = 6
    · subst x6; rw [q_u2_eq]; rfl
    rw [q_u2_ne (fun q => x6 q.2)]
    rw [va_up_ne _ _ (by omega), va_up_self]
    match x, x0, x1, x2, x3, x4, x6, x7, x8 with
    | 5, _, _, _, _, _, _, _, _ => rfl
    | x + 9, _, _, _, _, _, _, _, _ => rfl
  rw [if_neg z]
  have e : ∀ y, (q_u2 (q_u2 (q_u2 (q_u2 (q_u2 (q_u2 (q_u2 (q_u2 (va_up (va_up M (1100 + c 1) (fun _ => 0)) (1100 + c 1 + 100) (fun _ => 0)) (1100 + c 1) 6 1) (1100 + c 1) 7 0) (1100 + c 1) 0 (nI (c 1))) (1100 + c 1) 1 a1) (1100 + c 1) 8 ((1 : Int32) <<< (a1 &&& 31))) (1100 + c 1) 2 a2) (1100 + c 1) 3 a3) (1100 + c 1) 4 a4) o y = va_up (va_up M (1100 + c 1) (fun _ => 0)) (1100 + c 1 + 100) (fun _ => 0) o y := fun y => by
    rw [q_u2_ne (fun q => z q.1), q_u2_ne (fun q => z q.1), q_u2_ne (fun q => z q.1), q_u2_ne (fun q => z q.1), q_u2_ne (fun q => z q.1), q_u2_ne (fun q => z q.1), q_u2_ne (fun q => z q.1), q_u2_ne (fun q => z q.1)]
  by_cases z2 : o = 1200 + c 1
  · rw [if_pos z2, q_u2_ne (by omega), q_u2_ne (by omega), e, z2, show 1200 + c 1 = 1100 + c 1 + 100 by omega, va_up_self]
  rw [if_neg z2]
  have e : ∀ y, (q_u2 (q_u2 (q_u2 (q_u2 (q_u2 (q_u2 (q_u2 (q_u2 (va_up (va_up M (1100 + c 1) (fun _ => 0)) (1100 + c 1 + 100) (fun _ => 0)) (1100 + c 1) 6 1) (1100 + c 1) 7 0) (1100 + c 1) 0 (nI (c 1))) (1100 + c 1) 1 a1) (1100 + c 1) 8 ((1 : Int32) <<< (a1 &&& 31))) (1100 + c 1) 2 a2) (1100 + c 1) 3 a3) (1100 + c 1) 4 a4) o y = M o y := fun y => by
    rw [e, va_up_ne _ _ (by omega), va_up_ne _ _ z]
  by_cases y : o = 14 ∧ x = 2
  · rw [if_pos y, y.1, y.2, q_u2_eq]
  rw [if_neg y, q_u2_ne y]
  by_cases w : o = 14 ∧ x = 0
  · rw [if_pos w]
    obtain ⟨rfl, rfl⟩ := w
    rw [q_u2_eq, e]
  rw [if_neg w, q_u2_ne w, e]
theorem h_wallP {c : Nat → Nat} (hC : a_C c) {k : Nat} : qPX (a_nwc c) (1100 + c 1) k = (q_p2 (va_up (va_up (q_msk c) (1100 + c 1) (fun _ => 0)) (1100 + c 1 + 100) (fun _ => 0)) (1100 + c 1) 5 (1100 + c 1 + 100)) (1100 + c 1) k := by
  obtain ⟨b0, b1, b2, b3⟩ := hC
  unfold q_p2
  rw [if_pos rfl]
  show _ = if k = 5 then 1100 + c 1 + 100 else va_up (va_up (q_msk c) (1100 + c 1) (fun _ => 0)) (1100 + c 1 + 100) (fun _ => 0) (1100 + c 1) k
  rw [va_up_ne _ _ (by omega), va_up_self]
  unfold qPX
  rw [if_neg (by omega), if_neg (by omega)]
  by_cases z : k = 5
  · rw [if_pos ⟨by omega, by omega, z⟩, if_pos z]
  · rw [if_neg (fun q => z q.2.2), if_neg z, if_neg (by omega)]
set_option maxHeartbeats 4000000 in
set_option maxRecDepth 100000 in
theorem g_h_wallB {p : Program} {l : Launch} {e : Env} {s : State} {m : MethodId} {args : Array Value} {below : List Frame} {meth : Method} {c0 : Code} {K : q_KK} {A : Nat → Prop} {ad : Nat → Nat} {c : Nat → Nat} {M0 : q_MM} (X : q_X p s m args meth c0 K A ad 7 cX11_wall "GalleryWalls" (some FieldType.int)) (hN : meth.name = yX11_wall.name) (a1 a2 a3 a4 : Int32) (M : q_MM) : GG p l e { frames := 7, cells := 3, slots := 66, locals := 221 } s m args below meth c0 K A ((qTX c), (qLX c), (qPX c), M0) ad true 7 (fun res => MQ below (q_Qc K true ad ((qTX c), (qLX c), (qPX c), M0) ((fun (res : Int32 × (Nat → Nat) × q_MM) => some (.int res.1)) res) ((fun (res : Int32 × (Nat → Nat) × q_MM) => ((qTX res.2.1), (qLX res.2.1), (qPX res.2.1), res.2.2)) res) A) args s 3 66 A) (h_wallB c M a1 a2 a3 a4) 76 [(0, .ref 1), (1, .int a1), (2, .int a2), (3, .int a3), (4, .int a4)] [] ((qTX c), (qLX c), (qPX c), M) 0 0 := by
  refine g_hy (fun hy => ?_)
  obtain ⟨hC, h16, hM⟩ := hy
  refine g_alk q_msk_alk ?_
  have nv := q_msk_no hC (z_fr1 hC) (by omega) (Or.inr (by omega))
  have nl := (q_msk_no hC (z_frl hC) (by omega) (Or.inr (by omega))).up (a := (1100 + c 1)) (t := 20) (by have := hC.2.1; omega) (by omega)
  rw [show 1200 + c 1 = 1100 + c 1 + 100 by omega] at nl
  refine g_new X (1100 + c 1) nw_X11_108 rfl (by omega) (by unfold q_st; omega) nv.1 (fun o9 _ k9 => nv.2 o9 k9) (q_nr_lv (show 1 ≠ 1100 + c 1 ∧ True from ⟨by omega, trivial⟩)) (q_nr_st (show True from trivial)) (Nat.le_of_ble_eq_true rfl) (Nat.le_of_ble_eq_true rfl) dX11_wall_76 ?_
  have t1 : (va_up (qTX c) (1100 + c 1) 20) 1 = 21 := va_up_ne _ _ (by omega)
  have t2 : (va_up (qTX c) (1100 + c 1) 20) 2 = 12 := va_up_ne _ _ (by omega)
  have t14 : (va_up (qTX c) (1100 + c 1) 20) 14 = 23 := va_up_ne _ _ (by omega)
  have p1 : (va_up (q_msk c) (1100 + c 1) (fun _ => 0)) 1 0 = 2 := by rw [va_up_ne _ _ (by omega)]; rfl
  have p14 : (va_up (q_msk c) (1100 + c 1) (fun _ => 0)) 2 1 = 14 := by rw [va_up_ne _ _ (by omega)]; rfl
  have m14 : (va_up M (1100 + c 1) (fun _ => 0)) 14 2 = nI (c 1) := by rw [va_up_ne _ _ (by omega)]; exact hM
  refine g_dup X dX11_wall_79 rfl ?_
  refine g_aload_n X dX11_wall_80 rfl 0 rfl ?_
  refine g_getr X fa_X11_10 t1 p1 dX11_wall_81 ?_
  refine g_getr X fa_X11_105 t2 p14 dX11_wall_84 ?_
  refine g_callV (rv := some (.int (nI (c 1)))) (As := []) (rest := [.ref (1100 + c 1), .ref (1100 + c 1)]) X (c_Jx4a65c_size_8abf5 l K _ _ _ _ 14 (nI (c 1)) (by unfold f_Jx4a65c_size_8abf5 q_ck; rw [if_pos t14, m14])) lk_X11_90 t14 rfl rfl (Nat.le_of_ble_eq_true rfl) ⟨Nat.le_of_ble_eq_true rfl, Nat.le_of_ble_eq_true rfl⟩ ⟨Nat.le_of_ble_eq_true rfl, Nat.le_of_ble_eq_true rfl⟩ dX11_wall_87 (fun h => by cases h) ?_
  refine g_iload_n X dX11_wall_90 rfl 1 rfl ?_
  have tv : (va_up (qTX c) (1100 + c 1) 20) (1100 + c 1) = 20 := va_up_self _ _ _
  refine g_callI (rv := none) (As := [.int (nI (c 1)), .int a1]) (rest := [.ref (1100 + c 1)]) X (by omega) (c_X10_init l K _ _ _ _ (1100 + c 1) (nI (c 1)) a1 (by omega) tv (by omega) (by unfold q_st; omega) nl (by omega)) lki_X11_110 rfl rfl (Nat.le_of_ble_eq_true rfl) ⟨Nat.le_of_ble_eq_true rfl, Nat.le_of_ble_eq_true rfl⟩ ⟨Nat.le_of_ble_eq_true rfl, Nat.le_of_ble_eq_true rfl⟩ dX11_wall_91 (fun _ => ⟨rfl, by simp [q_ok, t1], by simp [q_ok, tv]⟩) ?_
  have tv1 : (va_up (va_up (qTX c) (1100 + c 1) 20) (1100 + c 1 + 100) 1) (1100 + c 1) = 20 := by rw [va_up_ne _ _ (by omega)]; exact tv
  refine g_astore X [(6, .ref (1100 + c 1)), (0, .ref 1), (1, .int a1), (2, .int a2), (3, .int a3), (4, .int a4)] dX11_wall_94 (by decide) rfl ?_
  refine g_aload X dX11_wall_96 0 rfl ?_
  refine g_iload_n X dX11_wall_98 rfl 3 rfl ?_
  refine g_puti X fa_X11_113 (by decide +kernel) tv1 (fun ty _ h => by cases (show parseFieldDescriptor (q_dsc 10 2) = some .int by decide +kernel).symm.trans h; exact ⟨rfl, rfl⟩) dX11_wall_99 ?_
  refine g_aload X dX11_wall_102 0 rfl ?_
  refine g_iload_n X dX11_wall_104 rfl 4 rfl ?_
  refine g_puti X fa_X11_116 (by decide +kernel) tv1 (fun ty _ h => by cases (show parseFieldDescriptor (q_dsc 10 3) = some .int by decide +kernel).symm.trans h; exact ⟨rfl, rfl⟩) dX11_wall_105 ?_
  refine g_aload X dX11_wall_108 0 rfl ?_
  refine g_iload X dX11_wall_110 5 rfl ?_
  refine g_puti X fa_X11_119 (by decide +kernel) tv1 (fun ty _ h => by cases (show parseFieldDescriptor (q_dsc 10 4) = some .int by decide +kernel).symm.trans h; exact ⟨rfl, rfl⟩) dX11_wall_112 ?_
  have hM1 : (q_u2 (q_u2 (q_u2 (q_u2 (q_u2 (q_u2 (q_u2 (q_u2 (va_up (va_up M (1100 + c 1) (fun _ => 0)) (1100 + c 1 + 100) (fun _ => 0)) (1100 + c 1) 6 1) (1100 + c 1) 7 0) (1100 + c 1) 0 (nI (c 1))) (1100 + c 1) 1 a1) (1100 + c 1) 8 ((1 : Int32) <<< (a1 &&& 31))) (1100 + c 1) 2 a2) (1100 + c 1) 3 a3) (1100 + c 1) 4 a4) 14 2 = nI (c 1) := by
    rw [q_u2_ne (by omega), q_u2_ne (by omega), q_u2_ne (by omega), q_u2_ne (by omega), q_u2_ne (by omega), q_u2_ne (by omega), q_u2_ne (by omega), q_u2_ne (by omega), va_up_ne _ _ (by omega), va_up_ne _ _ (by omega)]; exact hM
  have u1 : (va_up (va_up (qTX c) (1100 + c 1) 20) (1100 + c 1 + 100) 1) 1 = 21 := by rw [va_up_ne _ _ (by omega)]; exact t1
  have u2 : (va_up (va_up (qTX c) (1100 + c 1) 20) (1100 + c 1 + 100) 1) 2 = 12 := by rw [va_up_ne _ _ (by omega)]; exact t2
  have u14 : (va_up (va_up (qTX c) (1100 + c 1) 20) (1100 + c 1 + 100) 1) 14 = 23 := by rw [va_up_ne _ _ (by omega)]; exact t14
  have q1 : (q_p2 (va_up (va_up (q_msk c) (1100 + c 1) (fun _ => 0)) (1100 + c 1 + 100) (fun _ => 0)) (1100 + c 1) 5 (1100 + c 1 + 100)) 1 0 = 2 := by rw [q_p2n (by omega), va_up_ne _ _ (by omega)]; exact p1
  have q14 : (q_p2 (va_up (va_up (q_msk c) (1100 + c 1) (fun _ => 0)) (1100 + c 1 + 100) (fun _ => 0)) (1100 + c 1) 5 (1100 + c 1 + 100)) 2 1 = 14 := by rw [q_p2n (by omega), va_up_ne _ _ (by omega)]; exact p14
  obtain ⟨g', hA, hk⟩ := c_addY l K (j := 1) (v := (1100 + c 1)) (v2 := (1100 + c 1 + 100)) (ci := 10) (c := c) (c' := a_nwc c) (T := (va_up (va_up (qTX c) (1100 + c 1) 20) (1100 + c 1 + 100) 1)) (L := (va_up (va_up (qLX c) (1100 + c 1) 0) (1100 + c 1 + 100) 24)) (P := (q_p2 (va_up (va_up (q_msk c) (1100 + c 1) (fun _ => 0)) (1100 + c 1 + 100) (fun _ => 0)) (1100 + c 1) 5 (1100 + c 1 + 100))) (M := (q_u2 (q_u2 (q_u2 (q_u2 (q_u2 (q_u2 (q_u2 (q_u2 (va_up (va_up M (1100 + c 1) (fun _ => 0)) (1100 + c 1 + 100) (fun _ => 0)) (1100 + c 1) 6 1) (1100 + c 1) 7 0) (1100 + c 1) 0 (nI (c 1))) (1100 + c 1) 1 a1) (1100 + c 1) 8 ((1 : Int32) <<< (a1 &&& 31))) (1100 + c 1) 2 a2) (1100 + c 1) 3 a3) (1100 + c 1) 4 a4)) a_nw1 hC (by omega) hM1 rfl (by omega) tv1 (fun k hk => t_wall hC hk) (t_wall (a_nwC hC h16) (show c 1 < c 1 + 1 from Nat.lt_succ_self _)) (show q_classes[10]? = some (RX10, TX10, 9) from rfl) (by decide +kernel) (fun x x1 x2 => by rw [va_up_ne _ _ x2, va_up_ne _ _ x1]) (fun x x1 x2 => ⟨by rw [va_up_ne _ _ x2, va_up_ne _ _ x1], by rw [q_p2n x1, va_up_ne _ _ x2, va_up_ne _ _ x1]⟩) (Or.inr ⟨va_up_self _ _ _, by rw [show 1100 + c 1 + 100 = 1200 + c 1 by omega]; exact t_light (a_nwC hC h16) (show c 1 < c 1 + 1 from Nat.lt_succ_self _), by rw [va_up_self]; unfold qLX; rw [if_neg (by omega), if_neg (by omega), if_pos (by have := hC.2.1; omega)]⟩) (fun k => h_wallP hC) (fun _ => by omega) (fun q => by cases q) (fun x x1 x2 hn => ((hn.up (by omega) (by omega)).up (by omega) (by omega)).p2 (by omega))
  rw [show q_lo 1 = 14 from rfl, h_wallM hC] at hk
  refine g_aload_n X dX11_wall_115 rfl 1 rfl ?_
  refine g_getr X fa_X11_10 u1 q1 dX11_wall_116 ?_
  refine g_getr X fa_X11_105 u2 q14 dX11_wall_119 ?_
  refine g_aload X dX11_wall_122 0 rfl ?_
  refine g_callV (rv := some (.int 1)) (As := [.ref (1100 + c 1)]) (rest := []) X hA lk_X11_101 u14 rfl rfl (Nat.le_of_ble_eq_true rfl) ⟨Nat.le_of_ble_eq_true rfl, Nat.le_of_ble_eq_true rfl⟩ ⟨Nat.le_of_ble_eq_true rfl, Nat.le_of_ble_eq_true rfl⟩ dX11_wall_124 (fun _ => ⟨rfl, by simp [q_ok, i_X10_init, u1, tv1], by simp⟩) ?_
  refine g_alk hk ?_
  refine g_pop X dX11_wall_127 rfl ?_
  refine g_aload X dX11_wall_128 0 rfl ?_
  refine g_geti X fa_X11_122 (t_wall (a_nwC hC h16) (show c 1 < c 1 + 1 from Nat.lt_succ_self _)) dX11_wall_130 ?_
  have en : a_nwM c M (fun x => [nI (c 1), a1, a2, a3, a4, 0, 1, 0, (1 : Int32) <<< (a1 &&& 31)].getD x 0) (1100 + c 1) 0 = nI (c 1) := by
    unfold a_nwM
    rw [if_pos rfl]
    rfl
  refine g_iret X rfl (congrArg (fun z => some (Value.int z)) en.symm) rfl dX11_wall_133
noncomputable def b_X11_wall_52 (c : Nat → Nat) (x1 : Int32) (x2 : Int32) (x3 : Int32) (x4 : Int32) (s0 : Int32) (M : q_MM) : Option (Int32 × (Nat → Nat) × q_MM) :=
  if s0 = 0 then
    some ((-1), c, M)
  else
    (f_Jx4a65c_size_8abf5 (qTX c) (qLX c) (qPX c) M 14).bind fun r2 =>
    if r2 < (16 : Int32) then
      h_wallB c M x1 x2 x3 x4
    else
      some ((-1), c, M)
noncomputable def b_X11_wall_51 (c : Nat → Nat) (x1 : Int32) (x2 : Int32) (x3 : Int32) (x4 : Int32) (M : q_MM) : Option (Int32 × (Nat → Nat) × q_MM) :=
  b_X11_wall_52 c x1 x2 x3 x4 0 M
noncomputable def f_X11_wall (c : Nat → Nat) (M0 : q_MM) (a1 : Int32) (a2 : Int32) (a3 : Int32) (a4 : Int32) : Option (Int32 × (Nat → Nat) × q_MM) :=
  (f_X2_hasRoom c M0 a1).bind fun r4 =>
  if r4 = 0 then
    b_X11_wall_51 c a1 a2 a3 a4 M0
  else
    (f_X11_within c M0 a2 50 3000).bind fun r6 =>
    if r6 = 0 then
      b_X11_wall_51 c a1 a2 a3 a4 M0
    else
      (f_X11_within c M0 a3 100 900).bind fun r8 =>
      if r8 = 0 then
        b_X11_wall_51 c a1 a2 a3 a4 M0
      else
        (f_X11_within c M0 a4 1 9999).bind fun r10 =>
        if r10 = 0 then
          b_X11_wall_51 c a1 a2 a3 a4 M0
        else
          b_X11_wall_52 c a1 a2 a3 a4 1 M0
set_option maxHeartbeats 4000000 in
set_option maxRecDepth 100000 in
theorem c_X11_wall (l : Launch) (K : q_KK) (c : Nat → Nat) (M0 : q_MM) (a1 : Int32) (a2 : Int32) (a3 : Int32) (a4 : Int32) : ∀ res, f_X11_wall c M0 a1 a2 a3 a4 = some res → Mt l yX11_wall cX11_wall 7 (some FieldType.int) 7 221 3 66 true K [.ref 1, .int a1, .int a2, .int a3, .int a4] ((qTX c), (qLX c), (qPX c), M0) (some (.int res.1)) (((qTX res.2.1), (qLX res.2.1), (qPX res.2.1), res.2.2)) := by
  refine Mt.of (fun (res : Int32 × (Nat → Nat) × q_MM) => some (.int res.1)) (fun (res : Int32 × (Nat → Nat) × q_MM) => ((qTX res.2.1), (qLX res.2.1), (qPX res.2.1), res.2.2)) (by decide) (Nat.le_of_ble_eq_true rfl) ?_
  intro p e s m args below meth c0 A ad X hN
  have hb_52 : ∀ (x1 : Int32) (x2 : Int32) (x3 : Int32) (x4 : Int32) (s0 : Int32) (M : q_MM), GG p l e { frames := 7, cells := 3, slots := 66, locals := 221 } s m args below meth c0 K A ((qTX c), (qLX c), (qPX c), M0) ad true 7 (fun res => MQ below (q_Qc K true ad ((qTX c), (qLX c), (qPX c), M0) ((fun (res : Int32 × (Nat → Nat) × q_MM) => some (.int res.1)) res) ((fun (res : Int32 × (Nat → Nat) × q_MM) => ((qTX res.2.1), (qLX res.2.1), (qPX res.2.1), res.2.2)) res) A) args s 3 66 A) (b_X11_wall_52 c x1 x2 x3 x4 s0 M) 52 [(0, .ref 1), (1, .int x1), (2, .int x2), (3, .int x3), (4, .int x4)] [.int s0] ((qTX c), (qLX c), (qPX c), M) 0 0 := by
    intro x1 x2 x3 x4 s0 M
    unfold b_X11_wall_52
    refine g_istore X [(5, .int s0), (0, .ref 1), (1, .int x1), (2, .int x2), (3, .int x3), (4, .int x4)] dX11_wall_52 (by decide) rfl ?_
    refine g_iload X dX11_wall_54 0 rfl ?_
    refine g_if_eq X 74 dX11_wall_56 rfl (fun h1 => ?_) (fun h1 => ?_)
    · refine g_iconst (v := (-1)) X dX11_wall_74 (by decide) ?_
      exact g_widen (Nat.zero_le _) (Nat.zero_le _) (g_iret X rfl rfl rfl dX11_wall_75)
    · refine g_aload_n X dX11_wall_59 rfl 1 rfl ?_
      refine g_getr X fa_X11_10 rfl rfl dX11_wall_60 ?_
      refine g_getr X fa_X11_105 rfl rfl dX11_wall_63 ?_
      refine g_bVi (As := []) (rest := []) X (c_Jx4a65c_size_8abf5 l K (qTX c) (qLX c) (qPX c) M 14) lk_X11_90 rfl rfl rfl (Nat.le_of_ble_eq_true rfl) ⟨Nat.le_of_ble_eq_true rfl, Nat.le_of_ble_eq_true rfl⟩ ⟨Nat.zero_le _, Nat.zero_le _⟩ dX11_wall_66 (fun r2 => ?_)
      refine g_bipush (v := 16) X dX11_wall_69 (by decide) ?_
      refine g_icmp_lt X 76 dX11_wall_71 rfl (fun h3 => ?_) (fun h3 => ?_)
      · exact g_sub [1, 2, 3, 4, 5] rfl (g_h_wallB X hN x1 x2 x3 x4 M)
      · refine g_iconst (v := (-1)) X dX11_wall_74 (by decide) ?_
        exact g_widen (Nat.zero_le _) (Nat.zero_le _) (g_iret X rfl rfl rfl dX11_wall_75)
  have hb_51 : ∀ (x1 : Int32) (x2 : Int32) (x3 : Int32) (x4 : Int32) (M : q_MM), GG p l e { frames := 7, cells := 3, slots := 66, locals := 221 } s m args below meth c0 K A ((qTX c), (qLX c), (qPX c), M0) ad true 7 (fun res => MQ below (q_Qc K true ad ((qTX c), (qLX c), (qPX c), M0) ((fun (res : Int32 × (Nat → Nat) × q_MM) => some (.int res.1)) res) ((fun (res : Int32 × (Nat → Nat) × q_MM) => ((qTX res.2.1), (qLX res.2.1), (qPX res.2.1), res.2.2)) res) A) args s 3 66 A) (b_X11_wall_51 c x1 x2 x3 x4 M) 51 [(0, .ref 1), (1, .int x1), (2, .int x2), (3, .int x3), (4, .int x4)] [] ((qTX c), (qLX c), (qPX c), M) 0 0 := by
    intro x1 x2 x3 x4 M
    unfold b_X11_wall_51
    refine g_iconst (v := 0) X dX11_wall_51 (by decide) ?_
    exact g_sub [0, 1, 2, 3, 4] rfl (hb_52 x1 x2 x3 x4 0 M)
  refine g_sub (lv' := [(0, .ref 1), (1, .int a1), (2, .int a2), (3, .int a3), (4, .int a4)]) [0, 1, 2, 3, 4] rfl ?_
  unfold f_X11_wall
  refine g_aload_n X dX11_wall_0 rfl 0 rfl ?_
  refine g_getr X fa_X11_10 rfl rfl dX11_wall_1 ?_
  refine g_iload_n X dX11_wall_4 rfl 1 rfl ?_
  refine g_bVi (As := [.int a1]) (rest := []) X (c_X2_hasRoom l K c M0 a1) lk_X11_78 rfl rfl rfl (Nat.le_of_ble_eq_true rfl) ⟨Nat.le_of_ble_eq_true rfl, Nat.le_of_ble_eq_true rfl⟩ ⟨Nat.zero_le _, Nat.zero_le _⟩ dX11_wall_5 (fun r4 => ?_)
  refine g_if_eq X 51 dX11_wall_8 rfl (fun h5 => ?_) (fun h5 => ?_)
  · exact g_sub [0, 1, 2, 3, 4] rfl (hb_51 a1 a2 a3 a4 M0)
  · refine g_iload_n X dX11_wall_11 rfl 2 rfl ?_
    refine g_bipush (v := 50) X dX11_wall_12 (by decide) ?_
    refine g_sipush (v := 3000) X dX11_wall_14 (by decide) ?_
    refine g_bSi (As := [.int a2, .int 50, .int 3000]) (rest := []) X (c_X11_within l K c M0 a2 50 3000) lk_X11_82 rfl rfl (Nat.le_of_ble_eq_true rfl) ⟨Nat.le_of_ble_eq_true rfl, Nat.le_of_ble_eq_true rfl⟩ ⟨Nat.zero_le _, Nat.zero_le _⟩ dX11_wall_17 (fun r6 => ?_)
    refine g_if_eq X 51 dX11_wall_20 rfl (fun h7 => ?_) (fun h7 => ?_)
    · exact g_sub [0, 1, 2, 3, 4] rfl (hb_51 a1 a2 a3 a4 M0)
    · refine g_iload_n X dX11_wall_23 rfl 3 rfl ?_
      refine g_bipush (v := 100) X dX11_wall_24 (by decide) ?_
      refine g_sipush (v := 900) X dX11_wall_26 (by decide) ?_
      refine g_bSi (As := [.int a3, .int 100, .int 900]) (rest := []) X (c_X11_within l K c M0 a3 100 900) lk_X11_82 rfl rfl (Nat.le_of_ble_eq_true rfl) ⟨Nat.le_of_ble_eq_true rfl, Nat.le_of_ble_eq_true rfl⟩ ⟨Nat.zero_le _, Nat.zero_le _⟩ dX11_wall_29 (fun r8 => ?_)
      refine g_if_eq X 51 dX11_wall_32 rfl (fun h9 => ?_) (fun h9 => ?_)
      · exact g_sub [0, 1, 2, 3, 4] rfl (hb_51 a1 a2 a3 a4 M0)
      · refine g_iload X dX11_wall_35 4 rfl ?_
        refine g_iconst (v := 1) X dX11_wall_37 (by decide) ?_
        refine g_sipush (v := 9999) X dX11_wall_38 (by decide) ?_
        refine g_bSi (As := [.int a4, .int 1, .int 9999]) (rest := []) X (c_X11_within l K c M0 a4 1 9999) lk_X11_82 rfl rfl (Nat.le_of_ble_eq_true rfl) ⟨Nat.le_of_ble_eq_true rfl, Nat.le_of_ble_eq_true rfl⟩ ⟨Nat.zero_le _, Nat.zero_le _⟩ dX11_wall_41 (fun r10 => ?_)
        refine g_if_eq X 51 dX11_wall_44 rfl (fun h11 => ?_) (fun h11 => ?_)
        · exact g_sub [0, 1, 2, 3, 4] rfl (hb_51 a1 a2 a3 a4 M0)
        · refine g_iconst (v := 1) X dX11_wall_47 (by decide) ?_
          refine g_goto X 52 dX11_wall_48 rfl ?_
          exact g_sub [0, 1, 2, 3, 4] rfl (hb_52 a1 a2 a3 a4 1 M0)
