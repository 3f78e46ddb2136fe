/-! level 1: X11_picture -/
noncomputable def h_picB (c : Nat → Nat) (M : q_MM) (a1 a2 a3 a4 a5 a6 a7 : Int32) : Option (Int32 × (Nat → Nat) × q_MM) :=
  q_hy (a_C c ∧ c 2 < 24 ∧ M 15 2 = nI (c 2)) (some (nI (c 2), a_npc c, a_npM c M fun x => [nI (c 2), a1, a2, a3, a4, a5, a6, a7, -1, -1, 1000000, 400, 0, 0].getD x 0))
set_option maxHeartbeats 1000000 in
theorem h_picM {c : Nat → Nat} {M : q_MM} {a1 a2 a3 a4 a5 a6 a7 : Int32} (hC : a_C c) : q_ad2 (q_u2 (q_u2 (q_u2 (q_u2 (q_u2 (q_u2 (q_u2 (q_u2 (q_u2 (q_u2 (q_u2 (q_u2 (q_u2 (va_up M (1300 + c 2) (fun _ => 0)) (1300 + c 2) 8 (-1)) (1300 + c 2) 9 (-1)) (1300 + c 2) 10 1000000) (1300 + c 2) 11 400) (1300 + c 2) 12 0) (1300 + c 2) 0 (nI (c 2))) (1300 + c 2) 1 a1) (1300 + c 2) 2 a2) (1300 + c 2) 3 a3) (1300 + c 2) 4 a4) (1300 + c 2) 5 a5) (1300 + c 2) 6 a6) (1300 + c 2) 7 a7) 15 (c 2) = a_npM c M fun x => [nI (c 2), a1, a2, a3, a4, a5, a6, a7, -1, -1, 1000000, 400, 0, 0].getD x 0 := by
  obtain ⟨b0, b1, b2, b3⟩ := hC
  funext o x
  unfold q_ad2 a_npM
  by_cases z : o = 1300 + c 2
  · subst z
    rw [q_u2_ne (by omega), q_u2_ne (by omega), if_pos rfl]
    by_cases x7 : x = 7
    · subst x7; rw [q_u2_eq]; rfl
    rw [q_u2_ne (fun q => x7 q.2)]
    by_cases x6 : x = 6
    · subst x6; rw [q_u2_eq]; rfl
    rw [q_u2_ne (fun q => x6 q.2)]
    by_cases x5 : x = 5
    · subst x5; rw [q_u2_eq]; rfl
    rw [q_u2_ne (fun q => x5 q.2)]
    by_cases x4 : x = 4
    · subst x4; rw [q_u2_eq]; rfl
    rw [q_u2_ne (fun q => x4 q.2)]
    by_cases x3 : x = 3
    · subst x3; rw [q_u2_eq]; rfl
    rw [q_u2_ne (fun q => x3 q.2)]
    by_cases x2 : x = 2
    · subst x2; rw [q_u2_eq]; rfl
    rw [q_u2_ne (fun q => x2 q.2)]
    by_cases x1 : x = 1
    · subst x1; rw [q_u2_eq]; rfl
    rw [q_u2_ne (fun q => x1 q.2)]
    by_cases x0 : x = 0
    · subst x0; rw [q_u2_eq]; rfl
    rw [q_u2_ne (fun q => x0 q.2)]
    by_cases x12 : x = 12
    · subst x12; rw [q_u2_eq]; rfl
    rw [q_u2_ne (fun q => x12 q.2)]
    by_cases x11 : x = 11
    · subst x11; rw [q_u2_eq]; rfl
    rw [q_u2_ne (fun q => x11 q.2)]
    by_cases x10 : x = 10
    · subst x10; rw [q_u2_eq]; rfl
    rw [q_u2_ne (fun q => x10 q.2)]
    by_cases x9 : x = 9
    · subst x9; rw [q_u2_eq]; rfl
    rw [q_u2_ne (fun q => x9 q.2)]
    by_cases x8 : x = 8
    · subst x8; rw [q_u2_eq]; rfl
    rw [q_u2_ne (fun q => x8 q.2)]
    rw [va_up_self]
    match x, x0, x1, x2, x3, x4, x5, x6, x7, x8, x9, x10, x11, x12 with
    | 13, _, _, _, _, _, _, _, _, _, _, _, _, _ => rfl
    | x + 14, _, _, _, _, _, _, _, _, _, _, _, _, _ => rfl
  rw [if_neg z]
  have e : ∀ y, (q_u2 (q_u2 (q_u2 (q_u2 (q_u2 (q_u2 (q_u2 (q_u2 (q_u2 (q_u2 (q_u2 (q_u2 (q_u2 (va_up M (1300 + c 2) (fun _ => 0)) (1300 + c 2) 8 (-1)) (1300 + c 2) 9 (-1)) (1300 + c 2) 10 1000000) (1300 + c 2) 11 400) (1300 + c 2) 12 0) (1300 + c 2) 0 (nI (c 2))) (1300 + c 2) 1 a1) (1300 + c 2) 2 a2) (1300 + c 2) 3 a3) (1300 + c 2) 4 a4) (1300 + c 2) 5 a5) (1300 + c 2) 6 a6) (1300 + c 2) 7 a7) o y = M o y := fun y => by
    rw [q_u2_ne (fun q => z q.1), q_u2_ne (fun q => z q.1), q_u2_ne (fun q => z q.1), q_u2_ne (fun q => z q.1), q_u2_ne (fun q => z q.1), q_u2_ne (fun q => z q.1), q_u2_ne (fun q => z q.1), q_u2_ne (fun q => z q.1), q_u2_ne (fun q => z q.1), q_u2_ne (fun q => z q.1), q_u2_ne (fun q => z q.1), q_u2_ne (fun q => z q.1), q_u2_ne (fun q => z q.1), va_up_ne _ _ z]
  by_cases y : o = 15 ∧ x = 2
  · rw [if_pos y, y.1, y.2, q_u2_eq]
  rw [if_neg y, q_u2_ne y]
  by_cases w : o = 15 ∧ x = 0
  · rw [if_pos w]
    obtain ⟨rfl, rfl⟩ := w
    rw [q_u2_eq, e]
  rw [if_neg w, q_u2_ne w, e]
set_option maxHeartbeats 4000000 in
set_option maxRecDepth 100000 in
theorem g_h_picB {p : Program} {l : Launch} {e : Env} {s : State} {m : MethodId} {args : Array Value} {below : List Frame} {meth : Method} {c0 : Code} {K : q_KK} {A : Nat → Prop} {ad : Nat → Nat} {c : Nat → Nat} {M0 : q_MM} (X : q_X p s m args meth c0 K A ad 10 cX11_picture "GalleryWalls" (some FieldType.int)) (hN : meth.name = yX11_picture.name) (a1 a2 a3 a4 a5 a6 a7 : Int32) (M : q_MM) : GG p l e { frames := 7, cells := 2, slots := 47, locals := 221 } s m args below meth c0 K A ((qTX c), (qLX c), (qPX c), M0) ad true 10 (fun res => MQ below (q_Qc K true ad ((qTX c), (qLX c), (qPX c), M0) ((fun (res : Int32 × (Nat → Nat) × q_MM) => some (.int res.1)) res) ((fun (res : Int32 × (Nat → Nat) × q_MM) => ((qTX res.2.1), (qLX res.2.1), (qPX res.2.1), res.2.2)) res) A) args s 2 47 A) (h_picB c M a1 a2 a3 a4 a5 a6 a7) 110 [(0, .ref 1), (1, .int a1), (2, .int a2), (3, .int a3), (4, .int a4), (5, .int a5), (6, .int a6), (7, .int a7)] [] ((qTX c), (qLX c), (qPX c), M) 0 0 := by
  refine g_hy (fun hy => ?_)
  obtain ⟨hC, h24, hM⟩ := hy
  refine g_alk q_msk_alk ?_
  have nv := q_msk_no hC (z_fr2 hC) (by omega) (Or.inr (by omega))
  refine g_new X (1300 + c 2) nw_X11_161 rfl (by omega) (by unfold q_st; omega) nv.1 (fun o9 _ k9 => nv.2 o9 k9) (q_nr_lv (show 1 ≠ 1300 + c 2 ∧ True from ⟨by omega, trivial⟩)) (q_nr_st (show True from trivial)) (Nat.le_of_ble_eq_true rfl) (Nat.le_of_ble_eq_true rfl) dX11_picture_110 ?_
  have t1 : (va_up (qTX c) (1300 + c 2) 15) 1 = 21 := va_up_ne _ _ (by omega)
  have t2 : (va_up (qTX c) (1300 + c 2) 15) 2 = 12 := va_up_ne _ _ (by omega)
  have t15 : (va_up (qTX c) (1300 + c 2) 15) 15 = 23 := va_up_ne _ _ (by omega)
  have p1 : (va_up (q_msk c) (1300 + c 2) (fun _ => 0)) 1 0 = 2 := by rw [va_up_ne _ _ (by omega)]; rfl
  have p15 : (va_up (q_msk c) (1300 + c 2) (fun _ => 0)) 2 2 = 15 := by rw [va_up_ne _ _ (by omega)]; rfl
  have m15 : (va_up M (1300 + c 2) (fun _ => 0)) 15 2 = nI (c 2) := by rw [va_up_ne _ _ (by omega)]; exact hM
  refine g_dup X dX11_picture_113 rfl ?_
  refine g_aload_n X dX11_picture_114 rfl 0 rfl ?_
  refine g_getr X fa_X11_10 t1 p1 dX11_picture_115 ?_
  refine g_getr X fa_X11_158 t2 p15 dX11_picture_118 ?_
  refine g_callV (rv := some (.int (nI (c 2)))) (As := []) (rest := [.ref (1300 + c 2), .ref (1300 + c 2)]) X (c_Jx4a65c_size_8abf5 l K _ _ _ _ 15 (nI (c 2)) (by unfold f_Jx4a65c_size_8abf5 q_ck; rw [if_pos t15, m15])) lk_X11_90 t15 rfl rfl (Nat.le_of_ble_eq_true rfl) ⟨Nat.le_of_ble_eq_true rfl, Nat.le_of_ble_eq_true rfl⟩ ⟨Nat.le_of_ble_eq_true rfl, Nat.le_of_ble_eq_true rfl⟩ dX11_picture_121 (fun h => by cases h) ?_
  have tv : (va_up (qTX c) (1300 + c 2) 15) (1300 + c 2) = 15 := va_up_self _ _ _
  refine g_callI (rv := none) (As := [.int (nI (c 2))]) (rest := [.ref (1300 + c 2)]) X (by omega) (c_X5_init l K _ _ _ _ (1300 + c 2) (nI (c 2)) (by omega) tv) lki_X11_163 rfl rfl (Nat.le_of_ble_eq_true rfl) ⟨Nat.le_of_ble_eq_true rfl, Nat.le_of_ble_eq_true rfl⟩ ⟨Nat.le_of_ble_eq_true rfl, Nat.le_of_ble_eq_true rfl⟩ dX11_picture_124 (fun h => by cases h) ?_
  refine g_astore X [(9, .ref (1300 + c 2)), (0, .ref 1), (1, .int a1), (2, .int a2), (3, .int a3), (4, .int a4), (5, .int a5), (6, .int a6), (7, .int a7)] dX11_picture_127 (by decide) rfl ?_
  refine g_aload X dX11_picture_129 0 rfl ?_
  refine g_iload_n X dX11_picture_131 rfl 2 rfl ?_
  refine g_puti X fa_X11_164 (by decide +kernel) tv (fun ty _ h => by cases (show parseFieldDescriptor (q_dsc 5 1) = some .int by decide +kernel).symm.trans h; exact ⟨rfl, rfl⟩) dX11_picture_132 ?_
  refine g_aload X dX11_picture_135 0 rfl ?_
  refine g_iload_n X dX11_picture_137 rfl 3 rfl ?_
  refine g_puti X fa_X11_167 (by decide +kernel) tv (fun ty _ h => by cases (show parseFieldDescriptor (q_dsc 5 2) = some .int by decide +kernel).symm.trans h; exact ⟨rfl, rfl⟩) dX11_picture_138 ?_
  refine g_aload X dX11_picture_141 0 rfl ?_
  refine g_iload_n X dX11_picture_143 rfl 4 rfl ?_
  refine g_puti X fa_X11_168 (by decide +kernel) tv (fun ty _ h => by cases (show parseFieldDescriptor (q_dsc 5 3) = some .int by decide +kernel).symm.trans h; exact ⟨rfl, rfl⟩) dX11_picture_144 ?_
  refine g_aload X dX11_picture_147 0 rfl ?_
  refine g_iload X dX11_picture_149 5 rfl ?_
  refine g_puti X fa_X11_171 (by decide +kernel) tv (fun ty _ h => by cases (show parseFieldDescriptor (q_dsc 5 4) = some .int by decide +kernel).symm.trans h; exact ⟨rfl, rfl⟩) dX11_picture_151 ?_
  refine g_aload X dX11_picture_154 0 rfl ?_
  refine g_iload X dX11_picture_156 6 rfl ?_
  refine g_puti X fa_X11_174 (by decide +kernel) tv (fun ty _ h => by cases (show parseFieldDescriptor (q_dsc 5 5) = some .int by decide +kernel).symm.trans h; exact ⟨rfl, rfl⟩) dX11_picture_158 ?_
  refine g_aload X dX11_picture_161 0 rfl ?_
  refine g_iload X dX11_picture_163 7 rfl ?_
  refine g_puti X fa_X11_177 (by decide +kernel) tv (fun ty _ h => by cases (show parseFieldDescriptor (q_dsc 5 6) = some .int by decide +kernel).symm.trans h; exact ⟨rfl, rfl⟩) dX11_picture_165 ?_
  refine g_aload X dX11_picture_168 0 rfl ?_
  refine g_iload X dX11_picture_170 8 rfl ?_
  refine g_puti X fa_X11_180 (by decide +kernel) tv (fun ty _ h => by cases (show parseFieldDescriptor (q_dsc 5 7) = some .int by decide +kernel).symm.trans h; exact ⟨rfl, rfl⟩) dX11_picture_172 ?_
  have hM1 : (q_u2 (q_u2 (q_u2 (q_u2 (q_u2 (q_u2 (q_u2 (q_u2 (q_u2 (q_u2 (q_u2 (q_u2 (q_u2 (va_up M (1300 + c 2) (fun _ => 0)) (1300 + c 2) 8 (-1)) (1300 + c 2) 9 (-1)) (1300 + c 2) 10 1000000) (1300 + c 2) 11 400) (1300 + c 2) 12 0) (1300 + c 2) 0 (nI (c 2))) (1300 + c 2) 1 a1) (1300 + c 2) 2 a2) (1300 + c 2) 3 a3) (1300 + c 2) 4 a4) (1300 + c 2) 5 a5) (1300 + c 2) 6 a6) (1300 + c 2) 7 a7) 15 2 = nI (c 2) := by
    rw [q_u2_ne (by omega), q_u2_ne (by omega), q_u2_ne (by omega), q_u2_ne (by omega), q_u2_ne (by omega), q_u2_ne (by omega), q_u2_ne (by omega), q_u2_ne (by omega), q_u2_ne (by omega), q_u2_ne (by omega), q_u2_ne (by omega), q_u2_ne (by omega), q_u2_ne (by omega), va_up_ne _ _ (by omega)]; exact hM
  obtain ⟨g', hA, hk⟩ := c_addY l K (j := 2) (v := (1300 + c 2)) (v2 := (1300 + c 2)) (ci := 5) (c := c) (c' := a_npc c) (T := (va_up (qTX c) (1300 + c 2) 15)) (L := (va_up (qLX c) (1300 + c 2) 0)) (P := (va_up (q_msk c) (1300 + c 2) (fun _ => 0))) (M := (q_u2 (q_u2 (q_u2 (q_u2 (q_u2 (q_u2 (q_u2 (q_u2 (q_u2 (q_u2 (q_u2 (q_u2 (q_u2 (va_up M (1300 + c 2) (fun _ => 0)) (1300 + c 2) 8 (-1)) (1300 + c 2) 9 (-1)) (1300 + c 2) 10 1000000) (1300 + c 2) 11 400) (1300 + c 2) 12 0) (1300 + c 2) 0 (nI (c 2))) (1300 + c 2) 1 a1) (1300 + c 2) 2 a2) (1300 + c 2) 3 a3) (1300 + c 2) 4 a4) (1300 + c 2) 5 a5) (1300 + c 2) 6 a6) (1300 + c 2) 7 a7)) a_np1 hC (by omega) hM1 rfl (by omega) tv (fun k hk => t_pic hC hk) (t_pic (a_npC hC h24) (show c 2 < c 2 + 1 from Nat.lt_succ_self _)) (show q_classes[5]? = some (RX5, TX5, 14) from rfl) (by decide +kernel) (fun x x1 _ => va_up_ne _ _ x1) (fun x x1 _ => ⟨va_up_ne _ _ x1, va_up_ne _ _ x1⟩) (Or.inl rfl) (fun k => by rw [va_up_self]; unfold qPX; have := hC.2.2.1; rw [if_neg (by omega), if_neg (by omega), if_neg (by omega), if_neg (by omega)]) (fun q => by cases q) (fun q => by cases q) (fun x x1 x2 hn => hn.up (by omega) (by omega))
  rw [show q_lo 2 = 15 from rfl, h_picM hC] at hk
  refine g_aload_n X dX11_picture_175 rfl 1 rfl ?_
  refine g_getr X fa_X11_10 t1 p1 dX11_picture_176 ?_
  refine g_getr X fa_X11_158 t2 p15 dX11_picture_179 ?_
  refine g_aload X dX11_picture_182 0 rfl ?_
  refine g_callV (rv := some (.int 1)) (As := [.ref (1300 + c 2)]) (rest := []) X hA lk_X11_101 t15 rfl rfl (Nat.le_of_ble_eq_true rfl) ⟨Nat.le_of_ble_eq_true rfl, Nat.le_of_ble_eq_true rfl⟩ ⟨Nat.le_of_ble_eq_true rfl, Nat.le_of_ble_eq_true rfl⟩ dX11_picture_184 (fun _ => ⟨rfl, by simp [q_ok, i_X5_init, t1, tv], by simp⟩) ?_
  refine g_alk hk ?_
  refine g_pop X dX11_picture_187 rfl ?_
  refine g_aload X dX11_picture_188 0 rfl ?_
  refine g_geti X fa_X11_183 (t_pic (a_npC hC h24) (show c 2 < c 2 + 1 from Nat.lt_succ_self _)) dX11_picture_190 ?_
  have en : a_npM c M (fun x => [nI (c 2), a1, a2, a3, a4, a5, a6, a7, -1, -1, 1000000, 400, 0, 0].getD x 0) (1300 + c 2) 0 = nI (c 2) := by
    unfold a_npM
    rw [if_pos rfl]
    rfl
  refine g_iret X rfl (congrArg (fun z => some (Value.int z)) en.symm) rfl dX11_picture_193
noncomputable def b_X11_picture_86 (c : Nat → Nat) (x1 : Int32) (x2 : Int32) (x3 : Int32) (x4 : Int32) (x5 : Int32) (x6 : Int32) (x7 : Int32) (s0 : Int32) (M : q_MM) : Option (Int32 × (Nat → Nat) × q_MM) :=
  if s0 = 0 then
    some ((-1), c, M)
  else
    (f_Jx4a65c_size_8abf5 (qTX c) (qLX c) (qPX c) M 15).bind fun r2 =>
    if r2 < (24 : Int32) then
      h_picB c M x1 x2 x3 x4 x5 x6 x7
    else
      some ((-1), c, M)
noncomputable def b_X11_picture_85 (c : Nat → Nat) (x1 : Int32) (x2 : Int32) (x3 : Int32) (x4 : Int32) (x5 : Int32) (x6 : Int32) (x7 : Int32) (M : q_MM) : Option (Int32 × (Nat → Nat) × q_MM) :=
  b_X11_picture_86 c x1 x2 x3 x4 x5 x6 x7 0 M
noncomputable def f_X11_picture (c : Nat → Nat) (M0 : q_MM) (a1 : Int32) (a2 : Int32) (a3 : Int32) (a4 : Int32) (a5 : Int32) (a6 : Int32) (a7 : Int32) : Option (Int32 × (Nat → Nat) × q_MM) :=
  (f_X11_within c M0 a1 10 800).bind fun r4 =>
  if r4 = 0 then
    b_X11_picture_85 c a1 a2 a3 a4 a5 a6 a7 M0
  else
    (f_X11_within c M0 a2 10 800).bind fun r6 =>
    if r6 = 0 then
      b_X11_picture_85 c a1 a2 a3 a4 a5 a6 a7 M0
    else
      (f_X11_within c M0 a3 1 999).bind fun r8 =>
      if r8 = 0 then
        b_X11_picture_85 c a1 a2 a3 a4 a5 a6 a7 M0
      else
        (f_X11_within c M0 a4 0 7).bind fun r10 =>
        if r10 = 0 then
          b_X11_picture_85 c a1 a2 a3 a4 a5 a6 a7 M0
        else
          (f_X11_within c M0 a5 0 2999).bind fun r12 =>
          if r12 = 0 then
            b_X11_picture_85 c a1 a2 a3 a4 a5 a6 a7 M0
          else
            (f_X11_within c M0 a6 0 999).bind fun r14 =>
            if r14 = 0 then
              b_X11_picture_85 c a1 a2 a3 a4 a5 a6 a7 M0
            else
              (f_X11_within c M0 a7 0 7).bind fun r16 =>
              if r16 = 0 then
                b_X11_picture_85 c a1 a2 a3 a4 a5 a6 a7 M0
              else
                b_X11_picture_86 c a1 a2 a3 a4 a5 a6 a7 1 M0
set_option maxHeartbeats 4000000 in
set_option maxRecDepth 100000 in
theorem c_X11_picture (l : Launch) (K : q_KK) (c : Nat → Nat) (M0 : q_MM) (a1 : Int32) (a2 : Int32) (a3 : Int32) (a4 : Int32) (a5 : Int32) (a6 : Int32) (a7 : Int32) : ∀ res, f_X11_picture c M0 a1 a2 a3 a4 a5 a6 a7 = some res → Mt l yX11_picture cX11_picture 10 (some FieldType.int) 7 221 2 47 true K [.ref 1, .int a1, .int a2, .int a3, .int a4, .int a5, .int a6, .int a7] ((qTX c), (qLX c), (qPX c), M0) (some (.int res.1)) (((qTX res.2.1), (qLX res.2.1), (qPX res.2.1), res.2.2)) := by
  refine Mt.of (fun (res : Int32 × (Nat → Nat) × q_MM) => some (.int res.1)) (fun (res : Int32 × (Nat → Nat) × q_MM) => ((qTX res.2.1), (qLX res.2.1), (qPX res.2.1), res.2.2)) (by decide) (Nat.le_of_ble_eq_true rfl) ?_
  intro p e s m args below meth c0 A ad X hN
  have hb_86 : ∀ (x1 : Int32) (x2 : Int32) (x3 : Int32) (x4 : Int32) (x5 : Int32) (x6 : Int32) (x7 : Int32) (s0 : Int32) (M : q_MM), GG p l e { frames := 7, cells := 2, slots := 47, locals := 221 } s m args below meth c0 K A ((qTX c), (qLX c), (qPX c), M0) ad true 10 (fun res => MQ below (q_Qc K true ad ((qTX c), (qLX c), (qPX c), M0) ((fun (res : Int32 × (Nat → Nat) × q_MM) => some (.int res.1)) res) ((fun (res : Int32 × (Nat → Nat) × q_MM) => ((qTX res.2.1), (qLX res.2.1), (qPX res.2.1), res.2.2)) res) A) args s 2 47 A) (b_X11_picture_86 c x1 x2 x3 x4 x5 x6 x7 s0 M) 86 [(0, .ref 1), (1, .int x1), (2, .int x2), (3, .int x3), (4, .int x4), (5, .int x5), (6, .int x6), (7, .int x7)] [.int s0] ((qTX c), (qLX c), (qPX c), M) 0 0 := by
    intro x1 x2 x3 x4 x5 x6 x7 s0 M
    unfold b_X11_picture_86
    refine g_istore X [(8, .int s0), (0, .ref 1), (1, .int x1), (2, .int x2), (3, .int x3), (4, .int x4), (5, .int x5), (6, .int x6), (7, .int x7)] dX11_picture_86 (by decide) rfl ?_
    refine g_iload X dX11_picture_88 0 rfl ?_
    refine g_if_eq X 108 dX11_picture_90 rfl (fun h1 => ?_) (fun h1 => ?_)
    · refine g_iconst (v := (-1)) X dX11_picture_108 (by decide) ?_
      exact g_widen (Nat.zero_le _) (Nat.zero_le _) (g_iret X rfl rfl rfl dX11_picture_109)
    · refine g_aload_n X dX11_picture_93 rfl 1 rfl ?_
      refine g_getr X fa_X11_10 rfl rfl dX11_picture_94 ?_
      refine g_getr X fa_X11_158 rfl rfl dX11_picture_97 ?_
      refine g_bVi (As := []) (rest := []) X (c_Jx4a65c_size_8abf5 l K (qTX c) (qLX c) (qPX c) M 15) lk_X11_90 rfl rfl rfl (Nat.le_of_ble_eq_true rfl) ⟨Nat.le_of_ble_eq_true rfl, Nat.le_of_ble_eq_true rfl⟩ ⟨Nat.zero_le _, Nat.zero_le _⟩ dX11_picture_100 (fun r2 => ?_)
      refine g_bipush (v := 24) X dX11_picture_103 (by decide) ?_
      refine g_icmp_lt X 110 dX11_picture_105 rfl (fun h3 => ?_) (fun h3 => ?_)
      · exact g_sub [1, 2, 3, 4, 5, 6, 7, 8] rfl (g_h_picB X hN x1 x2 x3 x4 x5 x6 x7 M)
      · refine g_iconst (v := (-1)) X dX11_picture_108 (by decide) ?_
        exact g_widen (Nat.zero_le _) (Nat.zero_le _) (g_iret X rfl rfl rfl dX11_picture_109)
  have hb_85 : ∀ (x1 : Int32) (x2 : Int32) (x3 : Int32) (x4 : Int32) (x5 : Int32) (x6 : Int32) (x7 : Int32) (M : q_MM), GG p l e { frames := 7, cells := 2, slots := 47, locals := 221 } s m args below meth c0 K A ((qTX c), (qLX c), (qPX c), M0) ad true 10 (fun res => MQ below (q_Qc K true ad ((qTX c), (qLX c), (qPX c), M0) ((fun (res : Int32 × (Nat → Nat) × q_MM) => some (.int res.1)) res) ((fun (res : Int32 × (Nat → Nat) × q_MM) => ((qTX res.2.1), (qLX res.2.1), (qPX res.2.1), res.2.2)) res) A) args s 2 47 A) (b_X11_picture_85 c x1 x2 x3 x4 x5 x6 x7 M) 85 [(0, .ref 1), (1, .int x1), (2, .int x2), (3, .int x3), (4, .int x4), (5, .int x5), (6, .int x6), (7, .int x7)] [] ((qTX c), (qLX c), (qPX c), M) 0 0 := by
    intro x1 x2 x3 x4 x5 x6 x7 M
    unfold b_X11_picture_85
    refine g_iconst (v := 0) X dX11_picture_85 (by decide) ?_
    exact g_sub [0, 1, 2, 3, 4, 5, 6, 7] rfl (hb_86 x1 x2 x3 x4 x5 x6 x7 0 M)
  refine g_sub (lv' := [(0, .ref 1), (1, .int a1), (2, .int a2), (3, .int a3), (4, .int a4), (5, .int a5), (6, .int a6), (7, .int a7)]) [0, 1, 2, 3, 4, 5, 6, 7] rfl ?_
  unfold f_X11_picture
  refine g_iload_n X dX11_picture_0 rfl 1 rfl ?_
  refine g_bipush (v := 10) X dX11_picture_1 (by decide) ?_
  refine g_sipush (v := 800) X dX11_picture_3 (by decide) ?_
  refine g_bSi (As := [.int a1, .int 10, .int 800]) (rest := []) X (c_X11_within l K c M0 a1 10 800) lk_X11_82 rfl rfl (Nat.le_of_ble_eq_true rfl) ⟨Nat.le_of_ble_eq_true rfl, Nat.le_of_ble_eq_true rfl⟩ ⟨Nat.zero_le _, Nat.zero_le _⟩ dX11_picture_6 (fun r4 => ?_)
  refine g_if_eq X 85 dX11_picture_9 rfl (fun h5 => ?_) (fun h5 => ?_)
  · exact g_sub [0, 1, 2, 3, 4, 5, 6, 7] rfl (hb_85 a1 a2 a3 a4 a5 a6 a7 M0)
  · refine g_iload_n X dX11_picture_12 rfl 2 rfl ?_
    refine g_bipush (v := 10) X dX11_picture_13 (by decide) ?_
    refine g_sipush (v := 800) X dX11_picture_15 (by decide) ?_
    refine g_bSi (As := [.int a2, .int 10, .int 800]) (rest := []) X (c_X11_within l K c M0 a2 10 800) lk_X11_82 rfl rfl (Nat.le_of_ble_eq_true rfl) ⟨Nat.le_of_ble_eq_true rfl, Nat.le_of_ble_eq_true rfl⟩ ⟨Nat.zero_le _, Nat.zero_le _⟩ dX11_picture_18 (fun r6 => ?_)
    refine g_if_eq X 85 dX11_picture_21 rfl (fun h7 => ?_) (fun h7 => ?_)
    · exact g_sub [0, 1, 2, 3, 4, 5, 6, 7] rfl (hb_85 a1 a2 a3 a4 a5 a6 a7 M0)
    · refine g_iload_n X dX11_picture_24 rfl 3 rfl ?_
      refine g_iconst (v := 1) X dX11_picture_25 (by decide) ?_
      refine g_sipush (v := 999) X dX11_picture_26 (by decide) ?_
      refine g_bSi (As := [.int a3, .int 1, .int 999]) (rest := []) X (c_X11_within l K c M0 a3 1 999) lk_X11_82 rfl rfl (Nat.le_of_ble_eq_true rfl) ⟨Nat.le_of_ble_eq_true rfl, Nat.le_of_ble_eq_true rfl⟩ ⟨Nat.zero_le _, Nat.zero_le _⟩ dX11_picture_29 (fun r8 => ?_)
      refine g_if_eq X 85 dX11_picture_32 rfl (fun h9 => ?_) (fun h9 => ?_)
      · exact g_sub [0, 1, 2, 3, 4, 5, 6, 7] rfl (hb_85 a1 a2 a3 a4 a5 a6 a7 M0)
      · refine g_iload X dX11_picture_35 4 rfl ?_
        refine g_iconst (v := 0) X dX11_picture_37 (by decide) ?_
        refine g_bipush (v := 7) X dX11_picture_38 (by decide) ?_
        refine g_bSi (As := [.int a4, .int 0, .int 7]) (rest := []) X (c_X11_within l K c M0 a4 0 7) lk_X11_82 rfl rfl (Nat.le_of_ble_eq_true rfl) ⟨Nat.le_of_ble_eq_true rfl, Nat.le_of_ble_eq_true rfl⟩ ⟨Nat.zero_le _, Nat.zero_le _⟩ dX11_picture_40 (fun r10 => ?_)
        refine g_if_eq X 85 dX11_picture_43 rfl (fun h11 => ?_) (fun h11 => ?_)
        · exact g_sub [0, 1, 2, 3, 4, 5, 6, 7] rfl (hb_85 a1 a2 a3 a4 a5 a6 a7 M0)
        · refine g_iload X dX11_picture_46 5 rfl ?_
          refine g_iconst (v := 0) X dX11_picture_48 (by decide) ?_
          refine g_sipush (v := 2999) X dX11_picture_49 (by decide) ?_
          refine g_bSi (As := [.int a5, .int 0, .int 2999]) (rest := []) X (c_X11_within l K c M0 a5 0 2999) lk_X11_82 rfl rfl (Nat.le_of_ble_eq_true rfl) ⟨Nat.le_of_ble_eq_true rfl, Nat.le_of_ble_eq_true rfl⟩ ⟨Nat.zero_le _, Nat.zero_le _⟩ dX11_picture_52 (fun r12 => ?_)
          refine g_if_eq X 85 dX11_picture_55 rfl (fun h13 => ?_) (fun h13 => ?_)
          · exact g_sub [0, 1, 2, 3, 4, 5, 6, 7] rfl (hb_85 a1 a2 a3 a4 a5 a6 a7 M0)
          · refine g_iload X dX11_picture_58 6 rfl ?_
            refine g_iconst (v := 0) X dX11_picture_60 (by decide) ?_
            refine g_sipush (v := 999) X dX11_picture_61 (by decide) ?_
            refine g_bSi (As := [.int a6, .int 0, .int 999]) (rest := []) X (c_X11_within l K c M0 a6 0 999) lk_X11_82 rfl rfl (Nat.le_of_ble_eq_true rfl) ⟨Nat.le_of_ble_eq_true rfl, Nat.le_of_ble_eq_true rfl⟩ ⟨Nat.zero_le _, Nat.zero_le _⟩ dX11_picture_64 (fun r14 => ?_)
            refine g_if_eq X 85 dX11_picture_67 rfl (fun h15 => ?_) (fun h15 => ?_)
            · exact g_sub [0, 1, 2, 3, 4, 5, 6, 7] rfl (hb_85 a1 a2 a3 a4 a5 a6 a7 M0)
            · refine g_iload X dX11_picture_70 7 rfl ?_
              refine g_iconst (v := 0) X dX11_picture_72 (by decide) ?_
              refine g_bipush (v := 7) X dX11_picture_73 (by decide) ?_
              refine g_bSi (As := [.int a7, .int 0, .int 7]) (rest := []) X (c_X11_within l K c M0 a7 0 7) lk_X11_82 rfl rfl (Nat.le_of_ble_eq_true rfl) ⟨Nat.le_of_ble_eq_true rfl, Nat.le_of_ble_eq_true rfl⟩ ⟨Nat.zero_le _, Nat.zero_le _⟩ dX11_picture_75 (fun r16 => ?_)
              refine g_if_eq X 85 dX11_picture_78 rfl (fun h17 => ?_) (fun h17 => ?_)
              · exact g_sub [0, 1, 2, 3, 4, 5, 6, 7] rfl (hb_85 a1 a2 a3 a4 a5 a6 a7 M0)
              · refine g_iconst (v := 1) X dX11_picture_81 (by decide) ?_
                refine g_goto X 86 dX11_picture_82 rfl ?_
                exact g_sub [0, 1, 2, 3, 4, 5, 6, 7] rfl (hb_86 a1 a2 a3 a4 a5 a6 a7 1 M0)
