/-! level 1: X9_take -/
noncomputable def h_takeB (c : Nat → Nat) (M : q_MM) (a2 a3 : Int32) : Option (Int32 × (Nat → Nat) × q_MM) :=
  q_hy (a_C c ∧ c 3 < 30 ∧ M 27 2 = nI (c 3) ∧ ∃ n : Nat, n ≤ 61 ∧ M 31 1 = nI n) (some (nI (c 3), a_ntc c (M 31 1).toNatClampNeg, a_ntM c M a2 a3))
theorem h_takeM {c : Nat → Nat} {M : q_MM} {a2 a3 : Int32} (hC : a_C c) : q_ad2 (q_u2 (q_u2 (va_up (va_up M (1500 + c 3) (M 81)) (1400 + c 3) (fun _ => 0)) (1400 + c 3) 0 a2) (1400 + c 3) 1 a3) 27 (c 3) = a_ntM c M a2 a3 := by
  obtain ⟨b0, b1, b2, b3⟩ := hC
  funext o x
  unfold q_ad2 a_ntM
  by_cases z2 : o = 1500 + c 3
  · subst z2
    rw [if_pos rfl, q_u2_ne (by omega), q_u2_ne (by omega), q_u2_ne (by omega), q_u2_ne (by omega), va_up_ne _ _ (by omega), va_up_self]
  rw [if_neg z2]
  by_cases z : o = 1400 + c 3
  · subst z
    rw [if_pos rfl, q_u2_ne (by omega), q_u2_ne (by omega)]
    by_cases x1 : x = 1
    · subst x1; rw [q_u2_eq]; rfl
    rw [q_u2_ne (fun q => x1 q.2)]
    by_cases x0 : x = 0
    · subst x0; rw [q_u2_eq]; rfl
    rw [q_u2_ne (fun q => x0 q.2), va_up_self, if_neg x0, if_neg x1]
  rw [if_neg z]
  have e : ∀ y, (q_u2 (q_u2 (va_up (va_up M (1500 + c 3) (M 81)) (1400 + c 3) (fun _ => 0)) (1400 + c 3) 0 a2) (1400 + c 3) 1 a3) o y = M o y := fun y => by
    rw [q_u2_ne (fun q => z q.1), q_u2_ne (fun q => z q.1), va_up_ne _ _ z, va_up_ne _ _ z2]
  by_cases y : o = 27 ∧ x = 2
  · rw [if_pos y, y.1, y.2, q_u2_eq]
  rw [if_neg y, q_u2_ne y]
  by_cases w : o = 27 ∧ x = 0
  · rw [if_pos w]
    obtain ⟨rfl, rfl⟩ := w
    rw [q_u2_eq, e]
  rw [if_neg w, q_u2_ne w, e]
theorem h_takeP {c : Nat → Nat} {n : Nat} (hC : a_C c) {k : Nat} : qPX (a_ntc c n) (1400 + c 3) k = (q_p2 (va_up (va_up (q_msk c) (1500 + c 3) (fun _ => 0)) (1400 + c 3) (fun _ => 0)) (1400 + c 3) 2 (1500 + c 3)) (1400 + c 3) k := by
  obtain ⟨b0, b1, b2, b3⟩ := hC
  unfold q_p2
  rw [if_pos rfl]
  show _ = if k = 2 then 1500 + c 3 else (va_up (va_up (q_msk c) (1500 + c 3) (fun _ => 0)) (1400 + c 3) (fun _ => 0)) (1400 + c 3) k
  rw [va_up_self]
  unfold qPX
  rw [if_neg (by omega), if_neg (by omega), if_neg (by omega)]
  by_cases z : k = 2
  · rw [if_pos ⟨by omega, by omega, z⟩, if_pos z]; omega
  · rw [if_neg (fun q => z q.2.2), if_neg z]
/-- the code's copy: all of it, or its first part -/
theorem h_copy (l : Launch) (K : q_KK) {c : Nat → Nat} {M : q_MM} {n : Nat} (hC : a_C c) (hn : n ≤ 61) : ∃ g', Mt l yJ7_copyOf_59c91 cJ7_copyOf_59c91 3 (some (FieldType.array FieldType.int)) 1 40 1 n true K [.ref 81, .int (nI n)] (qTX c, qLX c, q_msk c, M) (some (.ref (1500 + c 3))) g' ∧ q_alk g' ((va_up (qTX c) (1500 + c 3) 1), (va_up (qLX c) (1500 + c 3) n), (va_up (q_msk c) (1500 + c 3) (fun _ => 0)), (va_up M (1500 + c 3) (M 81))) := by
  have nc := q_msk_no hC (z_frc hC) (by omega) (Or.inr (by omega))
  by_cases z : n = 61
  · subst z
    exact ⟨_, c_copyOfI_all l K (qTX c) (qLX c) (q_msk c) M 81 (1500 + c 3) 61 rfl rfl (by decide) (by omega) (by unfold q_st; omega) nc, fun _ => rfl, fun _ _ => ⟨fun _ => rfl, fun _ _ _ => rfl, fun _ _ _ => rfl, fun _ _ _ => ⟨fun _ => rfl, fun _ => rfl⟩⟩⟩
  · refine ⟨_, c_copyOfI_part l K (qTX c) (qLX c) (q_msk c) M 81 (1500 + c 3) n 61 rfl rfl (by omega) (by decide) (by omega) (by unfold q_st; omega) nc, fun _ => rfl, fun o ho => ⟨fun _ => rfl, fun h3 x hx => ?_, fun _ _ _ => rfl, fun h5 k hk => ⟨fun _ => rfl, fun hk1 => ?_⟩⟩⟩
    · have hx : x < (va_up (qLX c) (1500 + c 3) n) o := hx
      show (va_up M (1500 + c 3) (M 81)) o x = (if o = (1500 + c 3) then va_cpy (M 81) (fun _ => 0) 0 0 n else va_up M (1500 + c 3) (fun _ => 0) o) x
      by_cases y : o = (1500 + c 3)
      · subst y
        rw [va_up_self] at hx
        rw [va_up_self, if_pos rfl]
        unfold va_cpy
        rw [if_pos (by omega)]
        congr 1
        omega
      · rw [if_neg y, va_up_ne _ _ y, va_up_ne _ _ y]
    · have h5 : 4 < (va_up (qTX c) (1500 + c 3) 1) o := h5
      show (va_up M (1500 + c 3) (M 81)) o k = (if o = (1500 + c 3) then va_cpy (M 81) (fun _ => 0) 0 0 n else va_up M (1500 + c 3) (fun _ => 0) o) k
      have y : o ≠ (1500 + c 3) := fun y => by rw [y, va_up_self] at h5; omega
      rw [if_neg y, va_up_ne _ _ y, va_up_ne _ _ y]
set_option maxHeartbeats 4000000 in
set_option maxRecDepth 100000 in
theorem g_h_takeB {p : Program} {l : Launch} {e : Env} {s : State} {m : MethodId} {args : Array Value} {below : List Frame} {meth : Method} {c0 : Code} {K : q_KK} {A : Nat → Prop} {ad : Nat → Nat} {c : Nat → Nat} {M0 : q_MM} (X : q_X p s m args meth c0 K A ad 6 cX9_take "GalleryWalls$Terms" (some FieldType.int)) (hN : meth.name = yX9_take.name) (a2 a3 : Int32) (M : q_MM) : GG p l e { frames := 7, cells := 3, slots := 97, locals := 221 } s m args below meth c0 K A ((qTX c), (qLX c), (qPX c), M0) ad true 6 (fun res => MQ below (q_Qc K true ad ((qTX c), (qLX c), (qPX c), M0) ((fun (res : Int32 × (Nat → Nat) × q_MM) => some (.int res.1)) res) ((fun (res : Int32 × (Nat → Nat) × q_MM) => ((qTX res.2.1), (qLX res.2.1), (qPX res.2.1), res.2.2)) res) A) args s 3 97 A) (h_takeB c M a2 a3) 41 [(0, .ref 3), (2, .int a2), (3, .int a3)] [.int (M 31 1), .ref 81] ((qTX c), (qLX c), (qPX c), M) 0 0 := by
  refine g_hy (fun hy => ?_)
  obtain ⟨hC, h30, hM, n, hn, hL⟩ := hy
  obtain ⟨b0, b1, b2, b3⟩ := hC
  have hC : a_C c := ⟨b0, b1, b2, b3⟩
  rw [hL, nI_clamp (by omega)]
  refine g_alk q_msk_alk ?_
  obtain ⟨g0, hB, hb⟩ := h_copy l K (M := M) hC hn
  refine g_callS (rv := some (.ref (1500 + c 3))) (As := [.ref 81, .int (nI n)]) (rest := []) X hB lk_X9_64 rfl rfl (Nat.le_of_ble_eq_true rfl) ⟨Nat.le_of_ble_eq_true rfl, Nat.le_of_ble_eq_true rfl⟩ ⟨by decide, by show 0 + n ≤ 97; omega⟩ dX9_take_41 (fun _ => ⟨rfl, by simp [q_ok, qTX, qTXs], by simp⟩) ?_
  refine g_alk hb ?_
  refine g_widen (kc' := 1) (kn' := 61) (by decide) (by omega) ?_
  refine g_astore X [(5, .ref (1500 + c 3)), (0, .ref 3), (2, .int a2), (3, .int a3)] dX9_take_44 (by decide) rfl ?_
  have t3 : (va_up (qTX c) (1500 + c 3) 1) 3 = 19 := va_up_ne _ _ (by omega)
  have p3 : (va_up (q_msk c) (1500 + c 3) (fun _ => 0)) 3 1 = 27 := by rw [va_up_ne _ _ (by omega)]; rfl
  refine g_aload_n X dX9_take_46 rfl 1 rfl ?_
  refine g_getr X fa_X9_12 t3 p3 dX9_take_47 ?_
  have nv := (q_msk_no hC (z_fr3 hC) (by omega) (Or.inr (by omega))).up (a := (1500 + c 3)) (t := 1) (by omega) (by omega)
  refine g_new X (1400 + c 3) nw_X9_70 rfl (by omega) (by unfold q_st; omega) nv.1 (fun o9 _ k9 => nv.2 o9 k9) (q_nr_lv (show 1500 + c 3 ≠ 1400 + c 3 ∧ 3 ≠ 1400 + c 3 ∧ True from ⟨by omega, by omega, trivial⟩)) (q_nr_st (show 27 ≠ 1400 + c 3 ∧ True from ⟨by omega, trivial⟩)) (Nat.le_of_ble_eq_true rfl) (Nat.le_of_ble_eq_true rfl) dX9_take_50 ?_
  refine g_dup X dX9_take_53 rfl ?_
  refine g_iload_n X dX9_take_54 rfl 2 rfl ?_
  refine g_iload_n X dX9_take_55 rfl 3 rfl ?_
  refine g_aload X dX9_take_56 0 rfl ?_
  have tv : (va_up (va_up (qTX c) (1500 + c 3) 1) (1400 + c 3) 17) (1400 + c 3) = 17 := va_up_self _ _ _
  refine g_callI (rv := none) (As := [.int a2, .int a3, .ref (1500 + c 3)]) (rest := [.ref (1400 + c 3), .ref 27]) X (by omega) (c_X7_init l K _ _ _ _ (1400 + c 3) a2 a3 (1500 + c 3) (by omega) tv) lki_X9_72 rfl rfl (Nat.le_of_ble_eq_true rfl) ⟨Nat.le_of_ble_eq_true rfl, Nat.le_of_ble_eq_true rfl⟩ ⟨Nat.le_of_ble_eq_true rfl, Nat.le_of_ble_eq_true rfl⟩ dX9_take_58 (fun h => by cases h) ?_
  have hM1 : (q_u2 (q_u2 (va_up (va_up M (1500 + c 3) (M 81)) (1400 + c 3) (fun _ => 0)) (1400 + c 3) 0 a2) (1400 + c 3) 1 a3) 27 2 = nI (c 3) := by
    rw [q_u2_ne (by omega), q_u2_ne (by omega), va_up_ne _ _ (by omega), va_up_ne _ _ (by omega)]; exact hM
  have u3 : (va_up (va_up (qTX c) (1500 + c 3) 1) (1400 + c 3) 17) 3 = 19 := by rw [va_up_ne _ _ (by omega)]; exact t3
  have uc : (va_up (va_up (qTX c) (1500 + c 3) 1) (1400 + c 3) 17) (1500 + c 3) = 1 := by rw [va_up_ne _ _ (by omega), va_up_self]
  have u27 : (va_up (va_up (qTX c) (1500 + c 3) 1) (1400 + c 3) 17) 27 = 23 := by rw [va_up_ne _ _ (by omega), va_up_ne _ _ (by omega)]; rfl
  obtain ⟨g', hA, hk⟩ := c_addY l K (j := 3) (v := (1400 + c 3)) (v2 := (1500 + c 3)) (ci := 7) (c := c) (c' := a_ntc c n) (T := (va_up (va_up (qTX c) (1500 + c 3) 1) (1400 + c 3) 17)) (L := (va_up (va_up (qLX c) (1500 + c 3) n) (1400 + c 3) 0)) (P := (q_p2 (va_up (va_up (q_msk c) (1500 + c 3) (fun _ => 0)) (1400 + c 3) (fun _ => 0)) (1400 + c 3) 2 (1500 + c 3))) (M := (q_u2 (q_u2 (va_up (va_up M (1500 + c 3) (M 81)) (1400 + c 3) (fun _ => 0)) (1400 + c 3) 0 a2) (1400 + c 3) 1 a3)) a_nt1 hC (by omega) hM1 rfl (by omega) tv (fun k hk => t_term hC hk) (t_term (a_ntC hC h30) (show c 3 < c 3 + 1 from Nat.lt_succ_self _)) (show q_classes[7]? = some (RX7, TX7, 3) from rfl) (by decide +kernel) (fun x x1 x2 => by rw [va_up_ne _ _ x1, va_up_ne _ _ x2]) (fun x x1 x2 => ⟨by rw [va_up_ne _ _ x1, va_up_ne _ _ x2], by rw [q_p2n x1, va_up_ne _ _ x1, va_up_ne _ _ x2]⟩) (Or.inr ⟨uc, t_code (a_ntC hC h30) (show c 3 < c 3 + 1 from Nat.lt_succ_self _), by rw [va_up_ne _ _ (by omega), va_up_self]; unfold qLX; rw [if_neg (by omega), if_neg (by omega), if_neg (by omega), show 10 + (1500 + c 3 - 1500) = 10 + c 3 by omega]; unfold a_ntc; rw [if_neg (by omega), if_pos rfl]⟩) (fun k => h_takeP hC) (fun q => by cases q) (fun _ => rfl) (fun x x1 x2 hn => ((hn.up (by omega) (by omega)).up (by omega) (by omega)).p2 (by omega))
  rw [show q_lo 3 = 27 from rfl, h_takeM hC] at hk
  refine g_callV (rv := some (.int 1)) (As := [.ref (1400 + c 3)]) (rest := []) X hA lk_X9_75 u27 rfl rfl (Nat.le_of_ble_eq_true rfl) ⟨Nat.le_of_ble_eq_true rfl, Nat.le_of_ble_eq_true rfl⟩ ⟨Nat.le_of_ble_eq_true rfl, Nat.le_of_ble_eq_true rfl⟩ dX9_take_61 (fun _ => ⟨rfl, by simp [q_ok, i_X7_init, u3, uc], by simp⟩) ?_
  refine g_alk hk ?_
  refine g_pop X dX9_take_64 rfl ?_
  refine g_aload_n X dX9_take_65 rfl 1 rfl ?_
  refine g_getr X fa_X9_12 rfl rfl dX9_take_66 ?_
  have en : a_ntM c M a2 a3 27 2 = nI (c 3 + 1) := by
    unfold a_ntM
    rw [if_neg (by omega), if_neg (by omega), if_pos ⟨rfl, rfl⟩]
  refine g_callV (rv := some (.int (nI (c 3 + 1)))) (As := []) (rest := []) X (c_Jx4a65c_size_8abf5 l K (qTX (a_ntc c n)) (qLX (a_ntc c n)) (qPX (a_ntc c n)) (a_ntM c M a2 a3) 27 (nI (c 3 + 1)) (by unfold f_Jx4a65c_size_8abf5 q_ck; rw [if_pos (show qTX (a_ntc c n) 27 = 23 from rfl), en])) lk_X9_79 rfl rfl rfl (Nat.le_of_ble_eq_true rfl) ⟨Nat.le_of_ble_eq_true rfl, Nat.le_of_ble_eq_true rfl⟩ ⟨Nat.le_of_ble_eq_true rfl, Nat.le_of_ble_eq_true rfl⟩ dX9_take_69 (fun h => by cases h) ?_
  refine g_iconst (v := 1) X dX9_take_72 (by decide) ?_
  refine g_isub X dX9_take_73 ?_
  rw [nI_pred]
  exact g_iret X rfl rfl rfl dX9_take_74
noncomputable def f_X9_take (c : Nat → Nat) (M0 : q_MM) (a1 : Nat) (a2 : Int32) (a3 : Int32) : Option (Int32 × (Nat → Nat) × q_MM) :=
  (f_X8_firstWrong c M0 a1).bind fun r1 =>
  q_let r1.1 fun v2 =>
  if v2 = ((-1) : Int32) then
    h_takeB c r1.2 a2 a3
  else
    some ((((-1) : Int32) - v2), c, r1.2)
set_option maxHeartbeats 4000000 in
set_option maxRecDepth 100000 in
theorem c_X9_take (l : Launch) (K : q_KK) (c : Nat → Nat) (M0 : q_MM) (a1 : Nat) (a2 : Int32) (a3 : Int32) : ∀ res, f_X9_take c M0 a1 a2 a3 = some res → Mt l yX9_take cX9_take 6 (some FieldType.int) 7 221 3 97 true K [.ref 3, .ref a1, .int a2, .int a3] ((qTX c), (qLX c), (qPX c), M0) (some (.int res.1)) (((qTX res.2.1), (qLX res.2.1), (qPX res.2.1), res.2.2)) := by
  refine Mt.of (fun (res : Int32 × (Nat → Nat) × q_MM) => some (.int res.1)) (fun (res : Int32 × (Nat → Nat) × q_MM) => ((qTX res.2.1), (qLX res.2.1), (qPX res.2.1), res.2.2)) (by decide) (Nat.le_of_ble_eq_true rfl) ?_
  intro p e s m args below meth c0 A ad X hN
  refine g_sub (lv' := [(0, .ref 3), (1, .ref a1), (2, .int a2), (3, .int a3)]) [0, 1, 2, 3] rfl ?_
  unfold f_X9_take
  refine g_aload_n X dX9_take_0 rfl 0 rfl ?_
  refine g_getr X fa_X9_21 rfl rfl dX9_take_1 ?_
  refine g_aload_n X dX9_take_4 rfl 1 rfl ?_
  refine g_bVi (As := [.ref a1]) (rest := []) X (c_X8_firstWrong l K c M0 a1) lk_X9_50 rfl rfl rfl (Nat.le_of_ble_eq_true rfl) ⟨Nat.le_of_ble_eq_true rfl, Nat.le_of_ble_eq_true rfl⟩ ⟨Nat.zero_le _, Nat.zero_le _⟩ dX9_take_5 (fun r1 => ?_)
  refine g_is X (fun v2 => [(4, .int v2), (0, .ref 3), (1, .ref a1), (2, .int a2), (3, .int a3)]) dX9_take_8 (by decide) (fun _ => rfl) (fun v2 => ?_)
  refine g_iload X dX9_take_10 0 rfl ?_
  refine g_iconst (v := (-1)) X dX9_take_12 (by decide) ?_
  refine g_icmp_eq X 21 dX9_take_13 rfl (fun h3 => ?_) (fun h3 => ?_)
  · refine g_aload_n X dX9_take_21 rfl 1 rfl ?_
    refine g_getr X fa_X9_21 rfl rfl dX9_take_22 ?_
    refine g_getr X fa_X9_54 rfl rfl dX9_take_25 ?_
    refine g_getr X fa_X9_57 rfl rfl dX9_take_28 ?_
    refine g_aload_n X dX9_take_31 rfl 1 rfl ?_
    refine g_getr X fa_X9_21 rfl rfl dX9_take_32 ?_
    refine g_getr X fa_X9_54 rfl rfl dX9_take_35 ?_
    refine g_geti X fa_X9_60 rfl dX9_take_38 ?_
    exact g_sub [1, 3, 4] rfl (g_h_takeB X hN a2 a3 r1.2)
  · refine g_iconst (v := (-1)) X dX9_take_16 (by decide) ?_
    refine g_iload X dX9_take_17 0 rfl ?_
    refine g_isub X dX9_take_19 ?_
    exact g_widen (Nat.zero_le _) (Nat.zero_le _) (g_iret X rfl rfl rfl dX9_take_20)
