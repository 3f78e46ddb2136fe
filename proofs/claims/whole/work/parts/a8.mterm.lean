/-! level 1: X11_term -/
noncomputable def h_termB (c : Nat → Nat) (M : q_MM) (a1 a2 : Int32) : Option (Int32 × (Nat → Nat) × q_MM) :=
  (f_X9_take c M 7 a1 a2).bind fun r => (f_X4_clear r.2.1 r.2.2 7).bind fun r2 => some (r.1, r.2.1, r2)
theorem g_bVc {ρ σ : Type} {p : Program} {l : Launch} {e : Env} {R : Room} {s : State} {m : MethodId} {args : Array Value} {below : List Frame} {meth : Method} {c : Code} {K : q_KK} {A : Nat → Prop} {g0 : q_Mem} {ad0 : Nat → Nat} {al : Bool} {nL : Nat} {Q : ρ → State → Prop} {pc : Nat} {lv : List (Nat × Value)} {st rest As : List Value} {g : q_Mem} {kc kn : Nat} {cc : ByteArray} {own : String} {ret : Option FieldType} {fr lo n na idx ci mc ms : Nat} {y : MethodName} {b : ByteArray} {rty : Option FieldType} {al2 : Bool} {f : Option σ} {k : σ → Option ρ} {rr : σ → Int32} {gf : σ → q_Mem} (X : q_X p s m args meth c K A ad0 nL cc own ret) {o : Nat} (hM : ∀ r, f = some r → Mt l y b n rty fr lo mc ms al2 K (.ref o :: As) g (some (.int (rr r))) (gf r)) (hW : q_LV own idx ci y b n rty na) (hT : g.1 o = ci + 10) (hna : As.length = na) (hst : st = As.reverse ++ .ref o :: rest) (hcat : (rest.map fun v => v.category).sum ≤ 8) (hroom : fr + 1 ≤ R.frames ∧ 8 + (n + 11) + lo ≤ R.locals) (hcells : kc + mc ≤ R.cells ∧ kn + ms ≤ R.slots) (hd : decode cc pc = .ok (.invokevirtual idx, 3)) (hcl : al2 = true → al = true ∧ (∀ q ∈ lv, q_ok g q.2) ∧ ∀ v ∈ rest, q_ok g v) (kk : ∀ r, GG p l e R s m args below meth c K A g0 ad0 al nL Q (k r) (pc + 3) lv (.int (rr r) :: rest) (gf r) (kc + mc) (kn + ms)) : GG p l e R s m args below meth c K A g0 ad0 al nL Q (f.bind k) pc lv st g kc kn := by
  intro res hF
  obtain ⟨r, h1, h2⟩ := Option.bind_eq_some_iff.mp hF
  exact g_callV X (hM r h1) hW hT hna hst hcat hroom hcells hd hcl (kk r) res h2
set_option maxHeartbeats 4000000 in
set_option maxRecDepth 100000 in
theorem g_h_termB {p : Program} {l : Launch} {e : Env} {s : State} {m : MethodId} {args : Array Value} {below : List Frame} {meth : Method} {c0 : Code} {K : q_KK} {A : Nat → Prop} {ad : Nat → Nat} {c : Nat → Nat} {M0 : q_MM} (X : q_X p s m args meth c0 K A ad 5 cX11_term "GalleryWalls" (some FieldType.int)) (hN : meth.name = yX11_term.name) (a1 a2 : Int32) (M : q_MM) : GG p l e { frames := 8, cells := 3, slots := 97, locals := 246 } s m args below meth c0 K A ((qTX c), (qLX c), (qPX c), M0) ad true 5 (fun res => MQ below (q_Qc K true ad ((qTX c), (qLX c), (qPX c), M0) ((fun (res : Int32 × (Nat → Nat) × q_MM) => some (.int res.1)) res) ((fun (res : Int32 × (Nat → Nat) × q_MM) => ((qTX res.2.1), (qLX res.2.1), (qPX res.2.1), res.2.2)) res) A) args s 3 97 A) (h_termB c M a1 a2) 57 [(0, .ref 1), (1, .int a1), (2, .int a2)] [.int a2, .int a1, .ref 7, .ref 3] ((qTX c), (qLX c), (qPX c), M) 0 0 := by
  unfold h_termB
  refine g_bVc (rr := fun r => r.1) (gf := fun r => ((qTX r.2.1), (qLX r.2.1), (qPX r.2.1), r.2.2)) (As := [.ref 7, .int a1, .int a2]) (rest := []) X (c_X9_take l K c M 7 a1 a2) lk_X11_212 rfl rfl rfl (Nat.le_of_ble_eq_true rfl) ⟨Nat.le_of_ble_eq_true rfl, Nat.le_of_ble_eq_true rfl⟩ ⟨Nat.le_of_ble_eq_true rfl, Nat.le_of_ble_eq_true rfl⟩ dX11_term_57 (fun _ => ⟨rfl, by simp [q_ok, qTX, qTXs], by simp⟩) (fun r => ?_)
  refine g_goto X 65 dX11_term_60 rfl ?_
  refine g_istore X [(4, .int r.1), (0, .ref 1), (1, .int a1), (2, .int a2)] dX11_term_65 (by decide) rfl ?_
  refine g_aload_n X dX11_term_67 rfl 1 rfl ?_
  refine g_getr X fa_X11_48 rfl rfl dX11_term_68 ?_
  refine g_bVv (As := []) (rest := []) X (c_X4_clear l K r.2.1 r.2.2 7) lk_X11_216 rfl rfl rfl (Nat.le_of_ble_eq_true rfl) ⟨Nat.le_of_ble_eq_true rfl, Nat.le_of_ble_eq_true rfl⟩ ⟨Nat.le_of_ble_eq_true rfl, Nat.le_of_ble_eq_true rfl⟩ dX11_term_71 (fun r2 => ?_)
  refine g_iload X dX11_term_74 0 rfl ?_
  exact g_iret X rfl rfl rfl dX11_term_76
noncomputable def b_X11_term_42 (c : Nat → Nat) (x1 : Int32) (x2 : Int32) (s0 : Int32) (M : q_MM) : Option (Int32 × (Nat → Nat) × q_MM) :=
  if s0 = 0 then
    (f_X4_clear c M 7).bind fun r2 =>
    some ((-100), c, r2)
  else
    h_termB c M x1 x2
noncomputable def b_X11_term_41 (c : Nat → Nat) (x1 : Int32) (x2 : Int32) (M : q_MM) : Option (Int32 × (Nat → Nat) × q_MM) :=
  b_X11_term_42 c x1 x2 0 M
noncomputable def f_X11_term (c : Nat → Nat) (M0 : q_MM) (a1 : Int32) (a2 : Int32) : Option (Int32 × (Nat → Nat) × q_MM) :=
  (f_X2_pictureAt c M0 a1).bind fun r3 =>
  if r3 = 0 then
    b_X11_term_41 c a1 a2 M0
  else
    (f_X11_within c M0 a2 0 400).bind fun r5 =>
    if r5 = 0 then
      b_X11_term_41 c a1 a2 M0
    else
      (f_Jx4a65c_size_8abf5 (qTX c) (qLX c) (qPX c) M0 27).bind fun r7 =>
      if (30 : Int32) ≤ r7 then
        b_X11_term_41 c a1 a2 M0
      else
        b_X11_term_42 c a1 a2 1 M0
set_option maxHeartbeats 4000000 in
set_option maxRecDepth 100000 in
theorem c_X11_term (l : Launch) (K : q_KK) (c : Nat → Nat) (M0 : q_MM) (a1 : Int32) (a2 : Int32) : ∀ res, f_X11_term c M0 a1 a2 = some res → Mt l yX11_term cX11_term 5 (some FieldType.int) 8 246 3 97 true K [.ref 1, .int a1, .int a2] ((qTX c), (qLX c), (qPX c), M0) (some (.int res.1)) (((qTX res.2.1), (qLX res.2.1), (qPX res.2.1), res.2.2)) := by
  refine Mt.of (fun (res : Int32 × (Nat → Nat) × q_MM) => some (.int res.1)) (fun (res : Int32 × (Nat → Nat) × q_MM) => ((qTX res.2.1), (qLX res.2.1), (qPX res.2.1), res.2.2)) (by decide) (Nat.le_of_ble_eq_true rfl) ?_
  intro p e s m args below meth c0 A ad X hN
  have hb_42 : ∀ (x1 : Int32) (x2 : Int32) (s0 : Int32) (M : q_MM), GG p l e { frames := 8, cells := 3, slots := 97, locals := 246 } s m args below meth c0 K A ((qTX c), (qLX c), (qPX c), M0) ad true 5 (fun res => MQ below (q_Qc K true ad ((qTX c), (qLX c), (qPX c), M0) ((fun (res : Int32 × (Nat → Nat) × q_MM) => some (.int res.1)) res) ((fun (res : Int32 × (Nat → Nat) × q_MM) => ((qTX res.2.1), (qLX res.2.1), (qPX res.2.1), res.2.2)) res) A) args s 3 97 A) (b_X11_term_42 c x1 x2 s0 M) 42 [(0, .ref 1), (1, .int x1), (2, .int x2)] [.int s0] ((qTX c), (qLX c), (qPX c), M) 0 0 := by
    intro x1 x2 s0 M
    unfold b_X11_term_42
    refine g_istore_n X [(3, .int s0), (0, .ref 1), (1, .int x1), (2, .int x2)] dX11_term_42 rfl (by decide) rfl ?_
    refine g_iload_n X dX11_term_43 rfl 0 rfl ?_
    refine g_if_eq X 63 dX11_term_44 rfl (fun h1 => ?_) (fun h1 => ?_)
    · refine g_bipush (v := (-100)) X dX11_term_63 (by decide) ?_
      refine g_istore X [(4, .int (-100)), (3, .int s0), (0, .ref 1), (1, .int x1), (2, .int x2)] dX11_term_65 (by decide) rfl ?_
      refine g_aload_n X dX11_term_67 rfl 2 rfl ?_
      refine g_getr X fa_X11_48 rfl rfl dX11_term_68 ?_
      refine g_bVv (As := []) (rest := []) X (c_X4_clear l K c M 7) lk_X11_216 rfl rfl rfl (Nat.le_of_ble_eq_true rfl) ⟨Nat.le_of_ble_eq_true rfl, Nat.le_of_ble_eq_true rfl⟩ ⟨Nat.zero_le _, Nat.zero_le _⟩ dX11_term_71 (fun r2 => ?_)
      refine g_iload X dX11_term_74 0 rfl ?_
      exact g_widen (Nat.zero_le _) (Nat.zero_le _) (g_iret X rfl rfl rfl dX11_term_76)
    · refine g_aload_n X dX11_term_47 rfl 1 rfl ?_
      refine g_getr X fa_X11_21 rfl rfl dX11_term_48 ?_
      refine g_aload_n X dX11_term_51 rfl 1 rfl ?_
      refine g_getr X fa_X11_48 rfl rfl dX11_term_52 ?_
      refine g_iload_n X dX11_term_55 rfl 2 rfl ?_
      refine g_iload_n X dX11_term_56 rfl 3 rfl ?_
      exact g_sub [1, 2, 3] rfl (g_h_termB X hN x1 x2 M)
  have hb_41 : ∀ (x1 : Int32) (x2 : Int32) (M : q_MM), GG p l e { frames := 8, cells := 3, slots := 97, locals := 246 } s m args below meth c0 K A ((qTX c), (qLX c), (qPX c), M0) ad true 5 (fun res => MQ below (q_Qc K true ad ((qTX c), (qLX c), (qPX c), M0) ((fun (res : Int32 × (Nat → Nat) × q_MM) => some (.int res.1)) res) ((fun (res : Int32 × (Nat → Nat) × q_MM) => ((qTX res.2.1), (qLX res.2.1), (qPX res.2.1), res.2.2)) res) A) args s 3 97 A) (b_X11_term_41 c x1 x2 M) 41 [(0, .ref 1), (1, .int x1), (2, .int x2)] [] ((qTX c), (qLX c), (qPX c), M) 0 0 := by
    intro x1 x2 M
    unfold b_X11_term_41
    refine g_iconst (v := 0) X dX11_term_41 (by decide) ?_
    exact g_sub [0, 1, 2] rfl (hb_42 x1 x2 0 M)
  refine g_sub (lv' := [(0, .ref 1), (1, .int a1), (2, .int a2)]) [0, 1, 2] rfl ?_
  unfold f_X11_term
  refine g_aload_n X dX11_term_0 rfl 0 rfl ?_
  refine g_getr X fa_X11_10 rfl rfl dX11_term_1 ?_
  refine g_iload_n X dX11_term_4 rfl 1 rfl ?_
  refine g_bVr (As := [.int a1]) (rest := []) X (c_X2_pictureAt l K c M0 a1) lk_X11_184 rfl rfl rfl (Nat.le_of_ble_eq_true rfl) ⟨Nat.le_of_ble_eq_true rfl, Nat.le_of_ble_eq_true rfl⟩ ⟨Nat.zero_le _, Nat.zero_le _⟩ dX11_term_5 (fun r3 => ?_)
  refine g_ifnull X 41 dX11_term_8 rfl (fun h4 => ?_) (fun h4 => ?_)
  · exact g_sub [0, 1, 2] rfl (hb_41 a1 a2 M0)
  · refine g_iload_n X dX11_term_11 rfl 2 rfl ?_
    refine g_iconst (v := 0) X dX11_term_12 (by decide) ?_
    refine g_sipush (v := 400) X dX11_term_13 (by decide) ?_
    refine g_bSi (As := [.int a2, .int 0, .int 400]) (rest := []) X (c_X11_within l K c M0 a2 0 400) lk_X11_82 rfl rfl (Nat.le_of_ble_eq_true rfl) ⟨Nat.le_of_ble_eq_true rfl, Nat.le_of_ble_eq_true rfl⟩ ⟨Nat.zero_le _, Nat.zero_le _⟩ dX11_term_16 (fun r5 => ?_)
    refine g_if_eq X 41 dX11_term_19 rfl (fun h6 => ?_) (fun h6 => ?_)
    · exact g_sub [0, 1, 2] rfl (hb_41 a1 a2 M0)
    · refine g_aload_n X dX11_term_22 rfl 0 rfl ?_
      refine g_getr X fa_X11_21 rfl rfl dX11_term_23 ?_
      refine g_getr X fa_X11_209 rfl rfl dX11_term_26 ?_
      refine g_bVi (As := []) (rest := []) X (c_Jx4a65c_size_8abf5 l K (qTX c) (qLX c) (qPX c) M0 27) lk_X11_90 rfl rfl rfl (Nat.le_of_ble_eq_true rfl) ⟨Nat.le_of_ble_eq_true rfl, Nat.le_of_ble_eq_true rfl⟩ ⟨Nat.zero_le _, Nat.zero_le _⟩ dX11_term_29 (fun r7 => ?_)
      refine g_bipush (v := 30) X dX11_term_32 (by decide) ?_
      refine g_icmp_ge X 41 dX11_term_34 rfl (fun h8 => ?_) (fun h8 => ?_)
      · exact g_sub [0, 1, 2] rfl (hb_41 a1 a2 M0)
      · refine g_iconst (v := 1) X dX11_term_37 (by decide) ?_
        refine g_goto X 42 dX11_term_38 rfl ?_
        exact g_sub [0, 1, 2] rfl (hb_42 a1 a2 1 M0)
