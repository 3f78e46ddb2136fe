/- the two objects -/
def wX11_initT (T : Nat → Nat) : Nat → Nat := (va_up (va_up (va_up (va_up (va_up (va_up (va_up (va_up (va_up (va_up (va_up (wX3_initT (va_up (wX6_initT (va_up (wX9_initT (va_up (wX2_initT (va_up T 2 12)) 3 19)) 4 16)) 5 13)) 6 14) 56 1) 7 14) 57 1) 8 14) 58 1) 9 14) 59 1) 10 1) 11 1) 12 1)
def wX11_initL (L : Nat → Nat) : Nat → Nat := (va_up (va_up (va_up (va_up (va_up (va_up (va_up (va_up (va_up (va_up (va_up (wX3_initL (va_up (wX6_initL (va_up (wX9_initL (va_up (wX2_initL (va_up L 2 0)) 3 0)) 4 0)) 5 0)) 6 0) 56 32) 7 0) 57 100) 8 0) 58 12) 9 0) 59 10) 10 12) 11 12) 12 24)
def wX11_initP (P : Nat → Nat → Nat) : Nat → Nat → Nat := (q_p2 (va_up (q_p2 (va_up (q_p2 (va_up (q_p2 (q_p2 (va_up (va_up (q_p2 (q_p2 (va_up (va_up (q_p2 (q_p2 (va_up (va_up (q_p2 (q_p2 (va_up (va_up (q_p2 (wX3_initP (va_up (q_p2 (wX6_initP (va_up (q_p2 (wX9_initP (va_up (q_p2 (wX2_initP (va_up P 2 (fun _ => 0))) 1 0 2) 3 (fun _ => 0))) 1 1 3) 4 (fun _ => 0))) 1 2 4) 5 (fun _ => 0))) 1 3 5) 6 (fun _ => 0)) 56 (fun _ => 0)) 6 0 56) 1 4 6) 7 (fun _ => 0)) 57 (fun _ => 0)) 7 0 57) 1 5 7) 8 (fun _ => 0)) 58 (fun _ => 0)) 8 0 58) 1 6 8) 9 (fun _ => 0)) 59 (fun _ => 0)) 9 0 59) 1 7 9) 10 (fun _ => 0)) 1 8 10) 11 (fun _ => 0)) 1 9 11) 12 (fun _ => 0)) 1 10 12)
def wX11_initM (M : q_MM) : q_MM := (va_up (va_up (va_up (va_up (va_up (va_up (va_up (va_up (va_up (va_up (va_up (wX3_initM (va_up (wX6_initM (va_up (wX9_initM (va_up (wX2_initM (va_up M 2 (fun _ => 0))) 3 (fun _ => 0))) 4 (fun _ => 0))) 5 (fun _ => 0))) 6 (fun _ => 0)) 56 (fun _ => 0)) 7 (fun _ => 0)) 57 (fun _ => 0)) 8 (fun _ => 0)) 58 (fun _ => 0)) 9 (fun _ => 0)) 59 (fun _ => 0)) 10 (fun _ => 0)) 11 (fun _ => 0)) 12 (fun _ => 0))
theorem n_X11_init {S : List Nat} {T : Nat → Nat} {P : Nat → Nat → Nat} (h : q_nos S T P) (hd : ∀ a ∈ [0, 2, 3, 4, 5, 6, 7, 8, 9, 10, 11, 12, 13, 14, 15, 16, 17, 18, 19, 20, 21, 22, 27, 28, 29, 30, 31, 32, 33, 34, 35, 36, 37, 38, 39, 40, 41, 42, 43, 44, 45, 56, 57, 58, 59, 61, 62, 63, 64, 80, 81, 82, 83, 87, 88, 89, 90, 91, 940], a ∉ S) : q_nos S (wX11_initT T) (wX11_initP P) := (q_nos.p2 (q_nos.up (q_nos.p2 (q_nos.up (q_nos.p2 (q_nos.up (q_nos.p2 (q_nos.p2 (q_nos.up (q_nos.up (q_nos.p2 (q_nos.p2 (q_nos.up (q_nos.up (q_nos.p2 (q_nos.p2 (q_nos.up (q_nos.up (q_nos.p2 (q_nos.p2 (q_nos.up (q_nos.up (q_nos.p2 (n_X3_init (q_nos.up (q_nos.p2 (n_X6_init (q_nos.up (q_nos.p2 (n_X9_init (q_nos.up (q_nos.p2 (n_X2_init (q_nos.up h (hd 2 (by decide)) (hd 0 (by decide))) (fun a h => hd a (by revert a; decide))) (hd 2 (by decide))) (hd 3 (by decide)) (hd 0 (by decide))) (fun a h => hd a (by revert a; decide))) (hd 3 (by decide))) (hd 4 (by decide)) (hd 0 (by decide))) (fun a h => hd a (by revert a; decide))) (hd 4 (by decide))) (hd 5 (by decide)) (hd 0 (by decide))) (fun a h => hd a (by revert a; decide))) (hd 5 (by decide))) (hd 6 (by decide)) (hd 0 (by decide))) (hd 56 (by decide)) (hd 0 (by decide))) (hd 56 (by decide))) (hd 6 (by decide))) (hd 7 (by decide)) (hd 0 (by decide))) (hd 57 (by decide)) (hd 0 (by decide))) (hd 57 (by decide))) (hd 7 (by decide))) (hd 8 (by decide)) (hd 0 (by decide))) (hd 58 (by decide)) (hd 0 (by decide))) (hd 58 (by decide))) (hd 8 (by decide))) (hd 9 (by decide)) (hd 0 (by decide))) (hd 59 (by decide)) (hd 0 (by decide))) (hd 59 (by decide))) (hd 9 (by decide))) (hd 10 (by decide)) (hd 0 (by decide))) (hd 10 (by decide))) (hd 11 (by decide)) (hd 0 (by decide))) (hd 11 (by decide))) (hd 12 (by decide)) (hd 0 (by decide))) (hd 12 (by decide)))
set_option maxHeartbeats 8000000 in
set_option maxRecDepth 100000 in
theorem c_X11_init (l : Launch) (K : q_KK) (T : Nat → Nat) (L : Nat → Nat) (P : Nat → Nat → Nat) (M : q_MM) (hT : T 1 = 21) (hS0 : q_nos [2, 13, 14, 15, 16, 17, 18, 19, 20, 21, 61, 63, 22, 62, 64, 3, 27, 28, 31, 81, 32, 82, 29, 30, 80, 4, 33, 83, 34, 35, 36, 37, 87, 38, 88, 5, 39, 89, 40, 90, 41, 91, 42, 43, 44, 45, 6, 56, 7, 57, 8, 58, 9, 59, 10, 11, 12] T P) : Mt l yX11_init cX11_init 1 none 5 131 57 3081 true K [.ref 1] (T, L, P, M) none (wX11_initT T, wX11_initL L, wX11_initP P, wX11_initM M) := by
  refine Mt.of (ρ := Unit) (F := some ()) (fun _ => none) (fun _ => (wX11_initT T, wX11_initL L, wX11_initP P, wX11_initM M)) (by decide) (Nat.le_of_ble_eq_true rfl) ?_ () rfl
  intro p e s m args below meth c0 A ad X hN
  refine g_sub (lv' := [(0, .ref 1)]) [0] rfl ?_
  refine g_aload_n X dX11_init_0 rfl 0 rfl ?_
  refine g_objinit X (by decide) lko_X11_1 (Nat.le_of_ble_eq_true rfl) (Nat.le_of_ble_eq_true rfl) dX11_init_1 ?_
  refine g_aload_n X dX11_init_4 rfl 0 rfl ?_
  have hq := hS0 2 (by decide)
  refine g_new X 2 nw_X11_7 rfl (by decide) (by simp [q_st]) hq.1 (fun o9 _ k9 => hq.2 o9 k9) (by simp) (by simp) (Nat.le_of_ble_eq_true rfl) (Nat.le_of_ble_eq_true rfl) dX11_init_5 ?_
  have hS1 := (hS0.sub (S' := [13, 14, 15, 16, 17, 18, 19, 20, 21, 61, 63, 22, 62, 64, 3, 27, 28, 31, 81, 32, 82, 29, 30, 80, 4, 33, 83, 34, 35, 36, 37, 87, 38, 88, 5, 39, 89, 40, 90, 41, 91, 42, 43, 44, 45, 6, 56, 7, 57, 8, 58, 9, 59, 10, 11, 12]) (by decide)).up (a := 2) (t := 12) (by decide) (by decide)
  refine g_dup X dX11_init_8 rfl ?_
  refine g_callIN (As := []) (rest := [.ref 2, .ref 1]) X (by decide) (c_X2_init l K _ _ _ _ (by simp [va_up, hT]) (hS1.sub (by decide))) lkn_X11_9 rfl rfl (Nat.le_of_ble_eq_true rfl) ⟨Nat.le_of_ble_eq_true rfl, Nat.le_of_ble_eq_true rfl⟩ ⟨Nat.le_of_ble_eq_true rfl, Nat.le_of_ble_eq_true rfl⟩ dX11_init_9 (fun _ => ⟨rfl, by simp [q_ok, va_up, hT, wX2_initT], by simp [q_ok, va_up, hT, wX2_initT]⟩) ?_
  have hS2 := n_X2_init (hS1.sub (S' := [3, 27, 28, 31, 81, 32, 82, 29, 30, 80, 4, 33, 83, 34, 35, 36, 37, 87, 38, 88, 5, 39, 89, 40, 90, 41, 91, 42, 43, 44, 45, 6, 56, 7, 57, 8, 58, 9, 59, 10, 11, 12]) (by decide)) (by decide)
  refine g_putrF X fa_X11_10 hN (by decide +kernel) (by decide +kernel) (fun ad ty h => q_objfit (te := "GalleryWalls$House") (by decide +kernel) _ ad ty h) (by simp [va_up, hT, wX2_initT]) dX11_init_12 ?_
  have hS3 := hS2.p2 (a := 1) (k := 0) (v := 2) (by decide)
  refine g_aload_n X dX11_init_15 rfl 0 rfl ?_
  have hq := hS3 3 (by decide)
  refine g_new X 3 nw_X11_16 rfl (by decide) (by simp [q_st]) hq.1 (fun o9 _ k9 => hq.2 o9 k9) (by simp) (by simp) (Nat.le_of_ble_eq_true rfl) (Nat.le_of_ble_eq_true rfl) dX11_init_16 ?_
  have hS4 := (hS3.sub (S' := [27, 28, 31, 81, 32, 82, 29, 30, 80, 4, 33, 83, 34, 35, 36, 37, 87, 38, 88, 5, 39, 89, 40, 90, 41, 91, 42, 43, 44, 45, 6, 56, 7, 57, 8, 58, 9, 59, 10, 11, 12]) (by decide)).up (a := 3) (t := 19) (by decide) (by decide)
  refine g_dup X dX11_init_19 rfl ?_
  refine g_aload_n X dX11_init_20 rfl 0 rfl ?_
  refine g_getr (r := 2) X fa_X11_10 (by simp [va_up, hT, wX2_initT]) (by simp [va_up, q_p2, wX2_initP]) dX11_init_21 ?_
  refine g_callI (rv := none) (As := [.ref 2]) (rest := [.ref 3, .ref 1]) X (by decide) (c_X9_init l K _ _ _ _ (by simp [va_up, hT, wX2_initT]) (by simp [va_up, hT, wX2_initT]) (hS4.sub (by decide))) lki_X11_18 rfl rfl (Nat.le_of_ble_eq_true rfl) ⟨Nat.le_of_ble_eq_true rfl, Nat.le_of_ble_eq_true rfl⟩ ⟨Nat.le_of_ble_eq_true rfl, Nat.le_of_ble_eq_true rfl⟩ dX11_init_24 (fun _ => ⟨rfl, by simp [q_ok, va_up, hT, wX2_initT, wX9_initT, wX8_initT], by simp [q_ok, va_up, hT, wX2_initT, wX9_initT, wX8_initT]⟩) ?_
  have hS5 := n_X9_init (hS4.sub (S' := [4, 33, 83, 34, 35, 36, 37, 87, 38, 88, 5, 39, 89, 40, 90, 41, 91, 42, 43, 44, 45, 6, 56, 7, 57, 8, 58, 9, 59, 10, 11, 12]) (by decide)) (by decide)
  refine g_putrF X fa_X11_21 hN (by decide +kernel) (by decide +kernel) (fun ad ty h => q_objfit (te := "GalleryWalls$Terms") (by decide +kernel) _ ad ty h) (by simp [va_up, hT, wX2_initT, wX9_initT, wX8_initT]) dX11_init_27 ?_
  have hS6 := hS5.p2 (a := 1) (k := 1) (v := 3) (by decide)
  refine g_aload_n X dX11_init_30 rfl 0 rfl ?_
  have hq := hS6 4 (by decide)
  refine g_new X 4 nw_X11_25 rfl (by decide) (by simp [q_st]) hq.1 (fun o9 _ k9 => hq.2 o9 k9) (by simp) (by simp) (Nat.le_of_ble_eq_true rfl) (Nat.le_of_ble_eq_true rfl) dX11_init_31 ?_
  have hS7 := (hS6.sub (S' := [33, 83, 34, 35, 36, 37, 87, 38, 88, 5, 39, 89, 40, 90, 41, 91, 42, 43, 44, 45, 6, 56, 7, 57, 8, 58, 9, 59, 10, 11, 12]) (by decide)).up (a := 4) (t := 16) (by decide) (by decide)
  refine g_dup X dX11_init_34 rfl ?_
  refine g_aload_n X dX11_init_35 rfl 0 rfl ?_
  refine g_getr (r := 2) X fa_X11_10 (by simp [va_up, hT, wX2_initT, wX9_initT, wX8_initT]) (by simp [va_up, q_p2, wX2_initP, wX9_initP, wX8_initP]) dX11_init_36 ?_
  refine g_callI (rv := none) (As := [.ref 2]) (rest := [.ref 4, .ref 1]) X (by decide) (c_X6_init l K _ _ _ _ (by simp [va_up, hT, wX2_initT, wX9_initT, wX8_initT]) (by simp [va_up, hT, wX2_initT, wX9_initT, wX8_initT]) (hS7.sub (by decide))) lki_X11_27 rfl rfl (Nat.le_of_ble_eq_true rfl) ⟨Nat.le_of_ble_eq_true rfl, Nat.le_of_ble_eq_true rfl⟩ ⟨Nat.le_of_ble_eq_true rfl, Nat.le_of_ble_eq_true rfl⟩ dX11_init_39 (fun _ => ⟨rfl, by simp [q_ok, va_up, hT, wX2_initT, wX9_initT, wX8_initT, wX6_initT], by simp [q_ok, va_up, hT, wX2_initT, wX9_initT, wX8_initT, wX6_initT]⟩) ?_
  have hS8 := n_X6_init (hS7.sub (S' := [5, 39, 89, 40, 90, 41, 91, 42, 43, 44, 45, 6, 56, 7, 57, 8, 58, 9, 59, 10, 11, 12]) (by decide)) (by decide)
  refine g_putrF X fa_X11_28 hN (by decide +kernel) (by decide +kernel) (fun ad ty h => q_objfit (te := "GalleryWalls$Rows") (by decide +kernel) _ ad ty h) (by simp [va_up, hT, wX2_initT, wX9_initT, wX8_initT, wX6_initT]) dX11_init_42 ?_
  have hS9 := hS8.p2 (a := 1) (k := 2) (v := 4) (by decide)
  refine g_aload_n X dX11_init_45 rfl 0 rfl ?_
  have hq := hS9 5 (by decide)
  refine g_new X 5 nw_X11_32 rfl (by decide) (by simp [q_st]) hq.1 (fun o9 _ k9 => hq.2 o9 k9) (by simp) (by simp) (Nat.le_of_ble_eq_true rfl) (Nat.le_of_ble_eq_true rfl) dX11_init_46 ?_
  have hS10 := (hS9.sub (S' := [39, 89, 40, 90, 41, 91, 42, 43, 44, 45, 6, 56, 7, 57, 8, 58, 9, 59, 10, 11, 12]) (by decide)).up (a := 5) (t := 13) (by decide) (by decide)
  refine g_dup X dX11_init_49 rfl ?_
  refine g_aload_n X dX11_init_50 rfl 0 rfl ?_
  refine g_getr (r := 2) X fa_X11_10 (by simp [va_up, hT, wX2_initT, wX9_initT, wX8_initT, wX6_initT]) (by simp [va_up, q_p2, wX2_initP, wX9_initP, wX8_initP, wX6_initP]) dX11_init_51 ?_
  refine g_callI (rv := none) (As := [.ref 2]) (rest := [.ref 5, .ref 1]) X (by decide) (c_X3_init l K _ _ _ _ (by simp [va_up, hT, wX2_initT, wX9_initT, wX8_initT, wX6_initT]) (by simp [va_up, hT, wX2_initT, wX9_initT, wX8_initT, wX6_initT]) (hS10.sub (by decide))) lki_X11_34 rfl rfl (Nat.le_of_ble_eq_true rfl) ⟨Nat.le_of_ble_eq_true rfl, Nat.le_of_ble_eq_true rfl⟩ ⟨Nat.le_of_ble_eq_true rfl, Nat.le_of_ble_eq_true rfl⟩ dX11_init_54 (fun _ => ⟨rfl, by simp [q_ok, va_up, hT, wX2_initT, wX9_initT, wX8_initT, wX6_initT, wX3_initT], by simp [q_ok, va_up, hT, wX2_initT, wX9_initT, wX8_initT, wX6_initT, wX3_initT]⟩) ?_
  have hS11 := n_X3_init (hS10.sub (S' := [6, 56, 7, 57, 8, 58, 9, 59, 10, 11, 12]) (by decide)) (by decide)
  refine g_putrF X fa_X11_35 hN (by decide +kernel) (by decide +kernel) (fun ad ty h => q_objfit (te := "GalleryWalls$Moves") (by decide +kernel) _ ad ty h) (by simp [va_up, hT, wX2_initT, wX9_initT, wX8_initT, wX6_initT, wX3_initT]) dX11_init_57 ?_
  have hS12 := hS11.p2 (a := 1) (k := 3) (v := 5) (by decide)
  refine g_aload_n X dX11_init_60 rfl 0 rfl ?_
  have hq := hS12 6 (by decide)
  refine g_new X 6 nw_X11_39 rfl (by decide) (by simp [q_st]) hq.1 (fun o9 _ k9 => hq.2 o9 k9) (by simp) (by simp) (Nat.le_of_ble_eq_true rfl) (Nat.le_of_ble_eq_true rfl) dX11_init_61 ?_
  have hS13 := (hS12.sub (S' := [56, 7, 57, 8, 58, 9, 59, 10, 11, 12]) (by decide)).up (a := 6) (t := 14) (by decide) (by decide)
  refine g_dup X dX11_init_64 rfl ?_
  refine g_bipush (v := 32) X dX11_init_65 (by decide) ?_
  refine g_callI (rv := none) (As := [.int 32]) (rest := [.ref 6, .ref 1]) X (by decide) (c_Num l K _ _ _ _ 6 56 32 32 rfl rfl (by decide) (by simp [va_up, hT, wX2_initT, wX9_initT, wX8_initT, wX6_initT, wX3_initT]) (hS13 56 (by decide)) (by simp [q_st]) (by decide) (by decide)) lki_X11_41 rfl rfl (Nat.le_of_ble_eq_true rfl) ⟨Nat.le_of_ble_eq_true rfl, Nat.le_of_ble_eq_true rfl⟩ ⟨Nat.le_of_ble_eq_true rfl, Nat.le_of_ble_eq_true rfl⟩ dX11_init_67 (fun _ => ⟨rfl, by simp [q_ok, va_up, hT, wX2_initT, wX9_initT, wX8_initT, wX6_initT, wX3_initT], by simp [q_ok, va_up, hT, wX2_initT, wX9_initT, wX8_initT, wX6_initT, wX3_initT]⟩) ?_
  have hS14 := ((hS13.sub (S' := [7, 57, 8, 58, 9, 59, 10, 11, 12]) (by decide)).up (a := 56) (t := 1) (by decide) (by decide)).p2 (a := 6) (k := 0) (v := 56) (by decide)
  refine g_putrF X fa_X11_44 hN (by decide +kernel) (by decide +kernel) (fun ad ty h => q_objfit (te := "GalleryWalls$Numbers") (by decide +kernel) _ ad ty h) (by simp [va_up, hT, wX2_initT, wX9_initT, wX8_initT, wX6_initT, wX3_initT]) dX11_init_70 ?_
  have hS15 := hS14.p2 (a := 1) (k := 4) (v := 6) (by decide)
  refine g_aload_n X dX11_init_73 rfl 0 rfl ?_
  have hq := hS15 7 (by decide)
  refine g_new X 7 nw_X11_39 rfl (by decide) (by simp [q_st]) hq.1 (fun o9 _ k9 => hq.2 o9 k9) (by simp) (by simp) (Nat.le_of_ble_eq_true rfl) (Nat.le_of_ble_eq_true rfl) dX11_init_74 ?_
  have hS16 := (hS15.sub (S' := [57, 8, 58, 9, 59, 10, 11, 12]) (by decide)).up (a := 7) (t := 14) (by decide) (by decide)
  refine g_dup X dX11_init_77 rfl ?_
  refine g_bipush (v := 100) X dX11_init_78 (by decide) ?_
  refine g_callI (rv := none) (As := [.int 100]) (rest := [.ref 7, .ref 1]) X (by decide) (c_Num l K _ _ _ _ 7 57 100 100 rfl rfl (by decide) (by simp [va_up, hT, wX2_initT, wX9_initT, wX8_initT, wX6_initT, wX3_initT]) (hS16 57 (by decide)) (by simp [q_st]) (by decide) (by decide)) lki_X11_41 rfl rfl (Nat.le_of_ble_eq_true rfl) ⟨Nat.le_of_ble_eq_true rfl, Nat.le_of_ble_eq_true rfl⟩ ⟨Nat.le_of_ble_eq_true rfl, Nat.le_of_ble_eq_true rfl⟩ dX11_init_80 (fun _ => ⟨rfl, by simp [q_ok, va_up, hT, wX2_initT, wX9_initT, wX8_initT, wX6_initT, wX3_initT], by simp [q_ok, va_up, hT, wX2_initT, wX9_initT, wX8_initT, wX6_initT, wX3_initT]⟩) ?_
  have hS17 := ((hS16.sub (S' := [8, 58, 9, 59, 10, 11, 12]) (by decide)).up (a := 57) (t := 1) (by decide) (by decide)).p2 (a := 7) (k := 0) (v := 57) (by decide)
  refine g_putrF X fa_X11_48 hN (by decide +kernel) (by decide +kernel) (fun ad ty h => q_objfit (te := "GalleryWalls$Numbers") (by decide +kernel) _ ad ty h) (by simp [va_up, hT, wX2_initT, wX9_initT, wX8_initT, wX6_initT, wX3_initT]) dX11_init_83 ?_
  have hS18 := hS17.p2 (a := 1) (k := 5) (v := 7) (by decide)
  refine g_aload_n X dX11_init_86 rfl 0 rfl ?_
  have hq := hS18 8 (by decide)
  refine g_new X 8 nw_X11_39 rfl (by decide) (by simp [q_st]) hq.1 (fun o9 _ k9 => hq.2 o9 k9) (by simp) (by simp) (Nat.le_of_ble_eq_true rfl) (Nat.le_of_ble_eq_true rfl) dX11_init_87 ?_
  have hS19 := (hS18.sub (S' := [58, 9, 59, 10, 11, 12]) (by decide)).up (a := 8) (t := 14) (by decide) (by decide)
  refine g_dup X dX11_init_90 rfl ?_
  refine g_bipush (v := 12) X dX11_init_91 (by decide) ?_
  refine g_callI (rv := none) (As := [.int 12]) (rest := [.ref 8, .ref 1]) X (by decide) (c_Num l K _ _ _ _ 8 58 12 12 rfl rfl (by decide) (by simp [va_up, hT, wX2_initT, wX9_initT, wX8_initT, wX6_initT, wX3_initT]) (hS19 58 (by decide)) (by simp [q_st]) (by decide) (by decide)) lki_X11_41 rfl rfl (Nat.le_of_ble_eq_true rfl) ⟨Nat.le_of_ble_eq_true rfl, Nat.le_of_ble_eq_true rfl⟩ ⟨Nat.le_of_ble_eq_true rfl, Nat.le_of_ble_eq_true rfl⟩ dX11_init_93 (fun _ => ⟨rfl, by simp [q_ok, va_up, hT, wX2_initT, wX9_initT, wX8_initT, wX6_initT, wX3_initT], by simp [q_ok, va_up, hT, wX2_initT, wX9_initT, wX8_initT, wX6_initT, wX3_initT]⟩) ?_
  have hS20 := ((hS19.sub (S' := [9, 59, 10, 11, 12]) (by decide)).up (a := 58) (t := 1) (by decide) (by decide)).p2 (a := 8) (k := 0) (v := 58) (by decide)
  refine g_putrF X fa_X11_51 hN (by decide +kernel) (by decide +kernel) (fun ad ty h => q_objfit (te := "GalleryWalls$Numbers") (by decide +kernel) _ ad ty h) (by simp [va_up, hT, wX2_initT, wX9_initT, wX8_initT, wX6_initT, wX3_initT]) dX11_init_96 ?_
  have hS21 := hS20.p2 (a := 1) (k := 6) (v := 8) (by decide)
  refine g_aload_n X dX11_init_99 rfl 0 rfl ?_
  have hq := hS21 9 (by decide)
  refine g_new X 9 nw_X11_39 rfl (by decide) (by simp [q_st]) hq.1 (fun o9 _ k9 => hq.2 o9 k9) (by simp) (by simp) (Nat.le_of_ble_eq_true rfl) (Nat.le_of_ble_eq_true rfl) dX11_init_100 ?_
  have hS22 := (hS21.sub (S' := [59, 10, 11, 12]) (by decide)).up (a := 9) (t := 14) (by decide) (by decide)
  refine g_dup X dX11_init_103 rfl ?_
  refine g_bipush (v := 10) X dX11_init_104 (by decide) ?_
  refine g_callI (rv := none) (As := [.int 10]) (rest := [.ref 9, .ref 1]) X (by decide) (c_Num l K _ _ _ _ 9 59 10 10 rfl rfl (by decide) (by simp [va_up, hT, wX2_initT, wX9_initT, wX8_initT, wX6_initT, wX3_initT]) (hS22 59 (by decide)) (by simp [q_st]) (by decide) (by decide)) lki_X11_41 rfl rfl (Nat.le_of_ble_eq_true rfl) ⟨Nat.le_of_ble_eq_true rfl, Nat.le_of_ble_eq_true rfl⟩ ⟨Nat.le_of_ble_eq_true rfl, Nat.le_of_ble_eq_true rfl⟩ dX11_init_106 (fun _ => ⟨rfl, by simp [q_ok, va_up, hT, wX2_initT, wX9_initT, wX8_initT, wX6_initT, wX3_initT], by simp [q_ok, va_up, hT, wX2_initT, wX9_initT, wX8_initT, wX6_initT, wX3_initT]⟩) ?_
  have hS23 := ((hS22.sub (S' := [10, 11, 12]) (by decide)).up (a := 59) (t := 1) (by decide) (by decide)).p2 (a := 9) (k := 0) (v := 59) (by decide)
  refine g_putrF X fa_X11_54 hN (by decide +kernel) (by decide +kernel) (fun ad ty h => q_objfit (te := "GalleryWalls$Numbers") (by decide +kernel) _ ad ty h) (by simp [va_up, hT, wX2_initT, wX9_initT, wX8_initT, wX6_initT, wX3_initT]) dX11_init_109 ?_
  have hS24 := hS23.p2 (a := 1) (k := 7) (v := 9) (by decide)
  refine g_aload_n X dX11_init_112 rfl 0 rfl ?_
  refine g_bipush (v := 12) X dX11_init_113 (by decide) ?_
  have hq := hS24 10 (by decide)
  refine g_newi (n := 12) X 10 wa_int rfl (by decide) (by simp [q_st]) hq.1 (fun o9 _ k9 => hq.2 o9 k9) (by simp) (by simp) (by decide) (by decide) (Nat.le_of_ble_eq_true rfl) (Nat.le_of_ble_eq_true rfl) dX11_init_115 ?_
  have hS25 := (hS24.sub (S' := [11, 12]) (by decide)).up (a := 10) (t := 1) (by decide) (by decide)
  refine g_putrF X fa_X11_57 hN (by decide +kernel) (by decide +kernel) (fun ad ty h => q_arrfit (te := .int) (by decide +kernel) _ ad ty h) (by simp [va_up, hT, wX2_initT, wX9_initT, wX8_initT, wX6_initT, wX3_initT]) dX11_init_117 ?_
  have hS26 := hS25.p2 (a := 1) (k := 8) (v := 10) (by decide)
  refine g_aload_n X dX11_init_120 rfl 0 rfl ?_
  refine g_bipush (v := 12) X dX11_init_121 (by decide) ?_
  have hq := hS26 11 (by decide)
  refine g_newi (n := 12) X 11 wa_int rfl (by decide) (by simp [q_st]) hq.1 (fun o9 _ k9 => hq.2 o9 k9) (by simp) (by simp) (by decide) (by decide) (Nat.le_of_ble_eq_true rfl) (Nat.le_of_ble_eq_true rfl) dX11_init_123 ?_
  have hS27 := (hS26.sub (S' := [12]) (by decide)).up (a := 11) (t := 1) (by decide) (by decide)
  refine g_putrF X fa_X11_61 hN (by decide +kernel) (by decide +kernel) (fun ad ty h => q_arrfit (te := .int) (by decide +kernel) _ ad ty h) (by simp [va_up, hT, wX2_initT, wX9_initT, wX8_initT, wX6_initT, wX3_initT]) dX11_init_125 ?_
  have hS28 := hS27.p2 (a := 1) (k := 9) (v := 11) (by decide)
  refine g_aload_n X dX11_init_128 rfl 0 rfl ?_
  refine g_bipush (v := 24) X dX11_init_129 (by decide) ?_
  have hq := hS28 12 (by decide)
  refine g_newi (n := 24) X 12 wa_int rfl (by decide) (by simp [q_st]) hq.1 (fun o9 _ k9 => hq.2 o9 k9) (by simp) (by simp) (by decide) (by decide) (Nat.le_of_ble_eq_true rfl) (Nat.le_of_ble_eq_true rfl) dX11_init_131 ?_
  have hS29 := (hS28.sub (S' := []) (by decide)).up (a := 12) (t := 1) (by decide) (by decide)
  refine g_putrF X fa_X11_64 hN (by decide +kernel) (by decide +kernel) (fun ad ty h => q_arrfit (te := .int) (by decide +kernel) _ ad ty h) (by simp [va_up, hT, wX2_initT, wX9_initT, wX8_initT, wX6_initT, wX3_initT]) dX11_init_133 ?_
  have hS30 := hS29.p2 (a := 1) (k := 10) (v := 12) (by decide)
  refine g_widen (kc' := 57) (kn' := 3081) (by decide) (by decide) ?_
  exact g_vret X rfl rfl rfl dX11_init_136
def wX12_initT (T : Nat → Nat) : Nat → Nat := (va_up (va_up (va_up (va_up (va_up (va_up (va_up (va_up (va_up (va_up (va_up (va_up (va_up (va_up (va_up (va_up (va_up (va_up (va_up (va_up (va_up (va_up (va_up (va_up (va_up (va_up (va_up (va_up (va_up (va_up (va_up (va_up (va_up (va_up (va_up (va_up (va_up (va_up (va_up (va_up (va_up (va_up (va_up (va_up (va_up (va_up (va_up (va_up (va_up (va_up (va_up (va_up (va_up (va_up (va_up (va_up T 5012 1) 5015 1) 5016 1) 5017 1) 5018 1) 5020 1) 5021 1) 5022 1) 5023 1) 5024 1) 5025 1) 5026 1) 5027 1) 5029 1) 5030 1) 5031 1) 5032 1) 5033 1) 5034 1) 5035 1) 5036 1) 5037 1) 5038 1) 5039 1) 5040 1) 5041 1) 5042 1) 5043 1) 5044 2) 5047 1) 5048 1) 5049 1) 5050 1) 5051 1) 5055 1) 5056 1) 5057 1) 5059 1) 5061 1) 5062 1) 5068 1) 5069 1) 5071 1) 5073 1) 5074 1) 5075 2) 5077 1) 5078 1) 5079 1) 5080 1) 5081 1) 5082 1) 5083 1) 5084 1) 5085 2) 5086 2)
def wX12_initL (L : Nat → Nat) : Nat → Nat := (va_up (va_up (va_up (va_up (va_up (va_up (va_up (va_up (va_up (va_up (va_up (va_up (va_up (va_up (va_up (va_up (va_up (va_up (va_up (va_up (va_up (va_up (va_up (va_up (va_up (va_up (va_up (va_up (va_up (va_up (va_up (va_up (va_up (va_up (va_up (va_up (va_up (va_up (va_up (va_up (va_up (va_up (va_up (va_up (va_up (va_up (va_up (va_up (va_up (va_up (va_up (va_up (va_up (va_up (va_up (va_up L 5012 64) 5015 20) 5016 20) 5017 20) 5018 20) 5020 16) 5021 16) 5022 16) 5023 16) 5024 384) 5025 16) 5026 16) 5027 4) 5029 24) 5030 24) 5031 24) 5032 24) 5033 24) 5034 24) 5035 24) 5036 24) 5037 24) 5038 24) 5039 24) 5040 24) 5041 24) 5042 24) 5043 24) 5044 9600) 5047 30) 5048 30) 5049 1984) 5050 31) 5051 100) 5055 64) 5056 12) 5057 10) 5059 64) 5061 7) 5062 7) 5068 7) 5069 7) 5071 12) 5073 10) 5074 12) 5075 10) 5077 8) 5078 8) 5079 8) 5080 24) 5081 24) 5082 24) 5083 256) 5084 256) 5085 256) 5086 160)
def wX12_initP (P : Nat → Nat → Nat) : Nat → Nat → Nat := (q_p2 (va_up (q_p2 (va_up (q_p2 (va_up (q_p2 (va_up (q_p2 (va_up (q_p2 (va_up (q_p2 (va_up (q_p2 (va_up (q_p2 (va_up (q_p2 (va_up (q_p2 (va_up (q_p2 (va_up (q_p2 (va_up (q_p2 (va_up (q_p2 (va_up (q_p2 (va_up (q_p2 (va_up (q_p2 (va_up (q_p2 (va_up (q_p2 (va_up (q_p2 (va_up (q_p2 (va_up (q_p2 (va_up (q_p2 (va_up (q_p2 (va_up (q_p2 (va_up (q_p2 (va_up (q_p2 (va_up (q_p2 (va_up (q_p2 (va_up (q_p2 (va_up (q_p2 (va_up (q_p2 (va_up (q_p2 (va_up (q_p2 (va_up (q_p2 (va_up (q_p2 (va_up (q_p2 (va_up (q_p2 (va_up (q_p2 (va_up (q_p2 (va_up (q_p2 (va_up (q_p2 (va_up (q_p2 (va_up (q_p2 (va_up (q_p2 (va_up (q_p2 (va_up (q_p2 (va_up (q_p2 (va_up (q_p2 (va_up (q_p2 (va_up (q_p2 (va_up (q_p2 (va_up (q_p2 (va_up (q_p2 (va_up (q_p2 (va_up P 5012 (fun _ => 0)) 5001 2 5012) 5015 (fun _ => 0)) 5001 5 5015) 5016 (fun _ => 0)) 5001 6 5016) 5017 (fun _ => 0)) 5001 7 5017) 5018 (fun _ => 0)) 5001 8 5018) 5020 (fun _ => 0)) 5001 10 5020) 5021 (fun _ => 0)) 5001 11 5021) 5022 (fun _ => 0)) 5001 12 5022) 5023 (fun _ => 0)) 5001 13 5023) 5024 (fun _ => 0)) 5001 14 5024) 5025 (fun _ => 0)) 5001 15 5025) 5026 (fun _ => 0)) 5001 16 5026) 5027 (fun _ => 0)) 5001 17 5027) 5029 (fun _ => 0)) 5001 19 5029) 5030 (fun _ => 0)) 5001 20 5030) 5031 (fun _ => 0)) 5001 21 5031) 5032 (fun _ => 0)) 5001 22 5032) 5033 (fun _ => 0)) 5001 23 5033) 5034 (fun _ => 0)) 5001 24 5034) 5035 (fun _ => 0)) 5001 25 5035) 5036 (fun _ => 0)) 5001 26 5036) 5037 (fun _ => 0)) 5001 27 5037) 5038 (fun _ => 0)) 5001 28 5038) 5039 (fun _ => 0)) 5001 29 5039) 5040 (fun _ => 0)) 5001 30 5040) 5041 (fun _ => 0)) 5001 31 5041) 5042 (fun _ => 0)) 5001 32 5042) 5043 (fun _ => 0)) 5001 33 5043) 5044 (fun _ => 0)) 5001 34 5044) 5047 (fun _ => 0)) 5001 37 5047) 5048 (fun _ => 0)) 5001 38 5048) 5049 (fun _ => 0)) 5001 39 5049) 5050 (fun _ => 0)) 5001 40 5050) 5051 (fun _ => 0)) 5001 41 5051) 5055 (fun _ => 0)) 5001 45 5055) 5056 (fun _ => 0)) 5001 46 5056) 5057 (fun _ => 0)) 5001 47 5057) 5059 (fun _ => 0)) 5001 49 5059) 5061 (fun _ => 0)) 5001 51 5061) 5062 (fun _ => 0)) 5001 52 5062) 5068 (fun _ => 0)) 5001 58 5068) 5069 (fun _ => 0)) 5001 59 5069) 5071 (fun _ => 0)) 5001 61 5071) 5073 (fun _ => 0)) 5001 63 5073) 5074 (fun _ => 0)) 5001 64 5074) 5075 (fun _ => 0)) 5001 65 5075) 5077 (fun _ => 0)) 5001 67 5077) 5078 (fun _ => 0)) 5001 68 5078) 5079 (fun _ => 0)) 5001 69 5079) 5080 (fun _ => 0)) 5001 70 5080) 5081 (fun _ => 0)) 5001 71 5081) 5082 (fun _ => 0)) 5001 72 5082) 5083 (fun _ => 0)) 5001 73 5083) 5084 (fun _ => 0)) 5001 74 5084) 5085 (fun _ => 0)) 5001 75 5085) 5086 (fun _ => 0)) 5001 76 5086)
def wX12_initM (M : q_MM) : q_MM := (va_up (va_up (va_up (va_up (va_up (va_up (va_up (va_up (va_up (va_up (va_up (va_up (va_up (va_up (va_up (va_up (va_up (va_up (va_up (va_up (va_up (va_up (va_up (va_up (va_up (va_up (va_up (va_up (va_up (va_up (va_up (va_up (va_up (va_up (va_up (va_up (va_up (va_up (va_up (va_up (va_up (va_up (va_up (q_u2 (q_u2 (q_u2 (q_u2 (va_up (va_up (va_up (va_up (va_up (va_up (va_up (va_up (va_up (va_up (va_up (va_up (va_up M 5012 (fun _ => 0)) 5015 (fun _ => 0)) 5016 (fun _ => 0)) 5017 (fun _ => 0)) 5018 (fun _ => 0)) 5020 (fun _ => 0)) 5021 (fun _ => 0)) 5022 (fun _ => 0)) 5023 (fun _ => 0)) 5024 (fun _ => 0)) 5025 (fun _ => 0)) 5026 (fun _ => 0)) 5027 (fun _ => 0)) 5027 0 150) 5027 1 20) 5027 2 10) 5027 3 17) 5029 (fun _ => 0)) 5030 (fun _ => 0)) 5031 (fun _ => 0)) 5032 (fun _ => 0)) 5033 (fun _ => 0)) 5034 (fun _ => 0)) 5035 (fun _ => 0)) 5036 (fun _ => 0)) 5037 (fun _ => 0)) 5038 (fun _ => 0)) 5039 (fun _ => 0)) 5040 (fun _ => 0)) 5041 (fun _ => 0)) 5042 (fun _ => 0)) 5043 (fun _ => 0)) 5044 (fun _ => 0)) 5047 (fun _ => 0)) 5048 (fun _ => 0)) 5049 (fun _ => 0)) 5050 (fun _ => 0)) 5051 (fun _ => 0)) 5055 (fun _ => 0)) 5056 (fun _ => 0)) 5057 (fun _ => 0)) 5059 (fun _ => 0)) 5061 (fun _ => 0)) 5062 (fun _ => 0)) 5068 (fun _ => 0)) 5069 (fun _ => 0)) 5071 (fun _ => 0)) 5073 (fun _ => 0)) 5074 (fun _ => 0)) 5075 (fun _ => 0)) 5077 (fun _ => 0)) 5078 (fun _ => 0)) 5079 (fun _ => 0)) 5080 (fun _ => 0)) 5081 (fun _ => 0)) 5082 (fun _ => 0)) 5083 (fun _ => 0)) 5084 (fun _ => 0)) 5085 (fun _ => 0)) 5086 (fun _ => 0))
theorem n_X12_init {S : List Nat} {T : Nat → Nat} {P : Nat → Nat → Nat} (h : q_nos S T P) (hd : ∀ a ∈ [0, 5012, 5015, 5016, 5017, 5018, 5020, 5021, 5022, 5023, 5024, 5025, 5026, 5027, 5029, 5030, 5031, 5032, 5033, 5034, 5035, 5036, 5037, 5038, 5039, 5040, 5041, 5042, 5043, 5044, 5047, 5048, 5049, 5050, 5051, 5055, 5056, 5057, 5059, 5061, 5062, 5068, 5069, 5071, 5073, 5074, 5075, 5077, 5078, 5079, 5080, 5081, 5082, 5083, 5084, 5085, 5086], a ∉ S) : q_nos S (wX12_initT T) (wX12_initP P) := (q_nos.p2 (q_nos.up (q_nos.p2 (q_nos.up (q_nos.p2 (q_nos.up (q_nos.p2 (q_nos.up (q_nos.p2 (q_nos.up (q_nos.p2 (q_nos.up (q_nos.p2 (q_nos.up (q_nos.p2 (q_nos.up (q_nos.p2 (q_nos.up (q_nos.p2 (q_nos.up (q_nos.p2 (q_nos.up (q_nos.p2 (q_nos.up (q_nos.p2 (q_nos.up (q_nos.p2 (q_nos.up (q_nos.p2 (q_nos.up (q_nos.p2 (q_nos.up (q_nos.p2 (q_nos.up (q_nos.p2 (q_nos.up (q_nos.p2 (q_nos.up (q_nos.p2 (q_nos.up (q_nos.p2 (q_nos.up (q_nos.p2 (q_nos.up (q_nos.p2 (q_nos.up (q_nos.p2 (q_nos.up (q_nos.p2 (q_nos.up (q_nos.p2 (q_nos.up (q_nos.p2 (q_nos.up (q_nos.p2 (q_nos.up (q_nos.p2 (q_nos.up (q_nos.p2 (q_nos.up (q_nos.p2 (q_nos.up (q_nos.p2 (q_nos.up (q_nos.p2 (q_nos.up (q_nos.p2 (q_nos.up (q_nos.p2 (q_nos.up (q_nos.p2 (q_nos.up (q_nos.p2 (q_nos.up (q_nos.p2 (q_nos.up (q_nos.p2 (q_nos.up (q_nos.p2 (q_nos.up (q_nos.p2 (q_nos.up (q_nos.p2 (q_nos.up (q_nos.p2 (q_nos.up (q_nos.p2 (q_nos.up (q_nos.p2 (q_nos.up (q_nos.p2 (q_nos.up (q_nos.p2 (q_nos.up (q_nos.p2 (q_nos.up (q_nos.p2 (q_nos.up (q_nos.p2 (q_nos.up (q_nos.p2 (q_nos.up (q_nos.p2 (q_nos.up (q_nos.p2 (q_nos.up (q_nos.p2 (q_nos.up (q_nos.p2 (q_nos.up (q_nos.p2 (q_nos.up h (hd 5012 (by decide)) (hd 0 (by decide))) (hd 5012 (by decide))) (hd 5015 (by decide)) (hd 0 (by decide))) (hd 5015 (by decide))) (hd 5016 (by decide)) (hd 0 (by decide))) (hd 5016 (by decide))) (hd 5017 (by decide)) (hd 0 (by decide))) (hd 5017 (by decide))) (hd 5018 (by decide)) (hd 0 (by decide))) (hd 5018 (by decide))) (hd 5020 (by decide)) (hd 0 (by decide))) (hd 5020 (by decide))) (hd 5021 (by decide)) (hd 0 (by decide))) (hd 5021 (by decide))) (hd 5022 (by decide)) (hd 0 (by decide))) (hd 5022 (by decide))) (hd 5023 (by decide)) (hd 0 (by decide))) (hd 5023 (by decide))) (hd 5024 (by decide)) (hd 0 (by decide))) (hd 5024 (by decide))) (hd 5025 (by decide)) (hd 0 (by decide))) (hd 5025 (by decide))) (hd 5026 (by decide)) (hd 0 (by decide))) (hd 5026 (by decide))) (hd 5027 (by decide)) (hd 0 (by decide))) (hd 5027 (by decide))) (hd 5029 (by decide)) (hd 0 (by decide))) (hd 5029 (by decide))) (hd 5030 (by decide)) (hd 0 (by decide))) (hd 5030 (by decide))) (hd 5031 (by decide)) (hd 0 (by decide))) (hd 5031 (by decide))) (hd 5032 (by decide)) (hd 0 (by decide))) (hd 5032 (by decide))) (hd 5033 (by decide)) (hd 0 (by decide))) (hd 5033 (by decide))) (hd 5034 (by decide)) (hd 0 (by decide))) (hd 5034 (by decide))) (hd 5035 (by decide)) (hd 0 (by decide))) (hd 5035 (by decide))) (hd 5036 (by decide)) (hd 0 (by decide))) (hd 5036 (by decide))) (hd 5037 (by decide)) (hd 0 (by decide))) (hd 5037 (by decide))) (hd 5038 (by decide)) (hd 0 (by decide))) (hd 5038 (by decide))) (hd 5039 (by decide)) (hd 0 (by decide))) (hd 5039 (by decide))) (hd 5040 (by decide)) (hd 0 (by decide))) (hd 5040 (by decide))) (hd 5041 (by decide)) (hd 0 (by decide))) (hd 5041 (by decide))) (hd 5042 (by decide)) (hd 0 (by decide))) (hd 5042 (by decide))) (hd 5043 (by decide)) (hd 0 (by decide))) (hd 5043 (by decide))) (hd 5044 (by decide)) (hd 0 (by decide))) (hd 5044 (by decide))) (hd 5047 (by decide)) (hd 0 (by decide))) (hd 5047 (by decide))) (hd 5048 (by decide)) (hd 0 (by decide))) (hd 5048 (by decide))) (hd 5049 (by decide)) (hd 0 (by decide))) (hd 5049 (by decide))) (hd 5050 (by decide)) (hd 0 (by decide))) (hd 5050 (by decide))) (hd 5051 (by decide)) (hd 0 (by decide))) (hd 5051 (by decide))) (hd 5055 (by decide)) (hd 0 (by decide))) (hd 5055 (by decide))) (hd 5056 (by decide)) (hd 0 (by decide))) (hd 5056 (by decide))) (hd 5057 (by decide)) (hd 0 (by decide))) (hd 5057 (by decide))) (hd 5059 (by decide)) (hd 0 (by decide))) (hd 5059 (by decide))) (hd 5061 (by decide)) (hd 0 (by decide))) (hd 5061 (by decide))) (hd 5062 (by decide)) (hd 0 (by decide))) (hd 5062 (by decide))) (hd 5068 (by decide)) (hd 0 (by decide))) (hd 5068 (by decide))) (hd 5069 (by decide)) (hd 0 (by decide))) (hd 5069 (by decide))) (hd 5071 (by decide)) (hd 0 (by decide))) (hd 5071 (by decide))) (hd 5073 (by decide)) (hd 0 (by decide))) (hd 5073 (by decide))) (hd 5074 (by decide)) (hd 0 (by decide))) (hd 5074 (by decide))) (hd 5075 (by decide)) (hd 0 (by decide))) (hd 5075 (by decide))) (hd 5077 (by decide)) (hd 0 (by decide))) (hd 5077 (by decide))) (hd 5078 (by decide)) (hd 0 (by decide))) (hd 5078 (by decide))) (hd 5079 (by decide)) (hd 0 (by decide))) (hd 5079 (by decide))) (hd 5080 (by decide)) (hd 0 (by decide))) (hd 5080 (by decide))) (hd 5081 (by decide)) (hd 0 (by decide))) (hd 5081 (by decide))) (hd 5082 (by decide)) (hd 0 (by decide))) (hd 5082 (by decide))) (hd 5083 (by decide)) (hd 0 (by decide))) (hd 5083 (by decide))) (hd 5084 (by decide)) (hd 0 (by decide))) (hd 5084 (by decide))) (hd 5085 (by decide)) (hd 0 (by decide))) (hd 5085 (by decide))) (hd 5086 (by decide)) (hd 0 (by decide))) (hd 5086 (by decide)))
set_option maxHeartbeats 8000000 in
set_option maxRecDepth 100000 in
theorem c_X12_init (l : Launch) (K : q_KK) (T : Nat → Nat) (L : Nat → Nat) (P : Nat → Nat → Nat) (M : q_MM) (hT : T 5001 = 22) (hS0 : q_nos [5012, 5015, 5016, 5017, 5018, 5020, 5021, 5022, 5023, 5024, 5025, 5026, 5027, 5029, 5030, 5031, 5032, 5033, 5034, 5035, 5036, 5037, 5038, 5039, 5040, 5041, 5042, 5043, 5044, 5047, 5048, 5049, 5050, 5051, 5055, 5056, 5057, 5059, 5061, 5062, 5068, 5069, 5071, 5073, 5074, 5075, 5077, 5078, 5079, 5080, 5081, 5082, 5083, 5084, 5085, 5086] T P) : Mt l yX12_init cX12_init 1 none 1 20 56 14009 true K [.ref 5001] (T, L, P, M) none (wX12_initT T, wX12_initL L, wX12_initP P, wX12_initM M) := by
  refine Mt.of (ρ := Unit) (F := some ()) (fun _ => none) (fun _ => (wX12_initT T, wX12_initL L, wX12_initP P, wX12_initM M)) (by decide) (Nat.le_of_ble_eq_true rfl) ?_ () rfl
  intro p e s m args below meth c0 A ad X hN
  refine g_sub (lv' := [(0, .ref 5001)]) [0] rfl ?_
  refine g_aload_n X dX12_init_0 rfl 0 rfl ?_
  refine g_objinit X (by decide) lko_X12_511 (Nat.le_of_ble_eq_true rfl) (Nat.le_of_ble_eq_true rfl) dX12_init_1 ?_
  refine g_aload_n X dX12_init_4 rfl 0 rfl ?_
  refine g_bipush (v := 64) X dX12_init_5 (by decide) ?_
  have hq := hS0 5012 (by decide)
  refine g_newi (n := 64) X 5012 wa_int rfl (by decide) (by simp [q_st]) hq.1 (fun o9 _ k9 => hq.2 o9 k9) (by simp) (by simp) (by decide) (by decide) (Nat.le_of_ble_eq_true rfl) (Nat.le_of_ble_eq_true rfl) dX12_init_7 ?_
  have hS1 := (hS0.sub (S' := [5015, 5016, 5017, 5018, 5020, 5021, 5022, 5023, 5024, 5025, 5026, 5027, 5029, 5030, 5031, 5032, 5033, 5034, 5035, 5036, 5037, 5038, 5039, 5040, 5041, 5042, 5043, 5044, 5047, 5048, 5049, 5050, 5051, 5055, 5056, 5057, 5059, 5061, 5062, 5068, 5069, 5071, 5073, 5074, 5075, 5077, 5078, 5079, 5080, 5081, 5082, 5083, 5084, 5085, 5086]) (by decide)).up (a := 5012) (t := 1) (by decide) (by decide)
  refine g_putrF X fa_X12_7 hN (by decide +kernel) (by decide +kernel) (fun ad ty h => q_arrfit (te := .int) (by decide +kernel) _ ad ty h) (by simp [va_up, hT]) dX12_init_9 ?_
  have hS2 := hS1.p2 (a := 5001) (k := 2) (v := 5012) (by decide)
  refine g_aload_n X dX12_init_12 rfl 0 rfl ?_
  refine g_bipush (v := 20) X dX12_init_13 (by decide) ?_
  have hq := hS2 5015 (by decide)
  refine g_newi (n := 20) X 5015 wa_int rfl (by decide) (by simp [q_st]) hq.1 (fun o9 _ k9 => hq.2 o9 k9) (by simp) (by simp) (by decide) (by decide) (Nat.le_of_ble_eq_true rfl) (Nat.le_of_ble_eq_true rfl) dX12_init_15 ?_
  have hS3 := (hS2.sub (S' := [5016, 5017, 5018, 5020, 5021, 5022, 5023, 5024, 5025, 5026, 5027, 5029, 5030, 5031, 5032, 5033, 5034, 5035, 5036, 5037, 5038, 5039, 5040, 5041, 5042, 5043, 5044, 5047, 5048, 5049, 5050, 5051, 5055, 5056, 5057, 5059, 5061, 5062, 5068, 5069, 5071, 5073, 5074, 5075, 5077, 5078, 5079, 5080, 5081, 5082, 5083, 5084, 5085, 5086]) (by decide)).up (a := 5015) (t := 1) (by decide) (by decide)
  refine g_putrF X fa_X12_39 hN (by decide +kernel) (by decide +kernel) (fun ad ty h => q_arrfit (te := .int) (by decide +kernel) _ ad ty h) (by simp [va_up, hT]) dX12_init_17 ?_
  have hS4 := hS3.p2 (a := 5001) (k := 5) (v := 5015) (by decide)
  refine g_aload_n X dX12_init_20 rfl 0 rfl ?_
  refine g_bipush (v := 20) X dX12_init_21 (by decide) ?_
  have hq := hS4 5016 (by decide)
  refine g_newi (n := 20) X 5016 wa_int rfl (by decide) (by simp [q_st]) hq.1 (fun o9 _ k9 => hq.2 o9 k9) (by simp) (by simp) (by decide) (by decide) (Nat.le_of_ble_eq_true rfl) (Nat.le_of_ble_eq_true rfl) dX12_init_23 ?_
  have hS5 := (hS4.sub (S' := [5017, 5018, 5020, 5021, 5022, 5023, 5024, 5025, 5026, 5027, 5029, 5030, 5031, 5032, 5033, 5034, 5035, 5036, 5037, 5038, 5039, 5040, 5041, 5042, 5043, 5044, 5047, 5048, 5049, 5050, 5051, 5055, 5056, 5057, 5059, 5061, 5062, 5068, 5069, 5071, 5073, 5074, 5075, 5077, 5078, 5079, 5080, 5081, 5082, 5083, 5084, 5085, 5086]) (by decide)).up (a := 5016) (t := 1) (by decide) (by decide)
  refine g_putrF X fa_X12_42 hN (by decide +kernel) (by decide +kernel) (fun ad ty h => q_arrfit (te := .int) (by decide +kernel) _ ad ty h) (by simp [va_up, hT]) dX12_init_25 ?_
  have hS6 := hS5.p2 (a := 5001) (k := 6) (v := 5016) (by decide)
  refine g_aload_n X dX12_init_28 rfl 0 rfl ?_
  refine g_bipush (v := 20) X dX12_init_29 (by decide) ?_
  have hq := hS6 5017 (by decide)
  refine g_newi (n := 20) X 5017 wa_int rfl (by decide) (by simp [q_st]) hq.1 (fun o9 _ k9 => hq.2 o9 k9) (by simp) (by simp) (by decide) (by decide) (Nat.le_of_ble_eq_true rfl) (Nat.le_of_ble_eq_true rfl) dX12_init_31 ?_
  have hS7 := (hS6.sub (S' := [5018, 5020, 5021, 5022, 5023, 5024, 5025, 5026, 5027, 5029, 5030, 5031, 5032, 5033, 5034, 5035, 5036, 5037, 5038, 5039, 5040, 5041, 5042, 5043, 5044, 5047, 5048, 5049, 5050, 5051, 5055, 5056, 5057, 5059, 5061, 5062, 5068, 5069, 5071, 5073, 5074, 5075, 5077, 5078, 5079, 5080, 5081, 5082, 5083, 5084, 5085, 5086]) (by decide)).up (a := 5017) (t := 1) (by decide) (by decide)
  refine g_putrF X fa_X12_45 hN (by decide +kernel) (by decide +kernel) (fun ad ty h => q_arrfit (te := .int) (by decide +kernel) _ ad ty h) (by simp [va_up, hT]) dX12_init_33 ?_
  have hS8 := hS7.p2 (a := 5001) (k := 7) (v := 5017) (by decide)
  refine g_aload_n X dX12_init_36 rfl 0 rfl ?_
  refine g_bipush (v := 20) X dX12_init_37 (by decide) ?_
  have hq := hS8 5018 (by decide)
  refine g_newi (n := 20) X 5018 wa_int rfl (by decide) (by simp [q_st]) hq.1 (fun o9 _ k9 => hq.2 o9 k9) (by simp) (by simp) (by decide) (by decide) (Nat.le_of_ble_eq_true rfl) (Nat.le_of_ble_eq_true rfl) dX12_init_39 ?_
  have hS9 := (hS8.sub (S' := [5020, 5021, 5022, 5023, 5024, 5025, 5026, 5027, 5029, 5030, 5031, 5032, 5033, 5034, 5035, 5036, 5037, 5038, 5039, 5040, 5041, 5042, 5043, 5044, 5047, 5048, 5049, 5050, 5051, 5055, 5056, 5057, 5059, 5061, 5062, 5068, 5069, 5071, 5073, 5074, 5075, 5077, 5078, 5079, 5080, 5081, 5082, 5083, 5084, 5085, 5086]) (by decide)).up (a := 5018) (t := 1) (by decide) (by decide)
  refine g_putrF X fa_X12_48 hN (by decide +kernel) (by decide +kernel) (fun ad ty h => q_arrfit (te := .int) (by decide +kernel) _ ad ty h) (by simp [va_up, hT]) dX12_init_41 ?_
  have hS10 := hS9.p2 (a := 5001) (k := 8) (v := 5018) (by decide)
  refine g_aload_n X dX12_init_44 rfl 0 rfl ?_
  refine g_bipush (v := 16) X dX12_init_45 (by decide) ?_
  have hq := hS10 5020 (by decide)
  refine g_newi (n := 16) X 5020 wa_int rfl (by decide) (by simp [q_st]) hq.1 (fun o9 _ k9 => hq.2 o9 k9) (by simp) (by simp) (by decide) (by decide) (Nat.le_of_ble_eq_true rfl) (Nat.le_of_ble_eq_true rfl) dX12_init_47 ?_
  have hS11 := (hS10.sub (S' := [5021, 5022, 5023, 5024, 5025, 5026, 5027, 5029, 5030, 5031, 5032, 5033, 5034, 5035, 5036, 5037, 5038, 5039, 5040, 5041, 5042, 5043, 5044, 5047, 5048, 5049, 5050, 5051, 5055, 5056, 5057, 5059, 5061, 5062, 5068, 5069, 5071, 5073, 5074, 5075, 5077, 5078, 5079, 5080, 5081, 5082, 5083, 5084, 5085, 5086]) (by decide)).up (a := 5020) (t := 1) (by decide) (by decide)
  refine g_putrF X fa_X12_57 hN (by decide +kernel) (by decide +kernel) (fun ad ty h => q_arrfit (te := .int) (by decide +kernel) _ ad ty h) (by simp [va_up, hT]) dX12_init_49 ?_
  have hS12 := hS11.p2 (a := 5001) (k := 10) (v := 5020) (by decide)
  refine g_aload_n X dX12_init_52 rfl 0 rfl ?_
  refine g_bipush (v := 16) X dX12_init_53 (by decide) ?_
  have hq := hS12 5021 (by decide)
  refine g_newi (n := 16) X 5021 wa_int rfl (by decide) (by simp [q_st]) hq.1 (fun o9 _ k9 => hq.2 o9 k9) (by simp) (by simp) (by decide) (by decide) (Nat.le_of_ble_eq_true rfl) (Nat.le_of_ble_eq_true rfl) dX12_init_55 ?_
  have hS13 := (hS12.sub (S' := [5022, 5023, 5024, 5025, 5026, 5027, 5029, 5030, 5031, 5032, 5033, 5034, 5035, 5036, 5037, 5038, 5039, 5040, 5041, 5042, 5043, 5044, 5047, 5048, 5049, 5050, 5051, 5055, 5056, 5057, 5059, 5061, 5062, 5068, 5069, 5071, 5073, 5074, 5075, 5077, 5078, 5079, 5080, 5081, 5082, 5083, 5084, 5085, 5086]) (by decide)).up (a := 5021) (t := 1) (by decide) (by decide)
  refine g_putrF X fa_X12_60 hN (by decide +kernel) (by decide +kernel) (fun ad ty h => q_arrfit (te := .int) (by decide +kernel) _ ad ty h) (by simp [va_up, hT]) dX12_init_57 ?_
  have hS14 := hS13.p2 (a := 5001) (k := 11) (v := 5021) (by decide)
  refine g_aload_n X dX12_init_60 rfl 0 rfl ?_
  refine g_bipush (v := 16) X dX12_init_61 (by decide) ?_
  have hq := hS14 5022 (by decide)
  refine g_newi (n := 16) X 5022 wa_int rfl (by decide) (by simp [q_st]) hq.1 (fun o9 _ k9 => hq.2 o9 k9) (by simp) (by simp) (by decide) (by decide) (Nat.le_of_ble_eq_true rfl) (Nat.le_of_ble_eq_true rfl) dX12_init_63 ?_
  have hS15 := (hS14.sub (S' := [5023, 5024, 5025, 5026, 5027, 5029, 5030, 5031, 5032, 5033, 5034, 5035, 5036, 5037, 5038, 5039, 5040, 5041, 5042, 5043, 5044, 5047, 5048, 5049, 5050, 5051, 5055, 5056, 5057, 5059, 5061, 5062, 5068, 5069, 5071, 5073, 5074, 5075, 5077, 5078, 5079, 5080, 5081, 5082, 5083, 5084, 5085, 5086]) (by decide)).up (a := 5022) (t := 1) (by decide) (by decide)
  refine g_putrF X fa_X12_63 hN (by decide +kernel) (by decide +kernel) (fun ad ty h => q_arrfit (te := .int) (by decide +kernel) _ ad ty h) (by simp [va_up, hT]) dX12_init_65 ?_
  have hS16 := hS15.p2 (a := 5001) (k := 12) (v := 5022) (by decide)
  refine g_aload_n X dX12_init_68 rfl 0 rfl ?_
  refine g_bipush (v := 16) X dX12_init_69 (by decide) ?_
  have hq := hS16 5023 (by decide)
  refine g_newi (n := 16) X 5023 wa_int rfl (by decide) (by simp [q_st]) hq.1 (fun o9 _ k9 => hq.2 o9 k9) (by simp) (by simp) (by decide) (by decide) (Nat.le_of_ble_eq_true rfl) (Nat.le_of_ble_eq_true rfl) dX12_init_71 ?_
  have hS17 := (hS16.sub (S' := [5024, 5025, 5026, 5027, 5029, 5030, 5031, 5032, 5033, 5034, 5035, 5036, 5037, 5038, 5039, 5040, 5041, 5042, 5043, 5044, 5047, 5048, 5049, 5050, 5051, 5055, 5056, 5057, 5059, 5061, 5062, 5068, 5069, 5071, 5073, 5074, 5075, 5077, 5078, 5079, 5080, 5081, 5082, 5083, 5084, 5085, 5086]) (by decide)).up (a := 5023) (t := 1) (by decide) (by decide)
  refine g_putrF X fa_X12_66 hN (by decide +kernel) (by decide +kernel) (fun ad ty h => q_arrfit (te := .int) (by decide +kernel) _ ad ty h) (by simp [va_up, hT]) dX12_init_73 ?_
  have hS18 := hS17.p2 (a := 5001) (k := 13) (v := 5023) (by decide)
  refine g_aload_n X dX12_init_76 rfl 0 rfl ?_
  refine g_sipush (v := 384) X dX12_init_77 (by decide) ?_
  have hq := hS18 5024 (by decide)
  refine g_newi (n := 384) X 5024 wa_int rfl (by decide) (by simp [q_st]) hq.1 (fun o9 _ k9 => hq.2 o9 k9) (by simp) (by simp) (by decide) (by decide) (Nat.le_of_ble_eq_true rfl) (Nat.le_of_ble_eq_true rfl) dX12_init_80 ?_
  have hS19 := (hS18.sub (S' := [5025, 5026, 5027, 5029, 5030, 5031, 5032, 5033, 5034, 5035, 5036, 5037, 5038, 5039, 5040, 5041, 5042, 5043, 5044, 5047, 5048, 5049, 5050, 5051, 5055, 5056, 5057, 5059, 5061, 5062, 5068, 5069, 5071, 5073, 5074, 5075, 5077, 5078, 5079, 5080, 5081, 5082, 5083, 5084, 5085, 5086]) (by decide)).up (a := 5024) (t := 1) (by decide) (by decide)
  refine g_putrF X fa_X12_78 hN (by decide +kernel) (by decide +kernel) (fun ad ty h => q_arrfit (te := .int) (by decide +kernel) _ ad ty h) (by simp [va_up, hT]) dX12_init_82 ?_
  have hS20 := hS19.p2 (a := 5001) (k := 14) (v := 5024) (by decide)
  refine g_aload_n X dX12_init_85 rfl 0 rfl ?_
  refine g_bipush (v := 16) X dX12_init_86 (by decide) ?_
  have hq := hS20 5025 (by decide)
  refine g_newi (n := 16) X 5025 wa_int rfl (by decide) (by simp [q_st]) hq.1 (fun o9 _ k9 => hq.2 o9 k9) (by simp) (by simp) (by decide) (by decide) (Nat.le_of_ble_eq_true rfl) (Nat.le_of_ble_eq_true rfl) dX12_init_88 ?_
  have hS21 := (hS20.sub (S' := [5026, 5027, 5029, 5030, 5031, 5032, 5033, 5034, 5035, 5036, 5037, 5038, 5039, 5040, 5041, 5042, 5043, 5044, 5047, 5048, 5049, 5050, 5051, 5055, 5056, 5057, 5059, 5061, 5062, 5068, 5069, 5071, 5073, 5074, 5075, 5077, 5078, 5079, 5080, 5081, 5082, 5083, 5084, 5085, 5086]) (by decide)).up (a := 5025) (t := 1) (by decide) (by decide)
  refine g_putrF X fa_X12_69 hN (by decide +kernel) (by decide +kernel) (fun ad ty h => q_arrfit (te := .int) (by decide +kernel) _ ad ty h) (by simp [va_up, hT]) dX12_init_90 ?_
  have hS22 := hS21.p2 (a := 5001) (k := 15) (v := 5025) (by decide)
  refine g_aload_n X dX12_init_93 rfl 0 rfl ?_
  refine g_bipush (v := 16) X dX12_init_94 (by decide) ?_
  have hq := hS22 5026 (by decide)
  refine g_newi (n := 16) X 5026 wa_int rfl (by decide) (by simp [q_st]) hq.1 (fun o9 _ k9 => hq.2 o9 k9) (by simp) (by simp) (by decide) (by decide) (Nat.le_of_ble_eq_true rfl) (Nat.le_of_ble_eq_true rfl) dX12_init_96 ?_
  have hS23 := (hS22.sub (S' := [5027, 5029, 5030, 5031, 5032, 5033, 5034, 5035, 5036, 5037, 5038, 5039, 5040, 5041, 5042, 5043, 5044, 5047, 5048, 5049, 5050, 5051, 5055, 5056, 5057, 5059, 5061, 5062, 5068, 5069, 5071, 5073, 5074, 5075, 5077, 5078, 5079, 5080, 5081, 5082, 5083, 5084, 5085, 5086]) (by decide)).up (a := 5026) (t := 1) (by decide) (by decide)
  refine g_putrF X fa_X12_72 hN (by decide +kernel) (by decide +kernel) (fun ad ty h => q_arrfit (te := .int) (by decide +kernel) _ ad ty h) (by simp [va_up, hT]) dX12_init_98 ?_
  have hS24 := hS23.p2 (a := 5001) (k := 16) (v := 5026) (by decide)
  refine g_aload_n X dX12_init_101 rfl 0 rfl ?_
  refine g_iconst (v := 4) X dX12_init_102 (by decide) ?_
  have hq := hS24 5027 (by decide)
  refine g_newi (n := 4) X 5027 wa_int rfl (by decide) (by simp [q_st]) hq.1 (fun o9 _ k9 => hq.2 o9 k9) (by simp) (by simp) (by decide) (by decide) (Nat.le_of_ble_eq_true rfl) (Nat.le_of_ble_eq_true rfl) dX12_init_103 ?_
  have hS25 := (hS24.sub (S' := [5029, 5030, 5031, 5032, 5033, 5034, 5035, 5036, 5037, 5038, 5039, 5040, 5041, 5042, 5043, 5044, 5047, 5048, 5049, 5050, 5051, 5055, 5056, 5057, 5059, 5061, 5062, 5068, 5069, 5071, 5073, 5074, 5075, 5077, 5078, 5079, 5080, 5081, 5082, 5083, 5084, 5085, 5086]) (by decide)).up (a := 5027) (t := 1) (by decide) (by decide)
  refine g_dup X dX12_init_105 rfl ?_
  refine g_iconst (v := 0) X dX12_init_106 (by decide) ?_
  refine g_sipush (v := 150) X dX12_init_107 (by decide) ?_
  refine g_iastc (n := 4) X (by simp [va_up, hT]) (by simp [va_up]) (by decide) dX12_init_110 ?_
  refine g_dup X dX12_init_111 rfl ?_
  refine g_iconst (v := 1) X dX12_init_112 (by decide) ?_
  refine g_bipush (v := 20) X dX12_init_113 (by decide) ?_
  refine g_iastc (n := 4) X (by simp [va_up, hT]) (by simp [va_up]) (by decide) dX12_init_115 ?_
  refine g_dup X dX12_init_116 rfl ?_
  refine g_iconst (v := 2) X dX12_init_117 (by decide) ?_
  refine g_bipush (v := 10) X dX12_init_118 (by decide) ?_
  refine g_iastc (n := 4) X (by simp [va_up, hT]) (by simp [va_up]) (by decide) dX12_init_120 ?_
  refine g_dup X dX12_init_121 rfl ?_
  refine g_iconst (v := 3) X dX12_init_122 (by decide) ?_
  refine g_bipush (v := 17) X dX12_init_123 (by decide) ?_
  refine g_iastc (n := 4) X (by simp [va_up, hT]) (by simp [va_up]) (by decide) dX12_init_125 ?_
  refine g_putrF X fa_X12_75 hN (by decide +kernel) (by decide +kernel) (fun ad ty h => q_arrfit (te := .int) (by decide +kernel) _ ad ty h) (by simp [va_up, hT]) dX12_init_126 ?_
  have hS26 := hS25.p2 (a := 5001) (k := 17) (v := 5027) (by decide)
  refine g_aload_n X dX12_init_129 rfl 0 rfl ?_
  refine g_bipush (v := 24) X dX12_init_130 (by decide) ?_
  have hq := hS26 5029 (by decide)
  refine g_newi (n := 24) X 5029 wa_int rfl (by decide) (by simp [q_st]) hq.1 (fun o9 _ k9 => hq.2 o9 k9) (by simp) (by simp) (by decide) (by decide) (Nat.le_of_ble_eq_true rfl) (Nat.le_of_ble_eq_true rfl) dX12_init_132 ?_
  have hS27 := (hS26.sub (S' := [5030, 5031, 5032, 5033, 5034, 5035, 5036, 5037, 5038, 5039, 5040, 5041, 5042, 5043, 5044, 5047, 5048, 5049, 5050, 5051, 5055, 5056, 5057, 5059, 5061, 5062, 5068, 5069, 5071, 5073, 5074, 5075, 5077, 5078, 5079, 5080, 5081, 5082, 5083, 5084, 5085, 5086]) (by decide)).up (a := 5029) (t := 1) (by decide) (by decide)
  refine g_putrF X fa_X12_121 hN (by decide +kernel) (by decide +kernel) (fun ad ty h => q_arrfit (te := .int) (by decide +kernel) _ ad ty h) (by simp [va_up, hT]) dX12_init_134 ?_
  have hS28 := hS27.p2 (a := 5001) (k := 19) (v := 5029) (by decide)
  refine g_aload_n X dX12_init_137 rfl 0 rfl ?_
  refine g_bipush (v := 24) X dX12_init_138 (by decide) ?_
  have hq := hS28 5030 (by decide)
  refine g_newi (n := 24) X 5030 wa_int rfl (by decide) (by simp [q_st]) hq.1 (fun o9 _ k9 => hq.2 o9 k9) (by simp) (by simp) (by decide) (by decide) (Nat.le_of_ble_eq_true rfl) (Nat.le_of_ble_eq_true rfl) dX12_init_140 ?_
  have hS29 := (hS28.sub (S' := [5031, 5032, 5033, 5034, 5035, 5036, 5037, 5038, 5039, 5040, 5041, 5042, 5043, 5044, 5047, 5048, 5049, 5050, 5051, 5055, 5056, 5057, 5059, 5061, 5062, 5068, 5069, 5071, 5073, 5074, 5075, 5077, 5078, 5079, 5080, 5081, 5082, 5083, 5084, 5085, 5086]) (by decide)).up (a := 5030) (t := 1) (by decide) (by decide)
  refine g_putrF X fa_X12_124 hN (by decide +kernel) (by decide +kernel) (fun ad ty h => q_arrfit (te := .int) (by decide +kernel) _ ad ty h) (by simp [va_up, hT]) dX12_init_142 ?_
  have hS30 := hS29.p2 (a := 5001) (k := 20) (v := 5030) (by decide)
  refine g_aload_n X dX12_init_145 rfl 0 rfl ?_
  refine g_bipush (v := 24) X dX12_init_146 (by decide) ?_
  have hq := hS30 5031 (by decide)
  refine g_newi (n := 24) X 5031 wa_int rfl (by decide) (by simp [q_st]) hq.1 (fun o9 _ k9 => hq.2 o9 k9) (by simp) (by simp) (by decide) (by decide) (Nat.le_of_ble_eq_true rfl) (Nat.le_of_ble_eq_true rfl) dX12_init_148 ?_
  have hS31 := (hS30.sub (S' := [5032, 5033, 5034, 5035, 5036, 5037, 5038, 5039, 5040, 5041, 5042, 5043, 5044, 5047, 5048, 5049, 5050, 5051, 5055, 5056, 5057, 5059, 5061, 5062, 5068, 5069, 5071, 5073, 5074, 5075, 5077, 5078, 5079, 5080, 5081, 5082, 5083, 5084, 5085, 5086]) (by decide)).up (a := 5031) (t := 1) (by decide) (by decide)
  refine g_putrF X fa_X12_127 hN (by decide +kernel) (by decide +kernel) (fun ad ty h => q_arrfit (te := .int) (by decide +kernel) _ ad ty h) (by simp [va_up, hT]) dX12_init_150 ?_
  have hS32 := hS31.p2 (a := 5001) (k := 21) (v := 5031) (by decide)
  refine g_aload_n X dX12_init_153 rfl 0 rfl ?_
  refine g_bipush (v := 24) X dX12_init_154 (by decide) ?_
  have hq := hS32 5032 (by decide)
  refine g_newi (n := 24) X 5032 wa_int rfl (by decide) (by simp [q_st]) hq.1 (fun o9 _ k9 => hq.2 o9 k9) (by simp) (by simp) (by decide) (by decide) (Nat.le_of_ble_eq_true rfl) (Nat.le_of_ble_eq_true rfl) dX12_init_156 ?_
  have hS33 := (hS32.sub (S' := [5033, 5034, 5035, 5036, 5037, 5038, 5039, 5040, 5041, 5042, 5043, 5044, 5047, 5048, 5049, 5050, 5051, 5055, 5056, 5057, 5059, 5061, 5062, 5068, 5069, 5071, 5073, 5074, 5075, 5077, 5078, 5079, 5080, 5081, 5082, 5083, 5084, 5085, 5086]) (by decide)).up (a := 5032) (t := 1) (by decide) (by decide)
  refine g_putrF X fa_X12_130 hN (by decide +kernel) (by decide +kernel) (fun ad ty h => q_arrfit (te := .int) (by decide +kernel) _ ad ty h) (by simp [va_up, hT]) dX12_init_158 ?_
  have hS34 := hS33.p2 (a := 5001) (k := 22) (v := 5032) (by decide)
  refine g_aload_n X dX12_init_161 rfl 0 rfl ?_
  refine g_bipush (v := 24) X dX12_init_162 (by decide) ?_
  have hq := hS34 5033 (by decide)
  refine g_newi (n := 24) X 5033 wa_int rfl (by decide) (by simp [q_st]) hq.1 (fun o9 _ k9 => hq.2 o9 k9) (by simp) (by simp) (by decide) (by decide) (Nat.le_of_ble_eq_true rfl) (Nat.le_of_ble_eq_true rfl) dX12_init_164 ?_
  have hS35 := (hS34.sub (S' := [5034, 5035, 5036, 5037, 5038, 5039, 5040, 5041, 5042, 5043, 5044, 5047, 5048, 5049, 5050, 5051, 5055, 5056, 5057, 5059, 5061, 5062, 5068, 5069, 5071, 5073, 5074, 5075, 5077, 5078, 5079, 5080, 5081, 5082, 5083, 5084, 5085, 5086]) (by decide)).up (a := 5033) (t := 1) (by decide) (by decide)
  refine g_putrF X fa_X12_133 hN (by decide +kernel) (by decide +kernel) (fun ad ty h => q_arrfit (te := .int) (by decide +kernel) _ ad ty h) (by simp [va_up, hT]) dX12_init_166 ?_
  have hS36 := hS35.p2 (a := 5001) (k := 23) (v := 5033) (by decide)
  refine g_aload_n X dX12_init_169 rfl 0 rfl ?_
  refine g_bipush (v := 24) X dX12_init_170 (by decide) ?_
  have hq := hS36 5034 (by decide)
  refine g_newi (n := 24) X 5034 wa_int rfl (by decide) (by simp [q_st]) hq.1 (fun o9 _ k9 => hq.2 o9 k9) (by simp) (by simp) (by decide) (by decide) (Nat.le_of_ble_eq_true rfl) (Nat.le_of_ble_eq_true rfl) dX12_init_172 ?_
  have hS37 := (hS36.sub (S' := [5035, 5036, 5037, 5038, 5039, 5040, 5041, 5042, 5043, 5044, 5047, 5048, 5049, 5050, 5051, 5055, 5056, 5057, 5059, 5061, 5062, 5068, 5069, 5071, 5073, 5074, 5075, 5077, 5078, 5079, 5080, 5081, 5082, 5083, 5084, 5085, 5086]) (by decide)).up (a := 5034) (t := 1) (by decide) (by decide)
  refine g_putrF X fa_X12_136 hN (by decide +kernel) (by decide +kernel) (fun ad ty h => q_arrfit (te := .int) (by decide +kernel) _ ad ty h) (by simp [va_up, hT]) dX12_init_174 ?_
  have hS38 := hS37.p2 (a := 5001) (k := 24) (v := 5034) (by decide)
  refine g_aload_n X dX12_init_177 rfl 0 rfl ?_
  refine g_bipush (v := 24) X dX12_init_178 (by decide) ?_
  have hq := hS38 5035 (by decide)
  refine g_newi (n := 24) X 5035 wa_int rfl (by decide) (by simp [q_st]) hq.1 (fun o9 _ k9 => hq.2 o9 k9) (by simp) (by simp) (by decide) (by decide) (Nat.le_of_ble_eq_true rfl) (Nat.le_of_ble_eq_true rfl) dX12_init_180 ?_
  have hS39 := (hS38.sub (S' := [5036, 5037, 5038, 5039, 5040, 5041, 5042, 5043, 5044, 5047, 5048, 5049, 5050, 5051, 5055, 5056, 5057, 5059, 5061, 5062, 5068, 5069, 5071, 5073, 5074, 5075, 5077, 5078, 5079, 5080, 5081, 5082, 5083, 5084, 5085, 5086]) (by decide)).up (a := 5035) (t := 1) (by decide) (by decide)
  refine g_putrF X fa_X12_139 hN (by decide +kernel) (by decide +kernel) (fun ad ty h => q_arrfit (te := .int) (by decide +kernel) _ ad ty h) (by simp [va_up, hT]) dX12_init_182 ?_
  have hS40 := hS39.p2 (a := 5001) (k := 25) (v := 5035) (by decide)
  refine g_aload_n X dX12_init_185 rfl 0 rfl ?_
  refine g_bipush (v := 24) X dX12_init_186 (by decide) ?_
  have hq := hS40 5036 (by decide)
  refine g_newi (n := 24) X 5036 wa_int rfl (by decide) (by simp [q_st]) hq.1 (fun o9 _ k9 => hq.2 o9 k9) (by simp) (by simp) (by decide) (by decide) (Nat.le_of_ble_eq_true rfl) (Nat.le_of_ble_eq_true rfl) dX12_init_188 ?_
  have hS41 := (hS40.sub (S' := [5037, 5038, 5039, 5040, 5041, 5042, 5043, 5044, 5047, 5048, 5049, 5050, 5051, 5055, 5056, 5057, 5059, 5061, 5062, 5068, 5069, 5071, 5073, 5074, 5075, 5077, 5078, 5079, 5080, 5081, 5082, 5083, 5084, 5085, 5086]) (by decide)).up (a := 5036) (t := 1) (by decide) (by decide)
  refine g_putrF X fa_X12_142 hN (by decide +kernel) (by decide +kernel) (fun ad ty h => q_arrfit (te := .int) (by decide +kernel) _ ad ty h) (by simp [va_up, hT]) dX12_init_190 ?_
  have hS42 := hS41.p2 (a := 5001) (k := 26) (v := 5036) (by decide)
  refine g_aload_n X dX12_init_193 rfl 0 rfl ?_
  refine g_bipush (v := 24) X dX12_init_194 (by decide) ?_
  have hq := hS42 5037 (by decide)
  refine g_newi (n := 24) X 5037 wa_int rfl (by decide) (by simp [q_st]) hq.1 (fun o9 _ k9 => hq.2 o9 k9) (by simp) (by simp) (by decide) (by decide) (Nat.le_of_ble_eq_true rfl) (Nat.le_of_ble_eq_true rfl) dX12_init_196 ?_
  have hS43 := (hS42.sub (S' := [5038, 5039, 5040, 5041, 5042, 5043, 5044, 5047, 5048, 5049, 5050, 5051, 5055, 5056, 5057, 5059, 5061, 5062, 5068, 5069, 5071, 5073, 5074, 5075, 5077, 5078, 5079, 5080, 5081, 5082, 5083, 5084, 5085, 5086]) (by decide)).up (a := 5037) (t := 1) (by decide) (by decide)
  refine g_putrF X fa_X12_145 hN (by decide +kernel) (by decide +kernel) (fun ad ty h => q_arrfit (te := .int) (by decide +kernel) _ ad ty h) (by simp [va_up, hT]) dX12_init_198 ?_
  have hS44 := hS43.p2 (a := 5001) (k := 27) (v := 5037) (by decide)
  refine g_aload_n X dX12_init_201 rfl 0 rfl ?_
  refine g_bipush (v := 24) X dX12_init_202 (by decide) ?_
  have hq := hS44 5038 (by decide)
  refine g_newi (n := 24) X 5038 wa_int rfl (by decide) (by simp [q_st]) hq.1 (fun o9 _ k9 => hq.2 o9 k9) (by simp) (by simp) (by decide) (by decide) (Nat.le_of_ble_eq_true rfl) (Nat.le_of_ble_eq_true rfl) dX12_init_204 ?_
  have hS45 := (hS44.sub (S' := [5039, 5040, 5041, 5042, 5043, 5044, 5047, 5048, 5049, 5050, 5051, 5055, 5056, 5057, 5059, 5061, 5062, 5068, 5069, 5071, 5073, 5074, 5075, 5077, 5078, 5079, 5080, 5081, 5082, 5083, 5084, 5085, 5086]) (by decide)).up (a := 5038) (t := 1) (by decide) (by decide)
  refine g_putrF X fa_X12_148 hN (by decide +kernel) (by decide +kernel) (fun ad ty h => q_arrfit (te := .int) (by decide +kernel) _ ad ty h) (by simp [va_up, hT]) dX12_init_206 ?_
  have hS46 := hS45.p2 (a := 5001) (k := 28) (v := 5038) (by decide)
  refine g_aload_n X dX12_init_209 rfl 0 rfl ?_
  refine g_bipush (v := 24) X dX12_init_210 (by decide) ?_
  have hq := hS46 5039 (by decide)
  refine g_newi (n := 24) X 5039 wa_int rfl (by decide) (by simp [q_st]) hq.1 (fun o9 _ k9 => hq.2 o9 k9) (by simp) (by simp) (by decide) (by decide) (Nat.le_of_ble_eq_true rfl) (Nat.le_of_ble_eq_true rfl) dX12_init_212 ?_
  have hS47 := (hS46.sub (S' := [5040, 5041, 5042, 5043, 5044, 5047, 5048, 5049, 5050, 5051, 5055, 5056, 5057, 5059, 5061, 5062, 5068, 5069, 5071, 5073, 5074, 5075, 5077, 5078, 5079, 5080, 5081, 5082, 5083, 5084, 5085, 5086]) (by decide)).up (a := 5039) (t := 1) (by decide) (by decide)
  refine g_putrF X fa_X12_152 hN (by decide +kernel) (by decide +kernel) (fun ad ty h => q_arrfit (te := .int) (by decide +kernel) _ ad ty h) (by simp [va_up, hT]) dX12_init_214 ?_
  have hS48 := hS47.p2 (a := 5001) (k := 29) (v := 5039) (by decide)
  refine g_aload_n X dX12_init_217 rfl 0 rfl ?_
  refine g_bipush (v := 24) X dX12_init_218 (by decide) ?_
  have hq := hS48 5040 (by decide)
  refine g_newi (n := 24) X 5040 wa_int rfl (by decide) (by simp [q_st]) hq.1 (fun o9 _ k9 => hq.2 o9 k9) (by simp) (by simp) (by decide) (by decide) (Nat.le_of_ble_eq_true rfl) (Nat.le_of_ble_eq_true rfl) dX12_init_220 ?_
  have hS49 := (hS48.sub (S' := [5041, 5042, 5043, 5044, 5047, 5048, 5049, 5050, 5051, 5055, 5056, 5057, 5059, 5061, 5062, 5068, 5069, 5071, 5073, 5074, 5075, 5077, 5078, 5079, 5080, 5081, 5082, 5083, 5084, 5085, 5086]) (by decide)).up (a := 5040) (t := 1) (by decide) (by decide)
  refine g_putrF X fa_X12_170 hN (by decide +kernel) (by decide +kernel) (fun ad ty h => q_arrfit (te := .int) (by decide +kernel) _ ad ty h) (by simp [va_up, hT]) dX12_init_222 ?_
  have hS50 := hS49.p2 (a := 5001) (k := 30) (v := 5040) (by decide)
  refine g_aload_n X dX12_init_225 rfl 0 rfl ?_
  refine g_bipush (v := 24) X dX12_init_226 (by decide) ?_
  have hq := hS50 5041 (by decide)
  refine g_newi (n := 24) X 5041 wa_int rfl (by decide) (by simp [q_st]) hq.1 (fun o9 _ k9 => hq.2 o9 k9) (by simp) (by simp) (by decide) (by decide) (Nat.le_of_ble_eq_true rfl) (Nat.le_of_ble_eq_true rfl) dX12_init_228 ?_
  have hS51 := (hS50.sub (S' := [5042, 5043, 5044, 5047, 5048, 5049, 5050, 5051, 5055, 5056, 5057, 5059, 5061, 5062, 5068, 5069, 5071, 5073, 5074, 5075, 5077, 5078, 5079, 5080, 5081, 5082, 5083, 5084, 5085, 5086]) (by decide)).up (a := 5041) (t := 1) (by decide) (by decide)
  refine g_putrF X fa_X12_155 hN (by decide +kernel) (by decide +kernel) (fun ad ty h => q_arrfit (te := .int) (by decide +kernel) _ ad ty h) (by simp [va_up, hT]) dX12_init_230 ?_
  have hS52 := hS51.p2 (a := 5001) (k := 31) (v := 5041) (by decide)
  refine g_aload_n X dX12_init_233 rfl 0 rfl ?_
  refine g_bipush (v := 24) X dX12_init_234 (by decide) ?_
  have hq := hS52 5042 (by decide)
  refine g_newi (n := 24) X 5042 wa_int rfl (by decide) (by simp [q_st]) hq.1 (fun o9 _ k9 => hq.2 o9 k9) (by simp) (by simp) (by decide) (by decide) (Nat.le_of_ble_eq_true rfl) (Nat.le_of_ble_eq_true rfl) dX12_init_236 ?_
  have hS53 := (hS52.sub (S' := [5043, 5044, 5047, 5048, 5049, 5050, 5051, 5055, 5056, 5057, 5059, 5061, 5062, 5068, 5069, 5071, 5073, 5074, 5075, 5077, 5078, 5079, 5080, 5081, 5082, 5083, 5084, 5085, 5086]) (by decide)).up (a := 5042) (t := 1) (by decide) (by decide)
  refine g_putrF X fa_X12_158 hN (by decide +kernel) (by decide +kernel) (fun ad ty h => q_arrfit (te := .int) (by decide +kernel) _ ad ty h) (by simp [va_up, hT]) dX12_init_238 ?_
  have hS54 := hS53.p2 (a := 5001) (k := 32) (v := 5042) (by decide)
  refine g_aload_n X dX12_init_241 rfl 0 rfl ?_
  refine g_bipush (v := 24) X dX12_init_242 (by decide) ?_
  have hq := hS54 5043 (by decide)
  refine g_newi (n := 24) X 5043 wa_int rfl (by decide) (by simp [q_st]) hq.1 (fun o9 _ k9 => hq.2 o9 k9) (by simp) (by simp) (by decide) (by decide) (Nat.le_of_ble_eq_true rfl) (Nat.le_of_ble_eq_true rfl) dX12_init_244 ?_
  have hS55 := (hS54.sub (S' := [5044, 5047, 5048, 5049, 5050, 5051, 5055, 5056, 5057, 5059, 5061, 5062, 5068, 5069, 5071, 5073, 5074, 5075, 5077, 5078, 5079, 5080, 5081, 5082, 5083, 5084, 5085, 5086]) (by decide)).up (a := 5043) (t := 1) (by decide) (by decide)
  refine g_putrF X fa_X12_298 hN (by decide +kernel) (by decide +kernel) (fun ad ty h => q_arrfit (te := .int) (by decide +kernel) _ ad ty h) (by simp [va_up, hT]) dX12_init_246 ?_
  have hS56 := hS55.p2 (a := 5001) (k := 33) (v := 5043) (by decide)
  refine g_aload_n X dX12_init_249 rfl 0 rfl ?_
  refine g_sipush (v := 9600) X dX12_init_250 (by decide) ?_
  have hq := hS56 5044 (by decide)
  refine g_newz (n := 9600) X 5044 wa_bool rfl (by decide) (by simp [q_st]) hq.1 (fun o9 _ k9 => hq.2 o9 k9) (by simp) (by simp) (by decide) (by decide) (Nat.le_of_ble_eq_true rfl) (Nat.le_of_ble_eq_true rfl) dX12_init_253 ?_
  have hS57 := (hS56.sub (S' := [5047, 5048, 5049, 5050, 5051, 5055, 5056, 5057, 5059, 5061, 5062, 5068, 5069, 5071, 5073, 5074, 5075, 5077, 5078, 5079, 5080, 5081, 5082, 5083, 5084, 5085, 5086]) (by decide)).up (a := 5044) (t := 2) (by decide) (by decide)
  refine g_putrF X fa_X12_348 hN (by decide +kernel) (by decide +kernel) (fun ad ty h => q_arrfit (te := .boolean) (by decide +kernel) _ ad ty h) (by simp [va_up, hT]) dX12_init_255 ?_
  have hS58 := hS57.p2 (a := 5001) (k := 34) (v := 5044) (by decide)
  refine g_aload_n X dX12_init_258 rfl 0 rfl ?_
  refine g_bipush (v := 30) X dX12_init_259 (by decide) ?_
  have hq := hS58 5047 (by decide)
  refine g_newi (n := 30) X 5047 wa_int rfl (by decide) (by simp [q_st]) hq.1 (fun o9 _ k9 => hq.2 o9 k9) (by simp) (by simp) (by decide) (by decide) (Nat.le_of_ble_eq_true rfl) (Nat.le_of_ble_eq_true rfl) dX12_init_261 ?_
  have hS59 := (hS58.sub (S' := [5048, 5049, 5050, 5051, 5055, 5056, 5057, 5059, 5061, 5062, 5068, 5069, 5071, 5073, 5074, 5075, 5077, 5078, 5079, 5080, 5081, 5082, 5083, 5084, 5085, 5086]) (by decide)).up (a := 5047) (t := 1) (by decide) (by decide)
  refine g_putrF X fa_X12_253 hN (by decide +kernel) (by decide +kernel) (fun ad ty h => q_arrfit (te := .int) (by decide +kernel) _ ad ty h) (by simp [va_up, hT]) dX12_init_263 ?_
  have hS60 := hS59.p2 (a := 5001) (k := 37) (v := 5047) (by decide)
  refine g_aload_n X dX12_init_266 rfl 0 rfl ?_
  refine g_bipush (v := 30) X dX12_init_267 (by decide) ?_
  have hq := hS60 5048 (by decide)
  refine g_newi (n := 30) X 5048 wa_int rfl (by decide) (by simp [q_st]) hq.1 (fun o9 _ k9 => hq.2 o9 k9) (by simp) (by simp) (by decide) (by decide) (Nat.le_of_ble_eq_true rfl) (Nat.le_of_ble_eq_true rfl) dX12_init_269 ?_
  have hS61 := (hS60.sub (S' := [5049, 5050, 5051, 5055, 5056, 5057, 5059, 5061, 5062, 5068, 5069, 5071, 5073, 5074, 5075, 5077, 5078, 5079, 5080, 5081, 5082, 5083, 5084, 5085, 5086]) (by decide)).up (a := 5048) (t := 1) (by decide) (by decide)
  refine g_putrF X fa_X12_256 hN (by decide +kernel) (by decide +kernel) (fun ad ty h => q_arrfit (te := .int) (by decide +kernel) _ ad ty h) (by simp [va_up, hT]) dX12_init_271 ?_
  have hS62 := hS61.p2 (a := 5001) (k := 38) (v := 5048) (by decide)
  refine g_aload_n X dX12_init_274 rfl 0 rfl ?_
  refine g_sipush (v := 1984) X dX12_init_275 (by decide) ?_
  have hq := hS62 5049 (by decide)
  refine g_newi (n := 1984) X 5049 wa_int rfl (by decide) (by simp [q_st]) hq.1 (fun o9 _ k9 => hq.2 o9 k9) (by simp) (by simp) (by decide) (by decide) (Nat.le_of_ble_eq_true rfl) (Nat.le_of_ble_eq_true rfl) dX12_init_278 ?_
  have hS63 := (hS62.sub (S' := [5050, 5051, 5055, 5056, 5057, 5059, 5061, 5062, 5068, 5069, 5071, 5073, 5074, 5075, 5077, 5078, 5079, 5080, 5081, 5082, 5083, 5084, 5085, 5086]) (by decide)).up (a := 5049) (t := 1) (by decide) (by decide)
  refine g_putrF X fa_X12_191 hN (by decide +kernel) (by decide +kernel) (fun ad ty h => q_arrfit (te := .int) (by decide +kernel) _ ad ty h) (by simp [va_up, hT]) dX12_init_280 ?_
  have hS64 := hS63.p2 (a := 5001) (k := 39) (v := 5049) (by decide)
  refine g_aload_n X dX12_init_283 rfl 0 rfl ?_
  refine g_bipush (v := 31) X dX12_init_284 (by decide) ?_
  have hq := hS64 5050 (by decide)
  refine g_newi (n := 31) X 5050 wa_int rfl (by decide) (by simp [q_st]) hq.1 (fun o9 _ k9 => hq.2 o9 k9) (by simp) (by simp) (by decide) (by decide) (Nat.le_of_ble_eq_true rfl) (Nat.le_of_ble_eq_true rfl) dX12_init_286 ?_
  have hS65 := (hS64.sub (S' := [5051, 5055, 5056, 5057, 5059, 5061, 5062, 5068, 5069, 5071, 5073, 5074, 5075, 5077, 5078, 5079, 5080, 5081, 5082, 5083, 5084, 5085, 5086]) (by decide)).up (a := 5050) (t := 1) (by decide) (by decide)
  refine g_putrF X fa_X12_197 hN (by decide +kernel) (by decide +kernel) (fun ad ty h => q_arrfit (te := .int) (by decide +kernel) _ ad ty h) (by simp [va_up, hT]) dX12_init_288 ?_
  have hS66 := hS65.p2 (a := 5001) (k := 40) (v := 5050) (by decide)
  refine g_aload_n X dX12_init_291 rfl 0 rfl ?_
  refine g_bipush (v := 100) X dX12_init_292 (by decide) ?_
  have hq := hS66 5051 (by decide)
  refine g_newi (n := 100) X 5051 wa_int rfl (by decide) (by simp [q_st]) hq.1 (fun o9 _ k9 => hq.2 o9 k9) (by simp) (by simp) (by decide) (by decide) (Nat.le_of_ble_eq_true rfl) (Nat.le_of_ble_eq_true rfl) dX12_init_294 ?_
  have hS67 := (hS66.sub (S' := [5055, 5056, 5057, 5059, 5061, 5062, 5068, 5069, 5071, 5073, 5074, 5075, 5077, 5078, 5079, 5080, 5081, 5082, 5083, 5084, 5085, 5086]) (by decide)).up (a := 5051) (t := 1) (by decide) (by decide)
  refine g_putrF X fa_X12_180 hN (by decide +kernel) (by decide +kernel) (fun ad ty h => q_arrfit (te := .int) (by decide +kernel) _ ad ty h) (by simp [va_up, hT]) dX12_init_296 ?_
  have hS68 := hS67.p2 (a := 5001) (k := 41) (v := 5051) (by decide)
  refine g_aload_n X dX12_init_299 rfl 0 rfl ?_
  refine g_bipush (v := 64) X dX12_init_300 (by decide) ?_
  have hq := hS68 5055 (by decide)
  refine g_newi (n := 64) X 5055 wa_int rfl (by decide) (by simp [q_st]) hq.1 (fun o9 _ k9 => hq.2 o9 k9) (by simp) (by simp) (by decide) (by decide) (Nat.le_of_ble_eq_true rfl) (Nat.le_of_ble_eq_true rfl) dX12_init_302 ?_
  have hS69 := (hS68.sub (S' := [5056, 5057, 5059, 5061, 5062, 5068, 5069, 5071, 5073, 5074, 5075, 5077, 5078, 5079, 5080, 5081, 5082, 5083, 5084, 5085, 5086]) (by decide)).up (a := 5055) (t := 1) (by decide) (by decide)
  refine g_putrF X fa_X12_272 hN (by decide +kernel) (by decide +kernel) (fun ad ty h => q_arrfit (te := .int) (by decide +kernel) _ ad ty h) (by simp [va_up, hT]) dX12_init_304 ?_
  have hS70 := hS69.p2 (a := 5001) (k := 45) (v := 5055) (by decide)
  refine g_aload_n X dX12_init_307 rfl 0 rfl ?_
  refine g_bipush (v := 12) X dX12_init_308 (by decide) ?_
  have hq := hS70 5056 (by decide)
  refine g_newi (n := 12) X 5056 wa_int rfl (by decide) (by simp [q_st]) hq.1 (fun o9 _ k9 => hq.2 o9 k9) (by simp) (by simp) (by decide) (by decide) (Nat.le_of_ble_eq_true rfl) (Nat.le_of_ble_eq_true rfl) dX12_init_310 ?_
  have hS71 := (hS70.sub (S' := [5057, 5059, 5061, 5062, 5068, 5069, 5071, 5073, 5074, 5075, 5077, 5078, 5079, 5080, 5081, 5082, 5083, 5084, 5085, 5086]) (by decide)).up (a := 5056) (t := 1) (by decide) (by decide)
  refine g_putrF X fa_X12_275 hN (by decide +kernel) (by decide +kernel) (fun ad ty h => q_arrfit (te := .int) (by decide +kernel) _ ad ty h) (by simp [va_up, hT]) dX12_init_312 ?_
  have hS72 := hS71.p2 (a := 5001) (k := 46) (v := 5056) (by decide)
  refine g_aload_n X dX12_init_315 rfl 0 rfl ?_
  refine g_bipush (v := 10) X dX12_init_316 (by decide) ?_
  have hq := hS72 5057 (by decide)
  refine g_newi (n := 10) X 5057 wa_int rfl (by decide) (by simp [q_st]) hq.1 (fun o9 _ k9 => hq.2 o9 k9) (by simp) (by simp) (by decide) (by decide) (Nat.le_of_ble_eq_true rfl) (Nat.le_of_ble_eq_true rfl) dX12_init_318 ?_
  have hS73 := (hS72.sub (S' := [5059, 5061, 5062, 5068, 5069, 5071, 5073, 5074, 5075, 5077, 5078, 5079, 5080, 5081, 5082, 5083, 5084, 5085, 5086]) (by decide)).up (a := 5057) (t := 1) (by decide) (by decide)
  refine g_putrF X fa_X12_265 hN (by decide +kernel) (by decide +kernel) (fun ad ty h => q_arrfit (te := .int) (by decide +kernel) _ ad ty h) (by simp [va_up, hT]) dX12_init_320 ?_
  have hS74 := hS73.p2 (a := 5001) (k := 47) (v := 5057) (by decide)
  refine g_aload_n X dX12_init_323 rfl 0 rfl ?_
  refine g_bipush (v := 64) X dX12_init_324 (by decide) ?_
  have hq := hS74 5059 (by decide)
  refine g_newi (n := 64) X 5059 wa_int rfl (by decide) (by simp [q_st]) hq.1 (fun o9 _ k9 => hq.2 o9 k9) (by simp) (by simp) (by decide) (by decide) (Nat.le_of_ble_eq_true rfl) (Nat.le_of_ble_eq_true rfl) dX12_init_326 ?_
  have hS75 := (hS74.sub (S' := [5061, 5062, 5068, 5069, 5071, 5073, 5074, 5075, 5077, 5078, 5079, 5080, 5081, 5082, 5083, 5084, 5085, 5086]) (by decide)).up (a := 5059) (t := 1) (by decide) (by decide)
  refine g_putrF X fa_X12_354 hN (by decide +kernel) (by decide +kernel) (fun ad ty h => q_arrfit (te := .int) (by decide +kernel) _ ad ty h) (by simp [va_up, hT]) dX12_init_328 ?_
  have hS76 := hS75.p2 (a := 5001) (k := 49) (v := 5059) (by decide)
  refine g_aload_n X dX12_init_331 rfl 0 rfl ?_
  refine g_bipush (v := 7) X dX12_init_332 (by decide) ?_
  have hq := hS76 5061 (by decide)
  refine g_newi (n := 7) X 5061 wa_int rfl (by decide) (by simp [q_st]) hq.1 (fun o9 _ k9 => hq.2 o9 k9) (by simp) (by simp) (by decide) (by decide) (Nat.le_of_ble_eq_true rfl) (Nat.le_of_ble_eq_true rfl) dX12_init_334 ?_
  have hS77 := (hS76.sub (S' := [5062, 5068, 5069, 5071, 5073, 5074, 5075, 5077, 5078, 5079, 5080, 5081, 5082, 5083, 5084, 5085, 5086]) (by decide)).up (a := 5061) (t := 1) (by decide) (by decide)
  refine g_putrF X fa_X12_360 hN (by decide +kernel) (by decide +kernel) (fun ad ty h => q_arrfit (te := .int) (by decide +kernel) _ ad ty h) (by simp [va_up, hT]) dX12_init_336 ?_
  have hS78 := hS77.p2 (a := 5001) (k := 51) (v := 5061) (by decide)
  refine g_aload_n X dX12_init_339 rfl 0 rfl ?_
  refine g_bipush (v := 7) X dX12_init_340 (by decide) ?_
  have hq := hS78 5062 (by decide)
  refine g_newi (n := 7) X 5062 wa_int rfl (by decide) (by simp [q_st]) hq.1 (fun o9 _ k9 => hq.2 o9 k9) (by simp) (by simp) (by decide) (by decide) (Nat.le_of_ble_eq_true rfl) (Nat.le_of_ble_eq_true rfl) dX12_init_342 ?_
  have hS79 := (hS78.sub (S' := [5068, 5069, 5071, 5073, 5074, 5075, 5077, 5078, 5079, 5080, 5081, 5082, 5083, 5084, 5085, 5086]) (by decide)).up (a := 5062) (t := 1) (by decide) (by decide)
  refine g_putrF X fa_X12_380 hN (by decide +kernel) (by decide +kernel) (fun ad ty h => q_arrfit (te := .int) (by decide +kernel) _ ad ty h) (by simp [va_up, hT]) dX12_init_344 ?_
  have hS80 := hS79.p2 (a := 5001) (k := 52) (v := 5062) (by decide)
  refine g_aload_n X dX12_init_347 rfl 0 rfl ?_
  refine g_bipush (v := 7) X dX12_init_348 (by decide) ?_
  have hq := hS80 5068 (by decide)
  refine g_newi (n := 7) X 5068 wa_int rfl (by decide) (by simp [q_st]) hq.1 (fun o9 _ k9 => hq.2 o9 k9) (by simp) (by simp) (by decide) (by decide) (Nat.le_of_ble_eq_true rfl) (Nat.le_of_ble_eq_true rfl) dX12_init_350 ?_
  have hS81 := (hS80.sub (S' := [5069, 5071, 5073, 5074, 5075, 5077, 5078, 5079, 5080, 5081, 5082, 5083, 5084, 5085, 5086]) (by decide)).up (a := 5068) (t := 1) (by decide) (by decide)
  refine g_putrF X fa_X12_403 hN (by decide +kernel) (by decide +kernel) (fun ad ty h => q_arrfit (te := .int) (by decide +kernel) _ ad ty h) (by simp [va_up, hT]) dX12_init_352 ?_
  have hS82 := hS81.p2 (a := 5001) (k := 58) (v := 5068) (by decide)
  refine g_aload_n X dX12_init_355 rfl 0 rfl ?_
  refine g_bipush (v := 7) X dX12_init_356 (by decide) ?_
  have hq := hS82 5069 (by decide)
  refine g_newi (n := 7) X 5069 wa_int rfl (by decide) (by simp [q_st]) hq.1 (fun o9 _ k9 => hq.2 o9 k9) (by simp) (by simp) (by decide) (by decide) (Nat.le_of_ble_eq_true rfl) (Nat.le_of_ble_eq_true rfl) dX12_init_358 ?_
  have hS83 := (hS82.sub (S' := [5071, 5073, 5074, 5075, 5077, 5078, 5079, 5080, 5081, 5082, 5083, 5084, 5085, 5086]) (by decide)).up (a := 5069) (t := 1) (by decide) (by decide)
  refine g_putrF X fa_X12_406 hN (by decide +kernel) (by decide +kernel) (fun ad ty h => q_arrfit (te := .int) (by decide +kernel) _ ad ty h) (by simp [va_up, hT]) dX12_init_360 ?_
  have hS84 := hS83.p2 (a := 5001) (k := 59) (v := 5069) (by decide)
  refine g_aload_n X dX12_init_363 rfl 0 rfl ?_
  refine g_bipush (v := 12) X dX12_init_364 (by decide) ?_
  have hq := hS84 5071 (by decide)
  refine g_newi (n := 12) X 5071 wa_int rfl (by decide) (by simp [q_st]) hq.1 (fun o9 _ k9 => hq.2 o9 k9) (by simp) (by simp) (by decide) (by decide) (Nat.le_of_ble_eq_true rfl) (Nat.le_of_ble_eq_true rfl) dX12_init_366 ?_
  have hS85 := (hS84.sub (S' := [5073, 5074, 5075, 5077, 5078, 5079, 5080, 5081, 5082, 5083, 5084, 5085, 5086]) (by decide)).up (a := 5071) (t := 1) (by decide) (by decide)
  refine g_putrF X fa_X12_409 hN (by decide +kernel) (by decide +kernel) (fun ad ty h => q_arrfit (te := .int) (by decide +kernel) _ ad ty h) (by simp [va_up, hT]) dX12_init_368 ?_
  have hS86 := hS85.p2 (a := 5001) (k := 61) (v := 5071) (by decide)
  refine g_aload_n X dX12_init_371 rfl 0 rfl ?_
  refine g_bipush (v := 10) X dX12_init_372 (by decide) ?_
  have hq := hS86 5073 (by decide)
  refine g_newi (n := 10) X 5073 wa_int rfl (by decide) (by simp [q_st]) hq.1 (fun o9 _ k9 => hq.2 o9 k9) (by simp) (by simp) (by decide) (by decide) (Nat.le_of_ble_eq_true rfl) (Nat.le_of_ble_eq_true rfl) dX12_init_374 ?_
  have hS87 := (hS86.sub (S' := [5074, 5075, 5077, 5078, 5079, 5080, 5081, 5082, 5083, 5084, 5085, 5086]) (by decide)).up (a := 5073) (t := 1) (by decide) (by decide)
  refine g_putrF X fa_X12_419 hN (by decide +kernel) (by decide +kernel) (fun ad ty h => q_arrfit (te := .int) (by decide +kernel) _ ad ty h) (by simp [va_up, hT]) dX12_init_376 ?_
  have hS88 := hS87.p2 (a := 5001) (k := 63) (v := 5073) (by decide)
  refine g_aload_n X dX12_init_379 rfl 0 rfl ?_
  refine g_bipush (v := 12) X dX12_init_380 (by decide) ?_
  have hq := hS88 5074 (by decide)
  refine g_newi (n := 12) X 5074 wa_int rfl (by decide) (by simp [q_st]) hq.1 (fun o9 _ k9 => hq.2 o9 k9) (by simp) (by simp) (by decide) (by decide) (Nat.le_of_ble_eq_true rfl) (Nat.le_of_ble_eq_true rfl) dX12_init_382 ?_
  have hS89 := (hS88.sub (S' := [5075, 5077, 5078, 5079, 5080, 5081, 5082, 5083, 5084, 5085, 5086]) (by decide)).up (a := 5074) (t := 1) (by decide) (by decide)
  refine g_putrF X fa_X12_425 hN (by decide +kernel) (by decide +kernel) (fun ad ty h => q_arrfit (te := .int) (by decide +kernel) _ ad ty h) (by simp [va_up, hT]) dX12_init_384 ?_
  have hS90 := hS89.p2 (a := 5001) (k := 64) (v := 5074) (by decide)
  refine g_aload_n X dX12_init_387 rfl 0 rfl ?_
  refine g_bipush (v := 10) X dX12_init_388 (by decide) ?_
  have hq := hS90 5075 (by decide)
  refine g_newz (n := 10) X 5075 wa_bool rfl (by decide) (by simp [q_st]) hq.1 (fun o9 _ k9 => hq.2 o9 k9) (by simp) (by simp) (by decide) (by decide) (Nat.le_of_ble_eq_true rfl) (Nat.le_of_ble_eq_true rfl) dX12_init_390 ?_
  have hS91 := (hS90.sub (S' := [5077, 5078, 5079, 5080, 5081, 5082, 5083, 5084, 5085, 5086]) (by decide)).up (a := 5075) (t := 2) (by decide) (by decide)
  refine g_putrF X fa_X12_431 hN (by decide +kernel) (by decide +kernel) (fun ad ty h => q_arrfit (te := .boolean) (by decide +kernel) _ ad ty h) (by simp [va_up, hT]) dX12_init_392 ?_
  have hS92 := hS91.p2 (a := 5001) (k := 65) (v := 5075) (by decide)
  refine g_aload_n X dX12_init_395 rfl 0 rfl ?_
  refine g_bipush (v := 8) X dX12_init_396 (by decide) ?_
  have hq := hS92 5077 (by decide)
  refine g_newi (n := 8) X 5077 wa_int rfl (by decide) (by simp [q_st]) hq.1 (fun o9 _ k9 => hq.2 o9 k9) (by simp) (by simp) (by decide) (by decide) (Nat.le_of_ble_eq_true rfl) (Nat.le_of_ble_eq_true rfl) dX12_init_398 ?_
  have hS93 := (hS92.sub (S' := [5078, 5079, 5080, 5081, 5082, 5083, 5084, 5085, 5086]) (by decide)).up (a := 5077) (t := 1) (by decide) (by decide)
  refine g_putrF X fa_X12_443 hN (by decide +kernel) (by decide +kernel) (fun ad ty h => q_arrfit (te := .int) (by decide +kernel) _ ad ty h) (by simp [va_up, hT]) dX12_init_400 ?_
  have hS94 := hS93.p2 (a := 5001) (k := 67) (v := 5077) (by decide)
  refine g_aload_n X dX12_init_403 rfl 0 rfl ?_
  refine g_bipush (v := 8) X dX12_init_404 (by decide) ?_
  have hq := hS94 5078 (by decide)
  refine g_newi (n := 8) X 5078 wa_int rfl (by decide) (by simp [q_st]) hq.1 (fun o9 _ k9 => hq.2 o9 k9) (by simp) (by simp) (by decide) (by decide) (Nat.le_of_ble_eq_true rfl) (Nat.le_of_ble_eq_true rfl) dX12_init_406 ?_
  have hS95 := (hS94.sub (S' := [5079, 5080, 5081, 5082, 5083, 5084, 5085, 5086]) (by decide)).up (a := 5078) (t := 1) (by decide) (by decide)
  refine g_putrF X fa_X12_453 hN (by decide +kernel) (by decide +kernel) (fun ad ty h => q_arrfit (te := .int) (by decide +kernel) _ ad ty h) (by simp [va_up, hT]) dX12_init_408 ?_
  have hS96 := hS95.p2 (a := 5001) (k := 68) (v := 5078) (by decide)
  refine g_aload_n X dX12_init_411 rfl 0 rfl ?_
  refine g_bipush (v := 8) X dX12_init_412 (by decide) ?_
  have hq := hS96 5079 (by decide)
  refine g_newi (n := 8) X 5079 wa_int rfl (by decide) (by simp [q_st]) hq.1 (fun o9 _ k9 => hq.2 o9 k9) (by simp) (by simp) (by decide) (by decide) (Nat.le_of_ble_eq_true rfl) (Nat.le_of_ble_eq_true rfl) dX12_init_414 ?_
  have hS97 := (hS96.sub (S' := [5080, 5081, 5082, 5083, 5084, 5085, 5086]) (by decide)).up (a := 5079) (t := 1) (by decide) (by decide)
  refine g_putrF X fa_X12_456 hN (by decide +kernel) (by decide +kernel) (fun ad ty h => q_arrfit (te := .int) (by decide +kernel) _ ad ty h) (by simp [va_up, hT]) dX12_init_416 ?_
  have hS98 := hS97.p2 (a := 5001) (k := 69) (v := 5079) (by decide)
  refine g_aload_n X dX12_init_419 rfl 0 rfl ?_
  refine g_bipush (v := 24) X dX12_init_420 (by decide) ?_
  have hq := hS98 5080 (by decide)
  refine g_newi (n := 24) X 5080 wa_int rfl (by decide) (by simp [q_st]) hq.1 (fun o9 _ k9 => hq.2 o9 k9) (by simp) (by simp) (by decide) (by decide) (Nat.le_of_ble_eq_true rfl) (Nat.le_of_ble_eq_true rfl) dX12_init_422 ?_
  have hS99 := (hS98.sub (S' := [5081, 5082, 5083, 5084, 5085, 5086]) (by decide)).up (a := 5080) (t := 1) (by decide) (by decide)
  refine g_putrF X fa_X12_459 hN (by decide +kernel) (by decide +kernel) (fun ad ty h => q_arrfit (te := .int) (by decide +kernel) _ ad ty h) (by simp [va_up, hT]) dX12_init_424 ?_
  have hS100 := hS99.p2 (a := 5001) (k := 70) (v := 5080) (by decide)
  refine g_aload_n X dX12_init_427 rfl 0 rfl ?_
  refine g_bipush (v := 24) X dX12_init_428 (by decide) ?_
  have hq := hS100 5081 (by decide)
  refine g_newi (n := 24) X 5081 wa_int rfl (by decide) (by simp [q_st]) hq.1 (fun o9 _ k9 => hq.2 o9 k9) (by simp) (by simp) (by decide) (by decide) (Nat.le_of_ble_eq_true rfl) (Nat.le_of_ble_eq_true rfl) dX12_init_430 ?_
  have hS101 := (hS100.sub (S' := [5082, 5083, 5084, 5085, 5086]) (by decide)).up (a := 5081) (t := 1) (by decide) (by decide)
  refine g_putrF X fa_X12_462 hN (by decide +kernel) (by decide +kernel) (fun ad ty h => q_arrfit (te := .int) (by decide +kernel) _ ad ty h) (by simp [va_up, hT]) dX12_init_432 ?_
  have hS102 := hS101.p2 (a := 5001) (k := 71) (v := 5081) (by decide)
  refine g_aload_n X dX12_init_435 rfl 0 rfl ?_
  refine g_bipush (v := 24) X dX12_init_436 (by decide) ?_
  have hq := hS102 5082 (by decide)
  refine g_newi (n := 24) X 5082 wa_int rfl (by decide) (by simp [q_st]) hq.1 (fun o9 _ k9 => hq.2 o9 k9) (by simp) (by simp) (by decide) (by decide) (Nat.le_of_ble_eq_true rfl) (Nat.le_of_ble_eq_true rfl) dX12_init_438 ?_
  have hS103 := (hS102.sub (S' := [5083, 5084, 5085, 5086]) (by decide)).up (a := 5082) (t := 1) (by decide) (by decide)
  refine g_putrF X fa_X12_465 hN (by decide +kernel) (by decide +kernel) (fun ad ty h => q_arrfit (te := .int) (by decide +kernel) _ ad ty h) (by simp [va_up, hT]) dX12_init_440 ?_
  have hS104 := hS103.p2 (a := 5001) (k := 72) (v := 5082) (by decide)
  refine g_aload_n X dX12_init_443 rfl 0 rfl ?_
  refine g_sipush (v := 256) X dX12_init_444 (by decide) ?_
  have hq := hS104 5083 (by decide)
  refine g_newi (n := 256) X 5083 wa_int rfl (by decide) (by simp [q_st]) hq.1 (fun o9 _ k9 => hq.2 o9 k9) (by simp) (by simp) (by decide) (by decide) (Nat.le_of_ble_eq_true rfl) (Nat.le_of_ble_eq_true rfl) dX12_init_447 ?_
  have hS105 := (hS104.sub (S' := [5084, 5085, 5086]) (by decide)).up (a := 5083) (t := 1) (by decide) (by decide)
  refine g_putrF X fa_X12_475 hN (by decide +kernel) (by decide +kernel) (fun ad ty h => q_arrfit (te := .int) (by decide +kernel) _ ad ty h) (by simp [va_up, hT]) dX12_init_449 ?_
  have hS106 := hS105.p2 (a := 5001) (k := 73) (v := 5083) (by decide)
  refine g_aload_n X dX12_init_452 rfl 0 rfl ?_
  refine g_sipush (v := 256) X dX12_init_453 (by decide) ?_
  have hq := hS106 5084 (by decide)
  refine g_newi (n := 256) X 5084 wa_int rfl (by decide) (by simp [q_st]) hq.1 (fun o9 _ k9 => hq.2 o9 k9) (by simp) (by simp) (by decide) (by decide) (Nat.le_of_ble_eq_true rfl) (Nat.le_of_ble_eq_true rfl) dX12_init_456 ?_
  have hS107 := (hS106.sub (S' := [5085, 5086]) (by decide)).up (a := 5084) (t := 1) (by decide) (by decide)
  refine g_putrF X fa_X12_489 hN (by decide +kernel) (by decide +kernel) (fun ad ty h => q_arrfit (te := .int) (by decide +kernel) _ ad ty h) (by simp [va_up, hT]) dX12_init_458 ?_
  have hS108 := hS107.p2 (a := 5001) (k := 74) (v := 5084) (by decide)
  refine g_aload_n X dX12_init_461 rfl 0 rfl ?_
  refine g_sipush (v := 256) X dX12_init_462 (by decide) ?_
  have hq := hS108 5085 (by decide)
  refine g_newz (n := 256) X 5085 wa_bool rfl (by decide) (by simp [q_st]) hq.1 (fun o9 _ k9 => hq.2 o9 k9) (by simp) (by simp) (by decide) (by decide) (Nat.le_of_ble_eq_true rfl) (Nat.le_of_ble_eq_true rfl) dX12_init_465 ?_
  have hS109 := (hS108.sub (S' := [5086]) (by decide)).up (a := 5085) (t := 2) (by decide) (by decide)
  refine g_putrF X fa_X12_472 hN (by decide +kernel) (by decide +kernel) (fun ad ty h => q_arrfit (te := .boolean) (by decide +kernel) _ ad ty h) (by simp [va_up, hT]) dX12_init_467 ?_
  have hS110 := hS109.p2 (a := 5001) (k := 75) (v := 5085) (by decide)
  refine g_aload_n X dX12_init_470 rfl 0 rfl ?_
  refine g_sipush (v := 160) X dX12_init_471 (by decide) ?_
  have hq := hS110 5086 (by decide)
  refine g_newz (n := 160) X 5086 wa_bool rfl (by decide) (by simp [q_st]) hq.1 (fun o9 _ k9 => hq.2 o9 k9) (by simp) (by simp) (by decide) (by decide) (Nat.le_of_ble_eq_true rfl) (Nat.le_of_ble_eq_true rfl) dX12_init_474 ?_
  have hS111 := (hS110.sub (S' := []) (by decide)).up (a := 5086) (t := 2) (by decide) (by decide)
  refine g_putrF X fa_X12_502 hN (by decide +kernel) (by decide +kernel) (fun ad ty h => q_arrfit (te := .boolean) (by decide +kernel) _ ad ty h) (by simp [va_up, hT]) dX12_init_476 ?_
  have hS112 := hS111.p2 (a := 5001) (k := 76) (v := 5086) (by decide)
  refine g_widen (kc' := 56) (kn' := 14009) (by decide) (by decide) ?_
  exact g_vret X rfl rfl rfl dX12_init_479
