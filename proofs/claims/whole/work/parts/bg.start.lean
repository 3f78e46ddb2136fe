/-! THE LAW, from its entry -/
theorem q_nos1 : q_nos [2, 13, 14, 15, 16, 17, 18, 19, 20, 21, 61, 63, 22, 62, 64, 3, 27, 28, 31, 81, 32, 82, 29, 30, 80, 4, 33, 83, 34, 35, 36, 37, 87, 38, 88, 5, 39, 89, 40, 90, 41, 91, 42, 43, 44, 45, 6, 56, 7, 57, 8, 58, 9, 59, 10, 11, 12] q_T1 q_P1 := fun o ho => by
  have : ∀ o ∈ [2, 13, 14, 15, 16, 17, 18, 19, 20, 21, 61, 63, 22, 62, 64, 3, 27, 28, 31, 81, 32, 82, 29, 30, 80, 4, 33, 83, 34, 35, 36, 37, 87, 38, 88, 5, 39, 89, 40, 90, 41, 91, 42, 43, 44, 45, 6, 56, 7, 57, 8, 58, 9, 59, 10, 11, 12], o ≠ 1 ∧ o ≠ 0 := by decide
  obtain ⟨h1, h0⟩ := this o ho
  exact ⟨if_neg h1, fun o' k => by rw [q_P1e]; exact fun e => h0 e.symm⟩
def q_S5 : List Nat := [5001, 5012, 5015, 5016, 5017, 5018, 5020, 5021, 5022, 5023, 5024, 5025, 5026, 5027, 5029, 5030, 5031, 5032, 5033, 5034, 5035, 5036, 5037, 5038, 5039, 5040, 5041, 5042, 5043, 5044, 5047, 5048, 5049, 5050, 5051, 5055, 5056, 5057, 5059, 5061, 5062, 5068, 5069, 5071, 5073, 5074, 5075, 5077, 5078, 5079, 5080, 5081, 5082, 5083, 5084, 5085, 5086, 6000]
theorem q_nos5 : q_nos q_S5 q_T1 q_P1 := fun o ho => by
  have : ∀ o ∈ q_S5, o ≠ 1 ∧ o ≠ 0 := by decide
  obtain ⟨h1, h0⟩ := this o ho
  exact ⟨if_neg h1, fun o' k => by rw [q_P1e]; exact fun e => h0 e.symm⟩
theorem q_nos6 : q_nos q_S5 (wX11_initT q_T1) (wX11_initP q_P1) := n_X11_init q_nos5 (by decide)
theorem q_nos7 : q_nos (q_S5.drop 1) q_T3 q_P3 := (q_nos6.sub (S' := q_S5.drop 1) (by decide)).up (a := 5001) (t := 22) (by decide) (by decide)
set_option maxHeartbeats 4000000 in
set_option maxRecDepth 100000 in
theorem whole_start {p : Program} {e : Env} {s : State} {m : MethodId} {below : List Frame} {meth : Method} {c : Code} (l : Launch) (hflags : l.flags = flags0) {b L : Nat} {xs : Nat → Int32} (hL : L ≤ 4096) (C0 : lw_At p s m meth c b L xs) : W p l e room_1 s m #[Value.ref b] below meth c s.heap [] 0 0 (lw_Z below #[Value.ref b] s) (entryFrame m ([Value.ref b] : List Value).toArray 7) := by
  obtain ⟨ad, h960, hSc, hTz⟩ := q_begin C0
  obtain ⟨K, hK⟩ := q_known C0
  obtain ⟨hx, hb, hr, hml, hown, hts, hX, hbl, hlocks, hgv⟩ := C0
  have hl : l.stackTraces = false := by
    unfold Launch.stackTraces
    rw [hflags]
    decide +kernel
  have X : q_X p s m #[Value.ref b] meth c K (fun q => s.heap.size ≤ q) ad 7 cL_law RL (some .boolean) := ⟨hx, hb, hml, hown, fun w hw => hts w (List.mem_filter.mp hw).1, hK, fun q h => h, hr, hlocks, hSc⟩
  have hS : q_scr b L xs (fun q => s.heap.size ≤ q) ad s := ⟨hX, hbl, Nat.not_le.mpr hbl, h960⟩
  have w0 : q_Wd K ad (fun q => s.heap.size ≤ q) q_g0 s.heap := q_Wd.mk [] List.nodup_nil (fun o => ⟨fun h => absurd rfl h, fun h => absurd h List.not_mem_nil⟩) rfl (fun o ho => absurd rfl ho) (fun o _ ho => absurd rfl ho)
  have go : GG p l e room_1 s m #[Value.ref b] below meth c K (fun q => s.heap.size ≤ q) q_g0 ad true 7 (fun (_ : Unit) => lw_Z below #[Value.ref b] s) (some ()) 0 [(0, .ref 960)] [] q_g0 0 0 := by
    refine g_new X 1 nw_L_8 rfl (by decide) (by simp [q_st]) rfl (fun o9 h9 => absurd rfl h9) (by simp) (by simp) (Nat.le_of_ble_eq_true rfl) (Nat.le_of_ble_eq_true rfl) dL_law_0 ?_
    refine g_dup X dL_law_3 rfl ?_
    refine g_callI (rv := none) (As := []) (rest := [.ref 1]) X (by decide) (c_X11_init l K q_T1 q_L1 q_P1 q_M1 rfl q_nos1) lki_L_26 rfl rfl (Nat.le_of_ble_eq_true rfl) ⟨Nat.le_of_ble_eq_true rfl, Nat.le_of_ble_eq_true rfl⟩ ⟨Nat.le_of_ble_eq_true rfl, Nat.le_of_ble_eq_true rfl⟩ dL_law_4 (fun _ => ⟨rfl, fun q hq => by
      rw [List.mem_singleton.mp hq]
      exact Or.inr (Or.inr ⟨by decide, by decide⟩), fun v hv => by
      rw [List.mem_singleton.mp hv]
      exact Or.inr (Or.inl (by show (21 : Nat) ≠ 0; decide))⟩) ?_
    refine g_astore_n X [(1, .ref 1), (0, .ref 960)] dL_law_7 rfl (by decide) rfl ?_
    have hq := q_nos6 5001 (by decide)
    refine g_new X 5001 nw_L_27 rfl (by decide) (by simp [q_st]) hq.1 (fun o9 _ k9 => hq.2 o9 k9) (by simp) (by simp) (Nat.le_of_ble_eq_true rfl) (Nat.le_of_ble_eq_true rfl) dL_law_8 ?_
    refine g_dup X dL_law_11 rfl ?_
    refine g_callI (rv := none) (As := []) (rest := [.ref 5001]) X (by decide) (c_X12_init l K q_T3 q_L3 q_P3 q_M3 rfl (q_nos7.sub (by decide))) lki_L_29 rfl rfl (Nat.le_of_ble_eq_true rfl) ⟨Nat.le_of_ble_eq_true rfl, Nat.le_of_ble_eq_true rfl⟩ ⟨Nat.le_of_ble_eq_true rfl, Nat.le_of_ble_eq_true rfl⟩ dL_law_12 (fun _ => ⟨rfl, fun q hq => by
      rcases List.mem_cons.mp hq with rfl | hq
      · exact Or.inr (Or.inl (by show q_T3 1 ≠ 0; rw [q_T3l (by decide)]; decide +kernel))
      · rw [List.mem_singleton.mp hq]
        exact Or.inr (Or.inr ⟨by decide, by decide⟩), fun v hv => by
      rw [List.mem_singleton.mp hv]
      exact Or.inr (Or.inl (by show (22 : Nat) ≠ 0; decide))⟩) ?_
    refine g_astore_n X [(2, .ref 5001), (1, .ref 1), (0, .ref 960)] dL_law_15 rfl (by decide) rfl ?_
    refine g_iconst (v := 1) X dL_law_16 (by decide) ?_
    have hq2 := n_X12_init (S := [6000]) (q_nos7.sub (by decide)) (by decide) 6000 (by decide)
    refine g_newl X 6000 wa_long rfl (by decide) (by simp [q_st]) hq2.1 (fun o9 _ k9 => hq2.2 o9 k9) (by simp) (by simp) (by decide) (by decide) (Nat.le_of_ble_eq_true rfl) (Nat.le_of_ble_eq_true rfl) dL_law_17 ?_
    refine g_alk q_first ?_
    refine g_astore_n X [(3, .ref 6000), (2, .ref 5001), (1, .ref 1), (0, .ref 960)] dL_law_19 rfl (by decide) rfl ?_
    refine g_iconst (v := 0) X dL_law_20 (by decide) ?_
    refine g_istore X [(4, .int 0), (3, .ref 6000), (2, .ref 5001), (1, .ref 1), (0, .ref 960)] dL_law_21 (by decide) rfl ?_
    refine g_widen (kc' := 1000 + 3 * 0) (kn' := 20000 + 97 * 0) (Nat.le_of_ble_eq_true rfl) (Nat.le_of_ble_eq_true rfl) ?_
    exact g_sub [4, 3, 2, 1, 0] rfl (law_loop hl hTz X hS hL (fun q h => h) 512 0 q_c0 q_n0 (wX11_initM q_z0) (wX12_initM q_z0) q_z0 a_X0 (by omega) (by omega))
  rw [lg_entry_eq]
  refine go () rfl ad s.heap [] _ q_ext.rf w0 va_S.rf ?_
  have e : q_lm ad [(0, .ref 960)] = [(0, .ref b)] := by
    show [(0, q_tr ad (.ref 960))] = _
    rw [q_trne (by decide), h960]
  rw [e]
  exact lv_entry ([.ref b]) (n := 7) (Nat.le_of_ble_eq_true rfl)
