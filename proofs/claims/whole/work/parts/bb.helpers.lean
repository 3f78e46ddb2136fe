/-! level 1: the law's helpers (made by tool/helpers.py) -/
def q_hk (rv : Option Int32) : Int32 := match rv with | some _ => 0 | none => 1
def q_ho (rv : Option Int32) (o : q_MM) : q_MM := match rv with | some v => q_u2 o 6000 0 v | none => o
theorem q_O_alk {g : q_Mem} {o : q_MM} {v : Int32} : q_alk ((q_un g (q_wO o)).1, (q_un g (q_wO o)).2.1, (q_un g (q_wO o)).2.2.1, q_u2 (q_un g (q_wO o)).2.2.2 6000 0 v) (q_un g (q_wO (q_u2 o 6000 0 v))) := by
  refine q_alk_of (fun _ => rfl) (fun a _ => ⟨rfl, rfl, ?_⟩)
  show (if (q_wO (q_u2 o 6000 0 v)).1 a ≠ 0 then q_u2 o 6000 0 v a else g.2.2.2 a) = if a = 6000 then upd ((q_un g (q_wO o)).2.2.2 6000) 0 v else (q_un g (q_wO o)).2.2.2 a
  by_cases z : a = 6000
  · subst z
    rw [if_pos (q_O4 rfl), if_pos rfl]
    show (if 6000 = 6000 then upd (o 6000) 0 v else o 6000) = _
    rw [if_pos rfl]
    rfl
  · rw [if_neg z, if_neg (fun q => q (q_O0 z))]
    show _ = if (q_wO o).1 a ≠ 0 then o a else g.2.2.2 a
    rw [if_neg (fun q => q (q_O0 z))]
theorem LMt.lawM {l : Launch} {y : MethodName} {b : ByteArray} {n : Nat} {hh : List (Nat × Nat × Nat × Nat)} {fr lo mc ms : Nat} {K : q_KK} {av : List Value} {c : Nat → Nat} {M M2 o o2 : q_MM} {r : Int32} (hM : LMt l y b n hh fr lo mc ms K av (q_un (q_wX c M) (q_wO o)) (some (.int r)) (q_un (q_wX c M2) (q_wO o2))) (hC : a_C c) (m : q_MM) : LMt l y b n hh fr lo mc ms K av (q_lw3 c M m o) (some (.int r)) (q_lw3 c M2 m o2) := by
  have hi : ∀ (M o : q_MM) a, qTM a ≠ 0 → (q_un (q_wX c M) (q_wO o)).1 a = 0 := fun M o a ha => by
    by_cases z : (q_un (q_wX c M) (q_wO o)).1 a = 0
    · exact z
    · have h1 := z_M ha
      rcases q_un_ne.mp z with q | q
      · exact absurd (z_hi hC (by omega)) q
      · have := q_O6 q
        omega
  refine hM.frame _ (fun a ha => hi M o a ha) (fun a ha => hi M2 o2 a ha) (fun a k ha => ?_) (fun a k ha hk => Or.inl (qPM_ok hk))
  show qTM ((q_un (q_wX c M2) (q_wO o2)).2.2.1 a k) = 0
  by_cases z : a = 6000
  · rw [q_unP_r (q_O4 z)]
    exact q_M0 (Or.inl (show (0 : Nat) < 5000 by decide))
  · rw [q_unP_l (q_O0 z)]
    have hT : qTX c a ≠ 0 := (q_un_ne.mp ha).elim id (fun q => absurd (q_O6 q) z)
    have : qPX c a k < 2000 := qPX_lt hC hT k
    exact q_M0 (Or.inl (by show qPX c a k < 5000; omega))
set_option maxHeartbeats 4000000 in
set_option maxRecDepth 100000 in
theorem c_L_at (l : Launch) (hl : l.stackTraces = false) (K : q_KK) {c : Nat → Nat} (hC : a_C c) {M M2 : q_MM} (a1 a2 : Int32) {rv : Option Int32} (hr : ft_X11_at c M a1 a2 = some (rv, M2)) (o : q_MM) : LMt l yL_at cL_at 5 [(0, 10, 13, 13)] 7 153 1 6 K [.ref 1, .int a1, .int a2, .ref 6000] (q_un (q_wX c M) (q_wO o)) (some (.int (q_hk rv))) (q_un (q_wX c M2) (q_wO (q_ho rv o))) := by
  refine LMt.of (ρ := Unit) (F := some ()) (fun _ => some (.int (q_hk rv))) (fun _ => q_un (q_wX c M2) (q_wO (q_ho rv o))) (by decide) (Nat.le_of_ble_eq_true rfl) ?_ () rfl
  intro p e s m args below meth c0 A ad X hE hTz
  have hX := (ct_X11_at l hl K c M a1 a2 _ hr).lawO hC o
  refine g_sub (lv' := [(0, .ref 1), (1, .int a1), (2, .int a2), (3, .ref 6000)]) [0, 1, 2, 3] rfl ?_
  refine g_aload_n X dL_at_0 rfl 3 rfl ?_
  refine g_iconst (v := 0) X dL_at_1 (by decide) ?_
  refine g_aload_n X dL_at_2 rfl 0 rfl ?_
  refine g_iload_n X dL_at_3 rfl 1 rfl ?_
  refine g_iload_n X dL_at_4 rfl 2 rfl ?_
  refine g_try (As := [.int a1, .int a2]) (rest := [.int 0, .ref 6000]) (i := 4) (hp := 13) (hl := 15) (x := { startPc := 0, endPc := 10, handlerPc := 13, catchType := 13 }) X hX lk_L_7 rfl hTz rfl rfl (Nat.le_of_ble_eq_true rfl) ⟨Nat.le_of_ble_eq_true rfl, Nat.le_of_ble_eq_true rfl⟩ ⟨Nat.le_of_ble_eq_true rfl, Nat.le_of_ble_eq_true rfl⟩ dL_at_5 (by rw [hE]; rfl) (by decide) rfl rfl (by decide) rfl (Or.inl ⟨dL_at_13, rfl⟩) (fun v hv => ?_) (fun hv => ?_)
  · subst hv
    refine g_i2l X dL_at_8 ?_
    refine g_last (n := 1) (T := (q_un (q_wX c M2) (q_wO o)).1) (L := (q_un (q_wX c M2) (q_wO o)).2.1) (P := (q_un (q_wX c M2) (q_wO o)).2.2.1) (M := (q_un (q_wX c M2) (q_wO o)).2.2.2) X rfl rfl (show ¬ ((0 : Int32) < 0 ∨ 1 ≤ (0 : Int32).toNatClampNeg) by decide) dL_at_9 ?_
    refine g_alk q_O_alk ?_
    refine g_goto X 17 dL_at_10 rfl ?_
    refine g_iconst (v := 0) X dL_at_17 (by decide) ?_
    exact g_iret X rfl rfl rfl dL_at_18
  · subst hv
    refine g_iconst (v := 1) X dL_at_15 (by decide) ?_
    exact g_iret X rfl rfl rfl dL_at_16
theorem cl_L_at (l : Launch) (hl : l.stackTraces = false) (K : q_KK) {c : Nat → Nat} (hC : a_C c) {M M2 : q_MM} (a1 a2 : Int32) {rv : Option Int32} (hr : ft_X11_at c M a1 a2 = some (rv, M2)) (m o : q_MM) : LMt l yL_at cL_at 5 [(0, 10, 13, 13)] 7 153 1 6 K [.ref 1, .int a1, .int a2, .ref 6000] (q_lw3 c M m o) (some (.int (q_hk rv))) (q_lw3 c M2 m (q_ho rv o)) := by
  exact (c_L_at l hl K hC a1 a2 hr o).lawM hC m
set_option maxHeartbeats 4000000 in
set_option maxRecDepth 100000 in
theorem c_L_like (l : Launch) (hl : l.stackTraces = false) (K : q_KK) {c : Nat → Nat} (hC : a_C c) {M M2 : q_MM} (a1 a2 a3 : Int32) {rv : Option Int32} (hr : ft_X11_like c M a1 a2 a3 = some (rv, M2)) (o : q_MM) : LMt l yL_like cL_like 6 [(0, 12, 15, 13)] 7 114 1 6 K [.ref 1, .int a1, .int a2, .int a3, .ref 6000] (q_un (q_wX c M) (q_wO o)) (some (.int (q_hk rv))) (q_un (q_wX c M2) (q_wO (q_ho rv o))) := by
  refine LMt.of (ρ := Unit) (F := some ()) (fun _ => some (.int (q_hk rv))) (fun _ => q_un (q_wX c M2) (q_wO (q_ho rv o))) (by decide) (Nat.le_of_ble_eq_true rfl) ?_ () rfl
  intro p e s m args below meth c0 A ad X hE hTz
  have hX := (ct_X11_like l hl K c M a1 a2 a3 _ hr).lawO hC o
  refine g_sub (lv' := [(0, .ref 1), (1, .int a1), (2, .int a2), (3, .int a3), (4, .ref 6000)]) [0, 1, 2, 3, 4] rfl ?_
  refine g_aload X dL_like_0 4 rfl ?_
  refine g_iconst (v := 0) X dL_like_2 (by decide) ?_
  refine g_aload_n X dL_like_3 rfl 0 rfl ?_
  refine g_iload_n X dL_like_4 rfl 1 rfl ?_
  refine g_iload_n X dL_like_5 rfl 2 rfl ?_
  refine g_iload_n X dL_like_6 rfl 3 rfl ?_
  refine g_try (As := [.int a1, .int a2, .int a3]) (rest := [.int 0, .ref 6000]) (i := 5) (hp := 15) (hl := 17) (x := { startPc := 0, endPc := 12, handlerPc := 15, catchType := 13 }) X hX lk_L_15 rfl hTz rfl rfl (Nat.le_of_ble_eq_true rfl) ⟨Nat.le_of_ble_eq_true rfl, Nat.le_of_ble_eq_true rfl⟩ ⟨Nat.le_of_ble_eq_true rfl, Nat.le_of_ble_eq_true rfl⟩ dL_like_7 (by rw [hE]; rfl) (by decide) rfl rfl (by decide) rfl (Or.inl ⟨dL_like_15, rfl⟩) (fun v hv => ?_) (fun hv => ?_)
  · subst hv
    refine g_i2l X dL_like_10 ?_
    refine g_last (n := 1) (T := (q_un (q_wX c M2) (q_wO o)).1) (L := (q_un (q_wX c M2) (q_wO o)).2.1) (P := (q_un (q_wX c M2) (q_wO o)).2.2.1) (M := (q_un (q_wX c M2) (q_wO o)).2.2.2) X rfl rfl (show ¬ ((0 : Int32) < 0 ∨ 1 ≤ (0 : Int32).toNatClampNeg) by decide) dL_like_11 ?_
    refine g_alk q_O_alk ?_
    refine g_goto X 19 dL_like_12 rfl ?_
    refine g_iconst (v := 0) X dL_like_19 (by decide) ?_
    exact g_iret X rfl rfl rfl dL_like_20
  · subst hv
    refine g_iconst (v := 1) X dL_like_17 (by decide) ?_
    exact g_iret X rfl rfl rfl dL_like_18
theorem cl_L_like (l : Launch) (hl : l.stackTraces = false) (K : q_KK) {c : Nat → Nat} (hC : a_C c) {M M2 : q_MM} (a1 a2 a3 : Int32) {rv : Option Int32} (hr : ft_X11_like c M a1 a2 a3 = some (rv, M2)) (m o : q_MM) : LMt l yL_like cL_like 6 [(0, 12, 15, 13)] 7 114 1 6 K [.ref 1, .int a1, .int a2, .int a3, .ref 6000] (q_lw3 c M m o) (some (.int (q_hk rv))) (q_lw3 c M2 m (q_ho rv o)) := by
  exact (c_L_like l hl K hC a1 a2 a3 hr o).lawM hC m
set_option maxHeartbeats 4000000 in
set_option maxRecDepth 100000 in
theorem c_L_best (l : Launch) (hl : l.stackTraces = false) (K : q_KK) {c : Nat → Nat} (hC : a_C c) {M M2 : q_MM} (a1 a2 : Int32) {rv : Option Int32} (hr : ft_X11_best c M a1 a2 = some (rv, M2)) (o : q_MM) : LMt l yL_best cL_best 5 [(0, 10, 13, 13)] 8 182 1 6 K [.ref 1, .int a1, .int a2, .ref 6000] (q_un (q_wX c M) (q_wO o)) (some (.int (q_hk rv))) (q_un (q_wX c M2) (q_wO (q_ho rv o))) := by
  refine LMt.of (ρ := Unit) (F := some ()) (fun _ => some (.int (q_hk rv))) (fun _ => q_un (q_wX c M2) (q_wO (q_ho rv o))) (by decide) (Nat.le_of_ble_eq_true rfl) ?_ () rfl
  intro p e s m args below meth c0 A ad X hE hTz
  have hX := (ct_X11_best l hl K c M a1 a2 _ hr).lawO hC o
  refine g_sub (lv' := [(0, .ref 1), (1, .int a1), (2, .int a2), (3, .ref 6000)]) [0, 1, 2, 3] rfl ?_
  refine g_aload_n X dL_best_0 rfl 3 rfl ?_
  refine g_iconst (v := 0) X dL_best_1 (by decide) ?_
  refine g_aload_n X dL_best_2 rfl 0 rfl ?_
  refine g_iload_n X dL_best_3 rfl 1 rfl ?_
  refine g_iload_n X dL_best_4 rfl 2 rfl ?_
  refine g_try (As := [.int a1, .int a2]) (rest := [.int 0, .ref 6000]) (i := 4) (hp := 13) (hl := 15) (x := { startPc := 0, endPc := 10, handlerPc := 13, catchType := 13 }) X hX lk_L_19 rfl hTz rfl rfl (Nat.le_of_ble_eq_true rfl) ⟨Nat.le_of_ble_eq_true rfl, Nat.le_of_ble_eq_true rfl⟩ ⟨Nat.le_of_ble_eq_true rfl, Nat.le_of_ble_eq_true rfl⟩ dL_best_5 (by rw [hE]; rfl) (by decide) rfl rfl (by decide) rfl (Or.inl ⟨dL_best_13, rfl⟩) (fun v hv => ?_) (fun hv => ?_)
  · subst hv
    refine g_i2l X dL_best_8 ?_
    refine g_last (n := 1) (T := (q_un (q_wX c M2) (q_wO o)).1) (L := (q_un (q_wX c M2) (q_wO o)).2.1) (P := (q_un (q_wX c M2) (q_wO o)).2.2.1) (M := (q_un (q_wX c M2) (q_wO o)).2.2.2) X rfl rfl (show ¬ ((0 : Int32) < 0 ∨ 1 ≤ (0 : Int32).toNatClampNeg) by decide) dL_best_9 ?_
    refine g_alk q_O_alk ?_
    refine g_goto X 17 dL_best_10 rfl ?_
    refine g_iconst (v := 0) X dL_best_17 (by decide) ?_
    exact g_iret X rfl rfl rfl dL_best_18
  · subst hv
    refine g_iconst (v := 1) X dL_best_15 (by decide) ?_
    exact g_iret X rfl rfl rfl dL_best_16
theorem cl_L_best (l : Launch) (hl : l.stackTraces = false) (K : q_KK) {c : Nat → Nat} (hC : a_C c) {M M2 : q_MM} (a1 a2 : Int32) {rv : Option Int32} (hr : ft_X11_best c M a1 a2 = some (rv, M2)) (m o : q_MM) : LMt l yL_best cL_best 5 [(0, 10, 13, 13)] 8 182 1 6 K [.ref 1, .int a1, .int a2, .ref 6000] (q_lw3 c M m o) (some (.int (q_hk rv))) (q_lw3 c M2 m (q_ho rv o)) := by
  exact (c_L_best l hl K hC a1 a2 hr o).lawM hC m
set_option maxHeartbeats 4000000 in
set_option maxRecDepth 100000 in
theorem c_L_row (l : Launch) (hl : l.stackTraces = false) (K : q_KK) {c : Nat → Nat} (hC : a_C c) {M M2 : q_MM} (a1 : Int32) {rv : Option Int32} (hr : ft_X11_row c M a1 = some (rv, M2)) (o : q_MM) : LMt l yL_row cL_row 4 [(0, 9, 12, 13)] 7 111 1 6 K [.ref 1, .int a1, .ref 6000] (q_un (q_wX c M) (q_wO o)) (some (.int (q_hk rv))) (q_un (q_wX c M2) (q_wO (q_ho rv o))) := by
  refine LMt.of (ρ := Unit) (F := some ()) (fun _ => some (.int (q_hk rv))) (fun _ => q_un (q_wX c M2) (q_wO (q_ho rv o))) (by decide) (Nat.le_of_ble_eq_true rfl) ?_ () rfl
  intro p e s m args below meth c0 A ad X hE hTz
  have hX := (ct_X11_row l hl K c M a1 _ hr).lawO hC o
  refine g_sub (lv' := [(0, .ref 1), (1, .int a1), (2, .ref 6000)]) [0, 1, 2] rfl ?_
  refine g_aload_n X dL_row_0 rfl 2 rfl ?_
  refine g_iconst (v := 0) X dL_row_1 (by decide) ?_
  refine g_aload_n X dL_row_2 rfl 0 rfl ?_
  refine g_iload_n X dL_row_3 rfl 1 rfl ?_
  refine g_try (As := [.int a1]) (rest := [.int 0, .ref 6000]) (i := 3) (hp := 12) (hl := 13) (x := { startPc := 0, endPc := 9, handlerPc := 12, catchType := 13 }) X hX lk_L_22 rfl hTz rfl rfl (Nat.le_of_ble_eq_true rfl) ⟨Nat.le_of_ble_eq_true rfl, Nat.le_of_ble_eq_true rfl⟩ ⟨Nat.le_of_ble_eq_true rfl, Nat.le_of_ble_eq_true rfl⟩ dL_row_4 (by rw [hE]; rfl) (by decide) rfl rfl (by decide) rfl (Or.inr ⟨3, rfl, dL_row_12, rfl⟩) (fun v hv => ?_) (fun hv => ?_)
  · subst hv
    refine g_i2l X dL_row_7 ?_
    refine g_last (n := 1) (T := (q_un (q_wX c M2) (q_wO o)).1) (L := (q_un (q_wX c M2) (q_wO o)).2.1) (P := (q_un (q_wX c M2) (q_wO o)).2.2.1) (M := (q_un (q_wX c M2) (q_wO o)).2.2.2) X rfl rfl (show ¬ ((0 : Int32) < 0 ∨ 1 ≤ (0 : Int32).toNatClampNeg) by decide) dL_row_8 ?_
    refine g_alk q_O_alk ?_
    refine g_goto X 15 dL_row_9 rfl ?_
    refine g_iconst (v := 0) X dL_row_15 (by decide) ?_
    exact g_iret X rfl rfl rfl dL_row_16
  · subst hv
    refine g_iconst (v := 1) X dL_row_13 (by decide) ?_
    exact g_iret X rfl rfl rfl dL_row_14
theorem cl_L_row (l : Launch) (hl : l.stackTraces = false) (K : q_KK) {c : Nat → Nat} (hC : a_C c) {M M2 : q_MM} (a1 : Int32) {rv : Option Int32} (hr : ft_X11_row c M a1 = some (rv, M2)) (m o : q_MM) : LMt l yL_row cL_row 4 [(0, 9, 12, 13)] 7 111 1 6 K [.ref 1, .int a1, .ref 6000] (q_lw3 c M m o) (some (.int (q_hk rv))) (q_lw3 c M2 m (q_ho rv o)) := by
  exact (c_L_row l hl K hC a1 hr o).lawM hC m
