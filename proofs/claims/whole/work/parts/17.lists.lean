/-! ArrayList: its making -/
section GGlist
variable {ρ : Type} {p : Program} {l : Launch} {e : Env} {R : Room} {s : State} {m : MethodId} {args : Array Value} {below : List Frame} {meth : Method} {c : Code} {K : q_KK} {A : Nat → Prop} {g0 : q_Mem} {ad0 : Nat → Nat} {al : Bool} {nL : Nat} {Q : ρ → State → Prop} {F F' : Option ρ} {pc : Nat} {lv lv' : List (Nat × Value)} {st rest As : List Value} {g g' : q_Mem} {kc kn : Nat} {cc : ByteArray} {own : String} {ret : Option FieldType}
variable {T : Nat → Nat} {L : Nat → Nat} {P : Nat → Nat → Nat} {M : Nat → Nat → Int32}
theorem g_putr (X : q_X p s m args meth c K A ad0 nL cc own ret) {ci kf idx o r : Nat} (fa : q_FA own idx ci kf true) (hfin : q_nofin ci kf = true) (hfit : ∀ (ad : Nat → Nat) (ty : FieldType), parseFieldDescriptor (q_dsc ci kf) = some ty → narrow ty (q_rf ad r) = q_rf ad r ∧ fits ty (q_rf ad r) = true) (hT : T o = ci + 10) (hd : decode cc pc = .ok (.putfield idx, 3))
    (kk : GG p l e R s m args below meth c K A g0 ad0 al nL Q F (pc + 3) lv st (T, L, q_p2 P o kf r, M) kc kn) : GG p l e R s m args below meth c K A g0 ad0 al nL Q F pc lv (.ref r :: .ref o :: st) (T, L, P, M) kc kn := by
  intro res hF ad H locs ls h1 h2 h3 h4
  obtain ⟨C, Tt, N, ty, f1, f2, f3, f4, f5, f6, f7, f8, f9, f10⟩ := fa
  obtain ⟨h0, ws, q0, hP, hD, e, hset⟩ := h2.at (o := o) (by show T o ≠ 0; omega)
  rw [q_cell_obj (ci := ci) hT] at e
  rw [List.map_cons, List.map_cons, q_trne h0]
  have hf : (Tt kf).2.2.2 = false := by
    have z := hfin
    unfold q_nofin at z
    rw [f1] at z
    simpa using z
  have hvv := hfit ad (ty kf) (by unfold q_dsc; rw [f1]; exact f7 kf f2)
  refine va_put (v := q_rf ad r) X.1 X.2.1 X.2.2.2.2.1 f6 ty f7 f8 X.2.2.2.1 X.2.2.2.2.2.1 hP hD h3 q0 e f1 kf f2 (X.2.2.2.2.1 _ f5) (fun _ z => z) hf (f7 kf f2) hvv.1 hvv.2 (by rw [q_fs_len]; omega) hd (fun H1 locs1 hP1 hD1 hS1 => ?_)
  have e2 : q_cell K ad (T, L, q_p2 P o kf r, M) o = .inr (ci, (q_fs ad (P o) (M o) (q_rt ci)).set kf (q_rf ad r)) := by
    rw [q_cell_obj (ci := ci) hT, q_fs_setr f4 (by omega)]
    simp only [q_p2, if_pos]
  exact kk res hF ad H1 locs1 ls h1 (hset (T, L, q_p2 P o kf r, M) (fun _ => rfl) (fun o' z => q_cell_p2 o' z) H1 (by rw [e2]; exact hP1) (by rw [e2]; exact hD1)) hS1 h4
end GGlist
set_option maxHeartbeats 4000000 in
set_option maxRecDepth 100000 in
theorem c_AC_init (l : Launch) (K : q_KK) (g : q_Mem) (o : Nat) (h0 : o ≠ 0) : Mt l yJxa1e45_init_da8c8 cJxa1e45_init_da8c8 1 none 1 20 0 0 false K [.ref o] g none g := by
  refine Mt.of (ρ := Unit) (F := some ()) (fun _ => none) (fun _ => g) (by decide) (Nat.le_of_ble_eq_true rfl) ?_ () rfl
  intro p e s m args below meth c0 A ad X hN
  refine g_sub (lv' := [(0, .ref o)]) [0] rfl ?_
  refine g_aload_n X dJxa1e45_init_da8c8_0 rfl 0 rfl ?_
  refine g_objinit X h0 lko_Jxa1e45_1 (Nat.le_of_ble_eq_true rfl) (Nat.le_of_ble_eq_true rfl) dJxa1e45_init_da8c8_1 ?_
  exact g_vret X rfl rfl rfl dJxa1e45_init_da8c8_4
set_option maxHeartbeats 4000000 in
set_option maxRecDepth 100000 in
theorem c_AL_init (l : Launch) (K : q_KK) (T : Nat → Nat) (L : Nat → Nat) (P : Nat → Nat → Nat) (M : q_MM) (o : Nat) (h0 : o ≠ 0) (hT : T o = 23) : Mt l yJxc12de_init_da8c8 cJxc12de_init_da8c8 1 none 2 50 0 0 false K [.ref o] (T, L, P, M) none (T, L, P, q_u2 M o 0 0) := by
  refine Mt.of (ρ := Unit) (F := some ()) (fun _ => none) (fun _ => (T, L, P, q_u2 M o 0 0)) (by decide) (Nat.le_of_ble_eq_true rfl) ?_ () rfl
  intro p e s m args below meth c0 A ad X hN
  refine g_sub (lv' := [(0, .ref o)]) [0] rfl ?_
  refine g_aload_n X dJxc12de_init_da8c8_0 rfl 0 rfl ?_
  refine g_callI (rv := none) (As := []) (rest := []) X h0 (c_AC_init l K _ o h0) lki_Jxc12de_1 rfl rfl (Nat.le_of_ble_eq_true rfl) ⟨Nat.le_of_ble_eq_true rfl, Nat.le_of_ble_eq_true rfl⟩ ⟨Nat.le_of_ble_eq_true rfl, Nat.le_of_ble_eq_true rfl⟩ dJxc12de_init_da8c8_1 (fun h => by cases h) ?_
  refine g_aload_n X dJxc12de_init_da8c8_4 rfl 0 rfl ?_
  refine g_iconst (v := 0) X dJxc12de_init_da8c8_5 (by decide) ?_
  refine g_puti X fa_Jxc12de_7 (by decide +kernel) hT (fun ty _ h => by cases (show parseFieldDescriptor (q_dsc 13 0) = some .int by decide +kernel).symm.trans h; exact ⟨rfl, rfl⟩) dJxc12de_init_da8c8_6 ?_
  exact g_vret X rfl rfl rfl dJxc12de_init_da8c8_9
set_option maxHeartbeats 4000000 in
set_option maxRecDepth 100000 in
theorem c_list_init (l : Launch) (K : q_KK) (T : Nat → Nat) (L : Nat → Nat) (P : Nat → Nat → Nat) (M : q_MM) (o : Nat) (h0 : o ≠ 0) (hT : T o = 23) : Mt l yJx4a65c_init_da8c8 cJx4a65c_init_da8c8 1 none 3 90 0 0 false K [.ref o] (T, L, P, M) none (T, L, q_p2 P o 1 940, q_u2 M o 0 0) := by
  refine Mt.of (ρ := Unit) (F := some ()) (fun _ => none) (fun _ => (T, L, q_p2 P o 1 940, q_u2 M o 0 0)) (by decide) (Nat.le_of_ble_eq_true rfl) ?_ () rfl
  intro p e s m args below meth c0 A ad X hN
  refine g_sub (lv' := [(0, .ref o)]) [0] rfl ?_
  refine g_aload_n X dJx4a65c_init_da8c8_0 rfl 0 rfl ?_
  refine g_callI (rv := none) (As := []) (rest := []) X h0 (c_AL_init l K T L P M o h0 hT) lki_Jx4a65c_1 rfl rfl (Nat.le_of_ble_eq_true rfl) ⟨Nat.le_of_ble_eq_true rfl, Nat.le_of_ble_eq_true rfl⟩ ⟨Nat.le_of_ble_eq_true rfl, Nat.le_of_ble_eq_true rfl⟩ dJx4a65c_init_da8c8_1 (fun h => by cases h) ?_
  refine g_aload_n X dJx4a65c_init_da8c8_4 rfl 0 rfl ?_
  refine g_empt X wf_Jx4a65c_39 dJx4a65c_init_da8c8_5 ?_
  refine g_putr X fa_Jx4a65c_9 (by decide +kernel) (fun ad ty h => q_arrfit (te := .object "java/lang/Object") (by decide +kernel) _ ad ty h) hT dJx4a65c_init_da8c8_8 ?_
  exact g_vret X rfl rfl rfl dJx4a65c_init_da8c8_11
