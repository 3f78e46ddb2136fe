/-! the law's cases (made by tool/lawcases.py) -/
def q_g0 : q_Mem := (fun _ => 0, fun _ => 0, fun _ _ => 0, fun _ _ => 0)
theorem q_lw2_T {c : Nat → Nat} (hC : a_C c) {M m o : q_MM} : (q_lw2 c M m o).1 5001 = 22 := by
  show (if (q_un (q_wX c M) (q_wO o)).1 5001 ≠ 0 then (q_un (q_wX c M) (q_wO o)).1 5001 else qTM 5001) = 22
  have e : (q_un (q_wX c M) (q_wO o)).1 5001 = 0 := z_hi (o := 5001) hC (by decide)
  rw [if_neg (fun q => q e)]
  rfl
section GGz
variable {ρ : Type} {p : Program} {l : Launch} {e : Env} {R : Room} {s : State} {m : MethodId} {args : Array Value} {below : List Frame} {meth : Method} {c : Code} {K : q_KK} {A : Nat → Prop} {g0 : q_Mem} {ad0 : Nat → Nat} {al : Bool} {nL : Nat} {Q : ρ → State → Prop} {F : Option ρ} {pc : Nat} {lv : List (Nat × Value)} {st : List Value} {g : q_Mem} {kc kn : Nat} {cc : ByteArray} {own : String} {ret : Option FieldType}
theorem g_zT (X : q_X p s m args meth c K A ad0 nL cc own ret) {off : Int} (tgt : Nat) (hd : decode cc pc = .ok (.ifCond .eq off, 3)) (ht : (pc : Int) + off = (tgt : Int)) (kk : GG p l e R s m args below meth c K A g0 ad0 al nL Q F tgt lv st g kc kn) : GG p l e R s m args below meth c K A g0 ad0 al nL Q F pc lv (.int 0 :: st) g kc kn :=
  g_ite (φ := (0 : Int32) = 0) (g_if_eq X tgt hd ht (fun _ => kk) (fun h => absurd rfl h))
theorem g_zF (X : q_X p s m args meth c K A ad0 nL cc own ret) {x : Int32} {off : Int} (tgt : Nat) (hx : ¬ x = 0) (hd : decode cc pc = .ok (.ifCond .eq off, 3)) (ht : (pc : Int) + off = (tgt : Int)) (kk : GG p l e R s m args below meth c K A g0 ad0 al nL Q F (pc + 3) lv st g kc kn) : GG p l e R s m args below meth c K A g0 ad0 al nL Q F pc lv (.int x :: st) g kc kn :=
  g_ite (φ := x = 0) (g_if_eq X tgt hd ht (fun h => absurd h hx) (fun _ => kk))
theorem g_neT (X : q_X p s m args meth c K A ad0 nL cc own ret) {x : Int32} {off : Int} (tgt : Nat) (hx : ¬ x = 0) (hd : decode cc pc = .ok (.ifCond .ne off, 3)) (ht : (pc : Int) + off = (tgt : Int)) (kk : GG p l e R s m args below meth c K A g0 ad0 al nL Q F tgt lv st g kc kn) : GG p l e R s m args below meth c K A g0 ad0 al nL Q F pc lv (.int x :: st) g kc kn :=
  g_ite (φ := x = 0) (g_if_ne X tgt hd ht (fun h => absurd h hx) (fun _ => kk))
theorem g_neF (X : q_X p s m args meth c K A ad0 nL cc own ret) {off : Int} (tgt : Nat) (hd : decode cc pc = .ok (.ifCond .ne off, 3)) (ht : (pc : Int) + off = (tgt : Int)) (kk : GG p l e R s m args below meth c K A g0 ad0 al nL Q F (pc + 3) lv st g kc kn) : GG p l e R s m args below meth c K A g0 ad0 al nL Q F pc lv (.int 0 :: st) g kc kn :=
  g_ite (φ := (0 : Int32) = 0) (g_if_ne X tgt hd ht (fun _ => kk) (fun h => absurd rfl h))
end GGz
section LawCases0
variable {p : Program} {l : Launch} {e : Env} {s : State} {m : MethodId} {below : List Frame} {meth : Method} {c0 : Code} {K : q_KK} {A : Nat → Prop} {ad : Nat → Nat} {b N : Nat} {xs : Nat → Int32} {c n : Nat → Nat} {M mm o : q_MM} {q kc kn : Nat}
set_option maxHeartbeats 2000000 in
set_option maxRecDepth 100000 in
theorem law_0 (X : q_X p s m #[Value.ref b] meth c0 K A ad 7 cL_law RL (some .boolean)) (hS : q_scr b N xs A ad s) (hN : N < 2147483648) (h : a_X c n mm M) (hq : q + 8 ≤ N) (hk : kc + 3 ≤ 601024) (hkn : kn + 97 ≤ 7293034) (kk : ∀ (c n : Nat → Nat) (M mm o : q_MM), a_X c n mm M → GG p l e room_1 s m #[Value.ref b] below meth c0 K A q_g0 ad true 7 (fun (_ : Unit) => lw_Z below #[Value.ref b] s) (some ()) 1910 [(0, .ref 960), (1, .ref 1), (2, .ref 5001), (3, .ref 6000), (4, .int (nI q))] [] (q_lw c M mm o) (kc + 3) (kn + 97)) : GG p l e room_1 s m #[Value.ref b] below meth c0 K A q_g0 ad true 7 (fun (_ : Unit) => lw_Z below #[Value.ref b] s) (some ()) 224 [(0, .ref 960), (1, .ref 1), (2, .ref 5001), (3, .ref 6000), (4, .int (nI q))] [] (q_lw c M mm o) kc kn := by
  obtain ⟨r, n', M', m', hx, hm, h'⟩ := pub_room h
  refine g_aload_n X dL_law_224 rfl 1 rfl ?_
  refine g_callV (rv := some (.int r)) (As := []) (rest := []) X ((c_X11_room l K c M _ hx).lawX h.C h.C (fun _ hq => by cases hq) mm o) lk_L_30 rfl rfl rfl (Nat.le_of_ble_eq_true rfl) ⟨Nat.le_of_ble_eq_true rfl, Nat.le_of_ble_eq_true rfl⟩ ⟨by show kc + 0 ≤ 601024; omega, by show kn + 0 ≤ 7293034; omega⟩ dL_law_225 (fun hq => by cases hq) ?_
  refine g_aload_n X dL_law_228 rfl 2 rfl ?_
  refine g_alk (q_lw_alk h'.C).1 ?_
  refine g_callV (rv := some (.int r)) (As := []) (rest := [.int r]) X ((c_X12_room l K mm _ hm).lawM h'.C (fun _ hq => by cases hq) o) lk_L_34 (q_lw2_T h'.C) rfl rfl (Nat.le_of_ble_eq_true rfl) ⟨Nat.le_of_ble_eq_true rfl, Nat.le_of_ble_eq_true rfl⟩ ⟨by show (kc + 0) + 0 ≤ 601024; omega, by show (kn + 0) + 0 ≤ 7293034; omega⟩ dL_law_229 (fun hq => by cases hq) ?_
  refine g_alk (q_lw_alk h'.C).2 ?_
  refine g_icmpT X 1910 dL_law_232 rfl ?_
  refine g_widen (kc' := kc + 3) (kn' := kn + 97) (by show kc + 0 + 0 ≤ kc + 3; omega) (by show kn + 0 + 0 ≤ kn + 97; omega) ?_
  exact kk c n' M' m' o h'
set_option maxHeartbeats 2000000 in
set_option maxRecDepth 100000 in
theorem law_1 (X : q_X p s m #[Value.ref b] meth c0 K A ad 7 cL_law RL (some .boolean)) (hS : q_scr b N xs A ad s) (hN : N < 2147483648) (h : a_X c n mm M) (hq : q + 8 ≤ N) (hk : kc + 3 ≤ 601024) (hkn : kn + 97 ≤ 7293034) (kk : ∀ (c n : Nat → Nat) (M mm o : q_MM), a_X c n mm M → GG p l e room_1 s m #[Value.ref b] below meth c0 K A q_g0 ad true 7 (fun (_ : Unit) => lw_Z below #[Value.ref b] s) (some ()) 1910 [(0, .ref 960), (1, .ref 1), (2, .ref 5001), (3, .ref 6000), (4, .int (nI q))] [] (q_lw c M mm o) (kc + 3) (kn + 97)) : GG p l e room_1 s m #[Value.ref b] below meth c0 K A q_g0 ad true 7 (fun (_ : Unit) => lw_Z below #[Value.ref b] s) (some ()) 237 [(0, .ref 960), (1, .ref 1), (2, .ref 5001), (3, .ref 6000), (4, .int (nI q))] [] (q_lw c M mm o) kc kn := by
  obtain ⟨r, c', n', M', m', hx, hm, h'⟩ := pub_door h (xs (q + 1)) (xs (q + 2)) (xs (q + 3)) (xs (q + 4))
  rw [← e_door h] at hx
  refine g_aload_n X dL_law_237 rfl 1 rfl ?_
  refine g_arg5 X hS 1 hN (by omega) rfl rfl dL_law_238 dL_law_239 dL_law_241 rfl dL_law_242 dL_law_243 ?_
  refine g_arg5 X hS 2 hN (by omega) rfl rfl dL_law_244 dL_law_245 dL_law_247 rfl dL_law_248 dL_law_249 ?_
  refine g_arg5 X hS 3 hN (by omega) rfl rfl dL_law_250 dL_law_251 dL_law_253 rfl dL_law_254 dL_law_255 ?_
  refine g_arg5 X hS 4 hN (by omega) rfl rfl dL_law_256 dL_law_257 dL_law_259 rfl dL_law_260 dL_law_261 ?_
  refine g_callV (rv := some (.int r)) (As := [.int (xs (q + 1)), .int (xs (q + 2)), .int (xs (q + 3)), .int (xs (q + 4))]) (rest := []) X ((c_X11_door l K c M (xs (q + 1)) (xs (q + 2)) (xs (q + 3)) (xs (q + 4)) _ hx).lawX h.C h'.C (fun _ hq => by cases hq) mm o) lk_L_35 rfl rfl rfl (Nat.le_of_ble_eq_true rfl) ⟨Nat.le_of_ble_eq_true rfl, Nat.le_of_ble_eq_true rfl⟩ ⟨by show kc + 2 ≤ 601024; omega, by show kn + 37 ≤ 7293034; omega⟩ dL_law_262 (fun _ => ⟨rfl, q_lwok, fun v hv => absurd hv List.not_mem_nil⟩) ?_
  refine g_aload_n X dL_law_265 rfl 2 rfl ?_
  refine g_arg5 X hS 1 hN (by omega) rfl rfl dL_law_266 dL_law_267 dL_law_269 rfl dL_law_270 dL_law_271 ?_
  refine g_arg5 X hS 2 hN (by omega) rfl rfl dL_law_272 dL_law_273 dL_law_275 rfl dL_law_276 dL_law_277 ?_
  refine g_arg5 X hS 3 hN (by omega) rfl rfl dL_law_278 dL_law_279 dL_law_281 rfl dL_law_282 dL_law_283 ?_
  refine g_arg5 X hS 4 hN (by omega) rfl rfl dL_law_284 dL_law_285 dL_law_287 rfl dL_law_288 dL_law_289 ?_
  refine g_alk (q_lw_alk h'.C).1 ?_
  refine g_callV (rv := some (.int r)) (As := [.int (xs (q + 1)), .int (xs (q + 2)), .int (xs (q + 3)), .int (xs (q + 4))]) (rest := [.int r]) X ((c_X12_door l K mm (xs (q + 1)) (xs (q + 2)) (xs (q + 3)) (xs (q + 4)) _ hm).lawM h'.C (fun _ hq => by cases hq) o) lk_L_39 (q_lw2_T h'.C) rfl rfl (Nat.le_of_ble_eq_true rfl) ⟨Nat.le_of_ble_eq_true rfl, Nat.le_of_ble_eq_true rfl⟩ ⟨by show (kc + 2) + 0 ≤ 601024; omega, by show (kn + 37) + 0 ≤ 7293034; omega⟩ dL_law_290 (fun hq => by cases hq) ?_
  refine g_alk (q_lw_alk h'.C).2 ?_
  refine g_icmpT X 1910 dL_law_293 rfl ?_
  refine g_widen (kc' := kc + 3) (kn' := kn + 97) (by show kc + 2 + 0 ≤ kc + 3; omega) (by show kn + 37 + 0 ≤ kn + 97; omega) ?_
  exact kk c' n' M' m' o h'
set_option maxHeartbeats 2000000 in
set_option maxRecDepth 100000 in
theorem law_5 (X : q_X p s m #[Value.ref b] meth c0 K A ad 7 cL_law RL (some .boolean)) (hS : q_scr b N xs A ad s) (hN : N < 2147483648) (h : a_X c n mm M) (hq : q + 8 ≤ N) (hk : kc + 3 ≤ 601024) (hkn : kn + 97 ≤ 7293034) (kk : ∀ (c n : Nat → Nat) (M mm o : q_MM), a_X c n mm M → GG p l e room_1 s m #[Value.ref b] below meth c0 K A q_g0 ad true 7 (fun (_ : Unit) => lw_Z below #[Value.ref b] s) (some ()) 1910 [(0, .ref 960), (1, .ref 1), (2, .ref 5001), (3, .ref 6000), (4, .int (nI q))] [] (q_lw c M mm o) (kc + 3) (kn + 97)) : GG p l e room_1 s m #[Value.ref b] below meth c0 K A q_g0 ad true 7 (fun (_ : Unit) => lw_Z below #[Value.ref b] s) (some ()) 481 [(0, .ref 960), (1, .ref 1), (2, .ref 5001), (3, .ref 6000), (4, .int (nI q))] [] (q_lw c M mm o) kc kn := by
  obtain ⟨r, n', M', m', hx, hm, h'⟩ := pub_set h (xs (q + 1)) (xs (q + 2))
  refine g_aload_n X dL_law_481 rfl 1 rfl ?_
  refine g_arg5 X hS 1 hN (by omega) rfl rfl dL_law_482 dL_law_483 dL_law_485 rfl dL_law_486 dL_law_487 ?_
  refine g_arg5 X hS 2 hN (by omega) rfl rfl dL_law_488 dL_law_489 dL_law_491 rfl dL_law_492 dL_law_493 ?_
  refine g_callV (rv := some (.int r)) (As := [.int (xs (q + 1)), .int (xs (q + 2))]) (rest := []) X ((c_X11_set l K c M (xs (q + 1)) (xs (q + 2)) _ hx).lawX h.C h.C (fun _ hq => by cases hq) mm o) lk_L_54 rfl rfl rfl (Nat.le_of_ble_eq_true rfl) ⟨Nat.le_of_ble_eq_true rfl, Nat.le_of_ble_eq_true rfl⟩ ⟨by show kc + 0 ≤ 601024; omega, by show kn + 0 ≤ 7293034; omega⟩ dL_law_494 (fun hq => by cases hq) ?_
  refine g_aload_n X dL_law_497 rfl 2 rfl ?_
  refine g_arg5 X hS 1 hN (by omega) rfl rfl dL_law_498 dL_law_499 dL_law_501 rfl dL_law_502 dL_law_503 ?_
  refine g_arg5 X hS 2 hN (by omega) rfl rfl dL_law_504 dL_law_505 dL_law_507 rfl dL_law_508 dL_law_509 ?_
  refine g_alk (q_lw_alk h'.C).1 ?_
  refine g_callV (rv := some (.int r)) (As := [.int (xs (q + 1)), .int (xs (q + 2))]) (rest := [.int r]) X ((c_X12_set l K mm (xs (q + 1)) (xs (q + 2)) _ hm).lawM h'.C (fun _ hq => by cases hq) o) lk_L_57 (q_lw2_T h'.C) rfl rfl (Nat.le_of_ble_eq_true rfl) ⟨Nat.le_of_ble_eq_true rfl, Nat.le_of_ble_eq_true rfl⟩ ⟨by show (kc + 0) + 0 ≤ 601024; omega, by show (kn + 0) + 0 ≤ 7293034; omega⟩ dL_law_510 (fun hq => by cases hq) ?_
  refine g_alk (q_lw_alk h'.C).2 ?_
  refine g_icmpT X 1910 dL_law_513 rfl ?_
  refine g_widen (kc' := kc + 3) (kn' := kn + 97) (by show kc + 0 + 0 ≤ kc + 3; omega) (by show kn + 0 + 0 ≤ kn + 97; omega) ?_
  exact kk c n' M' m' o h'
set_option maxHeartbeats 2000000 in
set_option maxRecDepth 100000 in
theorem law_17 (hl : l.stackTraces = false) (hTz : q_Tz A s s.heap) (X : q_X p s m #[Value.ref b] meth c0 K A ad 7 cL_law RL (some .boolean)) (hS : q_scr b N xs A ad s) (hN : N < 2147483648) (h : a_X c n mm M) (hq : q + 8 ≤ N) (hk : kc + 3 ≤ 601024) (hkn : kn + 97 ≤ 7293034) (kk : ∀ (c n : Nat → Nat) (M mm o : q_MM), a_X c n mm M → GG p l e room_1 s m #[Value.ref b] below meth c0 K A q_g0 ad true 7 (fun (_ : Unit) => lw_Z below #[Value.ref b] s) (some ()) 1910 [(0, .ref 960), (1, .ref 1), (2, .ref 5001), (3, .ref 6000), (4, .int (nI q))] [] (q_lw c M mm o) (kc + 3) (kn + 97)) : GG p l e room_1 s m #[Value.ref b] below meth c0 K A q_g0 ad true 7 (fun (_ : Unit) => lw_Z below #[Value.ref b] s) (some ()) 977 [(0, .ref 960), (1, .ref 1), (2, .ref 5001), (3, .ref 6000), (4, .int (nI q))] [] (q_lw c M mm o) kc kn := by
  obtain ⟨rv, r, n', M', m', hx, hm, ht, hv, h'⟩ := px_at h (xs (q + 1)) (xs (q + 2))
  refine g_aload_n X dL_law_977 rfl 1 rfl ?_
  refine g_arg5 X hS 1 hN (by omega) rfl rfl dL_law_978 dL_law_979 dL_law_981 rfl dL_law_982 dL_law_983 ?_
  refine g_arg5 X hS 2 hN (by omega) rfl rfl dL_law_984 dL_law_985 dL_law_987 rfl dL_law_988 dL_law_989 ?_
  refine g_aload_n X dL_law_990 rfl 3 rfl ?_
  refine g_alk q_lw3_alk.1 ?_
  refine g_callSH (As := [.ref 1, .int (xs (q + 1)), .int (xs (q + 2)), .ref 6000]) (rest := []) X (cl_L_at l hl K h.C (xs (q + 1)) (xs (q + 2)) hx mm o) lkh_L_104 hTz rfl rfl (Nat.le_of_ble_eq_true rfl) ⟨Nat.le_of_ble_eq_true rfl, Nat.le_of_ble_eq_true rfl⟩ ⟨by show kc + 1 ≤ 601024; omega, by show kn + 6 ≤ 7293034; omega⟩ dL_law_991 ?_
  refine g_alk q_lw3_alk.2 ?_
  refine g_istore X [(5, .int (q_hk rv)), (0, .ref 960), (1, .ref 1), (2, .ref 5001), (3, .ref 6000), (4, .int (nI q))] dL_law_994 (by decide) rfl ?_
  refine g_sub (lv' := [(0, .ref 960), (1, .ref 1), (2, .ref 5001), (3, .ref 6000), (4, .int (nI q)), (5, .int (q_hk rv))]) [1, 2, 3, 4, 5, 0] rfl ?_
  refine g_aload_n X dL_law_996 rfl 2 rfl ?_
  refine g_arg5 X hS 1 hN (by omega) rfl rfl dL_law_997 dL_law_998 dL_law_1000 rfl dL_law_1001 dL_law_1002 ?_
  refine g_arg5 X hS 2 hN (by omega) rfl rfl dL_law_1003 dL_law_1004 dL_law_1006 rfl dL_law_1007 dL_law_1008 ?_
  refine g_alk (q_lw_alk h'.C).1 ?_
  refine g_callV (rv := some (.int r)) (As := [.int (xs (q + 1)), .int (xs (q + 2))]) (rest := []) X ((c_X12_at l K mm (xs (q + 1)) (xs (q + 2)) _ hm).lawM h'.C (fun _ hq => by cases hq) _) lk_L_109 (q_lw2_T h'.C) rfl rfl (Nat.le_of_ble_eq_true rfl) ⟨Nat.le_of_ble_eq_true rfl, Nat.le_of_ble_eq_true rfl⟩ ⟨by show (kc + 1) + 0 ≤ 601024; omega, by show (kn + 6) + 0 ≤ 7293034; omega⟩ dL_law_1009 (fun hq => by cases hq) ?_
  refine g_istore X [(6, .int r), (0, .ref 960), (1, .ref 1), (2, .ref 5001), (3, .ref 6000), (4, .int (nI q)), (5, .int (q_hk rv))] dL_law_1012 (by decide) rfl ?_
  refine g_aload_n X dL_law_1014 rfl 3 rfl ?_
  refine g_callV (rv := some (.int (q_hk rv))) (As := []) (rest := []) X ((c_X12_thrown l K m' (q_hk rv) (by show some (m' 5001 0) = some (q_hk rv); rw [ht])).lawM h'.C (fun _ hq => by cases hq) _) lk_L_110 (q_lw2_T h'.C) rfl rfl (Nat.le_of_ble_eq_true rfl) ⟨Nat.le_of_ble_eq_true rfl, Nat.le_of_ble_eq_true rfl⟩ ⟨by show (kc + 1 + 0) + 0 ≤ 601024; omega, by show (kn + 6 + 0) + 0 ≤ 7293034; omega⟩ dL_law_1015 (fun hq => by cases hq) ?_
  refine g_alk (q_lw_alk h'.C).2 ?_
  refine g_iload X dL_law_1018 6 rfl ?_
  refine g_icmpT X 1025 dL_law_1020 rfl ?_
  refine g_iload X dL_law_1025 6 rfl ?_
  have fin : GG p l e room_1 s m #[Value.ref b] below meth c0 K A q_g0 ad true 7 (fun (_ : Unit) => lw_Z below #[Value.ref b] s) (some ()) 1042 [(6, .int r), (0, .ref 960), (1, .ref 1), (2, .ref 5001), (3, .ref 6000), (4, .int (nI q)), (5, .int (q_hk rv))] [] (q_lw c M' m' (q_ho rv o)) (kc + 1 + 0 + 0) (kn + 6 + 0 + 0) := by
    refine g_goto X 1910 dL_law_1042 rfl ?_
    refine g_sub (lv' := [(0, .ref 960), (1, .ref 1), (2, .ref 5001), (3, .ref 6000), (4, .int (nI q))]) [1, 2, 3, 4, 5] rfl ?_
    refine g_widen (kc' := kc + 3) (kn' := kn + 97) (by show kc + 1 + 0 + 0 ≤ kc + 3; omega) (by show kn + 6 + 0 + 0 ≤ kn + 97; omega) ?_
    exact kk c n' M' m' _ h'
  cases rv with
  | none => exact g_neT X 1042 (show ¬ (1 : Int32) = 0 by decide) dL_law_1027 rfl fin
  | some v =>
    have hv := hv v rfl
    subst hv
    refine g_neF X 1042 dL_law_1027 rfl ?_
    refine g_aload_n X dL_law_1030 rfl 4 rfl ?_
    refine g_iconst (v := 0) X dL_law_1031 (by decide) ?_
    refine g_lald (n := 1) X rfl rfl (show ¬ ((0 : Int32) < 0 ∨ 1 ≤ (0 : Int32).toNatClampNeg) by decide) dL_law_1032 ?_
    rw [show (q_lw c M' m' (q_ho (some v) o)).2.2.2 6000 (0 : Int32).toNatClampNeg = v from q_lw_out]
    refine g_iload X dL_law_1033 0 rfl ?_
    refine g_i2l X dL_law_1035 ?_
    refine g_lcmp X dL_law_1036 ?_
    rw [lg_same]
    exact g_zT X 1042 dL_law_1037 rfl fin
end LawCases0
