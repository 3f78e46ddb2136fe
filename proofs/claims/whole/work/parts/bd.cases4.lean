/-! the law's cases -/
section LawCases4
variable {p : Program} {l : Launch} {e : Env} {s : State} {m : MethodId} {below : List Frame} {meth : Method} {c0 : Code} {K : q_KK} {A : Nat → Prop} {ad : Nat → Nat} {b N : Nat} {xs : Nat → Int32} {c n : Nat → Nat} {M mm o : q_MM} {q kc kn : Nat}
set_option maxHeartbeats 2000000 in
set_option maxRecDepth 100000 in
theorem law_25 (hl : l.stackTraces = false) (hTz : q_Tz A s s.heap) (X : q_X p s m #[Value.ref b] meth c0 K A ad 7 cL_law RL (some .boolean)) (hS : q_scr b N xs A ad s) (hN : N < 2147483648) (h : a_X c n mm M) (hq : q + 8 ≤ N) (hk : kc + 3 ≤ 601024) (hkn : kn + 97 ≤ 7293034) (kk : ∀ (c n : Nat → Nat) (M mm o : q_MM), a_X c n mm M → GG p l e room_1 s m #[Value.ref b] below meth c0 K A q_g0 ad true 7 (fun (_ : Unit) => lw_Z below #[Value.ref b] s) (some ()) 1910 [(0, .ref 960), (1, .ref 1), (2, .ref 5001), (3, .ref 6000), (4, .int (nI q))] [] (q_lw c M mm o) (kc + 3) (kn + 97)) : GG p l e room_1 s m #[Value.ref b] below meth c0 K A q_g0 ad true 7 (fun (_ : Unit) => lw_Z below #[Value.ref b] s) (some ()) 1268 [(0, .ref 960), (1, .ref 1), (2, .ref 5001), (3, .ref 6000), (4, .int (nI q))] [] (q_lw c M mm o) kc kn := by
  obtain ⟨rv, r, n', M', m', hx, hm, ht, hv, h'⟩ := px_like h (xs (q + 1)) (xs (q + 2)) (xs (q + 3))
  refine g_aload_n X dL_law_1268 rfl 1 rfl ?_
  refine g_arg5 X hS 1 hN (by omega) rfl rfl dL_law_1269 dL_law_1270 dL_law_1272 rfl dL_law_1273 dL_law_1274 ?_
  refine g_arg5 X hS 2 hN (by omega) rfl rfl dL_law_1275 dL_law_1276 dL_law_1278 rfl dL_law_1279 dL_law_1280 ?_
  refine g_arg5 X hS 3 hN (by omega) rfl rfl dL_law_1281 dL_law_1282 dL_law_1284 rfl dL_law_1285 dL_law_1286 ?_
  refine g_aload_n X dL_law_1287 rfl 3 rfl ?_
  refine g_alk q_lw3_alk.1 ?_
  refine g_callSH (As := [.ref 1, .int (xs (q + 1)), .int (xs (q + 2)), .int (xs (q + 3)), .ref 6000]) (rest := []) X (cl_L_like l hl K h.C (xs (q + 1)) (xs (q + 2)) (xs (q + 3)) hx mm o) lkh_L_141 hTz rfl rfl (Nat.le_of_ble_eq_true rfl) ⟨Nat.le_of_ble_eq_true rfl, Nat.le_of_ble_eq_true rfl⟩ ⟨by show kc + 1 ≤ 601024; omega, by show kn + 6 ≤ 7293034; omega⟩ dL_law_1288 ?_
  refine g_alk q_lw3_alk.2 ?_
  refine g_istore X [(5, .int (q_hk rv)), (0, .ref 960), (1, .ref 1), (2, .ref 5001), (3, .ref 6000), (4, .int (nI q))] dL_law_1291 (by decide) rfl ?_
  refine g_sub (lv' := [(0, .ref 960), (1, .ref 1), (2, .ref 5001), (3, .ref 6000), (4, .int (nI q)), (5, .int (q_hk rv))]) [1, 2, 3, 4, 5, 0] rfl ?_
  refine g_aload_n X dL_law_1293 rfl 2 rfl ?_
  refine g_arg5 X hS 1 hN (by omega) rfl rfl dL_law_1294 dL_law_1295 dL_law_1297 rfl dL_law_1298 dL_law_1299 ?_
  refine g_arg5 X hS 2 hN (by omega) rfl rfl dL_law_1300 dL_law_1301 dL_law_1303 rfl dL_law_1304 dL_law_1305 ?_
  refine g_arg5 X hS 3 hN (by omega) rfl rfl dL_law_1306 dL_law_1307 dL_law_1309 rfl dL_law_1310 dL_law_1311 ?_
  refine g_alk (q_lw_alk h'.C).1 ?_
  refine g_callV (rv := some (.int r)) (As := [.int (xs (q + 1)), .int (xs (q + 2)), .int (xs (q + 3))]) (rest := []) X ((c_X12_like l K mm (xs (q + 1)) (xs (q + 2)) (xs (q + 3)) _ hm).lawM h'.C (fun _ hq => by cases hq) _) lk_L_144 (q_lw2_T h'.C) rfl rfl (Nat.le_of_ble_eq_true rfl) ⟨Nat.le_of_ble_eq_true rfl, Nat.le_of_ble_eq_true rfl⟩ ⟨by show (kc + 1) + 0 ≤ 601024; omega, by show (kn + 6) + 0 ≤ 7293034; omega⟩ dL_law_1312 (fun hq => by cases hq) ?_
  refine g_istore X [(6, .int r), (0, .ref 960), (1, .ref 1), (2, .ref 5001), (3, .ref 6000), (4, .int (nI q)), (5, .int (q_hk rv))] dL_law_1315 (by decide) rfl ?_
  refine g_aload_n X dL_law_1317 rfl 3 rfl ?_
  refine g_callV (rv := some (.int (q_hk rv))) (As := []) (rest := []) X ((c_X12_thrown l K m' (q_hk rv) (by show some (m' 5001 0) = some (q_hk rv); rw [ht])).lawM h'.C (fun _ hq => by cases hq) _) lk_L_110 (q_lw2_T h'.C) rfl rfl (Nat.le_of_ble_eq_true rfl) ⟨Nat.le_of_ble_eq_true rfl, Nat.le_of_ble_eq_true rfl⟩ ⟨by show (kc + 1 + 0) + 0 ≤ 601024; omega, by show (kn + 6 + 0) + 0 ≤ 7293034; omega⟩ dL_law_1318 (fun hq => by cases hq) ?_
  refine g_alk (q_lw_alk h'.C).2 ?_
  refine g_iload X dL_law_1321 6 rfl ?_
  refine g_icmpT X 1328 dL_law_1323 rfl ?_
  refine g_iload X dL_law_1328 6 rfl ?_
  have fin : GG p l e room_1 s m #[Value.ref b] below meth c0 K A q_g0 ad true 7 (fun (_ : Unit) => lw_Z below #[Value.ref b] s) (some ()) 1345 [(6, .int r), (0, .ref 960), (1, .ref 1), (2, .ref 5001), (3, .ref 6000), (4, .int (nI q)), (5, .int (q_hk rv))] [] (q_lw c M' m' (q_ho rv o)) (kc + 1 + 0 + 0) (kn + 6 + 0 + 0) := by
    refine g_goto X 1910 dL_law_1345 rfl ?_
    refine g_sub (lv' := [(0, .ref 960), (1, .ref 1), (2, .ref 5001), (3, .ref 6000), (4, .int (nI q))]) [1, 2, 3, 4, 5] rfl ?_
    refine g_widen (kc' := kc + 3) (kn' := kn + 97) (by show kc + 1 + 0 + 0 ≤ kc + 3; omega) (by show kn + 6 + 0 + 0 ≤ kn + 97; omega) ?_
    exact kk c n' M' m' _ h'
  cases rv with
  | none => exact g_neT X 1345 (show ¬ (1 : Int32) = 0 by decide) dL_law_1330 rfl fin
  | some v =>
    have hv := hv v rfl
    subst hv
    refine g_neF X 1345 dL_law_1330 rfl ?_
    refine g_aload_n X dL_law_1333 rfl 4 rfl ?_
    refine g_iconst (v := 0) X dL_law_1334 (by decide) ?_
    refine g_lald (n := 1) X rfl rfl (show ¬ ((0 : Int32) < 0 ∨ 1 ≤ (0 : Int32).toNatClampNeg) by decide) dL_law_1335 ?_
    rw [show (q_lw c M' m' (q_ho (some v) o)).2.2.2 6000 (0 : Int32).toNatClampNeg = v from q_lw_out]
    refine g_iload X dL_law_1336 0 rfl ?_
    refine g_i2l X dL_law_1338 ?_
    refine g_lcmp X dL_law_1339 ?_
    rw [lg_same]
    exact g_zT X 1345 dL_law_1340 rfl fin
set_option maxHeartbeats 2000000 in
set_option maxRecDepth 100000 in
theorem law_26 (hl : l.stackTraces = false) (hTz : q_Tz A s s.heap) (X : q_X p s m #[Value.ref b] meth c0 K A ad 7 cL_law RL (some .boolean)) (hS : q_scr b N xs A ad s) (hN : N < 2147483648) (h : a_X c n mm M) (hq : q + 8 ≤ N) (hk : kc + 3 ≤ 601024) (hkn : kn + 97 ≤ 7293034) (kk : ∀ (c n : Nat → Nat) (M mm o : q_MM), a_X c n mm M → GG p l e room_1 s m #[Value.ref b] below meth c0 K A q_g0 ad true 7 (fun (_ : Unit) => lw_Z below #[Value.ref b] s) (some ()) 1910 [(0, .ref 960), (1, .ref 1), (2, .ref 5001), (3, .ref 6000), (4, .int (nI q))] [] (q_lw c M mm o) (kc + 3) (kn + 97)) : GG p l e room_1 s m #[Value.ref b] below meth c0 K A q_g0 ad true 7 (fun (_ : Unit) => lw_Z below #[Value.ref b] s) (some ()) 1348 [(0, .ref 960), (1, .ref 1), (2, .ref 5001), (3, .ref 6000), (4, .int (nI q))] [] (q_lw c M mm o) kc kn := by
  obtain ⟨rv, r, n', M', m', hx, hm, ht, hv, h'⟩ := px_best h (xs (q + 1)) (xs (q + 2))
  refine g_aload_n X dL_law_1348 rfl 1 rfl ?_
  refine g_arg5 X hS 1 hN (by omega) rfl rfl dL_law_1349 dL_law_1350 dL_law_1352 rfl dL_law_1353 dL_law_1354 ?_
  refine g_arg5 X hS 2 hN (by omega) rfl rfl dL_law_1355 dL_law_1356 dL_law_1358 rfl dL_law_1359 dL_law_1360 ?_
  refine g_aload_n X dL_law_1361 rfl 3 rfl ?_
  refine g_alk q_lw3_alk.1 ?_
  refine g_callSH (As := [.ref 1, .int (xs (q + 1)), .int (xs (q + 2)), .ref 6000]) (rest := []) X (cl_L_best l hl K h.C (xs (q + 1)) (xs (q + 2)) hx mm o) lkh_L_145 hTz rfl rfl (Nat.le_of_ble_eq_true rfl) ⟨Nat.le_of_ble_eq_true rfl, Nat.le_of_ble_eq_true rfl⟩ ⟨by show kc + 1 ≤ 601024; omega, by show kn + 6 ≤ 7293034; omega⟩ dL_law_1362 ?_
  refine g_alk q_lw3_alk.2 ?_
  refine g_istore X [(5, .int (q_hk rv)), (0, .ref 960), (1, .ref 1), (2, .ref 5001), (3, .ref 6000), (4, .int (nI q))] dL_law_1365 (by decide) rfl ?_
  refine g_sub (lv' := [(0, .ref 960), (1, .ref 1), (2, .ref 5001), (3, .ref 6000), (4, .int (nI q)), (5, .int (q_hk rv))]) [1, 2, 3, 4, 5, 0] rfl ?_
  refine g_aload_n X dL_law_1367 rfl 2 rfl ?_
  refine g_arg5 X hS 1 hN (by omega) rfl rfl dL_law_1368 dL_law_1369 dL_law_1371 rfl dL_law_1372 dL_law_1373 ?_
  refine g_arg5 X hS 2 hN (by omega) rfl rfl dL_law_1374 dL_law_1375 dL_law_1377 rfl dL_law_1378 dL_law_1379 ?_
  refine g_alk (q_lw_alk h'.C).1 ?_
  refine g_callV (rv := some (.int r)) (As := [.int (xs (q + 1)), .int (xs (q + 2))]) (rest := []) X ((c_X12_best l K mm (xs (q + 1)) (xs (q + 2)) _ hm).lawM h'.C (fun _ hq => by cases hq) _) lk_L_147 (q_lw2_T h'.C) rfl rfl (Nat.le_of_ble_eq_true rfl) ⟨Nat.le_of_ble_eq_true rfl, Nat.le_of_ble_eq_true rfl⟩ ⟨by show (kc + 1) + 0 ≤ 601024; omega, by show (kn + 6) + 0 ≤ 7293034; omega⟩ dL_law_1380 (fun hq => by cases hq) ?_
  refine g_istore X [(6, .int r), (0, .ref 960), (1, .ref 1), (2, .ref 5001), (3, .ref 6000), (4, .int (nI q)), (5, .int (q_hk rv))] dL_law_1383 (by decide) rfl ?_
  refine g_aload_n X dL_law_1385 rfl 3 rfl ?_
  refine g_callV (rv := some (.int (q_hk rv))) (As := []) (rest := []) X ((c_X12_thrown l K m' (q_hk rv) (by show some (m' 5001 0) = some (q_hk rv); rw [ht])).lawM h'.C (fun _ hq => by cases hq) _) lk_L_110 (q_lw2_T h'.C) rfl rfl (Nat.le_of_ble_eq_true rfl) ⟨Nat.le_of_ble_eq_true rfl, Nat.le_of_ble_eq_true rfl⟩ ⟨by show (kc + 1 + 0) + 0 ≤ 601024; omega, by show (kn + 6 + 0) + 0 ≤ 7293034; omega⟩ dL_law_1386 (fun hq => by cases hq) ?_
  refine g_alk (q_lw_alk h'.C).2 ?_
  refine g_iload X dL_law_1389 6 rfl ?_
  refine g_icmpT X 1396 dL_law_1391 rfl ?_
  refine g_iload X dL_law_1396 6 rfl ?_
  have fin : GG p l e room_1 s m #[Value.ref b] below meth c0 K A q_g0 ad true 7 (fun (_ : Unit) => lw_Z below #[Value.ref b] s) (some ()) 1413 [(6, .int r), (0, .ref 960), (1, .ref 1), (2, .ref 5001), (3, .ref 6000), (4, .int (nI q)), (5, .int (q_hk rv))] [] (q_lw c M' m' (q_ho rv o)) (kc + 1 + 0 + 0) (kn + 6 + 0 + 0) := by
    refine g_goto X 1910 dL_law_1413 rfl ?_
    refine g_sub (lv' := [(0, .ref 960), (1, .ref 1), (2, .ref 5001), (3, .ref 6000), (4, .int (nI q))]) [1, 2, 3, 4, 5] rfl ?_
    refine g_widen (kc' := kc + 3) (kn' := kn + 97) (by show kc + 1 + 0 + 0 ≤ kc + 3; omega) (by show kn + 6 + 0 + 0 ≤ kn + 97; omega) ?_
    exact kk c n' M' m' _ h'
  cases rv with
  | none => exact g_neT X 1413 (show ¬ (1 : Int32) = 0 by decide) dL_law_1398 rfl fin
  | some v =>
    have hv := hv v rfl
    subst hv
    refine g_neF X 1413 dL_law_1398 rfl ?_
    refine g_aload_n X dL_law_1401 rfl 4 rfl ?_
    refine g_iconst (v := 0) X dL_law_1402 (by decide) ?_
    refine g_lald (n := 1) X rfl rfl (show ¬ ((0 : Int32) < 0 ∨ 1 ≤ (0 : Int32).toNatClampNeg) by decide) dL_law_1403 ?_
    rw [show (q_lw c M' m' (q_ho (some v) o)).2.2.2 6000 (0 : Int32).toNatClampNeg = v from q_lw_out]
    refine g_iload X dL_law_1404 0 rfl ?_
    refine g_i2l X dL_law_1406 ?_
    refine g_lcmp X dL_law_1407 ?_
    rw [lg_same]
    exact g_zT X 1413 dL_law_1408 rfl fin
set_option maxHeartbeats 2000000 in
set_option maxRecDepth 100000 in
theorem law_27 (X : q_X p s m #[Value.ref b] meth c0 K A ad 7 cL_law RL (some .boolean)) (hS : q_scr b N xs A ad s) (hN : N < 2147483648) (h : a_X c n mm M) (hq : q + 8 ≤ N) (hk : kc + 3 ≤ 601024) (hkn : kn + 97 ≤ 7293034) (kk : ∀ (c n : Nat → Nat) (M mm o : q_MM), a_X c n mm M → GG p l e room_1 s m #[Value.ref b] below meth c0 K A q_g0 ad true 7 (fun (_ : Unit) => lw_Z below #[Value.ref b] s) (some ()) 1910 [(0, .ref 960), (1, .ref 1), (2, .ref 5001), (3, .ref 6000), (4, .int (nI q))] [] (q_lw c M mm o) (kc + 3) (kn + 97)) : GG p l e room_1 s m #[Value.ref b] below meth c0 K A q_g0 ad true 7 (fun (_ : Unit) => lw_Z below #[Value.ref b] s) (some ()) 1416 [(0, .ref 960), (1, .ref 1), (2, .ref 5001), (3, .ref 6000), (4, .int (nI q))] [] (q_lw c M mm o) kc kn := by
  obtain ⟨r, n', M', m', hx, hm, h'⟩ := pub_lay h
  refine g_aload_n X dL_law_1416 rfl 1 rfl ?_
  refine g_callV (rv := some (.int r)) (As := []) (rest := []) X ((c_X11_lay l K c M _ hx).lawX h.C h.C (fun _ hq => by cases hq) mm o) lk_L_148 rfl rfl rfl (Nat.le_of_ble_eq_true rfl) ⟨Nat.le_of_ble_eq_true rfl, Nat.le_of_ble_eq_true rfl⟩ ⟨by show kc + 0 ≤ 601024; omega, by show kn + 0 ≤ 7293034; omega⟩ dL_law_1417 (fun hq => by cases hq) ?_
  refine g_aload_n X dL_law_1420 rfl 2 rfl ?_
  refine g_alk (q_lw_alk h'.C).1 ?_
  refine g_callV (rv := some (.int r)) (As := []) (rest := [.int r]) X ((c_X12_lay l K mm _ hm).lawM h'.C (fun _ hq => by cases hq) o) lk_L_151 (q_lw2_T h'.C) rfl rfl (Nat.le_of_ble_eq_true rfl) ⟨Nat.le_of_ble_eq_true rfl, Nat.le_of_ble_eq_true rfl⟩ ⟨by show (kc + 0) + 0 ≤ 601024; omega, by show (kn + 0) + 0 ≤ 7293034; omega⟩ dL_law_1421 (fun hq => by cases hq) ?_
  refine g_alk (q_lw_alk h'.C).2 ?_
  refine g_icmpT X 1910 dL_law_1424 rfl ?_
  refine g_widen (kc' := kc + 3) (kn' := kn + 97) (by show kc + 0 + 0 ≤ kc + 3; omega) (by show kn + 0 + 0 ≤ kn + 97; omega) ?_
  exact kk c n' M' m' o h'
set_option maxHeartbeats 2000000 in
set_option maxRecDepth 100000 in
theorem law_28 (X : q_X p s m #[Value.ref b] meth c0 K A ad 7 cL_law RL (some .boolean)) (hS : q_scr b N xs A ad s) (hN : N < 2147483648) (h : a_X c n mm M) (hq : q + 8 ≤ N) (hk : kc + 3 ≤ 601024) (hkn : kn + 97 ≤ 7293034) (kk : ∀ (c n : Nat → Nat) (M mm o : q_MM), a_X c n mm M → GG p l e room_1 s m #[Value.ref b] below meth c0 K A q_g0 ad true 7 (fun (_ : Unit) => lw_Z below #[Value.ref b] s) (some ()) 1910 [(0, .ref 960), (1, .ref 1), (2, .ref 5001), (3, .ref 6000), (4, .int (nI q))] [] (q_lw c M mm o) (kc + 3) (kn + 97)) : GG p l e room_1 s m #[Value.ref b] below meth c0 K A q_g0 ad true 7 (fun (_ : Unit) => lw_Z below #[Value.ref b] s) (some ()) 1429 [(0, .ref 960), (1, .ref 1), (2, .ref 5001), (3, .ref 6000), (4, .int (nI q))] [] (q_lw c M mm o) kc kn := by
  obtain ⟨r, n', M', m', hx, hm, h'⟩ := pub_tale h (xs (q + 1))
  refine g_aload_n X dL_law_1429 rfl 1 rfl ?_
  refine g_arg5 X hS 1 hN (by omega) rfl rfl dL_law_1430 dL_law_1431 dL_law_1433 rfl dL_law_1434 dL_law_1435 ?_
  refine g_callV (rv := some (.int r)) (As := [.int (xs (q + 1))]) (rest := []) X ((c_X11_tale l K c M (xs (q + 1)) _ hx).lawX h.C h.C (fun _ hq => by cases hq) mm o) lk_L_152 rfl rfl rfl (Nat.le_of_ble_eq_true rfl) ⟨Nat.le_of_ble_eq_true rfl, Nat.le_of_ble_eq_true rfl⟩ ⟨by show kc + 0 ≤ 601024; omega, by show kn + 0 ≤ 7293034; omega⟩ dL_law_1436 (fun hq => by cases hq) ?_
  refine g_aload_n X dL_law_1439 rfl 2 rfl ?_
  refine g_arg5 X hS 1 hN (by omega) rfl rfl dL_law_1440 dL_law_1441 dL_law_1443 rfl dL_law_1444 dL_law_1445 ?_
  refine g_alk (q_lw_alk h'.C).1 ?_
  refine g_callV (rv := some (.int r)) (As := [.int (xs (q + 1))]) (rest := [.int r]) X ((c_X12_tale l K mm (xs (q + 1)) _ hm).lawM h'.C (fun _ hq => by cases hq) o) lk_L_155 (q_lw2_T h'.C) rfl rfl (Nat.le_of_ble_eq_true rfl) ⟨Nat.le_of_ble_eq_true rfl, Nat.le_of_ble_eq_true rfl⟩ ⟨by show (kc + 0) + 0 ≤ 601024; omega, by show (kn + 0) + 0 ≤ 7293034; omega⟩ dL_law_1446 (fun hq => by cases hq) ?_
  refine g_alk (q_lw_alk h'.C).2 ?_
  refine g_icmpT X 1910 dL_law_1449 rfl ?_
  refine g_widen (kc' := kc + 3) (kn' := kn + 97) (by show kc + 0 + 0 ≤ kc + 3; omega) (by show kn + 0 + 0 ≤ kn + 97; omega) ?_
  exact kk c n' M' m' o h'
set_option maxHeartbeats 2000000 in
set_option maxRecDepth 100000 in
theorem law_29 (X : q_X p s m #[Value.ref b] meth c0 K A ad 7 cL_law RL (some .boolean)) (hS : q_scr b N xs A ad s) (hN : N < 2147483648) (h : a_X c n mm M) (hq : q + 8 ≤ N) (hk : kc + 3 ≤ 601024) (hkn : kn + 97 ≤ 7293034) (kk : ∀ (c n : Nat → Nat) (M mm o : q_MM), a_X c n mm M → GG p l e room_1 s m #[Value.ref b] below meth c0 K A q_g0 ad true 7 (fun (_ : Unit) => lw_Z below #[Value.ref b] s) (some ()) 1910 [(0, .ref 960), (1, .ref 1), (2, .ref 5001), (3, .ref 6000), (4, .int (nI q))] [] (q_lw c M mm o) (kc + 3) (kn + 97)) : GG p l e room_1 s m #[Value.ref b] below meth c0 K A q_g0 ad true 7 (fun (_ : Unit) => lw_Z below #[Value.ref b] s) (some ()) 1454 [(0, .ref 960), (1, .ref 1), (2, .ref 5001), (3, .ref 6000), (4, .int (nI q))] [] (q_lw c M mm o) kc kn := by
  obtain ⟨r, n', M', m', hx, hm, h'⟩ := pub_route h (xs (q + 1))
  refine g_aload_n X dL_law_1454 rfl 1 rfl ?_
  refine g_arg5 X hS 1 hN (by omega) rfl rfl dL_law_1455 dL_law_1456 dL_law_1458 rfl dL_law_1459 dL_law_1460 ?_
  refine g_callV (rv := some (.int r)) (As := [.int (xs (q + 1))]) (rest := []) X ((c_X11_route l K c M (xs (q + 1)) _ hx).lawX h.C h.C (fun _ hq => by cases hq) mm o) lk_L_156 rfl rfl rfl (Nat.le_of_ble_eq_true rfl) ⟨Nat.le_of_ble_eq_true rfl, Nat.le_of_ble_eq_true rfl⟩ ⟨by show kc + 0 ≤ 601024; omega, by show kn + 0 ≤ 7293034; omega⟩ dL_law_1461 (fun hq => by cases hq) ?_
  refine g_aload_n X dL_law_1464 rfl 2 rfl ?_
  refine g_arg5 X hS 1 hN (by omega) rfl rfl dL_law_1465 dL_law_1466 dL_law_1468 rfl dL_law_1469 dL_law_1470 ?_
  refine g_alk (q_lw_alk h'.C).1 ?_
  refine g_callV (rv := some (.int r)) (As := [.int (xs (q + 1))]) (rest := [.int r]) X ((c_X12_route l K mm (xs (q + 1)) _ hm).lawM h'.C (fun _ hq => by cases hq) o) lk_L_159 (q_lw2_T h'.C) rfl rfl (Nat.le_of_ble_eq_true rfl) ⟨Nat.le_of_ble_eq_true rfl, Nat.le_of_ble_eq_true rfl⟩ ⟨by show (kc + 0) + 0 ≤ 601024; omega, by show (kn + 0) + 0 ≤ 7293034; omega⟩ dL_law_1471 (fun hq => by cases hq) ?_
  refine g_alk (q_lw_alk h'.C).2 ?_
  refine g_icmpT X 1910 dL_law_1474 rfl ?_
  refine g_widen (kc' := kc + 3) (kn' := kn + 97) (by show kc + 0 + 0 ≤ kc + 3; omega) (by show kn + 0 + 0 ≤ kn + 97; omega) ?_
  exact kk c n' M' m' o h'
set_option maxHeartbeats 2000000 in
set_option maxRecDepth 100000 in
theorem law_30 (X : q_X p s m #[Value.ref b] meth c0 K A ad 7 cL_law RL (some .boolean)) (hS : q_scr b N xs A ad s) (hN : N < 2147483648) (h : a_X c n mm M) (hq : q + 8 ≤ N) (hk : kc + 3 ≤ 601024) (hkn : kn + 97 ≤ 7293034) (kk : ∀ (c n : Nat → Nat) (M mm o : q_MM), a_X c n mm M → GG p l e room_1 s m #[Value.ref b] below meth c0 K A q_g0 ad true 7 (fun (_ : Unit) => lw_Z below #[Value.ref b] s) (some ()) 1910 [(0, .ref 960), (1, .ref 1), (2, .ref 5001), (3, .ref 6000), (4, .int (nI q))] [] (q_lw c M mm o) (kc + 3) (kn + 97)) : GG p l e room_1 s m #[Value.ref b] below meth c0 K A q_g0 ad true 7 (fun (_ : Unit) => lw_Z below #[Value.ref b] s) (some ()) 1479 [(0, .ref 960), (1, .ref 1), (2, .ref 5001), (3, .ref 6000), (4, .int (nI q))] [] (q_lw c M mm o) kc kn := by
  obtain ⟨r, n', M', m', hx, hm, h'⟩ := pub_breaks h
  refine g_aload_n X dL_law_1479 rfl 1 rfl ?_
  refine g_callV (rv := some (.int r)) (As := []) (rest := []) X ((c_X11_breaks l K c M _ hx).lawX h.C h.C (fun _ hq => by cases hq) mm o) lk_L_160 rfl rfl rfl (Nat.le_of_ble_eq_true rfl) ⟨Nat.le_of_ble_eq_true rfl, Nat.le_of_ble_eq_true rfl⟩ ⟨by show kc + 0 ≤ 601024; omega, by show kn + 0 ≤ 7293034; omega⟩ dL_law_1480 (fun hq => by cases hq) ?_
  refine g_aload_n X dL_law_1483 rfl 2 rfl ?_
  refine g_alk (q_lw_alk h'.C).1 ?_
  refine g_callV (rv := some (.int r)) (As := []) (rest := [.int r]) X ((c_X12_breaks l K mm _ hm).lawM h'.C (fun _ hq => by cases hq) o) lk_L_163 (q_lw2_T h'.C) rfl rfl (Nat.le_of_ble_eq_true rfl) ⟨Nat.le_of_ble_eq_true rfl, Nat.le_of_ble_eq_true rfl⟩ ⟨by show (kc + 0) + 0 ≤ 601024; omega, by show (kn + 0) + 0 ≤ 7293034; omega⟩ dL_law_1484 (fun hq => by cases hq) ?_
  refine g_alk (q_lw_alk h'.C).2 ?_
  refine g_icmpT X 1910 dL_law_1487 rfl ?_
  refine g_widen (kc' := kc + 3) (kn' := kn + 97) (by show kc + 0 + 0 ≤ kc + 3; omega) (by show kn + 0 + 0 ≤ kn + 97; omega) ?_
  exact kk c n' M' m' o h'
set_option maxHeartbeats 2000000 in
set_option maxRecDepth 100000 in
theorem law_31 (X : q_X p s m #[Value.ref b] meth c0 K A ad 7 cL_law RL (some .boolean)) (hS : q_scr b N xs A ad s) (hN : N < 2147483648) (h : a_X c n mm M) (hq : q + 8 ≤ N) (hk : kc + 3 ≤ 601024) (hkn : kn + 97 ≤ 7293034) (kk : ∀ (c n : Nat → Nat) (M mm o : q_MM), a_X c n mm M → GG p l e room_1 s m #[Value.ref b] below meth c0 K A q_g0 ad true 7 (fun (_ : Unit) => lw_Z below #[Value.ref b] s) (some ()) 1910 [(0, .ref 960), (1, .ref 1), (2, .ref 5001), (3, .ref 6000), (4, .int (nI q))] [] (q_lw c M mm o) (kc + 3) (kn + 97)) : GG p l e room_1 s m #[Value.ref b] below meth c0 K A q_g0 ad true 7 (fun (_ : Unit) => lw_Z below #[Value.ref b] s) (some ()) 1492 [(0, .ref 960), (1, .ref 1), (2, .ref 5001), (3, .ref 6000), (4, .int (nI q))] [] (q_lw c M mm o) kc kn := by
  by_cases z : xs (q + 2) = 0
  · obtain ⟨r, n', M', m', hx, hm, h'⟩ := pub_shut h (xs (q + 1)) 0 (Or.inl rfl)
    refine g_aload_n X dL_law_1492 rfl 1 rfl ?_
    refine g_arg5 X hS 1 hN (by omega) rfl rfl dL_law_1493 dL_law_1494 dL_law_1496 rfl dL_law_1497 dL_law_1498 ?_
    refine g_arg5 X hS 2 hN (by omega) rfl rfl dL_law_1499 dL_law_1500 dL_law_1502 rfl dL_law_1503 dL_law_1504 ?_
    rw [z]
    refine g_zT X 1512 dL_law_1505 rfl ?_
    refine g_iconst (v := 0) X dL_law_1512 (by decide) ?_
    refine g_callV (rv := some (.int r)) (As := [.int (xs (q + 1)), .int 0]) (rest := []) X ((c_X11_shut l K c M (xs (q + 1)) 0 _ hx).lawX h.C h.C (fun _ hq => by cases hq) mm o) lk_L_164 rfl rfl rfl (Nat.le_of_ble_eq_true rfl) ⟨Nat.le_of_ble_eq_true rfl, Nat.le_of_ble_eq_true rfl⟩ ⟨by show kc + 0 ≤ 601024; omega, by show kn + 0 ≤ 7293034; omega⟩ dL_law_1513 (fun hq => by cases hq) ?_
    refine g_aload_n X dL_law_1516 rfl 2 rfl ?_
    refine g_arg5 X hS 1 hN (by omega) rfl rfl dL_law_1517 dL_law_1518 dL_law_1520 rfl dL_law_1521 dL_law_1522 ?_
    refine g_arg5 X hS 2 hN (by omega) rfl rfl dL_law_1523 dL_law_1524 dL_law_1526 rfl dL_law_1527 dL_law_1528 ?_
    rw [z]
    refine g_zT X 1536 dL_law_1529 rfl ?_
    refine g_iconst (v := 0) X dL_law_1536 (by decide) ?_
    refine g_alk (q_lw_alk h'.C).1 ?_
    refine g_callV (rv := some (.int r)) (As := [.int (xs (q + 1)), .int 0]) (rest := [.int r]) X ((c_X12_shut l K mm (xs (q + 1)) 0 _ hm).lawM h'.C (fun _ hq => by cases hq) o) lk_L_168 (q_lw2_T h'.C) rfl rfl (Nat.le_of_ble_eq_true rfl) ⟨Nat.le_of_ble_eq_true rfl, Nat.le_of_ble_eq_true rfl⟩ ⟨by show (kc + 0) + 0 ≤ 601024; omega, by show (kn + 0) + 0 ≤ 7293034; omega⟩ dL_law_1537 (fun hq => by cases hq) ?_
    refine g_alk (q_lw_alk h'.C).2 ?_
    refine g_icmpT X 1910 dL_law_1540 rfl ?_
    refine g_widen (kc' := kc + 3) (kn' := kn + 97) (by show kc + 0 + 0 ≤ kc + 3; omega) (by show kn + 0 + 0 ≤ kn + 97; omega) ?_
    exact kk c n' M' m' o h'
  · obtain ⟨r, n', M', m', hx, hm, h'⟩ := pub_shut h (xs (q + 1)) 1 (Or.inr rfl)
    refine g_aload_n X dL_law_1492 rfl 1 rfl ?_
    refine g_arg5 X hS 1 hN (by omega) rfl rfl dL_law_1493 dL_law_1494 dL_law_1496 rfl dL_law_1497 dL_law_1498 ?_
    refine g_arg5 X hS 2 hN (by omega) rfl rfl dL_law_1499 dL_law_1500 dL_law_1502 rfl dL_law_1503 dL_law_1504 ?_
    refine g_zF X 1512 z dL_law_1505 rfl ?_
    refine g_iconst (v := 1) X dL_law_1508 (by decide) ?_
    refine g_goto X 1513 dL_law_1509 rfl ?_
    refine g_callV (rv := some (.int r)) (As := [.int (xs (q + 1)), .int 1]) (rest := []) X ((c_X11_shut l K c M (xs (q + 1)) 1 _ hx).lawX h.C h.C (fun _ hq => by cases hq) mm o) lk_L_164 rfl rfl rfl (Nat.le_of_ble_eq_true rfl) ⟨Nat.le_of_ble_eq_true rfl, Nat.le_of_ble_eq_true rfl⟩ ⟨by show kc + 0 ≤ 601024; omega, by show kn + 0 ≤ 7293034; omega⟩ dL_law_1513 (fun hq => by cases hq) ?_
    refine g_aload_n X dL_law_1516 rfl 2 rfl ?_
    refine g_arg5 X hS 1 hN (by omega) rfl rfl dL_law_1517 dL_law_1518 dL_law_1520 rfl dL_law_1521 dL_law_1522 ?_
    refine g_arg5 X hS 2 hN (by omega) rfl rfl dL_law_1523 dL_law_1524 dL_law_1526 rfl dL_law_1527 dL_law_1528 ?_
    refine g_zF X 1536 z dL_law_1529 rfl ?_
    refine g_iconst (v := 1) X dL_law_1532 (by decide) ?_
    refine g_goto X 1537 dL_law_1533 rfl ?_
    refine g_alk (q_lw_alk h'.C).1 ?_
    refine g_callV (rv := some (.int r)) (As := [.int (xs (q + 1)), .int 1]) (rest := [.int r]) X ((c_X12_shut l K mm (xs (q + 1)) 1 _ hm).lawM h'.C (fun _ hq => by cases hq) o) lk_L_168 (q_lw2_T h'.C) rfl rfl (Nat.le_of_ble_eq_true rfl) ⟨Nat.le_of_ble_eq_true rfl, Nat.le_of_ble_eq_true rfl⟩ ⟨by show (kc + 0) + 0 ≤ 601024; omega, by show (kn + 0) + 0 ≤ 7293034; omega⟩ dL_law_1537 (fun hq => by cases hq) ?_
    refine g_alk (q_lw_alk h'.C).2 ?_
    refine g_icmpT X 1910 dL_law_1540 rfl ?_
    refine g_widen (kc' := kc + 3) (kn' := kn + 97) (by show kc + 0 + 0 ≤ kc + 3; omega) (by show kn + 0 + 0 ≤ kn + 97; omega) ?_
    exact kk c n' M' m' o h'
end LawCases4
