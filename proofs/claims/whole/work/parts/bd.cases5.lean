/-! the law's cases -/
section LawCases5
variable {p : Program} {l : Launch} {e : Env} {s : State} {m : MethodId} {below : List Frame} {meth : Method} {c0 : Code} {K : q_KK} {A : Nat → Prop} {ad : Nat → Nat} {b N : Nat} {xs : Nat → Int32} {c n : Nat → Nat} {M mm o : q_MM} {q kc kn : Nat}
set_option maxHeartbeats 2000000 in
set_option maxRecDepth 100000 in
theorem law_32 (X : q_X p s m #[Value.ref b] meth c0 K A ad 7 cL_law RL (some .boolean)) (hS : q_scr b N xs A ad s) (hN : N < 2147483648) (h : a_X c n mm M) (hq : q + 8 ≤ N) (hk : kc + 3 ≤ 601024) (hkn : kn + 97 ≤ 7293034) (kk : ∀ (c n : Nat → Nat) (M mm o : q_MM), a_X c n mm M → GG p l e room_1 s m #[Value.ref b] below meth c0 K A q_g0 ad true 7 (fun (_ : Unit) => lw_Z below #[Value.ref b] s) (some ()) 1910 [(0, .ref 960), (1, .ref 1), (2, .ref 5001), (3, .ref 6000), (4, .int (nI q))] [] (q_lw c M mm o) (kc + 3) (kn + 97)) : GG p l e room_1 s m #[Value.ref b] below meth c0 K A q_g0 ad true 7 (fun (_ : Unit) => lw_Z below #[Value.ref b] s) (some ()) 1545 [(0, .ref 960), (1, .ref 1), (2, .ref 5001), (3, .ref 6000), (4, .int (nI q))] [] (q_lw c M mm o) kc kn := by
  obtain ⟨r, n', M', m', hx, hm, h'⟩ := pub_way h (xs (q + 1)) (xs (q + 2)) (xs (q + 3))
  refine g_aload_n X dL_law_1545 rfl 1 rfl ?_
  refine g_arg5 X hS 1 hN (by omega) rfl rfl dL_law_1546 dL_law_1547 dL_law_1549 rfl dL_law_1550 dL_law_1551 ?_
  refine g_arg5 X hS 2 hN (by omega) rfl rfl dL_law_1552 dL_law_1553 dL_law_1555 rfl dL_law_1556 dL_law_1557 ?_
  refine g_arg5 X hS 3 hN (by omega) rfl rfl dL_law_1558 dL_law_1559 dL_law_1561 rfl dL_law_1562 dL_law_1563 ?_
  refine g_callV (rv := some (.int r)) (As := [.int (xs (q + 1)), .int (xs (q + 2)), .int (xs (q + 3))]) (rest := []) X ((c_X11_way l K c M (xs (q + 1)) (xs (q + 2)) (xs (q + 3)) _ hx).lawX h.C h.C (fun _ hq => by cases hq) mm o) lk_L_169 rfl rfl rfl (Nat.le_of_ble_eq_true rfl) ⟨Nat.le_of_ble_eq_true rfl, Nat.le_of_ble_eq_true rfl⟩ ⟨by show kc + 0 ≤ 601024; omega, by show kn + 0 ≤ 7293034; omega⟩ dL_law_1564 (fun hq => by cases hq) ?_
  refine g_aload_n X dL_law_1567 rfl 2 rfl ?_
  refine g_arg5 X hS 1 hN (by omega) rfl rfl dL_law_1568 dL_law_1569 dL_law_1571 rfl dL_law_1572 dL_law_1573 ?_
  refine g_arg5 X hS 2 hN (by omega) rfl rfl dL_law_1574 dL_law_1575 dL_law_1577 rfl dL_law_1578 dL_law_1579 ?_
  refine g_arg5 X hS 3 hN (by omega) rfl rfl dL_law_1580 dL_law_1581 dL_law_1583 rfl dL_law_1584 dL_law_1585 ?_
  refine g_alk (q_lw_alk h'.C).1 ?_
  refine g_callV (rv := some (.int r)) (As := [.int (xs (q + 1)), .int (xs (q + 2)), .int (xs (q + 3))]) (rest := [.int r]) X ((c_X12_way l K mm (xs (q + 1)) (xs (q + 2)) (xs (q + 3)) _ hm).lawM h'.C (fun _ hq => by cases hq) o) lk_L_172 (q_lw2_T h'.C) rfl rfl (Nat.le_of_ble_eq_true rfl) ⟨Nat.le_of_ble_eq_true rfl, Nat.le_of_ble_eq_true rfl⟩ ⟨by show (kc + 0) + 0 ≤ 601024; omega, by show (kn + 0) + 0 ≤ 7293034; omega⟩ dL_law_1586 (fun hq => by cases hq) ?_
  refine g_alk (q_lw_alk h'.C).2 ?_
  refine g_icmpT X 1910 dL_law_1589 rfl ?_
  refine g_widen (kc' := kc + 3) (kn' := kn + 97) (by show kc + 0 + 0 ≤ kc + 3; omega) (by show kn + 0 + 0 ≤ kn + 97; omega) ?_
  exact kk c n' M' m' o h'
set_option maxHeartbeats 2000000 in
set_option maxRecDepth 100000 in
theorem law_33 (X : q_X p s m #[Value.ref b] meth c0 K A ad 7 cL_law RL (some .boolean)) (hS : q_scr b N xs A ad s) (hN : N < 2147483648) (h : a_X c n mm M) (hq : q + 8 ≤ N) (hk : kc + 3 ≤ 601024) (hkn : kn + 97 ≤ 7293034) (kk : ∀ (c n : Nat → Nat) (M mm o : q_MM), a_X c n mm M → GG p l e room_1 s m #[Value.ref b] below meth c0 K A q_g0 ad true 7 (fun (_ : Unit) => lw_Z below #[Value.ref b] s) (some ()) 1910 [(0, .ref 960), (1, .ref 1), (2, .ref 5001), (3, .ref 6000), (4, .int (nI q))] [] (q_lw c M mm o) (kc + 3) (kn + 97)) : GG p l e room_1 s m #[Value.ref b] below meth c0 K A q_g0 ad true 7 (fun (_ : Unit) => lw_Z below #[Value.ref b] s) (some ()) 1594 [(0, .ref 960), (1, .ref 1), (2, .ref 5001), (3, .ref 6000), (4, .int (nI q))] [] (q_lw c M mm o) kc kn := by
  obtain ⟨r, n', M', m', hx, hm, h'⟩ := pub_bars h (xs (q + 1)) (xs (q + 2)) (xs (q + 3))
  refine g_aload_n X dL_law_1594 rfl 1 rfl ?_
  refine g_arg5 X hS 1 hN (by omega) rfl rfl dL_law_1595 dL_law_1596 dL_law_1598 rfl dL_law_1599 dL_law_1600 ?_
  refine g_arg5 X hS 2 hN (by omega) rfl rfl dL_law_1601 dL_law_1602 dL_law_1604 rfl dL_law_1605 dL_law_1606 ?_
  refine g_arg5 X hS 3 hN (by omega) rfl rfl dL_law_1607 dL_law_1608 dL_law_1610 rfl dL_law_1611 dL_law_1612 ?_
  refine g_callV (rv := some (.int r)) (As := [.int (xs (q + 1)), .int (xs (q + 2)), .int (xs (q + 3))]) (rest := []) X ((c_X11_bars l K c M (xs (q + 1)) (xs (q + 2)) (xs (q + 3)) _ hx).lawX h.C h.C (fun _ hq => by cases hq) mm o) lk_L_173 rfl rfl rfl (Nat.le_of_ble_eq_true rfl) ⟨Nat.le_of_ble_eq_true rfl, Nat.le_of_ble_eq_true rfl⟩ ⟨by show kc + 0 ≤ 601024; omega, by show kn + 0 ≤ 7293034; omega⟩ dL_law_1613 (fun hq => by cases hq) ?_
  refine g_aload_n X dL_law_1616 rfl 2 rfl ?_
  refine g_arg5 X hS 1 hN (by omega) rfl rfl dL_law_1617 dL_law_1618 dL_law_1620 rfl dL_law_1621 dL_law_1622 ?_
  refine g_arg5 X hS 2 hN (by omega) rfl rfl dL_law_1623 dL_law_1624 dL_law_1626 rfl dL_law_1627 dL_law_1628 ?_
  refine g_arg5 X hS 3 hN (by omega) rfl rfl dL_law_1629 dL_law_1630 dL_law_1632 rfl dL_law_1633 dL_law_1634 ?_
  refine g_alk (q_lw_alk h'.C).1 ?_
  refine g_callV (rv := some (.int r)) (As := [.int (xs (q + 1)), .int (xs (q + 2)), .int (xs (q + 3))]) (rest := [.int r]) X ((c_X12_bars l K mm (xs (q + 1)) (xs (q + 2)) (xs (q + 3)) _ hm).lawM h'.C (fun _ hq => by cases hq) o) lk_L_176 (q_lw2_T h'.C) rfl rfl (Nat.le_of_ble_eq_true rfl) ⟨Nat.le_of_ble_eq_true rfl, Nat.le_of_ble_eq_true rfl⟩ ⟨by show (kc + 0) + 0 ≤ 601024; omega, by show (kn + 0) + 0 ≤ 7293034; omega⟩ dL_law_1635 (fun hq => by cases hq) ?_
  refine g_alk (q_lw_alk h'.C).2 ?_
  refine g_icmpT X 1910 dL_law_1638 rfl ?_
  refine g_widen (kc' := kc + 3) (kn' := kn + 97) (by show kc + 0 + 0 ≤ kc + 3; omega) (by show kn + 0 + 0 ≤ kn + 97; omega) ?_
  exact kk c n' M' m' o h'
set_option maxHeartbeats 2000000 in
set_option maxRecDepth 100000 in
theorem law_34 (X : q_X p s m #[Value.ref b] meth c0 K A ad 7 cL_law RL (some .boolean)) (hS : q_scr b N xs A ad s) (hN : N < 2147483648) (h : a_X c n mm M) (hq : q + 8 ≤ N) (hk : kc + 3 ≤ 601024) (hkn : kn + 97 ≤ 7293034) (kk : ∀ (c n : Nat → Nat) (M mm o : q_MM), a_X c n mm M → GG p l e room_1 s m #[Value.ref b] below meth c0 K A q_g0 ad true 7 (fun (_ : Unit) => lw_Z below #[Value.ref b] s) (some ()) 1910 [(0, .ref 960), (1, .ref 1), (2, .ref 5001), (3, .ref 6000), (4, .int (nI q))] [] (q_lw c M mm o) (kc + 3) (kn + 97)) : GG p l e room_1 s m #[Value.ref b] below meth c0 K A q_g0 ad true 7 (fun (_ : Unit) => lw_Z below #[Value.ref b] s) (some ()) 1643 [(0, .ref 960), (1, .ref 1), (2, .ref 5001), (3, .ref 6000), (4, .int (nI q))] [] (q_lw c M mm o) kc kn := by
  obtain ⟨r, n', M', m', hx, hm, h'⟩ := pub_move h (xs (q + 1)) (xs (q + 2)) (xs (q + 3))
  refine g_aload_n X dL_law_1643 rfl 1 rfl ?_
  refine g_arg5 X hS 1 hN (by omega) rfl rfl dL_law_1644 dL_law_1645 dL_law_1647 rfl dL_law_1648 dL_law_1649 ?_
  refine g_arg5 X hS 2 hN (by omega) rfl rfl dL_law_1650 dL_law_1651 dL_law_1653 rfl dL_law_1654 dL_law_1655 ?_
  refine g_arg5 X hS 3 hN (by omega) rfl rfl dL_law_1656 dL_law_1657 dL_law_1659 rfl dL_law_1660 dL_law_1661 ?_
  refine g_callV (rv := some (.int r)) (As := [.int (xs (q + 1)), .int (xs (q + 2)), .int (xs (q + 3))]) (rest := []) X ((c_X11_move l K c M (xs (q + 1)) (xs (q + 2)) (xs (q + 3)) _ hx).lawX h.C h.C (fun _ hq => by cases hq) mm o) lk_L_177 rfl rfl rfl (Nat.le_of_ble_eq_true rfl) ⟨Nat.le_of_ble_eq_true rfl, Nat.le_of_ble_eq_true rfl⟩ ⟨by show kc + 0 ≤ 601024; omega, by show kn + 0 ≤ 7293034; omega⟩ dL_law_1662 (fun hq => by cases hq) ?_
  refine g_aload_n X dL_law_1665 rfl 2 rfl ?_
  refine g_arg5 X hS 1 hN (by omega) rfl rfl dL_law_1666 dL_law_1667 dL_law_1669 rfl dL_law_1670 dL_law_1671 ?_
  refine g_arg5 X hS 2 hN (by omega) rfl rfl dL_law_1672 dL_law_1673 dL_law_1675 rfl dL_law_1676 dL_law_1677 ?_
  refine g_arg5 X hS 3 hN (by omega) rfl rfl dL_law_1678 dL_law_1679 dL_law_1681 rfl dL_law_1682 dL_law_1683 ?_
  refine g_alk (q_lw_alk h'.C).1 ?_
  refine g_callV (rv := some (.int r)) (As := [.int (xs (q + 1)), .int (xs (q + 2)), .int (xs (q + 3))]) (rest := [.int r]) X ((c_X12_move l K mm (xs (q + 1)) (xs (q + 2)) (xs (q + 3)) _ hm).lawM h'.C (fun _ hq => by cases hq) o) lk_L_180 (q_lw2_T h'.C) rfl rfl (Nat.le_of_ble_eq_true rfl) ⟨Nat.le_of_ble_eq_true rfl, Nat.le_of_ble_eq_true rfl⟩ ⟨by show (kc + 0) + 0 ≤ 601024; omega, by show (kn + 0) + 0 ≤ 7293034; omega⟩ dL_law_1684 (fun hq => by cases hq) ?_
  refine g_alk (q_lw_alk h'.C).2 ?_
  refine g_icmpT X 1910 dL_law_1687 rfl ?_
  refine g_widen (kc' := kc + 3) (kn' := kn + 97) (by show kc + 0 + 0 ≤ kc + 3; omega) (by show kn + 0 + 0 ≤ kn + 97; omega) ?_
  exact kk c n' M' m' o h'
set_option maxHeartbeats 2000000 in
set_option maxRecDepth 100000 in
theorem law_35 (X : q_X p s m #[Value.ref b] meth c0 K A ad 7 cL_law RL (some .boolean)) (hS : q_scr b N xs A ad s) (hN : N < 2147483648) (h : a_X c n mm M) (hq : q + 8 ≤ N) (hk : kc + 3 ≤ 601024) (hkn : kn + 97 ≤ 7293034) (kk : ∀ (c n : Nat → Nat) (M mm o : q_MM), a_X c n mm M → GG p l e room_1 s m #[Value.ref b] below meth c0 K A q_g0 ad true 7 (fun (_ : Unit) => lw_Z below #[Value.ref b] s) (some ()) 1910 [(0, .ref 960), (1, .ref 1), (2, .ref 5001), (3, .ref 6000), (4, .int (nI q))] [] (q_lw c M mm o) (kc + 3) (kn + 97)) : GG p l e room_1 s m #[Value.ref b] below meth c0 K A q_g0 ad true 7 (fun (_ : Unit) => lw_Z below #[Value.ref b] s) (some ()) 1692 [(0, .ref 960), (1, .ref 1), (2, .ref 5001), (3, .ref 6000), (4, .int (nI q))] [] (q_lw c M mm o) kc kn := by
  obtain ⟨r, n', M', m', hx, hm, h'⟩ := pub_nights h (xs (q + 1)) (xs (q + 2))
  refine g_aload_n X dL_law_1692 rfl 1 rfl ?_
  refine g_arg5 X hS 1 hN (by omega) rfl rfl dL_law_1693 dL_law_1694 dL_law_1696 rfl dL_law_1697 dL_law_1698 ?_
  refine g_arg5 X hS 2 hN (by omega) rfl rfl dL_law_1699 dL_law_1700 dL_law_1702 rfl dL_law_1703 dL_law_1704 ?_
  refine g_callV (rv := some (.int r)) (As := [.int (xs (q + 1)), .int (xs (q + 2))]) (rest := []) X ((c_X11_nights l K c M (xs (q + 1)) (xs (q + 2)) _ hx).lawX h.C h.C (fun _ hq => by cases hq) mm o) lk_L_181 rfl rfl rfl (Nat.le_of_ble_eq_true rfl) ⟨Nat.le_of_ble_eq_true rfl, Nat.le_of_ble_eq_true rfl⟩ ⟨by show kc + 0 ≤ 601024; omega, by show kn + 0 ≤ 7293034; omega⟩ dL_law_1705 (fun hq => by cases hq) ?_
  refine g_aload_n X dL_law_1708 rfl 2 rfl ?_
  refine g_arg5 X hS 1 hN (by omega) rfl rfl dL_law_1709 dL_law_1710 dL_law_1712 rfl dL_law_1713 dL_law_1714 ?_
  refine g_arg5 X hS 2 hN (by omega) rfl rfl dL_law_1715 dL_law_1716 dL_law_1718 rfl dL_law_1719 dL_law_1720 ?_
  refine g_alk (q_lw_alk h'.C).1 ?_
  refine g_callV (rv := some (.int r)) (As := [.int (xs (q + 1)), .int (xs (q + 2))]) (rest := [.int r]) X ((c_X12_nights l K mm (xs (q + 1)) (xs (q + 2)) _ hm).lawM h'.C (fun _ hq => by cases hq) o) lk_L_184 (q_lw2_T h'.C) rfl rfl (Nat.le_of_ble_eq_true rfl) ⟨Nat.le_of_ble_eq_true rfl, Nat.le_of_ble_eq_true rfl⟩ ⟨by show (kc + 0) + 0 ≤ 601024; omega, by show (kn + 0) + 0 ≤ 7293034; omega⟩ dL_law_1721 (fun hq => by cases hq) ?_
  refine g_alk (q_lw_alk h'.C).2 ?_
  refine g_icmpT X 1910 dL_law_1724 rfl ?_
  refine g_widen (kc' := kc + 3) (kn' := kn + 97) (by show kc + 0 + 0 ≤ kc + 3; omega) (by show kn + 0 + 0 ≤ kn + 97; omega) ?_
  exact kk c n' M' m' o h'
set_option maxHeartbeats 2000000 in
set_option maxRecDepth 100000 in
theorem law_36 (X : q_X p s m #[Value.ref b] meth c0 K A ad 7 cL_law RL (some .boolean)) (hS : q_scr b N xs A ad s) (hN : N < 2147483648) (h : a_X c n mm M) (hq : q + 8 ≤ N) (hk : kc + 3 ≤ 601024) (hkn : kn + 97 ≤ 7293034) (kk : ∀ (c n : Nat → Nat) (M mm o : q_MM), a_X c n mm M → GG p l e room_1 s m #[Value.ref b] below meth c0 K A q_g0 ad true 7 (fun (_ : Unit) => lw_Z below #[Value.ref b] s) (some ()) 1910 [(0, .ref 960), (1, .ref 1), (2, .ref 5001), (3, .ref 6000), (4, .int (nI q))] [] (q_lw c M mm o) (kc + 3) (kn + 97)) : GG p l e room_1 s m #[Value.ref b] below meth c0 K A q_g0 ad true 7 (fun (_ : Unit) => lw_Z below #[Value.ref b] s) (some ()) 1729 [(0, .ref 960), (1, .ref 1), (2, .ref 5001), (3, .ref 6000), (4, .int (nI q))] [] (q_lw c M mm o) kc kn := by
  obtain ⟨r, n', M', m', hx, hm, h'⟩ := pub_done h
  refine g_aload_n X dL_law_1729 rfl 1 rfl ?_
  refine g_callV (rv := some (.int r)) (As := []) (rest := []) X ((c_X11_done l K c M _ hx).lawX h.C h.C (fun _ hq => by cases hq) mm o) lk_L_185 rfl rfl rfl (Nat.le_of_ble_eq_true rfl) ⟨Nat.le_of_ble_eq_true rfl, Nat.le_of_ble_eq_true rfl⟩ ⟨by show kc + 0 ≤ 601024; omega, by show kn + 0 ≤ 7293034; omega⟩ dL_law_1730 (fun hq => by cases hq) ?_
  refine g_aload_n X dL_law_1733 rfl 2 rfl ?_
  refine g_alk (q_lw_alk h'.C).1 ?_
  refine g_callV (rv := some (.int r)) (As := []) (rest := [.int r]) X ((c_X12_done l K mm _ hm).lawM h'.C (fun _ hq => by cases hq) o) lk_L_188 (q_lw2_T h'.C) rfl rfl (Nat.le_of_ble_eq_true rfl) ⟨Nat.le_of_ble_eq_true rfl, Nat.le_of_ble_eq_true rfl⟩ ⟨by show (kc + 0) + 0 ≤ 601024; omega, by show (kn + 0) + 0 ≤ 7293034; omega⟩ dL_law_1734 (fun hq => by cases hq) ?_
  refine g_alk (q_lw_alk h'.C).2 ?_
  refine g_icmpT X 1910 dL_law_1737 rfl ?_
  refine g_widen (kc' := kc + 3) (kn' := kn + 97) (by show kc + 0 + 0 ≤ kc + 3; omega) (by show kn + 0 + 0 ≤ kn + 97; omega) ?_
  exact kk c n' M' m' o h'
set_option maxHeartbeats 2000000 in
set_option maxRecDepth 100000 in
theorem law_37 (X : q_X p s m #[Value.ref b] meth c0 K A ad 7 cL_law RL (some .boolean)) (hS : q_scr b N xs A ad s) (hN : N < 2147483648) (h : a_X c n mm M) (hq : q + 8 ≤ N) (hk : kc + 3 ≤ 601024) (hkn : kn + 97 ≤ 7293034) (kk : ∀ (c n : Nat → Nat) (M mm o : q_MM), a_X c n mm M → GG p l e room_1 s m #[Value.ref b] below meth c0 K A q_g0 ad true 7 (fun (_ : Unit) => lw_Z below #[Value.ref b] s) (some ()) 1910 [(0, .ref 960), (1, .ref 1), (2, .ref 5001), (3, .ref 6000), (4, .int (nI q))] [] (q_lw c M mm o) (kc + 3) (kn + 97)) : GG p l e room_1 s m #[Value.ref b] below meth c0 K A q_g0 ad true 7 (fun (_ : Unit) => lw_Z below #[Value.ref b] s) (some ()) 1742 [(0, .ref 960), (1, .ref 1), (2, .ref 5001), (3, .ref 6000), (4, .int (nI q))] [] (q_lw c M mm o) kc kn := by
  obtain ⟨r, n', M', m', hx, hm, h'⟩ := pub_stand h (xs (q + 1))
  refine g_aload_n X dL_law_1742 rfl 1 rfl ?_
  refine g_arg5 X hS 1 hN (by omega) rfl rfl dL_law_1743 dL_law_1744 dL_law_1746 rfl dL_law_1747 dL_law_1748 ?_
  refine g_callV (rv := some (.int r)) (As := [.int (xs (q + 1))]) (rest := []) X ((c_X11_stand l K c M (xs (q + 1)) _ hx).lawX h.C h.C (fun _ hq => by cases hq) mm o) lk_L_189 rfl rfl rfl (Nat.le_of_ble_eq_true rfl) ⟨Nat.le_of_ble_eq_true rfl, Nat.le_of_ble_eq_true rfl⟩ ⟨by show kc + 0 ≤ 601024; omega, by show kn + 0 ≤ 7293034; omega⟩ dL_law_1749 (fun hq => by cases hq) ?_
  refine g_aload_n X dL_law_1752 rfl 2 rfl ?_
  refine g_arg5 X hS 1 hN (by omega) rfl rfl dL_law_1753 dL_law_1754 dL_law_1756 rfl dL_law_1757 dL_law_1758 ?_
  refine g_alk (q_lw_alk h'.C).1 ?_
  refine g_callV (rv := some (.int r)) (As := [.int (xs (q + 1))]) (rest := [.int r]) X ((c_X12_stand l K mm (xs (q + 1)) _ hm).lawM h'.C (fun _ hq => by cases hq) o) lk_L_192 (q_lw2_T h'.C) rfl rfl (Nat.le_of_ble_eq_true rfl) ⟨Nat.le_of_ble_eq_true rfl, Nat.le_of_ble_eq_true rfl⟩ ⟨by show (kc + 0) + 0 ≤ 601024; omega, by show (kn + 0) + 0 ≤ 7293034; omega⟩ dL_law_1759 (fun hq => by cases hq) ?_
  refine g_alk (q_lw_alk h'.C).2 ?_
  refine g_icmpT X 1910 dL_law_1762 rfl ?_
  refine g_widen (kc' := kc + 3) (kn' := kn + 97) (by show kc + 0 + 0 ≤ kc + 3; omega) (by show kn + 0 + 0 ≤ kn + 97; omega) ?_
  exact kk c n' M' m' o h'
end LawCases5
