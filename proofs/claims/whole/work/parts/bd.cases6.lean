/-! the law's cases -/
section LawCases6
variable {p : Program} {l : Launch} {e : Env} {s : State} {m : MethodId} {below : List Frame} {meth : Method} {c0 : Code} {K : q_KK} {A : Nat → Prop} {ad : Nat → Nat} {b N : Nat} {xs : Nat → Int32} {c n : Nat → Nat} {M mm o : q_MM} {q kc kn : Nat}
set_option maxHeartbeats 2000000 in
set_option maxRecDepth 100000 in
theorem law_38 (X : q_X p s m #[Value.ref b] meth c0 K A ad 7 cL_law RL (some .boolean)) (hS : q_scr b N xs A ad s) (hN : N < 2147483648) (h : a_X c n mm M) (hq : q + 8 ≤ N) (hk : kc + 3 ≤ 601024) (hkn : kn + 97 ≤ 7293034) (kk : ∀ (c n : Nat → Nat) (M mm o : q_MM), a_X c n mm M → GG p l e room_1 s m #[Value.ref b] below meth c0 K A q_g0 ad true 7 (fun (_ : Unit) => lw_Z below #[Value.ref b] s) (some ()) 1910 [(0, .ref 960), (1, .ref 1), (2, .ref 5001), (3, .ref 6000), (4, .int (nI q))] [] (q_lw c M mm o) (kc + 3) (kn + 97)) : GG p l e room_1 s m #[Value.ref b] below meth c0 K A q_g0 ad true 7 (fun (_ : Unit) => lw_Z below #[Value.ref b] s) (some ()) 1767 [(0, .ref 960), (1, .ref 1), (2, .ref 5001), (3, .ref 6000), (4, .int (nI q))] [] (q_lw c M mm o) kc kn := by
  obtain ⟨r, n', M', m', hx, hm, h'⟩ := pub_sight h (xs (q + 1)) (xs (q + 2))
  refine g_aload_n X dL_law_1767 rfl 1 rfl ?_
  refine g_arg5 X hS 1 hN (by omega) rfl rfl dL_law_1768 dL_law_1769 dL_law_1771 rfl dL_law_1772 dL_law_1773 ?_
  refine g_arg5 X hS 2 hN (by omega) rfl rfl dL_law_1774 dL_law_1775 dL_law_1777 rfl dL_law_1778 dL_law_1779 ?_
  refine g_callV (rv := some (.int r)) (As := [.int (xs (q + 1)), .int (xs (q + 2))]) (rest := []) X ((c_X11_sight l K c M (xs (q + 1)) (xs (q + 2)) _ hx).lawX h.C h.C (fun _ hq => by cases hq) mm o) lk_L_193 rfl rfl rfl (Nat.le_of_ble_eq_true rfl) ⟨Nat.le_of_ble_eq_true rfl, Nat.le_of_ble_eq_true rfl⟩ ⟨by show kc + 0 ≤ 601024; omega, by show kn + 0 ≤ 7293034; omega⟩ dL_law_1780 (fun hq => by cases hq) ?_
  refine g_aload_n X dL_law_1783 rfl 2 rfl ?_
  refine g_arg5 X hS 1 hN (by omega) rfl rfl dL_law_1784 dL_law_1785 dL_law_1787 rfl dL_law_1788 dL_law_1789 ?_
  refine g_arg5 X hS 2 hN (by omega) rfl rfl dL_law_1790 dL_law_1791 dL_law_1793 rfl dL_law_1794 dL_law_1795 ?_
  refine g_alk (q_lw_alk h'.C).1 ?_
  refine g_callV (rv := some (.int r)) (As := [.int (xs (q + 1)), .int (xs (q + 2))]) (rest := [.int r]) X ((c_X12_sight l K mm (xs (q + 1)) (xs (q + 2)) _ hm).lawM h'.C (fun _ hq => by cases hq) o) lk_L_197 (q_lw2_T h'.C) rfl rfl (Nat.le_of_ble_eq_true rfl) ⟨Nat.le_of_ble_eq_true rfl, Nat.le_of_ble_eq_true rfl⟩ ⟨by show (kc + 0) + 0 ≤ 601024; omega, by show (kn + 0) + 0 ≤ 7293034; omega⟩ dL_law_1796 (fun hq => by cases hq) ?_
  refine g_alk (q_lw_alk h'.C).2 ?_
  refine g_icmpT X 1910 dL_law_1799 rfl ?_
  refine g_widen (kc' := kc + 3) (kn' := kn + 97) (by show kc + 0 + 0 ≤ kc + 3; omega) (by show kn + 0 + 0 ≤ kn + 97; omega) ?_
  exact kk c n' M' m' o h'
set_option maxHeartbeats 2000000 in
set_option maxRecDepth 100000 in
theorem law_39 (X : q_X p s m #[Value.ref b] meth c0 K A ad 7 cL_law RL (some .boolean)) (hS : q_scr b N xs A ad s) (hN : N < 2147483648) (h : a_X c n mm M) (hq : q + 8 ≤ N) (hk : kc + 3 ≤ 601024) (hkn : kn + 97 ≤ 7293034) (kk : ∀ (c n : Nat → Nat) (M mm o : q_MM), a_X c n mm M → GG p l e room_1 s m #[Value.ref b] below meth c0 K A q_g0 ad true 7 (fun (_ : Unit) => lw_Z below #[Value.ref b] s) (some ()) 1910 [(0, .ref 960), (1, .ref 1), (2, .ref 5001), (3, .ref 6000), (4, .int (nI q))] [] (q_lw c M mm o) (kc + 3) (kn + 97)) : GG p l e room_1 s m #[Value.ref b] below meth c0 K A q_g0 ad true 7 (fun (_ : Unit) => lw_Z below #[Value.ref b] s) (some ()) 1804 [(0, .ref 960), (1, .ref 1), (2, .ref 5001), (3, .ref 6000), (4, .int (nI q))] [] (q_lw c M mm o) kc kn := by
  obtain ⟨r, n', M', m', hx, hm, h'⟩ := pub_guard h (xs (q + 1))
  refine g_aload_n X dL_law_1804 rfl 1 rfl ?_
  refine g_arg5 X hS 1 hN (by omega) rfl rfl dL_law_1805 dL_law_1806 dL_law_1808 rfl dL_law_1809 dL_law_1810 ?_
  refine g_callV (rv := some (.int r)) (As := [.int (xs (q + 1))]) (rest := []) X ((c_X11_guard l K c M (xs (q + 1)) _ hx).lawX h.C h.C (fun _ hq => by cases hq) mm o) lk_L_198 rfl rfl rfl (Nat.le_of_ble_eq_true rfl) ⟨Nat.le_of_ble_eq_true rfl, Nat.le_of_ble_eq_true rfl⟩ ⟨by show kc + 0 ≤ 601024; omega, by show kn + 0 ≤ 7293034; omega⟩ dL_law_1811 (fun hq => by cases hq) ?_
  refine g_aload_n X dL_law_1814 rfl 2 rfl ?_
  refine g_arg5 X hS 1 hN (by omega) rfl rfl dL_law_1815 dL_law_1816 dL_law_1818 rfl dL_law_1819 dL_law_1820 ?_
  refine g_alk (q_lw_alk h'.C).1 ?_
  refine g_callV (rv := some (.int r)) (As := [.int (xs (q + 1))]) (rest := [.int r]) X ((c_X12_guard l K mm (xs (q + 1)) _ hm).lawM h'.C (fun _ hq => by cases hq) o) lk_L_201 (q_lw2_T h'.C) rfl rfl (Nat.le_of_ble_eq_true rfl) ⟨Nat.le_of_ble_eq_true rfl, Nat.le_of_ble_eq_true rfl⟩ ⟨by show (kc + 0) + 0 ≤ 601024; omega, by show (kn + 0) + 0 ≤ 7293034; omega⟩ dL_law_1821 (fun hq => by cases hq) ?_
  refine g_alk (q_lw_alk h'.C).2 ?_
  refine g_icmpT X 1910 dL_law_1824 rfl ?_
  refine g_widen (kc' := kc + 3) (kn' := kn + 97) (by show kc + 0 + 0 ≤ kc + 3; omega) (by show kn + 0 + 0 ≤ kn + 97; omega) ?_
  exact kk c n' M' m' o h'
set_option maxHeartbeats 2000000 in
set_option maxRecDepth 100000 in
theorem law_40 (X : q_X p s m #[Value.ref b] meth c0 K A ad 7 cL_law RL (some .boolean)) (hS : q_scr b N xs A ad s) (hN : N < 2147483648) (h : a_X c n mm M) (hq : q + 8 ≤ N) (hk : kc + 3 ≤ 601024) (hkn : kn + 97 ≤ 7293034) (kk : ∀ (c n : Nat → Nat) (M mm o : q_MM), a_X c n mm M → GG p l e room_1 s m #[Value.ref b] below meth c0 K A q_g0 ad true 7 (fun (_ : Unit) => lw_Z below #[Value.ref b] s) (some ()) 1910 [(0, .ref 960), (1, .ref 1), (2, .ref 5001), (3, .ref 6000), (4, .int (nI q))] [] (q_lw c M mm o) (kc + 3) (kn + 97)) : GG p l e room_1 s m #[Value.ref b] below meth c0 K A q_g0 ad true 7 (fun (_ : Unit) => lw_Z below #[Value.ref b] s) (some ()) 1829 [(0, .ref 960), (1, .ref 1), (2, .ref 5001), (3, .ref 6000), (4, .int (nI q))] [] (q_lw c M mm o) kc kn := by
  obtain ⟨r, n', m', hx, hm, h'⟩ := pub_count h (xs (q + 1))
  refine g_aload_n X dL_law_1829 rfl 1 rfl ?_
  refine g_arg5 X hS 1 hN (by omega) rfl rfl dL_law_1830 dL_law_1831 dL_law_1833 rfl dL_law_1834 dL_law_1835 ?_
  refine g_callV (rv := some (.int r)) (As := [.int (xs (q + 1))]) (rest := []) X ((c_X11_count l K c M (xs (q + 1)) _ hx).lawX h.C h.C (fun _ hq => by cases hq) mm o) lk_L_202 rfl rfl rfl (Nat.le_of_ble_eq_true rfl) ⟨Nat.le_of_ble_eq_true rfl, Nat.le_of_ble_eq_true rfl⟩ ⟨by show kc + 0 ≤ 601024; omega, by show kn + 0 ≤ 7293034; omega⟩ dL_law_1836 (fun hq => by cases hq) ?_
  refine g_aload_n X dL_law_1839 rfl 2 rfl ?_
  refine g_arg5 X hS 1 hN (by omega) rfl rfl dL_law_1840 dL_law_1841 dL_law_1843 rfl dL_law_1844 dL_law_1845 ?_
  refine g_alk (q_lw_alk h'.C).1 ?_
  refine g_callV (rv := some (.int r)) (As := [.int (xs (q + 1))]) (rest := [.int r]) X ((c_X12_count l K mm (xs (q + 1)) _ hm).lawM h'.C (fun _ hq => by cases hq) o) lk_L_205 (q_lw2_T h'.C) rfl rfl (Nat.le_of_ble_eq_true rfl) ⟨Nat.le_of_ble_eq_true rfl, Nat.le_of_ble_eq_true rfl⟩ ⟨by show (kc + 0) + 0 ≤ 601024; omega, by show (kn + 0) + 0 ≤ 7293034; omega⟩ dL_law_1846 (fun hq => by cases hq) ?_
  refine g_alk (q_lw_alk h'.C).2 ?_
  refine g_icmpT X 1910 dL_law_1849 rfl ?_
  refine g_widen (kc' := kc + 3) (kn' := kn + 97) (by show kc + 0 + 0 ≤ kc + 3; omega) (by show kn + 0 + 0 ≤ kn + 97; omega) ?_
  exact kk c n' M m' o h'
set_option maxHeartbeats 2000000 in
set_option maxRecDepth 100000 in
theorem law_41 (hl : l.stackTraces = false) (hTz : q_Tz A s s.heap) (X : q_X p s m #[Value.ref b] meth c0 K A ad 7 cL_law RL (some .boolean)) (hS : q_scr b N xs A ad s) (hN : N < 2147483648) (h : a_X c n mm M) (hq : q + 8 ≤ N) (hk : kc + 3 ≤ 601024) (hkn : kn + 97 ≤ 7293034) (kk : ∀ (c n : Nat → Nat) (M mm o : q_MM), a_X c n mm M → GG p l e room_1 s m #[Value.ref b] below meth c0 K A q_g0 ad true 7 (fun (_ : Unit) => lw_Z below #[Value.ref b] s) (some ()) 1910 [(0, .ref 960), (1, .ref 1), (2, .ref 5001), (3, .ref 6000), (4, .int (nI q))] [] (q_lw c M mm o) (kc + 3) (kn + 97)) : GG p l e room_1 s m #[Value.ref b] below meth c0 K A q_g0 ad true 7 (fun (_ : Unit) => lw_Z below #[Value.ref b] s) (some ()) 1854 [(0, .ref 960), (1, .ref 1), (2, .ref 5001), (3, .ref 6000), (4, .int (nI q))] [] (q_lw c M mm o) kc kn := by
  obtain ⟨rv, r, n', M', m', hx, hm, ht, hv, h'⟩ := px_row h (xs (q + 1))
  refine g_aload_n X dL_law_1854 rfl 1 rfl ?_
  refine g_arg5 X hS 1 hN (by omega) rfl rfl dL_law_1855 dL_law_1856 dL_law_1858 rfl dL_law_1859 dL_law_1860 ?_
  refine g_aload_n X dL_law_1861 rfl 3 rfl ?_
  refine g_alk q_lw3_alk.1 ?_
  refine g_callSH (As := [.ref 1, .int (xs (q + 1)), .ref 6000]) (rest := []) X (cl_L_row l hl K h.C (xs (q + 1)) hx mm o) lkh_L_206 hTz rfl rfl (Nat.le_of_ble_eq_true rfl) ⟨Nat.le_of_ble_eq_true rfl, Nat.le_of_ble_eq_true rfl⟩ ⟨by show kc + 1 ≤ 601024; omega, by show kn + 6 ≤ 7293034; omega⟩ dL_law_1862 ?_
  refine g_alk q_lw3_alk.2 ?_
  refine g_istore X [(5, .int (q_hk rv)), (0, .ref 960), (1, .ref 1), (2, .ref 5001), (3, .ref 6000), (4, .int (nI q))] dL_law_1865 (by decide) rfl ?_
  refine g_sub (lv' := [(0, .ref 960), (1, .ref 1), (2, .ref 5001), (3, .ref 6000), (4, .int (nI q)), (5, .int (q_hk rv))]) [1, 2, 3, 4, 5, 0] rfl ?_
  refine g_aload_n X dL_law_1867 rfl 2 rfl ?_
  refine g_arg5 X hS 1 hN (by omega) rfl rfl dL_law_1868 dL_law_1869 dL_law_1871 rfl dL_law_1872 dL_law_1873 ?_
  refine g_alk (q_lw_alk h'.C).1 ?_
  refine g_callV (rv := some (.int r)) (As := [.int (xs (q + 1))]) (rest := []) X ((c_X12_row l K mm (xs (q + 1)) _ hm).lawM h'.C (fun _ hq => by cases hq) _) lk_L_209 (q_lw2_T h'.C) rfl rfl (Nat.le_of_ble_eq_true rfl) ⟨Nat.le_of_ble_eq_true rfl, Nat.le_of_ble_eq_true rfl⟩ ⟨by show (kc + 1) + 0 ≤ 601024; omega, by show (kn + 6) + 0 ≤ 7293034; omega⟩ dL_law_1874 (fun hq => by cases hq) ?_
  refine g_istore X [(6, .int r), (0, .ref 960), (1, .ref 1), (2, .ref 5001), (3, .ref 6000), (4, .int (nI q)), (5, .int (q_hk rv))] dL_law_1877 (by decide) rfl ?_
  refine g_aload_n X dL_law_1879 rfl 3 rfl ?_
  refine g_callV (rv := some (.int (q_hk rv))) (As := []) (rest := []) X ((c_X12_thrown l K m' (q_hk rv) (by show some (m' 5001 0) = some (q_hk rv); rw [ht])).lawM h'.C (fun _ hq => by cases hq) _) lk_L_110 (q_lw2_T h'.C) rfl rfl (Nat.le_of_ble_eq_true rfl) ⟨Nat.le_of_ble_eq_true rfl, Nat.le_of_ble_eq_true rfl⟩ ⟨by show (kc + 1 + 0) + 0 ≤ 601024; omega, by show (kn + 6 + 0) + 0 ≤ 7293034; omega⟩ dL_law_1880 (fun hq => by cases hq) ?_
  refine g_alk (q_lw_alk h'.C).2 ?_
  refine g_iload X dL_law_1883 6 rfl ?_
  refine g_icmpT X 1890 dL_law_1885 rfl ?_
  refine g_iload X dL_law_1890 6 rfl ?_
  have fin : GG p l e room_1 s m #[Value.ref b] below meth c0 K A q_g0 ad true 7 (fun (_ : Unit) => lw_Z below #[Value.ref b] s) (some ()) 1907 [(6, .int r), (0, .ref 960), (1, .ref 1), (2, .ref 5001), (3, .ref 6000), (4, .int (nI q)), (5, .int (q_hk rv))] [] (q_lw c M' m' (q_ho rv o)) (kc + 1 + 0 + 0) (kn + 6 + 0 + 0) := by
    refine g_goto X 1910 dL_law_1907 rfl ?_
    refine g_sub (lv' := [(0, .ref 960), (1, .ref 1), (2, .ref 5001), (3, .ref 6000), (4, .int (nI q))]) [1, 2, 3, 4, 5] rfl ?_
    refine g_widen (kc' := kc + 3) (kn' := kn + 97) (by show kc + 1 + 0 + 0 ≤ kc + 3; omega) (by show kn + 6 + 0 + 0 ≤ kn + 97; omega) ?_
    exact kk c n' M' m' _ h'
  cases rv with
  | none => exact g_neT X 1907 (show ¬ (1 : Int32) = 0 by decide) dL_law_1892 rfl fin
  | some v =>
    have hv := hv v rfl
    subst hv
    refine g_neF X 1907 dL_law_1892 rfl ?_
    refine g_aload_n X dL_law_1895 rfl 4 rfl ?_
    refine g_iconst (v := 0) X dL_law_1896 (by decide) ?_
    refine g_lald (n := 1) X rfl rfl (show ¬ ((0 : Int32) < 0 ∨ 1 ≤ (0 : Int32).toNatClampNeg) by decide) dL_law_1897 ?_
    rw [show (q_lw c M' m' (q_ho (some v) o)).2.2.2 6000 (0 : Int32).toNatClampNeg = v from q_lw_out]
    refine g_iload X dL_law_1898 0 rfl ?_
    refine g_i2l X dL_law_1900 ?_
    refine g_lcmp X dL_law_1901 ?_
    rw [lg_same]
    exact g_zT X 1907 dL_law_1902 rfl fin
end LawCases6
