/-! the law's cases -/
section LawCases2
variable {p : Program} {l : Launch} {e : Env} {s : State} {m : MethodId} {below : List Frame} {meth : Method} {c0 : Code} {K : q_KK} {A : Nat → Prop} {ad : Nat → Nat} {b N : Nat} {xs : Nat → Int32} {c n : Nat → Nat} {M mm o : q_MM} {q kc kn : Nat}
set_option maxHeartbeats 2000000 in
set_option maxRecDepth 100000 in
theorem law_10 (X : q_X p s m #[Value.ref b] meth c0 K A ad 7 cL_law RL (some .boolean)) (hS : q_scr b N xs A ad s) (hN : N < 2147483648) (h : a_X c n mm M) (hq : q + 8 ≤ N) (hk : kc + 3 ≤ 601024) (hkn : kn + 97 ≤ 7293034) (kk : ∀ (c n : Nat → Nat) (M mm o : q_MM), a_X c n mm M → GG p l e room_1 s m #[Value.ref b] below meth c0 K A q_g0 ad true 7 (fun (_ : Unit) => lw_Z below #[Value.ref b] s) (some ()) 1910 [(0, .ref 960), (1, .ref 1), (2, .ref 5001), (3, .ref 6000), (4, .int (nI q))] [] (q_lw c M mm o) (kc + 3) (kn + 97)) : GG p l e room_1 s m #[Value.ref b] below meth c0 K A q_g0 ad true 7 (fun (_ : Unit) => lw_Z below #[Value.ref b] s) (some ()) 718 [(0, .ref 960), (1, .ref 1), (2, .ref 5001), (3, .ref 6000), (4, .int (nI q))] [] (q_lw c M mm o) kc kn := by
  obtain ⟨r, c', n', M', m', hx, hm, h'⟩ := pub_term h (xs (q + 1)) (xs (q + 2))
  rw [← e_term h] at hx
  refine g_aload_n X dL_law_718 rfl 1 rfl ?_
  refine g_arg5 X hS 1 hN (by omega) rfl rfl dL_law_719 dL_law_720 dL_law_722 rfl dL_law_723 dL_law_724 ?_
  refine g_arg5 X hS 2 hN (by omega) rfl rfl dL_law_725 dL_law_726 dL_law_728 rfl dL_law_729 dL_law_730 ?_
  refine g_callV (rv := some (.int r)) (As := [.int (xs (q + 1)), .int (xs (q + 2))]) (rest := []) X ((c_X11_term l K c M (xs (q + 1)) (xs (q + 2)) _ hx).lawX h.C h'.C (fun _ hq => by cases hq) mm o) lk_L_76 rfl rfl rfl (Nat.le_of_ble_eq_true rfl) ⟨Nat.le_of_ble_eq_true rfl, Nat.le_of_ble_eq_true rfl⟩ ⟨by show kc + 3 ≤ 601024; omega, by show kn + 97 ≤ 7293034; omega⟩ dL_law_731 (fun _ => ⟨rfl, q_lwok, fun v hv => absurd hv List.not_mem_nil⟩) ?_
  refine g_aload_n X dL_law_734 rfl 2 rfl ?_
  refine g_arg5 X hS 1 hN (by omega) rfl rfl dL_law_735 dL_law_736 dL_law_738 rfl dL_law_739 dL_law_740 ?_
  refine g_arg5 X hS 2 hN (by omega) rfl rfl dL_law_741 dL_law_742 dL_law_744 rfl dL_law_745 dL_law_746 ?_
  refine g_alk (q_lw_alk h'.C).1 ?_
  refine g_callV (rv := some (.int r)) (As := [.int (xs (q + 1)), .int (xs (q + 2))]) (rest := [.int r]) X ((c_X12_term l K mm (xs (q + 1)) (xs (q + 2)) _ hm).lawM h'.C (fun _ hq => by cases hq) o) lk_L_79 (q_lw2_T h'.C) rfl rfl (Nat.le_of_ble_eq_true rfl) ⟨Nat.le_of_ble_eq_true rfl, Nat.le_of_ble_eq_true rfl⟩ ⟨by show (kc + 3) + 0 ≤ 601024; omega, by show (kn + 97) + 0 ≤ 7293034; omega⟩ dL_law_747 (fun hq => by cases hq) ?_
  refine g_alk (q_lw_alk h'.C).2 ?_
  refine g_icmpT X 1910 dL_law_750 rfl ?_
  refine g_widen (kc' := kc + 3) (kn' := kn + 97) (by show kc + 3 + 0 ≤ kc + 3; omega) (by show kn + 97 + 0 ≤ kn + 97; omega) ?_
  exact kk c' n' M' m' o h'
set_option maxHeartbeats 2000000 in
set_option maxRecDepth 100000 in
theorem law_11 (X : q_X p s m #[Value.ref b] meth c0 K A ad 7 cL_law RL (some .boolean)) (hS : q_scr b N xs A ad s) (hN : N < 2147483648) (h : a_X c n mm M) (hq : q + 8 ≤ N) (hk : kc + 3 ≤ 601024) (hkn : kn + 97 ≤ 7293034) (kk : ∀ (c n : Nat → Nat) (M mm o : q_MM), a_X c n mm M → GG p l e room_1 s m #[Value.ref b] below meth c0 K A q_g0 ad true 7 (fun (_ : Unit) => lw_Z below #[Value.ref b] s) (some ()) 1910 [(0, .ref 960), (1, .ref 1), (2, .ref 5001), (3, .ref 6000), (4, .int (nI q))] [] (q_lw c M mm o) (kc + 3) (kn + 97)) : GG p l e room_1 s m #[Value.ref b] below meth c0 K A q_g0 ad true 7 (fun (_ : Unit) => lw_Z below #[Value.ref b] s) (some ()) 755 [(0, .ref 960), (1, .ref 1), (2, .ref 5001), (3, .ref 6000), (4, .int (nI q))] [] (q_lw c M mm o) kc kn := by
  obtain ⟨r, n', m', hx, hm, h'⟩ := pub_force h (xs (q + 1))
  refine g_aload_n X dL_law_755 rfl 1 rfl ?_
  refine g_arg5 X hS 1 hN (by omega) rfl rfl dL_law_756 dL_law_757 dL_law_759 rfl dL_law_760 dL_law_761 ?_
  refine g_callV (rv := some (.int r)) (As := [.int (xs (q + 1))]) (rest := []) X ((c_X11_force l K c M (xs (q + 1)) _ hx).lawX h.C h.C (fun _ hq => by cases hq) mm o) lk_L_80 rfl rfl rfl (Nat.le_of_ble_eq_true rfl) ⟨Nat.le_of_ble_eq_true rfl, Nat.le_of_ble_eq_true rfl⟩ ⟨by show kc + 0 ≤ 601024; omega, by show kn + 0 ≤ 7293034; omega⟩ dL_law_762 (fun hq => by cases hq) ?_
  refine g_aload_n X dL_law_765 rfl 2 rfl ?_
  refine g_arg5 X hS 1 hN (by omega) rfl rfl dL_law_766 dL_law_767 dL_law_769 rfl dL_law_770 dL_law_771 ?_
  refine g_alk (q_lw_alk h'.C).1 ?_
  refine g_callV (rv := some (.int r)) (As := [.int (xs (q + 1))]) (rest := [.int r]) X ((c_X12_force l K mm (xs (q + 1)) _ hm).lawM h'.C (fun _ hq => by cases hq) o) lk_L_83 (q_lw2_T h'.C) rfl rfl (Nat.le_of_ble_eq_true rfl) ⟨Nat.le_of_ble_eq_true rfl, Nat.le_of_ble_eq_true rfl⟩ ⟨by show (kc + 0) + 0 ≤ 601024; omega, by show (kn + 0) + 0 ≤ 7293034; omega⟩ dL_law_772 (fun hq => by cases hq) ?_
  refine g_alk (q_lw_alk h'.C).2 ?_
  refine g_icmpT X 1910 dL_law_775 rfl ?_
  refine g_widen (kc' := kc + 3) (kn' := kn + 97) (by show kc + 0 + 0 ≤ kc + 3; omega) (by show kn + 0 + 0 ≤ kn + 97; omega) ?_
  exact kk c n' M m' o h'
set_option maxHeartbeats 2000000 in
set_option maxRecDepth 100000 in
theorem law_12 (X : q_X p s m #[Value.ref b] meth c0 K A ad 7 cL_law RL (some .boolean)) (hS : q_scr b N xs A ad s) (hN : N < 2147483648) (h : a_X c n mm M) (hq : q + 8 ≤ N) (hk : kc + 3 ≤ 601024) (hkn : kn + 97 ≤ 7293034) (kk : ∀ (c n : Nat → Nat) (M mm o : q_MM), a_X c n mm M → GG p l e room_1 s m #[Value.ref b] below meth c0 K A q_g0 ad true 7 (fun (_ : Unit) => lw_Z below #[Value.ref b] s) (some ()) 1910 [(0, .ref 960), (1, .ref 1), (2, .ref 5001), (3, .ref 6000), (4, .int (nI q))] [] (q_lw c M mm o) (kc + 3) (kn + 97)) : GG p l e room_1 s m #[Value.ref b] below meth c0 K A q_g0 ad true 7 (fun (_ : Unit) => lw_Z below #[Value.ref b] s) (some ()) 780 [(0, .ref 960), (1, .ref 1), (2, .ref 5001), (3, .ref 6000), (4, .int (nI q))] [] (q_lw c M mm o) kc kn := by
  obtain ⟨r, n', M', m', hx, hm, h'⟩ := pub_why h (xs (q + 1)) (xs (q + 2)) (xs (q + 3))
  refine g_aload_n X dL_law_780 rfl 1 rfl ?_
  refine g_arg5 X hS 1 hN (by omega) rfl rfl dL_law_781 dL_law_782 dL_law_784 rfl dL_law_785 dL_law_786 ?_
  refine g_arg5 X hS 2 hN (by omega) rfl rfl dL_law_787 dL_law_788 dL_law_790 rfl dL_law_791 dL_law_792 ?_
  refine g_arg5 X hS 3 hN (by omega) rfl rfl dL_law_793 dL_law_794 dL_law_796 rfl dL_law_797 dL_law_798 ?_
  refine g_callV (rv := some (.int r)) (As := [.int (xs (q + 1)), .int (xs (q + 2)), .int (xs (q + 3))]) (rest := []) X ((c_X11_why l K c M (xs (q + 1)) (xs (q + 2)) (xs (q + 3)) _ hx).lawX h.C h.C (fun _ hq => by cases hq) mm o) lk_L_84 rfl rfl rfl (Nat.le_of_ble_eq_true rfl) ⟨Nat.le_of_ble_eq_true rfl, Nat.le_of_ble_eq_true rfl⟩ ⟨by show kc + 0 ≤ 601024; omega, by show kn + 0 ≤ 7293034; omega⟩ dL_law_799 (fun hq => by cases hq) ?_
  refine g_aload_n X dL_law_802 rfl 2 rfl ?_
  refine g_arg5 X hS 1 hN (by omega) rfl rfl dL_law_803 dL_law_804 dL_law_806 rfl dL_law_807 dL_law_808 ?_
  refine g_arg5 X hS 2 hN (by omega) rfl rfl dL_law_809 dL_law_810 dL_law_812 rfl dL_law_813 dL_law_814 ?_
  refine g_arg5 X hS 3 hN (by omega) rfl rfl dL_law_815 dL_law_816 dL_law_818 rfl dL_law_819 dL_law_820 ?_
  refine g_alk (q_lw_alk h'.C).1 ?_
  refine g_callV (rv := some (.int r)) (As := [.int (xs (q + 1)), .int (xs (q + 2)), .int (xs (q + 3))]) (rest := [.int r]) X ((c_X12_why l K mm (xs (q + 1)) (xs (q + 2)) (xs (q + 3)) _ hm).lawM h'.C (fun _ hq => by cases hq) o) lk_L_87 (q_lw2_T h'.C) rfl rfl (Nat.le_of_ble_eq_true rfl) ⟨Nat.le_of_ble_eq_true rfl, Nat.le_of_ble_eq_true rfl⟩ ⟨by show (kc + 0) + 0 ≤ 601024; omega, by show (kn + 0) + 0 ≤ 7293034; omega⟩ dL_law_821 (fun hq => by cases hq) ?_
  refine g_alk (q_lw_alk h'.C).2 ?_
  refine g_icmpT X 1910 dL_law_824 rfl ?_
  refine g_widen (kc' := kc + 3) (kn' := kn + 97) (by show kc + 0 + 0 ≤ kc + 3; omega) (by show kn + 0 + 0 ≤ kn + 97; omega) ?_
  exact kk c n' M' m' o h'
set_option maxHeartbeats 2000000 in
set_option maxRecDepth 100000 in
theorem law_13 (X : q_X p s m #[Value.ref b] meth c0 K A ad 7 cL_law RL (some .boolean)) (hS : q_scr b N xs A ad s) (hN : N < 2147483648) (h : a_X c n mm M) (hq : q + 8 ≤ N) (hk : kc + 3 ≤ 601024) (hkn : kn + 97 ≤ 7293034) (kk : ∀ (c n : Nat → Nat) (M mm o : q_MM), a_X c n mm M → GG p l e room_1 s m #[Value.ref b] below meth c0 K A q_g0 ad true 7 (fun (_ : Unit) => lw_Z below #[Value.ref b] s) (some ()) 1910 [(0, .ref 960), (1, .ref 1), (2, .ref 5001), (3, .ref 6000), (4, .int (nI q))] [] (q_lw c M mm o) (kc + 3) (kn + 97)) : GG p l e room_1 s m #[Value.ref b] below meth c0 K A q_g0 ad true 7 (fun (_ : Unit) => lw_Z below #[Value.ref b] s) (some ()) 829 [(0, .ref 960), (1, .ref 1), (2, .ref 5001), (3, .ref 6000), (4, .int (nI q))] [] (q_lw c M mm o) kc kn := by
  obtain ⟨r, n', M', m', hx, hm, h'⟩ := pub_fits h (xs (q + 1)) (xs (q + 2)) (xs (q + 3))
  refine g_aload_n X dL_law_829 rfl 1 rfl ?_
  refine g_arg5 X hS 1 hN (by omega) rfl rfl dL_law_830 dL_law_831 dL_law_833 rfl dL_law_834 dL_law_835 ?_
  refine g_arg5 X hS 2 hN (by omega) rfl rfl dL_law_836 dL_law_837 dL_law_839 rfl dL_law_840 dL_law_841 ?_
  refine g_arg5 X hS 3 hN (by omega) rfl rfl dL_law_842 dL_law_843 dL_law_845 rfl dL_law_846 dL_law_847 ?_
  refine g_callV (rv := some (.int r)) (As := [.int (xs (q + 1)), .int (xs (q + 2)), .int (xs (q + 3))]) (rest := []) X ((c_X11_fits l K c M (xs (q + 1)) (xs (q + 2)) (xs (q + 3)) _ hx).lawX h.C h.C (fun _ hq => by cases hq) mm o) lk_L_88 rfl rfl rfl (Nat.le_of_ble_eq_true rfl) ⟨Nat.le_of_ble_eq_true rfl, Nat.le_of_ble_eq_true rfl⟩ ⟨by show kc + 0 ≤ 601024; omega, by show kn + 0 ≤ 7293034; omega⟩ dL_law_848 (fun hq => by cases hq) ?_
  refine g_aload_n X dL_law_851 rfl 2 rfl ?_
  refine g_arg5 X hS 1 hN (by omega) rfl rfl dL_law_852 dL_law_853 dL_law_855 rfl dL_law_856 dL_law_857 ?_
  refine g_arg5 X hS 2 hN (by omega) rfl rfl dL_law_858 dL_law_859 dL_law_861 rfl dL_law_862 dL_law_863 ?_
  refine g_arg5 X hS 3 hN (by omega) rfl rfl dL_law_864 dL_law_865 dL_law_867 rfl dL_law_868 dL_law_869 ?_
  refine g_alk (q_lw_alk h'.C).1 ?_
  refine g_callV (rv := some (.int r)) (As := [.int (xs (q + 1)), .int (xs (q + 2)), .int (xs (q + 3))]) (rest := [.int r]) X ((c_X12_fits l K mm (xs (q + 1)) (xs (q + 2)) (xs (q + 3)) _ hm).lawM h'.C (fun _ hq => by cases hq) o) lk_L_91 (q_lw2_T h'.C) rfl rfl (Nat.le_of_ble_eq_true rfl) ⟨Nat.le_of_ble_eq_true rfl, Nat.le_of_ble_eq_true rfl⟩ ⟨by show (kc + 0) + 0 ≤ 601024; omega, by show (kn + 0) + 0 ≤ 7293034; omega⟩ dL_law_870 (fun hq => by cases hq) ?_
  refine g_alk (q_lw_alk h'.C).2 ?_
  refine g_icmpT X 1910 dL_law_873 rfl ?_
  refine g_widen (kc' := kc + 3) (kn' := kn + 97) (by show kc + 0 + 0 ≤ kc + 3; omega) (by show kn + 0 + 0 ≤ kn + 97; omega) ?_
  exact kk c n' M' m' o h'
set_option maxHeartbeats 2000000 in
set_option maxRecDepth 100000 in
theorem law_14 (X : q_X p s m #[Value.ref b] meth c0 K A ad 7 cL_law RL (some .boolean)) (hS : q_scr b N xs A ad s) (hN : N < 2147483648) (h : a_X c n mm M) (hq : q + 8 ≤ N) (hk : kc + 3 ≤ 601024) (hkn : kn + 97 ≤ 7293034) (kk : ∀ (c n : Nat → Nat) (M mm o : q_MM), a_X c n mm M → GG p l e room_1 s m #[Value.ref b] below meth c0 K A q_g0 ad true 7 (fun (_ : Unit) => lw_Z below #[Value.ref b] s) (some ()) 1910 [(0, .ref 960), (1, .ref 1), (2, .ref 5001), (3, .ref 6000), (4, .int (nI q))] [] (q_lw c M mm o) (kc + 3) (kn + 97)) : GG p l e room_1 s m #[Value.ref b] below meth c0 K A q_g0 ad true 7 (fun (_ : Unit) => lw_Z below #[Value.ref b] s) (some ()) 878 [(0, .ref 960), (1, .ref 1), (2, .ref 5001), (3, .ref 6000), (4, .int (nI q))] [] (q_lw c M mm o) kc kn := by
  obtain ⟨r, n', M', m', hx, hm, h'⟩ := pub_hang h (xs (q + 1)) (xs (q + 2)) (xs (q + 3))
  refine g_aload_n X dL_law_878 rfl 1 rfl ?_
  refine g_arg5 X hS 1 hN (by omega) rfl rfl dL_law_879 dL_law_880 dL_law_882 rfl dL_law_883 dL_law_884 ?_
  refine g_arg5 X hS 2 hN (by omega) rfl rfl dL_law_885 dL_law_886 dL_law_888 rfl dL_law_889 dL_law_890 ?_
  refine g_arg5 X hS 3 hN (by omega) rfl rfl dL_law_891 dL_law_892 dL_law_894 rfl dL_law_895 dL_law_896 ?_
  refine g_callV (rv := some (.int r)) (As := [.int (xs (q + 1)), .int (xs (q + 2)), .int (xs (q + 3))]) (rest := []) X ((c_X11_hang l K c M (xs (q + 1)) (xs (q + 2)) (xs (q + 3)) _ hx).lawX h.C h.C (fun _ hq => by cases hq) mm o) lk_L_92 rfl rfl rfl (Nat.le_of_ble_eq_true rfl) ⟨Nat.le_of_ble_eq_true rfl, Nat.le_of_ble_eq_true rfl⟩ ⟨by show kc + 0 ≤ 601024; omega, by show kn + 0 ≤ 7293034; omega⟩ dL_law_897 (fun hq => by cases hq) ?_
  refine g_aload_n X dL_law_900 rfl 2 rfl ?_
  refine g_arg5 X hS 1 hN (by omega) rfl rfl dL_law_901 dL_law_902 dL_law_904 rfl dL_law_905 dL_law_906 ?_
  refine g_arg5 X hS 2 hN (by omega) rfl rfl dL_law_907 dL_law_908 dL_law_910 rfl dL_law_911 dL_law_912 ?_
  refine g_arg5 X hS 3 hN (by omega) rfl rfl dL_law_913 dL_law_914 dL_law_916 rfl dL_law_917 dL_law_918 ?_
  refine g_alk (q_lw_alk h'.C).1 ?_
  refine g_callV (rv := some (.int r)) (As := [.int (xs (q + 1)), .int (xs (q + 2)), .int (xs (q + 3))]) (rest := [.int r]) X ((c_X12_hang l K mm (xs (q + 1)) (xs (q + 2)) (xs (q + 3)) _ hm).lawM h'.C (fun _ hq => by cases hq) o) lk_L_95 (q_lw2_T h'.C) rfl rfl (Nat.le_of_ble_eq_true rfl) ⟨Nat.le_of_ble_eq_true rfl, Nat.le_of_ble_eq_true rfl⟩ ⟨by show (kc + 0) + 0 ≤ 601024; omega, by show (kn + 0) + 0 ≤ 7293034; omega⟩ dL_law_919 (fun hq => by cases hq) ?_
  refine g_alk (q_lw_alk h'.C).2 ?_
  refine g_icmpT X 1910 dL_law_922 rfl ?_
  refine g_widen (kc' := kc + 3) (kn' := kn + 97) (by show kc + 0 + 0 ≤ kc + 3; omega) (by show kn + 0 + 0 ≤ kn + 97; omega) ?_
  exact kk c n' M' m' o h'
set_option maxHeartbeats 2000000 in
set_option maxRecDepth 100000 in
theorem law_15 (X : q_X p s m #[Value.ref b] meth c0 K A ad 7 cL_law RL (some .boolean)) (hS : q_scr b N xs A ad s) (hN : N < 2147483648) (h : a_X c n mm M) (hq : q + 8 ≤ N) (hk : kc + 3 ≤ 601024) (hkn : kn + 97 ≤ 7293034) (kk : ∀ (c n : Nat → Nat) (M mm o : q_MM), a_X c n mm M → GG p l e room_1 s m #[Value.ref b] below meth c0 K A q_g0 ad true 7 (fun (_ : Unit) => lw_Z below #[Value.ref b] s) (some ()) 1910 [(0, .ref 960), (1, .ref 1), (2, .ref 5001), (3, .ref 6000), (4, .int (nI q))] [] (q_lw c M mm o) (kc + 3) (kn + 97)) : GG p l e room_1 s m #[Value.ref b] below meth c0 K A q_g0 ad true 7 (fun (_ : Unit) => lw_Z below #[Value.ref b] s) (some ()) 927 [(0, .ref 960), (1, .ref 1), (2, .ref 5001), (3, .ref 6000), (4, .int (nI q))] [] (q_lw c M mm o) kc kn := by
  obtain ⟨r, n', M', m', hx, hm, h'⟩ := pub_store h (xs (q + 1))
  refine g_aload_n X dL_law_927 rfl 1 rfl ?_
  refine g_arg5 X hS 1 hN (by omega) rfl rfl dL_law_928 dL_law_929 dL_law_931 rfl dL_law_932 dL_law_933 ?_
  refine g_callV (rv := some (.int r)) (As := [.int (xs (q + 1))]) (rest := []) X ((c_X11_store l K c M (xs (q + 1)) _ hx).lawX h.C h.C (fun _ hq => by cases hq) mm o) lk_L_96 rfl rfl rfl (Nat.le_of_ble_eq_true rfl) ⟨Nat.le_of_ble_eq_true rfl, Nat.le_of_ble_eq_true rfl⟩ ⟨by show kc + 0 ≤ 601024; omega, by show kn + 0 ≤ 7293034; omega⟩ dL_law_934 (fun hq => by cases hq) ?_
  refine g_aload_n X dL_law_937 rfl 2 rfl ?_
  refine g_arg5 X hS 1 hN (by omega) rfl rfl dL_law_938 dL_law_939 dL_law_941 rfl dL_law_942 dL_law_943 ?_
  refine g_alk (q_lw_alk h'.C).1 ?_
  refine g_callV (rv := some (.int r)) (As := [.int (xs (q + 1))]) (rest := [.int r]) X ((c_X12_store l K mm (xs (q + 1)) _ hm).lawM h'.C (fun _ hq => by cases hq) o) lk_L_99 (q_lw2_T h'.C) rfl rfl (Nat.le_of_ble_eq_true rfl) ⟨Nat.le_of_ble_eq_true rfl, Nat.le_of_ble_eq_true rfl⟩ ⟨by show (kc + 0) + 0 ≤ 601024; omega, by show (kn + 0) + 0 ≤ 7293034; omega⟩ dL_law_944 (fun hq => by cases hq) ?_
  refine g_alk (q_lw_alk h'.C).2 ?_
  refine g_icmpT X 1910 dL_law_947 rfl ?_
  refine g_widen (kc' := kc + 3) (kn' := kn + 97) (by show kc + 0 + 0 ≤ kc + 3; omega) (by show kn + 0 + 0 ≤ kn + 97; omega) ?_
  exact kk c n' M' m' o h'
set_option maxHeartbeats 2000000 in
set_option maxRecDepth 100000 in
theorem law_16 (X : q_X p s m #[Value.ref b] meth c0 K A ad 7 cL_law RL (some .boolean)) (hS : q_scr b N xs A ad s) (hN : N < 2147483648) (h : a_X c n mm M) (hq : q + 8 ≤ N) (hk : kc + 3 ≤ 601024) (hkn : kn + 97 ≤ 7293034) (kk : ∀ (c n : Nat → Nat) (M mm o : q_MM), a_X c n mm M → GG p l e room_1 s m #[Value.ref b] below meth c0 K A q_g0 ad true 7 (fun (_ : Unit) => lw_Z below #[Value.ref b] s) (some ()) 1910 [(0, .ref 960), (1, .ref 1), (2, .ref 5001), (3, .ref 6000), (4, .int (nI q))] [] (q_lw c M mm o) (kc + 3) (kn + 97)) : GG p l e room_1 s m #[Value.ref b] below meth c0 K A q_g0 ad true 7 (fun (_ : Unit) => lw_Z below #[Value.ref b] s) (some ()) 952 [(0, .ref 960), (1, .ref 1), (2, .ref 5001), (3, .ref 6000), (4, .int (nI q))] [] (q_lw c M mm o) kc kn := by
  obtain ⟨r, n', M', m', hx, hm, h'⟩ := pub_send h (xs (q + 1))
  refine g_aload_n X dL_law_952 rfl 1 rfl ?_
  refine g_arg5 X hS 1 hN (by omega) rfl rfl dL_law_953 dL_law_954 dL_law_956 rfl dL_law_957 dL_law_958 ?_
  refine g_callV (rv := some (.int r)) (As := [.int (xs (q + 1))]) (rest := []) X ((c_X11_send l K c M (xs (q + 1)) _ hx).lawX h.C h.C (fun _ hq => by cases hq) mm o) lk_L_100 rfl rfl rfl (Nat.le_of_ble_eq_true rfl) ⟨Nat.le_of_ble_eq_true rfl, Nat.le_of_ble_eq_true rfl⟩ ⟨by show kc + 0 ≤ 601024; omega, by show kn + 0 ≤ 7293034; omega⟩ dL_law_959 (fun hq => by cases hq) ?_
  refine g_aload_n X dL_law_962 rfl 2 rfl ?_
  refine g_arg5 X hS 1 hN (by omega) rfl rfl dL_law_963 dL_law_964 dL_law_966 rfl dL_law_967 dL_law_968 ?_
  refine g_alk (q_lw_alk h'.C).1 ?_
  refine g_callV (rv := some (.int r)) (As := [.int (xs (q + 1))]) (rest := [.int r]) X ((c_X12_send l K mm (xs (q + 1)) _ hm).lawM h'.C (fun _ hq => by cases hq) o) lk_L_103 (q_lw2_T h'.C) rfl rfl (Nat.le_of_ble_eq_true rfl) ⟨Nat.le_of_ble_eq_true rfl, Nat.le_of_ble_eq_true rfl⟩ ⟨by show (kc + 0) + 0 ≤ 601024; omega, by show (kn + 0) + 0 ≤ 7293034; omega⟩ dL_law_969 (fun hq => by cases hq) ?_
  refine g_alk (q_lw_alk h'.C).2 ?_
  refine g_icmpT X 1910 dL_law_972 rfl ?_
  refine g_widen (kc' := kc + 3) (kn' := kn + 97) (by show kc + 0 + 0 ≤ kc + 3; omega) (by show kn + 0 + 0 ≤ kn + 97; omega) ?_
  exact kk c n' M' m' o h'
end LawCases2
