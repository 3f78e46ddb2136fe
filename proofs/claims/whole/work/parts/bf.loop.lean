/-! the law's loop -/
section LawLoop
variable {p : Program} {l : Launch} {e : Env} {s : State} {m : MethodId} {below : List Frame} {meth : Method} {c0 : Code} {K : q_KK} {A : Nat → Prop} {ad : Nat → Nat} {b N : Nat} {xs : Nat → Int32}
set_option maxHeartbeats 4000000 in
set_option maxRecDepth 100000 in
theorem law_sw {c n : Nat → Nat} {M mm o : q_MM} {q kc kn : Nat} (hl : l.stackTraces = false) (hTz : q_Tz A s s.heap) (X : q_X p s m #[Value.ref b] meth c0 K A ad 7 cL_law RL (some .boolean)) (hS : q_scr b N xs A ad s) (hN : N < 2147483648) (h : a_X c n mm M) (hq : q + 8 ≤ N) (hk : kc + 3 ≤ 601024) (hkn : kn + 97 ≤ 7293034) (kk : ∀ (c n : Nat → Nat) (M mm o : q_MM), a_X c n mm M → GG p l e room_1 s m #[Value.ref b] below meth c0 K A q_g0 ad true 7 (fun (_ : Unit) => lw_Z below #[Value.ref b] s) (some ()) 1910 [(0, .ref 960), (1, .ref 1), (2, .ref 5001), (3, .ref 6000), (4, .int (nI q))] [] (q_lw c M mm o) (kc + 3) (kn + 97)) : GG p l e room_1 s m #[Value.ref b] below meth c0 K A q_g0 ad true 7 (fun (_ : Unit) => lw_Z below #[Value.ref b] s) (some ()) 40 [(0, .ref 960), (1, .ref 1), (2, .ref 5001), (3, .ref 6000), (4, .int (nI q))] [.int (xs q &&& 63)] (q_lw c M mm o) kc kn := by
  by_cases z0 : xs q &&& 63 = 0
  · exact g_tin (v := 0) X 224 z0 dL_law_40 (by decide) (by decide) rfl rfl (law_0 X hS hN h hq hk hkn kk)
  by_cases z1 : xs q &&& 63 = 1
  · exact g_tin (v := 1) X 237 z1 dL_law_40 (by decide) (by decide) rfl rfl (law_1 X hS hN h hq hk hkn kk)
  by_cases z2 : xs q &&& 63 = 2
  · exact g_tin (v := 2) X 298 z2 dL_law_40 (by decide) (by decide) rfl rfl (law_2 X hS hN h hq hk hkn kk)
  by_cases z3 : xs q &&& 63 = 3
  · exact g_tin (v := 3) X 359 z3 dL_law_40 (by decide) (by decide) rfl rfl (law_3 X hS hN h hq hk hkn kk)
  by_cases z4 : xs q &&& 63 = 4
  · exact g_tin (v := 4) X 432 z4 dL_law_40 (by decide) (by decide) rfl rfl (law_4 X hS hN h hq hk hkn kk)
  by_cases z5 : xs q &&& 63 = 5
  · exact g_tin (v := 5) X 481 z5 dL_law_40 (by decide) (by decide) rfl rfl (law_5 X hS hN h hq hk hkn kk)
  by_cases z6 : xs q &&& 63 = 6
  · exact g_tin (v := 6) X 518 z6 dL_law_40 (by decide) (by decide) rfl rfl (law_6 X hS hN h hq hk hkn kk)
  by_cases z7 : xs q &&& 63 = 7
  · exact g_tin (v := 7) X 619 z7 dL_law_40 (by decide) (by decide) rfl rfl (law_7 X hS hN h hq hk hkn kk)
  by_cases z8 : xs q &&& 63 = 8
  · exact g_tin (v := 8) X 668 z8 dL_law_40 (by decide) (by decide) rfl rfl (law_8 X hS hN h hq hk hkn kk)
  by_cases z9 : xs q &&& 63 = 9
  · exact g_tin (v := 9) X 693 z9 dL_law_40 (by decide) (by decide) rfl rfl (law_9 X hS hN h hq hk hkn kk)
  by_cases z10 : xs q &&& 63 = 10
  · exact g_tin (v := 10) X 718 z10 dL_law_40 (by decide) (by decide) rfl rfl (law_10 X hS hN h hq hk hkn kk)
  by_cases z11 : xs q &&& 63 = 11
  · exact g_tin (v := 11) X 755 z11 dL_law_40 (by decide) (by decide) rfl rfl (law_11 X hS hN h hq hk hkn kk)
  by_cases z12 : xs q &&& 63 = 12
  · exact g_tin (v := 12) X 780 z12 dL_law_40 (by decide) (by decide) rfl rfl (law_12 X hS hN h hq hk hkn kk)
  by_cases z13 : xs q &&& 63 = 13
  · exact g_tin (v := 13) X 829 z13 dL_law_40 (by decide) (by decide) rfl rfl (law_13 X hS hN h hq hk hkn kk)
  by_cases z14 : xs q &&& 63 = 14
  · exact g_tin (v := 14) X 878 z14 dL_law_40 (by decide) (by decide) rfl rfl (law_14 X hS hN h hq hk hkn kk)
  by_cases z15 : xs q &&& 63 = 15
  · exact g_tin (v := 15) X 927 z15 dL_law_40 (by decide) (by decide) rfl rfl (law_15 X hS hN h hq hk hkn kk)
  by_cases z16 : xs q &&& 63 = 16
  · exact g_tin (v := 16) X 952 z16 dL_law_40 (by decide) (by decide) rfl rfl (law_16 X hS hN h hq hk hkn kk)
  by_cases z17 : xs q &&& 63 = 17
  · exact g_tin (v := 17) X 977 z17 dL_law_40 (by decide) (by decide) rfl rfl (law_17 hl hTz X hS hN h hq hk hkn kk)
  by_cases z18 : xs q &&& 63 = 18
  · exact g_tin (v := 18) X 1045 z18 dL_law_40 (by decide) (by decide) rfl rfl (law_18 X hS hN h hq hk hkn kk)
  by_cases z19 : xs q &&& 63 = 19
  · exact g_tin (v := 19) X 1070 z19 dL_law_40 (by decide) (by decide) rfl rfl (law_19 X hS hN h hq hk hkn kk)
  by_cases z20 : xs q &&& 63 = 20
  · exact g_tin (v := 20) X 1095 z20 dL_law_40 (by decide) (by decide) rfl rfl (law_20 X hS hN h hq hk hkn kk)
  by_cases z21 : xs q &&& 63 = 21
  · exact g_tin (v := 21) X 1132 z21 dL_law_40 (by decide) (by decide) rfl rfl (law_21 X hS hN h hq hk hkn kk)
  by_cases z22 : xs q &&& 63 = 22
  · exact g_tin (v := 22) X 1157 z22 dL_law_40 (by decide) (by decide) rfl rfl (law_22 X hS hN h hq hk hkn kk)
  by_cases z23 : xs q &&& 63 = 23
  · exact g_tin (v := 23) X 1182 z23 dL_law_40 (by decide) (by decide) rfl rfl (law_23 X hS hN h hq hk hkn kk)
  by_cases z24 : xs q &&& 63 = 24
  · exact g_tin (v := 24) X 1231 z24 dL_law_40 (by decide) (by decide) rfl rfl (law_24 X hS hN h hq hk hkn kk)
  by_cases z25 : xs q &&& 63 = 25
  · exact g_tin (v := 25) X 1268 z25 dL_law_40 (by decide) (by decide) rfl rfl (law_25 hl hTz X hS hN h hq hk hkn kk)
  by_cases z26 : xs q &&& 63 = 26
  · exact g_tin (v := 26) X 1348 z26 dL_law_40 (by decide) (by decide) rfl rfl (law_26 hl hTz X hS hN h hq hk hkn kk)
  by_cases z27 : xs q &&& 63 = 27
  · exact g_tin (v := 27) X 1416 z27 dL_law_40 (by decide) (by decide) rfl rfl (law_27 X hS hN h hq hk hkn kk)
  by_cases z28 : xs q &&& 63 = 28
  · exact g_tin (v := 28) X 1429 z28 dL_law_40 (by decide) (by decide) rfl rfl (law_28 X hS hN h hq hk hkn kk)
  by_cases z29 : xs q &&& 63 = 29
  · exact g_tin (v := 29) X 1454 z29 dL_law_40 (by decide) (by decide) rfl rfl (law_29 X hS hN h hq hk hkn kk)
  by_cases z30 : xs q &&& 63 = 30
  · exact g_tin (v := 30) X 1479 z30 dL_law_40 (by decide) (by decide) rfl rfl (law_30 X hS hN h hq hk hkn kk)
  by_cases z31 : xs q &&& 63 = 31
  · exact g_tin (v := 31) X 1492 z31 dL_law_40 (by decide) (by decide) rfl rfl (law_31 X hS hN h hq hk hkn kk)
  by_cases z32 : xs q &&& 63 = 32
  · exact g_tin (v := 32) X 1545 z32 dL_law_40 (by decide) (by decide) rfl rfl (law_32 X hS hN h hq hk hkn kk)
  by_cases z33 : xs q &&& 63 = 33
  · exact g_tin (v := 33) X 1594 z33 dL_law_40 (by decide) (by decide) rfl rfl (law_33 X hS hN h hq hk hkn kk)
  by_cases z34 : xs q &&& 63 = 34
  · exact g_tin (v := 34) X 1643 z34 dL_law_40 (by decide) (by decide) rfl rfl (law_34 X hS hN h hq hk hkn kk)
  by_cases z35 : xs q &&& 63 = 35
  · exact g_tin (v := 35) X 1692 z35 dL_law_40 (by decide) (by decide) rfl rfl (law_35 X hS hN h hq hk hkn kk)
  by_cases z36 : xs q &&& 63 = 36
  · exact g_tin (v := 36) X 1729 z36 dL_law_40 (by decide) (by decide) rfl rfl (law_36 X hS hN h hq hk hkn kk)
  by_cases z37 : xs q &&& 63 = 37
  · exact g_tin (v := 37) X 1742 z37 dL_law_40 (by decide) (by decide) rfl rfl (law_37 X hS hN h hq hk hkn kk)
  by_cases z38 : xs q &&& 63 = 38
  · exact g_tin (v := 38) X 1767 z38 dL_law_40 (by decide) (by decide) rfl rfl (law_38 X hS hN h hq hk hkn kk)
  by_cases z39 : xs q &&& 63 = 39
  · exact g_tin (v := 39) X 1804 z39 dL_law_40 (by decide) (by decide) rfl rfl (law_39 X hS hN h hq hk hkn kk)
  by_cases z40 : xs q &&& 63 = 40
  · exact g_tin (v := 40) X 1829 z40 dL_law_40 (by decide) (by decide) rfl rfl (law_40 X hS hN h hq hk hkn kk)
  by_cases z41 : xs q &&& 63 = 41
  · exact g_tin (v := 41) X 1854 z41 dL_law_40 (by decide) (by decide) rfl rfl (law_41 hl hTz X hS hN h hq hk hkn kk)
  refine g_tdef X [0, 1, 2, 3, 4, 5, 6, 7, 8, 9, 10, 11, 12, 13, 14, 15, 16, 17, 18, 19, 20, 21, 22, 23, 24, 25, 26, 27, 28, 29, 30, 31, 32, 33, 34, 35, 36, 37, 38, 39, 40, 41] 1910 (List.forall_mem_cons.mpr ⟨z0, List.forall_mem_cons.mpr ⟨z1, List.forall_mem_cons.mpr ⟨z2, List.forall_mem_cons.mpr ⟨z3, List.forall_mem_cons.mpr ⟨z4, List.forall_mem_cons.mpr ⟨z5, List.forall_mem_cons.mpr ⟨z6, List.forall_mem_cons.mpr ⟨z7, List.forall_mem_cons.mpr ⟨z8, List.forall_mem_cons.mpr ⟨z9, List.forall_mem_cons.mpr ⟨z10, List.forall_mem_cons.mpr ⟨z11, List.forall_mem_cons.mpr ⟨z12, List.forall_mem_cons.mpr ⟨z13, List.forall_mem_cons.mpr ⟨z14, List.forall_mem_cons.mpr ⟨z15, List.forall_mem_cons.mpr ⟨z16, List.forall_mem_cons.mpr ⟨z17, List.forall_mem_cons.mpr ⟨z18, List.forall_mem_cons.mpr ⟨z19, List.forall_mem_cons.mpr ⟨z20, List.forall_mem_cons.mpr ⟨z21, List.forall_mem_cons.mpr ⟨z22, List.forall_mem_cons.mpr ⟨z23, List.forall_mem_cons.mpr ⟨z24, List.forall_mem_cons.mpr ⟨z25, List.forall_mem_cons.mpr ⟨z26, List.forall_mem_cons.mpr ⟨z27, List.forall_mem_cons.mpr ⟨z28, List.forall_mem_cons.mpr ⟨z29, List.forall_mem_cons.mpr ⟨z30, List.forall_mem_cons.mpr ⟨z31, List.forall_mem_cons.mpr ⟨z32, List.forall_mem_cons.mpr ⟨z33, List.forall_mem_cons.mpr ⟨z34, List.forall_mem_cons.mpr ⟨z35, List.forall_mem_cons.mpr ⟨z36, List.forall_mem_cons.mpr ⟨z37, List.forall_mem_cons.mpr ⟨z38, List.forall_mem_cons.mpr ⟨z39, List.forall_mem_cons.mpr ⟨z40, List.forall_mem_cons.mpr ⟨z41, fun _ h => absurd h List.not_mem_nil⟩⟩⟩⟩⟩⟩⟩⟩⟩⟩⟩⟩⟩⟩⟩⟩⟩⟩⟩⟩⟩⟩⟩⟩⟩⟩⟩⟩⟩⟩⟩⟩⟩⟩⟩⟩⟩⟩⟩⟩⟩⟩) dL_law_40 (by decide +kernel) rfl ?_
  refine g_widen (kc' := kc + 3) (kn' := kn + 97) (by omega) (by omega) ?_
  exact kk c n M mm o h
theorem law_end {o : q_Mem} {lv : List (Nat × Value)} {kc kn : Nat} (X : q_X p s m #[Value.ref b] meth c0 K A ad 7 cL_law RL (some .boolean)) (hA : ∀ q, A q → s.heap.size ≤ q) (h1 : kc ≤ 601024) (h2 : kn ≤ 7293034) : GG p l e room_1 s m #[Value.ref b] below meth c0 K A q_g0 ad true 7 (fun (_ : Unit) => lw_Z below #[Value.ref b] s) (some ()) 1916 lv [] o kc kn := by
  refine g_iconst (v := 1) X dL_law_1916 (by decide) ?_
  refine g_widen (kc' := 601024) (kn' := 7293034) h1 h2 ?_
  intro res hF ad' H locs ls a1 a2 a3 a4
  refine va_forget (fun q hq => hA _ (a3.2.2 q hq)) ?_
  exact lw_ret X.1 X.2.1 X.2.2.2.2.2.2.2.1 X.2.2.2.2.2.2.2.2.1 dL_law_1917
theorem nI_sub8 {N q : Nat} (hN : N ≤ 4096) (hq : q ≤ 5000) (h : ¬ (nI N - 8 < nI q)) : q + 8 ≤ N := by
  by_cases z : N < 8
  · exfalso
    apply h
    have h0 : ¬ nI q < 0 := nI_nlt (b := 0) (Nat.zero_le _) (by omega)
    have h1 : nI N - 8 < 0 := by
      have : ∀ N, N < 8 → nI N - 8 < 0 := by decide +kernel
      exact this N z
    exact Int32.lt_of_lt_of_le h1 (Int32.not_lt.mp h0)
  · have e : nI N - 8 = nI (N - 8) := by
      rw [show N = (N - 8) + 8 by omega, ← nI_add, show nI 8 = (8 : Int32) from rfl, Int32.add_sub_cancel, show N - 8 + 8 - 8 = N - 8 by omega]
    rw [e] at h
    by_cases y : N - 8 < q
    · exact absurd (nI_lt y (by omega)) h
    · omega
set_option maxHeartbeats 4000000 in
set_option maxRecDepth 100000 in
theorem law_loop (hl : l.stackTraces = false) (hTz : q_Tz A s s.heap) (X : q_X p s m #[Value.ref b] meth c0 K A ad 7 cL_law RL (some .boolean)) (hS : q_scr b N xs A ad s) (hN : N ≤ 4096) (hA : ∀ q, A q → s.heap.size ≤ q) : ∀ (d i : Nat) (c n : Nat → Nat) (M mm o : q_MM), a_X c n mm M → N < 8 * i + 8 * d + 8 → 8 * i ≤ 4104 → GG p l e room_1 s m #[Value.ref b] below meth c0 K A q_g0 ad true 7 (fun (_ : Unit) => lw_Z below #[Value.ref b] s) (some ()) 23 [(0, .ref 960), (1, .ref 1), (2, .ref 5001), (3, .ref 6000), (4, .int (nI (8 * i)))] [] (q_lw c M mm o) (1000 + 3 * i) (20000 + 97 * i) := by
  intro d
  induction d with
  | zero =>
    intro i c n M mm o h h1 h2
    refine g_iload X dL_law_23 4 rfl ?_
    refine g_aload_n X dL_law_25 rfl 0 rfl ?_
    refine g_slen X hS dL_law_26 ?_
    refine g_bipush (v := 8) X dL_law_27 (by decide) ?_
    refine g_isub X dL_law_29 ?_
    refine g_ite (φ := nI N - 8 < nI (8 * i)) ?_
    refine g_icmp_gt X 1916 dL_law_30 rfl (fun z => ?_) (fun z => ?_)
    · exact law_end X hA (by omega) (by omega)
    · have := nI_sub8 hN (by omega) z
      omega
  | succ d ih =>
    intro i c n M mm o h h1 h2
    refine g_iload X dL_law_23 4 rfl ?_
    refine g_aload_n X dL_law_25 rfl 0 rfl ?_
    refine g_slen X hS dL_law_26 ?_
    refine g_bipush (v := 8) X dL_law_27 (by decide) ?_
    refine g_isub X dL_law_29 ?_
    refine g_ite (φ := nI N - 8 < nI (8 * i)) ?_
    refine g_icmp_gt X 1916 dL_law_30 rfl (fun z => ?_) (fun z => ?_)
    · exact law_end X hA (by omega) (by omega)
    · have hq := nI_sub8 hN (by omega) z
      refine g_aload_n X dL_law_33 rfl 0 rfl ?_
      refine g_iload X dL_law_34 4 rfl ?_
      refine g_sld X hS (vp_in_nI (by omega) (by omega)) dL_law_36 ?_
      rw [nI_clamp (by omega)]
      refine g_bipush (v := 63) X dL_law_37 (by decide) ?_
      refine g_iand X dL_law_39 ?_
      refine law_sw hl hTz X hS (by omega) h hq (by omega) (by omega) (fun c n M mm o h => ?_)
      refine g_iinc (v := 8) X [(4, .int (nI (8 * i) + 8)), (0, .ref 960), (1, .ref 1), (2, .ref 5001), (3, .ref 6000)] 4 dL_law_1910 rfl (by decide) (by decide) rfl ?_
      refine g_goto X 23 dL_law_1913 rfl ?_
      have e : nI (8 * i) + 8 = nI (8 * (i + 1)) := nI_add (8 * i) 8
      rw [e, show 1000 + 3 * i + 3 = 1000 + 3 * (i + 1) by omega, show 20000 + 97 * i + 97 = 20000 + 97 * (i + 1) by omega]
      exact g_sub [1, 2, 3, 4, 0] rfl (ih (i + 1) c n M mm o h (by omega) (by omega))
end LawLoop
