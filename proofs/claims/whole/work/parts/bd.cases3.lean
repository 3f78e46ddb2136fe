/-! the law's cases -/
section LawCases3
variable {p : Program} {l : Launch} {e : Env} {s : State} {m : MethodId} {below : List Frame} {meth : Method} {c0 : Code} {K : q_KK} {A : Nat → Prop} {ad : Nat → Nat} {b N : Nat} {xs : Nat → Int32} {c n : Nat → Nat} {M mm o : q_MM} {q kc kn : Nat}
set_option maxHeartbeats 2000000 in
set_option maxRecDepth 100000 in
theorem law_18 (X : q_X p s m #[Value.ref b] meth c0 K A ad 7 cL_law RL (some .boolean)) (hS : q_scr b N xs A ad s) (hN : N < 2147483648) (h : a_X c n mm M) (hq : q + 8 ≤ N) (hk : kc + 3 ≤ 601024) (hkn : kn + 97 ≤ 7293034) (kk : ∀ (c n : Nat → Nat) (M mm o : q_MM), a_X c n mm M → GG p l e room_1 s m #[Value.ref b] below meth c0 K A q_g0 ad true 7 (fun (_ : Unit) => lw_Z below #[Value.ref b] s) (some ()) 1910 [(0, .ref 960), (1, .ref 1), (2, .ref 5001), (3, .ref 6000), (4, .int (nI q))] [] (q_lw c M mm o) (kc + 3) (kn + 97)) : GG p l e room_1 s m #[Value.ref b] below meth c0 K A q_g0 ad true 7 (fun (_ : Unit) => lw_Z below #[Value.ref b] s) (some ()) 1045 [(0, .ref 960), (1, .ref 1), (2, .ref 5001), (3, .ref 6000), (4, .int (nI q))] [] (q_lw c M mm o) kc kn := by
  obtain ⟨r, n', M', m', hx, hm, h'⟩ := pub_on h (xs (q + 1))
  refine g_aload_n X dL_law_1045 rfl 1 rfl ?_
  refine g_arg5 X hS 1 hN (by omega) rfl rfl dL_law_1046 dL_law_1047 dL_law_1049 rfl dL_law_1050 dL_law_1051 ?_
  refine g_callV (rv := some (.int r)) (As := [.int (xs (q + 1))]) (rest := []) X ((c_X11_on l K c M (xs (q + 1)) _ hx).lawX h.C h.C (fun _ hq => by cases hq) mm o) lk_L_113 rfl rfl rfl (Nat.le_of_ble_eq_true rfl) ⟨Nat.le_of_ble_eq_true rfl, Nat.le_of_ble_eq_true rfl⟩ ⟨by show kc + 0 ≤ 601024; omega, by show kn + 0 ≤ 7293034; omega⟩ dL_law_1052 (fun hq => by cases hq) ?_
  refine g_aload_n X dL_law_1055 rfl 2 rfl ?_
  refine g_arg5 X hS 1 hN (by omega) rfl rfl dL_law_1056 dL_law_1057 dL_law_1059 rfl dL_law_1060 dL_law_1061 ?_
  refine g_alk (q_lw_alk h'.C).1 ?_
  refine g_callV (rv := some (.int r)) (As := [.int (xs (q + 1))]) (rest := [.int r]) X ((c_X12_on l K mm (xs (q + 1)) _ hm).lawM h'.C (fun _ hq => by cases hq) o) lk_L_116 (q_lw2_T h'.C) rfl rfl (Nat.le_of_ble_eq_true rfl) ⟨Nat.le_of_ble_eq_true rfl, Nat.le_of_ble_eq_true rfl⟩ ⟨by show (kc + 0) + 0 ≤ 601024; omega, by show (kn + 0) + 0 ≤ 7293034; omega⟩ dL_law_1062 (fun hq => by cases hq) ?_
  refine g_alk (q_lw_alk h'.C).2 ?_
  refine g_icmpT X 1910 dL_law_1065 rfl ?_
  refine g_widen (kc' := kc + 3) (kn' := kn + 97) (by show kc + 0 + 0 ≤ kc + 3; omega) (by show kn + 0 + 0 ≤ kn + 97; omega) ?_
  exact kk c n' M' m' o h'
set_option maxHeartbeats 2000000 in
set_option maxRecDepth 100000 in
theorem law_19 (X : q_X p s m #[Value.ref b] meth c0 K A ad 7 cL_law RL (some .boolean)) (hS : q_scr b N xs A ad s) (hN : N < 2147483648) (h : a_X c n mm M) (hq : q + 8 ≤ N) (hk : kc + 3 ≤ 601024) (hkn : kn + 97 ≤ 7293034) (kk : ∀ (c n : Nat → Nat) (M mm o : q_MM), a_X c n mm M → GG p l e room_1 s m #[Value.ref b] below meth c0 K A q_g0 ad true 7 (fun (_ : Unit) => lw_Z below #[Value.ref b] s) (some ()) 1910 [(0, .ref 960), (1, .ref 1), (2, .ref 5001), (3, .ref 6000), (4, .int (nI q))] [] (q_lw c M mm o) (kc + 3) (kn + 97)) : GG p l e room_1 s m #[Value.ref b] below meth c0 K A q_g0 ad true 7 (fun (_ : Unit) => lw_Z below #[Value.ref b] s) (some ()) 1070 [(0, .ref 960), (1, .ref 1), (2, .ref 5001), (3, .ref 6000), (4, .int (nI q))] [] (q_lw c M mm o) kc kn := by
  obtain ⟨r, n', M', m', hx, hm, h'⟩ := pub_places h (xs (q + 1))
  refine g_aload_n X dL_law_1070 rfl 1 rfl ?_
  refine g_arg5 X hS 1 hN (by omega) rfl rfl dL_law_1071 dL_law_1072 dL_law_1074 rfl dL_law_1075 dL_law_1076 ?_
  refine g_callV (rv := some (.int r)) (As := [.int (xs (q + 1))]) (rest := []) X ((c_X11_places l K c M (xs (q + 1)) _ hx).lawX h.C h.C (fun _ hq => by cases hq) mm o) lk_L_117 rfl rfl rfl (Nat.le_of_ble_eq_true rfl) ⟨Nat.le_of_ble_eq_true rfl, Nat.le_of_ble_eq_true rfl⟩ ⟨by show kc + 0 ≤ 601024; omega, by show kn + 0 ≤ 7293034; omega⟩ dL_law_1077 (fun hq => by cases hq) ?_
  refine g_aload_n X dL_law_1080 rfl 2 rfl ?_
  refine g_arg5 X hS 1 hN (by omega) rfl rfl dL_law_1081 dL_law_1082 dL_law_1084 rfl dL_law_1085 dL_law_1086 ?_
  refine g_alk (q_lw_alk h'.C).1 ?_
  refine g_callV (rv := some (.int r)) (As := [.int (xs (q + 1))]) (rest := [.int r]) X ((c_X12_places l K mm (xs (q + 1)) _ hm).lawM h'.C (fun _ hq => by cases hq) o) lk_L_120 (q_lw2_T h'.C) rfl rfl (Nat.le_of_ble_eq_true rfl) ⟨Nat.le_of_ble_eq_true rfl, Nat.le_of_ble_eq_true rfl⟩ ⟨by show (kc + 0) + 0 ≤ 601024; omega, by show (kn + 0) + 0 ≤ 7293034; omega⟩ dL_law_1087 (fun hq => by cases hq) ?_
  refine g_alk (q_lw_alk h'.C).2 ?_
  refine g_icmpT X 1910 dL_law_1090 rfl ?_
  refine g_widen (kc' := kc + 3) (kn' := kn + 97) (by show kc + 0 + 0 ≤ kc + 3; omega) (by show kn + 0 + 0 ≤ kn + 97; omega) ?_
  exact kk c n' M' m' o h'
set_option maxHeartbeats 2000000 in
set_option maxRecDepth 100000 in
theorem law_20 (X : q_X p s m #[Value.ref b] meth c0 K A ad 7 cL_law RL (some .boolean)) (hS : q_scr b N xs A ad s) (hN : N < 2147483648) (h : a_X c n mm M) (hq : q + 8 ≤ N) (hk : kc + 3 ≤ 601024) (hkn : kn + 97 ≤ 7293034) (kk : ∀ (c n : Nat → Nat) (M mm o : q_MM), a_X c n mm M → GG p l e room_1 s m #[Value.ref b] below meth c0 K A q_g0 ad true 7 (fun (_ : Unit) => lw_Z below #[Value.ref b] s) (some ()) 1910 [(0, .ref 960), (1, .ref 1), (2, .ref 5001), (3, .ref 6000), (4, .int (nI q))] [] (q_lw c M mm o) (kc + 3) (kn + 97)) : GG p l e room_1 s m #[Value.ref b] below meth c0 K A q_g0 ad true 7 (fun (_ : Unit) => lw_Z below #[Value.ref b] s) (some ()) 1095 [(0, .ref 960), (1, .ref 1), (2, .ref 5001), (3, .ref 6000), (4, .int (nI q))] [] (q_lw c M mm o) kc kn := by
  obtain ⟨r, n', m', hx, hm, h'⟩ := pub_of h (xs (q + 1)) (xs (q + 2))
  refine g_aload_n X dL_law_1095 rfl 1 rfl ?_
  refine g_arg5 X hS 1 hN (by omega) rfl rfl dL_law_1096 dL_law_1097 dL_law_1099 rfl dL_law_1100 dL_law_1101 ?_
  refine g_arg5 X hS 2 hN (by omega) rfl rfl dL_law_1102 dL_law_1103 dL_law_1105 rfl dL_law_1106 dL_law_1107 ?_
  refine g_callV (rv := some (.int r)) (As := [.int (xs (q + 1)), .int (xs (q + 2))]) (rest := []) X ((c_X11_of l K c M (xs (q + 1)) (xs (q + 2)) _ hx).lawX h.C h.C (fun _ hq => by cases hq) mm o) lk_L_121 rfl rfl rfl (Nat.le_of_ble_eq_true rfl) ⟨Nat.le_of_ble_eq_true rfl, Nat.le_of_ble_eq_true rfl⟩ ⟨by show kc + 0 ≤ 601024; omega, by show kn + 0 ≤ 7293034; omega⟩ dL_law_1108 (fun hq => by cases hq) ?_
  refine g_aload_n X dL_law_1111 rfl 2 rfl ?_
  refine g_arg5 X hS 1 hN (by omega) rfl rfl dL_law_1112 dL_law_1113 dL_law_1115 rfl dL_law_1116 dL_law_1117 ?_
  refine g_arg5 X hS 2 hN (by omega) rfl rfl dL_law_1118 dL_law_1119 dL_law_1121 rfl dL_law_1122 dL_law_1123 ?_
  refine g_alk (q_lw_alk h'.C).1 ?_
  refine g_callV (rv := some (.int r)) (As := [.int (xs (q + 1)), .int (xs (q + 2))]) (rest := [.int r]) X ((c_X12_of l K mm (xs (q + 1)) (xs (q + 2)) _ hm).lawM h'.C (fun _ hq => by cases hq) o) lk_L_124 (q_lw2_T h'.C) rfl rfl (Nat.le_of_ble_eq_true rfl) ⟨Nat.le_of_ble_eq_true rfl, Nat.le_of_ble_eq_true rfl⟩ ⟨by show (kc + 0) + 0 ≤ 601024; omega, by show (kn + 0) + 0 ≤ 7293034; omega⟩ dL_law_1124 (fun hq => by cases hq) ?_
  refine g_alk (q_lw_alk h'.C).2 ?_
  refine g_icmpT X 1910 dL_law_1127 rfl ?_
  refine g_widen (kc' := kc + 3) (kn' := kn + 97) (by show kc + 0 + 0 ≤ kc + 3; omega) (by show kn + 0 + 0 ≤ kn + 97; omega) ?_
  exact kk c n' M m' o h'
set_option maxHeartbeats 2000000 in
set_option maxRecDepth 100000 in
theorem law_21 (X : q_X p s m #[Value.ref b] meth c0 K A ad 7 cL_law RL (some .boolean)) (hS : q_scr b N xs A ad s) (hN : N < 2147483648) (h : a_X c n mm M) (hq : q + 8 ≤ N) (hk : kc + 3 ≤ 601024) (hkn : kn + 97 ≤ 7293034) (kk : ∀ (c n : Nat → Nat) (M mm o : q_MM), a_X c n mm M → GG p l e room_1 s m #[Value.ref b] below meth c0 K A q_g0 ad true 7 (fun (_ : Unit) => lw_Z below #[Value.ref b] s) (some ()) 1910 [(0, .ref 960), (1, .ref 1), (2, .ref 5001), (3, .ref 6000), (4, .int (nI q))] [] (q_lw c M mm o) (kc + 3) (kn + 97)) : GG p l e room_1 s m #[Value.ref b] below meth c0 K A q_g0 ad true 7 (fun (_ : Unit) => lw_Z below #[Value.ref b] s) (some ()) 1132 [(0, .ref 960), (1, .ref 1), (2, .ref 5001), (3, .ref 6000), (4, .int (nI q))] [] (q_lw c M mm o) kc kn := by
  obtain ⟨r, n', M', m', hx, hm, h'⟩ := pub_step h (xs (q + 1))
  refine g_aload_n X dL_law_1132 rfl 1 rfl ?_
  refine g_arg5 X hS 1 hN (by omega) rfl rfl dL_law_1133 dL_law_1134 dL_law_1136 rfl dL_law_1137 dL_law_1138 ?_
  refine g_callV (rv := some (.int r)) (As := [.int (xs (q + 1))]) (rest := []) X ((c_X11_step l K c M (xs (q + 1)) _ hx).lawX h.C h.C (fun _ hq => by cases hq) mm o) lk_L_125 rfl rfl rfl (Nat.le_of_ble_eq_true rfl) ⟨Nat.le_of_ble_eq_true rfl, Nat.le_of_ble_eq_true rfl⟩ ⟨by show kc + 0 ≤ 601024; omega, by show kn + 0 ≤ 7293034; omega⟩ dL_law_1139 (fun hq => by cases hq) ?_
  refine g_aload_n X dL_law_1142 rfl 2 rfl ?_
  refine g_arg5 X hS 1 hN (by omega) rfl rfl dL_law_1143 dL_law_1144 dL_law_1146 rfl dL_law_1147 dL_law_1148 ?_
  refine g_alk (q_lw_alk h'.C).1 ?_
  refine g_callV (rv := some (.int r)) (As := [.int (xs (q + 1))]) (rest := [.int r]) X ((c_X12_step l K mm (xs (q + 1)) _ hm).lawM h'.C (fun _ hq => by cases hq) o) lk_L_128 (q_lw2_T h'.C) rfl rfl (Nat.le_of_ble_eq_true rfl) ⟨Nat.le_of_ble_eq_true rfl, Nat.le_of_ble_eq_true rfl⟩ ⟨by show (kc + 0) + 0 ≤ 601024; omega, by show (kn + 0) + 0 ≤ 7293034; omega⟩ dL_law_1149 (fun hq => by cases hq) ?_
  refine g_alk (q_lw_alk h'.C).2 ?_
  refine g_icmpT X 1910 dL_law_1152 rfl ?_
  refine g_widen (kc' := kc + 3) (kn' := kn + 97) (by show kc + 0 + 0 ≤ kc + 3; omega) (by show kn + 0 + 0 ≤ kn + 97; omega) ?_
  exact kk c n' M' m' o h'
set_option maxHeartbeats 2000000 in
set_option maxRecDepth 100000 in
theorem law_22 (X : q_X p s m #[Value.ref b] meth c0 K A ad 7 cL_law RL (some .boolean)) (hS : q_scr b N xs A ad s) (hN : N < 2147483648) (h : a_X c n mm M) (hq : q + 8 ≤ N) (hk : kc + 3 ≤ 601024) (hkn : kn + 97 ≤ 7293034) (kk : ∀ (c n : Nat → Nat) (M mm o : q_MM), a_X c n mm M → GG p l e room_1 s m #[Value.ref b] below meth c0 K A q_g0 ad true 7 (fun (_ : Unit) => lw_Z below #[Value.ref b] s) (some ()) 1910 [(0, .ref 960), (1, .ref 1), (2, .ref 5001), (3, .ref 6000), (4, .int (nI q))] [] (q_lw c M mm o) (kc + 3) (kn + 97)) : GG p l e room_1 s m #[Value.ref b] below meth c0 K A q_g0 ad true 7 (fun (_ : Unit) => lw_Z below #[Value.ref b] s) (some ()) 1157 [(0, .ref 960), (1, .ref 1), (2, .ref 5001), (3, .ref 6000), (4, .int (nI q))] [] (q_lw c M mm o) kc kn := by
  obtain ⟨r, n', m', hx, hm, h'⟩ := pub_fades h (xs (q + 1))
  refine g_aload_n X dL_law_1157 rfl 1 rfl ?_
  refine g_arg5 X hS 1 hN (by omega) rfl rfl dL_law_1158 dL_law_1159 dL_law_1161 rfl dL_law_1162 dL_law_1163 ?_
  refine g_callV (rv := some (.int r)) (As := [.int (xs (q + 1))]) (rest := []) X ((c_X11_fades l K c M (xs (q + 1)) _ hx).lawX h.C h.C (fun _ hq => by cases hq) mm o) lk_L_129 rfl rfl rfl (Nat.le_of_ble_eq_true rfl) ⟨Nat.le_of_ble_eq_true rfl, Nat.le_of_ble_eq_true rfl⟩ ⟨by show kc + 0 ≤ 601024; omega, by show kn + 0 ≤ 7293034; omega⟩ dL_law_1164 (fun hq => by cases hq) ?_
  refine g_aload_n X dL_law_1167 rfl 2 rfl ?_
  refine g_arg5 X hS 1 hN (by omega) rfl rfl dL_law_1168 dL_law_1169 dL_law_1171 rfl dL_law_1172 dL_law_1173 ?_
  refine g_alk (q_lw_alk h'.C).1 ?_
  refine g_callV (rv := some (.int r)) (As := [.int (xs (q + 1))]) (rest := [.int r]) X ((c_X12_fades l K mm (xs (q + 1)) _ hm).lawM h'.C (fun _ hq => by cases hq) o) lk_L_132 (q_lw2_T h'.C) rfl rfl (Nat.le_of_ble_eq_true rfl) ⟨Nat.le_of_ble_eq_true rfl, Nat.le_of_ble_eq_true rfl⟩ ⟨by show (kc + 0) + 0 ≤ 601024; omega, by show (kn + 0) + 0 ≤ 7293034; omega⟩ dL_law_1174 (fun hq => by cases hq) ?_
  refine g_alk (q_lw_alk h'.C).2 ?_
  refine g_icmpT X 1910 dL_law_1177 rfl ?_
  refine g_widen (kc' := kc + 3) (kn' := kn + 97) (by show kc + 0 + 0 ≤ kc + 3; omega) (by show kn + 0 + 0 ≤ kn + 97; omega) ?_
  exact kk c n' M m' o h'
set_option maxHeartbeats 2000000 in
set_option maxRecDepth 100000 in
theorem law_23 (X : q_X p s m #[Value.ref b] meth c0 K A ad 7 cL_law RL (some .boolean)) (hS : q_scr b N xs A ad s) (hN : N < 2147483648) (h : a_X c n mm M) (hq : q + 8 ≤ N) (hk : kc + 3 ≤ 601024) (hkn : kn + 97 ≤ 7293034) (kk : ∀ (c n : Nat → Nat) (M mm o : q_MM), a_X c n mm M → GG p l e room_1 s m #[Value.ref b] below meth c0 K A q_g0 ad true 7 (fun (_ : Unit) => lw_Z below #[Value.ref b] s) (some ()) 1910 [(0, .ref 960), (1, .ref 1), (2, .ref 5001), (3, .ref 6000), (4, .int (nI q))] [] (q_lw c M mm o) (kc + 3) (kn + 97)) : GG p l e room_1 s m #[Value.ref b] below meth c0 K A q_g0 ad true 7 (fun (_ : Unit) => lw_Z below #[Value.ref b] s) (some ()) 1182 [(0, .ref 960), (1, .ref 1), (2, .ref 5001), (3, .ref 6000), (4, .int (nI q))] [] (q_lw c M mm o) kc kn := by
  obtain ⟨r, n', m', hx, hm, h'⟩ := pub_shown h (xs (q + 1)) (xs (q + 2)) (xs (q + 3))
  refine g_aload_n X dL_law_1182 rfl 1 rfl ?_
  refine g_arg5 X hS 1 hN (by omega) rfl rfl dL_law_1183 dL_law_1184 dL_law_1186 rfl dL_law_1187 dL_law_1188 ?_
  refine g_arg5 X hS 2 hN (by omega) rfl rfl dL_law_1189 dL_law_1190 dL_law_1192 rfl dL_law_1193 dL_law_1194 ?_
  refine g_arg5 X hS 3 hN (by omega) rfl rfl dL_law_1195 dL_law_1196 dL_law_1198 rfl dL_law_1199 dL_law_1200 ?_
  refine g_callV (rv := some (.int r)) (As := [.int (xs (q + 1)), .int (xs (q + 2)), .int (xs (q + 3))]) (rest := []) X ((c_X11_shown l K c M (xs (q + 1)) (xs (q + 2)) (xs (q + 3)) _ hx).lawX h.C h.C (fun _ hq => by cases hq) mm o) lk_L_133 rfl rfl rfl (Nat.le_of_ble_eq_true rfl) ⟨Nat.le_of_ble_eq_true rfl, Nat.le_of_ble_eq_true rfl⟩ ⟨by show kc + 0 ≤ 601024; omega, by show kn + 0 ≤ 7293034; omega⟩ dL_law_1201 (fun hq => by cases hq) ?_
  refine g_aload_n X dL_law_1204 rfl 2 rfl ?_
  refine g_arg5 X hS 1 hN (by omega) rfl rfl dL_law_1205 dL_law_1206 dL_law_1208 rfl dL_law_1209 dL_law_1210 ?_
  refine g_arg5 X hS 2 hN (by omega) rfl rfl dL_law_1211 dL_law_1212 dL_law_1214 rfl dL_law_1215 dL_law_1216 ?_
  refine g_arg5 X hS 3 hN (by omega) rfl rfl dL_law_1217 dL_law_1218 dL_law_1220 rfl dL_law_1221 dL_law_1222 ?_
  refine g_alk (q_lw_alk h'.C).1 ?_
  refine g_callV (rv := some (.int r)) (As := [.int (xs (q + 1)), .int (xs (q + 2)), .int (xs (q + 3))]) (rest := [.int r]) X ((c_X12_shown l K mm (xs (q + 1)) (xs (q + 2)) (xs (q + 3)) _ hm).lawM h'.C (fun _ hq => by cases hq) o) lk_L_136 (q_lw2_T h'.C) rfl rfl (Nat.le_of_ble_eq_true rfl) ⟨Nat.le_of_ble_eq_true rfl, Nat.le_of_ble_eq_true rfl⟩ ⟨by show (kc + 0) + 0 ≤ 601024; omega, by show (kn + 0) + 0 ≤ 7293034; omega⟩ dL_law_1223 (fun hq => by cases hq) ?_
  refine g_alk (q_lw_alk h'.C).2 ?_
  refine g_icmpT X 1910 dL_law_1226 rfl ?_
  refine g_widen (kc' := kc + 3) (kn' := kn + 97) (by show kc + 0 + 0 ≤ kc + 3; omega) (by show kn + 0 + 0 ≤ kn + 97; omega) ?_
  exact kk c n' M m' o h'
set_option maxHeartbeats 2000000 in
set_option maxRecDepth 100000 in
theorem law_24 (X : q_X p s m #[Value.ref b] meth c0 K A ad 7 cL_law RL (some .boolean)) (hS : q_scr b N xs A ad s) (hN : N < 2147483648) (h : a_X c n mm M) (hq : q + 8 ≤ N) (hk : kc + 3 ≤ 601024) (hkn : kn + 97 ≤ 7293034) (kk : ∀ (c n : Nat → Nat) (M mm o : q_MM), a_X c n mm M → GG p l e room_1 s m #[Value.ref b] below meth c0 K A q_g0 ad true 7 (fun (_ : Unit) => lw_Z below #[Value.ref b] s) (some ()) 1910 [(0, .ref 960), (1, .ref 1), (2, .ref 5001), (3, .ref 6000), (4, .int (nI q))] [] (q_lw c M mm o) (kc + 3) (kn + 97)) : GG p l e room_1 s m #[Value.ref b] below meth c0 K A q_g0 ad true 7 (fun (_ : Unit) => lw_Z below #[Value.ref b] s) (some ()) 1231 [(0, .ref 960), (1, .ref 1), (2, .ref 5001), (3, .ref 6000), (4, .int (nI q))] [] (q_lw c M mm o) kc kn := by
  obtain ⟨r, n', m', hx, hm, h'⟩ := pub_owed h (xs (q + 1)) (xs (q + 2))
  refine g_aload_n X dL_law_1231 rfl 1 rfl ?_
  refine g_arg5 X hS 1 hN (by omega) rfl rfl dL_law_1232 dL_law_1233 dL_law_1235 rfl dL_law_1236 dL_law_1237 ?_
  refine g_arg5 X hS 2 hN (by omega) rfl rfl dL_law_1238 dL_law_1239 dL_law_1241 rfl dL_law_1242 dL_law_1243 ?_
  refine g_callV (rv := some (.int r)) (As := [.int (xs (q + 1)), .int (xs (q + 2))]) (rest := []) X ((c_X11_owed l K c M (xs (q + 1)) (xs (q + 2)) _ hx).lawX h.C h.C (fun _ hq => by cases hq) mm o) lk_L_137 rfl rfl rfl (Nat.le_of_ble_eq_true rfl) ⟨Nat.le_of_ble_eq_true rfl, Nat.le_of_ble_eq_true rfl⟩ ⟨by show kc + 0 ≤ 601024; omega, by show kn + 0 ≤ 7293034; omega⟩ dL_law_1244 (fun hq => by cases hq) ?_
  refine g_aload_n X dL_law_1247 rfl 2 rfl ?_
  refine g_arg5 X hS 1 hN (by omega) rfl rfl dL_law_1248 dL_law_1249 dL_law_1251 rfl dL_law_1252 dL_law_1253 ?_
  refine g_arg5 X hS 2 hN (by omega) rfl rfl dL_law_1254 dL_law_1255 dL_law_1257 rfl dL_law_1258 dL_law_1259 ?_
  refine g_alk (q_lw_alk h'.C).1 ?_
  refine g_callV (rv := some (.int r)) (As := [.int (xs (q + 1)), .int (xs (q + 2))]) (rest := [.int r]) X ((c_X12_owed l K mm (xs (q + 1)) (xs (q + 2)) _ hm).lawM h'.C (fun _ hq => by cases hq) o) lk_L_140 (q_lw2_T h'.C) rfl rfl (Nat.le_of_ble_eq_true rfl) ⟨Nat.le_of_ble_eq_true rfl, Nat.le_of_ble_eq_true rfl⟩ ⟨by show (kc + 0) + 0 ≤ 601024; omega, by show (kn + 0) + 0 ≤ 7293034; omega⟩ dL_law_1260 (fun hq => by cases hq) ?_
  refine g_alk (q_lw_alk h'.C).2 ?_
  refine g_icmpT X 1910 dL_law_1263 rfl ?_
  refine g_widen (kc' := kc + 3) (kn' := kn + 97) (by show kc + 0 + 0 ≤ kc + 3; omega) (by show kn + 0 + 0 ≤ kn + 97; omega) ?_
  exact kk c n' M m' o h'
end LawCases3
