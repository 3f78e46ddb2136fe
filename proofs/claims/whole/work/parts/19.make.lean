/-! constructors at fixed cell numbers (made by tool/ctor2.py) -/
def q_nos (S : List Nat) (T : Nat → Nat) (P : Nat → Nat → Nat) : Prop := ∀ o ∈ S, q_no T P o
theorem q_nos.sub {S S' : List Nat} {T : Nat → Nat} {P : Nat → Nat → Nat} (h : q_nos S T P) (hs : ∀ o ∈ S', o ∈ S) : q_nos S' T P := fun o ho => h o (hs o ho)
theorem q_nos.up {S : List Nat} {T : Nat → Nat} {P : Nat → Nat → Nat} {a t : Nat} (h : q_nos S T P) (ha : a ∉ S) (h0 : 0 ∉ S) : q_nos S (va_up T a t) (va_up P a (fun _ => 0)) := fun o ho => (h o ho).up (fun e => ha (e ▸ ho)) (fun e => h0 (e ▸ ho))
theorem q_nos.p2 {S : List Nat} {T : Nat → Nat} {P : Nat → Nat → Nat} {a k v : Nat} (h : q_nos S T P) (hv : v ∉ S) : q_nos S T (q_p2 P a k v) := fun o ho => (h o ho).p2 (fun e => hv (e ▸ ho))
section GGmk
variable {ρ : Type} {p : Program} {l : Launch} {e : Env} {R : Room} {s : State} {m : MethodId} {args : Array Value} {below : List Frame} {meth : Method} {c : Code} {K : q_KK} {A : Nat → Prop} {g0 : q_Mem} {ad0 : Nat → Nat} {al : Bool} {nL : Nat} {Q : ρ → State → Prop} {F F' : Option ρ} {pc : Nat} {lv lv' : List (Nat × Value)} {st rest As : List Value} {g g' : q_Mem} {kc kn : Nat} {cc : ByteArray} {own : String} {ret : Option FieldType}
variable {T : Nat → Nat} {L : Nat → Nat} {P : Nat → Nat → Nat} {M : Nat → Nat → Int32}
theorem g_iastc (X : q_X p s m args meth c K A ad0 nL cc own ret) {o : Nat} {i x : Int32} {n : Nat} (hT : T o = 1) (hL : L o = n) (hi : ¬ (i < 0 ∨ n ≤ i.toNatClampNeg)) (hd : decode cc pc = .ok (.iastore, 1))
    (kk : GG p l e R s m args below meth c K A g0 ad0 al nL Q F (pc + 1) lv st (T, L, P, q_u2 M o i.toNatClampNeg x) kc kn) : GG p l e R s m args below meth c K A g0 ad0 al nL Q F pc lv (.int x :: .int i :: .ref o :: st) (T, L, P, M) kc kn := by
  have h := g_iast (g0 := g0) (ad0 := ad0) (al := al) (Q := Q) (F := F) (lv := lv) (st := st) (kc := kc) (kn := kn) (x := x) (P := P) (M := M) X hT hL hd (fun _ => kk)
  rw [if_neg hi] at h
  exact h
def q_LIN (own : String) (idx : Nat) (y : MethodName) (b : ByteArray) (n : Nat) (na : Nat) (host : String) : Prop :=
  (own, idx, y, host) ∈ q_nests ∧ Cond.instanceMethod y ∈ q_gtb ∧ y.name = "<init>" ∧ Cond.initialized y.cls ∈ q_gtb ∧ Cond.code y b n none ∈ q_gtb ∧ (y.cls ≠ "java/lang/invoke/MethodHandle" ∧ y.cls ≠ "java/lang/invoke/VarHandle") ∧ (parseMethodDescriptor y.desc).map (fun d => d.parameters.length) = some na
theorem g_callIN (X : q_X p s m args meth c K A ad0 nL cc own ret) {o fr lo n na idx mc ms : Nat} {y : MethodName} {b : ByteArray} {al2 : Bool} {host : String} (h0 : o ≠ 0) (hM : Mt l y b n none fr lo mc ms al2 K (.ref o :: As) g none g') (hW : q_LIN own idx y b n na host) (hna : As.length = na) (hst : st = As.reverse ++ .ref o :: rest) (hcat : (rest.map fun v => v.category).sum ≤ 8) (hroom : fr + 1 ≤ R.frames ∧ 8 + (n + 11) + lo ≤ R.locals) (hcells : kc + mc ≤ R.cells ∧ kn + ms ≤ R.slots) (hd : decode cc pc = .ok (.invokespecial idx, 3)) (hcl : al2 = true → al = true ∧ (∀ q ∈ lv, q_ok g q.2) ∧ ∀ v ∈ rest, q_ok g v)
    (kk : GG p l e R s m args below meth c K A g0 ad0 al nL Q F (pc + 3) lv rest g' (kc + mc) (kn + ms)) : GG p l e R s m args below meth c K A g0 ad0 al nL Q F pc lv st g kc kn := by
  refine q_callgo (rv := none) (fun ad H locs ls h1 h3 hA1 h2 hsz => ?_) X.2.2.2.2.2.2.1 hcl kk
  obtain ⟨w1, w2, w3, w4, w5, w6, w7⟩ := hW
  have hts := X.2.2.2.2.1
  have e1 : q_tr ad (.ref o) = .ref (ad o) := q_trne h0
  subst hst
  exact va_runIN (As := As.map (q_tr ad)) (rest := rest.map (q_tr ad)) (b := ad o) (host := host) (g := F0 m pc ls ((As.reverse ++ .ref o :: rest).map (q_tr ad))) ⟨X.1, X.2.1, X.2.2.1, X.2.2.2.1, hts⟩ (hM ad H.size) ⟨va_cnB (ws := Cond.code y b n none :: q_gtb) (ws' := q_gtb) (rm := { frames := fr, cells := mc, slots := ms, locals := lo }) na hts (q_good w5) rfl rfl rfl (X.2.2.2.2.2.2.2.2.2.2.2.2.2.2.2.2.2.2 _ w1) (hts _ w4) ⟨w6.1, w6.2, w7⟩ hroom, w3, hts _ w2⟩ ⟨q_Pc_blind, fun U hU hWm => ⟨by rw [List.map_cons, e1], by rw [hU], by rw [hU]; exact h2.weak fun _ _ => trivial, va_K.moved hWm.alike X.2.2.2.2.2.1, by rw [hU]; exact X.2.2.2.2.2.2.2.2.2.to hWm (fun o ho => h1.1 o (Or.inr ho)) hA1 h3.2.1⟩⟩ rfl (by rw [List.length_map]; exact hna) hsz (by simp [e1]) (lv_room (by rw [q_cats]; exact hcat)) hd hcells
end GGmk
theorem c_Num (l : Launch) (K : q_KK) (T : Nat → Nat) (L : Nat → Nat) (P : Nat → Nat → Nat) (M : q_MM) (o o2 : Nat) (n : Int32) (k : Nat) (e : o2 = o + 50) (e2 : n.toNatClampNeg = k) (h0 : o ≠ 0) (hT : T o = 14) (hf : q_no T P o2) (hst : ¬ q_st o2) (hn : ¬ n < 0) (hb : k ≤ 100000) : Mt l yX4_init cX4_init 2 none 1 20 1 k true K [.ref o, .int n] (T, L, P, M) none (va_up T o2 1, va_up L o2 k, q_p2 (va_up P o2 (fun _ => 0)) o 0 o2, va_up M o2 (fun _ => 0)) := by
  subst e; subst e2
  exact c_X4_init l K T L P M o n h0 hT hf hst hn hb
theorem c_Hang (l : Launch) (K : q_KK) (T : Nat → Nat) (L : Nat → Nat) (P : Nat → Nat → Nat) (M : q_MM) (o a b : Nat) (e : a = o + 40) (e2 : b = o + 42) (h0 : o ≠ 0) (hT : T o = 11) (hf : q_no T P a) (hf2 : q_no T P b) (hst : ¬ q_st a) (hst2 : ¬ q_st b) : Mt l yX1_init cX1_init 1 none 1 23 2 48 true K [.ref o] (T, L, P, M) none (va_up (va_up T a 1) b 1, va_up (va_up L a 24) b 24, q_p2 (va_up (q_p2 (va_up P a (fun _ => 0)) o 0 a) b (fun _ => 0)) o 1 b, q_fill (q_fill (va_up (va_up M a (fun _ => 0)) b (fun _ => 0)) a 0 24 (-1)) b 0 24 (-1)) := by
  subst e; subst e2
  exact c_X1_init l K T L P M o h0 hT hf hf2 hst hst2
theorem lkn_X11_9 : q_LIN RX11 9 yX2_init cX2_init 1 0 "GalleryWalls" := ⟨by decide +kernel, q_wd 133 (by decide +kernel) (by decide +kernel), rfl, q_wd 92 (by decide +kernel) (by decide +kernel), q_wd 134 (by decide +kernel) (by decide +kernel), ⟨by decide +kernel, by decide +kernel⟩, by decide +kernel⟩
theorem lkn_X9_20 : q_LIN RX9 20 yX8_init cX8_init 1 0 "GalleryWalls" := ⟨by decide +kernel, q_wd 247 (by decide +kernel) (by decide +kernel), rfl, q_wd 99 (by decide +kernel) (by decide +kernel), q_wd 248 (by decide +kernel) (by decide +kernel), ⟨by decide +kernel, by decide +kernel⟩, by decide +kernel⟩
theorem s_len12 {T : Nat → Nat} {L : Nat → Nat} {P : Nat → Nat → Nat} {M : q_MM} : f_J0_length_8abf5 T L P M 900 = some 12 := by
  simp [f_J0_length_8abf5, f_J0_coder_7d493, q_sck, q_bck, q_len, q_bl]
  try decide
def wX8_initT (T : Nat → Nat) : Nat → Nat := (va_up (va_up (va_up (va_up T 31 14) 81 1) 32 14) 82 1)
def wX8_initL (L : Nat → Nat) : Nat → Nat := (va_up (va_up (va_up (va_up L 31 0) 81 61) 32 0) 82 60)
def wX8_initP (P : Nat → Nat → Nat) : Nat → Nat → Nat := (q_p2 (q_p2 (va_up (va_up (q_p2 (q_p2 (va_up (va_up P 31 (fun _ => 0)) 81 (fun _ => 0)) 31 0 81) 28 0 31) 32 (fun _ => 0)) 82 (fun _ => 0)) 32 0 82) 28 1 32)
def wX8_initM (M : q_MM) : q_MM := (va_up (va_up (va_up (va_up M 31 (fun _ => 0)) 81 (fun _ => 0)) 32 (fun _ => 0)) 82 (fun _ => 0))
theorem n_X8_init {S : List Nat} {T : Nat → Nat} {P : Nat → Nat → Nat} (h : q_nos S T P) (hd : ∀ a ∈ [0, 31, 32, 81, 82], a ∉ S) : q_nos S (wX8_initT T) (wX8_initP P) := (q_nos.p2 (q_nos.p2 (q_nos.up (q_nos.up (q_nos.p2 (q_nos.p2 (q_nos.up (q_nos.up h (hd 31 (by decide)) (hd 0 (by decide))) (hd 81 (by decide)) (hd 0 (by decide))) (hd 81 (by decide))) (hd 31 (by decide))) (hd 32 (by decide)) (hd 0 (by decide))) (hd 82 (by decide)) (hd 0 (by decide))) (hd 82 (by decide))) (hd 32 (by decide)))
set_option maxHeartbeats 8000000 in
set_option maxRecDepth 100000 in
theorem c_X8_init (l : Launch) (K : q_KK) (T : Nat → Nat) (L : Nat → Nat) (P : Nat → Nat → Nat) (M : q_MM) (hT : T 28 = 18) (hS0 : q_nos [31, 81, 32, 82] T P) : Mt l yX8_init cX8_init 1 none 2 41 4 125 true K [.ref 28] (T, L, P, M) none (wX8_initT T, wX8_initL L, wX8_initP P, wX8_initM M) := by
  refine Mt.of (ρ := Unit) (F := some ()) (fun _ => none) (fun _ => (wX8_initT T, wX8_initL L, wX8_initP P, wX8_initM M)) (by decide) (Nat.le_of_ble_eq_true rfl) ?_ () rfl
  intro p e s m args below meth c0 A ad X hN
  refine g_sub (lv' := [(0, .ref 28)]) [0] rfl ?_
  refine g_aload_n X dX8_init_0 rfl 0 rfl ?_
  refine g_objinit X (by decide) lko_X8_3 (Nat.le_of_ble_eq_true rfl) (Nat.le_of_ble_eq_true rfl) dX8_init_1 ?_
  refine g_aload_n X dX8_init_4 rfl 0 rfl ?_
  have hq := hS0 31 (by decide)
  refine g_new X 31 nw_X8_9 rfl (by decide) (by simp [q_st]) hq.1 (fun o9 _ k9 => hq.2 o9 k9) (by simp) (by simp) (Nat.le_of_ble_eq_true rfl) (Nat.le_of_ble_eq_true rfl) dX8_init_5 ?_
  have hS1 := (hS0.sub (S' := [81, 32, 82]) (by decide)).up (a := 31) (t := 14) (by decide) (by decide)
  refine g_dup X dX8_init_8 rfl ?_
  refine g_bipush (v := 61) X dX8_init_9 (by decide) ?_
  refine g_callI (rv := none) (As := [.int 61]) (rest := [.ref 31, .ref 28]) X (by decide) (c_Num l K _ _ _ _ 31 81 61 61 rfl rfl (by decide) (by simp [va_up, hT]) (hS1 81 (by decide)) (by simp [q_st]) (by decide) (by decide)) lki_X8_11 rfl rfl (Nat.le_of_ble_eq_true rfl) ⟨Nat.le_of_ble_eq_true rfl, Nat.le_of_ble_eq_true rfl⟩ ⟨Nat.le_of_ble_eq_true rfl, Nat.le_of_ble_eq_true rfl⟩ dX8_init_11 (fun _ => ⟨rfl, by simp [q_ok, va_up, hT], by simp [q_ok, va_up, hT]⟩) ?_
  have hS2 := ((hS1.sub (S' := [32, 82]) (by decide)).up (a := 81) (t := 1) (by decide) (by decide)).p2 (a := 31) (k := 0) (v := 81) (by decide)
  refine g_putrF X fa_X8_14 hN (by decide +kernel) (by decide +kernel) (fun ad ty h => q_objfit (te := "GalleryWalls$Numbers") (by decide +kernel) _ ad ty h) (by simp [va_up, hT]) dX8_init_14 ?_
  have hS3 := hS2.p2 (a := 28) (k := 0) (v := 31) (by decide)
  refine g_aload_n X dX8_init_17 rfl 0 rfl ?_
  have hq := hS3 32 (by decide)
  refine g_new X 32 nw_X8_9 rfl (by decide) (by simp [q_st]) hq.1 (fun o9 _ k9 => hq.2 o9 k9) (by simp) (by simp) (Nat.le_of_ble_eq_true rfl) (Nat.le_of_ble_eq_true rfl) dX8_init_18 ?_
  have hS4 := (hS3.sub (S' := [82]) (by decide)).up (a := 32) (t := 14) (by decide) (by decide)
  refine g_dup X dX8_init_21 rfl ?_
  refine g_bipush (v := 60) X dX8_init_22 (by decide) ?_
  refine g_callI (rv := none) (As := [.int 60]) (rest := [.ref 32, .ref 28]) X (by decide) (c_Num l K _ _ _ _ 32 82 60 60 rfl rfl (by decide) (by simp [va_up, hT]) (hS4 82 (by decide)) (by simp [q_st]) (by decide) (by decide)) lki_X8_11 rfl rfl (Nat.le_of_ble_eq_true rfl) ⟨Nat.le_of_ble_eq_true rfl, Nat.le_of_ble_eq_true rfl⟩ ⟨Nat.le_of_ble_eq_true rfl, Nat.le_of_ble_eq_true rfl⟩ dX8_init_24 (fun _ => ⟨rfl, by simp [q_ok, va_up, hT], by simp [q_ok, va_up, hT]⟩) ?_
  have hS5 := ((hS4.sub (S' := []) (by decide)).up (a := 82) (t := 1) (by decide) (by decide)).p2 (a := 32) (k := 0) (v := 82) (by decide)
  refine g_putrF X fa_X8_20 hN (by decide +kernel) (by decide +kernel) (fun ad ty h => q_objfit (te := "GalleryWalls$Numbers") (by decide +kernel) _ ad ty h) (by simp [va_up, hT]) dX8_init_27 ?_
  have hS6 := hS5.p2 (a := 28) (k := 1) (v := 32) (by decide)
  refine g_widen (kc' := 4) (kn' := 125) (by decide) (by decide) ?_
  exact g_vret X rfl rfl rfl dX8_init_30
def wX2_initT (T : Nat → Nat) : Nat → Nat := (va_up (va_up (va_up (va_up (va_up (va_up (va_up (va_up (va_up (va_up (va_up (va_up (va_up (va_up T 13 23) 14 23) 15 23) 16 1) 17 1) 18 1) 19 1) 20 1) 21 11) 61 1) 63 1) 22 11) 62 1) 64 1)
def wX2_initL (L : Nat → Nat) : Nat → Nat := (va_up (va_up (va_up (va_up (va_up (va_up (va_up (va_up (va_up (va_up (va_up (va_up (va_up (va_up L 13 0) 14 0) 15 0) 16 4) 17 64) 18 10) 19 10) 20 400) 21 0) 61 24) 63 24) 22 0) 62 24) 64 24)
def wX2_initP (P : Nat → Nat → Nat) : Nat → Nat → Nat := (q_p2 (q_p2 (va_up (q_p2 (va_up (va_up (q_p2 (q_p2 (va_up (q_p2 (va_up (va_up (q_p2 (va_up (q_p2 (va_up (q_p2 (va_up (q_p2 (va_up (q_p2 (va_up (q_p2 (q_p2 (va_up (q_p2 (q_p2 (va_up (q_p2 (q_p2 (va_up P 13 (fun _ => 0)) 13 1 940) 2 0 13) 14 (fun _ => 0)) 14 1 940) 2 1 14) 15 (fun _ => 0)) 15 1 940) 2 2 15) 16 (fun _ => 0)) 2 3 16) 17 (fun _ => 0)) 2 4 17) 18 (fun _ => 0)) 2 5 18) 19 (fun _ => 0)) 2 6 19) 20 (fun _ => 0)) 2 7 20) 21 (fun _ => 0)) 61 (fun _ => 0)) 21 0 61) 63 (fun _ => 0)) 21 1 63) 2 8 21) 22 (fun _ => 0)) 62 (fun _ => 0)) 22 0 62) 64 (fun _ => 0)) 22 1 64) 2 9 22)
def wX2_initM (M : q_MM) : q_MM := (q_fill (q_fill (va_up (va_up (va_up (q_fill (q_fill (va_up (va_up (va_up (va_up (va_up (va_up (va_up (q_u2 (q_u2 (q_u2 (q_u2 (va_up (q_u2 (va_up (q_u2 (va_up (q_u2 (va_up M 13 (fun _ => 0)) 13 0 0) 14 (fun _ => 0)) 14 0 0) 15 (fun _ => 0)) 15 0 0) 16 (fun _ => 0)) 16 0 150) 16 1 20) 16 2 10) 16 3 17) 17 (fun _ => 0)) 18 (fun _ => 0)) 19 (fun _ => 0)) 20 (fun _ => 0)) 21 (fun _ => 0)) 61 (fun _ => 0)) 63 (fun _ => 0)) 61 0 24 (-1)) 63 0 24 (-1)) 22 (fun _ => 0)) 62 (fun _ => 0)) 64 (fun _ => 0)) 62 0 24 (-1)) 64 0 24 (-1))
theorem n_X2_init {S : List Nat} {T : Nat → Nat} {P : Nat → Nat → Nat} (h : q_nos S T P) (hd : ∀ a ∈ [0, 13, 14, 15, 16, 17, 18, 19, 20, 21, 22, 61, 62, 63, 64, 940], a ∉ S) : q_nos S (wX2_initT T) (wX2_initP P) := (q_nos.p2 (q_nos.p2 (q_nos.up (q_nos.p2 (q_nos.up (q_nos.up (q_nos.p2 (q_nos.p2 (q_nos.up (q_nos.p2 (q_nos.up (q_nos.up (q_nos.p2 (q_nos.up (q_nos.p2 (q_nos.up (q_nos.p2 (q_nos.up (q_nos.p2 (q_nos.up (q_nos.p2 (q_nos.up (q_nos.p2 (q_nos.p2 (q_nos.up (q_nos.p2 (q_nos.p2 (q_nos.up (q_nos.p2 (q_nos.p2 (q_nos.up h (hd 13 (by decide)) (hd 0 (by decide))) (hd 940 (by decide))) (hd 13 (by decide))) (hd 14 (by decide)) (hd 0 (by decide))) (hd 940 (by decide))) (hd 14 (by decide))) (hd 15 (by decide)) (hd 0 (by decide))) (hd 940 (by decide))) (hd 15 (by decide))) (hd 16 (by decide)) (hd 0 (by decide))) (hd 16 (by decide))) (hd 17 (by decide)) (hd 0 (by decide))) (hd 17 (by decide))) (hd 18 (by decide)) (hd 0 (by decide))) (hd 18 (by decide))) (hd 19 (by decide)) (hd 0 (by decide))) (hd 19 (by decide))) (hd 20 (by decide)) (hd 0 (by decide))) (hd 20 (by decide))) (hd 21 (by decide)) (hd 0 (by decide))) (hd 61 (by decide)) (hd 0 (by decide))) (hd 61 (by decide))) (hd 63 (by decide)) (hd 0 (by decide))) (hd 63 (by decide))) (hd 21 (by decide))) (hd 22 (by decide)) (hd 0 (by decide))) (hd 62 (by decide)) (hd 0 (by decide))) (hd 62 (by decide))) (hd 64 (by decide)) (hd 0 (by decide))) (hd 64 (by decide))) (hd 22 (by decide)))
set_option maxHeartbeats 8000000 in
set_option maxRecDepth 100000 in
theorem c_X2_init (l : Launch) (K : q_KK) (T : Nat → Nat) (L : Nat → Nat) (P : Nat → Nat → Nat) (M : q_MM) (hT : T 2 = 12) (hS0 : q_nos [13, 14, 15, 16, 17, 18, 19, 20, 21, 61, 63, 22, 62, 64] T P) : Mt l yX2_init cX2_init 1 none 4 110 14 597 true K [.ref 2] (T, L, P, M) none (wX2_initT T, wX2_initL L, wX2_initP P, wX2_initM M) := by
  refine Mt.of (ρ := Unit) (F := some ()) (fun _ => none) (fun _ => (wX2_initT T, wX2_initL L, wX2_initP P, wX2_initM M)) (by decide) (Nat.le_of_ble_eq_true rfl) ?_ () rfl
  intro p e s m args below meth c0 A ad X hN
  refine g_sub (lv' := [(0, .ref 2)]) [0] rfl ?_
  refine g_aload_n X dX2_init_0 rfl 0 rfl ?_
  refine g_objinit X (by decide) lko_X2_3 (Nat.le_of_ble_eq_true rfl) (Nat.le_of_ble_eq_true rfl) dX2_init_1 ?_
  refine g_aload_n X dX2_init_4 rfl 0 rfl ?_
  have hq := hS0 13 (by decide)
  refine g_new X 13 nw_X2_9 rfl (by decide) (by simp [q_st]) hq.1 (fun o9 _ k9 => hq.2 o9 k9) (by simp) (by simp) (Nat.le_of_ble_eq_true rfl) (Nat.le_of_ble_eq_true rfl) dX2_init_5 ?_
  have hS1 := (hS0.sub (S' := [14, 15, 16, 17, 18, 19, 20, 21, 61, 63, 22, 62, 64]) (by decide)).up (a := 13) (t := 23) (by decide) (by decide)
  refine g_dup X dX2_init_8 rfl ?_
  refine g_callI (rv := none) (As := []) (rest := [.ref 13, .ref 2]) X (by decide) (c_list_init l K _ _ _ _ 13 (by decide) (by simp [va_up, hT])) lki_X2_11 rfl rfl (Nat.le_of_ble_eq_true rfl) ⟨Nat.le_of_ble_eq_true rfl, Nat.le_of_ble_eq_true rfl⟩ ⟨Nat.le_of_ble_eq_true rfl, Nat.le_of_ble_eq_true rfl⟩ dX2_init_9 (fun h => by cases h) ?_
  have hS2 := hS1.p2 (a := 13) (k := 1) (v := 940) (by decide)
  refine g_putrF X fa_X2_12 hN (by decide +kernel) (by decide +kernel) (fun ad ty h => q_objfit (te := "java/util/ArrayList") (by decide +kernel) _ ad ty h) (by simp [va_up, hT]) dX2_init_12 ?_
  have hS3 := hS2.p2 (a := 2) (k := 0) (v := 13) (by decide)
  refine g_aload_n X dX2_init_15 rfl 0 rfl ?_
  have hq := hS3 14 (by decide)
  refine g_new X 14 nw_X2_9 rfl (by decide) (by simp [q_st]) hq.1 (fun o9 _ k9 => hq.2 o9 k9) (by simp) (by simp) (Nat.le_of_ble_eq_true rfl) (Nat.le_of_ble_eq_true rfl) dX2_init_16 ?_
  have hS4 := (hS3.sub (S' := [15, 16, 17, 18, 19, 20, 21, 61, 63, 22, 62, 64]) (by decide)).up (a := 14) (t := 23) (by decide) (by decide)
  refine g_dup X dX2_init_19 rfl ?_
  refine g_callI (rv := none) (As := []) (rest := [.ref 14, .ref 2]) X (by decide) (c_list_init l K _ _ _ _ 14 (by decide) (by simp [va_up, hT])) lki_X2_11 rfl rfl (Nat.le_of_ble_eq_true rfl) ⟨Nat.le_of_ble_eq_true rfl, Nat.le_of_ble_eq_true rfl⟩ ⟨Nat.le_of_ble_eq_true rfl, Nat.le_of_ble_eq_true rfl⟩ dX2_init_20 (fun h => by cases h) ?_
  have hS5 := hS4.p2 (a := 14) (k := 1) (v := 940) (by decide)
  refine g_putrF X fa_X2_18 hN (by decide +kernel) (by decide +kernel) (fun ad ty h => q_objfit (te := "java/util/ArrayList") (by decide +kernel) _ ad ty h) (by simp [va_up, hT]) dX2_init_23 ?_
  have hS6 := hS5.p2 (a := 2) (k := 1) (v := 14) (by decide)
  refine g_aload_n X dX2_init_26 rfl 0 rfl ?_
  have hq := hS6 15 (by decide)
  refine g_new X 15 nw_X2_9 rfl (by decide) (by simp [q_st]) hq.1 (fun o9 _ k9 => hq.2 o9 k9) (by simp) (by simp) (Nat.le_of_ble_eq_true rfl) (Nat.le_of_ble_eq_true rfl) dX2_init_27 ?_
  have hS7 := (hS6.sub (S' := [16, 17, 18, 19, 20, 21, 61, 63, 22, 62, 64]) (by decide)).up (a := 15) (t := 23) (by decide) (by decide)
  refine g_dup X dX2_init_30 rfl ?_
  refine g_callI (rv := none) (As := []) (rest := [.ref 15, .ref 2]) X (by decide) (c_list_init l K _ _ _ _ 15 (by decide) (by simp [va_up, hT])) lki_X2_11 rfl rfl (Nat.le_of_ble_eq_true rfl) ⟨Nat.le_of_ble_eq_true rfl, Nat.le_of_ble_eq_true rfl⟩ ⟨Nat.le_of_ble_eq_true rfl, Nat.le_of_ble_eq_true rfl⟩ dX2_init_31 (fun h => by cases h) ?_
  have hS8 := hS7.p2 (a := 15) (k := 1) (v := 940) (by decide)
  refine g_putrF X fa_X2_21 hN (by decide +kernel) (by decide +kernel) (fun ad ty h => q_objfit (te := "java/util/ArrayList") (by decide +kernel) _ ad ty h) (by simp [va_up, hT]) dX2_init_34 ?_
  have hS9 := hS8.p2 (a := 2) (k := 2) (v := 15) (by decide)
  refine g_aload_n X dX2_init_37 rfl 0 rfl ?_
  refine g_iconst (v := 4) X dX2_init_38 (by decide) ?_
  have hq := hS9 16 (by decide)
  refine g_newi (n := 4) X 16 wa_int rfl (by decide) (by simp [q_st]) hq.1 (fun o9 _ k9 => hq.2 o9 k9) (by simp) (by simp) (by decide) (by decide) (Nat.le_of_ble_eq_true rfl) (Nat.le_of_ble_eq_true rfl) dX2_init_39 ?_
  have hS10 := (hS9.sub (S' := [17, 18, 19, 20, 21, 61, 63, 22, 62, 64]) (by decide)).up (a := 16) (t := 1) (by decide) (by decide)
  refine g_dup X dX2_init_41 rfl ?_
  refine g_iconst (v := 0) X dX2_init_42 (by decide) ?_
  refine g_sipush (v := 150) X dX2_init_43 (by decide) ?_
  refine g_iastc (n := 4) X (by simp [va_up, hT]) (by simp [va_up]) (by decide) dX2_init_46 ?_
  refine g_dup X dX2_init_47 rfl ?_
  refine g_iconst (v := 1) X dX2_init_48 (by decide) ?_
  refine g_bipush (v := 20) X dX2_init_49 (by decide) ?_
  refine g_iastc (n := 4) X (by simp [va_up, hT]) (by simp [va_up]) (by decide) dX2_init_51 ?_
  refine g_dup X dX2_init_52 rfl ?_
  refine g_iconst (v := 2) X dX2_init_53 (by decide) ?_
  refine g_bipush (v := 10) X dX2_init_54 (by decide) ?_
  refine g_iastc (n := 4) X (by simp [va_up, hT]) (by simp [va_up]) (by decide) dX2_init_56 ?_
  refine g_dup X dX2_init_57 rfl ?_
  refine g_iconst (v := 3) X dX2_init_58 (by decide) ?_
  refine g_bipush (v := 17) X dX2_init_59 (by decide) ?_
  refine g_iastc (n := 4) X (by simp [va_up, hT]) (by simp [va_up]) (by decide) dX2_init_61 ?_
  refine g_putrF X fa_X2_24 hN (by decide +kernel) (by decide +kernel) (fun ad ty h => q_arrfit (te := .int) (by decide +kernel) _ ad ty h) (by simp [va_up, hT]) dX2_init_62 ?_
  have hS11 := hS10.p2 (a := 2) (k := 3) (v := 16) (by decide)
  refine g_aload_n X dX2_init_65 rfl 0 rfl ?_
  refine g_bipush (v := 64) X dX2_init_66 (by decide) ?_
  have hq := hS11 17 (by decide)
  refine g_newi (n := 64) X 17 wa_int rfl (by decide) (by simp [q_st]) hq.1 (fun o9 _ k9 => hq.2 o9 k9) (by simp) (by simp) (by decide) (by decide) (Nat.le_of_ble_eq_true rfl) (Nat.le_of_ble_eq_true rfl) dX2_init_68 ?_
  have hS12 := (hS11.sub (S' := [18, 19, 20, 21, 61, 63, 22, 62, 64]) (by decide)).up (a := 17) (t := 1) (by decide) (by decide)
  refine g_putrF X fa_X2_28 hN (by decide +kernel) (by decide +kernel) (fun ad ty h => q_arrfit (te := .int) (by decide +kernel) _ ad ty h) (by simp [va_up, hT]) dX2_init_70 ?_
  have hS13 := hS12.p2 (a := 2) (k := 4) (v := 17) (by decide)
  refine g_aload_n X dX2_init_73 rfl 0 rfl ?_
  refine g_bipush (v := 10) X dX2_init_74 (by decide) ?_
  have hq := hS13 18 (by decide)
  refine g_newi (n := 10) X 18 wa_int rfl (by decide) (by simp [q_st]) hq.1 (fun o9 _ k9 => hq.2 o9 k9) (by simp) (by simp) (by decide) (by decide) (Nat.le_of_ble_eq_true rfl) (Nat.le_of_ble_eq_true rfl) dX2_init_76 ?_
  have hS14 := (hS13.sub (S' := [19, 20, 21, 61, 63, 22, 62, 64]) (by decide)).up (a := 18) (t := 1) (by decide) (by decide)
  refine g_putrF X fa_X2_31 hN (by decide +kernel) (by decide +kernel) (fun ad ty h => q_arrfit (te := .int) (by decide +kernel) _ ad ty h) (by simp [va_up, hT]) dX2_init_78 ?_
  have hS15 := hS14.p2 (a := 2) (k := 5) (v := 18) (by decide)
  refine g_aload_n X dX2_init_81 rfl 0 rfl ?_
  refine g_bipush (v := 10) X dX2_init_82 (by decide) ?_
  have hq := hS15 19 (by decide)
  refine g_newi (n := 10) X 19 wa_int rfl (by decide) (by simp [q_st]) hq.1 (fun o9 _ k9 => hq.2 o9 k9) (by simp) (by simp) (by decide) (by decide) (Nat.le_of_ble_eq_true rfl) (Nat.le_of_ble_eq_true rfl) dX2_init_84 ?_
  have hS16 := (hS15.sub (S' := [20, 21, 61, 63, 22, 62, 64]) (by decide)).up (a := 19) (t := 1) (by decide) (by decide)
  refine g_putrF X fa_X2_34 hN (by decide +kernel) (by decide +kernel) (fun ad ty h => q_arrfit (te := .int) (by decide +kernel) _ ad ty h) (by simp [va_up, hT]) dX2_init_86 ?_
  have hS17 := hS16.p2 (a := 2) (k := 6) (v := 19) (by decide)
  refine g_aload_n X dX2_init_89 rfl 0 rfl ?_
  refine g_sipush (v := 400) X dX2_init_90 (by decide) ?_
  have hq := hS17 20 (by decide)
  refine g_newi (n := 400) X 20 wa_int rfl (by decide) (by simp [q_st]) hq.1 (fun o9 _ k9 => hq.2 o9 k9) (by simp) (by simp) (by decide) (by decide) (Nat.le_of_ble_eq_true rfl) (Nat.le_of_ble_eq_true rfl) dX2_init_93 ?_
  have hS18 := (hS17.sub (S' := [21, 61, 63, 22, 62, 64]) (by decide)).up (a := 20) (t := 1) (by decide) (by decide)
  refine g_putrF X fa_X2_37 hN (by decide +kernel) (by decide +kernel) (fun ad ty h => q_arrfit (te := .int) (by decide +kernel) _ ad ty h) (by simp [va_up, hT]) dX2_init_95 ?_
  have hS19 := hS18.p2 (a := 2) (k := 7) (v := 20) (by decide)
  refine g_aload_n X dX2_init_98 rfl 0 rfl ?_
  have hq := hS19 21 (by decide)
  refine g_new X 21 nw_X2_40 rfl (by decide) (by simp [q_st]) hq.1 (fun o9 _ k9 => hq.2 o9 k9) (by simp) (by simp) (Nat.le_of_ble_eq_true rfl) (Nat.le_of_ble_eq_true rfl) dX2_init_99 ?_
  have hS20 := (hS19.sub (S' := [61, 63, 22, 62, 64]) (by decide)).up (a := 21) (t := 11) (by decide) (by decide)
  refine g_dup X dX2_init_102 rfl ?_
  refine g_callI (rv := none) (As := []) (rest := [.ref 21, .ref 2]) X (by decide) (c_Hang l K _ _ _ _ 21 61 63 rfl rfl (by decide) (by simp [va_up, hT]) (hS20 61 (by decide)) (hS20 63 (by decide)) (by simp [q_st]) (by simp [q_st])) lki_X2_42 rfl rfl (Nat.le_of_ble_eq_true rfl) ⟨Nat.le_of_ble_eq_true rfl, Nat.le_of_ble_eq_true rfl⟩ ⟨Nat.le_of_ble_eq_true rfl, Nat.le_of_ble_eq_true rfl⟩ dX2_init_103 (fun _ => ⟨rfl, by simp [q_ok, va_up, hT], by simp [q_ok, va_up, hT]⟩) ?_
  have hS21 := (((((hS20.sub (S' := [22, 62, 64]) (by decide)).up (a := 61) (t := 1) (by decide) (by decide)).p2 (a := 21) (k := 0) (v := 61) (by decide)).up (a := 63) (t := 1) (by decide) (by decide)).p2 (a := 21) (k := 1) (v := 63) (by decide))
  refine g_putrF X fa_X2_43 hN (by decide +kernel) (by decide +kernel) (fun ad ty h => q_objfit (te := "GalleryWalls$Hanging") (by decide +kernel) _ ad ty h) (by simp [va_up, hT]) dX2_init_106 ?_
  have hS22 := hS21.p2 (a := 2) (k := 8) (v := 21) (by decide)
  refine g_aload_n X dX2_init_109 rfl 0 rfl ?_
  have hq := hS22 22 (by decide)
  refine g_new X 22 nw_X2_40 rfl (by decide) (by simp [q_st]) hq.1 (fun o9 _ k9 => hq.2 o9 k9) (by simp) (by simp) (Nat.le_of_ble_eq_true rfl) (Nat.le_of_ble_eq_true rfl) dX2_init_110 ?_
  have hS23 := (hS22.sub (S' := [62, 64]) (by decide)).up (a := 22) (t := 11) (by decide) (by decide)
  refine g_dup X dX2_init_113 rfl ?_
  refine g_callI (rv := none) (As := []) (rest := [.ref 22, .ref 2]) X (by decide) (c_Hang l K _ _ _ _ 22 62 64 rfl rfl (by decide) (by simp [va_up, hT]) (hS23 62 (by decide)) (hS23 64 (by decide)) (by simp [q_st]) (by simp [q_st])) lki_X2_42 rfl rfl (Nat.le_of_ble_eq_true rfl) ⟨Nat.le_of_ble_eq_true rfl, Nat.le_of_ble_eq_true rfl⟩ ⟨Nat.le_of_ble_eq_true rfl, Nat.le_of_ble_eq_true rfl⟩ dX2_init_114 (fun _ => ⟨rfl, by simp [q_ok, va_up, hT], by simp [q_ok, va_up, hT]⟩) ?_
  have hS24 := (((((hS23.sub (S' := []) (by decide)).up (a := 62) (t := 1) (by decide) (by decide)).p2 (a := 22) (k := 0) (v := 62) (by decide)).up (a := 64) (t := 1) (by decide) (by decide)).p2 (a := 22) (k := 1) (v := 64) (by decide))
  refine g_putrF X fa_X2_47 hN (by decide +kernel) (by decide +kernel) (fun ad ty h => q_objfit (te := "GalleryWalls$Hanging") (by decide +kernel) _ ad ty h) (by simp [va_up, hT]) dX2_init_117 ?_
  have hS25 := hS24.p2 (a := 2) (k := 9) (v := 22) (by decide)
  refine g_widen (kc' := 14) (kn' := 597) (by decide) (by decide) ?_
  exact g_vret X rfl rfl rfl dX2_init_120
def wX9_initT (T : Nat → Nat) : Nat → Nat := (va_up (va_up (va_up (wX8_initT (va_up (va_up T 27 23) 28 18)) 29 1) 30 14) 80 1)
def wX9_initL (L : Nat → Nat) : Nat → Nat := (va_up (va_up (va_up (wX8_initL (va_up (va_up L 27 0) 28 0)) 29 12) 30 0) 80 60)
def wX9_initP (P : Nat → Nat → Nat) : Nat → Nat → Nat := (q_p2 (q_p2 (q_p2 (va_up (va_up (q_p2 (va_up (q_p2 (wX8_initP (va_up (q_p2 (q_p2 (va_up P 27 (fun _ => 0)) 27 1 940) 3 1 27) 28 (fun _ => 0))) 3 2 28) 29 (fun _ => 0)) 3 3 29) 30 (fun _ => 0)) 80 (fun _ => 0)) 30 0 80) 3 4 30) 3 0 2)
def wX9_initM (M : q_MM) : q_MM := (va_up (va_up (va_up (wX8_initM (va_up (q_u2 (va_up M 27 (fun _ => 0)) 27 0 0) 28 (fun _ => 0))) 29 (fun _ => 0)) 30 (fun _ => 0)) 80 (fun _ => 0))
theorem n_X9_init {S : List Nat} {T : Nat → Nat} {P : Nat → Nat → Nat} (h : q_nos S T P) (hd : ∀ a ∈ [0, 2, 27, 28, 29, 30, 31, 32, 80, 81, 82, 940], a ∉ S) : q_nos S (wX9_initT T) (wX9_initP P) := (q_nos.p2 (q_nos.p2 (q_nos.p2 (q_nos.up (q_nos.up (q_nos.p2 (q_nos.up (q_nos.p2 (n_X8_init (q_nos.up (q_nos.p2 (q_nos.p2 (q_nos.up h (hd 27 (by decide)) (hd 0 (by decide))) (hd 940 (by decide))) (hd 27 (by decide))) (hd 28 (by decide)) (hd 0 (by decide))) (fun a h => hd a (by revert a; decide))) (hd 28 (by decide))) (hd 29 (by decide)) (hd 0 (by decide))) (hd 29 (by decide))) (hd 30 (by decide)) (hd 0 (by decide))) (hd 80 (by decide)) (hd 0 (by decide))) (hd 80 (by decide))) (hd 30 (by decide))) (hd 2 (by decide)))
set_option maxHeartbeats 8000000 in
set_option maxRecDepth 100000 in
theorem c_X9_init (l : Launch) (K : q_KK) (T : Nat → Nat) (L : Nat → Nat) (P : Nat → Nat → Nat) (M : q_MM) (hT : T 3 = 19) (h2 : T 2 = 12) (hS0 : q_nos [27, 28, 31, 81, 32, 82, 29, 30, 80] T P) : Mt l yX9_init cX9_init 2 none 4 110 9 207 true K [.ref 3, .ref 2] (T, L, P, M) none (wX9_initT T, wX9_initL L, wX9_initP P, wX9_initM M) := by
  refine Mt.of (ρ := Unit) (F := some ()) (fun _ => none) (fun _ => (wX9_initT T, wX9_initL L, wX9_initP P, wX9_initM M)) (by decide) (Nat.le_of_ble_eq_true rfl) ?_ () rfl
  intro p e s m args below meth c0 A ad X hN
  refine g_sub (lv' := [(0, .ref 3), (1, .ref 2)]) [0, 1] rfl ?_
  refine g_aload_n X dX9_init_0 rfl 0 rfl ?_
  refine g_objinit X (by decide) lko_X9_3 (Nat.le_of_ble_eq_true rfl) (Nat.le_of_ble_eq_true rfl) dX9_init_1 ?_
  refine g_aload_n X dX9_init_4 rfl 0 rfl ?_
  have hq := hS0 27 (by decide)
  refine g_new X 27 nw_X9_9 rfl (by decide) (by simp [q_st]) hq.1 (fun o9 _ k9 => hq.2 o9 k9) (by simp) (by simp) (Nat.le_of_ble_eq_true rfl) (Nat.le_of_ble_eq_true rfl) dX9_init_5 ?_
  have hS1 := (hS0.sub (S' := [28, 31, 81, 32, 82, 29, 30, 80]) (by decide)).up (a := 27) (t := 23) (by decide) (by decide)
  refine g_dup X dX9_init_8 rfl ?_
  refine g_callI (rv := none) (As := []) (rest := [.ref 27, .ref 3]) X (by decide) (c_list_init l K _ _ _ _ 27 (by decide) (by simp [va_up, hT])) lki_X9_11 rfl rfl (Nat.le_of_ble_eq_true rfl) ⟨Nat.le_of_ble_eq_true rfl, Nat.le_of_ble_eq_true rfl⟩ ⟨Nat.le_of_ble_eq_true rfl, Nat.le_of_ble_eq_true rfl⟩ dX9_init_9 (fun h => by cases h) ?_
  have hS2 := hS1.p2 (a := 27) (k := 1) (v := 940) (by decide)
  refine g_putrF X fa_X9_12 hN (by decide +kernel) (by decide +kernel) (fun ad ty h => q_objfit (te := "java/util/ArrayList") (by decide +kernel) _ ad ty h) (by simp [va_up, hT]) dX9_init_12 ?_
  have hS3 := hS2.p2 (a := 3) (k := 1) (v := 27) (by decide)
  refine g_aload_n X dX9_init_15 rfl 0 rfl ?_
  have hq := hS3 28 (by decide)
  refine g_new X 28 nw_X9_18 rfl (by decide) (by simp [q_st]) hq.1 (fun o9 _ k9 => hq.2 o9 k9) (by simp) (by simp) (Nat.le_of_ble_eq_true rfl) (Nat.le_of_ble_eq_true rfl) dX9_init_16 ?_
  have hS4 := (hS3.sub (S' := [31, 81, 32, 82, 29, 30, 80]) (by decide)).up (a := 28) (t := 18) (by decide) (by decide)
  refine g_dup X dX9_init_19 rfl ?_
  refine g_callIN (As := []) (rest := [.ref 28, .ref 3]) X (by decide) (c_X8_init l K _ _ _ _ (by simp [va_up, hT]) (hS4.sub (by decide))) lkn_X9_20 rfl rfl (Nat.le_of_ble_eq_true rfl) ⟨Nat.le_of_ble_eq_true rfl, Nat.le_of_ble_eq_true rfl⟩ ⟨Nat.le_of_ble_eq_true rfl, Nat.le_of_ble_eq_true rfl⟩ dX9_init_20 (fun _ => ⟨rfl, by simp [q_ok, va_up, hT, wX8_initT, h2], by simp [q_ok, va_up, hT, wX8_initT, h2]⟩) ?_
  have hS5 := n_X8_init (hS4.sub (S' := [29, 30, 80]) (by decide)) (by decide)
  refine g_putrF X fa_X9_21 hN (by decide +kernel) (by decide +kernel) (fun ad ty h => q_objfit (te := "GalleryWalls$TermReader") (by decide +kernel) _ ad ty h) (by simp [va_up, hT, wX8_initT]) dX9_init_23 ?_
  have hS6 := hS5.p2 (a := 3) (k := 2) (v := 28) (by decide)
  refine g_aload_n X dX9_init_26 rfl 0 rfl ?_
  refine g_ldcs (i := 0) (o := 900) X (tx := "rwplnsbkftya") (by decide +kernel) rfl dX9_init_27 ?_
  refine g_callX (rv := some (.int 12)) (As := []) (rest := [.ref 3]) X (by decide) (c_J0_length_8abf5 l K _ _ _ _ 900 12 s_len12) lk_X9_27 rfl rfl (Nat.le_of_ble_eq_true rfl) ⟨Nat.le_of_ble_eq_true rfl, Nat.le_of_ble_eq_true rfl⟩ ⟨Nat.le_of_ble_eq_true rfl, Nat.le_of_ble_eq_true rfl⟩ dX9_init_29 ?_
  have hq := hS6 29 (by decide)
  refine g_newi (n := 12) X 29 wa_int rfl (by decide) (by simp [q_st]) hq.1 (fun o9 _ k9 => hq.2 o9 k9) (by simp) (by simp) (by decide) (by decide) (Nat.le_of_ble_eq_true rfl) (Nat.le_of_ble_eq_true rfl) dX9_init_32 ?_
  have hS7 := (hS6.sub (S' := [30, 80]) (by decide)).up (a := 29) (t := 1) (by decide) (by decide)
  refine g_putrF X fa_X9_33 hN (by decide +kernel) (by decide +kernel) (fun ad ty h => q_arrfit (te := .int) (by decide +kernel) _ ad ty h) (by simp [va_up, hT, wX8_initT]) dX9_init_34 ?_
  have hS8 := hS7.p2 (a := 3) (k := 3) (v := 29) (by decide)
  refine g_aload_n X dX9_init_37 rfl 0 rfl ?_
  have hq := hS8 30 (by decide)
  refine g_new X 30 nw_X9_37 rfl (by decide) (by simp [q_st]) hq.1 (fun o9 _ k9 => hq.2 o9 k9) (by simp) (by simp) (Nat.le_of_ble_eq_true rfl) (Nat.le_of_ble_eq_true rfl) dX9_init_38 ?_
  have hS9 := (hS8.sub (S' := [80]) (by decide)).up (a := 30) (t := 14) (by decide) (by decide)
  refine g_dup X dX9_init_41 rfl ?_
  refine g_bipush (v := 60) X dX9_init_42 (by decide) ?_
  refine g_callI (rv := none) (As := [.int 60]) (rest := [.ref 30, .ref 3]) X (by decide) (c_Num l K _ _ _ _ 30 80 60 60 rfl rfl (by decide) (by simp [va_up, hT, wX8_initT]) (hS9 80 (by decide)) (by simp [q_st]) (by decide) (by decide)) lki_X9_39 rfl rfl (Nat.le_of_ble_eq_true rfl) ⟨Nat.le_of_ble_eq_true rfl, Nat.le_of_ble_eq_true rfl⟩ ⟨Nat.le_of_ble_eq_true rfl, Nat.le_of_ble_eq_true rfl⟩ dX9_init_44 (fun _ => ⟨rfl, by simp [q_ok, va_up, hT, wX8_initT, h2], by simp [q_ok, va_up, hT, wX8_initT, h2]⟩) ?_
  have hS10 := ((hS9.sub (S' := []) (by decide)).up (a := 80) (t := 1) (by decide) (by decide)).p2 (a := 30) (k := 0) (v := 80) (by decide)
  refine g_putrF X fa_X9_42 hN (by decide +kernel) (by decide +kernel) (fun ad ty h => q_objfit (te := "GalleryWalls$Numbers") (by decide +kernel) _ ad ty h) (by simp [va_up, hT, wX8_initT]) dX9_init_47 ?_
  have hS11 := hS10.p2 (a := 3) (k := 4) (v := 30) (by decide)
  refine g_aload_n X dX9_init_50 rfl 0 rfl ?_
  refine g_aload_n X dX9_init_51 rfl 1 rfl ?_
  refine g_putrF X fa_X9_46 hN (by decide +kernel) (by decide +kernel) (fun ad ty h => q_objfit (te := "GalleryWalls$House") (by decide +kernel) _ ad ty h) (by simp [va_up, hT, wX8_initT]) dX9_init_52 ?_
  have hS12 := hS11.p2 (a := 3) (k := 0) (v := 2) (by decide)
  refine g_widen (kc' := 9) (kn' := 207) (by decide) (by decide) ?_
  exact g_vret X rfl rfl rfl dX9_init_55
def wX6_initT (T : Nat → Nat) : Nat → Nat := (va_up (va_up (va_up (va_up (va_up (va_up (va_up (va_up (va_up T 33 14) 83 1) 34 1) 35 1) 36 1) 37 14) 87 1) 38 14) 88 1)
def wX6_initL (L : Nat → Nat) : Nat → Nat := (va_up (va_up (va_up (va_up (va_up (va_up (va_up (va_up (va_up L 33 0) 83 7) 34 7) 35 49) 36 896) 37 0) 87 7) 38 0) 88 7)
def wX6_initP (P : Nat → Nat → Nat) : Nat → Nat → Nat := (q_p2 (q_p2 (q_p2 (va_up (va_up (q_p2 (q_p2 (va_up (va_up (q_p2 (va_up (q_p2 (va_up (q_p2 (va_up (q_p2 (q_p2 (va_up (va_up P 33 (fun _ => 0)) 83 (fun _ => 0)) 33 0 83) 4 1 33) 34 (fun _ => 0)) 4 2 34) 35 (fun _ => 0)) 4 3 35) 36 (fun _ => 0)) 4 4 36) 37 (fun _ => 0)) 87 (fun _ => 0)) 37 0 87) 4 5 37) 38 (fun _ => 0)) 88 (fun _ => 0)) 38 0 88) 4 6 38) 4 0 2)
def wX6_initM (M : q_MM) : q_MM := (q_u2 (va_up (va_up (va_up (va_up (va_up (va_up (va_up (va_up (va_up M 33 (fun _ => 0)) 83 (fun _ => 0)) 34 (fun _ => 0)) 35 (fun _ => 0)) 36 (fun _ => 0)) 37 (fun _ => 0)) 87 (fun _ => 0)) 38 (fun _ => 0)) 88 (fun _ => 0)) 4 7 (-1))
theorem n_X6_init {S : List Nat} {T : Nat → Nat} {P : Nat → Nat → Nat} (h : q_nos S T P) (hd : ∀ a ∈ [0, 2, 33, 34, 35, 36, 37, 38, 83, 87, 88], a ∉ S) : q_nos S (wX6_initT T) (wX6_initP P) := (q_nos.p2 (q_nos.p2 (q_nos.p2 (q_nos.up (q_nos.up (q_nos.p2 (q_nos.p2 (q_nos.up (q_nos.up (q_nos.p2 (q_nos.up (q_nos.p2 (q_nos.up (q_nos.p2 (q_nos.up (q_nos.p2 (q_nos.p2 (q_nos.up (q_nos.up h (hd 33 (by decide)) (hd 0 (by decide))) (hd 83 (by decide)) (hd 0 (by decide))) (hd 83 (by decide))) (hd 33 (by decide))) (hd 34 (by decide)) (hd 0 (by decide))) (hd 34 (by decide))) (hd 35 (by decide)) (hd 0 (by decide))) (hd 35 (by decide))) (hd 36 (by decide)) (hd 0 (by decide))) (hd 36 (by decide))) (hd 37 (by decide)) (hd 0 (by decide))) (hd 87 (by decide)) (hd 0 (by decide))) (hd 87 (by decide))) (hd 37 (by decide))) (hd 38 (by decide)) (hd 0 (by decide))) (hd 88 (by decide)) (hd 0 (by decide))) (hd 88 (by decide))) (hd 38 (by decide))) (hd 2 (by decide)))
set_option maxHeartbeats 8000000 in
set_option maxRecDepth 100000 in
theorem c_X6_init (l : Launch) (K : q_KK) (T : Nat → Nat) (L : Nat → Nat) (P : Nat → Nat → Nat) (M : q_MM) (hT : T 4 = 16) (h2 : T 2 = 12) (hS0 : q_nos [33, 83, 34, 35, 36, 37, 87, 38, 88] T P) : Mt l yX6_init cX6_init 2 none 2 41 9 979 true K [.ref 4, .ref 2] (T, L, P, M) none (wX6_initT T, wX6_initL L, wX6_initP P, wX6_initM M) := by
  refine Mt.of (ρ := Unit) (F := some ()) (fun _ => none) (fun _ => (wX6_initT T, wX6_initL L, wX6_initP P, wX6_initM M)) (by decide) (Nat.le_of_ble_eq_true rfl) ?_ () rfl
  intro p e s m args below meth c0 A ad X hN
  refine g_sub (lv' := [(0, .ref 4), (1, .ref 2)]) [0, 1] rfl ?_
  refine g_aload_n X dX6_init_0 rfl 0 rfl ?_
  refine g_objinit X (by decide) lko_X6_3 (Nat.le_of_ble_eq_true rfl) (Nat.le_of_ble_eq_true rfl) dX6_init_1 ?_
  refine g_aload_n X dX6_init_4 rfl 0 rfl ?_
  have hq := hS0 33 (by decide)
  refine g_new X 33 nw_X6_9 rfl (by decide) (by simp [q_st]) hq.1 (fun o9 _ k9 => hq.2 o9 k9) (by simp) (by simp) (Nat.le_of_ble_eq_true rfl) (Nat.le_of_ble_eq_true rfl) dX6_init_5 ?_
  have hS1 := (hS0.sub (S' := [83, 34, 35, 36, 37, 87, 38, 88]) (by decide)).up (a := 33) (t := 14) (by decide) (by decide)
  refine g_dup X dX6_init_8 rfl ?_
  refine g_bipush (v := 7) X dX6_init_9 (by decide) ?_
  refine g_callI (rv := none) (As := [.int 7]) (rest := [.ref 33, .ref 4]) X (by decide) (c_Num l K _ _ _ _ 33 83 7 7 rfl rfl (by decide) (by simp [va_up, hT]) (hS1 83 (by decide)) (by simp [q_st]) (by decide) (by decide)) lki_X6_11 rfl rfl (Nat.le_of_ble_eq_true rfl) ⟨Nat.le_of_ble_eq_true rfl, Nat.le_of_ble_eq_true rfl⟩ ⟨Nat.le_of_ble_eq_true rfl, Nat.le_of_ble_eq_true rfl⟩ dX6_init_11 (fun _ => ⟨rfl, by simp [q_ok, va_up, hT, h2], by simp [q_ok, va_up, hT, h2]⟩) ?_
  have hS2 := ((hS1.sub (S' := [34, 35, 36, 37, 87, 38, 88]) (by decide)).up (a := 83) (t := 1) (by decide) (by decide)).p2 (a := 33) (k := 0) (v := 83) (by decide)
  refine g_putrF X fa_X6_14 hN (by decide +kernel) (by decide +kernel) (fun ad ty h => q_objfit (te := "GalleryWalls$Numbers") (by decide +kernel) _ ad ty h) (by simp [va_up, hT]) dX6_init_14 ?_
  have hS3 := hS2.p2 (a := 4) (k := 1) (v := 33) (by decide)
  refine g_aload_n X dX6_init_17 rfl 0 rfl ?_
  refine g_bipush (v := 7) X dX6_init_18 (by decide) ?_
  have hq := hS3 34 (by decide)
  refine g_newi (n := 7) X 34 wa_int rfl (by decide) (by simp [q_st]) hq.1 (fun o9 _ k9 => hq.2 o9 k9) (by simp) (by simp) (by decide) (by decide) (Nat.le_of_ble_eq_true rfl) (Nat.le_of_ble_eq_true rfl) dX6_init_20 ?_
  have hS4 := (hS3.sub (S' := [35, 36, 37, 87, 38, 88]) (by decide)).up (a := 34) (t := 1) (by decide) (by decide)
  refine g_putrF X fa_X6_20 hN (by decide +kernel) (by decide +kernel) (fun ad ty h => q_arrfit (te := .int) (by decide +kernel) _ ad ty h) (by simp [va_up, hT]) dX6_init_22 ?_
  have hS5 := hS4.p2 (a := 4) (k := 2) (v := 34) (by decide)
  refine g_aload_n X dX6_init_25 rfl 0 rfl ?_
  refine g_bipush (v := 49) X dX6_init_26 (by decide) ?_
  have hq := hS5 35 (by decide)
  refine g_newi (n := 49) X 35 wa_int rfl (by decide) (by simp [q_st]) hq.1 (fun o9 _ k9 => hq.2 o9 k9) (by simp) (by simp) (by decide) (by decide) (Nat.le_of_ble_eq_true rfl) (Nat.le_of_ble_eq_true rfl) dX6_init_28 ?_
  have hS6 := (hS5.sub (S' := [36, 37, 87, 38, 88]) (by decide)).up (a := 35) (t := 1) (by decide) (by decide)
  refine g_putrF X fa_X6_24 hN (by decide +kernel) (by decide +kernel) (fun ad ty h => q_arrfit (te := .int) (by decide +kernel) _ ad ty h) (by simp [va_up, hT]) dX6_init_30 ?_
  have hS7 := hS6.p2 (a := 4) (k := 3) (v := 35) (by decide)
  refine g_aload_n X dX6_init_33 rfl 0 rfl ?_
  refine g_sipush (v := 896) X dX6_init_34 (by decide) ?_
  have hq := hS7 36 (by decide)
  refine g_newi (n := 896) X 36 wa_int rfl (by decide) (by simp [q_st]) hq.1 (fun o9 _ k9 => hq.2 o9 k9) (by simp) (by simp) (by decide) (by decide) (Nat.le_of_ble_eq_true rfl) (Nat.le_of_ble_eq_true rfl) dX6_init_37 ?_
  have hS8 := (hS7.sub (S' := [37, 87, 38, 88]) (by decide)).up (a := 36) (t := 1) (by decide) (by decide)
  refine g_putrF X fa_X6_27 hN (by decide +kernel) (by decide +kernel) (fun ad ty h => q_arrfit (te := .int) (by decide +kernel) _ ad ty h) (by simp [va_up, hT]) dX6_init_39 ?_
  have hS9 := hS8.p2 (a := 4) (k := 4) (v := 36) (by decide)
  refine g_aload_n X dX6_init_42 rfl 0 rfl ?_
  have hq := hS9 37 (by decide)
  refine g_new X 37 nw_X6_9 rfl (by decide) (by simp [q_st]) hq.1 (fun o9 _ k9 => hq.2 o9 k9) (by simp) (by simp) (Nat.le_of_ble_eq_true rfl) (Nat.le_of_ble_eq_true rfl) dX6_init_43 ?_
  have hS10 := (hS9.sub (S' := [87, 38, 88]) (by decide)).up (a := 37) (t := 14) (by decide) (by decide)
  refine g_dup X dX6_init_46 rfl ?_
  refine g_bipush (v := 7) X dX6_init_47 (by decide) ?_
  refine g_callI (rv := none) (As := [.int 7]) (rest := [.ref 37, .ref 4]) X (by decide) (c_Num l K _ _ _ _ 37 87 7 7 rfl rfl (by decide) (by simp [va_up, hT]) (hS10 87 (by decide)) (by simp [q_st]) (by decide) (by decide)) lki_X6_11 rfl rfl (Nat.le_of_ble_eq_true rfl) ⟨Nat.le_of_ble_eq_true rfl, Nat.le_of_ble_eq_true rfl⟩ ⟨Nat.le_of_ble_eq_true rfl, Nat.le_of_ble_eq_true rfl⟩ dX6_init_49 (fun _ => ⟨rfl, by simp [q_ok, va_up, hT, h2], by simp [q_ok, va_up, hT, h2]⟩) ?_
  have hS11 := ((hS10.sub (S' := [38, 88]) (by decide)).up (a := 87) (t := 1) (by decide) (by decide)).p2 (a := 37) (k := 0) (v := 87) (by decide)
  refine g_putrF X fa_X6_30 hN (by decide +kernel) (by decide +kernel) (fun ad ty h => q_objfit (te := "GalleryWalls$Numbers") (by decide +kernel) _ ad ty h) (by simp [va_up, hT]) dX6_init_52 ?_
  have hS12 := hS11.p2 (a := 4) (k := 5) (v := 37) (by decide)
  refine g_aload_n X dX6_init_55 rfl 0 rfl ?_
  have hq := hS12 38 (by decide)
  refine g_new X 38 nw_X6_9 rfl (by decide) (by simp [q_st]) hq.1 (fun o9 _ k9 => hq.2 o9 k9) (by simp) (by simp) (Nat.le_of_ble_eq_true rfl) (Nat.le_of_ble_eq_true rfl) dX6_init_56 ?_
  have hS13 := (hS12.sub (S' := [88]) (by decide)).up (a := 38) (t := 14) (by decide) (by decide)
  refine g_dup X dX6_init_59 rfl ?_
  refine g_bipush (v := 7) X dX6_init_60 (by decide) ?_
  refine g_callI (rv := none) (As := [.int 7]) (rest := [.ref 38, .ref 4]) X (by decide) (c_Num l K _ _ _ _ 38 88 7 7 rfl rfl (by decide) (by simp [va_up, hT]) (hS13 88 (by decide)) (by simp [q_st]) (by decide) (by decide)) lki_X6_11 rfl rfl (Nat.le_of_ble_eq_true rfl) ⟨Nat.le_of_ble_eq_true rfl, Nat.le_of_ble_eq_true rfl⟩ ⟨Nat.le_of_ble_eq_true rfl, Nat.le_of_ble_eq_true rfl⟩ dX6_init_62 (fun _ => ⟨rfl, by simp [q_ok, va_up, hT, h2], by simp [q_ok, va_up, hT, h2]⟩) ?_
  have hS14 := ((hS13.sub (S' := []) (by decide)).up (a := 88) (t := 1) (by decide) (by decide)).p2 (a := 38) (k := 0) (v := 88) (by decide)
  refine g_putrF X fa_X6_33 hN (by decide +kernel) (by decide +kernel) (fun ad ty h => q_objfit (te := "GalleryWalls$Numbers") (by decide +kernel) _ ad ty h) (by simp [va_up, hT]) dX6_init_65 ?_
  have hS15 := hS14.p2 (a := 4) (k := 6) (v := 38) (by decide)
  refine g_aload_n X dX6_init_68 rfl 0 rfl ?_
  refine g_iconst (v := (-1)) X dX6_init_69 (by decide) ?_
  refine g_puti X fa_X6_36 (by decide +kernel) (by simp [va_up, hT]) (fun ty _ h => by cases (show parseFieldDescriptor (q_dsc 6 7) = some .int by decide +kernel).symm.trans h; exact ⟨rfl, rfl⟩) dX6_init_70 ?_
  refine g_aload_n X dX6_init_73 rfl 0 rfl ?_
  refine g_aload_n X dX6_init_74 rfl 1 rfl ?_
  refine g_putrF X fa_X6_40 hN (by decide +kernel) (by decide +kernel) (fun ad ty h => q_objfit (te := "GalleryWalls$House") (by decide +kernel) _ ad ty h) (by simp [va_up, hT]) dX6_init_75 ?_
  have hS16 := hS15.p2 (a := 4) (k := 0) (v := 2) (by decide)
  refine g_widen (kc' := 9) (kn' := 979) (by decide) (by decide) ?_
  exact g_vret X rfl rfl rfl dX6_init_78
def wX3_initT (T : Nat → Nat) : Nat → Nat := (va_up (va_up (va_up (va_up (va_up (va_up (va_up (va_up (va_up (va_up T 39 14) 89 1) 40 14) 90 1) 41 14) 91 1) 42 1) 43 1) 44 1) 45 2)
def wX3_initL (L : Nat → Nat) : Nat → Nat := (va_up (va_up (va_up (va_up (va_up (va_up (va_up (va_up (va_up (va_up L 39 0) 89 8) 40 0) 90 8) 41 0) 91 8) 42 256) 43 256) 44 256) 45 256)
def wX3_initP (P : Nat → Nat → Nat) : Nat → Nat → Nat := (q_p2 (q_p2 (va_up (q_p2 (va_up (q_p2 (va_up (q_p2 (va_up (q_p2 (q_p2 (va_up (va_up (q_p2 (q_p2 (va_up (va_up (q_p2 (q_p2 (va_up (va_up P 39 (fun _ => 0)) 89 (fun _ => 0)) 39 0 89) 5 1 39) 40 (fun _ => 0)) 90 (fun _ => 0)) 40 0 90) 5 2 40) 41 (fun _ => 0)) 91 (fun _ => 0)) 41 0 91) 5 3 41) 42 (fun _ => 0)) 5 4 42) 43 (fun _ => 0)) 5 5 43) 44 (fun _ => 0)) 5 6 44) 45 (fun _ => 0)) 5 7 45) 5 0 2)
def wX3_initM (M : q_MM) : q_MM := (va_up (va_up (va_up (va_up (va_up (va_up (va_up (va_up (va_up (va_up M 39 (fun _ => 0)) 89 (fun _ => 0)) 40 (fun _ => 0)) 90 (fun _ => 0)) 41 (fun _ => 0)) 91 (fun _ => 0)) 42 (fun _ => 0)) 43 (fun _ => 0)) 44 (fun _ => 0)) 45 (fun _ => 0))
theorem n_X3_init {S : List Nat} {T : Nat → Nat} {P : Nat → Nat → Nat} (h : q_nos S T P) (hd : ∀ a ∈ [0, 2, 39, 40, 41, 42, 43, 44, 45, 89, 90, 91], a ∉ S) : q_nos S (wX3_initT T) (wX3_initP P) := (q_nos.p2 (q_nos.p2 (q_nos.up (q_nos.p2 (q_nos.up (q_nos.p2 (q_nos.up (q_nos.p2 (q_nos.up (q_nos.p2 (q_nos.p2 (q_nos.up (q_nos.up (q_nos.p2 (q_nos.p2 (q_nos.up (q_nos.up (q_nos.p2 (q_nos.p2 (q_nos.up (q_nos.up h (hd 39 (by decide)) (hd 0 (by decide))) (hd 89 (by decide)) (hd 0 (by decide))) (hd 89 (by decide))) (hd 39 (by decide))) (hd 40 (by decide)) (hd 0 (by decide))) (hd 90 (by decide)) (hd 0 (by decide))) (hd 90 (by decide))) (hd 40 (by decide))) (hd 41 (by decide)) (hd 0 (by decide))) (hd 91 (by decide)) (hd 0 (by decide))) (hd 91 (by decide))) (hd 41 (by decide))) (hd 42 (by decide)) (hd 0 (by decide))) (hd 42 (by decide))) (hd 43 (by decide)) (hd 0 (by decide))) (hd 43 (by decide))) (hd 44 (by decide)) (hd 0 (by decide))) (hd 44 (by decide))) (hd 45 (by decide)) (hd 0 (by decide))) (hd 45 (by decide))) (hd 2 (by decide)))
set_option maxHeartbeats 8000000 in
set_option maxRecDepth 100000 in
theorem c_X3_init (l : Launch) (K : q_KK) (T : Nat → Nat) (L : Nat → Nat) (P : Nat → Nat → Nat) (M : q_MM) (hT : T 5 = 13) (h2 : T 2 = 12) (hS0 : q_nos [39, 89, 40, 90, 41, 91, 42, 43, 44, 45] T P) : Mt l yX3_init cX3_init 2 none 2 41 10 1054 true K [.ref 5, .ref 2] (T, L, P, M) none (wX3_initT T, wX3_initL L, wX3_initP P, wX3_initM M) := by
  refine Mt.of (ρ := Unit) (F := some ()) (fun _ => none) (fun _ => (wX3_initT T, wX3_initL L, wX3_initP P, wX3_initM M)) (by decide) (Nat.le_of_ble_eq_true rfl) ?_ () rfl
  intro p e s m args below meth c0 A ad X hN
  refine g_sub (lv' := [(0, .ref 5), (1, .ref 2)]) [0, 1] rfl ?_
  refine g_aload_n X dX3_init_0 rfl 0 rfl ?_
  refine g_objinit X (by decide) lko_X3_3 (Nat.le_of_ble_eq_true rfl) (Nat.le_of_ble_eq_true rfl) dX3_init_1 ?_
  refine g_aload_n X dX3_init_4 rfl 0 rfl ?_
  have hq := hS0 39 (by decide)
  refine g_new X 39 nw_X3_9 rfl (by decide) (by simp [q_st]) hq.1 (fun o9 _ k9 => hq.2 o9 k9) (by simp) (by simp) (Nat.le_of_ble_eq_true rfl) (Nat.le_of_ble_eq_true rfl) dX3_init_5 ?_
  have hS1 := (hS0.sub (S' := [89, 40, 90, 41, 91, 42, 43, 44, 45]) (by decide)).up (a := 39) (t := 14) (by decide) (by decide)
  refine g_dup X dX3_init_8 rfl ?_
  refine g_bipush (v := 8) X dX3_init_9 (by decide) ?_
  refine g_callI (rv := none) (As := [.int 8]) (rest := [.ref 39, .ref 5]) X (by decide) (c_Num l K _ _ _ _ 39 89 8 8 rfl rfl (by decide) (by simp [va_up, hT]) (hS1 89 (by decide)) (by simp [q_st]) (by decide) (by decide)) lki_X3_11 rfl rfl (Nat.le_of_ble_eq_true rfl) ⟨Nat.le_of_ble_eq_true rfl, Nat.le_of_ble_eq_true rfl⟩ ⟨Nat.le_of_ble_eq_true rfl, Nat.le_of_ble_eq_true rfl⟩ dX3_init_11 (fun _ => ⟨rfl, by simp [q_ok, va_up, hT, h2], by simp [q_ok, va_up, hT, h2]⟩) ?_
  have hS2 := ((hS1.sub (S' := [40, 90, 41, 91, 42, 43, 44, 45]) (by decide)).up (a := 89) (t := 1) (by decide) (by decide)).p2 (a := 39) (k := 0) (v := 89) (by decide)
  refine g_putrF X fa_X3_14 hN (by decide +kernel) (by decide +kernel) (fun ad ty h => q_objfit (te := "GalleryWalls$Numbers") (by decide +kernel) _ ad ty h) (by simp [va_up, hT]) dX3_init_14 ?_
  have hS3 := hS2.p2 (a := 5) (k := 1) (v := 39) (by decide)
  refine g_aload_n X dX3_init_17 rfl 0 rfl ?_
  have hq := hS3 40 (by decide)
  refine g_new X 40 nw_X3_9 rfl (by decide) (by simp [q_st]) hq.1 (fun o9 _ k9 => hq.2 o9 k9) (by simp) (by simp) (Nat.le_of_ble_eq_true rfl) (Nat.le_of_ble_eq_true rfl) dX3_init_18 ?_
  have hS4 := (hS3.sub (S' := [90, 41, 91, 42, 43, 44, 45]) (by decide)).up (a := 40) (t := 14) (by decide) (by decide)
  refine g_dup X dX3_init_21 rfl ?_
  refine g_bipush (v := 8) X dX3_init_22 (by decide) ?_
  refine g_callI (rv := none) (As := [.int 8]) (rest := [.ref 40, .ref 5]) X (by decide) (c_Num l K _ _ _ _ 40 90 8 8 rfl rfl (by decide) (by simp [va_up, hT]) (hS4 90 (by decide)) (by simp [q_st]) (by decide) (by decide)) lki_X3_11 rfl rfl (Nat.le_of_ble_eq_true rfl) ⟨Nat.le_of_ble_eq_true rfl, Nat.le_of_ble_eq_true rfl⟩ ⟨Nat.le_of_ble_eq_true rfl, Nat.le_of_ble_eq_true rfl⟩ dX3_init_24 (fun _ => ⟨rfl, by simp [q_ok, va_up, hT, h2], by simp [q_ok, va_up, hT, h2]⟩) ?_
  have hS5 := ((hS4.sub (S' := [41, 91, 42, 43, 44, 45]) (by decide)).up (a := 90) (t := 1) (by decide) (by decide)).p2 (a := 40) (k := 0) (v := 90) (by decide)
  refine g_putrF X fa_X3_20 hN (by decide +kernel) (by decide +kernel) (fun ad ty h => q_objfit (te := "GalleryWalls$Numbers") (by decide +kernel) _ ad ty h) (by simp [va_up, hT]) dX3_init_27 ?_
  have hS6 := hS5.p2 (a := 5) (k := 2) (v := 40) (by decide)
  refine g_aload_n X dX3_init_30 rfl 0 rfl ?_
  have hq := hS6 41 (by decide)
  refine g_new X 41 nw_X3_9 rfl (by decide) (by simp [q_st]) hq.1 (fun o9 _ k9 => hq.2 o9 k9) (by simp) (by simp) (Nat.le_of_ble_eq_true rfl) (Nat.le_of_ble_eq_true rfl) dX3_init_31 ?_
  have hS7 := (hS6.sub (S' := [91, 42, 43, 44, 45]) (by decide)).up (a := 41) (t := 14) (by decide) (by decide)
  refine g_dup X dX3_init_34 rfl ?_
  refine g_bipush (v := 8) X dX3_init_35 (by decide) ?_
  refine g_callI (rv := none) (As := [.int 8]) (rest := [.ref 41, .ref 5]) X (by decide) (c_Num l K _ _ _ _ 41 91 8 8 rfl rfl (by decide) (by simp [va_up, hT]) (hS7 91 (by decide)) (by simp [q_st]) (by decide) (by decide)) lki_X3_11 rfl rfl (Nat.le_of_ble_eq_true rfl) ⟨Nat.le_of_ble_eq_true rfl, Nat.le_of_ble_eq_true rfl⟩ ⟨Nat.le_of_ble_eq_true rfl, Nat.le_of_ble_eq_true rfl⟩ dX3_init_37 (fun _ => ⟨rfl, by simp [q_ok, va_up, hT, h2], by simp [q_ok, va_up, hT, h2]⟩) ?_
  have hS8 := ((hS7.sub (S' := [42, 43, 44, 45]) (by decide)).up (a := 91) (t := 1) (by decide) (by decide)).p2 (a := 41) (k := 0) (v := 91) (by decide)
  refine g_putrF X fa_X3_23 hN (by decide +kernel) (by decide +kernel) (fun ad ty h => q_objfit (te := "GalleryWalls$Numbers") (by decide +kernel) _ ad ty h) (by simp [va_up, hT]) dX3_init_40 ?_
  have hS9 := hS8.p2 (a := 5) (k := 3) (v := 41) (by decide)
  refine g_aload_n X dX3_init_43 rfl 0 rfl ?_
  refine g_sipush (v := 256) X dX3_init_44 (by decide) ?_
  have hq := hS9 42 (by decide)
  refine g_newi (n := 256) X 42 wa_int rfl (by decide) (by simp [q_st]) hq.1 (fun o9 _ k9 => hq.2 o9 k9) (by simp) (by simp) (by decide) (by decide) (Nat.le_of_ble_eq_true rfl) (Nat.le_of_ble_eq_true rfl) dX3_init_47 ?_
  have hS10 := (hS9.sub (S' := [43, 44, 45]) (by decide)).up (a := 42) (t := 1) (by decide) (by decide)
  refine g_putrF X fa_X3_26 hN (by decide +kernel) (by decide +kernel) (fun ad ty h => q_arrfit (te := .int) (by decide +kernel) _ ad ty h) (by simp [va_up, hT]) dX3_init_49 ?_
  have hS11 := hS10.p2 (a := 5) (k := 4) (v := 42) (by decide)
  refine g_aload_n X dX3_init_52 rfl 0 rfl ?_
  refine g_sipush (v := 256) X dX3_init_53 (by decide) ?_
  have hq := hS11 43 (by decide)
  refine g_newi (n := 256) X 43 wa_int rfl (by decide) (by simp [q_st]) hq.1 (fun o9 _ k9 => hq.2 o9 k9) (by simp) (by simp) (by decide) (by decide) (Nat.le_of_ble_eq_true rfl) (Nat.le_of_ble_eq_true rfl) dX3_init_56 ?_
  have hS12 := (hS11.sub (S' := [44, 45]) (by decide)).up (a := 43) (t := 1) (by decide) (by decide)
  refine g_putrF X fa_X3_30 hN (by decide +kernel) (by decide +kernel) (fun ad ty h => q_arrfit (te := .int) (by decide +kernel) _ ad ty h) (by simp [va_up, hT]) dX3_init_58 ?_
  have hS13 := hS12.p2 (a := 5) (k := 5) (v := 43) (by decide)
  refine g_aload_n X dX3_init_61 rfl 0 rfl ?_
  refine g_sipush (v := 256) X dX3_init_62 (by decide) ?_
  have hq := hS13 44 (by decide)
  refine g_newi (n := 256) X 44 wa_int rfl (by decide) (by simp [q_st]) hq.1 (fun o9 _ k9 => hq.2 o9 k9) (by simp) (by simp) (by decide) (by decide) (Nat.le_of_ble_eq_true rfl) (Nat.le_of_ble_eq_true rfl) dX3_init_65 ?_
  have hS14 := (hS13.sub (S' := [45]) (by decide)).up (a := 44) (t := 1) (by decide) (by decide)
  refine g_putrF X fa_X3_33 hN (by decide +kernel) (by decide +kernel) (fun ad ty h => q_arrfit (te := .int) (by decide +kernel) _ ad ty h) (by simp [va_up, hT]) dX3_init_67 ?_
  have hS15 := hS14.p2 (a := 5) (k := 6) (v := 44) (by decide)
  refine g_aload_n X dX3_init_70 rfl 0 rfl ?_
  refine g_sipush (v := 256) X dX3_init_71 (by decide) ?_
  have hq := hS15 45 (by decide)
  refine g_newz (n := 256) X 45 wa_bool rfl (by decide) (by simp [q_st]) hq.1 (fun o9 _ k9 => hq.2 o9 k9) (by simp) (by simp) (by decide) (by decide) (Nat.le_of_ble_eq_true rfl) (Nat.le_of_ble_eq_true rfl) dX3_init_74 ?_
  have hS16 := (hS15.sub (S' := []) (by decide)).up (a := 45) (t := 2) (by decide) (by decide)
  refine g_putrF X fa_X3_36 hN (by decide +kernel) (by decide +kernel) (fun ad ty h => q_arrfit (te := .boolean) (by decide +kernel) _ ad ty h) (by simp [va_up, hT]) dX3_init_76 ?_
  have hS17 := hS16.p2 (a := 5) (k := 7) (v := 45) (by decide)
  refine g_aload_n X dX3_init_79 rfl 0 rfl ?_
  refine g_aload_n X dX3_init_80 rfl 1 rfl ?_
  refine g_putrF X fa_X3_40 hN (by decide +kernel) (by decide +kernel) (fun ad ty h => q_objfit (te := "GalleryWalls$House") (by decide +kernel) _ ad ty h) (by simp [va_up, hT]) dX3_init_81 ?_
  have hS18 := hS17.p2 (a := 5) (k := 0) (v := 2) (by decide)
  refine g_widen (kc' := 10) (kn' := 1054) (by decide) (by decide) ?_
  exact g_vret X rfl rfl rfl dX3_init_84
